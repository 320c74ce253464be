theorem dX0_init_0 : decode cX0_init 0 = .ok (.aload_n 0, 1) := by decide +kernel
theorem dX0_init_1 : decode cX0_init 1 = .ok (.invokespecial 3, 3) := by decide +kernel
theorem dX0_init_4 : decode cX0_init 4 = .ok (.aload_n 0, 1) := by decide +kernel
theorem dX0_init_5 : decode cX0_init 5 = .ok (.iconst 0, 1) := by decide +kernel
theorem dX0_init_6 : decode cX0_init 6 = .ok (.putfield 9, 3) := by decide +kernel
theorem dX0_init_9 : decode cX0_init 9 = .ok (.aload_n 0, 1) := by decide +kernel
theorem dX0_init_10 : decode cX0_init 10 = .ok (.iconst 0, 1) := by decide +kernel
theorem dX0_init_11 : decode cX0_init 11 = .ok (.putfield 15, 3) := by decide +kernel
theorem dX0_init_14 : decode cX0_init 14 = .ok (.aload_n 0, 1) := by decide +kernel
theorem dX0_init_15 : decode cX0_init 15 = .ok (.iconst 1, 1) := by decide +kernel
theorem dX0_init_16 : decode cX0_init 16 = .ok (.putfield 18, 3) := by decide +kernel
theorem dX0_init_19 : decode cX0_init 19 = .ok (.aload_n 0, 1) := by decide +kernel
theorem dX0_init_20 : decode cX0_init 20 = .ok (.iconst 1, 1) := by decide +kernel
theorem dX0_init_21 : decode cX0_init 21 = .ok (.putfield 21, 3) := by decide +kernel
theorem dX0_init_24 : decode cX0_init 24 = .ok (.aload_n 0, 1) := by decide +kernel
theorem dX0_init_25 : decode cX0_init 25 = .ok (.iconst 0, 1) := by decide +kernel
theorem dX0_init_26 : decode cX0_init 26 = .ok (.putfield 24, 3) := by decide +kernel
theorem dX0_init_29 : decode cX0_init 29 = .ok (.aload_n 0, 1) := by decide +kernel
theorem dX0_init_30 : decode cX0_init 30 = .ok (.iconst 0, 1) := by decide +kernel
theorem dX0_init_31 : decode cX0_init 31 = .ok (.putfield 27, 3) := by decide +kernel
theorem dX0_init_34 : decode cX0_init 34 = .ok (.aload_n 0, 1) := by decide +kernel
theorem dX0_init_35 : decode cX0_init 35 = .ok (.iconst 0, 1) := by decide +kernel
theorem dX0_init_36 : decode cX0_init 36 = .ok (.putfield 30, 3) := by decide +kernel
theorem dX0_init_39 : decode cX0_init 39 = .ok (.return_, 1) := by decide +kernel
theorem dX0_mayBe_0 : decode cX0_mayBe 0 = .ok (.iload_n 0, 1) := by decide +kernel
theorem dX0_mayBe_1 : decode cX0_mayBe 1 = .ok (.tableswitch 77 1 3 #[27, 43, 60], 27) := by decide +kernel
theorem dX0_mayBe_28 : decode cX0_mayBe 28 = .ok (.iload_n 1, 1) := by decide +kernel
theorem dX0_mayBe_29 : decode cX0_mayBe 29 = .ok (.ifCond .lt 13, 3) := by decide +kernel
theorem dX0_mayBe_32 : decode cX0_mayBe 32 = .ok (.iload_n 1, 1) := by decide +kernel
theorem dX0_mayBe_33 : decode cX0_mayBe 33 = .ok (.bipush 10, 2) := by decide +kernel
theorem dX0_mayBe_35 : decode cX0_mayBe 35 = .ok (.if_icmp .ge 7, 3) := by decide +kernel
theorem dX0_mayBe_38 : decode cX0_mayBe 38 = .ok (.iconst 1, 1) := by decide +kernel
theorem dX0_mayBe_39 : decode cX0_mayBe 39 = .ok (.goto 4, 3) := by decide +kernel
theorem dX0_mayBe_42 : decode cX0_mayBe 42 = .ok (.iconst 0, 1) := by decide +kernel
theorem dX0_mayBe_43 : decode cX0_mayBe 43 = .ok (.ireturn, 1) := by decide +kernel
theorem dX0_mayBe_44 : decode cX0_mayBe 44 = .ok (.iload_n 1, 1) := by decide +kernel
theorem dX0_mayBe_45 : decode cX0_mayBe 45 = .ok (.iconst 1, 1) := by decide +kernel
theorem dX0_mayBe_46 : decode cX0_mayBe 46 = .ok (.if_icmp .lt 13, 3) := by decide +kernel
theorem dX0_mayBe_49 : decode cX0_mayBe 49 = .ok (.iload_n 1, 1) := by decide +kernel
theorem dX0_mayBe_50 : decode cX0_mayBe 50 = .ok (.bipush 99, 2) := by decide +kernel
theorem dX0_mayBe_52 : decode cX0_mayBe 52 = .ok (.if_icmp .gt 7, 3) := by decide +kernel
theorem dX0_mayBe_55 : decode cX0_mayBe 55 = .ok (.iconst 1, 1) := by decide +kernel
theorem dX0_mayBe_56 : decode cX0_mayBe 56 = .ok (.goto 4, 3) := by decide +kernel
theorem dX0_mayBe_59 : decode cX0_mayBe 59 = .ok (.iconst 0, 1) := by decide +kernel
theorem dX0_mayBe_60 : decode cX0_mayBe 60 = .ok (.ireturn, 1) := by decide +kernel
theorem dX0_mayBe_61 : decode cX0_mayBe 61 = .ok (.iload_n 1, 1) := by decide +kernel
theorem dX0_mayBe_62 : decode cX0_mayBe 62 = .ok (.iconst 1, 1) := by decide +kernel
theorem dX0_mayBe_63 : decode cX0_mayBe 63 = .ok (.if_icmp .lt 13, 3) := by decide +kernel
theorem dX0_mayBe_66 : decode cX0_mayBe 66 = .ok (.iload_n 1, 1) := by decide +kernel
theorem dX0_mayBe_67 : decode cX0_mayBe 67 = .ok (.bipush 20, 2) := by decide +kernel
theorem dX0_mayBe_69 : decode cX0_mayBe 69 = .ok (.if_icmp .gt 7, 3) := by decide +kernel
theorem dX0_mayBe_72 : decode cX0_mayBe 72 = .ok (.iconst 1, 1) := by decide +kernel
theorem dX0_mayBe_73 : decode cX0_mayBe 73 = .ok (.goto 4, 3) := by decide +kernel
theorem dX0_mayBe_76 : decode cX0_mayBe 76 = .ok (.iconst 0, 1) := by decide +kernel
theorem dX0_mayBe_77 : decode cX0_mayBe 77 = .ok (.ireturn, 1) := by decide +kernel
theorem dX0_mayBe_78 : decode cX0_mayBe 78 = .ok (.iconst 0, 1) := by decide +kernel
theorem dX0_mayBe_79 : decode cX0_mayBe 79 = .ok (.ireturn, 1) := by decide +kernel
theorem dX0_change_0 : decode cX0_change 0 = .ok (.iload_n 1, 1) := by decide +kernel
theorem dX0_change_1 : decode cX0_change 1 = .ok (.iconst 1, 1) := by decide +kernel
theorem dX0_change_2 : decode cX0_change 2 = .ok (.if_icmp .ne 11, 3) := by decide +kernel
theorem dX0_change_5 : decode cX0_change 5 = .ok (.aload_n 0, 1) := by decide +kernel
theorem dX0_change_6 : decode cX0_change 6 = .ok (.iload_n 2, 1) := by decide +kernel
theorem dX0_change_7 : decode cX0_change 7 = .ok (.putfield 15, 3) := by decide +kernel
theorem dX0_change_10 : decode cX0_change 10 = .ok (.goto 26, 3) := by decide +kernel
theorem dX0_change_13 : decode cX0_change 13 = .ok (.iload_n 1, 1) := by decide +kernel
theorem dX0_change_14 : decode cX0_change 14 = .ok (.iconst 2, 1) := by decide +kernel
theorem dX0_change_15 : decode cX0_change 15 = .ok (.if_icmp .ne 11, 3) := by decide +kernel
theorem dX0_change_18 : decode cX0_change 18 = .ok (.aload_n 0, 1) := by decide +kernel
theorem dX0_change_19 : decode cX0_change 19 = .ok (.iload_n 2, 1) := by decide +kernel
theorem dX0_change_20 : decode cX0_change 20 = .ok (.putfield 18, 3) := by decide +kernel
theorem dX0_change_23 : decode cX0_change 23 = .ok (.goto 13, 3) := by decide +kernel
theorem dX0_change_26 : decode cX0_change 26 = .ok (.iload_n 1, 1) := by decide +kernel
theorem dX0_change_27 : decode cX0_change 27 = .ok (.iconst 3, 1) := by decide +kernel
theorem dX0_change_28 : decode cX0_change 28 = .ok (.if_icmp .ne 8, 3) := by decide +kernel
theorem dX0_change_31 : decode cX0_change 31 = .ok (.aload_n 0, 1) := by decide +kernel
theorem dX0_change_32 : decode cX0_change 32 = .ok (.iload_n 2, 1) := by decide +kernel
theorem dX0_change_33 : decode cX0_change 33 = .ok (.putfield 21, 3) := by decide +kernel
theorem dX0_change_36 : decode cX0_change 36 = .ok (.return_, 1) := by decide +kernel
theorem dX0_become_0 : decode cX0_become 0 = .ok (.aload_n 0, 1) := by decide +kernel
theorem dX0_become_1 : decode cX0_become 1 = .ok (.aload_n 1, 1) := by decide +kernel
theorem dX0_become_2 : decode cX0_become 2 = .ok (.getfield 9, 3) := by decide +kernel
theorem dX0_become_5 : decode cX0_become 5 = .ok (.putfield 9, 3) := by decide +kernel
theorem dX0_become_8 : decode cX0_become 8 = .ok (.aload_n 0, 1) := by decide +kernel
theorem dX0_become_9 : decode cX0_become 9 = .ok (.aload_n 1, 1) := by decide +kernel
theorem dX0_become_10 : decode cX0_become 10 = .ok (.getfield 15, 3) := by decide +kernel
theorem dX0_become_13 : decode cX0_become 13 = .ok (.putfield 15, 3) := by decide +kernel
theorem dX0_become_16 : decode cX0_become 16 = .ok (.aload_n 0, 1) := by decide +kernel
theorem dX0_become_17 : decode cX0_become 17 = .ok (.aload_n 1, 1) := by decide +kernel
theorem dX0_become_18 : decode cX0_become 18 = .ok (.getfield 18, 3) := by decide +kernel
theorem dX0_become_21 : decode cX0_become 21 = .ok (.putfield 18, 3) := by decide +kernel
theorem dX0_become_24 : decode cX0_become 24 = .ok (.aload_n 0, 1) := by decide +kernel
theorem dX0_become_25 : decode cX0_become 25 = .ok (.aload_n 1, 1) := by decide +kernel
theorem dX0_become_26 : decode cX0_become 26 = .ok (.getfield 21, 3) := by decide +kernel
theorem dX0_become_29 : decode cX0_become 29 = .ok (.putfield 21, 3) := by decide +kernel
theorem dX0_become_32 : decode cX0_become 32 = .ok (.aload_n 0, 1) := by decide +kernel
theorem dX0_become_33 : decode cX0_become 33 = .ok (.aload_n 1, 1) := by decide +kernel
theorem dX0_become_34 : decode cX0_become 34 = .ok (.getfield 24, 3) := by decide +kernel
theorem dX0_become_37 : decode cX0_become 37 = .ok (.putfield 24, 3) := by decide +kernel
theorem dX0_become_40 : decode cX0_become 40 = .ok (.aload_n 0, 1) := by decide +kernel
theorem dX0_become_41 : decode cX0_become 41 = .ok (.aload_n 1, 1) := by decide +kernel
theorem dX0_become_42 : decode cX0_become 42 = .ok (.getfield 27, 3) := by decide +kernel
theorem dX0_become_45 : decode cX0_become 45 = .ok (.putfield 27, 3) := by decide +kernel
theorem dX0_become_48 : decode cX0_become 48 = .ok (.aload_n 0, 1) := by decide +kernel
theorem dX0_become_49 : decode cX0_become 49 = .ok (.aload_n 1, 1) := by decide +kernel
theorem dX0_become_50 : decode cX0_become 50 = .ok (.getfield 30, 3) := by decide +kernel
theorem dX0_become_53 : decode cX0_become 53 = .ok (.putfield 30, 3) := by decide +kernel
theorem dX0_become_56 : decode cX0_become 56 = .ok (.return_, 1) := by decide +kernel
theorem dX0_start_0 : decode cX0_start 0 = .ok (.aload_n 0, 1) := by decide +kernel
theorem dX0_start_1 : decode cX0_start 1 = .ok (.iload_n 1, 1) := by decide +kernel
theorem dX0_start_2 : decode cX0_start 2 = .ok (.putfield 9, 3) := by decide +kernel
theorem dX0_start_5 : decode cX0_start 5 = .ok (.aload_n 0, 1) := by decide +kernel
theorem dX0_start_6 : decode cX0_start 6 = .ok (.iload_n 2, 1) := by decide +kernel
theorem dX0_start_7 : decode cX0_start 7 = .ok (.putfield 15, 3) := by decide +kernel
theorem dX0_start_10 : decode cX0_start 10 = .ok (.aload_n 0, 1) := by decide +kernel
theorem dX0_start_11 : decode cX0_start 11 = .ok (.iload_n 3, 1) := by decide +kernel
theorem dX0_start_12 : decode cX0_start 12 = .ok (.putfield 18, 3) := by decide +kernel
theorem dX0_start_15 : decode cX0_start 15 = .ok (.aload_n 0, 1) := by decide +kernel
theorem dX0_start_16 : decode cX0_start 16 = .ok (.iload 4, 2) := by decide +kernel
theorem dX0_start_18 : decode cX0_start 18 = .ok (.putfield 21, 3) := by decide +kernel
theorem dX0_start_21 : decode cX0_start 21 = .ok (.aload_n 0, 1) := by decide +kernel
theorem dX0_start_22 : decode cX0_start 22 = .ok (.iconst 0, 1) := by decide +kernel
theorem dX0_start_23 : decode cX0_start 23 = .ok (.putfield 24, 3) := by decide +kernel
theorem dX0_start_26 : decode cX0_start 26 = .ok (.aload_n 0, 1) := by decide +kernel
theorem dX0_start_27 : decode cX0_start 27 = .ok (.iconst 0, 1) := by decide +kernel
theorem dX0_start_28 : decode cX0_start 28 = .ok (.putfield 27, 3) := by decide +kernel
theorem dX0_start_31 : decode cX0_start 31 = .ok (.aload_n 0, 1) := by decide +kernel
theorem dX0_start_32 : decode cX0_start 32 = .ok (.iconst 0, 1) := by decide +kernel
theorem dX0_start_33 : decode cX0_start 33 = .ok (.putfield 30, 3) := by decide +kernel
theorem dX0_start_36 : decode cX0_start 36 = .ok (.return_, 1) := by decide +kernel
theorem dX0_fact_0 : decode cX0_fact 0 = .ok (.iload_n 1, 1) := by decide +kernel
theorem dX0_fact_1 : decode cX0_fact 1 = .ok (.tableswitch 110 0 8 #[51, 56, 61, 66, 71, 76, 81, 86, 98], 51) := by decide +kernel
theorem dX0_fact_52 : decode cX0_fact 52 = .ok (.aload_n 0, 1) := by decide +kernel
theorem dX0_fact_53 : decode cX0_fact 53 = .ok (.getfield 9, 3) := by decide +kernel
theorem dX0_fact_56 : decode cX0_fact 56 = .ok (.ireturn, 1) := by decide +kernel
theorem dX0_fact_57 : decode cX0_fact 57 = .ok (.aload_n 0, 1) := by decide +kernel
theorem dX0_fact_58 : decode cX0_fact 58 = .ok (.getfield 15, 3) := by decide +kernel
theorem dX0_fact_61 : decode cX0_fact 61 = .ok (.ireturn, 1) := by decide +kernel
theorem dX0_fact_62 : decode cX0_fact 62 = .ok (.aload_n 0, 1) := by decide +kernel
theorem dX0_fact_63 : decode cX0_fact 63 = .ok (.getfield 18, 3) := by decide +kernel
theorem dX0_fact_66 : decode cX0_fact 66 = .ok (.ireturn, 1) := by decide +kernel
theorem dX0_fact_67 : decode cX0_fact 67 = .ok (.aload_n 0, 1) := by decide +kernel
theorem dX0_fact_68 : decode cX0_fact 68 = .ok (.getfield 21, 3) := by decide +kernel
theorem dX0_fact_71 : decode cX0_fact 71 = .ok (.ireturn, 1) := by decide +kernel
theorem dX0_fact_72 : decode cX0_fact 72 = .ok (.aload_n 0, 1) := by decide +kernel
theorem dX0_fact_73 : decode cX0_fact 73 = .ok (.getfield 24, 3) := by decide +kernel
theorem dX0_fact_76 : decode cX0_fact 76 = .ok (.ireturn, 1) := by decide +kernel
theorem dX0_fact_77 : decode cX0_fact 77 = .ok (.aload_n 0, 1) := by decide +kernel
theorem dX0_fact_78 : decode cX0_fact 78 = .ok (.getfield 27, 3) := by decide +kernel
theorem dX0_fact_81 : decode cX0_fact 81 = .ok (.ireturn, 1) := by decide +kernel
theorem dX0_fact_82 : decode cX0_fact 82 = .ok (.aload_n 0, 1) := by decide +kernel
theorem dX0_fact_83 : decode cX0_fact 83 = .ok (.getfield 30, 3) := by decide +kernel
theorem dX0_fact_86 : decode cX0_fact 86 = .ok (.ireturn, 1) := by decide +kernel
theorem dX0_fact_87 : decode cX0_fact 87 = .ok (.aload_n 0, 1) := by decide +kernel
theorem dX0_fact_88 : decode cX0_fact 88 = .ok (.getfield 9, 3) := by decide +kernel
theorem dX0_fact_91 : decode cX0_fact 91 = .ok (.aload_n 0, 1) := by decide +kernel
theorem dX0_fact_92 : decode cX0_fact 92 = .ok (.getfield 21, 3) := by decide +kernel
theorem dX0_fact_95 : decode cX0_fact 95 = .ok (.invokestatic 33, 3) := by decide +kernel
theorem dX0_fact_98 : decode cX0_fact 98 = .ok (.ireturn, 1) := by decide +kernel
theorem dX0_fact_99 : decode cX0_fact 99 = .ok (.aload_n 0, 1) := by decide +kernel
theorem dX0_fact_100 : decode cX0_fact 100 = .ok (.getfield 9, 3) := by decide +kernel
theorem dX0_fact_103 : decode cX0_fact 103 = .ok (.aload_n 0, 1) := by decide +kernel
theorem dX0_fact_104 : decode cX0_fact 104 = .ok (.getfield 18, 3) := by decide +kernel
theorem dX0_fact_107 : decode cX0_fact 107 = .ok (.invokestatic 39, 3) := by decide +kernel
theorem dX0_fact_110 : decode cX0_fact 110 = .ok (.ireturn, 1) := by decide +kernel
theorem dX0_fact_111 : decode cX0_fact 111 = .ok (.aload_n 0, 1) := by decide +kernel
theorem dX0_fact_112 : decode cX0_fact 112 = .ok (.getfield 9, 3) := by decide +kernel
theorem dX0_fact_115 : decode cX0_fact 115 = .ok (.aload_n 0, 1) := by decide +kernel
theorem dX0_fact_116 : decode cX0_fact 116 = .ok (.getfield 18, 3) := by decide +kernel
theorem dX0_fact_119 : decode cX0_fact 119 = .ok (.invokestatic 42, 3) := by decide +kernel
theorem dX0_fact_122 : decode cX0_fact 122 = .ok (.ireturn, 1) := by decide +kernel
theorem dX1_isUnder_0 : decode cX1_isUnder 0 = .ok (.iload_n 0, 1) := by decide +kernel
theorem dX1_isUnder_1 : decode cX1_isUnder 1 = .ok (.istore_n 2, 1) := by decide +kernel
theorem dX1_isUnder_2 : decode cX1_isUnder 2 = .ok (.iconst 0, 1) := by decide +kernel
theorem dX1_isUnder_3 : decode cX1_isUnder 3 = .ok (.istore_n 3, 1) := by decide +kernel
theorem dX1_isUnder_4 : decode cX1_isUnder 4 = .ok (.iload_n 3, 1) := by decide +kernel
theorem dX1_isUnder_5 : decode cX1_isUnder 5 = .ok (.bipush 6, 2) := by decide +kernel
theorem dX1_isUnder_7 : decode cX1_isUnder 7 = .ok (.if_icmp .ge 34, 3) := by decide +kernel
theorem dX1_isUnder_10 : decode cX1_isUnder 10 = .ok (.iload_n 2, 1) := by decide +kernel
theorem dX1_isUnder_11 : decode cX1_isUnder 11 = .ok (.ifCond .lt 30, 3) := by decide +kernel
theorem dX1_isUnder_14 : decode cX1_isUnder 14 = .ok (.iload_n 2, 1) := by decide +kernel
theorem dX1_isUnder_15 : decode cX1_isUnder 15 = .ok (.getstatic 9, 3) := by decide +kernel
theorem dX1_isUnder_18 : decode cX1_isUnder 18 = .ok (.arraylength, 1) := by decide +kernel
theorem dX1_isUnder_19 : decode cX1_isUnder 19 = .ok (.if_icmp .ge 22, 3) := by decide +kernel
theorem dX1_isUnder_22 : decode cX1_isUnder 22 = .ok (.iload_n 2, 1) := by decide +kernel
theorem dX1_isUnder_23 : decode cX1_isUnder 23 = .ok (.iload_n 1, 1) := by decide +kernel
theorem dX1_isUnder_24 : decode cX1_isUnder 24 = .ok (.if_icmp .ne 5, 3) := by decide +kernel
theorem dX1_isUnder_27 : decode cX1_isUnder 27 = .ok (.iconst 1, 1) := by decide +kernel
theorem dX1_isUnder_28 : decode cX1_isUnder 28 = .ok (.ireturn, 1) := by decide +kernel
theorem dX1_isUnder_29 : decode cX1_isUnder 29 = .ok (.getstatic 9, 3) := by decide +kernel
theorem dX1_isUnder_32 : decode cX1_isUnder 32 = .ok (.iload_n 2, 1) := by decide +kernel
theorem dX1_isUnder_33 : decode cX1_isUnder 33 = .ok (.iaload, 1) := by decide +kernel
theorem dX1_isUnder_34 : decode cX1_isUnder 34 = .ok (.istore_n 2, 1) := by decide +kernel
theorem dX1_isUnder_35 : decode cX1_isUnder 35 = .ok (.iinc 3 1, 3) := by decide +kernel
theorem dX1_isUnder_38 : decode cX1_isUnder 38 = .ok (.goto (-34), 3) := by decide +kernel
theorem dX1_isUnder_41 : decode cX1_isUnder 41 = .ok (.iconst 0, 1) := by decide +kernel
theorem dX1_isUnder_42 : decode cX1_isUnder 42 = .ok (.ireturn, 1) := by decide +kernel
theorem dX1_takes_0 : decode cX1_takes 0 = .ok (.iload_n 0, 1) := by decide +kernel
theorem dX1_takes_1 : decode cX1_takes 1 = .ok (.tableswitch 52 1 4 #[31, 44, 37, 44], 31) := by decide +kernel
theorem dX1_takes_32 : decode cX1_takes 32 = .ok (.iconst 1, 1) := by decide +kernel
theorem dX1_takes_33 : decode cX1_takes 33 = .ok (.iload_n 1, 1) := by decide +kernel
theorem dX1_takes_34 : decode cX1_takes 34 = .ok (.iconst 4, 1) := by decide +kernel
theorem dX1_takes_35 : decode cX1_takes 35 = .ok (.idiv, 1) := by decide +kernel
theorem dX1_takes_36 : decode cX1_takes 36 = .ok (.iadd, 1) := by decide +kernel
theorem dX1_takes_37 : decode cX1_takes 37 = .ok (.ireturn, 1) := by decide +kernel
theorem dX1_takes_38 : decode cX1_takes 38 = .ok (.iconst 1, 1) := by decide +kernel
theorem dX1_takes_39 : decode cX1_takes 39 = .ok (.iload_n 1, 1) := by decide +kernel
theorem dX1_takes_40 : decode cX1_takes 40 = .ok (.bipush 6, 2) := by decide +kernel
theorem dX1_takes_42 : decode cX1_takes 42 = .ok (.idiv, 1) := by decide +kernel
theorem dX1_takes_43 : decode cX1_takes 43 = .ok (.iadd, 1) := by decide +kernel
theorem dX1_takes_44 : decode cX1_takes 44 = .ok (.ireturn, 1) := by decide +kernel
theorem dX1_takes_45 : decode cX1_takes 45 = .ok (.iconst 1, 1) := by decide +kernel
theorem dX1_takes_46 : decode cX1_takes 46 = .ok (.iload_n 1, 1) := by decide +kernel
theorem dX1_takes_47 : decode cX1_takes 47 = .ok (.iconst 2, 1) := by decide +kernel
theorem dX1_takes_48 : decode cX1_takes 48 = .ok (.idiv, 1) := by decide +kernel
theorem dX1_takes_49 : decode cX1_takes 49 = .ok (.iadd, 1) := by decide +kernel
theorem dX1_takes_50 : decode cX1_takes 50 = .ok (.iconst 2, 1) := by decide +kernel
theorem dX1_takes_51 : decode cX1_takes 51 = .ok (.iadd, 1) := by decide +kernel
theorem dX1_takes_52 : decode cX1_takes 52 = .ok (.ireturn, 1) := by decide +kernel
theorem dX1_takes_53 : decode cX1_takes 53 = .ok (.iconst 1, 1) := by decide +kernel
theorem dX1_takes_54 : decode cX1_takes 54 = .ok (.iload_n 1, 1) := by decide +kernel
theorem dX1_takes_55 : decode cX1_takes 55 = .ok (.iconst 2, 1) := by decide +kernel
theorem dX1_takes_56 : decode cX1_takes 56 = .ok (.idiv, 1) := by decide +kernel
theorem dX1_takes_57 : decode cX1_takes 57 = .ok (.iadd, 1) := by decide +kernel
theorem dX1_takes_58 : decode cX1_takes 58 = .ok (.ireturn, 1) := by decide +kernel
theorem dX1_asks_0 : decode cX1_asks 0 = .ok (.iload_n 0, 1) := by decide +kernel
theorem dX1_asks_1 : decode cX1_asks 1 = .ok (.tableswitch 49 2 5 #[31, 49, 35, 41], 31) := by decide +kernel
theorem dX1_asks_32 : decode cX1_asks 32 = .ok (.iload_n 1, 1) := by decide +kernel
theorem dX1_asks_33 : decode cX1_asks 33 = .ok (.iconst 3, 1) := by decide +kernel
theorem dX1_asks_34 : decode cX1_asks 34 = .ok (.iadd, 1) := by decide +kernel
theorem dX1_asks_35 : decode cX1_asks 35 = .ok (.ireturn, 1) := by decide +kernel
theorem dX1_asks_36 : decode cX1_asks 36 = .ok (.iconst 2, 1) := by decide +kernel
theorem dX1_asks_37 : decode cX1_asks 37 = .ok (.iload_n 1, 1) := by decide +kernel
theorem dX1_asks_38 : decode cX1_asks 38 = .ok (.iconst 3, 1) := by decide +kernel
theorem dX1_asks_39 : decode cX1_asks 39 = .ok (.iadd, 1) := by decide +kernel
theorem dX1_asks_40 : decode cX1_asks 40 = .ok (.imul, 1) := by decide +kernel
theorem dX1_asks_41 : decode cX1_asks 41 = .ok (.ireturn, 1) := by decide +kernel
theorem dX1_asks_42 : decode cX1_asks 42 = .ok (.iconst 1, 1) := by decide +kernel
theorem dX1_asks_43 : decode cX1_asks 43 = .ok (.iload_n 1, 1) := by decide +kernel
theorem dX1_asks_44 : decode cX1_asks 44 = .ok (.iconst 2, 1) := by decide +kernel
theorem dX1_asks_45 : decode cX1_asks 45 = .ok (.isub, 1) := by decide +kernel
theorem dX1_asks_46 : decode cX1_asks 46 = .ok (.invokestatic 15, 3) := by decide +kernel
theorem dX1_asks_49 : decode cX1_asks 49 = .ok (.ireturn, 1) := by decide +kernel
theorem dX1_asks_50 : decode cX1_asks 50 = .ok (.iload_n 1, 1) := by decide +kernel
theorem dX1_asks_51 : decode cX1_asks 51 = .ok (.ireturn, 1) := by decide +kernel
theorem dX1_worth_0 : decode cX1_worth 0 = .ok (.iload_n 0, 1) := by decide +kernel
theorem dX1_worth_1 : decode cX1_worth 1 = .ok (.tableswitch 61 1 5 #[35, 47, 40, 52, 59], 35) := by decide +kernel
theorem dX1_worth_36 : decode cX1_worth 36 = .ok (.iload_n 1, 1) := by decide +kernel
theorem dX1_worth_37 : decode cX1_worth 37 = .ok (.bipush 8, 2) := by decide +kernel
theorem dX1_worth_39 : decode cX1_worth 39 = .ok (.iadd, 1) := by decide +kernel
theorem dX1_worth_40 : decode cX1_worth 40 = .ok (.ireturn, 1) := by decide +kernel
theorem dX1_worth_41 : decode cX1_worth 41 = .ok (.iconst 2, 1) := by decide +kernel
theorem dX1_worth_42 : decode cX1_worth 42 = .ok (.iload_n 1, 1) := by decide +kernel
theorem dX1_worth_43 : decode cX1_worth 43 = .ok (.bipush 8, 2) := by decide +kernel
theorem dX1_worth_45 : decode cX1_worth 45 = .ok (.iadd, 1) := by decide +kernel
theorem dX1_worth_46 : decode cX1_worth 46 = .ok (.imul, 1) := by decide +kernel
theorem dX1_worth_47 : decode cX1_worth 47 = .ok (.ireturn, 1) := by decide +kernel
theorem dX1_worth_48 : decode cX1_worth 48 = .ok (.bipush 99, 2) := by decide +kernel
theorem dX1_worth_50 : decode cX1_worth 50 = .ok (.iload_n 1, 1) := by decide +kernel
theorem dX1_worth_51 : decode cX1_worth 51 = .ok (.isub, 1) := by decide +kernel
theorem dX1_worth_52 : decode cX1_worth 52 = .ok (.ireturn, 1) := by decide +kernel
theorem dX1_worth_53 : decode cX1_worth 53 = .ok (.bipush 99, 2) := by decide +kernel
theorem dX1_worth_55 : decode cX1_worth 55 = .ok (.iload_n 1, 1) := by decide +kernel
theorem dX1_worth_56 : decode cX1_worth 56 = .ok (.isub, 1) := by decide +kernel
theorem dX1_worth_57 : decode cX1_worth 57 = .ok (.iconst 5, 1) := by decide +kernel
theorem dX1_worth_58 : decode cX1_worth 58 = .ok (.isub, 1) := by decide +kernel
theorem dX1_worth_59 : decode cX1_worth 59 = .ok (.ireturn, 1) := by decide +kernel
theorem dX1_worth_60 : decode cX1_worth 60 = .ok (.iconst 2, 1) := by decide +kernel
theorem dX1_worth_61 : decode cX1_worth 61 = .ok (.ireturn, 1) := by decide +kernel
theorem dX1_worth_62 : decode cX1_worth 62 = .ok (.iload_n 1, 1) := by decide +kernel
theorem dX1_worth_63 : decode cX1_worth 63 = .ok (.ireturn, 1) := by decide +kernel
theorem dX1_shineFrom_0 : decode cX1_shineFrom 0 = .ok (.iload_n 0, 1) := by decide +kernel
theorem dX1_shineFrom_1 : decode cX1_shineFrom 1 = .ok (.tableswitch 64 1 4 #[31, 39, 31, 44], 31) := by decide +kernel
theorem dX1_shineFrom_32 : decode cX1_shineFrom 32 = .ok (.iconst 0, 1) := by decide +kernel
theorem dX1_shineFrom_33 : decode cX1_shineFrom 33 = .ok (.iload_n 2, 1) := by decide +kernel
theorem dX1_shineFrom_34 : decode cX1_shineFrom 34 = .ok (.iconst 5, 1) := by decide +kernel
theorem dX1_shineFrom_35 : decode cX1_shineFrom 35 = .ok (.isub, 1) := by decide +kernel
theorem dX1_shineFrom_36 : decode cX1_shineFrom 36 = .ok (.invokestatic 15, 3) := by decide +kernel
theorem dX1_shineFrom_39 : decode cX1_shineFrom 39 = .ok (.ireturn, 1) := by decide +kernel
theorem dX1_shineFrom_40 : decode cX1_shineFrom 40 = .ok (.iload_n 2, 1) := by decide +kernel
theorem dX1_shineFrom_41 : decode cX1_shineFrom 41 = .ok (.bipush 10, 2) := by decide +kernel
theorem dX1_shineFrom_43 : decode cX1_shineFrom 43 = .ok (.iadd, 1) := by decide +kernel
theorem dX1_shineFrom_44 : decode cX1_shineFrom 44 = .ok (.ireturn, 1) := by decide +kernel
theorem dX1_shineFrom_45 : decode cX1_shineFrom 45 = .ok (.iload_n 1, 1) := by decide +kernel
theorem dX1_shineFrom_46 : decode cX1_shineFrom 46 = .ok (.bipush 12, 2) := by decide +kernel
theorem dX1_shineFrom_48 : decode cX1_shineFrom 48 = .ok (.if_icmp .le 12, 3) := by decide +kernel
theorem dX1_shineFrom_51 : decode cX1_shineFrom 51 = .ok (.iload_n 2, 1) := by decide +kernel
theorem dX1_shineFrom_52 : decode cX1_shineFrom 52 = .ok (.bipush 10, 2) := by decide +kernel
theorem dX1_shineFrom_54 : decode cX1_shineFrom 54 = .ok (.iadd, 1) := by decide +kernel
theorem dX1_shineFrom_55 : decode cX1_shineFrom 55 = .ok (.iconst 2, 1) := by decide +kernel
theorem dX1_shineFrom_56 : decode cX1_shineFrom 56 = .ok (.idiv, 1) := by decide +kernel
theorem dX1_shineFrom_57 : decode cX1_shineFrom 57 = .ok (.goto 7, 3) := by decide +kernel
theorem dX1_shineFrom_60 : decode cX1_shineFrom 60 = .ok (.iload_n 2, 1) := by decide +kernel
theorem dX1_shineFrom_61 : decode cX1_shineFrom 61 = .ok (.bipush 10, 2) := by decide +kernel
theorem dX1_shineFrom_63 : decode cX1_shineFrom 63 = .ok (.iadd, 1) := by decide +kernel
theorem dX1_shineFrom_64 : decode cX1_shineFrom 64 = .ok (.ireturn, 1) := by decide +kernel
theorem dX1_shineFrom_65 : decode cX1_shineFrom 65 = .ok (.iload_n 2, 1) := by decide +kernel
theorem dX1_shineFrom_66 : decode cX1_shineFrom 66 = .ok (.ireturn, 1) := by decide +kernel
theorem dX2_init_0 : decode cX2_init 0 = .ok (.aload_n 0, 1) := by decide +kernel
theorem dX2_init_1 : decode cX2_init 1 = .ok (.invokespecial 3, 3) := by decide +kernel
theorem dX2_init_4 : decode cX2_init 4 = .ok (.aload_n 0, 1) := by decide +kernel
theorem dX2_init_5 : decode cX2_init 5 = .ok (.iconst (-1), 1) := by decide +kernel
theorem dX2_init_6 : decode cX2_init 6 = .ok (.putfield 9, 3) := by decide +kernel
theorem dX2_init_9 : decode cX2_init 9 = .ok (.aload_n 0, 1) := by decide +kernel
theorem dX2_init_10 : decode cX2_init 10 = .ok (.iconst 0, 1) := by decide +kernel
theorem dX2_init_11 : decode cX2_init 11 = .ok (.putfield 15, 3) := by decide +kernel
theorem dX2_init_14 : decode cX2_init 14 = .ok (.aload_n 0, 1) := by decide +kernel
theorem dX2_init_15 : decode cX2_init 15 = .ok (.bipush 24, 2) := by decide +kernel
theorem dX2_init_17 : decode cX2_init 17 = .ok (.newarray .int, 2) := by decide +kernel
theorem dX2_init_19 : decode cX2_init 19 = .ok (.putfield 18, 3) := by decide +kernel
theorem dX2_init_22 : decode cX2_init 22 = .ok (.return_, 1) := by decide +kernel
theorem dX2_renew_0 : decode cX2_renew 0 = .ok (.aload_n 0, 1) := by decide +kernel
theorem dX2_renew_1 : decode cX2_renew 1 = .ok (.iload_n 1, 1) := by decide +kernel
theorem dX2_renew_2 : decode cX2_renew 2 = .ok (.putfield 9, 3) := by decide +kernel
theorem dX2_renew_5 : decode cX2_renew 5 = .ok (.aload_n 0, 1) := by decide +kernel
theorem dX2_renew_6 : decode cX2_renew 6 = .ok (.iconst 0, 1) := by decide +kernel
theorem dX2_renew_7 : decode cX2_renew 7 = .ok (.iload_n 2, 1) := by decide +kernel
theorem dX2_renew_8 : decode cX2_renew 8 = .ok (.aload_n 0, 1) := by decide +kernel
theorem dX2_renew_9 : decode cX2_renew 9 = .ok (.getfield 18, 3) := by decide +kernel
theorem dX2_renew_12 : decode cX2_renew 12 = .ok (.arraylength, 1) := by decide +kernel
theorem dX2_renew_13 : decode cX2_renew 13 = .ok (.invokestatic 22, 3) := by decide +kernel
theorem dX2_renew_16 : decode cX2_renew 16 = .ok (.invokestatic 28, 3) := by decide +kernel
theorem dX2_renew_19 : decode cX2_renew 19 = .ok (.putfield 15, 3) := by decide +kernel
theorem dX2_renew_22 : decode cX2_renew 22 = .ok (.iconst 0, 1) := by decide +kernel
theorem dX2_renew_23 : decode cX2_renew 23 = .ok (.istore_n 3, 1) := by decide +kernel
theorem dX2_renew_24 : decode cX2_renew 24 = .ok (.iload_n 3, 1) := by decide +kernel
theorem dX2_renew_25 : decode cX2_renew 25 = .ok (.aload_n 0, 1) := by decide +kernel
theorem dX2_renew_26 : decode cX2_renew 26 = .ok (.getfield 18, 3) := by decide +kernel
theorem dX2_renew_29 : decode cX2_renew 29 = .ok (.arraylength, 1) := by decide +kernel
theorem dX2_renew_30 : decode cX2_renew 30 = .ok (.if_icmp .ge 16, 3) := by decide +kernel
theorem dX2_renew_33 : decode cX2_renew 33 = .ok (.aload_n 0, 1) := by decide +kernel
theorem dX2_renew_34 : decode cX2_renew 34 = .ok (.getfield 18, 3) := by decide +kernel
theorem dX2_renew_37 : decode cX2_renew 37 = .ok (.iload_n 3, 1) := by decide +kernel
theorem dX2_renew_38 : decode cX2_renew 38 = .ok (.iconst 0, 1) := by decide +kernel
theorem dX2_renew_39 : decode cX2_renew 39 = .ok (.iastore, 1) := by decide +kernel
theorem dX2_renew_40 : decode cX2_renew 40 = .ok (.iinc 3 1, 3) := by decide +kernel
theorem dX2_renew_43 : decode cX2_renew 43 = .ok (.goto (-19), 3) := by decide +kernel
theorem dX2_renew_46 : decode cX2_renew 46 = .ok (.return_, 1) := by decide +kernel
theorem dX2_become_0 : decode cX2_become 0 = .ok (.aload_n 0, 1) := by decide +kernel
theorem dX2_become_1 : decode cX2_become 1 = .ok (.aload_n 1, 1) := by decide +kernel
theorem dX2_become_2 : decode cX2_become 2 = .ok (.getfield 9, 3) := by decide +kernel
theorem dX2_become_5 : decode cX2_become 5 = .ok (.putfield 9, 3) := by decide +kernel
theorem dX2_become_8 : decode cX2_become 8 = .ok (.aload_n 0, 1) := by decide +kernel
theorem dX2_become_9 : decode cX2_become 9 = .ok (.aload_n 1, 1) := by decide +kernel
theorem dX2_become_10 : decode cX2_become 10 = .ok (.getfield 15, 3) := by decide +kernel
theorem dX2_become_13 : decode cX2_become 13 = .ok (.putfield 15, 3) := by decide +kernel
theorem dX2_become_16 : decode cX2_become 16 = .ok (.aload_n 1, 1) := by decide +kernel
theorem dX2_become_17 : decode cX2_become 17 = .ok (.getfield 18, 3) := by decide +kernel
theorem dX2_become_20 : decode cX2_become 20 = .ok (.iconst 0, 1) := by decide +kernel
theorem dX2_become_21 : decode cX2_become 21 = .ok (.aload_n 0, 1) := by decide +kernel
theorem dX2_become_22 : decode cX2_become 22 = .ok (.getfield 18, 3) := by decide +kernel
theorem dX2_become_25 : decode cX2_become 25 = .ok (.iconst 0, 1) := by decide +kernel
theorem dX2_become_26 : decode cX2_become 26 = .ok (.bipush 24, 2) := by decide +kernel
theorem dX2_become_28 : decode cX2_become 28 = .ok (.invokestatic 31, 3) := by decide +kernel
theorem dX2_become_31 : decode cX2_become 31 = .ok (.return_, 1) := by decide +kernel
theorem dX2_isMissing_0 : decode cX2_isMissing 0 = .ok (.aload_n 0, 1) := by decide +kernel
theorem dX2_isMissing_1 : decode cX2_isMissing 1 = .ok (.getfield 9, 3) := by decide +kernel
theorem dX2_isMissing_4 : decode cX2_isMissing 4 = .ok (.iconst (-1), 1) := by decide +kernel
theorem dX2_isMissing_5 : decode cX2_isMissing 5 = .ok (.if_icmp .ne 7, 3) := by decide +kernel
theorem dX2_isMissing_8 : decode cX2_isMissing 8 = .ok (.iconst 1, 1) := by decide +kernel
theorem dX2_isMissing_9 : decode cX2_isMissing 9 = .ok (.goto 4, 3) := by decide +kernel
theorem dX2_isMissing_12 : decode cX2_isMissing 12 = .ok (.iconst 0, 1) := by decide +kernel
theorem dX2_isMissing_13 : decode cX2_isMissing 13 = .ok (.ireturn, 1) := by decide +kernel
theorem dX2_hasPlace_0 : decode cX2_hasPlace 0 = .ok (.iload_n 1, 1) := by decide +kernel
theorem dX2_hasPlace_1 : decode cX2_hasPlace 1 = .ok (.ifCond .lt 15, 3) := by decide +kernel
theorem dX2_hasPlace_4 : decode cX2_hasPlace 4 = .ok (.iload_n 1, 1) := by decide +kernel
theorem dX2_hasPlace_5 : decode cX2_hasPlace 5 = .ok (.aload_n 0, 1) := by decide +kernel
theorem dX2_hasPlace_6 : decode cX2_hasPlace 6 = .ok (.getfield 15, 3) := by decide +kernel
theorem dX2_hasPlace_9 : decode cX2_hasPlace 9 = .ok (.if_icmp .ge 7, 3) := by decide +kernel
theorem dX2_hasPlace_12 : decode cX2_hasPlace 12 = .ok (.iconst 1, 1) := by decide +kernel
theorem dX2_hasPlace_13 : decode cX2_hasPlace 13 = .ok (.goto 4, 3) := by decide +kernel
theorem dX2_hasPlace_16 : decode cX2_hasPlace 16 = .ok (.iconst 0, 1) := by decide +kernel
theorem dX2_hasPlace_17 : decode cX2_hasPlace 17 = .ok (.ireturn, 1) := by decide +kernel
theorem dX2_hasPlaces_0 : decode cX2_hasPlaces 0 = .ok (.iload_n 1, 1) := by decide +kernel
theorem dX2_hasPlaces_1 : decode cX2_hasPlaces 1 = .ok (.ifCond .lt 29, 3) := by decide +kernel
theorem dX2_hasPlaces_4 : decode cX2_hasPlaces 4 = .ok (.iload_n 2, 1) := by decide +kernel
theorem dX2_hasPlaces_5 : decode cX2_hasPlaces 5 = .ok (.ifCond .lt 25, 3) := by decide +kernel
theorem dX2_hasPlaces_8 : decode cX2_hasPlaces 8 = .ok (.iload_n 1, 1) := by decide +kernel
theorem dX2_hasPlaces_9 : decode cX2_hasPlaces 9 = .ok (.aload_n 0, 1) := by decide +kernel
theorem dX2_hasPlaces_10 : decode cX2_hasPlaces 10 = .ok (.getfield 15, 3) := by decide +kernel
theorem dX2_hasPlaces_13 : decode cX2_hasPlaces 13 = .ok (.if_icmp .gt 17, 3) := by decide +kernel
theorem dX2_hasPlaces_16 : decode cX2_hasPlaces 16 = .ok (.iload_n 2, 1) := by decide +kernel
theorem dX2_hasPlaces_17 : decode cX2_hasPlaces 17 = .ok (.aload_n 0, 1) := by decide +kernel
theorem dX2_hasPlaces_18 : decode cX2_hasPlaces 18 = .ok (.getfield 15, 3) := by decide +kernel
theorem dX2_hasPlaces_21 : decode cX2_hasPlaces 21 = .ok (.iload_n 1, 1) := by decide +kernel
theorem dX2_hasPlaces_22 : decode cX2_hasPlaces 22 = .ok (.isub, 1) := by decide +kernel
theorem dX2_hasPlaces_23 : decode cX2_hasPlaces 23 = .ok (.if_icmp .gt 7, 3) := by decide +kernel
theorem dX2_hasPlaces_26 : decode cX2_hasPlaces 26 = .ok (.iconst 1, 1) := by decide +kernel
theorem dX2_hasPlaces_27 : decode cX2_hasPlaces 27 = .ok (.goto 4, 3) := by decide +kernel
theorem dX2_hasPlaces_30 : decode cX2_hasPlaces 30 = .ok (.iconst 0, 1) := by decide +kernel
theorem dX2_hasPlaces_31 : decode cX2_hasPlaces 31 = .ok (.ireturn, 1) := by decide +kernel
theorem dX2_hasNumber_0 : decode cX2_hasNumber 0 = .ok (.aload_n 0, 1) := by decide +kernel
theorem dX2_hasNumber_1 : decode cX2_hasNumber 1 = .ok (.iload_n 1, 1) := by decide +kernel
theorem dX2_hasNumber_2 : decode cX2_hasNumber 2 = .ok (.invokevirtual 37, 3) := by decide +kernel
theorem dX2_hasNumber_5 : decode cX2_hasNumber 5 = .ok (.ifCond .eq 18, 3) := by decide +kernel
theorem dX2_hasNumber_8 : decode cX2_hasNumber 8 = .ok (.aload_n 0, 1) := by decide +kernel
theorem dX2_hasNumber_9 : decode cX2_hasNumber 9 = .ok (.getfield 18, 3) := by decide +kernel
theorem dX2_hasNumber_12 : decode cX2_hasNumber 12 = .ok (.iload_n 1, 1) := by decide +kernel
theorem dX2_hasNumber_13 : decode cX2_hasNumber 13 = .ok (.iaload, 1) := by decide +kernel
theorem dX2_hasNumber_14 : decode cX2_hasNumber 14 = .ok (.ldc 41, 2) := by decide +kernel
theorem dX2_hasNumber_16 : decode cX2_hasNumber 16 = .ok (.if_icmp .eq 7, 3) := by decide +kernel
theorem dX2_hasNumber_19 : decode cX2_hasNumber 19 = .ok (.iconst 1, 1) := by decide +kernel
theorem dX2_hasNumber_20 : decode cX2_hasNumber 20 = .ok (.goto 4, 3) := by decide +kernel
theorem dX2_hasNumber_23 : decode cX2_hasNumber 23 = .ok (.iconst 0, 1) := by decide +kernel
theorem dX2_hasNumber_24 : decode cX2_hasNumber 24 = .ok (.ireturn, 1) := by decide +kernel
theorem dX3_init_0 : decode cX3_init 0 = .ok (.aload_n 0, 1) := by decide +kernel
theorem dX3_init_1 : decode cX3_init 1 = .ok (.invokespecial 3, 3) := by decide +kernel
theorem dX3_init_4 : decode cX3_init 4 = .ok (.aload_n 0, 1) := by decide +kernel
theorem dX3_init_5 : decode cX3_init 5 = .ok (.iconst 0, 1) := by decide +kernel
theorem dX3_init_6 : decode cX3_init 6 = .ok (.putfield 9, 3) := by decide +kernel
theorem dX3_init_9 : decode cX3_init 9 = .ok (.aload_n 0, 1) := by decide +kernel
theorem dX3_init_10 : decode cX3_init 10 = .ok (.iconst 0, 1) := by decide +kernel
theorem dX3_init_11 : decode cX3_init 11 = .ok (.putfield 15, 3) := by decide +kernel
theorem dX3_init_14 : decode cX3_init 14 = .ok (.aload_n 0, 1) := by decide +kernel
theorem dX3_init_15 : decode cX3_init 15 = .ok (.new 18, 3) := by decide +kernel
theorem dX3_init_18 : decode cX3_init 18 = .ok (.dup, 1) := by decide +kernel
theorem dX3_init_19 : decode cX3_init 19 = .ok (.invokespecial 20, 3) := by decide +kernel
theorem dX3_init_22 : decode cX3_init 22 = .ok (.putfield 21, 3) := by decide +kernel
theorem dX3_init_25 : decode cX3_init 25 = .ok (.aload_n 0, 1) := by decide +kernel
theorem dX3_init_26 : decode cX3_init 26 = .ok (.new 25, 3) := by decide +kernel
theorem dX3_init_29 : decode cX3_init 29 = .ok (.dup, 1) := by decide +kernel
theorem dX3_init_30 : decode cX3_init 30 = .ok (.invokespecial 27, 3) := by decide +kernel
theorem dX3_init_33 : decode cX3_init 33 = .ok (.putfield 28, 3) := by decide +kernel
theorem dX3_init_36 : decode cX3_init 36 = .ok (.return_, 1) := by decide +kernel
theorem dX3_findingFor_0 : decode cX3_findingFor 0 = .ok (.aload_n 0, 1) := by decide +kernel
theorem dX3_findingFor_1 : decode cX3_findingFor 1 = .ok (.getfield 9, 3) := by decide +kernel
theorem dX3_findingFor_4 : decode cX3_findingFor 4 = .ok (.ifCond .ne 6, 3) := by decide +kernel
theorem dX3_findingFor_7 : decode cX3_findingFor 7 = .ok (.ldc 32, 2) := by decide +kernel
theorem dX3_findingFor_9 : decode cX3_findingFor 9 = .ok (.ireturn, 1) := by decide +kernel
theorem dX3_findingFor_10 : decode cX3_findingFor 10 = .ok (.aload_n 0, 1) := by decide +kernel
theorem dX3_findingFor_11 : decode cX3_findingFor 11 = .ok (.getfield 9, 3) := by decide +kernel
theorem dX3_findingFor_14 : decode cX3_findingFor 14 = .ok (.iload_n 1, 1) := by decide +kernel
theorem dX3_findingFor_15 : decode cX3_findingFor 15 = .ok (.if_icmp .ne 7, 3) := by decide +kernel
theorem dX3_findingFor_18 : decode cX3_findingFor 18 = .ok (.iconst 0, 1) := by decide +kernel
theorem dX3_findingFor_19 : decode cX3_findingFor 19 = .ok (.goto 5, 3) := by decide +kernel
theorem dX3_findingFor_22 : decode cX3_findingFor 22 = .ok (.ldc 33, 2) := by decide +kernel
theorem dX3_findingFor_24 : decode cX3_findingFor 24 = .ok (.ireturn, 1) := by decide +kernel
theorem dX4_init_0 : decode cX4_init 0 = .ok (.aload_n 0, 1) := by decide +kernel
theorem dX4_init_1 : decode cX4_init 1 = .ok (.invokespecial 3, 3) := by decide +kernel
theorem dX4_init_4 : decode cX4_init 4 = .ok (.aload_n 0, 1) := by decide +kernel
theorem dX4_init_5 : decode cX4_init 5 = .ok (.bipush 8, 2) := by decide +kernel
theorem dX4_init_7 : decode cX4_init 7 = .ok (.anewarray 9, 3) := by decide +kernel
theorem dX4_init_10 : decode cX4_init 10 = .ok (.putfield 11, 3) := by decide +kernel
theorem dX4_init_13 : decode cX4_init 13 = .ok (.aload_n 0, 1) := by decide +kernel
theorem dX4_init_14 : decode cX4_init 14 = .ok (.iconst 3, 1) := by decide +kernel
theorem dX4_init_15 : decode cX4_init 15 = .ok (.anewarray 17, 3) := by decide +kernel
theorem dX4_init_18 : decode cX4_init 18 = .ok (.putfield 19, 3) := by decide +kernel
theorem dX4_init_21 : decode cX4_init 21 = .ok (.aload_n 0, 1) := by decide +kernel
theorem dX4_init_22 : decode cX4_init 22 = .ok (.iconst 0, 1) := by decide +kernel
theorem dX4_init_23 : decode cX4_init 23 = .ok (.putfield 23, 3) := by decide +kernel
theorem dX4_init_26 : decode cX4_init 26 = .ok (.aload_n 0, 1) := by decide +kernel
theorem dX4_init_27 : decode cX4_init 27 = .ok (.iconst 0, 1) := by decide +kernel
theorem dX4_init_28 : decode cX4_init 28 = .ok (.putfield 27, 3) := by decide +kernel
theorem dX4_init_31 : decode cX4_init 31 = .ok (.aload_n 0, 1) := by decide +kernel
theorem dX4_init_32 : decode cX4_init 32 = .ok (.iconst 0, 1) := by decide +kernel
theorem dX4_init_33 : decode cX4_init 33 = .ok (.putfield 30, 3) := by decide +kernel
theorem dX4_init_36 : decode cX4_init 36 = .ok (.aload_n 0, 1) := by decide +kernel
theorem dX4_init_37 : decode cX4_init 37 = .ok (.iconst 0, 1) := by decide +kernel
theorem dX4_init_38 : decode cX4_init 38 = .ok (.putfield 33, 3) := by decide +kernel
theorem dX4_init_41 : decode cX4_init 41 = .ok (.aload_n 0, 1) := by decide +kernel
theorem dX4_init_42 : decode cX4_init 42 = .ok (.bipush 20, 2) := by decide +kernel
theorem dX4_init_44 : decode cX4_init 44 = .ok (.putfield 36, 3) := by decide +kernel
theorem dX4_init_47 : decode cX4_init 47 = .ok (.aload_n 0, 1) := by decide +kernel
theorem dX4_init_48 : decode cX4_init 48 = .ok (.iconst 0, 1) := by decide +kernel
theorem dX4_init_49 : decode cX4_init 49 = .ok (.putfield 39, 3) := by decide +kernel
theorem dX4_init_52 : decode cX4_init 52 = .ok (.aload_n 0, 1) := by decide +kernel
theorem dX4_init_53 : decode cX4_init 53 = .ok (.iconst 0, 1) := by decide +kernel
theorem dX4_init_54 : decode cX4_init 54 = .ok (.putfield 42, 3) := by decide +kernel
theorem dX4_init_57 : decode cX4_init 57 = .ok (.aload_n 0, 1) := by decide +kernel
theorem dX4_init_58 : decode cX4_init 58 = .ok (.iconst 1, 1) := by decide +kernel
theorem dX4_init_59 : decode cX4_init 59 = .ok (.putfield 45, 3) := by decide +kernel
theorem dX4_init_62 : decode cX4_init 62 = .ok (.aload_n 0, 1) := by decide +kernel
theorem dX4_init_63 : decode cX4_init 63 = .ok (.iconst 0, 1) := by decide +kernel
theorem dX4_init_64 : decode cX4_init 64 = .ok (.putfield 48, 3) := by decide +kernel
theorem dX4_init_67 : decode cX4_init 67 = .ok (.aload_n 0, 1) := by decide +kernel
theorem dX4_init_68 : decode cX4_init 68 = .ok (.iconst (-1), 1) := by decide +kernel
theorem dX4_init_69 : decode cX4_init 69 = .ok (.putfield 52, 3) := by decide +kernel
theorem dX4_init_72 : decode cX4_init 72 = .ok (.iconst 0, 1) := by decide +kernel
theorem dX4_init_73 : decode cX4_init 73 = .ok (.istore_n 1, 1) := by decide +kernel
theorem dX4_init_74 : decode cX4_init 74 = .ok (.iload_n 1, 1) := by decide +kernel
theorem dX4_init_75 : decode cX4_init 75 = .ok (.aload_n 0, 1) := by decide +kernel
theorem dX4_init_76 : decode cX4_init 76 = .ok (.getfield 11, 3) := by decide +kernel
theorem dX4_init_79 : decode cX4_init 79 = .ok (.arraylength, 1) := by decide +kernel
theorem dX4_init_80 : decode cX4_init 80 = .ok (.if_icmp .ge 22, 3) := by decide +kernel
theorem dX4_init_83 : decode cX4_init 83 = .ok (.aload_n 0, 1) := by decide +kernel
theorem dX4_init_84 : decode cX4_init 84 = .ok (.getfield 11, 3) := by decide +kernel
theorem dX4_init_87 : decode cX4_init 87 = .ok (.iload_n 1, 1) := by decide +kernel
theorem dX4_init_88 : decode cX4_init 88 = .ok (.new 9, 3) := by decide +kernel
theorem dX4_init_91 : decode cX4_init 91 = .ok (.dup, 1) := by decide +kernel
theorem dX4_init_92 : decode cX4_init 92 = .ok (.invokespecial 55, 3) := by decide +kernel
theorem dX4_init_95 : decode cX4_init 95 = .ok (.aastore, 1) := by decide +kernel
theorem dX4_init_96 : decode cX4_init 96 = .ok (.iinc 1 1, 3) := by decide +kernel
theorem dX4_init_99 : decode cX4_init 99 = .ok (.goto (-25), 3) := by decide +kernel
theorem dX4_init_102 : decode cX4_init 102 = .ok (.return_, 1) := by decide +kernel
theorem dX4_become_0 : decode cX4_become 0 = .ok (.aload_n 0, 1) := by decide +kernel
theorem dX4_become_1 : decode cX4_become 1 = .ok (.aload_n 1, 1) := by decide +kernel
theorem dX4_become_2 : decode cX4_become 2 = .ok (.getfield 23, 3) := by decide +kernel
theorem dX4_become_5 : decode cX4_become 5 = .ok (.putfield 23, 3) := by decide +kernel
theorem dX4_become_8 : decode cX4_become 8 = .ok (.aload_n 0, 1) := by decide +kernel
theorem dX4_become_9 : decode cX4_become 9 = .ok (.aload_n 1, 1) := by decide +kernel
theorem dX4_become_10 : decode cX4_become 10 = .ok (.getfield 27, 3) := by decide +kernel
theorem dX4_become_13 : decode cX4_become 13 = .ok (.putfield 27, 3) := by decide +kernel
theorem dX4_become_16 : decode cX4_become 16 = .ok (.aload_n 0, 1) := by decide +kernel
theorem dX4_become_17 : decode cX4_become 17 = .ok (.aload_n 1, 1) := by decide +kernel
theorem dX4_become_18 : decode cX4_become 18 = .ok (.getfield 30, 3) := by decide +kernel
theorem dX4_become_21 : decode cX4_become 21 = .ok (.putfield 30, 3) := by decide +kernel
theorem dX4_become_24 : decode cX4_become 24 = .ok (.aload_n 0, 1) := by decide +kernel
theorem dX4_become_25 : decode cX4_become 25 = .ok (.aload_n 1, 1) := by decide +kernel
theorem dX4_become_26 : decode cX4_become 26 = .ok (.getfield 33, 3) := by decide +kernel
theorem dX4_become_29 : decode cX4_become 29 = .ok (.putfield 33, 3) := by decide +kernel
theorem dX4_become_32 : decode cX4_become 32 = .ok (.aload_n 0, 1) := by decide +kernel
theorem dX4_become_33 : decode cX4_become 33 = .ok (.aload_n 1, 1) := by decide +kernel
theorem dX4_become_34 : decode cX4_become 34 = .ok (.getfield 36, 3) := by decide +kernel
theorem dX4_become_37 : decode cX4_become 37 = .ok (.putfield 36, 3) := by decide +kernel
theorem dX4_become_40 : decode cX4_become 40 = .ok (.aload_n 0, 1) := by decide +kernel
theorem dX4_become_41 : decode cX4_become 41 = .ok (.aload_n 1, 1) := by decide +kernel
theorem dX4_become_42 : decode cX4_become 42 = .ok (.getfield 39, 3) := by decide +kernel
theorem dX4_become_45 : decode cX4_become 45 = .ok (.putfield 39, 3) := by decide +kernel
theorem dX4_become_48 : decode cX4_become 48 = .ok (.aload_n 0, 1) := by decide +kernel
theorem dX4_become_49 : decode cX4_become 49 = .ok (.aload_n 1, 1) := by decide +kernel
theorem dX4_become_50 : decode cX4_become 50 = .ok (.getfield 42, 3) := by decide +kernel
theorem dX4_become_53 : decode cX4_become 53 = .ok (.putfield 42, 3) := by decide +kernel
theorem dX4_become_56 : decode cX4_become 56 = .ok (.aload_n 0, 1) := by decide +kernel
theorem dX4_become_57 : decode cX4_become 57 = .ok (.aload_n 1, 1) := by decide +kernel
theorem dX4_become_58 : decode cX4_become 58 = .ok (.getfield 45, 3) := by decide +kernel
theorem dX4_become_61 : decode cX4_become 61 = .ok (.putfield 45, 3) := by decide +kernel
theorem dX4_become_64 : decode cX4_become 64 = .ok (.aload_n 0, 1) := by decide +kernel
theorem dX4_become_65 : decode cX4_become 65 = .ok (.aload_n 1, 1) := by decide +kernel
theorem dX4_become_66 : decode cX4_become 66 = .ok (.getfield 48, 3) := by decide +kernel
theorem dX4_become_69 : decode cX4_become 69 = .ok (.putfield 48, 3) := by decide +kernel
theorem dX4_become_72 : decode cX4_become 72 = .ok (.aload_n 0, 1) := by decide +kernel
theorem dX4_become_73 : decode cX4_become 73 = .ok (.iconst (-1), 1) := by decide +kernel
theorem dX4_become_74 : decode cX4_become 74 = .ok (.putfield 52, 3) := by decide +kernel
theorem dX4_become_77 : decode cX4_become 77 = .ok (.iconst 0, 1) := by decide +kernel
theorem dX4_become_78 : decode cX4_become 78 = .ok (.istore_n 2, 1) := by decide +kernel
theorem dX4_become_79 : decode cX4_become 79 = .ok (.iload_n 2, 1) := by decide +kernel
theorem dX4_become_80 : decode cX4_become 80 = .ok (.aload_n 0, 1) := by decide +kernel
theorem dX4_become_81 : decode cX4_become 81 = .ok (.getfield 23, 3) := by decide +kernel
theorem dX4_become_84 : decode cX4_become 84 = .ok (.if_icmp .ge 30, 3) := by decide +kernel
theorem dX4_become_87 : decode cX4_become 87 = .ok (.iload_n 2, 1) := by decide +kernel
theorem dX4_become_88 : decode cX4_become 88 = .ok (.bipush 8, 2) := by decide +kernel
theorem dX4_become_90 : decode cX4_become 90 = .ok (.if_icmp .ge 24, 3) := by decide +kernel
theorem dX4_become_93 : decode cX4_become 93 = .ok (.aload_n 0, 1) := by decide +kernel
theorem dX4_become_94 : decode cX4_become 94 = .ok (.getfield 11, 3) := by decide +kernel
theorem dX4_become_97 : decode cX4_become 97 = .ok (.iload_n 2, 1) := by decide +kernel
theorem dX4_become_98 : decode cX4_become 98 = .ok (.aaload, 1) := by decide +kernel
theorem dX4_become_99 : decode cX4_become 99 = .ok (.aload_n 1, 1) := by decide +kernel
theorem dX4_become_100 : decode cX4_become 100 = .ok (.getfield 11, 3) := by decide +kernel
theorem dX4_become_103 : decode cX4_become 103 = .ok (.iload_n 2, 1) := by decide +kernel
theorem dX4_become_104 : decode cX4_become 104 = .ok (.aaload, 1) := by decide +kernel
theorem dX4_become_105 : decode cX4_become 105 = .ok (.invokevirtual 56, 3) := by decide +kernel
theorem dX4_become_108 : decode cX4_become 108 = .ok (.iinc 2 1, 3) := by decide +kernel
theorem dX4_become_111 : decode cX4_become 111 = .ok (.goto (-32), 3) := by decide +kernel
theorem dX4_become_114 : decode cX4_become 114 = .ok (.iconst 0, 1) := by decide +kernel
theorem dX4_become_115 : decode cX4_become 115 = .ok (.istore_n 2, 1) := by decide +kernel
theorem dX4_become_116 : decode cX4_become 116 = .ok (.iload_n 2, 1) := by decide +kernel
theorem dX4_become_117 : decode cX4_become 117 = .ok (.iconst 3, 1) := by decide +kernel
theorem dX4_become_118 : decode cX4_become 118 = .ok (.if_icmp .ge 21, 3) := by decide +kernel
theorem dX4_become_121 : decode cX4_become 121 = .ok (.aload_n 0, 1) := by decide +kernel
theorem dX4_become_122 : decode cX4_become 122 = .ok (.getfield 19, 3) := by decide +kernel
theorem dX4_become_125 : decode cX4_become 125 = .ok (.iload_n 2, 1) := by decide +kernel
theorem dX4_become_126 : decode cX4_become 126 = .ok (.aload_n 1, 1) := by decide +kernel
theorem dX4_become_127 : decode cX4_become 127 = .ok (.getfield 19, 3) := by decide +kernel
theorem dX4_become_130 : decode cX4_become 130 = .ok (.iload_n 2, 1) := by decide +kernel
theorem dX4_become_131 : decode cX4_become 131 = .ok (.aaload, 1) := by decide +kernel
theorem dX4_become_132 : decode cX4_become 132 = .ok (.aastore, 1) := by decide +kernel
theorem dX4_become_133 : decode cX4_become 133 = .ok (.iinc 2 1, 3) := by decide +kernel
theorem dX4_become_136 : decode cX4_become 136 = .ok (.goto (-20), 3) := by decide +kernel
theorem dX4_become_139 : decode cX4_become 139 = .ok (.return_, 1) := by decide +kernel
theorem dX4_addBoy_0 : decode cX4_addBoy 0 = .ok (.aload_n 0, 1) := by decide +kernel
theorem dX4_addBoy_1 : decode cX4_addBoy 1 = .ok (.getfield 23, 3) := by decide +kernel
theorem dX4_addBoy_4 : decode cX4_addBoy 4 = .ok (.aload_n 0, 1) := by decide +kernel
theorem dX4_addBoy_5 : decode cX4_addBoy 5 = .ok (.getfield 11, 3) := by decide +kernel
theorem dX4_addBoy_8 : decode cX4_addBoy 8 = .ok (.arraylength, 1) := by decide +kernel
theorem dX4_addBoy_9 : decode cX4_addBoy 9 = .ok (.if_icmp .ge 30, 3) := by decide +kernel
theorem dX4_addBoy_12 : decode cX4_addBoy 12 = .ok (.aload_n 0, 1) := by decide +kernel
theorem dX4_addBoy_13 : decode cX4_addBoy 13 = .ok (.getfield 11, 3) := by decide +kernel
theorem dX4_addBoy_16 : decode cX4_addBoy 16 = .ok (.aload_n 0, 1) := by decide +kernel
theorem dX4_addBoy_17 : decode cX4_addBoy 17 = .ok (.getfield 23, 3) := by decide +kernel
theorem dX4_addBoy_20 : decode cX4_addBoy 20 = .ok (.aaload, 1) := by decide +kernel
theorem dX4_addBoy_21 : decode cX4_addBoy 21 = .ok (.iload_n 1, 1) := by decide +kernel
theorem dX4_addBoy_22 : decode cX4_addBoy 22 = .ok (.iload_n 2, 1) := by decide +kernel
theorem dX4_addBoy_23 : decode cX4_addBoy 23 = .ok (.iload_n 3, 1) := by decide +kernel
theorem dX4_addBoy_24 : decode cX4_addBoy 24 = .ok (.iload 4, 2) := by decide +kernel
theorem dX4_addBoy_26 : decode cX4_addBoy 26 = .ok (.invokevirtual 60, 3) := by decide +kernel
theorem dX4_addBoy_29 : decode cX4_addBoy 29 = .ok (.aload_n 0, 1) := by decide +kernel
theorem dX4_addBoy_30 : decode cX4_addBoy 30 = .ok (.dup, 1) := by decide +kernel
theorem dX4_addBoy_31 : decode cX4_addBoy 31 = .ok (.getfield 23, 3) := by decide +kernel
theorem dX4_addBoy_34 : decode cX4_addBoy 34 = .ok (.iconst 1, 1) := by decide +kernel
theorem dX4_addBoy_35 : decode cX4_addBoy 35 = .ok (.iadd, 1) := by decide +kernel
theorem dX4_addBoy_36 : decode cX4_addBoy 36 = .ok (.putfield 23, 3) := by decide +kernel
theorem dX4_addBoy_39 : decode cX4_addBoy 39 = .ok (.return_, 1) := by decide +kernel
theorem dX4_drawBoy_0 : decode cX4_drawBoy 0 = .ok (.aload_n 0, 1) := by decide +kernel
theorem dX4_drawBoy_1 : decode cX4_drawBoy 1 = .ok (.invokevirtual 64, 3) := by decide +kernel
theorem dX4_drawBoy_4 : decode cX4_drawBoy 4 = .ok (.bipush 6, 2) := by decide +kernel
theorem dX4_drawBoy_6 : decode cX4_drawBoy 6 = .ok (.irem, 1) := by decide +kernel
theorem dX4_drawBoy_7 : decode cX4_drawBoy 7 = .ok (.istore_n 1, 1) := by decide +kernel
theorem dX4_drawBoy_8 : decode cX4_drawBoy 8 = .ok (.aload_n 0, 1) := by decide +kernel
theorem dX4_drawBoy_9 : decode cX4_drawBoy 9 = .ok (.invokevirtual 64, 3) := by decide +kernel
theorem dX4_drawBoy_12 : decode cX4_drawBoy 12 = .ok (.bipush 10, 2) := by decide +kernel
theorem dX4_drawBoy_14 : decode cX4_drawBoy 14 = .ok (.irem, 1) := by decide +kernel
theorem dX4_drawBoy_15 : decode cX4_drawBoy 15 = .ok (.istore_n 2, 1) := by decide +kernel
theorem dX4_drawBoy_16 : decode cX4_drawBoy 16 = .ok (.iconst 1, 1) := by decide +kernel
theorem dX4_drawBoy_17 : decode cX4_drawBoy 17 = .ok (.aload_n 0, 1) := by decide +kernel
theorem dX4_drawBoy_18 : decode cX4_drawBoy 18 = .ok (.invokevirtual 64, 3) := by decide +kernel
theorem dX4_drawBoy_21 : decode cX4_drawBoy 21 = .ok (.bipush 20, 2) := by decide +kernel
theorem dX4_drawBoy_23 : decode cX4_drawBoy 23 = .ok (.irem, 1) := by decide +kernel
theorem dX4_drawBoy_24 : decode cX4_drawBoy 24 = .ok (.iadd, 1) := by decide +kernel
theorem dX4_drawBoy_25 : decode cX4_drawBoy 25 = .ok (.istore_n 3, 1) := by decide +kernel
theorem dX4_drawBoy_26 : decode cX4_drawBoy 26 = .ok (.iconst 1, 1) := by decide +kernel
theorem dX4_drawBoy_27 : decode cX4_drawBoy 27 = .ok (.aload_n 0, 1) := by decide +kernel
theorem dX4_drawBoy_28 : decode cX4_drawBoy 28 = .ok (.invokevirtual 64, 3) := by decide +kernel
theorem dX4_drawBoy_31 : decode cX4_drawBoy 31 = .ok (.bipush 12, 2) := by decide +kernel
theorem dX4_drawBoy_33 : decode cX4_drawBoy 33 = .ok (.irem, 1) := by decide +kernel
theorem dX4_drawBoy_34 : decode cX4_drawBoy 34 = .ok (.iadd, 1) := by decide +kernel
theorem dX4_drawBoy_35 : decode cX4_drawBoy 35 = .ok (.istore 4, 2) := by decide +kernel
theorem dX4_drawBoy_37 : decode cX4_drawBoy 37 = .ok (.aload_n 0, 1) := by decide +kernel
theorem dX4_drawBoy_38 : decode cX4_drawBoy 38 = .ok (.iload_n 1, 1) := by decide +kernel
theorem dX4_drawBoy_39 : decode cX4_drawBoy 39 = .ok (.iload_n 2, 1) := by decide +kernel
theorem dX4_drawBoy_40 : decode cX4_drawBoy 40 = .ok (.iload_n 3, 1) := by decide +kernel
theorem dX4_drawBoy_41 : decode cX4_drawBoy 41 = .ok (.iload 4, 2) := by decide +kernel
theorem dX4_drawBoy_43 : decode cX4_drawBoy 43 = .ok (.invokevirtual 68, 3) := by decide +kernel
theorem dX4_drawBoy_46 : decode cX4_drawBoy 46 = .ok (.return_, 1) := by decide +kernel
theorem dX4_countText_0 : decode cX4_countText 0 = .ok (.aload_n 1, 1) := by decide +kernel
theorem dX4_countText_1 : decode cX4_countText 1 = .ok (.getfield 71, 3) := by decide +kernel
theorem dX4_countText_4 : decode cX4_countText 4 = .ok (.ifCond .lt 35, 3) := by decide +kernel
theorem dX4_countText_7 : decode cX4_countText 7 = .ok (.aload_n 1, 1) := by decide +kernel
theorem dX4_countText_8 : decode cX4_countText 8 = .ok (.getfield 71, 3) := by decide +kernel
theorem dX4_countText_11 : decode cX4_countText 11 = .ok (.aload_n 0, 1) := by decide +kernel
theorem dX4_countText_12 : decode cX4_countText 12 = .ok (.getfield 19, 3) := by decide +kernel
theorem dX4_countText_15 : decode cX4_countText 15 = .ok (.arraylength, 1) := by decide +kernel
theorem dX4_countText_16 : decode cX4_countText 16 = .ok (.if_icmp .ge 23, 3) := by decide +kernel
theorem dX4_countText_19 : decode cX4_countText 19 = .ok (.aload_n 0, 1) := by decide +kernel
theorem dX4_countText_20 : decode cX4_countText 20 = .ok (.getfield 19, 3) := by decide +kernel
theorem dX4_countText_23 : decode cX4_countText 23 = .ok (.aload_n 1, 1) := by decide +kernel
theorem dX4_countText_24 : decode cX4_countText 24 = .ok (.getfield 71, 3) := by decide +kernel
theorem dX4_countText_27 : decode cX4_countText 27 = .ok (.aload_n 1, 1) := by decide +kernel
theorem dX4_countText_28 : decode cX4_countText 28 = .ok (.aastore, 1) := by decide +kernel
theorem dX4_countText_29 : decode cX4_countText 29 = .ok (.aload_n 0, 1) := by decide +kernel
theorem dX4_countText_30 : decode cX4_countText 30 = .ok (.dup, 1) := by decide +kernel
theorem dX4_countText_31 : decode cX4_countText 31 = .ok (.getfield 27, 3) := by decide +kernel
theorem dX4_countText_34 : decode cX4_countText 34 = .ok (.iconst 1, 1) := by decide +kernel
theorem dX4_countText_35 : decode cX4_countText 35 = .ok (.iadd, 1) := by decide +kernel
theorem dX4_countText_36 : decode cX4_countText 36 = .ok (.putfield 27, 3) := by decide +kernel
theorem dX4_countText_39 : decode cX4_countText 39 = .ok (.return_, 1) := by decide +kernel
theorem dX4_law_0 : decode cX4_law 0 = .ok (.iload_n 1, 1) := by decide +kernel
theorem dX4_law_1 : decode cX4_law 1 = .ok (.ifCond .lt 21, 3) := by decide +kernel
theorem dX4_law_4 : decode cX4_law 4 = .ok (.iload_n 1, 1) := by decide +kernel
theorem dX4_law_5 : decode cX4_law 5 = .ok (.aload_n 0, 1) := by decide +kernel
theorem dX4_law_6 : decode cX4_law 6 = .ok (.getfield 19, 3) := by decide +kernel
theorem dX4_law_9 : decode cX4_law 9 = .ok (.arraylength, 1) := by decide +kernel
theorem dX4_law_10 : decode cX4_law 10 = .ok (.if_icmp .ge 12, 3) := by decide +kernel
theorem dX4_law_13 : decode cX4_law 13 = .ok (.aload_n 0, 1) := by decide +kernel
theorem dX4_law_14 : decode cX4_law 14 = .ok (.getfield 19, 3) := by decide +kernel
theorem dX4_law_17 : decode cX4_law 17 = .ok (.iload_n 1, 1) := by decide +kernel
theorem dX4_law_18 : decode cX4_law 18 = .ok (.aaload, 1) := by decide +kernel
theorem dX4_law_19 : decode cX4_law 19 = .ok (.goto 4, 3) := by decide +kernel
theorem dX4_law_22 : decode cX4_law 22 = .ok (.aconst_null, 1) := by decide +kernel
theorem dX4_law_23 : decode cX4_law 23 = .ok (.areturn, 1) := by decide +kernel
theorem dX4_shineOf_0 : decode cX4_shineOf 0 = .ok (.aload_n 1, 1) := by decide +kernel
theorem dX4_shineOf_1 : decode cX4_shineOf 1 = .ok (.getfield 74, 3) := by decide +kernel
theorem dX4_shineOf_4 : decode cX4_shineOf 4 = .ok (.iconst 3, 1) := by decide +kernel
theorem dX4_shineOf_5 : decode cX4_shineOf 5 = .ok (.if_icmp .ne 9, 3) := by decide +kernel
theorem dX4_shineOf_8 : decode cX4_shineOf 8 = .ok (.iconst 2, 1) := by decide +kernel
theorem dX4_shineOf_9 : decode cX4_shineOf 9 = .ok (.iload_n 2, 1) := by decide +kernel
theorem dX4_shineOf_10 : decode cX4_shineOf 10 = .ok (.imul, 1) := by decide +kernel
theorem dX4_shineOf_11 : decode cX4_shineOf 11 = .ok (.goto 4, 3) := by decide +kernel
theorem dX4_shineOf_14 : decode cX4_shineOf 14 = .ok (.iload_n 2, 1) := by decide +kernel
theorem dX4_shineOf_15 : decode cX4_shineOf 15 = .ok (.istore 4, 2) := by decide +kernel
theorem dX4_shineOf_17 : decode cX4_shineOf 17 = .ok (.aload_n 1, 1) := by decide +kernel
theorem dX4_shineOf_18 : decode cX4_shineOf 18 = .ok (.getfield 74, 3) := by decide +kernel
theorem dX4_shineOf_21 : decode cX4_shineOf 21 = .ok (.iconst 5, 1) := by decide +kernel
theorem dX4_shineOf_22 : decode cX4_shineOf 22 = .ok (.if_icmp .ne 7, 3) := by decide +kernel
theorem dX4_shineOf_25 : decode cX4_shineOf 25 = .ok (.iconst 0, 1) := by decide +kernel
theorem dX4_shineOf_26 : decode cX4_shineOf 26 = .ok (.goto 4, 3) := by decide +kernel
theorem dX4_shineOf_29 : decode cX4_shineOf 29 = .ok (.iload_n 3, 1) := by decide +kernel
theorem dX4_shineOf_30 : decode cX4_shineOf 30 = .ok (.istore 5, 2) := by decide +kernel
theorem dX4_shineOf_32 : decode cX4_shineOf 32 = .ok (.aload_n 0, 1) := by decide +kernel
theorem dX4_shineOf_33 : decode cX4_shineOf 33 = .ok (.iconst 0, 1) := by decide +kernel
theorem dX4_shineOf_34 : decode cX4_shineOf 34 = .ok (.invokevirtual 77, 3) := by decide +kernel
theorem dX4_shineOf_37 : decode cX4_shineOf 37 = .ok (.astore 6, 2) := by decide +kernel
theorem dX4_shineOf_39 : decode cX4_shineOf 39 = .ok (.aload 6, 2) := by decide +kernel
theorem dX4_shineOf_41 : decode cX4_shineOf 41 = .ok (.ifnonnull 13, 3) := by decide +kernel
theorem dX4_shineOf_44 : decode cX4_shineOf 44 = .ok (.iload 4, 2) := by decide +kernel
theorem dX4_shineOf_46 : decode cX4_shineOf 46 = .ok (.iload 5, 2) := by decide +kernel
theorem dX4_shineOf_48 : decode cX4_shineOf 48 = .ok (.invokestatic 81, 3) := by decide +kernel
theorem dX4_shineOf_51 : decode cX4_shineOf 51 = .ok (.goto 16, 3) := by decide +kernel
theorem dX4_shineOf_54 : decode cX4_shineOf 54 = .ok (.aload 6, 2) := by decide +kernel
theorem dX4_shineOf_56 : decode cX4_shineOf 56 = .ok (.iload 4, 2) := by decide +kernel
theorem dX4_shineOf_58 : decode cX4_shineOf 58 = .ok (.iload 5, 2) := by decide +kernel
theorem dX4_shineOf_60 : decode cX4_shineOf 60 = .ok (.aload_n 1, 1) := by decide +kernel
theorem dX4_shineOf_61 : decode cX4_shineOf 61 = .ok (.getfield 85, 3) := by decide +kernel
theorem dX4_shineOf_64 : decode cX4_shineOf 64 = .ok (.invokevirtual 88, 3) := by decide +kernel
theorem dX4_shineOf_67 : decode cX4_shineOf 67 = .ok (.istore 7, 2) := by decide +kernel
theorem dX4_shineOf_69 : decode cX4_shineOf 69 = .ok (.aload_n 1, 1) := by decide +kernel
theorem dX4_shineOf_70 : decode cX4_shineOf 70 = .ok (.getfield 74, 3) := by decide +kernel
theorem dX4_shineOf_73 : decode cX4_shineOf 73 = .ok (.iload_n 2, 1) := by decide +kernel
theorem dX4_shineOf_74 : decode cX4_shineOf 74 = .ok (.iconst 0, 1) := by decide +kernel
theorem dX4_shineOf_75 : decode cX4_shineOf 75 = .ok (.sipush 999, 3) := by decide +kernel
theorem dX4_shineOf_78 : decode cX4_shineOf 78 = .ok (.iload 7, 2) := by decide +kernel
theorem dX4_shineOf_80 : decode cX4_shineOf 80 = .ok (.invokestatic 92, 3) := by decide +kernel
theorem dX4_shineOf_83 : decode cX4_shineOf 83 = .ok (.invokestatic 97, 3) := by decide +kernel
theorem dX4_shineOf_86 : decode cX4_shineOf 86 = .ok (.invokestatic 100, 3) := by decide +kernel
theorem dX4_shineOf_89 : decode cX4_shineOf 89 = .ok (.ireturn, 1) := by decide +kernel
theorem dX4_bareShine_0 : decode cX4_bareShine 0 = .ok (.iconst 1, 1) := by decide +kernel
theorem dX4_bareShine_1 : decode cX4_bareShine 1 = .ok (.iload_n 0, 1) := by decide +kernel
theorem dX4_bareShine_2 : decode cX4_bareShine 2 = .ok (.iadd, 1) := by decide +kernel
theorem dX4_bareShine_3 : decode cX4_bareShine 3 = .ok (.istore_n 2, 1) := by decide +kernel
theorem dX4_bareShine_4 : decode cX4_bareShine 4 = .ok (.iload_n 2, 1) := by decide +kernel
theorem dX4_bareShine_5 : decode cX4_bareShine 5 = .ok (.iconst 1, 1) := by decide +kernel
theorem dX4_bareShine_6 : decode cX4_bareShine 6 = .ok (.if_icmp .ge 7, 3) := by decide +kernel
theorem dX4_bareShine_9 : decode cX4_bareShine 9 = .ok (.iconst 0, 1) := by decide +kernel
theorem dX4_bareShine_10 : decode cX4_bareShine 10 = .ok (.goto 14, 3) := by decide +kernel
theorem dX4_bareShine_13 : decode cX4_bareShine 13 = .ok (.bipush 100, 2) := by decide +kernel
theorem dX4_bareShine_15 : decode cX4_bareShine 15 = .ok (.bipush 60, 2) := by decide +kernel
theorem dX4_bareShine_17 : decode cX4_bareShine 17 = .ok (.iload_n 2, 1) := by decide +kernel
theorem dX4_bareShine_18 : decode cX4_bareShine 18 = .ok (.idiv, 1) := by decide +kernel
theorem dX4_bareShine_19 : decode cX4_bareShine 19 = .ok (.isub, 1) := by decide +kernel
theorem dX4_bareShine_20 : decode cX4_bareShine 20 = .ok (.iconst 3, 1) := by decide +kernel
theorem dX4_bareShine_21 : decode cX4_bareShine 21 = .ok (.iload_n 1, 1) := by decide +kernel
theorem dX4_bareShine_22 : decode cX4_bareShine 22 = .ok (.imul, 1) := by decide +kernel
theorem dX4_bareShine_23 : decode cX4_bareShine 23 = .ok (.isub, 1) := by decide +kernel
theorem dX4_bareShine_24 : decode cX4_bareShine 24 = .ok (.ireturn, 1) := by decide +kernel
theorem dX4_draw_0 : decode cX4_draw 0 = .ok (.aload_n 0, 1) := by decide +kernel
theorem dX4_draw_1 : decode cX4_draw 1 = .ok (.aload_n 0, 1) := by decide +kernel
theorem dX4_draw_2 : decode cX4_draw 2 = .ok (.getfield 45, 3) := by decide +kernel
theorem dX4_draw_5 : decode cX4_draw 5 = .ok (.ldc 105, 2) := by decide +kernel
theorem dX4_draw_7 : decode cX4_draw 7 = .ok (.imul, 1) := by decide +kernel
theorem dX4_draw_8 : decode cX4_draw 8 = .ok (.sipush 12345, 3) := by decide +kernel
theorem dX4_draw_11 : decode cX4_draw 11 = .ok (.iadd, 1) := by decide +kernel
theorem dX4_draw_12 : decode cX4_draw 12 = .ok (.putfield 45, 3) := by decide +kernel
theorem dX4_draw_15 : decode cX4_draw 15 = .ok (.aload_n 0, 1) := by decide +kernel
theorem dX4_draw_16 : decode cX4_draw 16 = .ok (.getfield 45, 3) := by decide +kernel
theorem dX4_draw_19 : decode cX4_draw 19 = .ok (.bipush 8, 2) := by decide +kernel
theorem dX4_draw_21 : decode cX4_draw 21 = .ok (.iushr, 1) := by decide +kernel
theorem dX4_draw_22 : decode cX4_draw 22 = .ok (.ireturn, 1) := by decide +kernel
theorem dX4_passMinutes_0 : decode cX4_passMinutes 0 = .ok (.iconst 0, 1) := by decide +kernel
theorem dX4_passMinutes_1 : decode cX4_passMinutes 1 = .ok (.istore_n 2, 1) := by decide +kernel
theorem dX4_passMinutes_2 : decode cX4_passMinutes 2 = .ok (.iconst 0, 1) := by decide +kernel
theorem dX4_passMinutes_3 : decode cX4_passMinutes 3 = .ok (.istore_n 3, 1) := by decide +kernel
theorem dX4_passMinutes_4 : decode cX4_passMinutes 4 = .ok (.iload_n 3, 1) := by decide +kernel
theorem dX4_passMinutes_5 : decode cX4_passMinutes 5 = .ok (.iload_n 1, 1) := by decide +kernel
theorem dX4_passMinutes_6 : decode cX4_passMinutes 6 = .ok (.if_icmp .ge 16, 3) := by decide +kernel
theorem dX4_passMinutes_9 : decode cX4_passMinutes 9 = .ok (.iload_n 2, 1) := by decide +kernel
theorem dX4_passMinutes_10 : decode cX4_passMinutes 10 = .ok (.aload_n 0, 1) := by decide +kernel
theorem dX4_passMinutes_11 : decode cX4_passMinutes 11 = .ok (.invokevirtual 106, 3) := by decide +kernel
theorem dX4_passMinutes_14 : decode cX4_passMinutes 14 = .ok (.iadd, 1) := by decide +kernel
theorem dX4_passMinutes_15 : decode cX4_passMinutes 15 = .ok (.istore_n 2, 1) := by decide +kernel
theorem dX4_passMinutes_16 : decode cX4_passMinutes 16 = .ok (.iinc 3 1, 3) := by decide +kernel
theorem dX4_passMinutes_19 : decode cX4_passMinutes 19 = .ok (.goto (-15), 3) := by decide +kernel
theorem dX4_passMinutes_22 : decode cX4_passMinutes 22 = .ok (.iload_n 2, 1) := by decide +kernel
theorem dX4_passMinutes_23 : decode cX4_passMinutes 23 = .ok (.ireturn, 1) := by decide +kernel
theorem dX4_passMinute_0 : decode cX4_passMinute 0 = .ok (.iconst 0, 1) := by decide +kernel
theorem dX4_passMinute_1 : decode cX4_passMinute 1 = .ok (.istore_n 1, 1) := by decide +kernel
theorem dX4_passMinute_2 : decode cX4_passMinute 2 = .ok (.iload_n 1, 1) := by decide +kernel
theorem dX4_passMinute_3 : decode cX4_passMinute 3 = .ok (.aload_n 0, 1) := by decide +kernel
theorem dX4_passMinute_4 : decode cX4_passMinute 4 = .ok (.getfield 23, 3) := by decide +kernel
theorem dX4_passMinute_7 : decode cX4_passMinute 7 = .ok (.if_icmp .ge 36, 3) := by decide +kernel
theorem dX4_passMinute_10 : decode cX4_passMinute 10 = .ok (.aload_n 0, 1) := by decide +kernel
theorem dX4_passMinute_11 : decode cX4_passMinute 11 = .ok (.getfield 11, 3) := by decide +kernel
theorem dX4_passMinute_14 : decode cX4_passMinute 14 = .ok (.iload_n 1, 1) := by decide +kernel
theorem dX4_passMinute_15 : decode cX4_passMinute 15 = .ok (.aaload, 1) := by decide +kernel
theorem dX4_passMinute_16 : decode cX4_passMinute 16 = .ok (.getfield 109, 3) := by decide +kernel
theorem dX4_passMinute_19 : decode cX4_passMinute 19 = .ok (.ifCond .le 18, 3) := by decide +kernel
theorem dX4_passMinute_22 : decode cX4_passMinute 22 = .ok (.aload_n 0, 1) := by decide +kernel
theorem dX4_passMinute_23 : decode cX4_passMinute 23 = .ok (.getfield 11, 3) := by decide +kernel
theorem dX4_passMinute_26 : decode cX4_passMinute 26 = .ok (.iload_n 1, 1) := by decide +kernel
theorem dX4_passMinute_27 : decode cX4_passMinute 27 = .ok (.aaload, 1) := by decide +kernel
theorem dX4_passMinute_28 : decode cX4_passMinute 28 = .ok (.dup, 1) := by decide +kernel
theorem dX4_passMinute_29 : decode cX4_passMinute 29 = .ok (.getfield 109, 3) := by decide +kernel
theorem dX4_passMinute_32 : decode cX4_passMinute 32 = .ok (.iconst 1, 1) := by decide +kernel
theorem dX4_passMinute_33 : decode cX4_passMinute 33 = .ok (.isub, 1) := by decide +kernel
theorem dX4_passMinute_34 : decode cX4_passMinute 34 = .ok (.putfield 109, 3) := by decide +kernel
theorem dX4_passMinute_37 : decode cX4_passMinute 37 = .ok (.iinc 1 1, 3) := by decide +kernel
theorem dX4_passMinute_40 : decode cX4_passMinute 40 = .ok (.goto (-38), 3) := by decide +kernel
theorem dX4_passMinute_43 : decode cX4_passMinute 43 = .ok (.aload_n 0, 1) := by decide +kernel
theorem dX4_passMinute_44 : decode cX4_passMinute 44 = .ok (.getfield 48, 3) := by decide +kernel
theorem dX4_passMinute_47 : decode cX4_passMinute 47 = .ok (.istore_n 1, 1) := by decide +kernel
theorem dX4_passMinute_48 : decode cX4_passMinute 48 = .ok (.aload_n 0, 1) := by decide +kernel
theorem dX4_passMinute_49 : decode cX4_passMinute 49 = .ok (.invokevirtual 64, 3) := by decide +kernel
theorem dX4_passMinute_52 : decode cX4_passMinute 52 = .ok (.bipush 100, 2) := by decide +kernel
theorem dX4_passMinute_54 : decode cX4_passMinute 54 = .ok (.irem, 1) := by decide +kernel
theorem dX4_passMinute_55 : decode cX4_passMinute 55 = .ok (.aload_n 0, 1) := by decide +kernel
theorem dX4_passMinute_56 : decode cX4_passMinute 56 = .ok (.getfield 36, 3) := by decide +kernel
theorem dX4_passMinute_59 : decode cX4_passMinute 59 = .ok (.if_icmp .ge 19, 3) := by decide +kernel
theorem dX4_passMinute_62 : decode cX4_passMinute 62 = .ok (.aload_n 0, 1) := by decide +kernel
theorem dX4_passMinute_63 : decode cX4_passMinute 63 = .ok (.aload_n 0, 1) := by decide +kernel
theorem dX4_passMinute_64 : decode cX4_passMinute 64 = .ok (.getfield 48, 3) := by decide +kernel
theorem dX4_passMinute_67 : decode cX4_passMinute 67 = .ok (.ifCond .ne 7, 3) := by decide +kernel
theorem dX4_passMinute_70 : decode cX4_passMinute 70 = .ok (.iconst 1, 1) := by decide +kernel
theorem dX4_passMinute_71 : decode cX4_passMinute 71 = .ok (.goto 4, 3) := by decide +kernel
theorem dX4_passMinute_74 : decode cX4_passMinute 74 = .ok (.iconst 0, 1) := by decide +kernel
theorem dX4_passMinute_75 : decode cX4_passMinute 75 = .ok (.putfield 48, 3) := by decide +kernel
theorem dX4_passMinute_78 : decode cX4_passMinute 78 = .ok (.aload_n 0, 1) := by decide +kernel
theorem dX4_passMinute_79 : decode cX4_passMinute 79 = .ok (.invokevirtual 64, 3) := by decide +kernel
theorem dX4_passMinute_82 : decode cX4_passMinute 82 = .ok (.iconst 3, 1) := by decide +kernel
theorem dX4_passMinute_83 : decode cX4_passMinute 83 = .ok (.irem, 1) := by decide +kernel
theorem dX4_passMinute_84 : decode cX4_passMinute 84 = .ok (.istore_n 2, 1) := by decide +kernel
theorem dX4_passMinute_85 : decode cX4_passMinute 85 = .ok (.aload_n 0, 1) := by decide +kernel
theorem dX4_passMinute_86 : decode cX4_passMinute 86 = .ok (.getfield 48, 3) := by decide +kernel
theorem dX4_passMinute_89 : decode cX4_passMinute 89 = .ok (.ifCond .eq 8, 3) := by decide +kernel
theorem dX4_passMinute_92 : decode cX4_passMinute 92 = .ok (.iconst 0, 1) := by decide +kernel
theorem dX4_passMinute_93 : decode cX4_passMinute 93 = .ok (.istore_n 2, 1) := by decide +kernel
theorem dX4_passMinute_94 : decode cX4_passMinute 94 = .ok (.goto 10, 3) := by decide +kernel
theorem dX4_passMinute_97 : decode cX4_passMinute 97 = .ok (.iload_n 1, 1) := by decide +kernel
theorem dX4_passMinute_98 : decode cX4_passMinute 98 = .ok (.ifCond .eq 6, 3) := by decide +kernel
theorem dX4_passMinute_101 : decode cX4_passMinute 101 = .ok (.iinc 2 2, 3) := by decide +kernel
theorem dX4_passMinute_104 : decode cX4_passMinute 104 = .ok (.iconst 0, 1) := by decide +kernel
theorem dX4_passMinute_105 : decode cX4_passMinute 105 = .ok (.istore_n 3, 1) := by decide +kernel
theorem dX4_passMinute_106 : decode cX4_passMinute 106 = .ok (.iconst 0, 1) := by decide +kernel
theorem dX4_passMinute_107 : decode cX4_passMinute 107 = .ok (.istore 4, 2) := by decide +kernel
theorem dX4_passMinute_109 : decode cX4_passMinute 109 = .ok (.iload 4, 2) := by decide +kernel
theorem dX4_passMinute_111 : decode cX4_passMinute 111 = .ok (.iload_n 2, 1) := by decide +kernel
theorem dX4_passMinute_112 : decode cX4_passMinute 112 = .ok (.if_icmp .ge 16, 3) := by decide +kernel
theorem dX4_passMinute_115 : decode cX4_passMinute 115 = .ok (.iload_n 3, 1) := by decide +kernel
theorem dX4_passMinute_116 : decode cX4_passMinute 116 = .ok (.aload_n 0, 1) := by decide +kernel
theorem dX4_passMinute_117 : decode cX4_passMinute 117 = .ok (.invokevirtual 112, 3) := by decide +kernel
theorem dX4_passMinute_120 : decode cX4_passMinute 120 = .ok (.iadd, 1) := by decide +kernel
theorem dX4_passMinute_121 : decode cX4_passMinute 121 = .ok (.istore_n 3, 1) := by decide +kernel
theorem dX4_passMinute_122 : decode cX4_passMinute 122 = .ok (.iinc 4 1, 3) := by decide +kernel
theorem dX4_passMinute_125 : decode cX4_passMinute 125 = .ok (.goto (-16), 3) := by decide +kernel
theorem dX4_passMinute_128 : decode cX4_passMinute 128 = .ok (.aload_n 0, 1) := by decide +kernel
theorem dX4_passMinute_129 : decode cX4_passMinute 129 = .ok (.dup, 1) := by decide +kernel
theorem dX4_passMinute_130 : decode cX4_passMinute 130 = .ok (.getfield 42, 3) := by decide +kernel
theorem dX4_passMinute_133 : decode cX4_passMinute 133 = .ok (.iconst 1, 1) := by decide +kernel
theorem dX4_passMinute_134 : decode cX4_passMinute 134 = .ok (.iadd, 1) := by decide +kernel
theorem dX4_passMinute_135 : decode cX4_passMinute 135 = .ok (.putfield 42, 3) := by decide +kernel
theorem dX4_passMinute_138 : decode cX4_passMinute 138 = .ok (.iload_n 3, 1) := by decide +kernel
theorem dX4_passMinute_139 : decode cX4_passMinute 139 = .ok (.ireturn, 1) := by decide +kernel
theorem dX4_receiveMan_0 : decode cX4_receiveMan 0 = .ok (.aload_n 0, 1) := by decide +kernel
theorem dX4_receiveMan_1 : decode cX4_receiveMan 1 = .ok (.invokevirtual 64, 3) := by decide +kernel
theorem dX4_receiveMan_4 : decode cX4_receiveMan 4 = .ok (.bipush 10, 2) := by decide +kernel
theorem dX4_receiveMan_6 : decode cX4_receiveMan 6 = .ok (.irem, 1) := by decide +kernel
theorem dX4_receiveMan_7 : decode cX4_receiveMan 7 = .ok (.istore_n 1, 1) := by decide +kernel
theorem dX4_receiveMan_8 : decode cX4_receiveMan 8 = .ok (.aload_n 0, 1) := by decide +kernel
theorem dX4_receiveMan_9 : decode cX4_receiveMan 9 = .ok (.invokevirtual 64, 3) := by decide +kernel
theorem dX4_receiveMan_12 : decode cX4_receiveMan 12 = .ok (.bipush 10, 2) := by decide +kernel
theorem dX4_receiveMan_14 : decode cX4_receiveMan 14 = .ok (.irem, 1) := by decide +kernel
theorem dX4_receiveMan_15 : decode cX4_receiveMan 15 = .ok (.istore_n 2, 1) := by decide +kernel
theorem dX4_receiveMan_16 : decode cX4_receiveMan 16 = .ok (.iconst 1, 1) := by decide +kernel
theorem dX4_receiveMan_17 : decode cX4_receiveMan 17 = .ok (.aload_n 0, 1) := by decide +kernel
theorem dX4_receiveMan_18 : decode cX4_receiveMan 18 = .ok (.invokevirtual 64, 3) := by decide +kernel
theorem dX4_receiveMan_21 : decode cX4_receiveMan 21 = .ok (.bipush 9, 2) := by decide +kernel
theorem dX4_receiveMan_23 : decode cX4_receiveMan 23 = .ok (.irem, 1) := by decide +kernel
theorem dX4_receiveMan_24 : decode cX4_receiveMan 24 = .ok (.iadd, 1) := by decide +kernel
theorem dX4_receiveMan_25 : decode cX4_receiveMan 25 = .ok (.istore_n 3, 1) := by decide +kernel
theorem dX4_receiveMan_26 : decode cX4_receiveMan 26 = .ok (.aload_n 0, 1) := by decide +kernel
theorem dX4_receiveMan_27 : decode cX4_receiveMan 27 = .ok (.iload_n 1, 1) := by decide +kernel
theorem dX4_receiveMan_28 : decode cX4_receiveMan 28 = .ok (.iload_n 3, 1) := by decide +kernel
theorem dX4_receiveMan_29 : decode cX4_receiveMan 29 = .ok (.invokevirtual 115, 3) := by decide +kernel
theorem dX4_receiveMan_32 : decode cX4_receiveMan 32 = .ok (.istore 4, 2) := by decide +kernel
theorem dX4_receiveMan_34 : decode cX4_receiveMan 34 = .ok (.iload 4, 2) := by decide +kernel
theorem dX4_receiveMan_36 : decode cX4_receiveMan 36 = .ok (.ifCond .ge 15, 3) := by decide +kernel
theorem dX4_receiveMan_39 : decode cX4_receiveMan 39 = .ok (.aload_n 0, 1) := by decide +kernel
theorem dX4_receiveMan_40 : decode cX4_receiveMan 40 = .ok (.dup, 1) := by decide +kernel
theorem dX4_receiveMan_41 : decode cX4_receiveMan 41 = .ok (.getfield 39, 3) := by decide +kernel
theorem dX4_receiveMan_44 : decode cX4_receiveMan 44 = .ok (.iconst 1, 1) := by decide +kernel
theorem dX4_receiveMan_45 : decode cX4_receiveMan 45 = .ok (.iadd, 1) := by decide +kernel
theorem dX4_receiveMan_46 : decode cX4_receiveMan 46 = .ok (.putfield 39, 3) := by decide +kernel
theorem dX4_receiveMan_49 : decode cX4_receiveMan 49 = .ok (.iconst 0, 1) := by decide +kernel
theorem dX4_receiveMan_50 : decode cX4_receiveMan 50 = .ok (.ireturn, 1) := by decide +kernel
theorem dX4_receiveMan_51 : decode cX4_receiveMan 51 = .ok (.aload_n 0, 1) := by decide +kernel
theorem dX4_receiveMan_52 : decode cX4_receiveMan 52 = .ok (.getfield 11, 3) := by decide +kernel
theorem dX4_receiveMan_55 : decode cX4_receiveMan 55 = .ok (.iload 4, 2) := by decide +kernel
theorem dX4_receiveMan_57 : decode cX4_receiveMan 57 = .ok (.aaload, 1) := by decide +kernel
theorem dX4_receiveMan_58 : decode cX4_receiveMan 58 = .ok (.astore 5, 2) := by decide +kernel
theorem dX4_receiveMan_60 : decode cX4_receiveMan 60 = .ok (.aload 5, 2) := by decide +kernel
theorem dX4_receiveMan_62 : decode cX4_receiveMan 62 = .ok (.aload 5, 2) := by decide +kernel
theorem dX4_receiveMan_64 : decode cX4_receiveMan 64 = .ok (.getfield 74, 3) := by decide +kernel
theorem dX4_receiveMan_67 : decode cX4_receiveMan 67 = .ok (.aload 5, 2) := by decide +kernel
theorem dX4_receiveMan_69 : decode cX4_receiveMan 69 = .ok (.getfield 118, 3) := by decide +kernel
theorem dX4_receiveMan_72 : decode cX4_receiveMan 72 = .ok (.invokestatic 121, 3) := by decide +kernel
theorem dX4_receiveMan_75 : decode cX4_receiveMan 75 = .ok (.putfield 109, 3) := by decide +kernel
theorem dX4_receiveMan_78 : decode cX4_receiveMan 78 = .ok (.aload 5, 2) := by decide +kernel
theorem dX4_receiveMan_80 : decode cX4_receiveMan 80 = .ok (.dup, 1) := by decide +kernel
theorem dX4_receiveMan_81 : decode cX4_receiveMan 81 = .ok (.getfield 124, 3) := by decide +kernel
theorem dX4_receiveMan_84 : decode cX4_receiveMan 84 = .ok (.iconst 1, 1) := by decide +kernel
theorem dX4_receiveMan_85 : decode cX4_receiveMan 85 = .ok (.iadd, 1) := by decide +kernel
theorem dX4_receiveMan_86 : decode cX4_receiveMan 86 = .ok (.putfield 124, 3) := by decide +kernel
theorem dX4_receiveMan_89 : decode cX4_receiveMan 89 = .ok (.aload 5, 2) := by decide +kernel
theorem dX4_receiveMan_91 : decode cX4_receiveMan 91 = .ok (.aload_n 0, 1) := by decide +kernel
theorem dX4_receiveMan_92 : decode cX4_receiveMan 92 = .ok (.aload 5, 2) := by decide +kernel
theorem dX4_receiveMan_94 : decode cX4_receiveMan 94 = .ok (.aload 5, 2) := by decide +kernel
theorem dX4_receiveMan_96 : decode cX4_receiveMan 96 = .ok (.getfield 118, 3) := by decide +kernel
theorem dX4_receiveMan_99 : decode cX4_receiveMan 99 = .ok (.iload_n 2, 1) := by decide +kernel
theorem dX4_receiveMan_100 : decode cX4_receiveMan 100 = .ok (.invokevirtual 127, 3) := by decide +kernel
theorem dX4_receiveMan_103 : decode cX4_receiveMan 103 = .ok (.invokestatic 131, 3) := by decide +kernel
theorem dX4_receiveMan_106 : decode cX4_receiveMan 106 = .ok (.istore 6, 2) := by decide +kernel
theorem dX4_receiveMan_108 : decode cX4_receiveMan 108 = .ok (.iload 6, 2) := by decide +kernel
theorem dX4_receiveMan_110 : decode cX4_receiveMan 110 = .ok (.aload_n 0, 1) := by decide +kernel
theorem dX4_receiveMan_111 : decode cX4_receiveMan 111 = .ok (.getfield 30, 3) := by decide +kernel
theorem dX4_receiveMan_114 : decode cX4_receiveMan 114 = .ok (.imul, 1) := by decide +kernel
theorem dX4_receiveMan_115 : decode cX4_receiveMan 115 = .ok (.bipush 100, 2) := by decide +kernel
theorem dX4_receiveMan_117 : decode cX4_receiveMan 117 = .ok (.idiv, 1) := by decide +kernel
theorem dX4_receiveMan_118 : decode cX4_receiveMan 118 = .ok (.istore 7, 2) := by decide +kernel
theorem dX4_receiveMan_120 : decode cX4_receiveMan 120 = .ok (.aload_n 0, 1) := by decide +kernel
theorem dX4_receiveMan_121 : decode cX4_receiveMan 121 = .ok (.dup, 1) := by decide +kernel
theorem dX4_receiveMan_122 : decode cX4_receiveMan 122 = .ok (.getfield 33, 3) := by decide +kernel
theorem dX4_receiveMan_125 : decode cX4_receiveMan 125 = .ok (.iload 7, 2) := by decide +kernel
theorem dX4_receiveMan_127 : decode cX4_receiveMan 127 = .ok (.iadd, 1) := by decide +kernel
theorem dX4_receiveMan_128 : decode cX4_receiveMan 128 = .ok (.putfield 33, 3) := by decide +kernel
theorem dX4_receiveMan_131 : decode cX4_receiveMan 131 = .ok (.aload 5, 2) := by decide +kernel
theorem dX4_receiveMan_133 : decode cX4_receiveMan 133 = .ok (.dup, 1) := by decide +kernel
theorem dX4_receiveMan_134 : decode cX4_receiveMan 134 = .ok (.getfield 135, 3) := by decide +kernel
theorem dX4_receiveMan_137 : decode cX4_receiveMan 137 = .ok (.iload 6, 2) := by decide +kernel
theorem dX4_receiveMan_139 : decode cX4_receiveMan 139 = .ok (.iload 7, 2) := by decide +kernel
theorem dX4_receiveMan_141 : decode cX4_receiveMan 141 = .ok (.isub, 1) := by decide +kernel
theorem dX4_receiveMan_142 : decode cX4_receiveMan 142 = .ok (.iadd, 1) := by decide +kernel
theorem dX4_receiveMan_143 : decode cX4_receiveMan 143 = .ok (.putfield 135, 3) := by decide +kernel
theorem dX4_receiveMan_146 : decode cX4_receiveMan 146 = .ok (.iconst 1, 1) := by decide +kernel
theorem dX4_receiveMan_147 : decode cX4_receiveMan 147 = .ok (.ireturn, 1) := by decide +kernel
theorem dX4_paidTo_0 : decode cX4_paidTo 0 = .ok (.iload_n 1, 1) := by decide +kernel
theorem dX4_paidTo_1 : decode cX4_paidTo 1 = .ok (.bipush 30, 2) := by decide +kernel
theorem dX4_paidTo_3 : decode cX4_paidTo 3 = .ok (.if_icmp .ge 5, 3) := by decide +kernel
theorem dX4_paidTo_6 : decode cX4_paidTo 6 = .ok (.iconst 0, 1) := by decide +kernel
theorem dX4_paidTo_7 : decode cX4_paidTo 7 = .ok (.ireturn, 1) := by decide +kernel
theorem dX4_paidTo_8 : decode cX4_paidTo 8 = .ok (.aload_n 0, 1) := by decide +kernel
theorem dX4_paidTo_9 : decode cX4_paidTo 9 = .ok (.getfield 74, 3) := by decide +kernel
theorem dX4_paidTo_12 : decode cX4_paidTo 12 = .ok (.aload_n 0, 1) := by decide +kernel
theorem dX4_paidTo_13 : decode cX4_paidTo 13 = .ok (.getfield 138, 3) := by decide +kernel
theorem dX4_paidTo_16 : decode cX4_paidTo 16 = .ok (.invokestatic 141, 3) := by decide +kernel
theorem dX4_paidTo_19 : decode cX4_paidTo 19 = .ok (.istore_n 2, 1) := by decide +kernel
theorem dX4_paidTo_20 : decode cX4_paidTo 20 = .ok (.iload_n 1, 1) := by decide +kernel
theorem dX4_paidTo_21 : decode cX4_paidTo 21 = .ok (.bipush 90, 2) := by decide +kernel
theorem dX4_paidTo_23 : decode cX4_paidTo 23 = .ok (.if_icmp .lt 9, 3) := by decide +kernel
theorem dX4_paidTo_26 : decode cX4_paidTo 26 = .ok (.iload_n 2, 1) := by decide +kernel
theorem dX4_paidTo_27 : decode cX4_paidTo 27 = .ok (.iconst 1, 1) := by decide +kernel
theorem dX4_paidTo_28 : decode cX4_paidTo 28 = .ok (.iadd, 1) := by decide +kernel
theorem dX4_paidTo_29 : decode cX4_paidTo 29 = .ok (.goto 4, 3) := by decide +kernel
theorem dX4_paidTo_32 : decode cX4_paidTo 32 = .ok (.iload_n 2, 1) := by decide +kernel
theorem dX4_paidTo_33 : decode cX4_paidTo 33 = .ok (.ireturn, 1) := by decide +kernel
theorem dX4_chosenBoy_0 : decode cX4_chosenBoy 0 = .ok (.iconst (-1), 1) := by decide +kernel
theorem dX4_chosenBoy_1 : decode cX4_chosenBoy 1 = .ok (.istore_n 3, 1) := by decide +kernel
theorem dX4_chosenBoy_2 : decode cX4_chosenBoy 2 = .ok (.iconst 0, 1) := by decide +kernel
theorem dX4_chosenBoy_3 : decode cX4_chosenBoy 3 = .ok (.istore 4, 2) := by decide +kernel
theorem dX4_chosenBoy_5 : decode cX4_chosenBoy 5 = .ok (.iconst 0, 1) := by decide +kernel
theorem dX4_chosenBoy_6 : decode cX4_chosenBoy 6 = .ok (.istore 5, 2) := by decide +kernel
theorem dX4_chosenBoy_8 : decode cX4_chosenBoy 8 = .ok (.iload 5, 2) := by decide +kernel
theorem dX4_chosenBoy_10 : decode cX4_chosenBoy 10 = .ok (.aload_n 0, 1) := by decide +kernel
theorem dX4_chosenBoy_11 : decode cX4_chosenBoy 11 = .ok (.getfield 23, 3) := by decide +kernel
theorem dX4_chosenBoy_14 : decode cX4_chosenBoy 14 = .ok (.if_icmp .ge 99, 3) := by decide +kernel
theorem dX4_chosenBoy_17 : decode cX4_chosenBoy 17 = .ok (.aload_n 0, 1) := by decide +kernel
theorem dX4_chosenBoy_18 : decode cX4_chosenBoy 18 = .ok (.getfield 11, 3) := by decide +kernel
theorem dX4_chosenBoy_21 : decode cX4_chosenBoy 21 = .ok (.iload 5, 2) := by decide +kernel
theorem dX4_chosenBoy_23 : decode cX4_chosenBoy 23 = .ok (.aaload, 1) := by decide +kernel
theorem dX4_chosenBoy_24 : decode cX4_chosenBoy 24 = .ok (.astore 6, 2) := by decide +kernel
theorem dX4_chosenBoy_26 : decode cX4_chosenBoy 26 = .ok (.iload 5, 2) := by decide +kernel
theorem dX4_chosenBoy_28 : decode cX4_chosenBoy 28 = .ok (.aload_n 0, 1) := by decide +kernel
theorem dX4_chosenBoy_29 : decode cX4_chosenBoy 29 = .ok (.getfield 52, 3) := by decide +kernel
theorem dX4_chosenBoy_32 : decode cX4_chosenBoy 32 = .ok (.if_icmp .eq 75, 3) := by decide +kernel
theorem dX4_chosenBoy_35 : decode cX4_chosenBoy 35 = .ok (.aload 6, 2) := by decide +kernel
theorem dX4_chosenBoy_37 : decode cX4_chosenBoy 37 = .ok (.getfield 109, 3) := by decide +kernel
theorem dX4_chosenBoy_40 : decode cX4_chosenBoy 40 = .ok (.ifCond .gt 67, 3) := by decide +kernel
theorem dX4_chosenBoy_43 : decode cX4_chosenBoy 43 = .ok (.aload 6, 2) := by decide +kernel
theorem dX4_chosenBoy_45 : decode cX4_chosenBoy 45 = .ok (.getfield 74, 3) := by decide +kernel
theorem dX4_chosenBoy_48 : decode cX4_chosenBoy 48 = .ok (.aload 6, 2) := by decide +kernel
theorem dX4_chosenBoy_50 : decode cX4_chosenBoy 50 = .ok (.getfield 118, 3) := by decide +kernel
theorem dX4_chosenBoy_53 : decode cX4_chosenBoy 53 = .ok (.invokestatic 121, 3) := by decide +kernel
theorem dX4_chosenBoy_56 : decode cX4_chosenBoy 56 = .ok (.iload_n 2, 1) := by decide +kernel
theorem dX4_chosenBoy_57 : decode cX4_chosenBoy 57 = .ok (.if_icmp .le 6, 3) := by decide +kernel
theorem dX4_chosenBoy_60 : decode cX4_chosenBoy 60 = .ok (.goto 47, 3) := by decide +kernel
theorem dX4_chosenBoy_63 : decode cX4_chosenBoy 63 = .ok (.aload 6, 2) := by decide +kernel
theorem dX4_chosenBoy_65 : decode cX4_chosenBoy 65 = .ok (.getfield 74, 3) := by decide +kernel
theorem dX4_chosenBoy_68 : decode cX4_chosenBoy 68 = .ok (.aload 6, 2) := by decide +kernel
theorem dX4_chosenBoy_70 : decode cX4_chosenBoy 70 = .ok (.getfield 138, 3) := by decide +kernel
theorem dX4_chosenBoy_73 : decode cX4_chosenBoy 73 = .ok (.invokestatic 141, 3) := by decide +kernel
theorem dX4_chosenBoy_76 : decode cX4_chosenBoy 76 = .ok (.aload 6, 2) := by decide +kernel
theorem dX4_chosenBoy_78 : decode cX4_chosenBoy 78 = .ok (.getfield 85, 3) := by decide +kernel
theorem dX4_chosenBoy_81 : decode cX4_chosenBoy 81 = .ok (.iload_n 1, 1) := by decide +kernel
theorem dX4_chosenBoy_82 : decode cX4_chosenBoy 82 = .ok (.isub, 1) := by decide +kernel
theorem dX4_chosenBoy_83 : decode cX4_chosenBoy 83 = .ok (.invokestatic 144, 3) := by decide +kernel
theorem dX4_chosenBoy_86 : decode cX4_chosenBoy 86 = .ok (.iadd, 1) := by decide +kernel
theorem dX4_chosenBoy_87 : decode cX4_chosenBoy 87 = .ok (.istore 7, 2) := by decide +kernel
theorem dX4_chosenBoy_89 : decode cX4_chosenBoy 89 = .ok (.iload_n 3, 1) := by decide +kernel
theorem dX4_chosenBoy_90 : decode cX4_chosenBoy 90 = .ok (.ifCond .lt 10, 3) := by decide +kernel
theorem dX4_chosenBoy_93 : decode cX4_chosenBoy 93 = .ok (.iload 7, 2) := by decide +kernel
theorem dX4_chosenBoy_95 : decode cX4_chosenBoy 95 = .ok (.iload 4, 2) := by decide +kernel
theorem dX4_chosenBoy_97 : decode cX4_chosenBoy 97 = .ok (.if_icmp .ge 10, 3) := by decide +kernel
theorem dX4_chosenBoy_100 : decode cX4_chosenBoy 100 = .ok (.iload 5, 2) := by decide +kernel
theorem dX4_chosenBoy_102 : decode cX4_chosenBoy 102 = .ok (.istore_n 3, 1) := by decide +kernel
theorem dX4_chosenBoy_103 : decode cX4_chosenBoy 103 = .ok (.iload 7, 2) := by decide +kernel
theorem dX4_chosenBoy_105 : decode cX4_chosenBoy 105 = .ok (.istore 4, 2) := by decide +kernel
theorem dX4_chosenBoy_107 : decode cX4_chosenBoy 107 = .ok (.iinc 5 1, 3) := by decide +kernel
theorem dX4_chosenBoy_110 : decode cX4_chosenBoy 110 = .ok (.goto (-102), 3) := by decide +kernel
theorem dX4_chosenBoy_113 : decode cX4_chosenBoy 113 = .ok (.iload_n 3, 1) := by decide +kernel
theorem dX4_chosenBoy_114 : decode cX4_chosenBoy 114 = .ok (.ireturn, 1) := by decide +kernel
theorem dX4_purses_0 : decode cX4_purses 0 = .ok (.iconst 0, 1) := by decide +kernel
theorem dX4_purses_1 : decode cX4_purses 1 = .ok (.istore_n 1, 1) := by decide +kernel
theorem dX4_purses_2 : decode cX4_purses 2 = .ok (.iconst 0, 1) := by decide +kernel
theorem dX4_purses_3 : decode cX4_purses 3 = .ok (.istore_n 2, 1) := by decide +kernel
theorem dX4_purses_4 : decode cX4_purses 4 = .ok (.iload_n 2, 1) := by decide +kernel
theorem dX4_purses_5 : decode cX4_purses 5 = .ok (.aload_n 0, 1) := by decide +kernel
theorem dX4_purses_6 : decode cX4_purses 6 = .ok (.getfield 23, 3) := by decide +kernel
theorem dX4_purses_9 : decode cX4_purses 9 = .ok (.if_icmp .ge 21, 3) := by decide +kernel
theorem dX4_purses_12 : decode cX4_purses 12 = .ok (.iload_n 1, 1) := by decide +kernel
theorem dX4_purses_13 : decode cX4_purses 13 = .ok (.aload_n 0, 1) := by decide +kernel
theorem dX4_purses_14 : decode cX4_purses 14 = .ok (.getfield 11, 3) := by decide +kernel
theorem dX4_purses_17 : decode cX4_purses 17 = .ok (.iload_n 2, 1) := by decide +kernel
theorem dX4_purses_18 : decode cX4_purses 18 = .ok (.aaload, 1) := by decide +kernel
theorem dX4_purses_19 : decode cX4_purses 19 = .ok (.getfield 135, 3) := by decide +kernel
theorem dX4_purses_22 : decode cX4_purses 22 = .ok (.iadd, 1) := by decide +kernel
theorem dX4_purses_23 : decode cX4_purses 23 = .ok (.istore_n 1, 1) := by decide +kernel
theorem dX4_purses_24 : decode cX4_purses 24 = .ok (.iinc 2 1, 3) := by decide +kernel
theorem dX4_purses_27 : decode cX4_purses 27 = .ok (.goto (-23), 3) := by decide +kernel
theorem dX4_purses_30 : decode cX4_purses 30 = .ok (.iload_n 1, 1) := by decide +kernel
theorem dX4_purses_31 : decode cX4_purses 31 = .ok (.ireturn, 1) := by decide +kernel
theorem dX4_menDone_0 : decode cX4_menDone 0 = .ok (.iconst 0, 1) := by decide +kernel
theorem dX4_menDone_1 : decode cX4_menDone 1 = .ok (.istore_n 1, 1) := by decide +kernel
theorem dX4_menDone_2 : decode cX4_menDone 2 = .ok (.iconst 0, 1) := by decide +kernel
theorem dX4_menDone_3 : decode cX4_menDone 3 = .ok (.istore_n 2, 1) := by decide +kernel
theorem dX4_menDone_4 : decode cX4_menDone 4 = .ok (.iload_n 2, 1) := by decide +kernel
theorem dX4_menDone_5 : decode cX4_menDone 5 = .ok (.aload_n 0, 1) := by decide +kernel
theorem dX4_menDone_6 : decode cX4_menDone 6 = .ok (.getfield 23, 3) := by decide +kernel
theorem dX4_menDone_9 : decode cX4_menDone 9 = .ok (.if_icmp .ge 21, 3) := by decide +kernel
theorem dX4_menDone_12 : decode cX4_menDone 12 = .ok (.iload_n 1, 1) := by decide +kernel
theorem dX4_menDone_13 : decode cX4_menDone 13 = .ok (.aload_n 0, 1) := by decide +kernel
theorem dX4_menDone_14 : decode cX4_menDone 14 = .ok (.getfield 11, 3) := by decide +kernel
theorem dX4_menDone_17 : decode cX4_menDone 17 = .ok (.iload_n 2, 1) := by decide +kernel
theorem dX4_menDone_18 : decode cX4_menDone 18 = .ok (.aaload, 1) := by decide +kernel
theorem dX4_menDone_19 : decode cX4_menDone 19 = .ok (.getfield 124, 3) := by decide +kernel
theorem dX4_menDone_22 : decode cX4_menDone 22 = .ok (.iadd, 1) := by decide +kernel
theorem dX4_menDone_23 : decode cX4_menDone 23 = .ok (.istore_n 1, 1) := by decide +kernel
theorem dX4_menDone_24 : decode cX4_menDone 24 = .ok (.iinc 2 1, 3) := by decide +kernel
theorem dX4_menDone_27 : decode cX4_menDone 27 = .ok (.goto (-23), 3) := by decide +kernel
theorem dX4_menDone_30 : decode cX4_menDone 30 = .ok (.iload_n 1, 1) := by decide +kernel
theorem dX4_menDone_31 : decode cX4_menDone 31 = .ok (.ireturn, 1) := by decide +kernel
theorem dX4_busyBoys_0 : decode cX4_busyBoys 0 = .ok (.iconst 0, 1) := by decide +kernel
theorem dX4_busyBoys_1 : decode cX4_busyBoys 1 = .ok (.istore_n 1, 1) := by decide +kernel
theorem dX4_busyBoys_2 : decode cX4_busyBoys 2 = .ok (.iconst 0, 1) := by decide +kernel
theorem dX4_busyBoys_3 : decode cX4_busyBoys 3 = .ok (.istore_n 2, 1) := by decide +kernel
theorem dX4_busyBoys_4 : decode cX4_busyBoys 4 = .ok (.iload_n 2, 1) := by decide +kernel
theorem dX4_busyBoys_5 : decode cX4_busyBoys 5 = .ok (.aload_n 0, 1) := by decide +kernel
theorem dX4_busyBoys_6 : decode cX4_busyBoys 6 = .ok (.getfield 23, 3) := by decide +kernel
theorem dX4_busyBoys_9 : decode cX4_busyBoys 9 = .ok (.if_icmp .ge 27, 3) := by decide +kernel
theorem dX4_busyBoys_12 : decode cX4_busyBoys 12 = .ok (.aload_n 0, 1) := by decide +kernel
theorem dX4_busyBoys_13 : decode cX4_busyBoys 13 = .ok (.getfield 11, 3) := by decide +kernel
theorem dX4_busyBoys_16 : decode cX4_busyBoys 16 = .ok (.iload_n 2, 1) := by decide +kernel
theorem dX4_busyBoys_17 : decode cX4_busyBoys 17 = .ok (.aaload, 1) := by decide +kernel
theorem dX4_busyBoys_18 : decode cX4_busyBoys 18 = .ok (.getfield 109, 3) := by decide +kernel
theorem dX4_busyBoys_21 : decode cX4_busyBoys 21 = .ok (.ifCond .le 9, 3) := by decide +kernel
theorem dX4_busyBoys_24 : decode cX4_busyBoys 24 = .ok (.iload_n 1, 1) := by decide +kernel
theorem dX4_busyBoys_25 : decode cX4_busyBoys 25 = .ok (.iconst 1, 1) := by decide +kernel
theorem dX4_busyBoys_26 : decode cX4_busyBoys 26 = .ok (.iload_n 2, 1) := by decide +kernel
theorem dX4_busyBoys_27 : decode cX4_busyBoys 27 = .ok (.ishl, 1) := by decide +kernel
theorem dX4_busyBoys_28 : decode cX4_busyBoys 28 = .ok (.ior, 1) := by decide +kernel
theorem dX4_busyBoys_29 : decode cX4_busyBoys 29 = .ok (.istore_n 1, 1) := by decide +kernel
theorem dX4_busyBoys_30 : decode cX4_busyBoys 30 = .ok (.iinc 2 1, 3) := by decide +kernel
theorem dX4_busyBoys_33 : decode cX4_busyBoys 33 = .ok (.goto (-29), 3) := by decide +kernel
theorem dX4_busyBoys_36 : decode cX4_busyBoys 36 = .ok (.iload_n 1, 1) := by decide +kernel
theorem dX4_busyBoys_37 : decode cX4_busyBoys 37 = .ok (.ireturn, 1) := by decide +kernel
theorem dX5_init_0 : decode cX5_init 0 = .ok (.aload_n 0, 1) := by decide +kernel
theorem dX5_init_1 : decode cX5_init 1 = .ok (.invokespecial 3, 3) := by decide +kernel
theorem dX5_init_4 : decode cX5_init 4 = .ok (.aload_n 0, 1) := by decide +kernel
theorem dX5_init_5 : decode cX5_init 5 = .ok (.iconst 0, 1) := by decide +kernel
theorem dX5_init_6 : decode cX5_init 6 = .ok (.putfield 9, 3) := by decide +kernel
theorem dX5_init_9 : decode cX5_init 9 = .ok (.aload_n 0, 1) := by decide +kernel
theorem dX5_init_10 : decode cX5_init 10 = .ok (.bipush 96, 2) := by decide +kernel
theorem dX5_init_12 : decode cX5_init 12 = .ok (.newarray .byte, 2) := by decide +kernel
theorem dX5_init_14 : decode cX5_init 14 = .ok (.putfield 15, 3) := by decide +kernel
theorem dX5_init_17 : decode cX5_init 17 = .ok (.aload_n 0, 1) := by decide +kernel
theorem dX5_init_18 : decode cX5_init 18 = .ok (.iconst 0, 1) := by decide +kernel
theorem dX5_init_19 : decode cX5_init 19 = .ok (.putfield 19, 3) := by decide +kernel
theorem dX5_init_22 : decode cX5_init 22 = .ok (.aload_n 0, 1) := by decide +kernel
theorem dX5_init_23 : decode cX5_init 23 = .ok (.iconst 0, 1) := by decide +kernel
theorem dX5_init_24 : decode cX5_init 24 = .ok (.putfield 22, 3) := by decide +kernel
theorem dX5_init_27 : decode cX5_init 27 = .ok (.aload_n 0, 1) := by decide +kernel
theorem dX5_init_28 : decode cX5_init 28 = .ok (.iconst 0, 1) := by decide +kernel
theorem dX5_init_29 : decode cX5_init 29 = .ok (.putfield 25, 3) := by decide +kernel
theorem dX5_init_32 : decode cX5_init 32 = .ok (.aload_n 0, 1) := by decide +kernel
theorem dX5_init_33 : decode cX5_init 33 = .ok (.iconst 0, 1) := by decide +kernel
theorem dX5_init_34 : decode cX5_init 34 = .ok (.putfield 28, 3) := by decide +kernel
theorem dX5_init_37 : decode cX5_init 37 = .ok (.return_, 1) := by decide +kernel
theorem dX5_addNumber_0 : decode cX5_addNumber 0 = .ok (.bipush 24, 2) := by decide +kernel
theorem dX5_addNumber_2 : decode cX5_addNumber 2 = .ok (.istore_n 2, 1) := by decide +kernel
theorem dX5_addNumber_3 : decode cX5_addNumber 3 = .ok (.iload_n 2, 1) := by decide +kernel
theorem dX5_addNumber_4 : decode cX5_addNumber 4 = .ok (.ifCond .lt 44, 3) := by decide +kernel
theorem dX5_addNumber_7 : decode cX5_addNumber 7 = .ok (.aload_n 0, 1) := by decide +kernel
theorem dX5_addNumber_8 : decode cX5_addNumber 8 = .ok (.getfield 9, 3) := by decide +kernel
theorem dX5_addNumber_11 : decode cX5_addNumber 11 = .ok (.aload_n 0, 1) := by decide +kernel
theorem dX5_addNumber_12 : decode cX5_addNumber 12 = .ok (.getfield 15, 3) := by decide +kernel
theorem dX5_addNumber_15 : decode cX5_addNumber 15 = .ok (.arraylength, 1) := by decide +kernel
theorem dX5_addNumber_16 : decode cX5_addNumber 16 = .ok (.if_icmp .ge 26, 3) := by decide +kernel
theorem dX5_addNumber_19 : decode cX5_addNumber 19 = .ok (.aload_n 0, 1) := by decide +kernel
theorem dX5_addNumber_20 : decode cX5_addNumber 20 = .ok (.getfield 15, 3) := by decide +kernel
theorem dX5_addNumber_23 : decode cX5_addNumber 23 = .ok (.aload_n 0, 1) := by decide +kernel
theorem dX5_addNumber_24 : decode cX5_addNumber 24 = .ok (.getfield 9, 3) := by decide +kernel
theorem dX5_addNumber_27 : decode cX5_addNumber 27 = .ok (.iload_n 1, 1) := by decide +kernel
theorem dX5_addNumber_28 : decode cX5_addNumber 28 = .ok (.iload_n 2, 1) := by decide +kernel
theorem dX5_addNumber_29 : decode cX5_addNumber 29 = .ok (.ishr, 1) := by decide +kernel
theorem dX5_addNumber_30 : decode cX5_addNumber 30 = .ok (.i2b, 1) := by decide +kernel
theorem dX5_addNumber_31 : decode cX5_addNumber 31 = .ok (.bastore, 1) := by decide +kernel
theorem dX5_addNumber_32 : decode cX5_addNumber 32 = .ok (.aload_n 0, 1) := by decide +kernel
theorem dX5_addNumber_33 : decode cX5_addNumber 33 = .ok (.dup, 1) := by decide +kernel
theorem dX5_addNumber_34 : decode cX5_addNumber 34 = .ok (.getfield 9, 3) := by decide +kernel
theorem dX5_addNumber_37 : decode cX5_addNumber 37 = .ok (.iconst 1, 1) := by decide +kernel
theorem dX5_addNumber_38 : decode cX5_addNumber 38 = .ok (.iadd, 1) := by decide +kernel
theorem dX5_addNumber_39 : decode cX5_addNumber 39 = .ok (.putfield 9, 3) := by decide +kernel
theorem dX5_addNumber_42 : decode cX5_addNumber 42 = .ok (.iinc 2 (-8), 3) := by decide +kernel
theorem dX5_addNumber_45 : decode cX5_addNumber 45 = .ok (.goto (-42), 3) := by decide +kernel
theorem dX5_addNumber_48 : decode cX5_addNumber 48 = .ok (.return_, 1) := by decide +kernel
theorem dX5_useUp_0 : decode cX5_useUp 0 = .ok (.aload_n 0, 1) := by decide +kernel
theorem dX5_useUp_1 : decode cX5_useUp 1 = .ok (.aload_n 0, 1) := by decide +kernel
theorem dX5_useUp_2 : decode cX5_useUp 2 = .ok (.getfield 9, 3) := by decide +kernel
theorem dX5_useUp_5 : decode cX5_useUp 5 = .ok (.putfield 19, 3) := by decide +kernel
theorem dX5_useUp_8 : decode cX5_useUp 8 = .ok (.aload_n 0, 1) := by decide +kernel
theorem dX5_useUp_9 : decode cX5_useUp 9 = .ok (.iconst 0, 1) := by decide +kernel
theorem dX5_useUp_10 : decode cX5_useUp 10 = .ok (.putfield 9, 3) := by decide +kernel
theorem dX5_useUp_13 : decode cX5_useUp 13 = .ok (.aload_n 0, 1) := by decide +kernel
theorem dX5_useUp_14 : decode cX5_useUp 14 = .ok (.iconst 0, 1) := by decide +kernel
theorem dX5_useUp_15 : decode cX5_useUp 15 = .ok (.putfield 28, 3) := by decide +kernel
theorem dX5_useUp_18 : decode cX5_useUp 18 = .ok (.aload_n 0, 1) := by decide +kernel
theorem dX5_useUp_19 : decode cX5_useUp 19 = .ok (.invokevirtual 31, 3) := by decide +kernel
theorem dX5_useUp_22 : decode cX5_useUp 22 = .ok (.aload_n 0, 1) := by decide +kernel
theorem dX5_useUp_23 : decode cX5_useUp 23 = .ok (.invokevirtual 34, 3) := by decide +kernel
theorem dX5_useUp_26 : decode cX5_useUp 26 = .ok (.istore_n 2, 1) := by decide +kernel
theorem dX5_useUp_27 : decode cX5_useUp 27 = .ok (.iload_n 2, 1) := by decide +kernel
theorem dX5_useUp_28 : decode cX5_useUp 28 = .ok (.ifCond .ge 8, 3) := by decide +kernel
theorem dX5_useUp_31 : decode cX5_useUp 31 = .ok (.aload_n 0, 1) := by decide +kernel
theorem dX5_useUp_32 : decode cX5_useUp 32 = .ok (.getfield 25, 3) := by decide +kernel
theorem dX5_useUp_35 : decode cX5_useUp 35 = .ok (.ireturn, 1) := by decide +kernel
theorem dX5_useUp_36 : decode cX5_useUp 36 = .ok (.aload_n 1, 1) := by decide +kernel
theorem dX5_useUp_37 : decode cX5_useUp 37 = .ok (.iload_n 2, 1) := by decide +kernel
theorem dX5_useUp_38 : decode cX5_useUp 38 = .ok (.invokevirtual 38, 3) := by decide +kernel
theorem dX5_useUp_41 : decode cX5_useUp 41 = .ok (.aload_n 0, 1) := by decide +kernel
theorem dX5_useUp_42 : decode cX5_useUp 42 = .ok (.invokevirtual 31, 3) := by decide +kernel
theorem dX5_useUp_45 : decode cX5_useUp 45 = .ok (.aload_n 0, 1) := by decide +kernel
theorem dX5_useUp_46 : decode cX5_useUp 46 = .ok (.aload_n 1, 1) := by decide +kernel
theorem dX5_useUp_47 : decode cX5_useUp 47 = .ok (.iconst 0, 1) := by decide +kernel
theorem dX5_useUp_48 : decode cX5_useUp 48 = .ok (.iconst 0, 1) := by decide +kernel
theorem dX5_useUp_49 : decode cX5_useUp 49 = .ok (.iconst 0, 1) := by decide +kernel
theorem dX5_useUp_50 : decode cX5_useUp 50 = .ok (.invokevirtual 44, 3) := by decide +kernel
theorem dX5_useUp_53 : decode cX5_useUp 53 = .ok (.ifCond .eq 10, 3) := by decide +kernel
theorem dX5_useUp_56 : decode cX5_useUp 56 = .ok (.aload_n 0, 1) := by decide +kernel
theorem dX5_useUp_57 : decode cX5_useUp 57 = .ok (.getfield 22, 3) := by decide +kernel
theorem dX5_useUp_60 : decode cX5_useUp 60 = .ok (.ifCond .eq 8, 3) := by decide +kernel
theorem dX5_useUp_63 : decode cX5_useUp 63 = .ok (.aload_n 0, 1) := by decide +kernel
theorem dX5_useUp_64 : decode cX5_useUp 64 = .ok (.getfield 25, 3) := by decide +kernel
theorem dX5_useUp_67 : decode cX5_useUp 67 = .ok (.ireturn, 1) := by decide +kernel
theorem dX5_useUp_68 : decode cX5_useUp 68 = .ok (.iconst (-1), 1) := by decide +kernel
theorem dX5_useUp_69 : decode cX5_useUp 69 = .ok (.ireturn, 1) := by decide +kernel
theorem dX5_keyRead_0 : decode cX5_keyRead 0 = .ok (.aload_n 0, 1) := by decide +kernel
theorem dX5_keyRead_1 : decode cX5_keyRead 1 = .ok (.ldc 48, 2) := by decide +kernel
theorem dX5_keyRead_3 : decode cX5_keyRead 3 = .ok (.invokevirtual 50, 3) := by decide +kernel
theorem dX5_keyRead_6 : decode cX5_keyRead 6 = .ok (.ifCond .eq 5, 3) := by decide +kernel
theorem dX5_keyRead_9 : decode cX5_keyRead 9 = .ok (.iconst 0, 1) := by decide +kernel
theorem dX5_keyRead_10 : decode cX5_keyRead 10 = .ok (.ireturn, 1) := by decide +kernel
theorem dX5_keyRead_11 : decode cX5_keyRead 11 = .ok (.aload_n 0, 1) := by decide +kernel
theorem dX5_keyRead_12 : decode cX5_keyRead 12 = .ok (.ldc 54, 2) := by decide +kernel
theorem dX5_keyRead_14 : decode cX5_keyRead 14 = .ok (.invokevirtual 50, 3) := by decide +kernel
theorem dX5_keyRead_17 : decode cX5_keyRead 17 = .ok (.ifCond .eq 5, 3) := by decide +kernel
theorem dX5_keyRead_20 : decode cX5_keyRead 20 = .ok (.iconst 1, 1) := by decide +kernel
theorem dX5_keyRead_21 : decode cX5_keyRead 21 = .ok (.ireturn, 1) := by decide +kernel
theorem dX5_keyRead_22 : decode cX5_keyRead 22 = .ok (.aload_n 0, 1) := by decide +kernel
theorem dX5_keyRead_23 : decode cX5_keyRead 23 = .ok (.ldc 56, 2) := by decide +kernel
theorem dX5_keyRead_25 : decode cX5_keyRead 25 = .ok (.invokevirtual 50, 3) := by decide +kernel
theorem dX5_keyRead_28 : decode cX5_keyRead 28 = .ok (.ifCond .eq 7, 3) := by decide +kernel
theorem dX5_keyRead_31 : decode cX5_keyRead 31 = .ok (.iconst 2, 1) := by decide +kernel
theorem dX5_keyRead_32 : decode cX5_keyRead 32 = .ok (.goto 4, 3) := by decide +kernel
theorem dX5_keyRead_35 : decode cX5_keyRead 35 = .ok (.iconst (-1), 1) := by decide +kernel
theorem dX5_keyRead_36 : decode cX5_keyRead 36 = .ok (.ireturn, 1) := by decide +kernel
theorem dX5_isWord_0 : decode cX5_isWord 0 = .ok (.aload_n 0, 1) := by decide +kernel
theorem dX5_isWord_1 : decode cX5_isWord 1 = .ok (.getfield 22, 3) := by decide +kernel
theorem dX5_isWord_4 : decode cX5_isWord 4 = .ok (.iconst 1, 1) := by decide +kernel
theorem dX5_isWord_5 : decode cX5_isWord 5 = .ok (.if_icmp .ne 19, 3) := by decide +kernel
theorem dX5_isWord_8 : decode cX5_isWord 8 = .ok (.aload_n 0, 1) := by decide +kernel
theorem dX5_isWord_9 : decode cX5_isWord 9 = .ok (.getfield 28, 3) := by decide +kernel
theorem dX5_isWord_12 : decode cX5_isWord 12 = .ok (.aload_n 0, 1) := by decide +kernel
theorem dX5_isWord_13 : decode cX5_isWord 13 = .ok (.getfield 25, 3) := by decide +kernel
theorem dX5_isWord_16 : decode cX5_isWord 16 = .ok (.isub, 1) := by decide +kernel
theorem dX5_isWord_17 : decode cX5_isWord 17 = .ok (.aload_n 1, 1) := by decide +kernel
theorem dX5_isWord_18 : decode cX5_isWord 18 = .ok (.invokevirtual 58, 3) := by decide +kernel
theorem dX5_isWord_21 : decode cX5_isWord 21 = .ok (.if_icmp .eq 5, 3) := by decide +kernel
theorem dX5_isWord_24 : decode cX5_isWord 24 = .ok (.iconst 0, 1) := by decide +kernel
theorem dX5_isWord_25 : decode cX5_isWord 25 = .ok (.ireturn, 1) := by decide +kernel
theorem dX5_isWord_26 : decode cX5_isWord 26 = .ok (.iconst 0, 1) := by decide +kernel
theorem dX5_isWord_27 : decode cX5_isWord 27 = .ok (.istore_n 2, 1) := by decide +kernel
theorem dX5_isWord_28 : decode cX5_isWord 28 = .ok (.iload_n 2, 1) := by decide +kernel
theorem dX5_isWord_29 : decode cX5_isWord 29 = .ok (.aload_n 1, 1) := by decide +kernel
theorem dX5_isWord_30 : decode cX5_isWord 30 = .ok (.invokevirtual 58, 3) := by decide +kernel
theorem dX5_isWord_33 : decode cX5_isWord 33 = .ok (.if_icmp .ge 30, 3) := by decide +kernel
theorem dX5_isWord_36 : decode cX5_isWord 36 = .ok (.aload_n 0, 1) := by decide +kernel
theorem dX5_isWord_37 : decode cX5_isWord 37 = .ok (.getfield 15, 3) := by decide +kernel
theorem dX5_isWord_40 : decode cX5_isWord 40 = .ok (.aload_n 0, 1) := by decide +kernel
theorem dX5_isWord_41 : decode cX5_isWord 41 = .ok (.getfield 25, 3) := by decide +kernel
theorem dX5_isWord_44 : decode cX5_isWord 44 = .ok (.iload_n 2, 1) := by decide +kernel
theorem dX5_isWord_45 : decode cX5_isWord 45 = .ok (.iadd, 1) := by decide +kernel
theorem dX5_isWord_46 : decode cX5_isWord 46 = .ok (.baload, 1) := by decide +kernel
theorem dX5_isWord_47 : decode cX5_isWord 47 = .ok (.aload_n 1, 1) := by decide +kernel
theorem dX5_isWord_48 : decode cX5_isWord 48 = .ok (.iload_n 2, 1) := by decide +kernel
theorem dX5_isWord_49 : decode cX5_isWord 49 = .ok (.invokevirtual 63, 3) := by decide +kernel
theorem dX5_isWord_52 : decode cX5_isWord 52 = .ok (.if_icmp .eq 5, 3) := by decide +kernel
theorem dX5_isWord_55 : decode cX5_isWord 55 = .ok (.iconst 0, 1) := by decide +kernel
theorem dX5_isWord_56 : decode cX5_isWord 56 = .ok (.ireturn, 1) := by decide +kernel
theorem dX5_isWord_57 : decode cX5_isWord 57 = .ok (.iinc 2 1, 3) := by decide +kernel
theorem dX5_isWord_60 : decode cX5_isWord 60 = .ok (.goto (-32), 3) := by decide +kernel
theorem dX5_isWord_63 : decode cX5_isWord 63 = .ok (.iconst 1, 1) := by decide +kernel
theorem dX5_isWord_64 : decode cX5_isWord 64 = .ok (.ireturn, 1) := by decide +kernel
theorem dX5_expression_0 : decode cX5_expression 0 = .ok (.iload_n 2, 1) := by decide +kernel
theorem dX5_expression_1 : decode cX5_expression 1 = .ok (.iconst 4, 1) := by decide +kernel
theorem dX5_expression_2 : decode cX5_expression 2 = .ok (.if_icmp .le 12, 3) := by decide +kernel
theorem dX5_expression_5 : decode cX5_expression 5 = .ok (.aload_n 0, 1) := by decide +kernel
theorem dX5_expression_6 : decode cX5_expression 6 = .ok (.aload_n 1, 1) := by decide +kernel
theorem dX5_expression_7 : decode cX5_expression 7 = .ok (.iload_n 3, 1) := by decide +kernel
theorem dX5_expression_8 : decode cX5_expression 8 = .ok (.iload 4, 2) := by decide +kernel
theorem dX5_expression_10 : decode cX5_expression 10 = .ok (.invokevirtual 67, 3) := by decide +kernel
theorem dX5_expression_13 : decode cX5_expression 13 = .ok (.ireturn, 1) := by decide +kernel
theorem dX5_expression_14 : decode cX5_expression 14 = .ok (.aload_n 0, 1) := by decide +kernel
theorem dX5_expression_15 : decode cX5_expression 15 = .ok (.aload_n 1, 1) := by decide +kernel
theorem dX5_expression_16 : decode cX5_expression 16 = .ok (.iload_n 2, 1) := by decide +kernel
theorem dX5_expression_17 : decode cX5_expression 17 = .ok (.iconst 1, 1) := by decide +kernel
theorem dX5_expression_18 : decode cX5_expression 18 = .ok (.iadd, 1) := by decide +kernel
theorem dX5_expression_19 : decode cX5_expression 19 = .ok (.iload_n 3, 1) := by decide +kernel
theorem dX5_expression_20 : decode cX5_expression 20 = .ok (.iload 4, 2) := by decide +kernel
theorem dX5_expression_22 : decode cX5_expression 22 = .ok (.invokevirtual 44, 3) := by decide +kernel
theorem dX5_expression_25 : decode cX5_expression 25 = .ok (.ifCond .ne 5, 3) := by decide +kernel
theorem dX5_expression_28 : decode cX5_expression 28 = .ok (.iconst 0, 1) := by decide +kernel
theorem dX5_expression_29 : decode cX5_expression 29 = .ok (.ireturn, 1) := by decide +kernel
theorem dX5_expression_30 : decode cX5_expression 30 = .ok (.iload_n 2, 1) := by decide +kernel
theorem dX5_expression_31 : decode cX5_expression 31 = .ok (.iconst 2, 1) := by decide +kernel
theorem dX5_expression_32 : decode cX5_expression 32 = .ok (.if_icmp .ne 7, 3) := by decide +kernel
theorem dX5_expression_35 : decode cX5_expression 35 = .ok (.iconst 1, 1) := by decide +kernel
theorem dX5_expression_36 : decode cX5_expression 36 = .ok (.goto 5, 3) := by decide +kernel
theorem dX5_expression_39 : decode cX5_expression 39 = .ok (.bipush 96, 2) := by decide +kernel
theorem dX5_expression_41 : decode cX5_expression 41 = .ok (.istore 5, 2) := by decide +kernel
theorem dX5_expression_43 : decode cX5_expression 43 = .ok (.iconst 0, 1) := by decide +kernel
theorem dX5_expression_44 : decode cX5_expression 44 = .ok (.istore 6, 2) := by decide +kernel
theorem dX5_expression_46 : decode cX5_expression 46 = .ok (.iload 6, 2) := by decide +kernel
theorem dX5_expression_48 : decode cX5_expression 48 = .ok (.iload 5, 2) := by decide +kernel
theorem dX5_expression_50 : decode cX5_expression 50 = .ok (.if_icmp .ge 60, 3) := by decide +kernel
theorem dX5_expression_53 : decode cX5_expression 53 = .ok (.aload_n 0, 1) := by decide +kernel
theorem dX5_expression_54 : decode cX5_expression 54 = .ok (.getfield 22, 3) := by decide +kernel
theorem dX5_expression_57 : decode cX5_expression 57 = .ok (.iconst 3, 1) := by decide +kernel
theorem dX5_expression_58 : decode cX5_expression 58 = .ok (.if_icmp .ne 52, 3) := by decide +kernel
theorem dX5_expression_61 : decode cX5_expression 61 = .ok (.aload_n 0, 1) := by decide +kernel
theorem dX5_expression_62 : decode cX5_expression 62 = .ok (.invokevirtual 71, 3) := by decide +kernel
theorem dX5_expression_65 : decode cX5_expression 65 = .ok (.invokestatic 74, 3) := by decide +kernel
theorem dX5_expression_68 : decode cX5_expression 68 = .ok (.iload_n 2, 1) := by decide +kernel
theorem dX5_expression_69 : decode cX5_expression 69 = .ok (.if_icmp .ne 41, 3) := by decide +kernel
theorem dX5_expression_72 : decode cX5_expression 72 = .ok (.aload_n 0, 1) := by decide +kernel
theorem dX5_expression_73 : decode cX5_expression 73 = .ok (.invokevirtual 71, 3) := by decide +kernel
theorem dX5_expression_76 : decode cX5_expression 76 = .ok (.istore 7, 2) := by decide +kernel
theorem dX5_expression_78 : decode cX5_expression 78 = .ok (.aload_n 0, 1) := by decide +kernel
theorem dX5_expression_79 : decode cX5_expression 79 = .ok (.invokevirtual 31, 3) := by decide +kernel
theorem dX5_expression_82 : decode cX5_expression 82 = .ok (.aload_n 0, 1) := by decide +kernel
theorem dX5_expression_83 : decode cX5_expression 83 = .ok (.aload_n 1, 1) := by decide +kernel
theorem dX5_expression_84 : decode cX5_expression 84 = .ok (.iload_n 2, 1) := by decide +kernel
theorem dX5_expression_85 : decode cX5_expression 85 = .ok (.iconst 1, 1) := by decide +kernel
theorem dX5_expression_86 : decode cX5_expression 86 = .ok (.iadd, 1) := by decide +kernel
theorem dX5_expression_87 : decode cX5_expression 87 = .ok (.iload_n 3, 1) := by decide +kernel
theorem dX5_expression_88 : decode cX5_expression 88 = .ok (.iload 4, 2) := by decide +kernel
theorem dX5_expression_90 : decode cX5_expression 90 = .ok (.invokevirtual 44, 3) := by decide +kernel
theorem dX5_expression_93 : decode cX5_expression 93 = .ok (.ifCond .ne 5, 3) := by decide +kernel
theorem dX5_expression_96 : decode cX5_expression 96 = .ok (.iconst 0, 1) := by decide +kernel
theorem dX5_expression_97 : decode cX5_expression 97 = .ok (.ireturn, 1) := by decide +kernel
theorem dX5_expression_98 : decode cX5_expression 98 = .ok (.aload_n 1, 1) := by decide +kernel
theorem dX5_expression_99 : decode cX5_expression 99 = .ok (.iload 7, 2) := by decide +kernel
theorem dX5_expression_101 : decode cX5_expression 101 = .ok (.invokevirtual 78, 3) := by decide +kernel
theorem dX5_expression_104 : decode cX5_expression 104 = .ok (.iinc 6 1, 3) := by decide +kernel
theorem dX5_expression_107 : decode cX5_expression 107 = .ok (.goto (-61), 3) := by decide +kernel
theorem dX5_expression_110 : decode cX5_expression 110 = .ok (.iconst 1, 1) := by decide +kernel
theorem dX5_expression_111 : decode cX5_expression 111 = .ok (.ireturn, 1) := by decide +kernel
theorem dX5_levelOf_0 : decode cX5_levelOf 0 = .ok (.iload_n 0, 1) := by decide +kernel
theorem dX5_levelOf_1 : decode cX5_levelOf 1 = .ok (.lookupswitch 93 #[(38, 85), (42, 91), (43, 89), (45, 89), (47, 91), (60, 87), (61, 87), (62, 87), (124, 83)], 83) := by decide +kernel
theorem dX5_levelOf_84 : decode cX5_levelOf 84 = .ok (.iconst 0, 1) := by decide +kernel
theorem dX5_levelOf_85 : decode cX5_levelOf 85 = .ok (.ireturn, 1) := by decide +kernel
theorem dX5_levelOf_86 : decode cX5_levelOf 86 = .ok (.iconst 1, 1) := by decide +kernel
theorem dX5_levelOf_87 : decode cX5_levelOf 87 = .ok (.ireturn, 1) := by decide +kernel
theorem dX5_levelOf_88 : decode cX5_levelOf 88 = .ok (.iconst 2, 1) := by decide +kernel
theorem dX5_levelOf_89 : decode cX5_levelOf 89 = .ok (.ireturn, 1) := by decide +kernel
theorem dX5_levelOf_90 : decode cX5_levelOf 90 = .ok (.iconst 3, 1) := by decide +kernel
theorem dX5_levelOf_91 : decode cX5_levelOf 91 = .ok (.ireturn, 1) := by decide +kernel
theorem dX5_levelOf_92 : decode cX5_levelOf 92 = .ok (.iconst 4, 1) := by decide +kernel
theorem dX5_levelOf_93 : decode cX5_levelOf 93 = .ok (.ireturn, 1) := by decide +kernel
theorem dX5_levelOf_94 : decode cX5_levelOf 94 = .ok (.iconst (-1), 1) := by decide +kernel
theorem dX5_levelOf_95 : decode cX5_levelOf 95 = .ok (.ireturn, 1) := by decide +kernel
theorem dX5_piece_0 : decode cX5_piece 0 = .ok (.aload_n 0, 1) := by decide +kernel
theorem dX5_piece_1 : decode cX5_piece 1 = .ok (.getfield 22, 3) := by decide +kernel
theorem dX5_piece_4 : decode cX5_piece 4 = .ok (.iconst 2, 1) := by decide +kernel
theorem dX5_piece_5 : decode cX5_piece 5 = .ok (.if_icmp .ne 9, 3) := by decide +kernel
theorem dX5_piece_8 : decode cX5_piece 8 = .ok (.aload_n 0, 1) := by decide +kernel
theorem dX5_piece_9 : decode cX5_piece 9 = .ok (.aload_n 1, 1) := by decide +kernel
theorem dX5_piece_10 : decode cX5_piece 10 = .ok (.invokevirtual 81, 3) := by decide +kernel
theorem dX5_piece_13 : decode cX5_piece 13 = .ok (.ireturn, 1) := by decide +kernel
theorem dX5_piece_14 : decode cX5_piece 14 = .ok (.aload_n 0, 1) := by decide +kernel
theorem dX5_piece_15 : decode cX5_piece 15 = .ok (.getfield 22, 3) := by decide +kernel
theorem dX5_piece_18 : decode cX5_piece 18 = .ok (.iconst 1, 1) := by decide +kernel
theorem dX5_piece_19 : decode cX5_piece 19 = .ok (.if_icmp .ne 9, 3) := by decide +kernel
theorem dX5_piece_22 : decode cX5_piece 22 = .ok (.aload_n 0, 1) := by decide +kernel
theorem dX5_piece_23 : decode cX5_piece 23 = .ok (.aload_n 1, 1) := by decide +kernel
theorem dX5_piece_24 : decode cX5_piece 24 = .ok (.invokevirtual 85, 3) := by decide +kernel
theorem dX5_piece_27 : decode cX5_piece 27 = .ok (.ireturn, 1) := by decide +kernel
theorem dX5_piece_28 : decode cX5_piece 28 = .ok (.aload_n 0, 1) := by decide +kernel
theorem dX5_piece_29 : decode cX5_piece 29 = .ok (.bipush 33, 2) := by decide +kernel
theorem dX5_piece_31 : decode cX5_piece 31 = .ok (.invokevirtual 88, 3) := by decide +kernel
theorem dX5_piece_34 : decode cX5_piece 34 = .ok (.ifCond .eq 35, 3) := by decide +kernel
theorem dX5_piece_37 : decode cX5_piece 37 = .ok (.iload_n 3, 1) := by decide +kernel
theorem dX5_piece_38 : decode cX5_piece 38 = .ok (.bipush 8, 2) := by decide +kernel
theorem dX5_piece_40 : decode cX5_piece 40 = .ok (.if_icmp .ge 29, 3) := by decide +kernel
theorem dX5_piece_43 : decode cX5_piece 43 = .ok (.aload_n 0, 1) := by decide +kernel
theorem dX5_piece_44 : decode cX5_piece 44 = .ok (.invokevirtual 31, 3) := by decide +kernel
theorem dX5_piece_47 : decode cX5_piece 47 = .ok (.aload_n 0, 1) := by decide +kernel
theorem dX5_piece_48 : decode cX5_piece 48 = .ok (.aload_n 1, 1) := by decide +kernel
theorem dX5_piece_49 : decode cX5_piece 49 = .ok (.iload_n 2, 1) := by decide +kernel
theorem dX5_piece_50 : decode cX5_piece 50 = .ok (.iload_n 3, 1) := by decide +kernel
theorem dX5_piece_51 : decode cX5_piece 51 = .ok (.iconst 1, 1) := by decide +kernel
theorem dX5_piece_52 : decode cX5_piece 52 = .ok (.iadd, 1) := by decide +kernel
theorem dX5_piece_53 : decode cX5_piece 53 = .ok (.invokevirtual 67, 3) := by decide +kernel
theorem dX5_piece_56 : decode cX5_piece 56 = .ok (.ifCond .ne 5, 3) := by decide +kernel
theorem dX5_piece_59 : decode cX5_piece 59 = .ok (.iconst 0, 1) := by decide +kernel
theorem dX5_piece_60 : decode cX5_piece 60 = .ok (.ireturn, 1) := by decide +kernel
theorem dX5_piece_61 : decode cX5_piece 61 = .ok (.aload_n 1, 1) := by decide +kernel
theorem dX5_piece_62 : decode cX5_piece 62 = .ok (.bipush 33, 2) := by decide +kernel
theorem dX5_piece_64 : decode cX5_piece 64 = .ok (.invokevirtual 78, 3) := by decide +kernel
theorem dX5_piece_67 : decode cX5_piece 67 = .ok (.iconst 1, 1) := by decide +kernel
theorem dX5_piece_68 : decode cX5_piece 68 = .ok (.ireturn, 1) := by decide +kernel
theorem dX5_piece_69 : decode cX5_piece 69 = .ok (.aload_n 0, 1) := by decide +kernel
theorem dX5_piece_70 : decode cX5_piece 70 = .ok (.bipush 40, 2) := by decide +kernel
theorem dX5_piece_72 : decode cX5_piece 72 = .ok (.invokevirtual 88, 3) := by decide +kernel
theorem dX5_piece_75 : decode cX5_piece 75 = .ok (.ifCond .eq 43, 3) := by decide +kernel
theorem dX5_piece_78 : decode cX5_piece 78 = .ok (.iload_n 2, 1) := by decide +kernel
theorem dX5_piece_79 : decode cX5_piece 79 = .ok (.bipush 8, 2) := by decide +kernel
theorem dX5_piece_81 : decode cX5_piece 81 = .ok (.if_icmp .ge 37, 3) := by decide +kernel
theorem dX5_piece_84 : decode cX5_piece 84 = .ok (.aload_n 0, 1) := by decide +kernel
theorem dX5_piece_85 : decode cX5_piece 85 = .ok (.invokevirtual 31, 3) := by decide +kernel
theorem dX5_piece_88 : decode cX5_piece 88 = .ok (.aload_n 0, 1) := by decide +kernel
theorem dX5_piece_89 : decode cX5_piece 89 = .ok (.aload_n 1, 1) := by decide +kernel
theorem dX5_piece_90 : decode cX5_piece 90 = .ok (.iconst 0, 1) := by decide +kernel
theorem dX5_piece_91 : decode cX5_piece 91 = .ok (.iload_n 2, 1) := by decide +kernel
theorem dX5_piece_92 : decode cX5_piece 92 = .ok (.iconst 1, 1) := by decide +kernel
theorem dX5_piece_93 : decode cX5_piece 93 = .ok (.iadd, 1) := by decide +kernel
theorem dX5_piece_94 : decode cX5_piece 94 = .ok (.iload_n 3, 1) := by decide +kernel
theorem dX5_piece_95 : decode cX5_piece 95 = .ok (.invokevirtual 44, 3) := by decide +kernel
theorem dX5_piece_98 : decode cX5_piece 98 = .ok (.ifCond .eq 12, 3) := by decide +kernel
theorem dX5_piece_101 : decode cX5_piece 101 = .ok (.aload_n 0, 1) := by decide +kernel
theorem dX5_piece_102 : decode cX5_piece 102 = .ok (.bipush 41, 2) := by decide +kernel
theorem dX5_piece_104 : decode cX5_piece 104 = .ok (.invokevirtual 88, 3) := by decide +kernel
theorem dX5_piece_107 : decode cX5_piece 107 = .ok (.ifCond .ne 5, 3) := by decide +kernel
theorem dX5_piece_110 : decode cX5_piece 110 = .ok (.iconst 0, 1) := by decide +kernel
theorem dX5_piece_111 : decode cX5_piece 111 = .ok (.ireturn, 1) := by decide +kernel
theorem dX5_piece_112 : decode cX5_piece 112 = .ok (.aload_n 0, 1) := by decide +kernel
theorem dX5_piece_113 : decode cX5_piece 113 = .ok (.invokevirtual 31, 3) := by decide +kernel
theorem dX5_piece_116 : decode cX5_piece 116 = .ok (.iconst 1, 1) := by decide +kernel
theorem dX5_piece_117 : decode cX5_piece 117 = .ok (.ireturn, 1) := by decide +kernel
theorem dX5_piece_118 : decode cX5_piece 118 = .ok (.iconst 0, 1) := by decide +kernel
theorem dX5_piece_119 : decode cX5_piece 119 = .ok (.ireturn, 1) := by decide +kernel
theorem dX5_number_0 : decode cX5_number 0 = .ok (.aload_n 0, 1) := by decide +kernel
theorem dX5_number_1 : decode cX5_number 1 = .ok (.getfield 28, 3) := by decide +kernel
theorem dX5_number_4 : decode cX5_number 4 = .ok (.aload_n 0, 1) := by decide +kernel
theorem dX5_number_5 : decode cX5_number 5 = .ok (.getfield 25, 3) := by decide +kernel
theorem dX5_number_8 : decode cX5_number 8 = .ok (.isub, 1) := by decide +kernel
theorem dX5_number_9 : decode cX5_number 9 = .ok (.iconst 4, 1) := by decide +kernel
theorem dX5_number_10 : decode cX5_number 10 = .ok (.if_icmp .le 5, 3) := by decide +kernel
theorem dX5_number_13 : decode cX5_number 13 = .ok (.iconst 0, 1) := by decide +kernel
theorem dX5_number_14 : decode cX5_number 14 = .ok (.ireturn, 1) := by decide +kernel
theorem dX5_number_15 : decode cX5_number 15 = .ok (.iconst 0, 1) := by decide +kernel
theorem dX5_number_16 : decode cX5_number 16 = .ok (.istore_n 2, 1) := by decide +kernel
theorem dX5_number_17 : decode cX5_number 17 = .ok (.aload_n 0, 1) := by decide +kernel
theorem dX5_number_18 : decode cX5_number 18 = .ok (.getfield 25, 3) := by decide +kernel
theorem dX5_number_21 : decode cX5_number 21 = .ok (.istore_n 3, 1) := by decide +kernel
theorem dX5_number_22 : decode cX5_number 22 = .ok (.iload_n 3, 1) := by decide +kernel
theorem dX5_number_23 : decode cX5_number 23 = .ok (.aload_n 0, 1) := by decide +kernel
theorem dX5_number_24 : decode cX5_number 24 = .ok (.getfield 28, 3) := by decide +kernel
theorem dX5_number_27 : decode cX5_number 27 = .ok (.if_icmp .ge 24, 3) := by decide +kernel
theorem dX5_number_30 : decode cX5_number 30 = .ok (.bipush 10, 2) := by decide +kernel
theorem dX5_number_32 : decode cX5_number 32 = .ok (.iload_n 2, 1) := by decide +kernel
theorem dX5_number_33 : decode cX5_number 33 = .ok (.imul, 1) := by decide +kernel
theorem dX5_number_34 : decode cX5_number 34 = .ok (.aload_n 0, 1) := by decide +kernel
theorem dX5_number_35 : decode cX5_number 35 = .ok (.getfield 15, 3) := by decide +kernel
theorem dX5_number_38 : decode cX5_number 38 = .ok (.iload_n 3, 1) := by decide +kernel
theorem dX5_number_39 : decode cX5_number 39 = .ok (.baload, 1) := by decide +kernel
theorem dX5_number_40 : decode cX5_number 40 = .ok (.iadd, 1) := by decide +kernel
theorem dX5_number_41 : decode cX5_number 41 = .ok (.bipush 48, 2) := by decide +kernel
theorem dX5_number_43 : decode cX5_number 43 = .ok (.isub, 1) := by decide +kernel
theorem dX5_number_44 : decode cX5_number 44 = .ok (.istore_n 2, 1) := by decide +kernel
theorem dX5_number_45 : decode cX5_number 45 = .ok (.iinc 3 1, 3) := by decide +kernel
theorem dX5_number_48 : decode cX5_number 48 = .ok (.goto (-26), 3) := by decide +kernel
theorem dX5_number_51 : decode cX5_number 51 = .ok (.aload_n 1, 1) := by decide +kernel
theorem dX5_number_52 : decode cX5_number 52 = .ok (.iload_n 2, 1) := by decide +kernel
theorem dX5_number_53 : decode cX5_number 53 = .ok (.invokevirtual 92, 3) := by decide +kernel
theorem dX5_number_56 : decode cX5_number 56 = .ok (.aload_n 0, 1) := by decide +kernel
theorem dX5_number_57 : decode cX5_number 57 = .ok (.invokevirtual 31, 3) := by decide +kernel
theorem dX5_number_60 : decode cX5_number 60 = .ok (.iconst 1, 1) := by decide +kernel
theorem dX5_number_61 : decode cX5_number 61 = .ok (.ireturn, 1) := by decide +kernel
theorem dX5_name_0 : decode cX5_name 0 = .ok (.aload_n 0, 1) := by decide +kernel
theorem dX5_name_1 : decode cX5_name 1 = .ok (.getfield 28, 3) := by decide +kernel
theorem dX5_name_4 : decode cX5_name 4 = .ok (.aload_n 0, 1) := by decide +kernel
theorem dX5_name_5 : decode cX5_name 5 = .ok (.getfield 25, 3) := by decide +kernel
theorem dX5_name_8 : decode cX5_name 8 = .ok (.isub, 1) := by decide +kernel
theorem dX5_name_9 : decode cX5_name 9 = .ok (.iconst 1, 1) := by decide +kernel
theorem dX5_name_10 : decode cX5_name 10 = .ok (.if_icmp .ne 20, 3) := by decide +kernel
theorem dX5_name_13 : decode cX5_name 13 = .ok (.aload_n 1, 1) := by decide +kernel
theorem dX5_name_14 : decode cX5_name 14 = .ok (.aload_n 0, 1) := by decide +kernel
theorem dX5_name_15 : decode cX5_name 15 = .ok (.getfield 15, 3) := by decide +kernel
theorem dX5_name_18 : decode cX5_name 18 = .ok (.aload_n 0, 1) := by decide +kernel
theorem dX5_name_19 : decode cX5_name 19 = .ok (.getfield 25, 3) := by decide +kernel
theorem dX5_name_22 : decode cX5_name 22 = .ok (.baload, 1) := by decide +kernel
theorem dX5_name_23 : decode cX5_name 23 = .ok (.i2c, 1) := by decide +kernel
theorem dX5_name_24 : decode cX5_name 24 = .ok (.invokevirtual 95, 3) := by decide +kernel
theorem dX5_name_27 : decode cX5_name 27 = .ok (.ifCond .ne 5, 3) := by decide +kernel
theorem dX5_name_30 : decode cX5_name 30 = .ok (.iconst 0, 1) := by decide +kernel
theorem dX5_name_31 : decode cX5_name 31 = .ok (.ireturn, 1) := by decide +kernel
theorem dX5_name_32 : decode cX5_name 32 = .ok (.aload_n 0, 1) := by decide +kernel
theorem dX5_name_33 : decode cX5_name 33 = .ok (.invokevirtual 31, 3) := by decide +kernel
theorem dX5_name_36 : decode cX5_name 36 = .ok (.iconst 1, 1) := by decide +kernel
theorem dX5_name_37 : decode cX5_name 37 = .ok (.ireturn, 1) := by decide +kernel
theorem dX5_isSign_0 : decode cX5_isSign 0 = .ok (.aload_n 0, 1) := by decide +kernel
theorem dX5_isSign_1 : decode cX5_isSign 1 = .ok (.getfield 22, 3) := by decide +kernel
theorem dX5_isSign_4 : decode cX5_isSign 4 = .ok (.iconst 3, 1) := by decide +kernel
theorem dX5_isSign_5 : decode cX5_isSign 5 = .ok (.if_icmp .ne 15, 3) := by decide +kernel
theorem dX5_isSign_8 : decode cX5_isSign 8 = .ok (.aload_n 0, 1) := by decide +kernel
theorem dX5_isSign_9 : decode cX5_isSign 9 = .ok (.invokevirtual 71, 3) := by decide +kernel
theorem dX5_isSign_12 : decode cX5_isSign 12 = .ok (.iload_n 1, 1) := by decide +kernel
theorem dX5_isSign_13 : decode cX5_isSign 13 = .ok (.if_icmp .ne 7, 3) := by decide +kernel
theorem dX5_isSign_16 : decode cX5_isSign 16 = .ok (.iconst 1, 1) := by decide +kernel
theorem dX5_isSign_17 : decode cX5_isSign 17 = .ok (.goto 4, 3) := by decide +kernel
theorem dX5_isSign_20 : decode cX5_isSign 20 = .ok (.iconst 0, 1) := by decide +kernel
theorem dX5_isSign_21 : decode cX5_isSign 21 = .ok (.ireturn, 1) := by decide +kernel
theorem dX5_sign_0 : decode cX5_sign 0 = .ok (.aload_n 0, 1) := by decide +kernel
theorem dX5_sign_1 : decode cX5_sign 1 = .ok (.getfield 25, 3) := by decide +kernel
theorem dX5_sign_4 : decode cX5_sign 4 = .ok (.aload_n 0, 1) := by decide +kernel
theorem dX5_sign_5 : decode cX5_sign 5 = .ok (.getfield 19, 3) := by decide +kernel
theorem dX5_sign_8 : decode cX5_sign 8 = .ok (.if_icmp .ge 15, 3) := by decide +kernel
theorem dX5_sign_11 : decode cX5_sign 11 = .ok (.aload_n 0, 1) := by decide +kernel
theorem dX5_sign_12 : decode cX5_sign 12 = .ok (.getfield 15, 3) := by decide +kernel
theorem dX5_sign_15 : decode cX5_sign 15 = .ok (.aload_n 0, 1) := by decide +kernel
theorem dX5_sign_16 : decode cX5_sign 16 = .ok (.getfield 25, 3) := by decide +kernel
theorem dX5_sign_19 : decode cX5_sign 19 = .ok (.baload, 1) := by decide +kernel
theorem dX5_sign_20 : decode cX5_sign 20 = .ok (.goto 4, 3) := by decide +kernel
theorem dX5_sign_23 : decode cX5_sign 23 = .ok (.iconst 0, 1) := by decide +kernel
theorem dX5_sign_24 : decode cX5_sign 24 = .ok (.ireturn, 1) := by decide +kernel
theorem dX5_step_0 : decode cX5_step 0 = .ok (.aload_n 0, 1) := by decide +kernel
theorem dX5_step_1 : decode cX5_step 1 = .ok (.getfield 28, 3) := by decide +kernel
theorem dX5_step_4 : decode cX5_step 4 = .ok (.aload_n 0, 1) := by decide +kernel
theorem dX5_step_5 : decode cX5_step 5 = .ok (.getfield 19, 3) := by decide +kernel
theorem dX5_step_8 : decode cX5_step 8 = .ok (.if_icmp .ge 30, 3) := by decide +kernel
theorem dX5_step_11 : decode cX5_step 11 = .ok (.aload_n 0, 1) := by decide +kernel
theorem dX5_step_12 : decode cX5_step 12 = .ok (.getfield 15, 3) := by decide +kernel
theorem dX5_step_15 : decode cX5_step 15 = .ok (.aload_n 0, 1) := by decide +kernel
theorem dX5_step_16 : decode cX5_step 16 = .ok (.getfield 28, 3) := by decide +kernel
theorem dX5_step_19 : decode cX5_step 19 = .ok (.baload, 1) := by decide +kernel
theorem dX5_step_20 : decode cX5_step 20 = .ok (.bipush 32, 2) := by decide +kernel
theorem dX5_step_22 : decode cX5_step 22 = .ok (.if_icmp .ne 16, 3) := by decide +kernel
theorem dX5_step_25 : decode cX5_step 25 = .ok (.aload_n 0, 1) := by decide +kernel
theorem dX5_step_26 : decode cX5_step 26 = .ok (.dup, 1) := by decide +kernel
theorem dX5_step_27 : decode cX5_step 27 = .ok (.getfield 28, 3) := by decide +kernel
theorem dX5_step_30 : decode cX5_step 30 = .ok (.iconst 1, 1) := by decide +kernel
theorem dX5_step_31 : decode cX5_step 31 = .ok (.iadd, 1) := by decide +kernel
theorem dX5_step_32 : decode cX5_step 32 = .ok (.putfield 28, 3) := by decide +kernel
theorem dX5_step_35 : decode cX5_step 35 = .ok (.goto (-35), 3) := by decide +kernel
theorem dX5_step_38 : decode cX5_step 38 = .ok (.aload_n 0, 1) := by decide +kernel
theorem dX5_step_39 : decode cX5_step 39 = .ok (.aload_n 0, 1) := by decide +kernel
theorem dX5_step_40 : decode cX5_step 40 = .ok (.getfield 28, 3) := by decide +kernel
theorem dX5_step_43 : decode cX5_step 43 = .ok (.putfield 25, 3) := by decide +kernel
theorem dX5_step_46 : decode cX5_step 46 = .ok (.aload_n 0, 1) := by decide +kernel
theorem dX5_step_47 : decode cX5_step 47 = .ok (.getfield 28, 3) := by decide +kernel
theorem dX5_step_50 : decode cX5_step 50 = .ok (.aload_n 0, 1) := by decide +kernel
theorem dX5_step_51 : decode cX5_step 51 = .ok (.getfield 19, 3) := by decide +kernel
theorem dX5_step_54 : decode cX5_step 54 = .ok (.if_icmp .lt 9, 3) := by decide +kernel
theorem dX5_step_57 : decode cX5_step 57 = .ok (.aload_n 0, 1) := by decide +kernel
theorem dX5_step_58 : decode cX5_step 58 = .ok (.iconst 0, 1) := by decide +kernel
theorem dX5_step_59 : decode cX5_step 59 = .ok (.putfield 22, 3) := by decide +kernel
theorem dX5_step_62 : decode cX5_step 62 = .ok (.return_, 1) := by decide +kernel
theorem dX5_step_63 : decode cX5_step 63 = .ok (.aload_n 0, 1) := by decide +kernel
theorem dX5_step_64 : decode cX5_step 64 = .ok (.getfield 15, 3) := by decide +kernel
theorem dX5_step_67 : decode cX5_step 67 = .ok (.aload_n 0, 1) := by decide +kernel
theorem dX5_step_68 : decode cX5_step 68 = .ok (.getfield 28, 3) := by decide +kernel
theorem dX5_step_71 : decode cX5_step 71 = .ok (.baload, 1) := by decide +kernel
theorem dX5_step_72 : decode cX5_step 72 = .ok (.invokestatic 99, 3) := by decide +kernel
theorem dX5_step_75 : decode cX5_step 75 = .ok (.ifCond .eq 47, 3) := by decide +kernel
theorem dX5_step_78 : decode cX5_step 78 = .ok (.aload_n 0, 1) := by decide +kernel
theorem dX5_step_79 : decode cX5_step 79 = .ok (.iconst 1, 1) := by decide +kernel
theorem dX5_step_80 : decode cX5_step 80 = .ok (.putfield 22, 3) := by decide +kernel
theorem dX5_step_83 : decode cX5_step 83 = .ok (.aload_n 0, 1) := by decide +kernel
theorem dX5_step_84 : decode cX5_step 84 = .ok (.getfield 28, 3) := by decide +kernel
theorem dX5_step_87 : decode cX5_step 87 = .ok (.aload_n 0, 1) := by decide +kernel
theorem dX5_step_88 : decode cX5_step 88 = .ok (.getfield 19, 3) := by decide +kernel
theorem dX5_step_91 : decode cX5_step 91 = .ok (.if_icmp .ge 105, 3) := by decide +kernel
theorem dX5_step_94 : decode cX5_step 94 = .ok (.aload_n 0, 1) := by decide +kernel
theorem dX5_step_95 : decode cX5_step 95 = .ok (.getfield 15, 3) := by decide +kernel
theorem dX5_step_98 : decode cX5_step 98 = .ok (.aload_n 0, 1) := by decide +kernel
theorem dX5_step_99 : decode cX5_step 99 = .ok (.getfield 28, 3) := by decide +kernel
theorem dX5_step_102 : decode cX5_step 102 = .ok (.baload, 1) := by decide +kernel
theorem dX5_step_103 : decode cX5_step 103 = .ok (.invokestatic 99, 3) := by decide +kernel
theorem dX5_step_106 : decode cX5_step 106 = .ok (.ifCond .eq 90, 3) := by decide +kernel
theorem dX5_step_109 : decode cX5_step 109 = .ok (.aload_n 0, 1) := by decide +kernel
theorem dX5_step_110 : decode cX5_step 110 = .ok (.dup, 1) := by decide +kernel
theorem dX5_step_111 : decode cX5_step 111 = .ok (.getfield 28, 3) := by decide +kernel
theorem dX5_step_114 : decode cX5_step 114 = .ok (.iconst 1, 1) := by decide +kernel
theorem dX5_step_115 : decode cX5_step 115 = .ok (.iadd, 1) := by decide +kernel
theorem dX5_step_116 : decode cX5_step 116 = .ok (.putfield 28, 3) := by decide +kernel
theorem dX5_step_119 : decode cX5_step 119 = .ok (.goto (-36), 3) := by decide +kernel
theorem dX5_step_122 : decode cX5_step 122 = .ok (.aload_n 0, 1) := by decide +kernel
theorem dX5_step_123 : decode cX5_step 123 = .ok (.getfield 15, 3) := by decide +kernel
theorem dX5_step_126 : decode cX5_step 126 = .ok (.aload_n 0, 1) := by decide +kernel
theorem dX5_step_127 : decode cX5_step 127 = .ok (.getfield 28, 3) := by decide +kernel
theorem dX5_step_130 : decode cX5_step 130 = .ok (.baload, 1) := by decide +kernel
theorem dX5_step_131 : decode cX5_step 131 = .ok (.invokestatic 102, 3) := by decide +kernel
theorem dX5_step_134 : decode cX5_step 134 = .ok (.ifCond .eq 47, 3) := by decide +kernel
theorem dX5_step_137 : decode cX5_step 137 = .ok (.aload_n 0, 1) := by decide +kernel
theorem dX5_step_138 : decode cX5_step 138 = .ok (.iconst 2, 1) := by decide +kernel
theorem dX5_step_139 : decode cX5_step 139 = .ok (.putfield 22, 3) := by decide +kernel
theorem dX5_step_142 : decode cX5_step 142 = .ok (.aload_n 0, 1) := by decide +kernel
theorem dX5_step_143 : decode cX5_step 143 = .ok (.getfield 28, 3) := by decide +kernel
theorem dX5_step_146 : decode cX5_step 146 = .ok (.aload_n 0, 1) := by decide +kernel
theorem dX5_step_147 : decode cX5_step 147 = .ok (.getfield 19, 3) := by decide +kernel
theorem dX5_step_150 : decode cX5_step 150 = .ok (.if_icmp .ge 46, 3) := by decide +kernel
theorem dX5_step_153 : decode cX5_step 153 = .ok (.aload_n 0, 1) := by decide +kernel
theorem dX5_step_154 : decode cX5_step 154 = .ok (.getfield 15, 3) := by decide +kernel
theorem dX5_step_157 : decode cX5_step 157 = .ok (.aload_n 0, 1) := by decide +kernel
theorem dX5_step_158 : decode cX5_step 158 = .ok (.getfield 28, 3) := by decide +kernel
theorem dX5_step_161 : decode cX5_step 161 = .ok (.baload, 1) := by decide +kernel
theorem dX5_step_162 : decode cX5_step 162 = .ok (.invokestatic 102, 3) := by decide +kernel
theorem dX5_step_165 : decode cX5_step 165 = .ok (.ifCond .eq 31, 3) := by decide +kernel
theorem dX5_step_168 : decode cX5_step 168 = .ok (.aload_n 0, 1) := by decide +kernel
theorem dX5_step_169 : decode cX5_step 169 = .ok (.dup, 1) := by decide +kernel
theorem dX5_step_170 : decode cX5_step 170 = .ok (.getfield 28, 3) := by decide +kernel
theorem dX5_step_173 : decode cX5_step 173 = .ok (.iconst 1, 1) := by decide +kernel
theorem dX5_step_174 : decode cX5_step 174 = .ok (.iadd, 1) := by decide +kernel
theorem dX5_step_175 : decode cX5_step 175 = .ok (.putfield 28, 3) := by decide +kernel
theorem dX5_step_178 : decode cX5_step 178 = .ok (.goto (-36), 3) := by decide +kernel
theorem dX5_step_181 : decode cX5_step 181 = .ok (.aload_n 0, 1) := by decide +kernel
theorem dX5_step_182 : decode cX5_step 182 = .ok (.iconst 3, 1) := by decide +kernel
theorem dX5_step_183 : decode cX5_step 183 = .ok (.putfield 22, 3) := by decide +kernel
theorem dX5_step_186 : decode cX5_step 186 = .ok (.aload_n 0, 1) := by decide +kernel
theorem dX5_step_187 : decode cX5_step 187 = .ok (.dup, 1) := by decide +kernel
theorem dX5_step_188 : decode cX5_step 188 = .ok (.getfield 28, 3) := by decide +kernel
theorem dX5_step_191 : decode cX5_step 191 = .ok (.iconst 1, 1) := by decide +kernel
theorem dX5_step_192 : decode cX5_step 192 = .ok (.iadd, 1) := by decide +kernel
theorem dX5_step_193 : decode cX5_step 193 = .ok (.putfield 28, 3) := by decide +kernel
theorem dX5_step_196 : decode cX5_step 196 = .ok (.aload_n 0, 1) := by decide +kernel
theorem dX5_step_197 : decode cX5_step 197 = .ok (.getfield 22, 3) := by decide +kernel
theorem dX5_step_200 : decode cX5_step 200 = .ok (.iconst 3, 1) := by decide +kernel
theorem dX5_step_201 : decode cX5_step 201 = .ok (.if_icmp .eq 49, 3) := by decide +kernel
theorem dX5_step_204 : decode cX5_step 204 = .ok (.aload_n 0, 1) := by decide +kernel
theorem dX5_step_205 : decode cX5_step 205 = .ok (.getfield 25, 3) := by decide +kernel
theorem dX5_step_208 : decode cX5_step 208 = .ok (.ifCond .le 42, 3) := by decide +kernel
theorem dX5_step_211 : decode cX5_step 211 = .ok (.aload_n 0, 1) := by decide +kernel
theorem dX5_step_212 : decode cX5_step 212 = .ok (.getfield 15, 3) := by decide +kernel
theorem dX5_step_215 : decode cX5_step 215 = .ok (.aload_n 0, 1) := by decide +kernel
theorem dX5_step_216 : decode cX5_step 216 = .ok (.getfield 25, 3) := by decide +kernel
theorem dX5_step_219 : decode cX5_step 219 = .ok (.iconst 1, 1) := by decide +kernel
theorem dX5_step_220 : decode cX5_step 220 = .ok (.isub, 1) := by decide +kernel
theorem dX5_step_221 : decode cX5_step 221 = .ok (.baload, 1) := by decide +kernel
theorem dX5_step_222 : decode cX5_step 222 = .ok (.invokestatic 99, 3) := by decide +kernel
theorem dX5_step_225 : decode cX5_step 225 = .ok (.ifCond .ne 20, 3) := by decide +kernel
theorem dX5_step_228 : decode cX5_step 228 = .ok (.aload_n 0, 1) := by decide +kernel
theorem dX5_step_229 : decode cX5_step 229 = .ok (.getfield 15, 3) := by decide +kernel
theorem dX5_step_232 : decode cX5_step 232 = .ok (.aload_n 0, 1) := by decide +kernel
theorem dX5_step_233 : decode cX5_step 233 = .ok (.getfield 25, 3) := by decide +kernel
theorem dX5_step_236 : decode cX5_step 236 = .ok (.iconst 1, 1) := by decide +kernel
theorem dX5_step_237 : decode cX5_step 237 = .ok (.isub, 1) := by decide +kernel
theorem dX5_step_238 : decode cX5_step 238 = .ok (.baload, 1) := by decide +kernel
theorem dX5_step_239 : decode cX5_step 239 = .ok (.invokestatic 102, 3) := by decide +kernel
theorem dX5_step_242 : decode cX5_step 242 = .ok (.ifCond .eq 8, 3) := by decide +kernel
theorem dX5_step_245 : decode cX5_step 245 = .ok (.aload_n 0, 1) := by decide +kernel
theorem dX5_step_246 : decode cX5_step 246 = .ok (.iconst 4, 1) := by decide +kernel
theorem dX5_step_247 : decode cX5_step 247 = .ok (.putfield 22, 3) := by decide +kernel
theorem dX5_step_250 : decode cX5_step 250 = .ok (.return_, 1) := by decide +kernel
theorem dX5_isLetter_0 : decode cX5_isLetter 0 = .ok (.iload_n 0, 1) := by decide +kernel
theorem dX5_isLetter_1 : decode cX5_isLetter 1 = .ok (.bipush 97, 2) := by decide +kernel
theorem dX5_isLetter_3 : decode cX5_isLetter 3 = .ok (.if_icmp .lt 13, 3) := by decide +kernel
theorem dX5_isLetter_6 : decode cX5_isLetter 6 = .ok (.iload_n 0, 1) := by decide +kernel
theorem dX5_isLetter_7 : decode cX5_isLetter 7 = .ok (.bipush 122, 2) := by decide +kernel
theorem dX5_isLetter_9 : decode cX5_isLetter 9 = .ok (.if_icmp .gt 7, 3) := by decide +kernel
theorem dX5_isLetter_12 : decode cX5_isLetter 12 = .ok (.iconst 1, 1) := by decide +kernel
theorem dX5_isLetter_13 : decode cX5_isLetter 13 = .ok (.goto 4, 3) := by decide +kernel
theorem dX5_isLetter_16 : decode cX5_isLetter 16 = .ok (.iconst 0, 1) := by decide +kernel
theorem dX5_isLetter_17 : decode cX5_isLetter 17 = .ok (.ireturn, 1) := by decide +kernel
theorem dX5_isDigit_0 : decode cX5_isDigit 0 = .ok (.iload_n 0, 1) := by decide +kernel
theorem dX5_isDigit_1 : decode cX5_isDigit 1 = .ok (.bipush 48, 2) := by decide +kernel
theorem dX5_isDigit_3 : decode cX5_isDigit 3 = .ok (.if_icmp .lt 13, 3) := by decide +kernel
theorem dX5_isDigit_6 : decode cX5_isDigit 6 = .ok (.iload_n 0, 1) := by decide +kernel
theorem dX5_isDigit_7 : decode cX5_isDigit 7 = .ok (.bipush 57, 2) := by decide +kernel
theorem dX5_isDigit_9 : decode cX5_isDigit 9 = .ok (.if_icmp .gt 7, 3) := by decide +kernel
theorem dX5_isDigit_12 : decode cX5_isDigit 12 = .ok (.iconst 1, 1) := by decide +kernel
theorem dX5_isDigit_13 : decode cX5_isDigit 13 = .ok (.goto 4, 3) := by decide +kernel
theorem dX5_isDigit_16 : decode cX5_isDigit 16 = .ok (.iconst 0, 1) := by decide +kernel
theorem dX5_isDigit_17 : decode cX5_isDigit 17 = .ok (.ireturn, 1) := by decide +kernel
theorem dX6_init_0 : decode cX6_init 0 = .ok (.aload_n 0, 1) := by decide +kernel
theorem dX6_init_1 : decode cX6_init 1 = .ok (.invokespecial 3, 3) := by decide +kernel
theorem dX6_init_4 : decode cX6_init 4 = .ok (.aload_n 0, 1) := by decide +kernel
theorem dX6_init_5 : decode cX6_init 5 = .ok (.iconst 0, 1) := by decide +kernel
theorem dX6_init_6 : decode cX6_init 6 = .ok (.putfield 9, 3) := by decide +kernel
theorem dX6_init_9 : decode cX6_init 9 = .ok (.aload_n 0, 1) := by decide +kernel
theorem dX6_init_10 : decode cX6_init 10 = .ok (.iconst 0, 1) := by decide +kernel
theorem dX6_init_11 : decode cX6_init 11 = .ok (.putfield 15, 3) := by decide +kernel
theorem dX6_init_14 : decode cX6_init 14 = .ok (.aload_n 0, 1) := by decide +kernel
theorem dX6_init_15 : decode cX6_init 15 = .ok (.iconst 0, 1) := by decide +kernel
theorem dX6_init_16 : decode cX6_init 16 = .ok (.putfield 18, 3) := by decide +kernel
theorem dX6_init_19 : decode cX6_init 19 = .ok (.aload_n 0, 1) := by decide +kernel
theorem dX6_init_20 : decode cX6_init 20 = .ok (.bipush 96, 2) := by decide +kernel
theorem dX6_init_22 : decode cX6_init 22 = .ok (.newarray .int, 2) := by decide +kernel
theorem dX6_init_24 : decode cX6_init 24 = .ok (.putfield 21, 3) := by decide +kernel
theorem dX6_init_27 : decode cX6_init 27 = .ok (.aload_n 0, 1) := by decide +kernel
theorem dX6_init_28 : decode cX6_init 28 = .ok (.iload_n 1, 1) := by decide +kernel
theorem dX6_init_29 : decode cX6_init 29 = .ok (.putfield 25, 3) := by decide +kernel
theorem dX6_init_32 : decode cX6_init 32 = .ok (.aload_n 0, 1) := by decide +kernel
theorem dX6_init_33 : decode cX6_init 33 = .ok (.aload_n 2, 1) := by decide +kernel
theorem dX6_init_34 : decode cX6_init 34 = .ok (.putfield 28, 3) := by decide +kernel
theorem dX6_init_37 : decode cX6_init 37 = .ok (.return_, 1) := by decide +kernel
theorem dX6_begin_0 : decode cX6_begin 0 = .ok (.aload_n 0, 1) := by decide +kernel
theorem dX6_begin_1 : decode cX6_begin 1 = .ok (.iload_n 1, 1) := by decide +kernel
theorem dX6_begin_2 : decode cX6_begin 2 = .ok (.putfield 9, 3) := by decide +kernel
theorem dX6_begin_5 : decode cX6_begin 5 = .ok (.aload_n 0, 1) := by decide +kernel
theorem dX6_begin_6 : decode cX6_begin 6 = .ok (.iconst 0, 1) := by decide +kernel
theorem dX6_begin_7 : decode cX6_begin 7 = .ok (.putfield 15, 3) := by decide +kernel
theorem dX6_begin_10 : decode cX6_begin 10 = .ok (.aload_n 0, 1) := by decide +kernel
theorem dX6_begin_11 : decode cX6_begin 11 = .ok (.iconst 0, 1) := by decide +kernel
theorem dX6_begin_12 : decode cX6_begin 12 = .ok (.putfield 18, 3) := by decide +kernel
theorem dX6_begin_15 : decode cX6_begin 15 = .ok (.return_, 1) := by decide +kernel
theorem dX6_addNumber_0 : decode cX6_addNumber 0 = .ok (.aload_n 0, 1) := by decide +kernel
theorem dX6_addNumber_1 : decode cX6_addNumber 1 = .ok (.iload_n 1, 1) := by decide +kernel
theorem dX6_addNumber_2 : decode cX6_addNumber 2 = .ok (.invokevirtual 31, 3) := by decide +kernel
theorem dX6_addNumber_5 : decode cX6_addNumber 5 = .ok (.aload_n 0, 1) := by decide +kernel
theorem dX6_addNumber_6 : decode cX6_addNumber 6 = .ok (.dup, 1) := by decide +kernel
theorem dX6_addNumber_7 : decode cX6_addNumber 7 = .ok (.getfield 15, 3) := by decide +kernel
theorem dX6_addNumber_10 : decode cX6_addNumber 10 = .ok (.iconst 1, 1) := by decide +kernel
theorem dX6_addNumber_11 : decode cX6_addNumber 11 = .ok (.iadd, 1) := by decide +kernel
theorem dX6_addNumber_12 : decode cX6_addNumber 12 = .ok (.putfield 15, 3) := by decide +kernel
theorem dX6_addNumber_15 : decode cX6_addNumber 15 = .ok (.return_, 1) := by decide +kernel
theorem dX6_addName_0 : decode cX6_addName 0 = .ok (.aload_n 0, 1) := by decide +kernel
theorem dX6_addName_1 : decode cX6_addName 1 = .ok (.getfield 9, 3) := by decide +kernel
theorem dX6_addName_4 : decode cX6_addName 4 = .ok (.invokestatic 35, 3) := by decide +kernel
theorem dX6_addName_7 : decode cX6_addName 7 = .ok (.iload_n 1, 1) := by decide +kernel
theorem dX6_addName_8 : decode cX6_addName 8 = .ok (.invokevirtual 39, 3) := by decide +kernel
theorem dX6_addName_11 : decode cX6_addName 11 = .ok (.istore_n 2, 1) := by decide +kernel
theorem dX6_addName_12 : decode cX6_addName 12 = .ok (.iload_n 2, 1) := by decide +kernel
theorem dX6_addName_13 : decode cX6_addName 13 = .ok (.ifCond .ge 5, 3) := by decide +kernel
theorem dX6_addName_16 : decode cX6_addName 16 = .ok (.iconst 0, 1) := by decide +kernel
theorem dX6_addName_17 : decode cX6_addName 17 = .ok (.ireturn, 1) := by decide +kernel
theorem dX6_addName_18 : decode cX6_addName 18 = .ok (.aload_n 0, 1) := by decide +kernel
theorem dX6_addName_19 : decode cX6_addName 19 = .ok (.iconst (-1), 1) := by decide +kernel
theorem dX6_addName_20 : decode cX6_addName 20 = .ok (.iload_n 2, 1) := by decide +kernel
theorem dX6_addName_21 : decode cX6_addName 21 = .ok (.isub, 1) := by decide +kernel
theorem dX6_addName_22 : decode cX6_addName 22 = .ok (.invokevirtual 31, 3) := by decide +kernel
theorem dX6_addName_25 : decode cX6_addName 25 = .ok (.aload_n 0, 1) := by decide +kernel
theorem dX6_addName_26 : decode cX6_addName 26 = .ok (.dup, 1) := by decide +kernel
theorem dX6_addName_27 : decode cX6_addName 27 = .ok (.getfield 15, 3) := by decide +kernel
theorem dX6_addName_30 : decode cX6_addName 30 = .ok (.iconst 1, 1) := by decide +kernel
theorem dX6_addName_31 : decode cX6_addName 31 = .ok (.iadd, 1) := by decide +kernel
theorem dX6_addName_32 : decode cX6_addName 32 = .ok (.putfield 15, 3) := by decide +kernel
theorem dX6_addName_35 : decode cX6_addName 35 = .ok (.iconst 1, 1) := by decide +kernel
theorem dX6_addName_36 : decode cX6_addName 36 = .ok (.ireturn, 1) := by decide +kernel
theorem dX6_addSign_0 : decode cX6_addSign 0 = .ok (.aload_n 0, 1) := by decide +kernel
theorem dX6_addSign_1 : decode cX6_addSign 1 = .ok (.sipush 10000, 3) := by decide +kernel
theorem dX6_addSign_4 : decode cX6_addSign 4 = .ok (.iload_n 1, 1) := by decide +kernel
theorem dX6_addSign_5 : decode cX6_addSign 5 = .ok (.iadd, 1) := by decide +kernel
theorem dX6_addSign_6 : decode cX6_addSign 6 = .ok (.invokevirtual 31, 3) := by decide +kernel
theorem dX6_addSign_9 : decode cX6_addSign 9 = .ok (.return_, 1) := by decide +kernel
theorem dX6_addItem_0 : decode cX6_addItem 0 = .ok (.aload_n 0, 1) := by decide +kernel
theorem dX6_addItem_1 : decode cX6_addItem 1 = .ok (.getfield 18, 3) := by decide +kernel
theorem dX6_addItem_4 : decode cX6_addItem 4 = .ok (.aload_n 0, 1) := by decide +kernel
theorem dX6_addItem_5 : decode cX6_addItem 5 = .ok (.getfield 21, 3) := by decide +kernel
theorem dX6_addItem_8 : decode cX6_addItem 8 = .ok (.arraylength, 1) := by decide +kernel
theorem dX6_addItem_9 : decode cX6_addItem 9 = .ok (.if_icmp .ge 23, 3) := by decide +kernel
theorem dX6_addItem_12 : decode cX6_addItem 12 = .ok (.aload_n 0, 1) := by decide +kernel
theorem dX6_addItem_13 : decode cX6_addItem 13 = .ok (.getfield 21, 3) := by decide +kernel
theorem dX6_addItem_16 : decode cX6_addItem 16 = .ok (.aload_n 0, 1) := by decide +kernel
theorem dX6_addItem_17 : decode cX6_addItem 17 = .ok (.getfield 18, 3) := by decide +kernel
theorem dX6_addItem_20 : decode cX6_addItem 20 = .ok (.iload_n 1, 1) := by decide +kernel
theorem dX6_addItem_21 : decode cX6_addItem 21 = .ok (.iastore, 1) := by decide +kernel
theorem dX6_addItem_22 : decode cX6_addItem 22 = .ok (.aload_n 0, 1) := by decide +kernel
theorem dX6_addItem_23 : decode cX6_addItem 23 = .ok (.dup, 1) := by decide +kernel
theorem dX6_addItem_24 : decode cX6_addItem 24 = .ok (.getfield 18, 3) := by decide +kernel
theorem dX6_addItem_27 : decode cX6_addItem 27 = .ok (.iconst 1, 1) := by decide +kernel
theorem dX6_addItem_28 : decode cX6_addItem 28 = .ok (.iadd, 1) := by decide +kernel
theorem dX6_addItem_29 : decode cX6_addItem 29 = .ok (.putfield 18, 3) := by decide +kernel
theorem dX6_addItem_32 : decode cX6_addItem 32 = .ok (.return_, 1) := by decide +kernel
theorem dX6_namesOf_0 : decode cX6_namesOf 0 = .ok (.iload_n 0, 1) := by decide +kernel
theorem dX6_namesOf_1 : decode cX6_namesOf 1 = .ok (.lookupswitch 33 #[(0, 27), (1, 30)], 27) := by decide +kernel
theorem dX6_namesOf_28 : decode cX6_namesOf 28 = .ok (.ldc 45, 2) := by decide +kernel
theorem dX6_namesOf_30 : decode cX6_namesOf 30 = .ok (.areturn, 1) := by decide +kernel
theorem dX6_namesOf_31 : decode cX6_namesOf 31 = .ok (.ldc 47, 2) := by decide +kernel
theorem dX6_namesOf_33 : decode cX6_namesOf 33 = .ok (.areturn, 1) := by decide +kernel
theorem dX6_namesOf_34 : decode cX6_namesOf 34 = .ok (.ldc 49, 2) := by decide +kernel
theorem dX6_namesOf_36 : decode cX6_namesOf 36 = .ok (.areturn, 1) := by decide +kernel
theorem dX6_value_0 : decode cX6_value 0 = .ok (.iconst 0, 1) := by decide +kernel
theorem dX6_value_1 : decode cX6_value 1 = .ok (.istore 4, 2) := by decide +kernel
theorem dX6_value_3 : decode cX6_value 3 = .ok (.iconst 0, 1) := by decide +kernel
theorem dX6_value_4 : decode cX6_value 4 = .ok (.istore 5, 2) := by decide +kernel
theorem dX6_value_6 : decode cX6_value 6 = .ok (.iload 5, 2) := by decide +kernel
theorem dX6_value_8 : decode cX6_value 8 = .ok (.aload_n 0, 1) := by decide +kernel
theorem dX6_value_9 : decode cX6_value 9 = .ok (.getfield 18, 3) := by decide +kernel
theorem dX6_value_12 : decode cX6_value 12 = .ok (.if_icmp .ge 169, 3) := by decide +kernel
theorem dX6_value_15 : decode cX6_value 15 = .ok (.aload_n 0, 1) := by decide +kernel
theorem dX6_value_16 : decode cX6_value 16 = .ok (.getfield 21, 3) := by decide +kernel
theorem dX6_value_19 : decode cX6_value 19 = .ok (.iload 5, 2) := by decide +kernel
theorem dX6_value_21 : decode cX6_value 21 = .ok (.iaload, 1) := by decide +kernel
theorem dX6_value_22 : decode cX6_value 22 = .ok (.istore 6, 2) := by decide +kernel
theorem dX6_value_24 : decode cX6_value 24 = .ok (.iload 6, 2) := by decide +kernel
theorem dX6_value_26 : decode cX6_value 26 = .ok (.sipush 10033, 3) := by decide +kernel
theorem dX6_value_29 : decode cX6_value 29 = .ok (.if_icmp .ne 38, 3) := by decide +kernel
theorem dX6_value_32 : decode cX6_value 32 = .ok (.iload 4, 2) := by decide +kernel
theorem dX6_value_34 : decode cX6_value 34 = .ok (.iconst 1, 1) := by decide +kernel
theorem dX6_value_35 : decode cX6_value 35 = .ok (.if_icmp .lt 140, 3) := by decide +kernel
theorem dX6_value_38 : decode cX6_value 38 = .ok (.aload_n 0, 1) := by decide +kernel
theorem dX6_value_39 : decode cX6_value 39 = .ok (.getfield 28, 3) := by decide +kernel
theorem dX6_value_42 : decode cX6_value 42 = .ok (.iload 4, 2) := by decide +kernel
theorem dX6_value_44 : decode cX6_value 44 = .ok (.iconst 1, 1) := by decide +kernel
theorem dX6_value_45 : decode cX6_value 45 = .ok (.isub, 1) := by decide +kernel
theorem dX6_value_46 : decode cX6_value 46 = .ok (.aload_n 0, 1) := by decide +kernel
theorem dX6_value_47 : decode cX6_value 47 = .ok (.getfield 28, 3) := by decide +kernel
theorem dX6_value_50 : decode cX6_value 50 = .ok (.iload 4, 2) := by decide +kernel
theorem dX6_value_52 : decode cX6_value 52 = .ok (.iconst 1, 1) := by decide +kernel
theorem dX6_value_53 : decode cX6_value 53 = .ok (.isub, 1) := by decide +kernel
theorem dX6_value_54 : decode cX6_value 54 = .ok (.iaload, 1) := by decide +kernel
theorem dX6_value_55 : decode cX6_value 55 = .ok (.ifCond .ne 7, 3) := by decide +kernel
theorem dX6_value_58 : decode cX6_value 58 = .ok (.iconst 1, 1) := by decide +kernel
theorem dX6_value_59 : decode cX6_value 59 = .ok (.goto 4, 3) := by decide +kernel
theorem dX6_value_62 : decode cX6_value 62 = .ok (.iconst 0, 1) := by decide +kernel
theorem dX6_value_63 : decode cX6_value 63 = .ok (.iastore, 1) := by decide +kernel
theorem dX6_value_64 : decode cX6_value 64 = .ok (.goto 111, 3) := by decide +kernel
theorem dX6_value_67 : decode cX6_value 67 = .ok (.iload 6, 2) := by decide +kernel
theorem dX6_value_69 : decode cX6_value 69 = .ok (.sipush 10000, 3) := by decide +kernel
theorem dX6_value_72 : decode cX6_value 72 = .ok (.if_icmp .lt 51, 3) := by decide +kernel
theorem dX6_value_75 : decode cX6_value 75 = .ok (.iload 4, 2) := by decide +kernel
theorem dX6_value_77 : decode cX6_value 77 = .ok (.iconst 2, 1) := by decide +kernel
theorem dX6_value_78 : decode cX6_value 78 = .ok (.if_icmp .lt 97, 3) := by decide +kernel
theorem dX6_value_81 : decode cX6_value 81 = .ok (.aload_n 0, 1) := by decide +kernel
theorem dX6_value_82 : decode cX6_value 82 = .ok (.getfield 28, 3) := by decide +kernel
theorem dX6_value_85 : decode cX6_value 85 = .ok (.iload 4, 2) := by decide +kernel
theorem dX6_value_87 : decode cX6_value 87 = .ok (.iconst 2, 1) := by decide +kernel
theorem dX6_value_88 : decode cX6_value 88 = .ok (.isub, 1) := by decide +kernel
theorem dX6_value_89 : decode cX6_value 89 = .ok (.iload 6, 2) := by decide +kernel
theorem dX6_value_91 : decode cX6_value 91 = .ok (.sipush 10000, 3) := by decide +kernel
theorem dX6_value_94 : decode cX6_value 94 = .ok (.isub, 1) := by decide +kernel
theorem dX6_value_95 : decode cX6_value 95 = .ok (.aload_n 0, 1) := by decide +kernel
theorem dX6_value_96 : decode cX6_value 96 = .ok (.getfield 28, 3) := by decide +kernel
theorem dX6_value_99 : decode cX6_value 99 = .ok (.iload 4, 2) := by decide +kernel
theorem dX6_value_101 : decode cX6_value 101 = .ok (.iconst 2, 1) := by decide +kernel
theorem dX6_value_102 : decode cX6_value 102 = .ok (.isub, 1) := by decide +kernel
theorem dX6_value_103 : decode cX6_value 103 = .ok (.iaload, 1) := by decide +kernel
theorem dX6_value_104 : decode cX6_value 104 = .ok (.aload_n 0, 1) := by decide +kernel
theorem dX6_value_105 : decode cX6_value 105 = .ok (.getfield 28, 3) := by decide +kernel
theorem dX6_value_108 : decode cX6_value 108 = .ok (.iload 4, 2) := by decide +kernel
theorem dX6_value_110 : decode cX6_value 110 = .ok (.iconst 1, 1) := by decide +kernel
theorem dX6_value_111 : decode cX6_value 111 = .ok (.isub, 1) := by decide +kernel
theorem dX6_value_112 : decode cX6_value 112 = .ok (.iaload, 1) := by decide +kernel
theorem dX6_value_113 : decode cX6_value 113 = .ok (.invokestatic 51, 3) := by decide +kernel
theorem dX6_value_116 : decode cX6_value 116 = .ok (.iastore, 1) := by decide +kernel
theorem dX6_value_117 : decode cX6_value 117 = .ok (.iinc 4 (-1), 3) := by decide +kernel
theorem dX6_value_120 : decode cX6_value 120 = .ok (.goto 55, 3) := by decide +kernel
theorem dX6_value_123 : decode cX6_value 123 = .ok (.iload 4, 2) := by decide +kernel
theorem dX6_value_125 : decode cX6_value 125 = .ok (.aload_n 0, 1) := by decide +kernel
theorem dX6_value_126 : decode cX6_value 126 = .ok (.getfield 28, 3) := by decide +kernel
theorem dX6_value_129 : decode cX6_value 129 = .ok (.arraylength, 1) := by decide +kernel
theorem dX6_value_130 : decode cX6_value 130 = .ok (.if_icmp .ge 45, 3) := by decide +kernel
theorem dX6_value_133 : decode cX6_value 133 = .ok (.aload_n 0, 1) := by decide +kernel
theorem dX6_value_134 : decode cX6_value 134 = .ok (.getfield 28, 3) := by decide +kernel
theorem dX6_value_137 : decode cX6_value 137 = .ok (.iload 4, 2) := by decide +kernel
theorem dX6_value_139 : decode cX6_value 139 = .ok (.iload 6, 2) := by decide +kernel
theorem dX6_value_141 : decode cX6_value 141 = .ok (.ifCond .lt 8, 3) := by decide +kernel
theorem dX6_value_144 : decode cX6_value 144 = .ok (.iload 6, 2) := by decide +kernel
theorem dX6_value_146 : decode cX6_value 146 = .ok (.goto 25, 3) := by decide +kernel
theorem dX6_value_149 : decode cX6_value 149 = .ok (.iload 6, 2) := by decide +kernel
theorem dX6_value_151 : decode cX6_value 151 = .ok (.iconst (-1), 1) := by decide +kernel
theorem dX6_value_152 : decode cX6_value 152 = .ok (.if_icmp .ne 7, 3) := by decide +kernel
theorem dX6_value_155 : decode cX6_value 155 = .ok (.iload_n 1, 1) := by decide +kernel
theorem dX6_value_156 : decode cX6_value 156 = .ok (.goto 15, 3) := by decide +kernel
theorem dX6_value_159 : decode cX6_value 159 = .ok (.iload 6, 2) := by decide +kernel
theorem dX6_value_161 : decode cX6_value 161 = .ok (.bipush (-2), 2) := by decide +kernel
theorem dX6_value_163 : decode cX6_value 163 = .ok (.if_icmp .ne 7, 3) := by decide +kernel
theorem dX6_value_166 : decode cX6_value 166 = .ok (.iload_n 2, 1) := by decide +kernel
theorem dX6_value_167 : decode cX6_value 167 = .ok (.goto 4, 3) := by decide +kernel
theorem dX6_value_170 : decode cX6_value 170 = .ok (.iload_n 3, 1) := by decide +kernel
theorem dX6_value_171 : decode cX6_value 171 = .ok (.iastore, 1) := by decide +kernel
theorem dX6_value_172 : decode cX6_value 172 = .ok (.iinc 4 1, 3) := by decide +kernel
theorem dX6_value_175 : decode cX6_value 175 = .ok (.iinc 5 1, 3) := by decide +kernel
theorem dX6_value_178 : decode cX6_value 178 = .ok (.goto (-172), 3) := by decide +kernel
theorem dX6_value_181 : decode cX6_value 181 = .ok (.iload 4, 2) := by decide +kernel
theorem dX6_value_183 : decode cX6_value 183 = .ok (.ifCond .le 12, 3) := by decide +kernel
theorem dX6_value_186 : decode cX6_value 186 = .ok (.aload_n 0, 1) := by decide +kernel
theorem dX6_value_187 : decode cX6_value 187 = .ok (.getfield 28, 3) := by decide +kernel
theorem dX6_value_190 : decode cX6_value 190 = .ok (.iconst 0, 1) := by decide +kernel
theorem dX6_value_191 : decode cX6_value 191 = .ok (.iaload, 1) := by decide +kernel
theorem dX6_value_192 : decode cX6_value 192 = .ok (.goto 4, 3) := by decide +kernel
theorem dX6_value_195 : decode cX6_value 195 = .ok (.iconst 0, 1) := by decide +kernel
theorem dX6_value_196 : decode cX6_value 196 = .ok (.ireturn, 1) := by decide +kernel
theorem dX6_joined_0 : decode cX6_joined 0 = .ok (.iload_n 0, 1) := by decide +kernel
theorem dX6_joined_1 : decode cX6_joined 1 = .ok (.lookupswitch 148 #[(38, 89), (42, 144), (43, 136), (45, 140), (60, 103), (61, 114), (62, 125), (124, 75)], 75) := by decide +kernel
theorem dX6_joined_76 : decode cX6_joined 76 = .ok (.iload_n 1, 1) := by decide +kernel
theorem dX6_joined_77 : decode cX6_joined 77 = .ok (.ifCond .ne 7, 3) := by decide +kernel
theorem dX6_joined_80 : decode cX6_joined 80 = .ok (.iload_n 2, 1) := by decide +kernel
theorem dX6_joined_81 : decode cX6_joined 81 = .ok (.ifCond .eq 7, 3) := by decide +kernel
theorem dX6_joined_84 : decode cX6_joined 84 = .ok (.iconst 1, 1) := by decide +kernel
theorem dX6_joined_85 : decode cX6_joined 85 = .ok (.goto 4, 3) := by decide +kernel
theorem dX6_joined_88 : decode cX6_joined 88 = .ok (.iconst 0, 1) := by decide +kernel
theorem dX6_joined_89 : decode cX6_joined 89 = .ok (.ireturn, 1) := by decide +kernel
theorem dX6_joined_90 : decode cX6_joined 90 = .ok (.iload_n 1, 1) := by decide +kernel
theorem dX6_joined_91 : decode cX6_joined 91 = .ok (.ifCond .eq 11, 3) := by decide +kernel
theorem dX6_joined_94 : decode cX6_joined 94 = .ok (.iload_n 2, 1) := by decide +kernel
theorem dX6_joined_95 : decode cX6_joined 95 = .ok (.ifCond .eq 7, 3) := by decide +kernel
theorem dX6_joined_98 : decode cX6_joined 98 = .ok (.iconst 1, 1) := by decide +kernel
theorem dX6_joined_99 : decode cX6_joined 99 = .ok (.goto 4, 3) := by decide +kernel
theorem dX6_joined_102 : decode cX6_joined 102 = .ok (.iconst 0, 1) := by decide +kernel
theorem dX6_joined_103 : decode cX6_joined 103 = .ok (.ireturn, 1) := by decide +kernel
theorem dX6_joined_104 : decode cX6_joined 104 = .ok (.iload_n 1, 1) := by decide +kernel
theorem dX6_joined_105 : decode cX6_joined 105 = .ok (.iload_n 2, 1) := by decide +kernel
theorem dX6_joined_106 : decode cX6_joined 106 = .ok (.if_icmp .ge 7, 3) := by decide +kernel
theorem dX6_joined_109 : decode cX6_joined 109 = .ok (.iconst 1, 1) := by decide +kernel
theorem dX6_joined_110 : decode cX6_joined 110 = .ok (.goto 4, 3) := by decide +kernel
theorem dX6_joined_113 : decode cX6_joined 113 = .ok (.iconst 0, 1) := by decide +kernel
theorem dX6_joined_114 : decode cX6_joined 114 = .ok (.ireturn, 1) := by decide +kernel
theorem dX6_joined_115 : decode cX6_joined 115 = .ok (.iload_n 1, 1) := by decide +kernel
theorem dX6_joined_116 : decode cX6_joined 116 = .ok (.iload_n 2, 1) := by decide +kernel
theorem dX6_joined_117 : decode cX6_joined 117 = .ok (.if_icmp .ne 7, 3) := by decide +kernel
theorem dX6_joined_120 : decode cX6_joined 120 = .ok (.iconst 1, 1) := by decide +kernel
theorem dX6_joined_121 : decode cX6_joined 121 = .ok (.goto 4, 3) := by decide +kernel
theorem dX6_joined_124 : decode cX6_joined 124 = .ok (.iconst 0, 1) := by decide +kernel
theorem dX6_joined_125 : decode cX6_joined 125 = .ok (.ireturn, 1) := by decide +kernel
theorem dX6_joined_126 : decode cX6_joined 126 = .ok (.iload_n 1, 1) := by decide +kernel
theorem dX6_joined_127 : decode cX6_joined 127 = .ok (.iload_n 2, 1) := by decide +kernel
theorem dX6_joined_128 : decode cX6_joined 128 = .ok (.if_icmp .le 7, 3) := by decide +kernel
theorem dX6_joined_131 : decode cX6_joined 131 = .ok (.iconst 1, 1) := by decide +kernel
theorem dX6_joined_132 : decode cX6_joined 132 = .ok (.goto 4, 3) := by decide +kernel
theorem dX6_joined_135 : decode cX6_joined 135 = .ok (.iconst 0, 1) := by decide +kernel
theorem dX6_joined_136 : decode cX6_joined 136 = .ok (.ireturn, 1) := by decide +kernel
theorem dX6_joined_137 : decode cX6_joined 137 = .ok (.iload_n 1, 1) := by decide +kernel
theorem dX6_joined_138 : decode cX6_joined 138 = .ok (.iload_n 2, 1) := by decide +kernel
theorem dX6_joined_139 : decode cX6_joined 139 = .ok (.iadd, 1) := by decide +kernel
theorem dX6_joined_140 : decode cX6_joined 140 = .ok (.ireturn, 1) := by decide +kernel
theorem dX6_joined_141 : decode cX6_joined 141 = .ok (.iload_n 1, 1) := by decide +kernel
theorem dX6_joined_142 : decode cX6_joined 142 = .ok (.iload_n 2, 1) := by decide +kernel
theorem dX6_joined_143 : decode cX6_joined 143 = .ok (.isub, 1) := by decide +kernel
theorem dX6_joined_144 : decode cX6_joined 144 = .ok (.ireturn, 1) := by decide +kernel
theorem dX6_joined_145 : decode cX6_joined 145 = .ok (.iload_n 1, 1) := by decide +kernel
theorem dX6_joined_146 : decode cX6_joined 146 = .ok (.iload_n 2, 1) := by decide +kernel
theorem dX6_joined_147 : decode cX6_joined 147 = .ok (.imul, 1) := by decide +kernel
theorem dX6_joined_148 : decode cX6_joined 148 = .ok (.ireturn, 1) := by decide +kernel
theorem dX6_joined_149 : decode cX6_joined 149 = .ok (.iload_n 2, 1) := by decide +kernel
theorem dX6_joined_150 : decode cX6_joined 150 = .ok (.ifCond .ne 7, 3) := by decide +kernel
theorem dX6_joined_153 : decode cX6_joined 153 = .ok (.iconst 0, 1) := by decide +kernel
theorem dX6_joined_154 : decode cX6_joined 154 = .ok (.goto 6, 3) := by decide +kernel
theorem dX6_joined_157 : decode cX6_joined 157 = .ok (.iload_n 1, 1) := by decide +kernel
theorem dX6_joined_158 : decode cX6_joined 158 = .ok (.iload_n 2, 1) := by decide +kernel
theorem dX6_joined_159 : decode cX6_joined 159 = .ok (.idiv, 1) := by decide +kernel
theorem dX6_joined_160 : decode cX6_joined 160 = .ok (.ireturn, 1) := by decide +kernel
theorem dX7_init_0 : decode cX7_init 0 = .ok (.aload_n 0, 1) := by decide +kernel
theorem dX7_init_1 : decode cX7_init 1 = .ok (.invokespecial 1, 3) := by decide +kernel
theorem dX7_init_4 : decode cX7_init 4 = .ok (.aload_n 0, 1) := by decide +kernel
theorem dX7_init_5 : decode cX7_init 5 = .ok (.bipush 15, 2) := by decide +kernel
theorem dX7_init_7 : decode cX7_init 7 = .ok (.anewarray 9, 3) := by decide +kernel
theorem dX7_init_10 : decode cX7_init 10 = .ok (.putfield 11, 3) := by decide +kernel
theorem dX7_init_13 : decode cX7_init 13 = .ok (.aload_n 0, 1) := by decide +kernel
theorem dX7_init_14 : decode cX7_init 14 = .ok (.new 15, 3) := by decide +kernel
theorem dX7_init_17 : decode cX7_init 17 = .ok (.dup, 1) := by decide +kernel
theorem dX7_init_18 : decode cX7_init 18 = .ok (.invokespecial 17, 3) := by decide +kernel
theorem dX7_init_21 : decode cX7_init 21 = .ok (.putfield 18, 3) := by decide +kernel
theorem dX7_init_24 : decode cX7_init 24 = .ok (.aload_n 0, 1) := by decide +kernel
theorem dX7_init_25 : decode cX7_init 25 = .ok (.new 22, 3) := by decide +kernel
theorem dX7_init_28 : decode cX7_init 28 = .ok (.dup, 1) := by decide +kernel
theorem dX7_init_29 : decode cX7_init 29 = .ok (.invokespecial 24, 3) := by decide +kernel
theorem dX7_init_32 : decode cX7_init 32 = .ok (.putfield 25, 3) := by decide +kernel
theorem dX7_init_35 : decode cX7_init 35 = .ok (.aload_n 0, 1) := by decide +kernel
theorem dX7_init_36 : decode cX7_init 36 = .ok (.new 22, 3) := by decide +kernel
theorem dX7_init_39 : decode cX7_init 39 = .ok (.dup, 1) := by decide +kernel
theorem dX7_init_40 : decode cX7_init 40 = .ok (.invokespecial 24, 3) := by decide +kernel
theorem dX7_init_43 : decode cX7_init 43 = .ok (.putfield 29, 3) := by decide +kernel
theorem dX7_init_46 : decode cX7_init 46 = .ok (.aload_n 0, 1) := by decide +kernel
theorem dX7_init_47 : decode cX7_init 47 = .ok (.new 22, 3) := by decide +kernel
theorem dX7_init_50 : decode cX7_init 50 = .ok (.dup, 1) := by decide +kernel
theorem dX7_init_51 : decode cX7_init 51 = .ok (.invokespecial 24, 3) := by decide +kernel
theorem dX7_init_54 : decode cX7_init 54 = .ok (.putfield 32, 3) := by decide +kernel
theorem dX7_init_57 : decode cX7_init 57 = .ok (.aload_n 0, 1) := by decide +kernel
theorem dX7_init_58 : decode cX7_init 58 = .ok (.iconst 4, 1) := by decide +kernel
theorem dX7_init_59 : decode cX7_init 59 = .ok (.anewarray 35, 3) := by decide +kernel
theorem dX7_init_62 : decode cX7_init 62 = .ok (.putfield 37, 3) := by decide +kernel
theorem dX7_init_65 : decode cX7_init 65 = .ok (.aload_n 0, 1) := by decide +kernel
theorem dX7_init_66 : decode cX7_init 66 = .ok (.iconst 5, 1) := by decide +kernel
theorem dX7_init_67 : decode cX7_init 67 = .ok (.anewarray 41, 3) := by decide +kernel
theorem dX7_init_70 : decode cX7_init 70 = .ok (.putfield 43, 3) := by decide +kernel
theorem dX7_init_73 : decode cX7_init 73 = .ok (.aload_n 0, 1) := by decide +kernel
theorem dX7_init_74 : decode cX7_init 74 = .ok (.bipush 60, 2) := by decide +kernel
theorem dX7_init_76 : decode cX7_init 76 = .ok (.newarray .int, 2) := by decide +kernel
theorem dX7_init_78 : decode cX7_init 78 = .ok (.putfield 47, 3) := by decide +kernel
theorem dX7_init_81 : decode cX7_init 81 = .ok (.aload_n 0, 1) := by decide +kernel
theorem dX7_init_82 : decode cX7_init 82 = .ok (.iconst 0, 1) := by decide +kernel
theorem dX7_init_83 : decode cX7_init 83 = .ok (.putfield 51, 3) := by decide +kernel
theorem dX7_init_86 : decode cX7_init 86 = .ok (.aload_n 0, 1) := by decide +kernel
theorem dX7_init_87 : decode cX7_init 87 = .ok (.iconst 0, 1) := by decide +kernel
theorem dX7_init_88 : decode cX7_init 88 = .ok (.putfield 55, 3) := by decide +kernel
theorem dX7_init_91 : decode cX7_init 91 = .ok (.bipush 96, 2) := by decide +kernel
theorem dX7_init_93 : decode cX7_init 93 = .ok (.newarray .int, 2) := by decide +kernel
theorem dX7_init_95 : decode cX7_init 95 = .ok (.astore_n 1, 1) := by decide +kernel
theorem dX7_init_96 : decode cX7_init 96 = .ok (.iconst 0, 1) := by decide +kernel
theorem dX7_init_97 : decode cX7_init 97 = .ok (.istore_n 2, 1) := by decide +kernel
theorem dX7_init_98 : decode cX7_init 98 = .ok (.iload_n 2, 1) := by decide +kernel
theorem dX7_init_99 : decode cX7_init 99 = .ok (.aload_n 0, 1) := by decide +kernel
theorem dX7_init_100 : decode cX7_init 100 = .ok (.getfield 11, 3) := by decide +kernel
theorem dX7_init_103 : decode cX7_init 103 = .ok (.arraylength, 1) := by decide +kernel
theorem dX7_init_104 : decode cX7_init 104 = .ok (.if_icmp .ge 24, 3) := by decide +kernel
theorem dX7_init_107 : decode cX7_init 107 = .ok (.aload_n 0, 1) := by decide +kernel
theorem dX7_init_108 : decode cX7_init 108 = .ok (.getfield 11, 3) := by decide +kernel
theorem dX7_init_111 : decode cX7_init 111 = .ok (.iload_n 2, 1) := by decide +kernel
theorem dX7_init_112 : decode cX7_init 112 = .ok (.new 9, 3) := by decide +kernel
theorem dX7_init_115 : decode cX7_init 115 = .ok (.dup, 1) := by decide +kernel
theorem dX7_init_116 : decode cX7_init 116 = .ok (.iload_n 2, 1) := by decide +kernel
theorem dX7_init_117 : decode cX7_init 117 = .ok (.aload_n 1, 1) := by decide +kernel
theorem dX7_init_118 : decode cX7_init 118 = .ok (.invokespecial 59, 3) := by decide +kernel
theorem dX7_init_121 : decode cX7_init 121 = .ok (.aastore, 1) := by decide +kernel
theorem dX7_init_122 : decode cX7_init 122 = .ok (.iinc 2 1, 3) := by decide +kernel
theorem dX7_init_125 : decode cX7_init 125 = .ok (.goto (-27), 3) := by decide +kernel
theorem dX7_init_128 : decode cX7_init 128 = .ok (.iconst 0, 1) := by decide +kernel
theorem dX7_init_129 : decode cX7_init 129 = .ok (.istore_n 2, 1) := by decide +kernel
theorem dX7_init_130 : decode cX7_init 130 = .ok (.iload_n 2, 1) := by decide +kernel
theorem dX7_init_131 : decode cX7_init 131 = .ok (.aload_n 0, 1) := by decide +kernel
theorem dX7_init_132 : decode cX7_init 132 = .ok (.getfield 37, 3) := by decide +kernel
theorem dX7_init_135 : decode cX7_init 135 = .ok (.arraylength, 1) := by decide +kernel
theorem dX7_init_136 : decode cX7_init 136 = .ok (.if_icmp .ge 22, 3) := by decide +kernel
theorem dX7_init_139 : decode cX7_init 139 = .ok (.aload_n 0, 1) := by decide +kernel
theorem dX7_init_140 : decode cX7_init 140 = .ok (.getfield 37, 3) := by decide +kernel
theorem dX7_init_143 : decode cX7_init 143 = .ok (.iload_n 2, 1) := by decide +kernel
theorem dX7_init_144 : decode cX7_init 144 = .ok (.new 35, 3) := by decide +kernel
theorem dX7_init_147 : decode cX7_init 147 = .ok (.dup, 1) := by decide +kernel
theorem dX7_init_148 : decode cX7_init 148 = .ok (.invokespecial 62, 3) := by decide +kernel
theorem dX7_init_151 : decode cX7_init 151 = .ok (.aastore, 1) := by decide +kernel
theorem dX7_init_152 : decode cX7_init 152 = .ok (.iinc 2 1, 3) := by decide +kernel
theorem dX7_init_155 : decode cX7_init 155 = .ok (.goto (-25), 3) := by decide +kernel
theorem dX7_init_158 : decode cX7_init 158 = .ok (.iconst 0, 1) := by decide +kernel
theorem dX7_init_159 : decode cX7_init 159 = .ok (.istore_n 2, 1) := by decide +kernel
theorem dX7_init_160 : decode cX7_init 160 = .ok (.iload_n 2, 1) := by decide +kernel
theorem dX7_init_161 : decode cX7_init 161 = .ok (.aload_n 0, 1) := by decide +kernel
theorem dX7_init_162 : decode cX7_init 162 = .ok (.getfield 43, 3) := by decide +kernel
theorem dX7_init_165 : decode cX7_init 165 = .ok (.arraylength, 1) := by decide +kernel
theorem dX7_init_166 : decode cX7_init 166 = .ok (.if_icmp .ge 22, 3) := by decide +kernel
theorem dX7_init_169 : decode cX7_init 169 = .ok (.aload_n 0, 1) := by decide +kernel
theorem dX7_init_170 : decode cX7_init 170 = .ok (.getfield 43, 3) := by decide +kernel
theorem dX7_init_173 : decode cX7_init 173 = .ok (.iload_n 2, 1) := by decide +kernel
theorem dX7_init_174 : decode cX7_init 174 = .ok (.new 41, 3) := by decide +kernel
theorem dX7_init_177 : decode cX7_init 177 = .ok (.dup, 1) := by decide +kernel
theorem dX7_init_178 : decode cX7_init 178 = .ok (.invokespecial 63, 3) := by decide +kernel
theorem dX7_init_181 : decode cX7_init 181 = .ok (.aastore, 1) := by decide +kernel
theorem dX7_init_182 : decode cX7_init 182 = .ok (.iinc 2 1, 3) := by decide +kernel
theorem dX7_init_185 : decode cX7_init 185 = .ok (.goto (-25), 3) := by decide +kernel
theorem dX7_init_188 : decode cX7_init 188 = .ok (.return_, 1) := by decide +kernel
theorem dX7_boy_0 : decode cX7_boy 0 = .ok (.iload_n 1, 1) := by decide +kernel
theorem dX7_boy_1 : decode cX7_boy 1 = .ok (.invokestatic 64, 3) := by decide +kernel
theorem dX7_boy_4 : decode cX7_boy 4 = .ok (.ifCond .eq 28, 3) := by decide +kernel
theorem dX7_boy_7 : decode cX7_boy 7 = .ok (.iconst 1, 1) := by decide +kernel
theorem dX7_boy_8 : decode cX7_boy 8 = .ok (.iload_n 2, 1) := by decide +kernel
theorem dX7_boy_9 : decode cX7_boy 9 = .ok (.invokestatic 68, 3) := by decide +kernel
theorem dX7_boy_12 : decode cX7_boy 12 = .ok (.ifCond .eq 20, 3) := by decide +kernel
theorem dX7_boy_15 : decode cX7_boy 15 = .ok (.iconst 2, 1) := by decide +kernel
theorem dX7_boy_16 : decode cX7_boy 16 = .ok (.iload_n 3, 1) := by decide +kernel
theorem dX7_boy_17 : decode cX7_boy 17 = .ok (.invokestatic 68, 3) := by decide +kernel
theorem dX7_boy_20 : decode cX7_boy 20 = .ok (.ifCond .eq 12, 3) := by decide +kernel
theorem dX7_boy_23 : decode cX7_boy 23 = .ok (.iconst 3, 1) := by decide +kernel
theorem dX7_boy_24 : decode cX7_boy 24 = .ok (.iload 4, 2) := by decide +kernel
theorem dX7_boy_26 : decode cX7_boy 26 = .ok (.invokestatic 68, 3) := by decide +kernel
theorem dX7_boy_29 : decode cX7_boy 29 = .ok (.ifCond .ne 6, 3) := by decide +kernel
theorem dX7_boy_32 : decode cX7_boy 32 = .ok (.ldc 74, 2) := by decide +kernel
theorem dX7_boy_34 : decode cX7_boy 34 = .ok (.ireturn, 1) := by decide +kernel
theorem dX7_boy_35 : decode cX7_boy 35 = .ok (.aload_n 0, 1) := by decide +kernel
theorem dX7_boy_36 : decode cX7_boy 36 = .ok (.getfield 25, 3) := by decide +kernel
theorem dX7_boy_39 : decode cX7_boy 39 = .ok (.getfield 75, 3) := by decide +kernel
theorem dX7_boy_42 : decode cX7_boy 42 = .ok (.bipush 8, 2) := by decide +kernel
theorem dX7_boy_44 : decode cX7_boy 44 = .ok (.if_icmp .lt 6, 3) := by decide +kernel
theorem dX7_boy_47 : decode cX7_boy 47 = .ok (.ldc 78, 2) := by decide +kernel
theorem dX7_boy_49 : decode cX7_boy 49 = .ok (.ireturn, 1) := by decide +kernel
theorem dX7_boy_50 : decode cX7_boy 50 = .ok (.aload_n 0, 1) := by decide +kernel
theorem dX7_boy_51 : decode cX7_boy 51 = .ok (.getfield 25, 3) := by decide +kernel
theorem dX7_boy_54 : decode cX7_boy 54 = .ok (.iload_n 1, 1) := by decide +kernel
theorem dX7_boy_55 : decode cX7_boy 55 = .ok (.iload_n 2, 1) := by decide +kernel
theorem dX7_boy_56 : decode cX7_boy 56 = .ok (.iload_n 3, 1) := by decide +kernel
theorem dX7_boy_57 : decode cX7_boy 57 = .ok (.iload 4, 2) := by decide +kernel
theorem dX7_boy_59 : decode cX7_boy 59 = .ok (.invokevirtual 79, 3) := by decide +kernel
theorem dX7_boy_62 : decode cX7_boy 62 = .ok (.aload_n 0, 1) := by decide +kernel
theorem dX7_boy_63 : decode cX7_boy 63 = .ok (.getfield 25, 3) := by decide +kernel
theorem dX7_boy_66 : decode cX7_boy 66 = .ok (.getfield 75, 3) := by decide +kernel
theorem dX7_boy_69 : decode cX7_boy 69 = .ok (.iconst 1, 1) := by decide +kernel
theorem dX7_boy_70 : decode cX7_boy 70 = .ok (.isub, 1) := by decide +kernel
theorem dX7_boy_71 : decode cX7_boy 71 = .ok (.ireturn, 1) := by decide +kernel
theorem dX7_told_0 : decode cX7_told 0 = .ok (.aload_n 0, 1) := by decide +kernel
theorem dX7_told_1 : decode cX7_told 1 = .ok (.iload_n 1, 1) := by decide +kernel
theorem dX7_told_2 : decode cX7_told 2 = .ok (.invokevirtual 83, 3) := by decide +kernel
theorem dX7_told_5 : decode cX7_told 5 = .ok (.ifCond .eq 13, 3) := by decide +kernel
theorem dX7_told_8 : decode cX7_told 8 = .ok (.iload_n 2, 1) := by decide +kernel
theorem dX7_told_9 : decode cX7_told 9 = .ok (.ifCond .lt 9, 3) := by decide +kernel
theorem dX7_told_12 : decode cX7_told 12 = .ok (.iload_n 2, 1) := by decide +kernel
theorem dX7_told_13 : decode cX7_told 13 = .ok (.bipush 9, 2) := by decide +kernel
theorem dX7_told_15 : decode cX7_told 15 = .ok (.if_icmp .le 6, 3) := by decide +kernel
theorem dX7_told_18 : decode cX7_told 18 = .ok (.ldc 74, 2) := by decide +kernel
theorem dX7_told_20 : decode cX7_told 20 = .ok (.ireturn, 1) := by decide +kernel
theorem dX7_told_21 : decode cX7_told 21 = .ok (.aload_n 0, 1) := by decide +kernel
theorem dX7_told_22 : decode cX7_told 22 = .ok (.getfield 25, 3) := by decide +kernel
theorem dX7_told_25 : decode cX7_told 25 = .ok (.getfield 86, 3) := by decide +kernel
theorem dX7_told_28 : decode cX7_told 28 = .ok (.iload_n 1, 1) := by decide +kernel
theorem dX7_told_29 : decode cX7_told 29 = .ok (.aaload, 1) := by decide +kernel
theorem dX7_told_30 : decode cX7_told 30 = .ok (.iload_n 2, 1) := by decide +kernel
theorem dX7_told_31 : decode cX7_told 31 = .ok (.invokevirtual 90, 3) := by decide +kernel
theorem dX7_told_34 : decode cX7_told 34 = .ok (.ireturn, 1) := by decide +kernel
theorem dX7_shine_0 : decode cX7_shine 0 = .ok (.aload_n 0, 1) := by decide +kernel
theorem dX7_shine_1 : decode cX7_shine 1 = .ok (.iload_n 1, 1) := by decide +kernel
theorem dX7_shine_2 : decode cX7_shine 2 = .ok (.invokevirtual 83, 3) := by decide +kernel
theorem dX7_shine_5 : decode cX7_shine 5 = .ok (.ifCond .eq 23, 3) := by decide +kernel
theorem dX7_shine_8 : decode cX7_shine 8 = .ok (.iload_n 2, 1) := by decide +kernel
theorem dX7_shine_9 : decode cX7_shine 9 = .ok (.ifCond .lt 19, 3) := by decide +kernel
theorem dX7_shine_12 : decode cX7_shine 12 = .ok (.iload_n 2, 1) := by decide +kernel
theorem dX7_shine_13 : decode cX7_shine 13 = .ok (.bipush 40, 2) := by decide +kernel
theorem dX7_shine_15 : decode cX7_shine 15 = .ok (.if_icmp .gt 13, 3) := by decide +kernel
theorem dX7_shine_18 : decode cX7_shine 18 = .ok (.iload_n 3, 1) := by decide +kernel
theorem dX7_shine_19 : decode cX7_shine 19 = .ok (.ifCond .lt 9, 3) := by decide +kernel
theorem dX7_shine_22 : decode cX7_shine 22 = .ok (.iload_n 3, 1) := by decide +kernel
theorem dX7_shine_23 : decode cX7_shine 23 = .ok (.bipush 9, 2) := by decide +kernel
theorem dX7_shine_25 : decode cX7_shine 25 = .ok (.if_icmp .le 6, 3) := by decide +kernel
theorem dX7_shine_28 : decode cX7_shine 28 = .ok (.ldc 74, 2) := by decide +kernel
theorem dX7_shine_30 : decode cX7_shine 30 = .ok (.ireturn, 1) := by decide +kernel
theorem dX7_shine_31 : decode cX7_shine 31 = .ok (.aload_n 0, 1) := by decide +kernel
theorem dX7_shine_32 : decode cX7_shine 32 = .ok (.getfield 25, 3) := by decide +kernel
theorem dX7_shine_35 : decode cX7_shine 35 = .ok (.aload_n 0, 1) := by decide +kernel
theorem dX7_shine_36 : decode cX7_shine 36 = .ok (.getfield 25, 3) := by decide +kernel
theorem dX7_shine_39 : decode cX7_shine 39 = .ok (.getfield 86, 3) := by decide +kernel
theorem dX7_shine_42 : decode cX7_shine 42 = .ok (.iload_n 1, 1) := by decide +kernel
theorem dX7_shine_43 : decode cX7_shine 43 = .ok (.aaload, 1) := by decide +kernel
theorem dX7_shine_44 : decode cX7_shine 44 = .ok (.iload_n 2, 1) := by decide +kernel
theorem dX7_shine_45 : decode cX7_shine 45 = .ok (.iload_n 3, 1) := by decide +kernel
theorem dX7_shine_46 : decode cX7_shine 46 = .ok (.invokevirtual 94, 3) := by decide +kernel
theorem dX7_shine_49 : decode cX7_shine 49 = .ok (.ireturn, 1) := by decide +kernel
theorem dX7_as_0 : decode cX7_as 0 = .ok (.aload_n 0, 1) := by decide +kernel
theorem dX7_as_1 : decode cX7_as 1 = .ok (.iload_n 1, 1) := by decide +kernel
theorem dX7_as_2 : decode cX7_as 2 = .ok (.invokevirtual 83, 3) := by decide +kernel
theorem dX7_as_5 : decode cX7_as 5 = .ok (.ifCond .eq 10, 3) := by decide +kernel
theorem dX7_as_8 : decode cX7_as 8 = .ok (.iload_n 2, 1) := by decide +kernel
theorem dX7_as_9 : decode cX7_as 9 = .ok (.invokestatic 64, 3) := by decide +kernel
theorem dX7_as_12 : decode cX7_as 12 = .ok (.ifCond .ne 6, 3) := by decide +kernel
theorem dX7_as_15 : decode cX7_as 15 = .ok (.ldc 74, 2) := by decide +kernel
theorem dX7_as_17 : decode cX7_as 17 = .ok (.ireturn, 1) := by decide +kernel
theorem dX7_as_18 : decode cX7_as 18 = .ok (.aload_n 0, 1) := by decide +kernel
theorem dX7_as_19 : decode cX7_as 19 = .ok (.getfield 25, 3) := by decide +kernel
theorem dX7_as_22 : decode cX7_as 22 = .ok (.getfield 86, 3) := by decide +kernel
theorem dX7_as_25 : decode cX7_as 25 = .ok (.iload_n 1, 1) := by decide +kernel
theorem dX7_as_26 : decode cX7_as 26 = .ok (.aaload, 1) := by decide +kernel
theorem dX7_as_27 : decode cX7_as 27 = .ok (.astore_n 3, 1) := by decide +kernel
theorem dX7_as_28 : decode cX7_as 28 = .ok (.aload_n 3, 1) := by decide +kernel
theorem dX7_as_29 : decode cX7_as 29 = .ok (.getfield 98, 3) := by decide +kernel
theorem dX7_as_32 : decode cX7_as 32 = .ok (.iload_n 2, 1) := by decide +kernel
theorem dX7_as_33 : decode cX7_as 33 = .ok (.invokestatic 101, 3) := by decide +kernel
theorem dX7_as_36 : decode cX7_as 36 = .ok (.ifCond .eq 10, 3) := by decide +kernel
theorem dX7_as_39 : decode cX7_as 39 = .ok (.aload_n 3, 1) := by decide +kernel
theorem dX7_as_40 : decode cX7_as 40 = .ok (.getfield 106, 3) := by decide +kernel
theorem dX7_as_43 : decode cX7_as 43 = .ok (.goto 5, 3) := by decide +kernel
theorem dX7_as_46 : decode cX7_as 46 = .ok (.ldc 109, 2) := by decide +kernel
theorem dX7_as_48 : decode cX7_as 48 = .ok (.ireturn, 1) := by decide +kernel
theorem dX7_turns_0 : decode cX7_turns 0 = .ok (.aload_n 0, 1) := by decide +kernel
theorem dX7_turns_1 : decode cX7_turns 1 = .ok (.iload_n 1, 1) := by decide +kernel
theorem dX7_turns_2 : decode cX7_turns 2 = .ok (.invokevirtual 83, 3) := by decide +kernel
theorem dX7_turns_5 : decode cX7_turns 5 = .ok (.ifCond .eq 10, 3) := by decide +kernel
theorem dX7_turns_8 : decode cX7_turns 8 = .ok (.iload_n 2, 1) := by decide +kernel
theorem dX7_turns_9 : decode cX7_turns 9 = .ok (.invokestatic 64, 3) := by decide +kernel
theorem dX7_turns_12 : decode cX7_turns 12 = .ok (.ifCond .ne 6, 3) := by decide +kernel
theorem dX7_turns_15 : decode cX7_turns 15 = .ok (.ldc 74, 2) := by decide +kernel
theorem dX7_turns_17 : decode cX7_turns 17 = .ok (.ireturn, 1) := by decide +kernel
theorem dX7_turns_18 : decode cX7_turns 18 = .ok (.aload_n 0, 1) := by decide +kernel
theorem dX7_turns_19 : decode cX7_turns 19 = .ok (.getfield 25, 3) := by decide +kernel
theorem dX7_turns_22 : decode cX7_turns 22 = .ok (.getfield 86, 3) := by decide +kernel
theorem dX7_turns_25 : decode cX7_turns 25 = .ok (.iload_n 1, 1) := by decide +kernel
theorem dX7_turns_26 : decode cX7_turns 26 = .ok (.aaload, 1) := by decide +kernel
theorem dX7_turns_27 : decode cX7_turns 27 = .ok (.getfield 98, 3) := by decide +kernel
theorem dX7_turns_30 : decode cX7_turns 30 = .ok (.istore_n 3, 1) := by decide +kernel
theorem dX7_turns_31 : decode cX7_turns 31 = .ok (.aload_n 0, 1) := by decide +kernel
theorem dX7_turns_32 : decode cX7_turns 32 = .ok (.getfield 25, 3) := by decide +kernel
theorem dX7_turns_35 : decode cX7_turns 35 = .ok (.getfield 86, 3) := by decide +kernel
theorem dX7_turns_38 : decode cX7_turns 38 = .ok (.iload_n 1, 1) := by decide +kernel
theorem dX7_turns_39 : decode cX7_turns 39 = .ok (.aaload, 1) := by decide +kernel
theorem dX7_turns_40 : decode cX7_turns 40 = .ok (.iload_n 2, 1) := by decide +kernel
theorem dX7_turns_41 : decode cX7_turns 41 = .ok (.putfield 98, 3) := by decide +kernel
theorem dX7_turns_44 : decode cX7_turns 44 = .ok (.iload_n 3, 1) := by decide +kernel
theorem dX7_turns_45 : decode cX7_turns 45 = .ok (.ireturn, 1) := by decide +kernel
theorem dX7_set_0 : decode cX7_set 0 = .ok (.aload_n 0, 1) := by decide +kernel
theorem dX7_set_1 : decode cX7_set 1 = .ok (.iload_n 1, 1) := by decide +kernel
theorem dX7_set_2 : decode cX7_set 2 = .ok (.invokevirtual 83, 3) := by decide +kernel
theorem dX7_set_5 : decode cX7_set 5 = .ok (.ifCond .eq 11, 3) := by decide +kernel
theorem dX7_set_8 : decode cX7_set 8 = .ok (.iload_n 2, 1) := by decide +kernel
theorem dX7_set_9 : decode cX7_set 9 = .ok (.iload_n 3, 1) := by decide +kernel
theorem dX7_set_10 : decode cX7_set 10 = .ok (.invokestatic 68, 3) := by decide +kernel
theorem dX7_set_13 : decode cX7_set 13 = .ok (.ifCond .ne 6, 3) := by decide +kernel
theorem dX7_set_16 : decode cX7_set 16 = .ok (.ldc 74, 2) := by decide +kernel
theorem dX7_set_18 : decode cX7_set 18 = .ok (.ireturn, 1) := by decide +kernel
theorem dX7_set_19 : decode cX7_set 19 = .ok (.aload_n 0, 1) := by decide +kernel
theorem dX7_set_20 : decode cX7_set 20 = .ok (.getfield 25, 3) := by decide +kernel
theorem dX7_set_23 : decode cX7_set 23 = .ok (.getfield 86, 3) := by decide +kernel
theorem dX7_set_26 : decode cX7_set 26 = .ok (.iload_n 1, 1) := by decide +kernel
theorem dX7_set_27 : decode cX7_set 27 = .ok (.aaload, 1) := by decide +kernel
theorem dX7_set_28 : decode cX7_set 28 = .ok (.iload_n 2, 1) := by decide +kernel
theorem dX7_set_29 : decode cX7_set 29 = .ok (.invokevirtual 90, 3) := by decide +kernel
theorem dX7_set_32 : decode cX7_set 32 = .ok (.istore 4, 2) := by decide +kernel
theorem dX7_set_34 : decode cX7_set 34 = .ok (.aload_n 0, 1) := by decide +kernel
theorem dX7_set_35 : decode cX7_set 35 = .ok (.getfield 25, 3) := by decide +kernel
theorem dX7_set_38 : decode cX7_set 38 = .ok (.getfield 86, 3) := by decide +kernel
theorem dX7_set_41 : decode cX7_set 41 = .ok (.iload_n 1, 1) := by decide +kernel
theorem dX7_set_42 : decode cX7_set 42 = .ok (.aaload, 1) := by decide +kernel
theorem dX7_set_43 : decode cX7_set 43 = .ok (.iload_n 2, 1) := by decide +kernel
theorem dX7_set_44 : decode cX7_set 44 = .ok (.iload_n 3, 1) := by decide +kernel
theorem dX7_set_45 : decode cX7_set 45 = .ok (.invokevirtual 110, 3) := by decide +kernel
theorem dX7_set_48 : decode cX7_set 48 = .ok (.iload 4, 2) := by decide +kernel
theorem dX7_set_50 : decode cX7_set 50 = .ok (.ireturn, 1) := by decide +kernel
theorem dX7_deal_0 : decode cX7_deal 0 = .ok (.iload_n 1, 1) := by decide +kernel
theorem dX7_deal_1 : decode cX7_deal 1 = .ok (.iconst 1, 1) := by decide +kernel
theorem dX7_deal_2 : decode cX7_deal 2 = .ok (.if_icmp .lt 9, 3) := by decide +kernel
theorem dX7_deal_5 : decode cX7_deal 5 = .ok (.iload_n 1, 1) := by decide +kernel
theorem dX7_deal_6 : decode cX7_deal 6 = .ok (.bipush 8, 2) := by decide +kernel
theorem dX7_deal_8 : decode cX7_deal 8 = .ok (.if_icmp .le 6, 3) := by decide +kernel
theorem dX7_deal_11 : decode cX7_deal 11 = .ok (.ldc 74, 2) := by decide +kernel
theorem dX7_deal_13 : decode cX7_deal 13 = .ok (.ireturn, 1) := by decide +kernel
theorem dX7_deal_14 : decode cX7_deal 14 = .ok (.iload_n 1, 1) := by decide +kernel
theorem dX7_deal_15 : decode cX7_deal 15 = .ok (.bipush 8, 2) := by decide +kernel
theorem dX7_deal_17 : decode cX7_deal 17 = .ok (.aload_n 0, 1) := by decide +kernel
theorem dX7_deal_18 : decode cX7_deal 18 = .ok (.getfield 25, 3) := by decide +kernel
theorem dX7_deal_21 : decode cX7_deal 21 = .ok (.getfield 75, 3) := by decide +kernel
theorem dX7_deal_24 : decode cX7_deal 24 = .ok (.isub, 1) := by decide +kernel
theorem dX7_deal_25 : decode cX7_deal 25 = .ok (.invokestatic 114, 3) := by decide +kernel
theorem dX7_deal_28 : decode cX7_deal 28 = .ok (.istore_n 2, 1) := by decide +kernel
theorem dX7_deal_29 : decode cX7_deal 29 = .ok (.iconst 0, 1) := by decide +kernel
theorem dX7_deal_30 : decode cX7_deal 30 = .ok (.istore_n 3, 1) := by decide +kernel
theorem dX7_deal_31 : decode cX7_deal 31 = .ok (.iload_n 3, 1) := by decide +kernel
theorem dX7_deal_32 : decode cX7_deal 32 = .ok (.iload_n 2, 1) := by decide +kernel
theorem dX7_deal_33 : decode cX7_deal 33 = .ok (.if_icmp .ge 16, 3) := by decide +kernel
theorem dX7_deal_36 : decode cX7_deal 36 = .ok (.aload_n 0, 1) := by decide +kernel
theorem dX7_deal_37 : decode cX7_deal 37 = .ok (.getfield 25, 3) := by decide +kernel
theorem dX7_deal_40 : decode cX7_deal 40 = .ok (.invokevirtual 120, 3) := by decide +kernel
theorem dX7_deal_43 : decode cX7_deal 43 = .ok (.iinc 3 1, 3) := by decide +kernel
theorem dX7_deal_46 : decode cX7_deal 46 = .ok (.goto (-15), 3) := by decide +kernel
theorem dX7_deal_49 : decode cX7_deal 49 = .ok (.iload_n 2, 1) := by decide +kernel
theorem dX7_deal_50 : decode cX7_deal 50 = .ok (.ireturn, 1) := by decide +kernel
theorem dX7_seed_0 : decode cX7_seed 0 = .ok (.aload_n 0, 1) := by decide +kernel
theorem dX7_seed_1 : decode cX7_seed 1 = .ok (.getfield 25, 3) := by decide +kernel
theorem dX7_seed_4 : decode cX7_seed 4 = .ok (.getfield 123, 3) := by decide +kernel
theorem dX7_seed_7 : decode cX7_seed 7 = .ok (.istore_n 2, 1) := by decide +kernel
theorem dX7_seed_8 : decode cX7_seed 8 = .ok (.aload_n 0, 1) := by decide +kernel
theorem dX7_seed_9 : decode cX7_seed 9 = .ok (.getfield 25, 3) := by decide +kernel
theorem dX7_seed_12 : decode cX7_seed 12 = .ok (.iload_n 1, 1) := by decide +kernel
theorem dX7_seed_13 : decode cX7_seed 13 = .ok (.putfield 123, 3) := by decide +kernel
theorem dX7_seed_16 : decode cX7_seed 16 = .ok (.iload_n 2, 1) := by decide +kernel
theorem dX7_seed_17 : decode cX7_seed 17 = .ok (.ireturn, 1) := by decide +kernel
theorem dX7_rule_0 : decode cX7_rule 0 = .ok (.iload_n 2, 1) := by decide +kernel
theorem dX7_rule_1 : decode cX7_rule 1 = .ok (.ifCond .ge 6, 3) := by decide +kernel
theorem dX7_rule_4 : decode cX7_rule 4 = .ok (.ldc 74, 2) := by decide +kernel
theorem dX7_rule_6 : decode cX7_rule 6 = .ok (.ireturn, 1) := by decide +kernel
theorem dX7_rule_7 : decode cX7_rule 7 = .ok (.iload_n 1, 1) := by decide +kernel
theorem dX7_rule_8 : decode cX7_rule 8 = .ok (.ifCond .ne 27, 3) := by decide +kernel
theorem dX7_rule_11 : decode cX7_rule 11 = .ok (.iload_n 2, 1) := by decide +kernel
theorem dX7_rule_12 : decode cX7_rule 12 = .ok (.bipush 99, 2) := by decide +kernel
theorem dX7_rule_14 : decode cX7_rule 14 = .ok (.if_icmp .gt 21, 3) := by decide +kernel
theorem dX7_rule_17 : decode cX7_rule 17 = .ok (.aload_n 0, 1) := by decide +kernel
theorem dX7_rule_18 : decode cX7_rule 18 = .ok (.getfield 25, 3) := by decide +kernel
theorem dX7_rule_21 : decode cX7_rule 21 = .ok (.getfield 126, 3) := by decide +kernel
theorem dX7_rule_24 : decode cX7_rule 24 = .ok (.istore_n 3, 1) := by decide +kernel
theorem dX7_rule_25 : decode cX7_rule 25 = .ok (.aload_n 0, 1) := by decide +kernel
theorem dX7_rule_26 : decode cX7_rule 26 = .ok (.getfield 25, 3) := by decide +kernel
theorem dX7_rule_29 : decode cX7_rule 29 = .ok (.iload_n 2, 1) := by decide +kernel
theorem dX7_rule_30 : decode cX7_rule 30 = .ok (.putfield 126, 3) := by decide +kernel
theorem dX7_rule_33 : decode cX7_rule 33 = .ok (.iload_n 3, 1) := by decide +kernel
theorem dX7_rule_34 : decode cX7_rule 34 = .ok (.ireturn, 1) := by decide +kernel
theorem dX7_rule_35 : decode cX7_rule 35 = .ok (.iload_n 1, 1) := by decide +kernel
theorem dX7_rule_36 : decode cX7_rule 36 = .ok (.iconst 1, 1) := by decide +kernel
theorem dX7_rule_37 : decode cX7_rule 37 = .ok (.if_icmp .ne 27, 3) := by decide +kernel
theorem dX7_rule_40 : decode cX7_rule 40 = .ok (.iload_n 2, 1) := by decide +kernel
theorem dX7_rule_41 : decode cX7_rule 41 = .ok (.bipush 100, 2) := by decide +kernel
theorem dX7_rule_43 : decode cX7_rule 43 = .ok (.if_icmp .gt 21, 3) := by decide +kernel
theorem dX7_rule_46 : decode cX7_rule 46 = .ok (.aload_n 0, 1) := by decide +kernel
theorem dX7_rule_47 : decode cX7_rule 47 = .ok (.getfield 25, 3) := by decide +kernel
theorem dX7_rule_50 : decode cX7_rule 50 = .ok (.getfield 129, 3) := by decide +kernel
theorem dX7_rule_53 : decode cX7_rule 53 = .ok (.istore_n 3, 1) := by decide +kernel
theorem dX7_rule_54 : decode cX7_rule 54 = .ok (.aload_n 0, 1) := by decide +kernel
theorem dX7_rule_55 : decode cX7_rule 55 = .ok (.getfield 25, 3) := by decide +kernel
theorem dX7_rule_58 : decode cX7_rule 58 = .ok (.iload_n 2, 1) := by decide +kernel
theorem dX7_rule_59 : decode cX7_rule 59 = .ok (.putfield 129, 3) := by decide +kernel
theorem dX7_rule_62 : decode cX7_rule 62 = .ok (.iload_n 3, 1) := by decide +kernel
theorem dX7_rule_63 : decode cX7_rule 63 = .ok (.ireturn, 1) := by decide +kernel
theorem dX7_rule_64 : decode cX7_rule 64 = .ok (.iload_n 1, 1) := by decide +kernel
theorem dX7_rule_65 : decode cX7_rule 65 = .ok (.iconst 2, 1) := by decide +kernel
theorem dX7_rule_66 : decode cX7_rule 66 = .ok (.if_icmp .ne 43, 3) := by decide +kernel
theorem dX7_rule_69 : decode cX7_rule 69 = .ok (.iload_n 2, 1) := by decide +kernel
theorem dX7_rule_70 : decode cX7_rule 70 = .ok (.iconst 1, 1) := by decide +kernel
theorem dX7_rule_71 : decode cX7_rule 71 = .ok (.if_icmp .gt 38, 3) := by decide +kernel
theorem dX7_rule_74 : decode cX7_rule 74 = .ok (.aload_n 0, 1) := by decide +kernel
theorem dX7_rule_75 : decode cX7_rule 75 = .ok (.getfield 25, 3) := by decide +kernel
theorem dX7_rule_78 : decode cX7_rule 78 = .ok (.getfield 132, 3) := by decide +kernel
theorem dX7_rule_81 : decode cX7_rule 81 = .ok (.ifCond .eq 7, 3) := by decide +kernel
theorem dX7_rule_84 : decode cX7_rule 84 = .ok (.iconst 1, 1) := by decide +kernel
theorem dX7_rule_85 : decode cX7_rule 85 = .ok (.goto 4, 3) := by decide +kernel
theorem dX7_rule_88 : decode cX7_rule 88 = .ok (.iconst 0, 1) := by decide +kernel
theorem dX7_rule_89 : decode cX7_rule 89 = .ok (.istore_n 3, 1) := by decide +kernel
theorem dX7_rule_90 : decode cX7_rule 90 = .ok (.aload_n 0, 1) := by decide +kernel
theorem dX7_rule_91 : decode cX7_rule 91 = .ok (.getfield 25, 3) := by decide +kernel
theorem dX7_rule_94 : decode cX7_rule 94 = .ok (.iload_n 2, 1) := by decide +kernel
theorem dX7_rule_95 : decode cX7_rule 95 = .ok (.iconst 1, 1) := by decide +kernel
theorem dX7_rule_96 : decode cX7_rule 96 = .ok (.if_icmp .ne 7, 3) := by decide +kernel
theorem dX7_rule_99 : decode cX7_rule 99 = .ok (.iconst 1, 1) := by decide +kernel
theorem dX7_rule_100 : decode cX7_rule 100 = .ok (.goto 4, 3) := by decide +kernel
theorem dX7_rule_103 : decode cX7_rule 103 = .ok (.iconst 0, 1) := by decide +kernel
theorem dX7_rule_104 : decode cX7_rule 104 = .ok (.putfield 132, 3) := by decide +kernel
theorem dX7_rule_107 : decode cX7_rule 107 = .ok (.iload_n 3, 1) := by decide +kernel
theorem dX7_rule_108 : decode cX7_rule 108 = .ok (.ireturn, 1) := by decide +kernel
theorem dX7_rule_109 : decode cX7_rule 109 = .ok (.ldc 74, 2) := by decide +kernel
theorem dX7_rule_111 : decode cX7_rule 111 = .ok (.ireturn, 1) := by decide +kernel
theorem dX7_minutes_0 : decode cX7_minutes 0 = .ok (.iload_n 1, 1) := by decide +kernel
theorem dX7_minutes_1 : decode cX7_minutes 1 = .ok (.iconst 1, 1) := by decide +kernel
theorem dX7_minutes_2 : decode cX7_minutes 2 = .ok (.if_icmp .lt 10, 3) := by decide +kernel
theorem dX7_minutes_5 : decode cX7_minutes 5 = .ok (.iload_n 1, 1) := by decide +kernel
theorem dX7_minutes_6 : decode cX7_minutes 6 = .ok (.sipush 300, 3) := by decide +kernel
theorem dX7_minutes_9 : decode cX7_minutes 9 = .ok (.if_icmp .le 6, 3) := by decide +kernel
theorem dX7_minutes_12 : decode cX7_minutes 12 = .ok (.ldc 74, 2) := by decide +kernel
theorem dX7_minutes_14 : decode cX7_minutes 14 = .ok (.ireturn, 1) := by decide +kernel
theorem dX7_minutes_15 : decode cX7_minutes 15 = .ok (.aload_n 0, 1) := by decide +kernel
theorem dX7_minutes_16 : decode cX7_minutes 16 = .ok (.getfield 25, 3) := by decide +kernel
theorem dX7_minutes_19 : decode cX7_minutes 19 = .ok (.iload_n 1, 1) := by decide +kernel
theorem dX7_minutes_20 : decode cX7_minutes 20 = .ok (.sipush 9999, 3) := by decide +kernel
theorem dX7_minutes_23 : decode cX7_minutes 23 = .ok (.aload_n 0, 1) := by decide +kernel
theorem dX7_minutes_24 : decode cX7_minutes 24 = .ok (.getfield 25, 3) := by decide +kernel
theorem dX7_minutes_27 : decode cX7_minutes 27 = .ok (.getfield 135, 3) := by decide +kernel
theorem dX7_minutes_30 : decode cX7_minutes 30 = .ok (.isub, 1) := by decide +kernel
theorem dX7_minutes_31 : decode cX7_minutes 31 = .ok (.invokestatic 114, 3) := by decide +kernel
theorem dX7_minutes_34 : decode cX7_minutes 34 = .ok (.invokevirtual 138, 3) := by decide +kernel
theorem dX7_minutes_37 : decode cX7_minutes 37 = .ok (.ireturn, 1) := by decide +kernel
theorem dX7_street_0 : decode cX7_street 0 = .ok (.iload_n 1, 1) := by decide +kernel
theorem dX7_street_1 : decode cX7_street 1 = .ok (.tableswitch 75 0 4 #[35, 43, 51, 59, 67], 35) := by decide +kernel
theorem dX7_street_36 : decode cX7_street 36 = .ok (.aload_n 0, 1) := by decide +kernel
theorem dX7_street_37 : decode cX7_street 37 = .ok (.getfield 25, 3) := by decide +kernel
theorem dX7_street_40 : decode cX7_street 40 = .ok (.invokevirtual 141, 3) := by decide +kernel
theorem dX7_street_43 : decode cX7_street 43 = .ok (.ireturn, 1) := by decide +kernel
theorem dX7_street_44 : decode cX7_street 44 = .ok (.aload_n 0, 1) := by decide +kernel
theorem dX7_street_45 : decode cX7_street 45 = .ok (.getfield 25, 3) := by decide +kernel
theorem dX7_street_48 : decode cX7_street 48 = .ok (.getfield 145, 3) := by decide +kernel
theorem dX7_street_51 : decode cX7_street 51 = .ok (.ireturn, 1) := by decide +kernel
theorem dX7_street_52 : decode cX7_street 52 = .ok (.aload_n 0, 1) := by decide +kernel
theorem dX7_street_53 : decode cX7_street 53 = .ok (.getfield 25, 3) := by decide +kernel
theorem dX7_street_56 : decode cX7_street 56 = .ok (.getfield 148, 3) := by decide +kernel
theorem dX7_street_59 : decode cX7_street 59 = .ok (.ireturn, 1) := by decide +kernel
theorem dX7_street_60 : decode cX7_street 60 = .ok (.aload_n 0, 1) := by decide +kernel
theorem dX7_street_61 : decode cX7_street 61 = .ok (.getfield 25, 3) := by decide +kernel
theorem dX7_street_64 : decode cX7_street 64 = .ok (.invokevirtual 151, 3) := by decide +kernel
theorem dX7_street_67 : decode cX7_street 67 = .ok (.ireturn, 1) := by decide +kernel
theorem dX7_street_68 : decode cX7_street 68 = .ok (.aload_n 0, 1) := by decide +kernel
theorem dX7_street_69 : decode cX7_street 69 = .ok (.getfield 25, 3) := by decide +kernel
theorem dX7_street_72 : decode cX7_street 72 = .ok (.invokevirtual 154, 3) := by decide +kernel
theorem dX7_street_75 : decode cX7_street 75 = .ok (.ireturn, 1) := by decide +kernel
theorem dX7_street_76 : decode cX7_street 76 = .ok (.ldc 74, 2) := by decide +kernel
theorem dX7_street_78 : decode cX7_street 78 = .ok (.ireturn, 1) := by decide +kernel
theorem dX7_goesTo_0 : decode cX7_goesTo 0 = .ok (.iload_n 1, 1) := by decide +kernel
theorem dX7_goesTo_1 : decode cX7_goesTo 1 = .ok (.ifCond .lt 20, 3) := by decide +kernel
theorem dX7_goesTo_4 : decode cX7_goesTo 4 = .ok (.iload_n 1, 1) := by decide +kernel
theorem dX7_goesTo_5 : decode cX7_goesTo 5 = .ok (.bipush 10, 2) := by decide +kernel
theorem dX7_goesTo_7 : decode cX7_goesTo 7 = .ok (.if_icmp .ge 14, 3) := by decide +kernel
theorem dX7_goesTo_10 : decode cX7_goesTo 10 = .ok (.iload_n 2, 1) := by decide +kernel
theorem dX7_goesTo_11 : decode cX7_goesTo 11 = .ok (.iconst 1, 1) := by decide +kernel
theorem dX7_goesTo_12 : decode cX7_goesTo 12 = .ok (.if_icmp .lt 9, 3) := by decide +kernel
theorem dX7_goesTo_15 : decode cX7_goesTo 15 = .ok (.iload_n 2, 1) := by decide +kernel
theorem dX7_goesTo_16 : decode cX7_goesTo 16 = .ok (.bipush 9, 2) := by decide +kernel
theorem dX7_goesTo_18 : decode cX7_goesTo 18 = .ok (.if_icmp .le 6, 3) := by decide +kernel
theorem dX7_goesTo_21 : decode cX7_goesTo 21 = .ok (.ldc 74, 2) := by decide +kernel
theorem dX7_goesTo_23 : decode cX7_goesTo 23 = .ok (.ireturn, 1) := by decide +kernel
theorem dX7_goesTo_24 : decode cX7_goesTo 24 = .ok (.aload_n 0, 1) := by decide +kernel
theorem dX7_goesTo_25 : decode cX7_goesTo 25 = .ok (.getfield 25, 3) := by decide +kernel
theorem dX7_goesTo_28 : decode cX7_goesTo 28 = .ok (.iload_n 1, 1) := by decide +kernel
theorem dX7_goesTo_29 : decode cX7_goesTo 29 = .ok (.iload_n 2, 1) := by decide +kernel
theorem dX7_goesTo_30 : decode cX7_goesTo 30 = .ok (.invokevirtual 157, 3) := by decide +kernel
theorem dX7_goesTo_33 : decode cX7_goesTo 33 = .ok (.istore_n 3, 1) := by decide +kernel
theorem dX7_goesTo_34 : decode cX7_goesTo 34 = .ok (.iload_n 3, 1) := by decide +kernel
theorem dX7_goesTo_35 : decode cX7_goesTo 35 = .ok (.ifCond .ge 8, 3) := by decide +kernel
theorem dX7_goesTo_38 : decode cX7_goesTo 38 = .ok (.ldc 160, 2) := by decide +kernel
theorem dX7_goesTo_40 : decode cX7_goesTo 40 = .ok (.goto 4, 3) := by decide +kernel
theorem dX7_goesTo_43 : decode cX7_goesTo 43 = .ok (.iload_n 3, 1) := by decide +kernel
theorem dX7_goesTo_44 : decode cX7_goesTo 44 = .ok (.ireturn, 1) := by decide +kernel
theorem dX7_behind_0 : decode cX7_behind 0 = .ok (.iload_n 1, 1) := by decide +kernel
theorem dX7_behind_1 : decode cX7_behind 1 = .ok (.ifCond .lt 27, 3) := by decide +kernel
theorem dX7_behind_4 : decode cX7_behind 4 = .ok (.iload_n 1, 1) := by decide +kernel
theorem dX7_behind_5 : decode cX7_behind 5 = .ok (.sipush 300, 3) := by decide +kernel
theorem dX7_behind_8 : decode cX7_behind 8 = .ok (.if_icmp .gt 20, 3) := by decide +kernel
theorem dX7_behind_11 : decode cX7_behind 11 = .ok (.iload_n 2, 1) := by decide +kernel
theorem dX7_behind_12 : decode cX7_behind 12 = .ok (.ifCond .lt 16, 3) := by decide +kernel
theorem dX7_behind_15 : decode cX7_behind 15 = .ok (.iload_n 2, 1) := by decide +kernel
theorem dX7_behind_16 : decode cX7_behind 16 = .ok (.iconst 3, 1) := by decide +kernel
theorem dX7_behind_17 : decode cX7_behind 17 = .ok (.aload_n 0, 1) := by decide +kernel
theorem dX7_behind_18 : decode cX7_behind 18 = .ok (.getfield 25, 3) := by decide +kernel
theorem dX7_behind_21 : decode cX7_behind 21 = .ok (.getfield 75, 3) := by decide +kernel
theorem dX7_behind_24 : decode cX7_behind 24 = .ok (.iadd, 1) := by decide +kernel
theorem dX7_behind_25 : decode cX7_behind 25 = .ok (.if_icmp .lt 6, 3) := by decide +kernel
theorem dX7_behind_28 : decode cX7_behind 28 = .ok (.ldc 74, 2) := by decide +kernel
theorem dX7_behind_30 : decode cX7_behind 30 = .ok (.ireturn, 1) := by decide +kernel
theorem dX7_behind_31 : decode cX7_behind 31 = .ok (.aload_n 0, 1) := by decide +kernel
theorem dX7_behind_32 : decode cX7_behind 32 = .ok (.getfield 32, 3) := by decide +kernel
theorem dX7_behind_35 : decode cX7_behind 35 = .ok (.aload_n 0, 1) := by decide +kernel
theorem dX7_behind_36 : decode cX7_behind 36 = .ok (.getfield 25, 3) := by decide +kernel
theorem dX7_behind_39 : decode cX7_behind 39 = .ok (.invokevirtual 161, 3) := by decide +kernel
theorem dX7_behind_42 : decode cX7_behind 42 = .ok (.aload_n 0, 1) := by decide +kernel
theorem dX7_behind_43 : decode cX7_behind 43 = .ok (.getfield 32, 3) := by decide +kernel
theorem dX7_behind_46 : decode cX7_behind 46 = .ok (.iload_n 1, 1) := by decide +kernel
theorem dX7_behind_47 : decode cX7_behind 47 = .ok (.invokevirtual 138, 3) := by decide +kernel
theorem dX7_behind_50 : decode cX7_behind 50 = .ok (.pop, 1) := by decide +kernel
theorem dX7_behind_51 : decode cX7_behind 51 = .ok (.iload_n 2, 1) := by decide +kernel
theorem dX7_behind_52 : decode cX7_behind 52 = .ok (.tableswitch 52 0 2 #[28, 36, 44], 28) := by decide +kernel
theorem dX7_behind_80 : decode cX7_behind 80 = .ok (.aload_n 0, 1) := by decide +kernel
theorem dX7_behind_81 : decode cX7_behind 81 = .ok (.getfield 32, 3) := by decide +kernel
theorem dX7_behind_84 : decode cX7_behind 84 = .ok (.invokevirtual 141, 3) := by decide +kernel
theorem dX7_behind_87 : decode cX7_behind 87 = .ok (.ireturn, 1) := by decide +kernel
theorem dX7_behind_88 : decode cX7_behind 88 = .ok (.aload_n 0, 1) := by decide +kernel
theorem dX7_behind_89 : decode cX7_behind 89 = .ok (.getfield 32, 3) := by decide +kernel
theorem dX7_behind_92 : decode cX7_behind 92 = .ok (.getfield 145, 3) := by decide +kernel
theorem dX7_behind_95 : decode cX7_behind 95 = .ok (.ireturn, 1) := by decide +kernel
theorem dX7_behind_96 : decode cX7_behind 96 = .ok (.aload_n 0, 1) := by decide +kernel
theorem dX7_behind_97 : decode cX7_behind 97 = .ok (.getfield 32, 3) := by decide +kernel
theorem dX7_behind_100 : decode cX7_behind 100 = .ok (.getfield 148, 3) := by decide +kernel
theorem dX7_behind_103 : decode cX7_behind 103 = .ok (.ireturn, 1) := by decide +kernel
theorem dX7_behind_104 : decode cX7_behind 104 = .ok (.aload_n 0, 1) := by decide +kernel
theorem dX7_behind_105 : decode cX7_behind 105 = .ok (.getfield 32, 3) := by decide +kernel
theorem dX7_behind_108 : decode cX7_behind 108 = .ok (.getfield 86, 3) := by decide +kernel
theorem dX7_behind_111 : decode cX7_behind 111 = .ok (.iload_n 2, 1) := by decide +kernel
theorem dX7_behind_112 : decode cX7_behind 112 = .ok (.iconst 3, 1) := by decide +kernel
theorem dX7_behind_113 : decode cX7_behind 113 = .ok (.isub, 1) := by decide +kernel
theorem dX7_behind_114 : decode cX7_behind 114 = .ok (.aaload, 1) := by decide +kernel
theorem dX7_behind_115 : decode cX7_behind 115 = .ok (.getfield 165, 3) := by decide +kernel
theorem dX7_behind_118 : decode cX7_behind 118 = .ok (.ireturn, 1) := by decide +kernel
theorem dX7_best_0 : decode cX7_best 0 = .ok (.aload_n 0, 1) := by decide +kernel
theorem dX7_best_1 : decode cX7_best 1 = .ok (.iload_n 1, 1) := by decide +kernel
theorem dX7_best_2 : decode cX7_best 2 = .ok (.invokevirtual 83, 3) := by decide +kernel
theorem dX7_best_5 : decode cX7_best 5 = .ok (.ifCond .eq 30, 3) := by decide +kernel
theorem dX7_best_8 : decode cX7_best 8 = .ok (.iload_n 2, 1) := by decide +kernel
theorem dX7_best_9 : decode cX7_best 9 = .ok (.ifCond .lt 26, 3) := by decide +kernel
theorem dX7_best_12 : decode cX7_best 12 = .ok (.iload_n 2, 1) := by decide +kernel
theorem dX7_best_13 : decode cX7_best 13 = .ok (.iconst 2, 1) := by decide +kernel
theorem dX7_best_14 : decode cX7_best 14 = .ok (.if_icmp .gt 21, 3) := by decide +kernel
theorem dX7_best_17 : decode cX7_best 17 = .ok (.iload_n 3, 1) := by decide +kernel
theorem dX7_best_18 : decode cX7_best 18 = .ok (.invokestatic 168, 3) := by decide +kernel
theorem dX7_best_21 : decode cX7_best 21 = .ok (.ifCond .eq 14, 3) := by decide +kernel
theorem dX7_best_24 : decode cX7_best 24 = .ok (.iload 4, 2) := by decide +kernel
theorem dX7_best_26 : decode cX7_best 26 = .ok (.ifCond .lt 9, 3) := by decide +kernel
theorem dX7_best_29 : decode cX7_best 29 = .ok (.iload 4, 2) := by decide +kernel
theorem dX7_best_31 : decode cX7_best 31 = .ok (.iconst 1, 1) := by decide +kernel
theorem dX7_best_32 : decode cX7_best 32 = .ok (.if_icmp .le 6, 3) := by decide +kernel
theorem dX7_best_35 : decode cX7_best 35 = .ok (.ldc 74, 2) := by decide +kernel
theorem dX7_best_37 : decode cX7_best 37 = .ok (.ireturn, 1) := by decide +kernel
theorem dX7_best_38 : decode cX7_best 38 = .ok (.iload_n 2, 1) := by decide +kernel
theorem dX7_best_39 : decode cX7_best 39 = .ok (.iconst 1, 1) := by decide +kernel
theorem dX7_best_40 : decode cX7_best 40 = .ok (.if_icmp .ne 7, 3) := by decide +kernel
theorem dX7_best_43 : decode cX7_best 43 = .ok (.iconst 0, 1) := by decide +kernel
theorem dX7_best_44 : decode cX7_best 44 = .ok (.goto 4, 3) := by decide +kernel
theorem dX7_best_47 : decode cX7_best 47 = .ok (.iconst 1, 1) := by decide +kernel
theorem dX7_best_48 : decode cX7_best 48 = .ok (.istore 5, 2) := by decide +kernel
theorem dX7_best_50 : decode cX7_best 50 = .ok (.iload_n 2, 1) := by decide +kernel
theorem dX7_best_51 : decode cX7_best 51 = .ok (.ifCond .ne 8, 3) := by decide +kernel
theorem dX7_best_54 : decode cX7_best 54 = .ok (.bipush 20, 2) := by decide +kernel
theorem dX7_best_56 : decode cX7_best 56 = .ok (.goto 15, 3) := by decide +kernel
theorem dX7_best_59 : decode cX7_best 59 = .ok (.iload_n 2, 1) := by decide +kernel
theorem dX7_best_60 : decode cX7_best 60 = .ok (.iconst 1, 1) := by decide +kernel
theorem dX7_best_61 : decode cX7_best 61 = .ok (.if_icmp .ne 8, 3) := by decide +kernel
theorem dX7_best_64 : decode cX7_best 64 = .ok (.bipush 9, 2) := by decide +kernel
theorem dX7_best_66 : decode cX7_best 66 = .ok (.goto 5, 3) := by decide +kernel
theorem dX7_best_69 : decode cX7_best 69 = .ok (.bipush 40, 2) := by decide +kernel
theorem dX7_best_71 : decode cX7_best 71 = .ok (.istore 6, 2) := by decide +kernel
theorem dX7_best_73 : decode cX7_best 73 = .ok (.iload_n 2, 1) := by decide +kernel
theorem dX7_best_74 : decode cX7_best 74 = .ok (.ifCond .ne 7, 3) := by decide +kernel
theorem dX7_best_77 : decode cX7_best 77 = .ok (.iconst 3, 1) := by decide +kernel
theorem dX7_best_78 : decode cX7_best 78 = .ok (.goto 13, 3) := by decide +kernel
theorem dX7_best_81 : decode cX7_best 81 = .ok (.iload_n 2, 1) := by decide +kernel
theorem dX7_best_82 : decode cX7_best 82 = .ok (.iconst 1, 1) := by decide +kernel
theorem dX7_best_83 : decode cX7_best 83 = .ok (.if_icmp .ne 7, 3) := by decide +kernel
theorem dX7_best_86 : decode cX7_best 86 = .ok (.iconst 1, 1) := by decide +kernel
theorem dX7_best_87 : decode cX7_best 87 = .ok (.goto 4, 3) := by decide +kernel
theorem dX7_best_90 : decode cX7_best 90 = .ok (.iconst 2, 1) := by decide +kernel
theorem dX7_best_91 : decode cX7_best 91 = .ok (.istore 7, 2) := by decide +kernel
theorem dX7_best_93 : decode cX7_best 93 = .ok (.iload 5, 2) := by decide +kernel
theorem dX7_best_95 : decode cX7_best 95 = .ok (.istore 8, 2) := by decide +kernel
theorem dX7_best_97 : decode cX7_best 97 = .ok (.iconst 0, 1) := by decide +kernel
theorem dX7_best_98 : decode cX7_best 98 = .ok (.istore 9, 2) := by decide +kernel
theorem dX7_best_100 : decode cX7_best 100 = .ok (.iload 5, 2) := by decide +kernel
theorem dX7_best_102 : decode cX7_best 102 = .ok (.istore 10, 2) := by decide +kernel
theorem dX7_best_104 : decode cX7_best 104 = .ok (.iload 10, 2) := by decide +kernel
theorem dX7_best_106 : decode cX7_best 106 = .ok (.iload 6, 2) := by decide +kernel
theorem dX7_best_108 : decode cX7_best 108 = .ok (.if_icmp .gt 81, 3) := by decide +kernel
theorem dX7_best_111 : decode cX7_best 111 = .ok (.aload_n 0, 1) := by decide +kernel
theorem dX7_best_112 : decode cX7_best 112 = .ok (.getfield 32, 3) := by decide +kernel
theorem dX7_best_115 : decode cX7_best 115 = .ok (.aload_n 0, 1) := by decide +kernel
theorem dX7_best_116 : decode cX7_best 116 = .ok (.getfield 25, 3) := by decide +kernel
theorem dX7_best_119 : decode cX7_best 119 = .ok (.invokevirtual 161, 3) := by decide +kernel
theorem dX7_best_122 : decode cX7_best 122 = .ok (.aload_n 0, 1) := by decide +kernel
theorem dX7_best_123 : decode cX7_best 123 = .ok (.getfield 32, 3) := by decide +kernel
theorem dX7_best_126 : decode cX7_best 126 = .ok (.getfield 86, 3) := by decide +kernel
theorem dX7_best_129 : decode cX7_best 129 = .ok (.iload_n 1, 1) := by decide +kernel
theorem dX7_best_130 : decode cX7_best 130 = .ok (.aaload, 1) := by decide +kernel
theorem dX7_best_131 : decode cX7_best 131 = .ok (.iload 7, 2) := by decide +kernel
theorem dX7_best_133 : decode cX7_best 133 = .ok (.iload 10, 2) := by decide +kernel
theorem dX7_best_135 : decode cX7_best 135 = .ok (.invokevirtual 110, 3) := by decide +kernel
theorem dX7_best_138 : decode cX7_best 138 = .ok (.aload_n 0, 1) := by decide +kernel
theorem dX7_best_139 : decode cX7_best 139 = .ok (.getfield 32, 3) := by decide +kernel
theorem dX7_best_142 : decode cX7_best 142 = .ok (.iload_n 3, 1) := by decide +kernel
theorem dX7_best_143 : decode cX7_best 143 = .ok (.invokevirtual 138, 3) := by decide +kernel
theorem dX7_best_146 : decode cX7_best 146 = .ok (.pop, 1) := by decide +kernel
theorem dX7_best_147 : decode cX7_best 147 = .ok (.aload_n 0, 1) := by decide +kernel
theorem dX7_best_148 : decode cX7_best 148 = .ok (.getfield 32, 3) := by decide +kernel
theorem dX7_best_151 : decode cX7_best 151 = .ok (.getfield 86, 3) := by decide +kernel
theorem dX7_best_154 : decode cX7_best 154 = .ok (.iload_n 1, 1) := by decide +kernel
theorem dX7_best_155 : decode cX7_best 155 = .ok (.aaload, 1) := by decide +kernel
theorem dX7_best_156 : decode cX7_best 156 = .ok (.getfield 165, 3) := by decide +kernel
theorem dX7_best_159 : decode cX7_best 159 = .ok (.istore 11, 2) := by decide +kernel
theorem dX7_best_161 : decode cX7_best 161 = .ok (.iload 10, 2) := by decide +kernel
theorem dX7_best_163 : decode cX7_best 163 = .ok (.iload 5, 2) := by decide +kernel
theorem dX7_best_165 : decode cX7_best 165 = .ok (.if_icmp .eq 10, 3) := by decide +kernel
theorem dX7_best_168 : decode cX7_best 168 = .ok (.iload 11, 2) := by decide +kernel
theorem dX7_best_170 : decode cX7_best 170 = .ok (.iload 9, 2) := by decide +kernel
theorem dX7_best_172 : decode cX7_best 172 = .ok (.if_icmp .le 11, 3) := by decide +kernel
theorem dX7_best_175 : decode cX7_best 175 = .ok (.iload 10, 2) := by decide +kernel
theorem dX7_best_177 : decode cX7_best 177 = .ok (.istore 8, 2) := by decide +kernel
theorem dX7_best_179 : decode cX7_best 179 = .ok (.iload 11, 2) := by decide +kernel
theorem dX7_best_181 : decode cX7_best 181 = .ok (.istore 9, 2) := by decide +kernel
theorem dX7_best_183 : decode cX7_best 183 = .ok (.iinc 10 1, 3) := by decide +kernel
theorem dX7_best_186 : decode cX7_best 186 = .ok (.goto (-82), 3) := by decide +kernel
theorem dX7_best_189 : decode cX7_best 189 = .ok (.iload 4, 2) := by decide +kernel
theorem dX7_best_191 : decode cX7_best 191 = .ok (.ifCond .ne 8, 3) := by decide +kernel
theorem dX7_best_194 : decode cX7_best 194 = .ok (.iload 8, 2) := by decide +kernel
theorem dX7_best_196 : decode cX7_best 196 = .ok (.goto 5, 3) := by decide +kernel
theorem dX7_best_199 : decode cX7_best 199 = .ok (.iload 9, 2) := by decide +kernel
theorem dX7_best_201 : decode cX7_best 201 = .ok (.ireturn, 1) := by decide +kernel
theorem dX7_bestShare_0 : decode cX7_bestShare 0 = .ok (.iload_n 1, 1) := by decide +kernel
theorem dX7_bestShare_1 : decode cX7_bestShare 1 = .ok (.invokestatic 168, 3) := by decide +kernel
theorem dX7_bestShare_4 : decode cX7_bestShare 4 = .ok (.ifCond .eq 12, 3) := by decide +kernel
theorem dX7_bestShare_7 : decode cX7_bestShare 7 = .ok (.iload_n 2, 1) := by decide +kernel
theorem dX7_bestShare_8 : decode cX7_bestShare 8 = .ok (.ifCond .lt 8, 3) := by decide +kernel
theorem dX7_bestShare_11 : decode cX7_bestShare 11 = .ok (.iload_n 2, 1) := by decide +kernel
theorem dX7_bestShare_12 : decode cX7_bestShare 12 = .ok (.iconst 1, 1) := by decide +kernel
theorem dX7_bestShare_13 : decode cX7_bestShare 13 = .ok (.if_icmp .le 6, 3) := by decide +kernel
theorem dX7_bestShare_16 : decode cX7_bestShare 16 = .ok (.ldc 74, 2) := by decide +kernel
theorem dX7_bestShare_18 : decode cX7_bestShare 18 = .ok (.ireturn, 1) := by decide +kernel
theorem dX7_bestShare_19 : decode cX7_bestShare 19 = .ok (.iconst 0, 1) := by decide +kernel
theorem dX7_bestShare_20 : decode cX7_bestShare 20 = .ok (.istore_n 3, 1) := by decide +kernel
theorem dX7_bestShare_21 : decode cX7_bestShare 21 = .ok (.iconst 0, 1) := by decide +kernel
theorem dX7_bestShare_22 : decode cX7_bestShare 22 = .ok (.istore 4, 2) := by decide +kernel
theorem dX7_bestShare_24 : decode cX7_bestShare 24 = .ok (.iconst 0, 1) := by decide +kernel
theorem dX7_bestShare_25 : decode cX7_bestShare 25 = .ok (.istore 5, 2) := by decide +kernel
theorem dX7_bestShare_27 : decode cX7_bestShare 27 = .ok (.iload 5, 2) := by decide +kernel
theorem dX7_bestShare_29 : decode cX7_bestShare 29 = .ok (.bipush 99, 2) := by decide +kernel
theorem dX7_bestShare_31 : decode cX7_bestShare 31 = .ok (.if_icmp .gt 67, 3) := by decide +kernel
theorem dX7_bestShare_34 : decode cX7_bestShare 34 = .ok (.aload_n 0, 1) := by decide +kernel
theorem dX7_bestShare_35 : decode cX7_bestShare 35 = .ok (.getfield 32, 3) := by decide +kernel
theorem dX7_bestShare_38 : decode cX7_bestShare 38 = .ok (.aload_n 0, 1) := by decide +kernel
theorem dX7_bestShare_39 : decode cX7_bestShare 39 = .ok (.getfield 25, 3) := by decide +kernel
theorem dX7_bestShare_42 : decode cX7_bestShare 42 = .ok (.invokevirtual 161, 3) := by decide +kernel
theorem dX7_bestShare_45 : decode cX7_bestShare 45 = .ok (.aload_n 0, 1) := by decide +kernel
theorem dX7_bestShare_46 : decode cX7_bestShare 46 = .ok (.getfield 32, 3) := by decide +kernel
theorem dX7_bestShare_49 : decode cX7_bestShare 49 = .ok (.iload 5, 2) := by decide +kernel
theorem dX7_bestShare_51 : decode cX7_bestShare 51 = .ok (.putfield 126, 3) := by decide +kernel
theorem dX7_bestShare_54 : decode cX7_bestShare 54 = .ok (.aload_n 0, 1) := by decide +kernel
theorem dX7_bestShare_55 : decode cX7_bestShare 55 = .ok (.getfield 32, 3) := by decide +kernel
theorem dX7_bestShare_58 : decode cX7_bestShare 58 = .ok (.iload_n 1, 1) := by decide +kernel
theorem dX7_bestShare_59 : decode cX7_bestShare 59 = .ok (.invokevirtual 138, 3) := by decide +kernel
theorem dX7_bestShare_62 : decode cX7_bestShare 62 = .ok (.pop, 1) := by decide +kernel
theorem dX7_bestShare_63 : decode cX7_bestShare 63 = .ok (.iload 5, 2) := by decide +kernel
theorem dX7_bestShare_65 : decode cX7_bestShare 65 = .ok (.ifCond .eq 15, 3) := by decide +kernel
theorem dX7_bestShare_68 : decode cX7_bestShare 68 = .ok (.aload_n 0, 1) := by decide +kernel
theorem dX7_bestShare_69 : decode cX7_bestShare 69 = .ok (.getfield 32, 3) := by decide +kernel
theorem dX7_bestShare_72 : decode cX7_bestShare 72 = .ok (.getfield 145, 3) := by decide +kernel
theorem dX7_bestShare_75 : decode cX7_bestShare 75 = .ok (.iload 4, 2) := by decide +kernel
theorem dX7_bestShare_77 : decode cX7_bestShare 77 = .ok (.if_icmp .le 15, 3) := by decide +kernel
theorem dX7_bestShare_80 : decode cX7_bestShare 80 = .ok (.iload 5, 2) := by decide +kernel
theorem dX7_bestShare_82 : decode cX7_bestShare 82 = .ok (.istore_n 3, 1) := by decide +kernel
theorem dX7_bestShare_83 : decode cX7_bestShare 83 = .ok (.aload_n 0, 1) := by decide +kernel
theorem dX7_bestShare_84 : decode cX7_bestShare 84 = .ok (.getfield 32, 3) := by decide +kernel
theorem dX7_bestShare_87 : decode cX7_bestShare 87 = .ok (.getfield 145, 3) := by decide +kernel
theorem dX7_bestShare_90 : decode cX7_bestShare 90 = .ok (.istore 4, 2) := by decide +kernel
theorem dX7_bestShare_92 : decode cX7_bestShare 92 = .ok (.iinc 5 1, 3) := by decide +kernel
theorem dX7_bestShare_95 : decode cX7_bestShare 95 = .ok (.goto (-68), 3) := by decide +kernel
theorem dX7_bestShare_98 : decode cX7_bestShare 98 = .ok (.iload_n 2, 1) := by decide +kernel
theorem dX7_bestShare_99 : decode cX7_bestShare 99 = .ok (.ifCond .ne 7, 3) := by decide +kernel
theorem dX7_bestShare_102 : decode cX7_bestShare 102 = .ok (.iload_n 3, 1) := by decide +kernel
theorem dX7_bestShare_103 : decode cX7_bestShare 103 = .ok (.goto 5, 3) := by decide +kernel
theorem dX7_bestShare_106 : decode cX7_bestShare 106 = .ok (.iload 4, 2) := by decide +kernel
theorem dX7_bestShare_108 : decode cX7_bestShare 108 = .ok (.ireturn, 1) := by decide +kernel
theorem dX7_sentAway_0 : decode cX7_sentAway 0 = .ok (.iload_n 1, 1) := by decide +kernel
theorem dX7_sentAway_1 : decode cX7_sentAway 1 = .ok (.invokestatic 168, 3) := by decide +kernel
theorem dX7_sentAway_4 : decode cX7_sentAway 4 = .ok (.ifCond .eq 12, 3) := by decide +kernel
theorem dX7_sentAway_7 : decode cX7_sentAway 7 = .ok (.iload_n 2, 1) := by decide +kernel
theorem dX7_sentAway_8 : decode cX7_sentAway 8 = .ok (.ifCond .lt 8, 3) := by decide +kernel
theorem dX7_sentAway_11 : decode cX7_sentAway 11 = .ok (.iload_n 2, 1) := by decide +kernel
theorem dX7_sentAway_12 : decode cX7_sentAway 12 = .ok (.iconst 1, 1) := by decide +kernel
theorem dX7_sentAway_13 : decode cX7_sentAway 13 = .ok (.if_icmp .le 6, 3) := by decide +kernel
theorem dX7_sentAway_16 : decode cX7_sentAway 16 = .ok (.ldc 74, 2) := by decide +kernel
theorem dX7_sentAway_18 : decode cX7_sentAway 18 = .ok (.ireturn, 1) := by decide +kernel
theorem dX7_sentAway_19 : decode cX7_sentAway 19 = .ok (.aload_n 0, 1) := by decide +kernel
theorem dX7_sentAway_20 : decode cX7_sentAway 20 = .ok (.getfield 25, 3) := by decide +kernel
theorem dX7_sentAway_23 : decode cX7_sentAway 23 = .ok (.getfield 75, 3) := by decide +kernel
theorem dX7_sentAway_26 : decode cX7_sentAway 26 = .ok (.ifCond .ne 6, 3) := by decide +kernel
theorem dX7_sentAway_29 : decode cX7_sentAway 29 = .ok (.ldc 160, 2) := by decide +kernel
theorem dX7_sentAway_31 : decode cX7_sentAway 31 = .ok (.ireturn, 1) := by decide +kernel
theorem dX7_sentAway_32 : decode cX7_sentAway 32 = .ok (.iconst 0, 1) := by decide +kernel
theorem dX7_sentAway_33 : decode cX7_sentAway 33 = .ok (.istore_n 3, 1) := by decide +kernel
theorem dX7_sentAway_34 : decode cX7_sentAway 34 = .ok (.iconst 0, 1) := by decide +kernel
theorem dX7_sentAway_35 : decode cX7_sentAway 35 = .ok (.istore 4, 2) := by decide +kernel
theorem dX7_sentAway_37 : decode cX7_sentAway 37 = .ok (.iconst 0, 1) := by decide +kernel
theorem dX7_sentAway_38 : decode cX7_sentAway 38 = .ok (.istore 5, 2) := by decide +kernel
theorem dX7_sentAway_40 : decode cX7_sentAway 40 = .ok (.iload 5, 2) := by decide +kernel
theorem dX7_sentAway_42 : decode cX7_sentAway 42 = .ok (.aload_n 0, 1) := by decide +kernel
theorem dX7_sentAway_43 : decode cX7_sentAway 43 = .ok (.getfield 25, 3) := by decide +kernel
theorem dX7_sentAway_46 : decode cX7_sentAway 46 = .ok (.getfield 75, 3) := by decide +kernel
theorem dX7_sentAway_49 : decode cX7_sentAway 49 = .ok (.if_icmp .ge 66, 3) := by decide +kernel
theorem dX7_sentAway_52 : decode cX7_sentAway 52 = .ok (.aload_n 0, 1) := by decide +kernel
theorem dX7_sentAway_53 : decode cX7_sentAway 53 = .ok (.getfield 32, 3) := by decide +kernel
theorem dX7_sentAway_56 : decode cX7_sentAway 56 = .ok (.aload_n 0, 1) := by decide +kernel
theorem dX7_sentAway_57 : decode cX7_sentAway 57 = .ok (.getfield 25, 3) := by decide +kernel
theorem dX7_sentAway_60 : decode cX7_sentAway 60 = .ok (.invokevirtual 161, 3) := by decide +kernel
theorem dX7_sentAway_63 : decode cX7_sentAway 63 = .ok (.aload_n 0, 1) := by decide +kernel
theorem dX7_sentAway_64 : decode cX7_sentAway 64 = .ok (.getfield 32, 3) := by decide +kernel
theorem dX7_sentAway_67 : decode cX7_sentAway 67 = .ok (.iload 5, 2) := by decide +kernel
theorem dX7_sentAway_69 : decode cX7_sentAway 69 = .ok (.putfield 171, 3) := by decide +kernel
theorem dX7_sentAway_72 : decode cX7_sentAway 72 = .ok (.aload_n 0, 1) := by decide +kernel
theorem dX7_sentAway_73 : decode cX7_sentAway 73 = .ok (.getfield 32, 3) := by decide +kernel
theorem dX7_sentAway_76 : decode cX7_sentAway 76 = .ok (.iload_n 1, 1) := by decide +kernel
theorem dX7_sentAway_77 : decode cX7_sentAway 77 = .ok (.invokevirtual 138, 3) := by decide +kernel
theorem dX7_sentAway_80 : decode cX7_sentAway 80 = .ok (.pop, 1) := by decide +kernel
theorem dX7_sentAway_81 : decode cX7_sentAway 81 = .ok (.aload_n 0, 1) := by decide +kernel
theorem dX7_sentAway_82 : decode cX7_sentAway 82 = .ok (.getfield 32, 3) := by decide +kernel
theorem dX7_sentAway_85 : decode cX7_sentAway 85 = .ok (.invokevirtual 141, 3) := by decide +kernel
theorem dX7_sentAway_88 : decode cX7_sentAway 88 = .ok (.istore 6, 2) := by decide +kernel
theorem dX7_sentAway_90 : decode cX7_sentAway 90 = .ok (.iload 5, 2) := by decide +kernel
theorem dX7_sentAway_92 : decode cX7_sentAway 92 = .ok (.ifCond .eq 10, 3) := by decide +kernel
theorem dX7_sentAway_95 : decode cX7_sentAway 95 = .ok (.iload 6, 2) := by decide +kernel
theorem dX7_sentAway_97 : decode cX7_sentAway 97 = .ok (.iload 4, 2) := by decide +kernel
theorem dX7_sentAway_99 : decode cX7_sentAway 99 = .ok (.if_icmp .le 10, 3) := by decide +kernel
theorem dX7_sentAway_102 : decode cX7_sentAway 102 = .ok (.iload 5, 2) := by decide +kernel
theorem dX7_sentAway_104 : decode cX7_sentAway 104 = .ok (.istore_n 3, 1) := by decide +kernel
theorem dX7_sentAway_105 : decode cX7_sentAway 105 = .ok (.iload 6, 2) := by decide +kernel
theorem dX7_sentAway_107 : decode cX7_sentAway 107 = .ok (.istore 4, 2) := by decide +kernel
theorem dX7_sentAway_109 : decode cX7_sentAway 109 = .ok (.iinc 5 1, 3) := by decide +kernel
theorem dX7_sentAway_112 : decode cX7_sentAway 112 = .ok (.goto (-72), 3) := by decide +kernel
theorem dX7_sentAway_115 : decode cX7_sentAway 115 = .ok (.iload_n 2, 1) := by decide +kernel
theorem dX7_sentAway_116 : decode cX7_sentAway 116 = .ok (.ifCond .ne 7, 3) := by decide +kernel
theorem dX7_sentAway_119 : decode cX7_sentAway 119 = .ok (.iload_n 3, 1) := by decide +kernel
theorem dX7_sentAway_120 : decode cX7_sentAway 120 = .ok (.goto 5, 3) := by decide +kernel
theorem dX7_sentAway_123 : decode cX7_sentAway 123 = .ok (.iload 4, 2) := by decide +kernel
theorem dX7_sentAway_125 : decode cX7_sentAway 125 = .ok (.ireturn, 1) := by decide +kernel
theorem dX7_dry_0 : decode cX7_dry 0 = .ok (.iload_n 1, 1) := by decide +kernel
theorem dX7_dry_1 : decode cX7_dry 1 = .ok (.invokestatic 168, 3) := by decide +kernel
theorem dX7_dry_4 : decode cX7_dry 4 = .ok (.ifCond .ne 6, 3) := by decide +kernel
theorem dX7_dry_7 : decode cX7_dry 7 = .ok (.ldc 74, 2) := by decide +kernel
theorem dX7_dry_9 : decode cX7_dry 9 = .ok (.ireturn, 1) := by decide +kernel
theorem dX7_dry_10 : decode cX7_dry 10 = .ok (.aload_n 0, 1) := by decide +kernel
theorem dX7_dry_11 : decode cX7_dry 11 = .ok (.getfield 32, 3) := by decide +kernel
theorem dX7_dry_14 : decode cX7_dry 14 = .ok (.aload_n 0, 1) := by decide +kernel
theorem dX7_dry_15 : decode cX7_dry 15 = .ok (.getfield 25, 3) := by decide +kernel
theorem dX7_dry_18 : decode cX7_dry 18 = .ok (.invokevirtual 161, 3) := by decide +kernel
theorem dX7_dry_21 : decode cX7_dry 21 = .ok (.aload_n 0, 1) := by decide +kernel
theorem dX7_dry_22 : decode cX7_dry 22 = .ok (.getfield 32, 3) := by decide +kernel
theorem dX7_dry_25 : decode cX7_dry 25 = .ok (.iload_n 1, 1) := by decide +kernel
theorem dX7_dry_26 : decode cX7_dry 26 = .ok (.invokevirtual 138, 3) := by decide +kernel
theorem dX7_dry_29 : decode cX7_dry 29 = .ok (.pop, 1) := by decide +kernel
theorem dX7_dry_30 : decode cX7_dry 30 = .ok (.aload_n 0, 1) := by decide +kernel
theorem dX7_dry_31 : decode cX7_dry 31 = .ok (.getfield 32, 3) := by decide +kernel
theorem dX7_dry_34 : decode cX7_dry 34 = .ok (.invokevirtual 141, 3) := by decide +kernel
theorem dX7_dry_37 : decode cX7_dry 37 = .ok (.istore_n 2, 1) := by decide +kernel
theorem dX7_dry_38 : decode cX7_dry 38 = .ok (.aload_n 0, 1) := by decide +kernel
theorem dX7_dry_39 : decode cX7_dry 39 = .ok (.getfield 32, 3) := by decide +kernel
theorem dX7_dry_42 : decode cX7_dry 42 = .ok (.aload_n 0, 1) := by decide +kernel
theorem dX7_dry_43 : decode cX7_dry 43 = .ok (.getfield 25, 3) := by decide +kernel
theorem dX7_dry_46 : decode cX7_dry 46 = .ok (.invokevirtual 161, 3) := by decide +kernel
theorem dX7_dry_49 : decode cX7_dry 49 = .ok (.aload_n 0, 1) := by decide +kernel
theorem dX7_dry_50 : decode cX7_dry 50 = .ok (.getfield 32, 3) := by decide +kernel
theorem dX7_dry_53 : decode cX7_dry 53 = .ok (.iconst 0, 1) := by decide +kernel
theorem dX7_dry_54 : decode cX7_dry 54 = .ok (.putfield 132, 3) := by decide +kernel
theorem dX7_dry_57 : decode cX7_dry 57 = .ok (.aload_n 0, 1) := by decide +kernel
theorem dX7_dry_58 : decode cX7_dry 58 = .ok (.getfield 32, 3) := by decide +kernel
theorem dX7_dry_61 : decode cX7_dry 61 = .ok (.iconst 0, 1) := by decide +kernel
theorem dX7_dry_62 : decode cX7_dry 62 = .ok (.putfield 129, 3) := by decide +kernel
theorem dX7_dry_65 : decode cX7_dry 65 = .ok (.aload_n 0, 1) := by decide +kernel
theorem dX7_dry_66 : decode cX7_dry 66 = .ok (.getfield 32, 3) := by decide +kernel
theorem dX7_dry_69 : decode cX7_dry 69 = .ok (.iload_n 1, 1) := by decide +kernel
theorem dX7_dry_70 : decode cX7_dry 70 = .ok (.invokevirtual 138, 3) := by decide +kernel
theorem dX7_dry_73 : decode cX7_dry 73 = .ok (.pop, 1) := by decide +kernel
theorem dX7_dry_74 : decode cX7_dry 74 = .ok (.aload_n 0, 1) := by decide +kernel
theorem dX7_dry_75 : decode cX7_dry 75 = .ok (.getfield 32, 3) := by decide +kernel
theorem dX7_dry_78 : decode cX7_dry 78 = .ok (.invokevirtual 141, 3) := by decide +kernel
theorem dX7_dry_81 : decode cX7_dry 81 = .ok (.iload_n 2, 1) := by decide +kernel
theorem dX7_dry_82 : decode cX7_dry 82 = .ok (.isub, 1) := by decide +kernel
theorem dX7_dry_83 : decode cX7_dry 83 = .ok (.ireturn, 1) := by decide +kernel
theorem dX7_shone_0 : decode cX7_shone 0 = .ok (.iload_n 1, 1) := by decide +kernel
theorem dX7_shone_1 : decode cX7_shone 1 = .ok (.invokestatic 174, 3) := by decide +kernel
theorem dX7_shone_4 : decode cX7_shone 4 = .ok (.ifCond .eq 12, 3) := by decide +kernel
theorem dX7_shone_7 : decode cX7_shone 7 = .ok (.iload_n 2, 1) := by decide +kernel
theorem dX7_shone_8 : decode cX7_shone 8 = .ok (.ifCond .lt 8, 3) := by decide +kernel
theorem dX7_shone_11 : decode cX7_shone 11 = .ok (.iload_n 2, 1) := by decide +kernel
theorem dX7_shone_12 : decode cX7_shone 12 = .ok (.iconst 1, 1) := by decide +kernel
theorem dX7_shone_13 : decode cX7_shone 13 = .ok (.if_icmp .le 6, 3) := by decide +kernel
theorem dX7_shone_16 : decode cX7_shone 16 = .ok (.ldc 74, 2) := by decide +kernel
theorem dX7_shone_18 : decode cX7_shone 18 = .ok (.ireturn, 1) := by decide +kernel
theorem dX7_shone_19 : decode cX7_shone 19 = .ok (.aload_n 0, 1) := by decide +kernel
theorem dX7_shone_20 : decode cX7_shone 20 = .ok (.getfield 37, 3) := by decide +kernel
theorem dX7_shone_23 : decode cX7_shone 23 = .ok (.iload_n 1, 1) := by decide +kernel
theorem dX7_shone_24 : decode cX7_shone 24 = .ok (.aaload, 1) := by decide +kernel
theorem dX7_shone_25 : decode cX7_shone 25 = .ok (.invokevirtual 177, 3) := by decide +kernel
theorem dX7_shone_28 : decode cX7_shone 28 = .ok (.ifCond .eq 6, 3) := by decide +kernel
theorem dX7_shone_31 : decode cX7_shone 31 = .ok (.ldc 181, 2) := by decide +kernel
theorem dX7_shone_33 : decode cX7_shone 33 = .ok (.ireturn, 1) := by decide +kernel
theorem dX7_shone_34 : decode cX7_shone 34 = .ok (.aload_n 0, 1) := by decide +kernel
theorem dX7_shone_35 : decode cX7_shone 35 = .ok (.getfield 25, 3) := by decide +kernel
theorem dX7_shone_38 : decode cX7_shone 38 = .ok (.getfield 75, 3) := by decide +kernel
theorem dX7_shone_41 : decode cX7_shone 41 = .ok (.ifCond .ne 6, 3) := by decide +kernel
theorem dX7_shone_44 : decode cX7_shone 44 = .ok (.ldc 160, 2) := by decide +kernel
theorem dX7_shone_46 : decode cX7_shone 46 = .ok (.ireturn, 1) := by decide +kernel
theorem dX7_shone_47 : decode cX7_shone 47 = .ok (.iconst 0, 1) := by decide +kernel
theorem dX7_shone_48 : decode cX7_shone 48 = .ok (.istore_n 3, 1) := by decide +kernel
theorem dX7_shone_49 : decode cX7_shone 49 = .ok (.iconst 0, 1) := by decide +kernel
theorem dX7_shone_50 : decode cX7_shone 50 = .ok (.istore 4, 2) := by decide +kernel
theorem dX7_shone_52 : decode cX7_shone 52 = .ok (.iconst 0, 1) := by decide +kernel
theorem dX7_shone_53 : decode cX7_shone 53 = .ok (.istore 5, 2) := by decide +kernel
theorem dX7_shone_55 : decode cX7_shone 55 = .ok (.iload 5, 2) := by decide +kernel
theorem dX7_shone_57 : decode cX7_shone 57 = .ok (.aload_n 0, 1) := by decide +kernel
theorem dX7_shone_58 : decode cX7_shone 58 = .ok (.getfield 25, 3) := by decide +kernel
theorem dX7_shone_61 : decode cX7_shone 61 = .ok (.getfield 75, 3) := by decide +kernel
theorem dX7_shone_64 : decode cX7_shone 64 = .ok (.if_icmp .ge 50, 3) := by decide +kernel
theorem dX7_shone_67 : decode cX7_shone 67 = .ok (.aload_n 0, 1) := by decide +kernel
theorem dX7_shone_68 : decode cX7_shone 68 = .ok (.aload_n 0, 1) := by decide +kernel
theorem dX7_shone_69 : decode cX7_shone 69 = .ok (.getfield 25, 3) := by decide +kernel
theorem dX7_shone_72 : decode cX7_shone 72 = .ok (.getfield 86, 3) := by decide +kernel
theorem dX7_shone_75 : decode cX7_shone 75 = .ok (.iload 5, 2) := by decide +kernel
theorem dX7_shone_77 : decode cX7_shone 77 = .ok (.aaload, 1) := by decide +kernel
theorem dX7_shone_78 : decode cX7_shone 78 = .ok (.aload_n 0, 1) := by decide +kernel
theorem dX7_shone_79 : decode cX7_shone 79 = .ok (.getfield 37, 3) := by decide +kernel
theorem dX7_shone_82 : decode cX7_shone 82 = .ok (.iload_n 1, 1) := by decide +kernel
theorem dX7_shone_83 : decode cX7_shone 83 = .ok (.aaload, 1) := by decide +kernel
theorem dX7_shone_84 : decode cX7_shone 84 = .ok (.invokevirtual 182, 3) := by decide +kernel
theorem dX7_shone_87 : decode cX7_shone 87 = .ok (.istore 6, 2) := by decide +kernel
theorem dX7_shone_89 : decode cX7_shone 89 = .ok (.iload 5, 2) := by decide +kernel
theorem dX7_shone_91 : decode cX7_shone 91 = .ok (.ifCond .eq 10, 3) := by decide +kernel
theorem dX7_shone_94 : decode cX7_shone 94 = .ok (.iload 6, 2) := by decide +kernel
theorem dX7_shone_96 : decode cX7_shone 96 = .ok (.iload 4, 2) := by decide +kernel
theorem dX7_shone_98 : decode cX7_shone 98 = .ok (.if_icmp .ge 10, 3) := by decide +kernel
theorem dX7_shone_101 : decode cX7_shone 101 = .ok (.iload 5, 2) := by decide +kernel
theorem dX7_shone_103 : decode cX7_shone 103 = .ok (.istore_n 3, 1) := by decide +kernel
theorem dX7_shone_104 : decode cX7_shone 104 = .ok (.iload 6, 2) := by decide +kernel
theorem dX7_shone_106 : decode cX7_shone 106 = .ok (.istore 4, 2) := by decide +kernel
theorem dX7_shone_108 : decode cX7_shone 108 = .ok (.iinc 5 1, 3) := by decide +kernel
theorem dX7_shone_111 : decode cX7_shone 111 = .ok (.goto (-56), 3) := by decide +kernel
theorem dX7_shone_114 : decode cX7_shone 114 = .ok (.iload_n 2, 1) := by decide +kernel
theorem dX7_shone_115 : decode cX7_shone 115 = .ok (.ifCond .ne 7, 3) := by decide +kernel
theorem dX7_shone_118 : decode cX7_shone 118 = .ok (.iload_n 3, 1) := by decide +kernel
theorem dX7_shone_119 : decode cX7_shone 119 = .ok (.goto 5, 3) := by decide +kernel
theorem dX7_shone_122 : decode cX7_shone 122 = .ok (.iload 4, 2) := by decide +kernel
theorem dX7_shone_124 : decode cX7_shone 124 = .ok (.ireturn, 1) := by decide +kernel
theorem dX7_fee_0 : decode cX7_fee 0 = .ok (.aload_n 0, 1) := by decide +kernel
theorem dX7_fee_1 : decode cX7_fee 1 = .ok (.getfield 25, 3) := by decide +kernel
theorem dX7_fee_4 : decode cX7_fee 4 = .ok (.iconst 1, 1) := by decide +kernel
theorem dX7_fee_5 : decode cX7_fee 5 = .ok (.invokevirtual 186, 3) := by decide +kernel
theorem dX7_fee_8 : decode cX7_fee 8 = .ok (.astore_n 1, 1) := by decide +kernel
theorem dX7_fee_9 : decode cX7_fee 9 = .ok (.aload_n 1, 1) := by decide +kernel
theorem dX7_fee_10 : decode cX7_fee 10 = .ok (.ifnonnull 13, 3) := by decide +kernel
theorem dX7_fee_13 : decode cX7_fee 13 = .ok (.aload_n 0, 1) := by decide +kernel
theorem dX7_fee_14 : decode cX7_fee 14 = .ok (.getfield 25, 3) := by decide +kernel
theorem dX7_fee_17 : decode cX7_fee 17 = .ok (.getfield 148, 3) := by decide +kernel
theorem dX7_fee_20 : decode cX7_fee 20 = .ok (.goto 22, 3) := by decide +kernel
theorem dX7_fee_23 : decode cX7_fee 23 = .ok (.aload_n 1, 1) := by decide +kernel
theorem dX7_fee_24 : decode cX7_fee 24 = .ok (.aload_n 0, 1) := by decide +kernel
theorem dX7_fee_25 : decode cX7_fee 25 = .ok (.getfield 25, 3) := by decide +kernel
theorem dX7_fee_28 : decode cX7_fee 28 = .ok (.getfield 148, 3) := by decide +kernel
theorem dX7_fee_31 : decode cX7_fee 31 = .ok (.aload_n 0, 1) := by decide +kernel
theorem dX7_fee_32 : decode cX7_fee 32 = .ok (.getfield 25, 3) := by decide +kernel
theorem dX7_fee_35 : decode cX7_fee 35 = .ok (.getfield 145, 3) := by decide +kernel
theorem dX7_fee_38 : decode cX7_fee 38 = .ok (.iconst 0, 1) := by decide +kernel
theorem dX7_fee_39 : decode cX7_fee 39 = .ok (.invokevirtual 190, 3) := by decide +kernel
theorem dX7_fee_42 : decode cX7_fee 42 = .ok (.ireturn, 1) := by decide +kernel
theorem dX7_fine_0 : decode cX7_fine 0 = .ok (.aload_n 0, 1) := by decide +kernel
theorem dX7_fine_1 : decode cX7_fine 1 = .ok (.iload_n 1, 1) := by decide +kernel
theorem dX7_fine_2 : decode cX7_fine 2 = .ok (.invokevirtual 83, 3) := by decide +kernel
theorem dX7_fine_5 : decode cX7_fine 5 = .ok (.ifCond .ne 6, 3) := by decide +kernel
theorem dX7_fine_8 : decode cX7_fine 8 = .ok (.ldc 74, 2) := by decide +kernel
theorem dX7_fine_10 : decode cX7_fine 10 = .ok (.ireturn, 1) := by decide +kernel
theorem dX7_fine_11 : decode cX7_fine 11 = .ok (.aload_n 0, 1) := by decide +kernel
theorem dX7_fine_12 : decode cX7_fine 12 = .ok (.getfield 25, 3) := by decide +kernel
theorem dX7_fine_15 : decode cX7_fine 15 = .ok (.getfield 86, 3) := by decide +kernel
theorem dX7_fine_18 : decode cX7_fine 18 = .ok (.iload_n 1, 1) := by decide +kernel
theorem dX7_fine_19 : decode cX7_fine 19 = .ok (.aaload, 1) := by decide +kernel
theorem dX7_fine_20 : decode cX7_fine 20 = .ok (.astore_n 2, 1) := by decide +kernel
theorem dX7_fine_21 : decode cX7_fine 21 = .ok (.aload_n 0, 1) := by decide +kernel
theorem dX7_fine_22 : decode cX7_fine 22 = .ok (.getfield 25, 3) := by decide +kernel
theorem dX7_fine_25 : decode cX7_fine 25 = .ok (.iconst 2, 1) := by decide +kernel
theorem dX7_fine_26 : decode cX7_fine 26 = .ok (.invokevirtual 186, 3) := by decide +kernel
theorem dX7_fine_29 : decode cX7_fine 29 = .ok (.astore_n 3, 1) := by decide +kernel
theorem dX7_fine_30 : decode cX7_fine 30 = .ok (.aload_n 3, 1) := by decide +kernel
theorem dX7_fine_31 : decode cX7_fine 31 = .ok (.ifnonnull 10, 3) := by decide +kernel
theorem dX7_fine_34 : decode cX7_fine 34 = .ok (.aload_n 2, 1) := by decide +kernel
theorem dX7_fine_35 : decode cX7_fine 35 = .ok (.getfield 165, 3) := by decide +kernel
theorem dX7_fine_38 : decode cX7_fine 38 = .ok (.goto 16, 3) := by decide +kernel
theorem dX7_fine_41 : decode cX7_fine 41 = .ok (.aload_n 3, 1) := by decide +kernel
theorem dX7_fine_42 : decode cX7_fine 42 = .ok (.aload_n 2, 1) := by decide +kernel
theorem dX7_fine_43 : decode cX7_fine 43 = .ok (.getfield 165, 3) := by decide +kernel
theorem dX7_fine_46 : decode cX7_fine 46 = .ok (.aload_n 2, 1) := by decide +kernel
theorem dX7_fine_47 : decode cX7_fine 47 = .ok (.getfield 194, 3) := by decide +kernel
theorem dX7_fine_50 : decode cX7_fine 50 = .ok (.iconst 0, 1) := by decide +kernel
theorem dX7_fine_51 : decode cX7_fine 51 = .ok (.invokevirtual 190, 3) := by decide +kernel
theorem dX7_fine_54 : decode cX7_fine 54 = .ok (.ireturn, 1) := by decide +kernel
theorem dX7_feed_0 : decode cX7_feed 0 = .ok (.aload_n 0, 1) := by decide +kernel
theorem dX7_feed_1 : decode cX7_feed 1 = .ok (.getfield 18, 3) := by decide +kernel
theorem dX7_feed_4 : decode cX7_feed 4 = .ok (.getfield 197, 3) := by decide +kernel
theorem dX7_feed_7 : decode cX7_feed 7 = .ok (.bipush 12, 2) := by decide +kernel
theorem dX7_feed_9 : decode cX7_feed 9 = .ok (.iadd, 1) := by decide +kernel
theorem dX7_feed_10 : decode cX7_feed 10 = .ok (.bipush 96, 2) := by decide +kernel
theorem dX7_feed_12 : decode cX7_feed 12 = .ok (.if_icmp .le 6, 3) := by decide +kernel
theorem dX7_feed_15 : decode cX7_feed 15 = .ok (.ldc 78, 2) := by decide +kernel
theorem dX7_feed_17 : decode cX7_feed 17 = .ok (.ireturn, 1) := by decide +kernel
theorem dX7_feed_18 : decode cX7_feed 18 = .ok (.aload_n 0, 1) := by decide +kernel
theorem dX7_feed_19 : decode cX7_feed 19 = .ok (.getfield 18, 3) := by decide +kernel
theorem dX7_feed_22 : decode cX7_feed 22 = .ok (.iload_n 1, 1) := by decide +kernel
theorem dX7_feed_23 : decode cX7_feed 23 = .ok (.invokevirtual 200, 3) := by decide +kernel
theorem dX7_feed_26 : decode cX7_feed 26 = .ok (.aload_n 0, 1) := by decide +kernel
theorem dX7_feed_27 : decode cX7_feed 27 = .ok (.getfield 18, 3) := by decide +kernel
theorem dX7_feed_30 : decode cX7_feed 30 = .ok (.iload_n 2, 1) := by decide +kernel
theorem dX7_feed_31 : decode cX7_feed 31 = .ok (.invokevirtual 200, 3) := by decide +kernel
theorem dX7_feed_34 : decode cX7_feed 34 = .ok (.aload_n 0, 1) := by decide +kernel
theorem dX7_feed_35 : decode cX7_feed 35 = .ok (.getfield 18, 3) := by decide +kernel
theorem dX7_feed_38 : decode cX7_feed 38 = .ok (.iload_n 3, 1) := by decide +kernel
theorem dX7_feed_39 : decode cX7_feed 39 = .ok (.invokevirtual 200, 3) := by decide +kernel
theorem dX7_feed_42 : decode cX7_feed 42 = .ok (.aload_n 0, 1) := by decide +kernel
theorem dX7_feed_43 : decode cX7_feed 43 = .ok (.getfield 18, 3) := by decide +kernel
theorem dX7_feed_46 : decode cX7_feed 46 = .ok (.getfield 197, 3) := by decide +kernel
theorem dX7_feed_49 : decode cX7_feed 49 = .ok (.ireturn, 1) := by decide +kernel
theorem dX7_trim_0 : decode cX7_trim 0 = .ok (.iload_n 1, 1) := by decide +kernel
theorem dX7_trim_1 : decode cX7_trim 1 = .ok (.ifCond .lt 14, 3) := by decide +kernel
theorem dX7_trim_4 : decode cX7_trim 4 = .ok (.iload_n 1, 1) := by decide +kernel
theorem dX7_trim_5 : decode cX7_trim 5 = .ok (.aload_n 0, 1) := by decide +kernel
theorem dX7_trim_6 : decode cX7_trim 6 = .ok (.getfield 18, 3) := by decide +kernel
theorem dX7_trim_9 : decode cX7_trim 9 = .ok (.getfield 197, 3) := by decide +kernel
theorem dX7_trim_12 : decode cX7_trim 12 = .ok (.if_icmp .le 6, 3) := by decide +kernel
theorem dX7_trim_15 : decode cX7_trim 15 = .ok (.ldc 74, 2) := by decide +kernel
theorem dX7_trim_17 : decode cX7_trim 17 = .ok (.ireturn, 1) := by decide +kernel
theorem dX7_trim_18 : decode cX7_trim 18 = .ok (.aload_n 0, 1) := by decide +kernel
theorem dX7_trim_19 : decode cX7_trim 19 = .ok (.getfield 18, 3) := by decide +kernel
theorem dX7_trim_22 : decode cX7_trim 22 = .ok (.iload_n 1, 1) := by decide +kernel
theorem dX7_trim_23 : decode cX7_trim 23 = .ok (.putfield 197, 3) := by decide +kernel
theorem dX7_trim_26 : decode cX7_trim 26 = .ok (.iload_n 1, 1) := by decide +kernel
theorem dX7_trim_27 : decode cX7_trim 27 = .ok (.ireturn, 1) := by decide +kernel
theorem dX7_text_0 : decode cX7_text 0 = .ok (.aload_n 0, 1) := by decide +kernel
theorem dX7_text_1 : decode cX7_text 1 = .ok (.getfield 11, 3) := by decide +kernel
theorem dX7_text_4 : decode cX7_text 4 = .ok (.aload_n 0, 1) := by decide +kernel
theorem dX7_text_5 : decode cX7_text 5 = .ok (.getfield 25, 3) := by decide +kernel
theorem dX7_text_8 : decode cX7_text 8 = .ok (.getfield 204, 3) := by decide +kernel
theorem dX7_text_11 : decode cX7_text 11 = .ok (.bipush 14, 2) := by decide +kernel
theorem dX7_text_13 : decode cX7_text 13 = .ok (.invokestatic 114, 3) := by decide +kernel
theorem dX7_text_16 : decode cX7_text 16 = .ok (.aaload, 1) := by decide +kernel
theorem dX7_text_17 : decode cX7_text 17 = .ok (.astore_n 1, 1) := by decide +kernel
theorem dX7_text_18 : decode cX7_text 18 = .ok (.aload_n 0, 1) := by decide +kernel
theorem dX7_text_19 : decode cX7_text 19 = .ok (.getfield 18, 3) := by decide +kernel
theorem dX7_text_22 : decode cX7_text 22 = .ok (.aload_n 1, 1) := by decide +kernel
theorem dX7_text_23 : decode cX7_text 23 = .ok (.invokevirtual 207, 3) := by decide +kernel
theorem dX7_text_26 : decode cX7_text 26 = .ok (.istore_n 2, 1) := by decide +kernel
theorem dX7_text_27 : decode cX7_text 27 = .ok (.iload_n 2, 1) := by decide +kernel
theorem dX7_text_28 : decode cX7_text 28 = .ok (.ifCond .lt 8, 3) := by decide +kernel
theorem dX7_text_31 : decode cX7_text 31 = .ok (.bipush (-100), 2) := by decide +kernel
theorem dX7_text_33 : decode cX7_text 33 = .ok (.iload_n 2, 1) := by decide +kernel
theorem dX7_text_34 : decode cX7_text 34 = .ok (.isub, 1) := by decide +kernel
theorem dX7_text_35 : decode cX7_text 35 = .ok (.ireturn, 1) := by decide +kernel
theorem dX7_text_36 : decode cX7_text 36 = .ok (.aload_n 0, 1) := by decide +kernel
theorem dX7_text_37 : decode cX7_text 37 = .ok (.getfield 25, 3) := by decide +kernel
theorem dX7_text_40 : decode cX7_text 40 = .ok (.getfield 204, 3) := by decide +kernel
theorem dX7_text_43 : decode cX7_text 43 = .ok (.bipush 14, 2) := by decide +kernel
theorem dX7_text_45 : decode cX7_text 45 = .ok (.if_icmp .lt 6, 3) := by decide +kernel
theorem dX7_text_48 : decode cX7_text 48 = .ok (.ldc 78, 2) := by decide +kernel
theorem dX7_text_50 : decode cX7_text 50 = .ok (.ireturn, 1) := by decide +kernel
theorem dX7_text_51 : decode cX7_text 51 = .ok (.aload_n 0, 1) := by decide +kernel
theorem dX7_text_52 : decode cX7_text 52 = .ok (.getfield 25, 3) := by decide +kernel
theorem dX7_text_55 : decode cX7_text 55 = .ok (.aload_n 1, 1) := by decide +kernel
theorem dX7_text_56 : decode cX7_text 56 = .ok (.invokevirtual 211, 3) := by decide +kernel
theorem dX7_text_59 : decode cX7_text 59 = .ok (.aload_n 1, 1) := by decide +kernel
theorem dX7_text_60 : decode cX7_text 60 = .ok (.getfield 215, 3) := by decide +kernel
theorem dX7_text_63 : decode cX7_text 63 = .ok (.ireturn, 1) := by decide +kernel
theorem dX7_textTold_0 : decode cX7_textTold 0 = .ok (.iload_n 1, 1) := by decide +kernel
theorem dX7_textTold_1 : decode cX7_textTold 1 = .ok (.ifCond .lt 23, 3) := by decide +kernel
theorem dX7_textTold_4 : decode cX7_textTold 4 = .ok (.iload_n 1, 1) := by decide +kernel
theorem dX7_textTold_5 : decode cX7_textTold 5 = .ok (.aload_n 0, 1) := by decide +kernel
theorem dX7_textTold_6 : decode cX7_textTold 6 = .ok (.getfield 25, 3) := by decide +kernel
theorem dX7_textTold_9 : decode cX7_textTold 9 = .ok (.getfield 204, 3) := by decide +kernel
theorem dX7_textTold_12 : decode cX7_textTold 12 = .ok (.if_icmp .ge 12, 3) := by decide +kernel
theorem dX7_textTold_15 : decode cX7_textTold 15 = .ok (.iload_n 2, 1) := by decide +kernel
theorem dX7_textTold_16 : decode cX7_textTold 16 = .ok (.ifCond .lt 8, 3) := by decide +kernel
theorem dX7_textTold_19 : decode cX7_textTold 19 = .ok (.iload_n 2, 1) := by decide +kernel
theorem dX7_textTold_20 : decode cX7_textTold 20 = .ok (.iconst 1, 1) := by decide +kernel
theorem dX7_textTold_21 : decode cX7_textTold 21 = .ok (.if_icmp .le 6, 3) := by decide +kernel
theorem dX7_textTold_24 : decode cX7_textTold 24 = .ok (.ldc 74, 2) := by decide +kernel
theorem dX7_textTold_26 : decode cX7_textTold 26 = .ok (.ireturn, 1) := by decide +kernel
theorem dX7_textTold_27 : decode cX7_textTold 27 = .ok (.iload_n 2, 1) := by decide +kernel
theorem dX7_textTold_28 : decode cX7_textTold 28 = .ok (.ifCond .ne 15, 3) := by decide +kernel
theorem dX7_textTold_31 : decode cX7_textTold 31 = .ok (.aload_n 0, 1) := by decide +kernel
theorem dX7_textTold_32 : decode cX7_textTold 32 = .ok (.getfield 11, 3) := by decide +kernel
theorem dX7_textTold_35 : decode cX7_textTold 35 = .ok (.iload_n 1, 1) := by decide +kernel
theorem dX7_textTold_36 : decode cX7_textTold 36 = .ok (.aaload, 1) := by decide +kernel
theorem dX7_textTold_37 : decode cX7_textTold 37 = .ok (.getfield 218, 3) := by decide +kernel
theorem dX7_textTold_40 : decode cX7_textTold 40 = .ok (.goto 12, 3) := by decide +kernel
theorem dX7_textTold_43 : decode cX7_textTold 43 = .ok (.aload_n 0, 1) := by decide +kernel
theorem dX7_textTold_44 : decode cX7_textTold 44 = .ok (.getfield 11, 3) := by decide +kernel
theorem dX7_textTold_47 : decode cX7_textTold 47 = .ok (.iload_n 1, 1) := by decide +kernel
theorem dX7_textTold_48 : decode cX7_textTold 48 = .ok (.aaload, 1) := by decide +kernel
theorem dX7_textTold_49 : decode cX7_textTold 49 = .ok (.getfield 221, 3) := by decide +kernel
theorem dX7_textTold_52 : decode cX7_textTold 52 = .ok (.ireturn, 1) := by decide +kernel
theorem dX7_why_0 : decode cX7_why 0 = .ok (.iload_n 1, 1) := by decide +kernel
theorem dX7_why_1 : decode cX7_why 1 = .ok (.ifCond .lt 8, 3) := by decide +kernel
theorem dX7_why_4 : decode cX7_why 4 = .ok (.iload_n 1, 1) := by decide +kernel
theorem dX7_why_5 : decode cX7_why 5 = .ok (.iconst 3, 1) := by decide +kernel
theorem dX7_why_6 : decode cX7_why 6 = .ok (.if_icmp .lt 6, 3) := by decide +kernel
theorem dX7_why_9 : decode cX7_why 9 = .ok (.ldc 74, 2) := by decide +kernel
theorem dX7_why_11 : decode cX7_why 11 = .ok (.ireturn, 1) := by decide +kernel
theorem dX7_why_12 : decode cX7_why 12 = .ok (.aload_n 0, 1) := by decide +kernel
theorem dX7_why_13 : decode cX7_why 13 = .ok (.getfield 25, 3) := by decide +kernel
theorem dX7_why_16 : decode cX7_why 16 = .ok (.iload_n 1, 1) := by decide +kernel
theorem dX7_why_17 : decode cX7_why 17 = .ok (.invokevirtual 186, 3) := by decide +kernel
theorem dX7_why_20 : decode cX7_why 20 = .ok (.astore_n 2, 1) := by decide +kernel
theorem dX7_why_21 : decode cX7_why 21 = .ok (.aload_n 2, 1) := by decide +kernel
theorem dX7_why_22 : decode cX7_why 22 = .ok (.ifnonnull 8, 3) := by decide +kernel
theorem dX7_why_25 : decode cX7_why 25 = .ok (.ldc 160, 2) := by decide +kernel
theorem dX7_why_27 : decode cX7_why 27 = .ok (.goto 7, 3) := by decide +kernel
theorem dX7_why_30 : decode cX7_why 30 = .ok (.aload_n 2, 1) := by decide +kernel
theorem dX7_why_31 : decode cX7_why 31 = .ok (.getfield 215, 3) := by decide +kernel
theorem dX7_why_34 : decode cX7_why 34 = .ok (.ireturn, 1) := by decide +kernel
theorem dX7_sheet_0 : decode cX7_sheet 0 = .ok (.iload_n 1, 1) := by decide +kernel
theorem dX7_sheet_1 : decode cX7_sheet 1 = .ok (.invokestatic 174, 3) := by decide +kernel
theorem dX7_sheet_4 : decode cX7_sheet 4 = .ok (.ifCond .eq 13, 3) := by decide +kernel
theorem dX7_sheet_7 : decode cX7_sheet 7 = .ok (.iload_n 2, 1) := by decide +kernel
theorem dX7_sheet_8 : decode cX7_sheet 8 = .ok (.iconst (-1), 1) := by decide +kernel
theorem dX7_sheet_9 : decode cX7_sheet 9 = .ok (.if_icmp .lt 8, 3) := by decide +kernel
theorem dX7_sheet_12 : decode cX7_sheet 12 = .ok (.iload_n 2, 1) := by decide +kernel
theorem dX7_sheet_13 : decode cX7_sheet 13 = .ok (.iconst 1, 1) := by decide +kernel
theorem dX7_sheet_14 : decode cX7_sheet 14 = .ok (.if_icmp .le 6, 3) := by decide +kernel
theorem dX7_sheet_17 : decode cX7_sheet 17 = .ok (.ldc 74, 2) := by decide +kernel
theorem dX7_sheet_19 : decode cX7_sheet 19 = .ok (.ireturn, 1) := by decide +kernel
theorem dX7_sheet_20 : decode cX7_sheet 20 = .ok (.iload_n 2, 1) := by decide +kernel
theorem dX7_sheet_21 : decode cX7_sheet 21 = .ok (.iconst (-1), 1) := by decide +kernel
theorem dX7_sheet_22 : decode cX7_sheet 22 = .ok (.if_icmp .ne 16, 3) := by decide +kernel
theorem dX7_sheet_25 : decode cX7_sheet 25 = .ok (.aload_n 0, 1) := by decide +kernel
theorem dX7_sheet_26 : decode cX7_sheet 26 = .ok (.getfield 37, 3) := by decide +kernel
theorem dX7_sheet_29 : decode cX7_sheet 29 = .ok (.iload_n 1, 1) := by decide +kernel
theorem dX7_sheet_30 : decode cX7_sheet 30 = .ok (.aaload, 1) := by decide +kernel
theorem dX7_sheet_31 : decode cX7_sheet 31 = .ok (.iconst (-1), 1) := by decide +kernel
theorem dX7_sheet_32 : decode cX7_sheet 32 = .ok (.iconst 0, 1) := by decide +kernel
