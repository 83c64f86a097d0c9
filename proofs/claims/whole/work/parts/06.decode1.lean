theorem dX0_init_0 : decode cX0_init 0 = .ok (.aload_n 0, 1) := by decide +kernel
theorem dX0_init_1 : decode cX0_init 1 = .ok (.invokespecial 3, 3) := by decide +kernel
theorem dX0_init_4 : decode cX0_init 4 = .ok (.aload_n 0, 1) := by decide +kernel
theorem dX0_init_5 : decode cX0_init 5 = .ok (.bipush 30, 2) := by decide +kernel
theorem dX0_init_7 : decode cX0_init 7 = .ok (.newarray .int, 2) := by decide +kernel
theorem dX0_init_9 : decode cX0_init 9 = .ok (.putfield 9, 3) := by decide +kernel
theorem dX0_init_12 : decode cX0_init 12 = .ok (.aload_n 0, 1) := by decide +kernel
theorem dX0_init_13 : decode cX0_init 13 = .ok (.bipush 30, 2) := by decide +kernel
theorem dX0_init_15 : decode cX0_init 15 = .ok (.newarray .int, 2) := by decide +kernel
theorem dX0_init_17 : decode cX0_init 17 = .ok (.putfield 15, 3) := by decide +kernel
theorem dX0_init_20 : decode cX0_init 20 = .ok (.aload_n 0, 1) := by decide +kernel
theorem dX0_init_21 : decode cX0_init 21 = .ok (.bipush 30, 2) := by decide +kernel
theorem dX0_init_23 : decode cX0_init 23 = .ok (.newarray .int, 2) := by decide +kernel
theorem dX0_init_25 : decode cX0_init 25 = .ok (.putfield 18, 3) := by decide +kernel
theorem dX0_init_28 : decode cX0_init 28 = .ok (.aload_n 0, 1) := by decide +kernel
theorem dX0_init_29 : decode cX0_init 29 = .ok (.iconst 0, 1) := by decide +kernel
theorem dX0_init_30 : decode cX0_init 30 = .ok (.putfield 21, 3) := by decide +kernel
theorem dX0_init_33 : decode cX0_init 33 = .ok (.return_, 1) := by decide +kernel
theorem dX0_clear_0 : decode cX0_clear 0 = .ok (.aload_n 0, 1) := by decide +kernel
theorem dX0_clear_1 : decode cX0_clear 1 = .ok (.iconst 0, 1) := by decide +kernel
theorem dX0_clear_2 : decode cX0_clear 2 = .ok (.putfield 21, 3) := by decide +kernel
theorem dX0_clear_5 : decode cX0_clear 5 = .ok (.return_, 1) := by decide +kernel
theorem dX0_copyFrom_0 : decode cX0_copyFrom 0 = .ok (.aload_n 1, 1) := by decide +kernel
theorem dX0_copyFrom_1 : decode cX0_copyFrom 1 = .ok (.getfield 9, 3) := by decide +kernel
theorem dX0_copyFrom_4 : decode cX0_copyFrom 4 = .ok (.iconst 0, 1) := by decide +kernel
theorem dX0_copyFrom_5 : decode cX0_copyFrom 5 = .ok (.aload_n 0, 1) := by decide +kernel
theorem dX0_copyFrom_6 : decode cX0_copyFrom 6 = .ok (.getfield 9, 3) := by decide +kernel
theorem dX0_copyFrom_9 : decode cX0_copyFrom 9 = .ok (.iconst 0, 1) := by decide +kernel
theorem dX0_copyFrom_10 : decode cX0_copyFrom 10 = .ok (.bipush 30, 2) := by decide +kernel
theorem dX0_copyFrom_12 : decode cX0_copyFrom 12 = .ok (.invokestatic 25, 3) := by decide +kernel
theorem dX0_copyFrom_15 : decode cX0_copyFrom 15 = .ok (.aload_n 1, 1) := by decide +kernel
theorem dX0_copyFrom_16 : decode cX0_copyFrom 16 = .ok (.getfield 15, 3) := by decide +kernel
theorem dX0_copyFrom_19 : decode cX0_copyFrom 19 = .ok (.iconst 0, 1) := by decide +kernel
theorem dX0_copyFrom_20 : decode cX0_copyFrom 20 = .ok (.aload_n 0, 1) := by decide +kernel
theorem dX0_copyFrom_21 : decode cX0_copyFrom 21 = .ok (.getfield 15, 3) := by decide +kernel
theorem dX0_copyFrom_24 : decode cX0_copyFrom 24 = .ok (.iconst 0, 1) := by decide +kernel
theorem dX0_copyFrom_25 : decode cX0_copyFrom 25 = .ok (.bipush 30, 2) := by decide +kernel
theorem dX0_copyFrom_27 : decode cX0_copyFrom 27 = .ok (.invokestatic 25, 3) := by decide +kernel
theorem dX0_copyFrom_30 : decode cX0_copyFrom 30 = .ok (.aload_n 1, 1) := by decide +kernel
theorem dX0_copyFrom_31 : decode cX0_copyFrom 31 = .ok (.getfield 18, 3) := by decide +kernel
theorem dX0_copyFrom_34 : decode cX0_copyFrom 34 = .ok (.iconst 0, 1) := by decide +kernel
theorem dX0_copyFrom_35 : decode cX0_copyFrom 35 = .ok (.aload_n 0, 1) := by decide +kernel
theorem dX0_copyFrom_36 : decode cX0_copyFrom 36 = .ok (.getfield 18, 3) := by decide +kernel
theorem dX0_copyFrom_39 : decode cX0_copyFrom 39 = .ok (.iconst 0, 1) := by decide +kernel
theorem dX0_copyFrom_40 : decode cX0_copyFrom 40 = .ok (.bipush 30, 2) := by decide +kernel
theorem dX0_copyFrom_42 : decode cX0_copyFrom 42 = .ok (.invokestatic 25, 3) := by decide +kernel
theorem dX0_copyFrom_45 : decode cX0_copyFrom 45 = .ok (.aload_n 0, 1) := by decide +kernel
theorem dX0_copyFrom_46 : decode cX0_copyFrom 46 = .ok (.aload_n 1, 1) := by decide +kernel
theorem dX0_copyFrom_47 : decode cX0_copyFrom 47 = .ok (.getfield 21, 3) := by decide +kernel
theorem dX0_copyFrom_50 : decode cX0_copyFrom 50 = .ok (.putfield 21, 3) := by decide +kernel
theorem dX0_copyFrom_53 : decode cX0_copyFrom 53 = .ok (.return_, 1) := by decide +kernel
theorem dX0_tryDeal_0 : decode cX0_tryDeal 0 = .ok (.aload_n 0, 1) := by decide +kernel
theorem dX0_tryDeal_1 : decode cX0_tryDeal 1 = .ok (.aload_n 1, 1) := by decide +kernel
theorem dX0_tryDeal_2 : decode cX0_tryDeal 2 = .ok (.iload_n 2, 1) := by decide +kernel
theorem dX0_tryDeal_3 : decode cX0_tryDeal 3 = .ok (.iload_n 3, 1) := by decide +kernel
theorem dX0_tryDeal_4 : decode cX0_tryDeal 4 = .ok (.invokevirtual 31, 3) := by decide +kernel
theorem dX0_tryDeal_7 : decode cX0_tryDeal 7 = .ok (.istore 4, 2) := by decide +kernel
theorem dX0_tryDeal_9 : decode cX0_tryDeal 9 = .ok (.iload 4, 2) := by decide +kernel
theorem dX0_tryDeal_11 : decode cX0_tryDeal 11 = .ok (.ifCond .ne 12, 3) := by decide +kernel
theorem dX0_tryDeal_14 : decode cX0_tryDeal 14 = .ok (.aload_n 0, 1) := by decide +kernel
theorem dX0_tryDeal_15 : decode cX0_tryDeal 15 = .ok (.getfield 21, 3) := by decide +kernel
theorem dX0_tryDeal_18 : decode cX0_tryDeal 18 = .ok (.bipush 30, 2) := by decide +kernel
theorem dX0_tryDeal_20 : decode cX0_tryDeal 20 = .ok (.if_icmp .lt 6, 3) := by decide +kernel
theorem dX0_tryDeal_23 : decode cX0_tryDeal 23 = .ok (.iload 4, 2) := by decide +kernel
theorem dX0_tryDeal_25 : decode cX0_tryDeal 25 = .ok (.ireturn, 1) := by decide +kernel
theorem dX0_tryDeal_26 : decode cX0_tryDeal 26 = .ok (.iconst 0, 1) := by decide +kernel
theorem dX0_tryDeal_27 : decode cX0_tryDeal 27 = .ok (.istore 5, 2) := by decide +kernel
theorem dX0_tryDeal_29 : decode cX0_tryDeal 29 = .ok (.aload_n 0, 1) := by decide +kernel
theorem dX0_tryDeal_30 : decode cX0_tryDeal 30 = .ok (.aload_n 1, 1) := by decide +kernel
theorem dX0_tryDeal_31 : decode cX0_tryDeal 31 = .ok (.aload_n 1, 1) := by decide +kernel
theorem dX0_tryDeal_32 : decode cX0_tryDeal 32 = .ok (.getfield 35, 3) := by decide +kernel
theorem dX0_tryDeal_35 : decode cX0_tryDeal 35 = .ok (.iload_n 2, 1) := by decide +kernel
theorem dX0_tryDeal_36 : decode cX0_tryDeal 36 = .ok (.iaload, 1) := by decide +kernel
theorem dX0_tryDeal_37 : decode cX0_tryDeal 37 = .ok (.aload_n 1, 1) := by decide +kernel
theorem dX0_tryDeal_38 : decode cX0_tryDeal 38 = .ok (.getfield 40, 3) := by decide +kernel
theorem dX0_tryDeal_41 : decode cX0_tryDeal 41 = .ok (.iload_n 2, 1) := by decide +kernel
theorem dX0_tryDeal_42 : decode cX0_tryDeal 42 = .ok (.iaload, 1) := by decide +kernel
theorem dX0_tryDeal_43 : decode cX0_tryDeal 43 = .ok (.invokevirtual 43, 3) := by decide +kernel
theorem dX0_tryDeal_46 : decode cX0_tryDeal 46 = .ok (.ifCond .ne 16, 3) := by decide +kernel
theorem dX0_tryDeal_49 : decode cX0_tryDeal 49 = .ok (.iload 5, 2) := by decide +kernel
theorem dX0_tryDeal_51 : decode cX0_tryDeal 51 = .ok (.iconst 1, 1) := by decide +kernel
theorem dX0_tryDeal_52 : decode cX0_tryDeal 52 = .ok (.aload_n 1, 1) := by decide +kernel
theorem dX0_tryDeal_53 : decode cX0_tryDeal 53 = .ok (.getfield 35, 3) := by decide +kernel
theorem dX0_tryDeal_56 : decode cX0_tryDeal 56 = .ok (.iload_n 2, 1) := by decide +kernel
theorem dX0_tryDeal_57 : decode cX0_tryDeal 57 = .ok (.iaload, 1) := by decide +kernel
theorem dX0_tryDeal_58 : decode cX0_tryDeal 58 = .ok (.ishl, 1) := by decide +kernel
theorem dX0_tryDeal_59 : decode cX0_tryDeal 59 = .ok (.ior, 1) := by decide +kernel
theorem dX0_tryDeal_60 : decode cX0_tryDeal 60 = .ok (.istore 5, 2) := by decide +kernel
theorem dX0_tryDeal_62 : decode cX0_tryDeal 62 = .ok (.aload_n 0, 1) := by decide +kernel
theorem dX0_tryDeal_63 : decode cX0_tryDeal 63 = .ok (.aload_n 1, 1) := by decide +kernel
theorem dX0_tryDeal_64 : decode cX0_tryDeal 64 = .ok (.aload_n 1, 1) := by decide +kernel
theorem dX0_tryDeal_65 : decode cX0_tryDeal 65 = .ok (.getfield 46, 3) := by decide +kernel
theorem dX0_tryDeal_68 : decode cX0_tryDeal 68 = .ok (.iload_n 2, 1) := by decide +kernel
theorem dX0_tryDeal_69 : decode cX0_tryDeal 69 = .ok (.iaload, 1) := by decide +kernel
theorem dX0_tryDeal_70 : decode cX0_tryDeal 70 = .ok (.aload_n 1, 1) := by decide +kernel
theorem dX0_tryDeal_71 : decode cX0_tryDeal 71 = .ok (.getfield 40, 3) := by decide +kernel
theorem dX0_tryDeal_74 : decode cX0_tryDeal 74 = .ok (.iload_n 2, 1) := by decide +kernel
theorem dX0_tryDeal_75 : decode cX0_tryDeal 75 = .ok (.iaload, 1) := by decide +kernel
theorem dX0_tryDeal_76 : decode cX0_tryDeal 76 = .ok (.invokevirtual 43, 3) := by decide +kernel
theorem dX0_tryDeal_79 : decode cX0_tryDeal 79 = .ok (.ifCond .ne 16, 3) := by decide +kernel
theorem dX0_tryDeal_82 : decode cX0_tryDeal 82 = .ok (.iload 5, 2) := by decide +kernel
theorem dX0_tryDeal_84 : decode cX0_tryDeal 84 = .ok (.iconst 1, 1) := by decide +kernel
theorem dX0_tryDeal_85 : decode cX0_tryDeal 85 = .ok (.aload_n 1, 1) := by decide +kernel
theorem dX0_tryDeal_86 : decode cX0_tryDeal 86 = .ok (.getfield 46, 3) := by decide +kernel
theorem dX0_tryDeal_89 : decode cX0_tryDeal 89 = .ok (.iload_n 2, 1) := by decide +kernel
theorem dX0_tryDeal_90 : decode cX0_tryDeal 90 = .ok (.iaload, 1) := by decide +kernel
theorem dX0_tryDeal_91 : decode cX0_tryDeal 91 = .ok (.ishl, 1) := by decide +kernel
theorem dX0_tryDeal_92 : decode cX0_tryDeal 92 = .ok (.ior, 1) := by decide +kernel
theorem dX0_tryDeal_93 : decode cX0_tryDeal 93 = .ok (.istore 5, 2) := by decide +kernel
theorem dX0_tryDeal_95 : decode cX0_tryDeal 95 = .ok (.aload_n 0, 1) := by decide +kernel
theorem dX0_tryDeal_96 : decode cX0_tryDeal 96 = .ok (.getfield 9, 3) := by decide +kernel
theorem dX0_tryDeal_99 : decode cX0_tryDeal 99 = .ok (.aload_n 0, 1) := by decide +kernel
theorem dX0_tryDeal_100 : decode cX0_tryDeal 100 = .ok (.getfield 21, 3) := by decide +kernel
theorem dX0_tryDeal_103 : decode cX0_tryDeal 103 = .ok (.iload_n 2, 1) := by decide +kernel
theorem dX0_tryDeal_104 : decode cX0_tryDeal 104 = .ok (.iastore, 1) := by decide +kernel
theorem dX0_tryDeal_105 : decode cX0_tryDeal 105 = .ok (.aload_n 0, 1) := by decide +kernel
theorem dX0_tryDeal_106 : decode cX0_tryDeal 106 = .ok (.getfield 15, 3) := by decide +kernel
theorem dX0_tryDeal_109 : decode cX0_tryDeal 109 = .ok (.aload_n 0, 1) := by decide +kernel
theorem dX0_tryDeal_110 : decode cX0_tryDeal 110 = .ok (.getfield 21, 3) := by decide +kernel
theorem dX0_tryDeal_113 : decode cX0_tryDeal 113 = .ok (.iload_n 3, 1) := by decide +kernel
theorem dX0_tryDeal_114 : decode cX0_tryDeal 114 = .ok (.iastore, 1) := by decide +kernel
theorem dX0_tryDeal_115 : decode cX0_tryDeal 115 = .ok (.aload_n 0, 1) := by decide +kernel
theorem dX0_tryDeal_116 : decode cX0_tryDeal 116 = .ok (.getfield 18, 3) := by decide +kernel
theorem dX0_tryDeal_119 : decode cX0_tryDeal 119 = .ok (.aload_n 0, 1) := by decide +kernel
theorem dX0_tryDeal_120 : decode cX0_tryDeal 120 = .ok (.getfield 21, 3) := by decide +kernel
theorem dX0_tryDeal_123 : decode cX0_tryDeal 123 = .ok (.iload 5, 2) := by decide +kernel
theorem dX0_tryDeal_125 : decode cX0_tryDeal 125 = .ok (.iastore, 1) := by decide +kernel
theorem dX0_tryDeal_126 : decode cX0_tryDeal 126 = .ok (.aload_n 0, 1) := by decide +kernel
theorem dX0_tryDeal_127 : decode cX0_tryDeal 127 = .ok (.dup, 1) := by decide +kernel
theorem dX0_tryDeal_128 : decode cX0_tryDeal 128 = .ok (.getfield 21, 3) := by decide +kernel
theorem dX0_tryDeal_131 : decode cX0_tryDeal 131 = .ok (.iconst 1, 1) := by decide +kernel
theorem dX0_tryDeal_132 : decode cX0_tryDeal 132 = .ok (.iadd, 1) := by decide +kernel
theorem dX0_tryDeal_133 : decode cX0_tryDeal 133 = .ok (.putfield 21, 3) := by decide +kernel
theorem dX0_tryDeal_136 : decode cX0_tryDeal 136 = .ok (.iconst 0, 1) := by decide +kernel
theorem dX0_tryDeal_137 : decode cX0_tryDeal 137 = .ok (.ireturn, 1) := by decide +kernel
theorem dX0_dropLast_0 : decode cX0_dropLast 0 = .ok (.aload_n 0, 1) := by decide +kernel
theorem dX0_dropLast_1 : decode cX0_dropLast 1 = .ok (.getfield 21, 3) := by decide +kernel
theorem dX0_dropLast_4 : decode cX0_dropLast 4 = .ok (.ifCond .le 13, 3) := by decide +kernel
theorem dX0_dropLast_7 : decode cX0_dropLast 7 = .ok (.aload_n 0, 1) := by decide +kernel
theorem dX0_dropLast_8 : decode cX0_dropLast 8 = .ok (.dup, 1) := by decide +kernel
theorem dX0_dropLast_9 : decode cX0_dropLast 9 = .ok (.getfield 21, 3) := by decide +kernel
theorem dX0_dropLast_12 : decode cX0_dropLast 12 = .ok (.iconst 1, 1) := by decide +kernel
theorem dX0_dropLast_13 : decode cX0_dropLast 13 = .ok (.isub, 1) := by decide +kernel
theorem dX0_dropLast_14 : decode cX0_dropLast 14 = .ok (.putfield 21, 3) := by decide +kernel
theorem dX0_dropLast_17 : decode cX0_dropLast 17 = .ok (.return_, 1) := by decide +kernel
theorem dX0_wayDone_0 : decode cX0_wayDone 0 = .ok (.iconst 0, 1) := by decide +kernel
theorem dX0_wayDone_1 : decode cX0_wayDone 1 = .ok (.istore_n 2, 1) := by decide +kernel
theorem dX0_wayDone_2 : decode cX0_wayDone 2 = .ok (.iload_n 2, 1) := by decide +kernel
theorem dX0_wayDone_3 : decode cX0_wayDone 3 = .ok (.aload_n 0, 1) := by decide +kernel
theorem dX0_wayDone_4 : decode cX0_wayDone 4 = .ok (.getfield 21, 3) := by decide +kernel
theorem dX0_wayDone_7 : decode cX0_wayDone 7 = .ok (.if_icmp .ge 26, 3) := by decide +kernel
theorem dX0_wayDone_10 : decode cX0_wayDone 10 = .ok (.aload_n 0, 1) := by decide +kernel
theorem dX0_wayDone_11 : decode cX0_wayDone 11 = .ok (.getfield 9, 3) := by decide +kernel
theorem dX0_wayDone_14 : decode cX0_wayDone 14 = .ok (.iload_n 2, 1) := by decide +kernel
theorem dX0_wayDone_15 : decode cX0_wayDone 15 = .ok (.iaload, 1) := by decide +kernel
theorem dX0_wayDone_16 : decode cX0_wayDone 16 = .ok (.iload_n 1, 1) := by decide +kernel
theorem dX0_wayDone_17 : decode cX0_wayDone 17 = .ok (.if_icmp .ne 10, 3) := by decide +kernel
theorem dX0_wayDone_20 : decode cX0_wayDone 20 = .ok (.aload_n 0, 1) := by decide +kernel
theorem dX0_wayDone_21 : decode cX0_wayDone 21 = .ok (.getfield 15, 3) := by decide +kernel
theorem dX0_wayDone_24 : decode cX0_wayDone 24 = .ok (.iload_n 2, 1) := by decide +kernel
theorem dX0_wayDone_25 : decode cX0_wayDone 25 = .ok (.iaload, 1) := by decide +kernel
theorem dX0_wayDone_26 : decode cX0_wayDone 26 = .ok (.ireturn, 1) := by decide +kernel
theorem dX0_wayDone_27 : decode cX0_wayDone 27 = .ok (.iinc 2 1, 3) := by decide +kernel
theorem dX0_wayDone_30 : decode cX0_wayDone 30 = .ok (.goto (-28), 3) := by decide +kernel
theorem dX0_wayDone_33 : decode cX0_wayDone 33 = .ok (.iconst 0, 1) := by decide +kernel
theorem dX0_wayDone_34 : decode cX0_wayDone 34 = .ok (.ireturn, 1) := by decide +kernel
theorem dX0_wrongOf_0 : decode cX0_wrongOf 0 = .ok (.aload_n 0, 1) := by decide +kernel
theorem dX0_wrongOf_1 : decode cX0_wrongOf 1 = .ok (.iload_n 2, 1) := by decide +kernel
theorem dX0_wrongOf_2 : decode cX0_wrongOf 2 = .ok (.invokevirtual 49, 3) := by decide +kernel
theorem dX0_wrongOf_5 : decode cX0_wrongOf 5 = .ok (.ifCond .eq 5, 3) := by decide +kernel
theorem dX0_wrongOf_8 : decode cX0_wrongOf 8 = .ok (.iconst 1, 1) := by decide +kernel
theorem dX0_wrongOf_9 : decode cX0_wrongOf 9 = .ok (.ireturn, 1) := by decide +kernel
theorem dX0_wrongOf_10 : decode cX0_wrongOf 10 = .ok (.iload_n 3, 1) := by decide +kernel
theorem dX0_wrongOf_11 : decode cX0_wrongOf 11 = .ok (.iconst 2, 1) := by decide +kernel
theorem dX0_wrongOf_12 : decode cX0_wrongOf 12 = .ok (.if_icmp .ne 14, 3) := by decide +kernel
theorem dX0_wrongOf_15 : decode cX0_wrongOf 15 = .ok (.aload_n 1, 1) := by decide +kernel
theorem dX0_wrongOf_16 : decode cX0_wrongOf 16 = .ok (.getfield 53, 3) := by decide +kernel
theorem dX0_wrongOf_19 : decode cX0_wrongOf 19 = .ok (.iload_n 2, 1) := by decide +kernel
theorem dX0_wrongOf_20 : decode cX0_wrongOf 20 = .ok (.iaload, 1) := by decide +kernel
theorem dX0_wrongOf_21 : decode cX0_wrongOf 21 = .ok (.ifCond .ne 5, 3) := by decide +kernel
theorem dX0_wrongOf_24 : decode cX0_wrongOf 24 = .ok (.iconst 2, 1) := by decide +kernel
theorem dX0_wrongOf_25 : decode cX0_wrongOf 25 = .ok (.ireturn, 1) := by decide +kernel
theorem dX0_wrongOf_26 : decode cX0_wrongOf 26 = .ok (.aload_n 1, 1) := by decide +kernel
theorem dX0_wrongOf_27 : decode cX0_wrongOf 27 = .ok (.getfield 40, 3) := by decide +kernel
theorem dX0_wrongOf_30 : decode cX0_wrongOf 30 = .ok (.iload_n 2, 1) := by decide +kernel
theorem dX0_wrongOf_31 : decode cX0_wrongOf 31 = .ok (.iaload, 1) := by decide +kernel
theorem dX0_wrongOf_32 : decode cX0_wrongOf 32 = .ok (.istore 4, 2) := by decide +kernel
theorem dX0_wrongOf_34 : decode cX0_wrongOf 34 = .ok (.aload_n 0, 1) := by decide +kernel
theorem dX0_wrongOf_35 : decode cX0_wrongOf 35 = .ok (.getfield 21, 3) := by decide +kernel
theorem dX0_wrongOf_38 : decode cX0_wrongOf 38 = .ok (.ifCond .le 26, 3) := by decide +kernel
theorem dX0_wrongOf_41 : decode cX0_wrongOf 41 = .ok (.iload 4, 2) := by decide +kernel
theorem dX0_wrongOf_43 : decode cX0_wrongOf 43 = .ok (.aload_n 1, 1) := by decide +kernel
theorem dX0_wrongOf_44 : decode cX0_wrongOf 44 = .ok (.getfield 40, 3) := by decide +kernel
theorem dX0_wrongOf_47 : decode cX0_wrongOf 47 = .ok (.aload_n 0, 1) := by decide +kernel
theorem dX0_wrongOf_48 : decode cX0_wrongOf 48 = .ok (.getfield 9, 3) := by decide +kernel
theorem dX0_wrongOf_51 : decode cX0_wrongOf 51 = .ok (.aload_n 0, 1) := by decide +kernel
theorem dX0_wrongOf_52 : decode cX0_wrongOf 52 = .ok (.getfield 21, 3) := by decide +kernel
theorem dX0_wrongOf_55 : decode cX0_wrongOf 55 = .ok (.iconst 1, 1) := by decide +kernel
theorem dX0_wrongOf_56 : decode cX0_wrongOf 56 = .ok (.isub, 1) := by decide +kernel
theorem dX0_wrongOf_57 : decode cX0_wrongOf 57 = .ok (.iaload, 1) := by decide +kernel
theorem dX0_wrongOf_58 : decode cX0_wrongOf 58 = .ok (.iaload, 1) := by decide +kernel
theorem dX0_wrongOf_59 : decode cX0_wrongOf 59 = .ok (.if_icmp .ge 5, 3) := by decide +kernel
theorem dX0_wrongOf_62 : decode cX0_wrongOf 62 = .ok (.iconst 3, 1) := by decide +kernel
theorem dX0_wrongOf_63 : decode cX0_wrongOf 63 = .ok (.ireturn, 1) := by decide +kernel
theorem dX0_wrongOf_64 : decode cX0_wrongOf 64 = .ok (.iload_n 3, 1) := by decide +kernel
theorem dX0_wrongOf_65 : decode cX0_wrongOf 65 = .ok (.iconst 2, 1) := by decide +kernel
theorem dX0_wrongOf_66 : decode cX0_wrongOf 66 = .ok (.if_icmp .ne 12, 3) := by decide +kernel
theorem dX0_wrongOf_69 : decode cX0_wrongOf 69 = .ok (.aload_n 1, 1) := by decide +kernel
theorem dX0_wrongOf_70 : decode cX0_wrongOf 70 = .ok (.getfield 46, 3) := by decide +kernel
theorem dX0_wrongOf_73 : decode cX0_wrongOf 73 = .ok (.iload_n 2, 1) := by decide +kernel
theorem dX0_wrongOf_74 : decode cX0_wrongOf 74 = .ok (.iaload, 1) := by decide +kernel
theorem dX0_wrongOf_75 : decode cX0_wrongOf 75 = .ok (.goto 9, 3) := by decide +kernel
theorem dX0_wrongOf_78 : decode cX0_wrongOf 78 = .ok (.aload_n 1, 1) := by decide +kernel
theorem dX0_wrongOf_79 : decode cX0_wrongOf 79 = .ok (.getfield 35, 3) := by decide +kernel
theorem dX0_wrongOf_82 : decode cX0_wrongOf 82 = .ok (.iload_n 2, 1) := by decide +kernel
theorem dX0_wrongOf_83 : decode cX0_wrongOf 83 = .ok (.iaload, 1) := by decide +kernel
theorem dX0_wrongOf_84 : decode cX0_wrongOf 84 = .ok (.istore 5, 2) := by decide +kernel
theorem dX0_wrongOf_86 : decode cX0_wrongOf 86 = .ok (.aload_n 1, 1) := by decide +kernel
theorem dX0_wrongOf_87 : decode cX0_wrongOf 87 = .ok (.iload_n 2, 1) := by decide +kernel
theorem dX0_wrongOf_88 : decode cX0_wrongOf 88 = .ok (.iload 5, 2) := by decide +kernel
theorem dX0_wrongOf_90 : decode cX0_wrongOf 90 = .ok (.invokevirtual 56, 3) := by decide +kernel
theorem dX0_wrongOf_93 : decode cX0_wrongOf 93 = .ok (.istore 6, 2) := by decide +kernel
theorem dX0_wrongOf_95 : decode cX0_wrongOf 95 = .ok (.aload_n 0, 1) := by decide +kernel
theorem dX0_wrongOf_96 : decode cX0_wrongOf 96 = .ok (.aload_n 1, 1) := by decide +kernel
theorem dX0_wrongOf_97 : decode cX0_wrongOf 97 = .ok (.iload 5, 2) := by decide +kernel
theorem dX0_wrongOf_99 : decode cX0_wrongOf 99 = .ok (.iload 4, 2) := by decide +kernel
theorem dX0_wrongOf_101 : decode cX0_wrongOf 101 = .ok (.invokevirtual 43, 3) := by decide +kernel
theorem dX0_wrongOf_104 : decode cX0_wrongOf 104 = .ok (.iconst 2, 1) := by decide +kernel
theorem dX0_wrongOf_105 : decode cX0_wrongOf 105 = .ok (.if_icmp .ne 5, 3) := by decide +kernel
theorem dX0_wrongOf_108 : decode cX0_wrongOf 108 = .ok (.iconst 4, 1) := by decide +kernel
theorem dX0_wrongOf_109 : decode cX0_wrongOf 109 = .ok (.ireturn, 1) := by decide +kernel
theorem dX0_wrongOf_110 : decode cX0_wrongOf 110 = .ok (.aload_n 0, 1) := by decide +kernel
theorem dX0_wrongOf_111 : decode cX0_wrongOf 111 = .ok (.aload_n 1, 1) := by decide +kernel
theorem dX0_wrongOf_112 : decode cX0_wrongOf 112 = .ok (.iload 6, 2) := by decide +kernel
theorem dX0_wrongOf_114 : decode cX0_wrongOf 114 = .ok (.iload 4, 2) := by decide +kernel
theorem dX0_wrongOf_116 : decode cX0_wrongOf 116 = .ok (.invokevirtual 43, 3) := by decide +kernel
theorem dX0_wrongOf_119 : decode cX0_wrongOf 119 = .ok (.iconst 1, 1) := by decide +kernel
theorem dX0_wrongOf_120 : decode cX0_wrongOf 120 = .ok (.if_icmp .ne 5, 3) := by decide +kernel
theorem dX0_wrongOf_123 : decode cX0_wrongOf 123 = .ok (.iconst 5, 1) := by decide +kernel
theorem dX0_wrongOf_124 : decode cX0_wrongOf 124 = .ok (.ireturn, 1) := by decide +kernel
theorem dX0_wrongOf_125 : decode cX0_wrongOf 125 = .ok (.aload_n 0, 1) := by decide +kernel
theorem dX0_wrongOf_126 : decode cX0_wrongOf 126 = .ok (.aload_n 1, 1) := by decide +kernel
theorem dX0_wrongOf_127 : decode cX0_wrongOf 127 = .ok (.iload 5, 2) := by decide +kernel
theorem dX0_wrongOf_129 : decode cX0_wrongOf 129 = .ok (.iload 4, 2) := by decide +kernel
theorem dX0_wrongOf_131 : decode cX0_wrongOf 131 = .ok (.invokevirtual 60, 3) := by decide +kernel
theorem dX0_wrongOf_134 : decode cX0_wrongOf 134 = .ok (.ifCond .ne 15, 3) := by decide +kernel
theorem dX0_wrongOf_137 : decode cX0_wrongOf 137 = .ok (.aload_n 0, 1) := by decide +kernel
theorem dX0_wrongOf_138 : decode cX0_wrongOf 138 = .ok (.aload_n 1, 1) := by decide +kernel
theorem dX0_wrongOf_139 : decode cX0_wrongOf 139 = .ok (.iload 6, 2) := by decide +kernel
theorem dX0_wrongOf_141 : decode cX0_wrongOf 141 = .ok (.iload 4, 2) := by decide +kernel
theorem dX0_wrongOf_143 : decode cX0_wrongOf 143 = .ok (.invokevirtual 60, 3) := by decide +kernel
theorem dX0_wrongOf_146 : decode cX0_wrongOf 146 = .ok (.ifCond .eq 8, 3) := by decide +kernel
theorem dX0_wrongOf_149 : decode cX0_wrongOf 149 = .ok (.bipush 6, 2) := by decide +kernel
theorem dX0_wrongOf_151 : decode cX0_wrongOf 151 = .ok (.goto 4, 3) := by decide +kernel
theorem dX0_wrongOf_154 : decode cX0_wrongOf 154 = .ok (.iconst 0, 1) := by decide +kernel
theorem dX0_wrongOf_155 : decode cX0_wrongOf 155 = .ok (.ireturn, 1) := by decide +kernel
theorem dX0_didAll_0 : decode cX0_didAll 0 = .ok (.iconst 0, 1) := by decide +kernel
theorem dX0_didAll_1 : decode cX0_didAll 1 = .ok (.istore 4, 2) := by decide +kernel
theorem dX0_didAll_3 : decode cX0_didAll 3 = .ok (.iconst 0, 1) := by decide +kernel
theorem dX0_didAll_4 : decode cX0_didAll 4 = .ok (.istore 5, 2) := by decide +kernel
theorem dX0_didAll_6 : decode cX0_didAll 6 = .ok (.iload 5, 2) := by decide +kernel
theorem dX0_didAll_8 : decode cX0_didAll 8 = .ok (.aload_n 0, 1) := by decide +kernel
theorem dX0_didAll_9 : decode cX0_didAll 9 = .ok (.getfield 21, 3) := by decide +kernel
theorem dX0_didAll_12 : decode cX0_didAll 12 = .ok (.if_icmp .ge 43, 3) := by decide +kernel
theorem dX0_didAll_15 : decode cX0_didAll 15 = .ok (.aload_n 1, 1) := by decide +kernel
theorem dX0_didAll_16 : decode cX0_didAll 16 = .ok (.getfield 40, 3) := by decide +kernel
theorem dX0_didAll_19 : decode cX0_didAll 19 = .ok (.aload_n 0, 1) := by decide +kernel
theorem dX0_didAll_20 : decode cX0_didAll 20 = .ok (.getfield 9, 3) := by decide +kernel
theorem dX0_didAll_23 : decode cX0_didAll 23 = .ok (.iload 5, 2) := by decide +kernel
theorem dX0_didAll_25 : decode cX0_didAll 25 = .ok (.iaload, 1) := by decide +kernel
theorem dX0_didAll_26 : decode cX0_didAll 26 = .ok (.iaload, 1) := by decide +kernel
theorem dX0_didAll_27 : decode cX0_didAll 27 = .ok (.iload_n 3, 1) := by decide +kernel
theorem dX0_didAll_28 : decode cX0_didAll 28 = .ok (.if_icmp .ne 21, 3) := by decide +kernel
theorem dX0_didAll_31 : decode cX0_didAll 31 = .ok (.aload_n 1, 1) := by decide +kernel
theorem dX0_didAll_32 : decode cX0_didAll 32 = .ok (.aload_n 0, 1) := by decide +kernel
theorem dX0_didAll_33 : decode cX0_didAll 33 = .ok (.getfield 9, 3) := by decide +kernel
theorem dX0_didAll_36 : decode cX0_didAll 36 = .ok (.iload 5, 2) := by decide +kernel
theorem dX0_didAll_38 : decode cX0_didAll 38 = .ok (.iaload, 1) := by decide +kernel
theorem dX0_didAll_39 : decode cX0_didAll 39 = .ok (.iload_n 2, 1) := by decide +kernel
theorem dX0_didAll_40 : decode cX0_didAll 40 = .ok (.invokevirtual 64, 3) := by decide +kernel
theorem dX0_didAll_43 : decode cX0_didAll 43 = .ok (.ifCond .eq 6, 3) := by decide +kernel
theorem dX0_didAll_46 : decode cX0_didAll 46 = .ok (.iinc 4 1, 3) := by decide +kernel
theorem dX0_didAll_49 : decode cX0_didAll 49 = .ok (.iinc 5 1, 3) := by decide +kernel
theorem dX0_didAll_52 : decode cX0_didAll 52 = .ok (.goto (-46), 3) := by decide +kernel
theorem dX0_didAll_55 : decode cX0_didAll 55 = .ok (.iload 4, 2) := by decide +kernel
theorem dX0_didAll_57 : decode cX0_didAll 57 = .ok (.aload_n 1, 1) := by decide +kernel
theorem dX0_didAll_58 : decode cX0_didAll 58 = .ok (.getfield 68, 3) := by decide +kernel
theorem dX0_didAll_61 : decode cX0_didAll 61 = .ok (.iload_n 2, 1) := by decide +kernel
theorem dX0_didAll_62 : decode cX0_didAll 62 = .ok (.iaload, 1) := by decide +kernel
theorem dX0_didAll_63 : decode cX0_didAll 63 = .ok (.if_icmp .lt 7, 3) := by decide +kernel
theorem dX0_didAll_66 : decode cX0_didAll 66 = .ok (.iconst 1, 1) := by decide +kernel
theorem dX0_didAll_67 : decode cX0_didAll 67 = .ok (.goto 4, 3) := by decide +kernel
theorem dX0_didAll_70 : decode cX0_didAll 70 = .ok (.iconst 0, 1) := by decide +kernel
theorem dX0_didAll_71 : decode cX0_didAll 71 = .ok (.ireturn, 1) := by decide +kernel
theorem dX0_whatIs_0 : decode cX0_whatIs 0 = .ok (.aload_n 0, 1) := by decide +kernel
theorem dX0_whatIs_1 : decode cX0_whatIs 1 = .ok (.getfield 21, 3) := by decide +kernel
theorem dX0_whatIs_4 : decode cX0_whatIs 4 = .ok (.iconst 1, 1) := by decide +kernel
theorem dX0_whatIs_5 : decode cX0_whatIs 5 = .ok (.isub, 1) := by decide +kernel
theorem dX0_whatIs_6 : decode cX0_whatIs 6 = .ok (.istore 4, 2) := by decide +kernel
theorem dX0_whatIs_8 : decode cX0_whatIs 8 = .ok (.iload 4, 2) := by decide +kernel
theorem dX0_whatIs_10 : decode cX0_whatIs 10 = .ok (.ifCond .lt 125, 3) := by decide +kernel
theorem dX0_whatIs_13 : decode cX0_whatIs 13 = .ok (.aload_n 0, 1) := by decide +kernel
theorem dX0_whatIs_14 : decode cX0_whatIs 14 = .ok (.getfield 9, 3) := by decide +kernel
theorem dX0_whatIs_17 : decode cX0_whatIs 17 = .ok (.iload 4, 2) := by decide +kernel
theorem dX0_whatIs_19 : decode cX0_whatIs 19 = .ok (.iaload, 1) := by decide +kernel
theorem dX0_whatIs_20 : decode cX0_whatIs 20 = .ok (.istore 5, 2) := by decide +kernel
theorem dX0_whatIs_22 : decode cX0_whatIs 22 = .ok (.aload_n 1, 1) := by decide +kernel
theorem dX0_whatIs_23 : decode cX0_whatIs 23 = .ok (.getfield 40, 3) := by decide +kernel
theorem dX0_whatIs_26 : decode cX0_whatIs 26 = .ok (.iload 5, 2) := by decide +kernel
theorem dX0_whatIs_28 : decode cX0_whatIs 28 = .ok (.iaload, 1) := by decide +kernel
theorem dX0_whatIs_29 : decode cX0_whatIs 29 = .ok (.iload_n 3, 1) := by decide +kernel
theorem dX0_whatIs_30 : decode cX0_whatIs 30 = .ok (.if_icmp .gt 99, 3) := by decide +kernel
theorem dX0_whatIs_33 : decode cX0_whatIs 33 = .ok (.aload_n 0, 1) := by decide +kernel
theorem dX0_whatIs_34 : decode cX0_whatIs 34 = .ok (.getfield 18, 3) := by decide +kernel
theorem dX0_whatIs_37 : decode cX0_whatIs 37 = .ok (.iload 4, 2) := by decide +kernel
theorem dX0_whatIs_39 : decode cX0_whatIs 39 = .ok (.iaload, 1) := by decide +kernel
theorem dX0_whatIs_40 : decode cX0_whatIs 40 = .ok (.iload_n 2, 1) := by decide +kernel
theorem dX0_whatIs_41 : decode cX0_whatIs 41 = .ok (.ishr, 1) := by decide +kernel
theorem dX0_whatIs_42 : decode cX0_whatIs 42 = .ok (.iconst 1, 1) := by decide +kernel
theorem dX0_whatIs_43 : decode cX0_whatIs 43 = .ok (.iand, 1) := by decide +kernel
theorem dX0_whatIs_44 : decode cX0_whatIs 44 = .ok (.iconst 1, 1) := by decide +kernel
theorem dX0_whatIs_45 : decode cX0_whatIs 45 = .ok (.if_icmp .ne 84, 3) := by decide +kernel
theorem dX0_whatIs_48 : decode cX0_whatIs 48 = .ok (.aload_n 1, 1) := by decide +kernel
theorem dX0_whatIs_49 : decode cX0_whatIs 49 = .ok (.getfield 71, 3) := by decide +kernel
theorem dX0_whatIs_52 : decode cX0_whatIs 52 = .ok (.ifCond .eq 19, 3) := by decide +kernel
theorem dX0_whatIs_55 : decode cX0_whatIs 55 = .ok (.iload_n 3, 1) := by decide +kernel
theorem dX0_whatIs_56 : decode cX0_whatIs 56 = .ok (.aload_n 1, 1) := by decide +kernel
theorem dX0_whatIs_57 : decode cX0_whatIs 57 = .ok (.getfield 40, 3) := by decide +kernel
theorem dX0_whatIs_60 : decode cX0_whatIs 60 = .ok (.iload 5, 2) := by decide +kernel
theorem dX0_whatIs_62 : decode cX0_whatIs 62 = .ok (.iaload, 1) := by decide +kernel
theorem dX0_whatIs_63 : decode cX0_whatIs 63 = .ok (.aload_n 1, 1) := by decide +kernel
theorem dX0_whatIs_64 : decode cX0_whatIs 64 = .ok (.getfield 71, 3) := by decide +kernel
theorem dX0_whatIs_67 : decode cX0_whatIs 67 = .ok (.iadd, 1) := by decide +kernel
theorem dX0_whatIs_68 : decode cX0_whatIs 68 = .ok (.if_icmp .ge 7, 3) := by decide +kernel
theorem dX0_whatIs_71 : decode cX0_whatIs 71 = .ok (.iconst 1, 1) := by decide +kernel
theorem dX0_whatIs_72 : decode cX0_whatIs 72 = .ok (.goto 4, 3) := by decide +kernel
theorem dX0_whatIs_75 : decode cX0_whatIs 75 = .ok (.iconst 0, 1) := by decide +kernel
theorem dX0_whatIs_76 : decode cX0_whatIs 76 = .ok (.istore 6, 2) := by decide +kernel
theorem dX0_whatIs_78 : decode cX0_whatIs 78 = .ok (.aload_n 0, 1) := by decide +kernel
theorem dX0_whatIs_79 : decode cX0_whatIs 79 = .ok (.getfield 15, 3) := by decide +kernel
theorem dX0_whatIs_82 : decode cX0_whatIs 82 = .ok (.iload 4, 2) := by decide +kernel
theorem dX0_whatIs_84 : decode cX0_whatIs 84 = .ok (.iaload, 1) := by decide +kernel
theorem dX0_whatIs_85 : decode cX0_whatIs 85 = .ok (.iconst 2, 1) := by decide +kernel
theorem dX0_whatIs_86 : decode cX0_whatIs 86 = .ok (.if_icmp .ne 13, 3) := by decide +kernel
theorem dX0_whatIs_89 : decode cX0_whatIs 89 = .ok (.aload_n 1, 1) := by decide +kernel
theorem dX0_whatIs_90 : decode cX0_whatIs 90 = .ok (.getfield 46, 3) := by decide +kernel
theorem dX0_whatIs_93 : decode cX0_whatIs 93 = .ok (.iload 5, 2) := by decide +kernel
theorem dX0_whatIs_95 : decode cX0_whatIs 95 = .ok (.iaload, 1) := by decide +kernel
theorem dX0_whatIs_96 : decode cX0_whatIs 96 = .ok (.goto 10, 3) := by decide +kernel
theorem dX0_whatIs_99 : decode cX0_whatIs 99 = .ok (.aload_n 1, 1) := by decide +kernel
theorem dX0_whatIs_100 : decode cX0_whatIs 100 = .ok (.getfield 35, 3) := by decide +kernel
theorem dX0_whatIs_103 : decode cX0_whatIs 103 = .ok (.iload 5, 2) := by decide +kernel
theorem dX0_whatIs_105 : decode cX0_whatIs 105 = .ok (.iaload, 1) := by decide +kernel
theorem dX0_whatIs_106 : decode cX0_whatIs 106 = .ok (.istore 7, 2) := by decide +kernel
theorem dX0_whatIs_108 : decode cX0_whatIs 108 = .ok (.iload 6, 2) := by decide +kernel
theorem dX0_whatIs_110 : decode cX0_whatIs 110 = .ok (.ifCond .ne 7, 3) := by decide +kernel
theorem dX0_whatIs_113 : decode cX0_whatIs 113 = .ok (.iconst 0, 1) := by decide +kernel
theorem dX0_whatIs_114 : decode cX0_whatIs 114 = .ok (.goto 14, 3) := by decide +kernel
theorem dX0_whatIs_117 : decode cX0_whatIs 117 = .ok (.iload 7, 2) := by decide +kernel
theorem dX0_whatIs_119 : decode cX0_whatIs 119 = .ok (.iload_n 2, 1) := by decide +kernel
theorem dX0_whatIs_120 : decode cX0_whatIs 120 = .ok (.if_icmp .ne 7, 3) := by decide +kernel
theorem dX0_whatIs_123 : decode cX0_whatIs 123 = .ok (.iconst 1, 1) := by decide +kernel
theorem dX0_whatIs_124 : decode cX0_whatIs 124 = .ok (.goto 4, 3) := by decide +kernel
theorem dX0_whatIs_127 : decode cX0_whatIs 127 = .ok (.iconst 2, 1) := by decide +kernel
theorem dX0_whatIs_128 : decode cX0_whatIs 128 = .ok (.ireturn, 1) := by decide +kernel
theorem dX0_whatIs_129 : decode cX0_whatIs 129 = .ok (.iinc 4 (-1), 3) := by decide +kernel
theorem dX0_whatIs_132 : decode cX0_whatIs 132 = .ok (.goto (-124), 3) := by decide +kernel
theorem dX0_whatIs_135 : decode cX0_whatIs 135 = .ok (.iconst 0, 1) := by decide +kernel
theorem dX0_whatIs_136 : decode cX0_whatIs 136 = .ok (.ireturn, 1) := by decide +kernel
theorem dX0_sharesOf_0 : decode cX0_sharesOf 0 = .ok (.iconst 0, 1) := by decide +kernel
theorem dX0_sharesOf_1 : decode cX0_sharesOf 1 = .ok (.istore_n 3, 1) := by decide +kernel
theorem dX0_sharesOf_2 : decode cX0_sharesOf 2 = .ok (.iconst 0, 1) := by decide +kernel
theorem dX0_sharesOf_3 : decode cX0_sharesOf 3 = .ok (.istore 4, 2) := by decide +kernel
theorem dX0_sharesOf_5 : decode cX0_sharesOf 5 = .ok (.iload 4, 2) := by decide +kernel
theorem dX0_sharesOf_7 : decode cX0_sharesOf 7 = .ok (.aload_n 0, 1) := by decide +kernel
theorem dX0_sharesOf_8 : decode cX0_sharesOf 8 = .ok (.getfield 21, 3) := by decide +kernel
theorem dX0_sharesOf_11 : decode cX0_sharesOf 11 = .ok (.if_icmp .ge 24, 3) := by decide +kernel
theorem dX0_sharesOf_14 : decode cX0_sharesOf 14 = .ok (.iload_n 3, 1) := by decide +kernel
theorem dX0_sharesOf_15 : decode cX0_sharesOf 15 = .ok (.aload_n 1, 1) := by decide +kernel
theorem dX0_sharesOf_16 : decode cX0_sharesOf 16 = .ok (.aload_n 0, 1) := by decide +kernel
theorem dX0_sharesOf_17 : decode cX0_sharesOf 17 = .ok (.getfield 9, 3) := by decide +kernel
theorem dX0_sharesOf_20 : decode cX0_sharesOf 20 = .ok (.iload 4, 2) := by decide +kernel
theorem dX0_sharesOf_22 : decode cX0_sharesOf 22 = .ok (.iaload, 1) := by decide +kernel
theorem dX0_sharesOf_23 : decode cX0_sharesOf 23 = .ok (.iload_n 2, 1) := by decide +kernel
theorem dX0_sharesOf_24 : decode cX0_sharesOf 24 = .ok (.invokevirtual 74, 3) := by decide +kernel
theorem dX0_sharesOf_27 : decode cX0_sharesOf 27 = .ok (.iadd, 1) := by decide +kernel
theorem dX0_sharesOf_28 : decode cX0_sharesOf 28 = .ok (.istore_n 3, 1) := by decide +kernel
theorem dX0_sharesOf_29 : decode cX0_sharesOf 29 = .ok (.iinc 4 1, 3) := by decide +kernel
theorem dX0_sharesOf_32 : decode cX0_sharesOf 32 = .ok (.goto (-27), 3) := by decide +kernel
theorem dX0_sharesOf_35 : decode cX0_sharesOf 35 = .ok (.iload_n 3, 1) := by decide +kernel
theorem dX0_sharesOf_36 : decode cX0_sharesOf 36 = .ok (.ireturn, 1) := by decide +kernel
theorem dX1_init_0 : decode cX1_init 0 = .ok (.aload_n 0, 1) := by decide +kernel
theorem dX1_init_1 : decode cX1_init 1 = .ok (.invokespecial 3, 3) := by decide +kernel
theorem dX1_init_4 : decode cX1_init 4 = .ok (.aload_n 0, 1) := by decide +kernel
theorem dX1_init_5 : decode cX1_init 5 = .ok (.bipush 61, 2) := by decide +kernel
theorem dX1_init_7 : decode cX1_init 7 = .ok (.newarray .int, 2) := by decide +kernel
theorem dX1_init_9 : decode cX1_init 9 = .ok (.putfield 9, 3) := by decide +kernel
theorem dX1_init_12 : decode cX1_init 12 = .ok (.aload_n 0, 1) := by decide +kernel
theorem dX1_init_13 : decode cX1_init 13 = .ok (.bipush 60, 2) := by decide +kernel
theorem dX1_init_15 : decode cX1_init 15 = .ok (.newarray .int, 2) := by decide +kernel
theorem dX1_init_17 : decode cX1_init 17 = .ok (.putfield 15, 3) := by decide +kernel
theorem dX1_init_20 : decode cX1_init 20 = .ok (.aload_n 0, 1) := by decide +kernel
theorem dX1_init_21 : decode cX1_init 21 = .ok (.iconst 0, 1) := by decide +kernel
theorem dX1_init_22 : decode cX1_init 22 = .ok (.putfield 18, 3) := by decide +kernel
theorem dX1_init_25 : decode cX1_init 25 = .ok (.aload_n 0, 1) := by decide +kernel
theorem dX1_init_26 : decode cX1_init 26 = .ok (.bipush 61, 2) := by decide +kernel
theorem dX1_init_28 : decode cX1_init 28 = .ok (.newarray .int, 2) := by decide +kernel
theorem dX1_init_30 : decode cX1_init 30 = .ok (.putfield 22, 3) := by decide +kernel
theorem dX1_init_33 : decode cX1_init 33 = .ok (.aload_n 0, 1) := by decide +kernel
theorem dX1_init_34 : decode cX1_init 34 = .ok (.bipush 61, 2) := by decide +kernel
theorem dX1_init_36 : decode cX1_init 36 = .ok (.newarray .int, 2) := by decide +kernel
theorem dX1_init_38 : decode cX1_init 38 = .ok (.putfield 25, 3) := by decide +kernel
theorem dX1_init_41 : decode cX1_init 41 = .ok (.aload_n 0, 1) := by decide +kernel
theorem dX1_init_42 : decode cX1_init 42 = .ok (.bipush 60, 2) := by decide +kernel
theorem dX1_init_44 : decode cX1_init 44 = .ok (.putfield 28, 3) := by decide +kernel
theorem dX1_init_47 : decode cX1_init 47 = .ok (.return_, 1) := by decide +kernel
theorem dX1_reckon_0 : decode cX1_reckon 0 = .ok (.aload_n 0, 1) := by decide +kernel
theorem dX1_reckon_1 : decode cX1_reckon 1 = .ok (.iload 4, 2) := by decide +kernel
theorem dX1_reckon_3 : decode cX1_reckon 3 = .ok (.ifCond .ne 8, 3) := by decide +kernel
theorem dX1_reckon_6 : decode cX1_reckon 6 = .ok (.bipush 60, 2) := by decide +kernel
theorem dX1_reckon_8 : decode cX1_reckon 8 = .ok (.goto 5, 3) := by decide +kernel
theorem dX1_reckon_11 : decode cX1_reckon 11 = .ok (.iload 4, 2) := by decide +kernel
theorem dX1_reckon_13 : decode cX1_reckon 13 = .ok (.putfield 28, 3) := by decide +kernel
theorem dX1_reckon_16 : decode cX1_reckon 16 = .ok (.aload_n 1, 1) := by decide +kernel
theorem dX1_reckon_17 : decode cX1_reckon 17 = .ok (.iload_n 2, 1) := by decide +kernel
theorem dX1_reckon_18 : decode cX1_reckon 18 = .ok (.iload_n 3, 1) := by decide +kernel
theorem dX1_reckon_19 : decode cX1_reckon 19 = .ok (.iconst 1, 1) := by decide +kernel
theorem dX1_reckon_20 : decode cX1_reckon 20 = .ok (.iload_n 2, 1) := by decide +kernel
theorem dX1_reckon_21 : decode cX1_reckon 21 = .ok (.ishl, 1) := by decide +kernel
theorem dX1_reckon_22 : decode cX1_reckon 22 = .ok (.ior, 1) := by decide +kernel
theorem dX1_reckon_23 : decode cX1_reckon 23 = .ok (.aload_n 0, 1) := by decide +kernel
theorem dX1_reckon_24 : decode cX1_reckon 24 = .ok (.getfield 22, 3) := by decide +kernel
theorem dX1_reckon_27 : decode cX1_reckon 27 = .ok (.invokestatic 32, 3) := by decide +kernel
theorem dX1_reckon_30 : decode cX1_reckon 30 = .ok (.aload_n 1, 1) := by decide +kernel
theorem dX1_reckon_31 : decode cX1_reckon 31 = .ok (.iload_n 2, 1) := by decide +kernel
theorem dX1_reckon_32 : decode cX1_reckon 32 = .ok (.iload_n 3, 1) := by decide +kernel
theorem dX1_reckon_33 : decode cX1_reckon 33 = .ok (.iconst 1, 1) := by decide +kernel
theorem dX1_reckon_34 : decode cX1_reckon 34 = .ok (.iload_n 2, 1) := by decide +kernel
theorem dX1_reckon_35 : decode cX1_reckon 35 = .ok (.ishl, 1) := by decide +kernel
theorem dX1_reckon_36 : decode cX1_reckon 36 = .ok (.iconst (-1), 1) := by decide +kernel
theorem dX1_reckon_37 : decode cX1_reckon 37 = .ok (.ixor, 1) := by decide +kernel
theorem dX1_reckon_38 : decode cX1_reckon 38 = .ok (.iand, 1) := by decide +kernel
theorem dX1_reckon_39 : decode cX1_reckon 39 = .ok (.aload_n 0, 1) := by decide +kernel
theorem dX1_reckon_40 : decode cX1_reckon 40 = .ok (.getfield 25, 3) := by decide +kernel
theorem dX1_reckon_43 : decode cX1_reckon 43 = .ok (.invokestatic 32, 3) := by decide +kernel
theorem dX1_reckon_46 : decode cX1_reckon 46 = .ok (.aload_n 0, 1) := by decide +kernel
theorem dX1_reckon_47 : decode cX1_reckon 47 = .ok (.getfield 9, 3) := by decide +kernel
theorem dX1_reckon_50 : decode cX1_reckon 50 = .ok (.bipush 60, 2) := by decide +kernel
theorem dX1_reckon_52 : decode cX1_reckon 52 = .ok (.iconst 0, 1) := by decide +kernel
theorem dX1_reckon_53 : decode cX1_reckon 53 = .ok (.iastore, 1) := by decide +kernel
theorem dX1_reckon_54 : decode cX1_reckon 54 = .ok (.bipush 59, 2) := by decide +kernel
theorem dX1_reckon_56 : decode cX1_reckon 56 = .ok (.istore 5, 2) := by decide +kernel
theorem dX1_reckon_58 : decode cX1_reckon 58 = .ok (.iload 5, 2) := by decide +kernel
theorem dX1_reckon_60 : decode cX1_reckon 60 = .ok (.ifCond .lt 51, 3) := by decide +kernel
theorem dX1_reckon_63 : decode cX1_reckon 63 = .ok (.aload_n 0, 1) := by decide +kernel
theorem dX1_reckon_64 : decode cX1_reckon 64 = .ok (.getfield 9, 3) := by decide +kernel
theorem dX1_reckon_67 : decode cX1_reckon 67 = .ok (.iload 5, 2) := by decide +kernel
theorem dX1_reckon_69 : decode cX1_reckon 69 = .ok (.aload_n 0, 1) := by decide +kernel
theorem dX1_reckon_70 : decode cX1_reckon 70 = .ok (.getfield 9, 3) := by decide +kernel
theorem dX1_reckon_73 : decode cX1_reckon 73 = .ok (.iload 5, 2) := by decide +kernel
theorem dX1_reckon_75 : decode cX1_reckon 75 = .ok (.iconst 1, 1) := by decide +kernel
theorem dX1_reckon_76 : decode cX1_reckon 76 = .ok (.iadd, 1) := by decide +kernel
theorem dX1_reckon_77 : decode cX1_reckon 77 = .ok (.iaload, 1) := by decide +kernel
theorem dX1_reckon_78 : decode cX1_reckon 78 = .ok (.aload_n 0, 1) := by decide +kernel
theorem dX1_reckon_79 : decode cX1_reckon 79 = .ok (.aload_n 0, 1) := by decide +kernel
theorem dX1_reckon_80 : decode cX1_reckon 80 = .ok (.getfield 22, 3) := by decide +kernel
theorem dX1_reckon_83 : decode cX1_reckon 83 = .ok (.iload 5, 2) := by decide +kernel
theorem dX1_reckon_85 : decode cX1_reckon 85 = .ok (.invokevirtual 36, 3) := by decide +kernel
theorem dX1_reckon_88 : decode cX1_reckon 88 = .ok (.aload_n 0, 1) := by decide +kernel
theorem dX1_reckon_89 : decode cX1_reckon 89 = .ok (.aload_n 0, 1) := by decide +kernel
theorem dX1_reckon_90 : decode cX1_reckon 90 = .ok (.getfield 25, 3) := by decide +kernel
theorem dX1_reckon_93 : decode cX1_reckon 93 = .ok (.iload 5, 2) := by decide +kernel
theorem dX1_reckon_95 : decode cX1_reckon 95 = .ok (.invokevirtual 36, 3) := by decide +kernel
theorem dX1_reckon_98 : decode cX1_reckon 98 = .ok (.invokestatic 40, 3) := by decide +kernel
theorem dX1_reckon_101 : decode cX1_reckon 101 = .ok (.invokestatic 40, 3) := by decide +kernel
theorem dX1_reckon_104 : decode cX1_reckon 104 = .ok (.iastore, 1) := by decide +kernel
theorem dX1_reckon_105 : decode cX1_reckon 105 = .ok (.iinc 5 (-1), 3) := by decide +kernel
theorem dX1_reckon_108 : decode cX1_reckon 108 = .ok (.goto (-50), 3) := by decide +kernel
theorem dX1_reckon_111 : decode cX1_reckon 111 = .ok (.return_, 1) := by decide +kernel
theorem dX1_addUp_0 : decode cX1_addUp 0 = .ok (.aload_n 3, 1) := by decide +kernel
theorem dX1_addUp_1 : decode cX1_addUp 1 = .ok (.iconst 0, 1) := by decide +kernel
theorem dX1_addUp_2 : decode cX1_addUp 2 = .ok (.invokestatic 46, 3) := by decide +kernel
theorem dX1_addUp_5 : decode cX1_addUp 5 = .ok (.iconst 0, 1) := by decide +kernel
theorem dX1_addUp_6 : decode cX1_addUp 6 = .ok (.istore 4, 2) := by decide +kernel
theorem dX1_addUp_8 : decode cX1_addUp 8 = .ok (.iload 4, 2) := by decide +kernel
theorem dX1_addUp_10 : decode cX1_addUp 10 = .ok (.aload_n 0, 1) := by decide +kernel
theorem dX1_addUp_11 : decode cX1_addUp 11 = .ok (.getfield 52, 3) := by decide +kernel
theorem dX1_addUp_14 : decode cX1_addUp 14 = .ok (.if_icmp .ge 40, 3) := by decide +kernel
theorem dX1_addUp_17 : decode cX1_addUp 17 = .ok (.aload_n 0, 1) := by decide +kernel
theorem dX1_addUp_18 : decode cX1_addUp 18 = .ok (.iload 4, 2) := by decide +kernel
theorem dX1_addUp_20 : decode cX1_addUp 20 = .ok (.iload_n 2, 1) := by decide +kernel
theorem dX1_addUp_21 : decode cX1_addUp 21 = .ok (.invokevirtual 57, 3) := by decide +kernel
theorem dX1_addUp_24 : decode cX1_addUp 24 = .ok (.ifCond .eq 24, 3) := by decide +kernel
theorem dX1_addUp_27 : decode cX1_addUp 27 = .ok (.aload_n 3, 1) := by decide +kernel
theorem dX1_addUp_28 : decode cX1_addUp 28 = .ok (.aload_n 0, 1) := by decide +kernel
theorem dX1_addUp_29 : decode cX1_addUp 29 = .ok (.getfield 61, 3) := by decide +kernel
theorem dX1_addUp_32 : decode cX1_addUp 32 = .ok (.iload 4, 2) := by decide +kernel
theorem dX1_addUp_34 : decode cX1_addUp 34 = .ok (.iaload, 1) := by decide +kernel
theorem dX1_addUp_35 : decode cX1_addUp 35 = .ok (.iconst 1, 1) := by decide +kernel
theorem dX1_addUp_36 : decode cX1_addUp 36 = .ok (.iadd, 1) := by decide +kernel
theorem dX1_addUp_37 : decode cX1_addUp 37 = .ok (.dup2, 1) := by decide +kernel
theorem dX1_addUp_38 : decode cX1_addUp 38 = .ok (.iaload, 1) := by decide +kernel
theorem dX1_addUp_39 : decode cX1_addUp 39 = .ok (.aload_n 0, 1) := by decide +kernel
theorem dX1_addUp_40 : decode cX1_addUp 40 = .ok (.iload 4, 2) := by decide +kernel
theorem dX1_addUp_42 : decode cX1_addUp 42 = .ok (.iload_n 1, 1) := by decide +kernel
theorem dX1_addUp_43 : decode cX1_addUp 43 = .ok (.invokevirtual 64, 3) := by decide +kernel
theorem dX1_addUp_46 : decode cX1_addUp 46 = .ok (.iadd, 1) := by decide +kernel
theorem dX1_addUp_47 : decode cX1_addUp 47 = .ok (.iastore, 1) := by decide +kernel
theorem dX1_addUp_48 : decode cX1_addUp 48 = .ok (.iinc 4 1, 3) := by decide +kernel
theorem dX1_addUp_51 : decode cX1_addUp 51 = .ok (.goto (-43), 3) := by decide +kernel
theorem dX1_addUp_54 : decode cX1_addUp 54 = .ok (.iconst 0, 1) := by decide +kernel
theorem dX1_addUp_55 : decode cX1_addUp 55 = .ok (.istore 4, 2) := by decide +kernel
theorem dX1_addUp_57 : decode cX1_addUp 57 = .ok (.iload 4, 2) := by decide +kernel
theorem dX1_addUp_59 : decode cX1_addUp 59 = .ok (.bipush 60, 2) := by decide +kernel
theorem dX1_addUp_61 : decode cX1_addUp 61 = .ok (.if_icmp .ge 22, 3) := by decide +kernel
theorem dX1_addUp_64 : decode cX1_addUp 64 = .ok (.aload_n 3, 1) := by decide +kernel
theorem dX1_addUp_65 : decode cX1_addUp 65 = .ok (.iload 4, 2) := by decide +kernel
theorem dX1_addUp_67 : decode cX1_addUp 67 = .ok (.iconst 1, 1) := by decide +kernel
theorem dX1_addUp_68 : decode cX1_addUp 68 = .ok (.iadd, 1) := by decide +kernel
theorem dX1_addUp_69 : decode cX1_addUp 69 = .ok (.dup2, 1) := by decide +kernel
theorem dX1_addUp_70 : decode cX1_addUp 70 = .ok (.iaload, 1) := by decide +kernel
theorem dX1_addUp_71 : decode cX1_addUp 71 = .ok (.aload_n 3, 1) := by decide +kernel
theorem dX1_addUp_72 : decode cX1_addUp 72 = .ok (.iload 4, 2) := by decide +kernel
theorem dX1_addUp_74 : decode cX1_addUp 74 = .ok (.iaload, 1) := by decide +kernel
theorem dX1_addUp_75 : decode cX1_addUp 75 = .ok (.iadd, 1) := by decide +kernel
theorem dX1_addUp_76 : decode cX1_addUp 76 = .ok (.iastore, 1) := by decide +kernel
theorem dX1_addUp_77 : decode cX1_addUp 77 = .ok (.iinc 4 1, 3) := by decide +kernel
theorem dX1_addUp_80 : decode cX1_addUp 80 = .ok (.goto (-23), 3) := by decide +kernel
theorem dX1_addUp_83 : decode cX1_addUp 83 = .ok (.return_, 1) := by decide +kernel
theorem dX1_byBinding_0 : decode cX1_byBinding 0 = .ok (.aload_n 0, 1) := by decide +kernel
theorem dX1_byBinding_1 : decode cX1_byBinding 1 = .ok (.iload_n 2, 1) := by decide +kernel
theorem dX1_byBinding_2 : decode cX1_byBinding 2 = .ok (.invokevirtual 67, 3) := by decide +kernel
theorem dX1_byBinding_5 : decode cX1_byBinding 5 = .ok (.istore_n 3, 1) := by decide +kernel
theorem dX1_byBinding_6 : decode cX1_byBinding 6 = .ok (.aload_n 1, 1) := by decide +kernel
theorem dX1_byBinding_7 : decode cX1_byBinding 7 = .ok (.iload_n 3, 1) := by decide +kernel
theorem dX1_byBinding_8 : decode cX1_byBinding 8 = .ok (.iaload, 1) := by decide +kernel
theorem dX1_byBinding_9 : decode cX1_byBinding 9 = .ok (.aload_n 1, 1) := by decide +kernel
theorem dX1_byBinding_10 : decode cX1_byBinding 10 = .ok (.iload_n 2, 1) := by decide +kernel
theorem dX1_byBinding_11 : decode cX1_byBinding 11 = .ok (.iaload, 1) := by decide +kernel
theorem dX1_byBinding_12 : decode cX1_byBinding 12 = .ok (.isub, 1) := by decide +kernel
theorem dX1_byBinding_13 : decode cX1_byBinding 13 = .ok (.aload_n 0, 1) := by decide +kernel
theorem dX1_byBinding_14 : decode cX1_byBinding 14 = .ok (.getfield 9, 3) := by decide +kernel
theorem dX1_byBinding_17 : decode cX1_byBinding 17 = .ok (.iload_n 3, 1) := by decide +kernel
theorem dX1_byBinding_18 : decode cX1_byBinding 18 = .ok (.iaload, 1) := by decide +kernel
theorem dX1_byBinding_19 : decode cX1_byBinding 19 = .ok (.iadd, 1) := by decide +kernel
theorem dX1_byBinding_20 : decode cX1_byBinding 20 = .ok (.ireturn, 1) := by decide +kernel
theorem dX1_freeAgain_0 : decode cX1_freeAgain 0 = .ok (.bipush 60, 2) := by decide +kernel
theorem dX1_freeAgain_2 : decode cX1_freeAgain 2 = .ok (.iload_n 1, 1) := by decide +kernel
theorem dX1_freeAgain_3 : decode cX1_freeAgain 3 = .ok (.aload_n 0, 1) := by decide +kernel
theorem dX1_freeAgain_4 : decode cX1_freeAgain 4 = .ok (.getfield 28, 3) := by decide +kernel
theorem dX1_freeAgain_7 : decode cX1_freeAgain 7 = .ok (.iadd, 1) := by decide +kernel
theorem dX1_freeAgain_8 : decode cX1_freeAgain 8 = .ok (.invokestatic 71, 3) := by decide +kernel
theorem dX1_freeAgain_11 : decode cX1_freeAgain 11 = .ok (.ireturn, 1) := by decide +kernel
theorem dX1_keepRow_0 : decode cX1_keepRow 0 = .ok (.aload_n 0, 1) := by decide +kernel
theorem dX1_keepRow_1 : decode cX1_keepRow 1 = .ok (.iconst 1, 1) := by decide +kernel
theorem dX1_keepRow_2 : decode cX1_keepRow 2 = .ok (.putfield 18, 3) := by decide +kernel
theorem dX1_keepRow_5 : decode cX1_keepRow 5 = .ok (.iconst 0, 1) := by decide +kernel
theorem dX1_keepRow_6 : decode cX1_keepRow 6 = .ok (.istore_n 1, 1) := by decide +kernel
theorem dX1_keepRow_7 : decode cX1_keepRow 7 = .ok (.iconst 0, 1) := by decide +kernel
theorem dX1_keepRow_8 : decode cX1_keepRow 8 = .ok (.istore_n 2, 1) := by decide +kernel
theorem dX1_keepRow_9 : decode cX1_keepRow 9 = .ok (.aload_n 0, 1) := by decide +kernel
theorem dX1_keepRow_10 : decode cX1_keepRow 10 = .ok (.getfield 22, 3) := by decide +kernel
theorem dX1_keepRow_13 : decode cX1_keepRow 13 = .ok (.astore_n 3, 1) := by decide +kernel
theorem dX1_keepRow_14 : decode cX1_keepRow 14 = .ok (.iconst 0, 1) := by decide +kernel
theorem dX1_keepRow_15 : decode cX1_keepRow 15 = .ok (.istore 4, 2) := by decide +kernel
theorem dX1_keepRow_17 : decode cX1_keepRow 17 = .ok (.iload 4, 2) := by decide +kernel
theorem dX1_keepRow_19 : decode cX1_keepRow 19 = .ok (.bipush 60, 2) := by decide +kernel
theorem dX1_keepRow_21 : decode cX1_keepRow 21 = .ok (.if_icmp .ge 143, 3) := by decide +kernel
theorem dX1_keepRow_24 : decode cX1_keepRow 24 = .ok (.iload 4, 2) := by decide +kernel
theorem dX1_keepRow_26 : decode cX1_keepRow 26 = .ok (.iload_n 1, 1) := by decide +kernel
theorem dX1_keepRow_27 : decode cX1_keepRow 27 = .ok (.if_icmp .ge 31, 3) := by decide +kernel
theorem dX1_keepRow_30 : decode cX1_keepRow 30 = .ok (.aload_n 0, 1) := by decide +kernel
theorem dX1_keepRow_31 : decode cX1_keepRow 31 = .ok (.getfield 15, 3) := by decide +kernel
theorem dX1_keepRow_34 : decode cX1_keepRow 34 = .ok (.iload 4, 2) := by decide +kernel
theorem dX1_keepRow_36 : decode cX1_keepRow 36 = .ok (.aload_n 3, 1) := by decide +kernel
theorem dX1_keepRow_37 : decode cX1_keepRow 37 = .ok (.iload 4, 2) := by decide +kernel
theorem dX1_keepRow_39 : decode cX1_keepRow 39 = .ok (.iconst 1, 1) := by decide +kernel
theorem dX1_keepRow_40 : decode cX1_keepRow 40 = .ok (.iadd, 1) := by decide +kernel
theorem dX1_keepRow_41 : decode cX1_keepRow 41 = .ok (.iaload, 1) := by decide +kernel
theorem dX1_keepRow_42 : decode cX1_keepRow 42 = .ok (.aload_n 3, 1) := by decide +kernel
theorem dX1_keepRow_43 : decode cX1_keepRow 43 = .ok (.iload 4, 2) := by decide +kernel
theorem dX1_keepRow_45 : decode cX1_keepRow 45 = .ok (.iaload, 1) := by decide +kernel
theorem dX1_keepRow_46 : decode cX1_keepRow 46 = .ok (.if_icmp .le 7, 3) := by decide +kernel
theorem dX1_keepRow_49 : decode cX1_keepRow 49 = .ok (.iload_n 2, 1) := by decide +kernel
theorem dX1_keepRow_50 : decode cX1_keepRow 50 = .ok (.goto 4, 3) := by decide +kernel
theorem dX1_keepRow_53 : decode cX1_keepRow 53 = .ok (.iconst 0, 1) := by decide +kernel
theorem dX1_keepRow_54 : decode cX1_keepRow 54 = .ok (.iastore, 1) := by decide +kernel
theorem dX1_keepRow_55 : decode cX1_keepRow 55 = .ok (.goto 103, 3) := by decide +kernel
theorem dX1_keepRow_58 : decode cX1_keepRow 58 = .ok (.aload_n 0, 1) := by decide +kernel
theorem dX1_keepRow_59 : decode cX1_keepRow 59 = .ok (.getfield 9, 3) := by decide +kernel
theorem dX1_keepRow_62 : decode cX1_keepRow 62 = .ok (.iload 4, 2) := by decide +kernel
theorem dX1_keepRow_64 : decode cX1_keepRow 64 = .ok (.iaload, 1) := by decide +kernel
theorem dX1_keepRow_65 : decode cX1_keepRow 65 = .ok (.aload_n 0, 1) := by decide +kernel
theorem dX1_keepRow_66 : decode cX1_keepRow 66 = .ok (.getfield 9, 3) := by decide +kernel
theorem dX1_keepRow_69 : decode cX1_keepRow 69 = .ok (.iload 4, 2) := by decide +kernel
theorem dX1_keepRow_71 : decode cX1_keepRow 71 = .ok (.iconst 1, 1) := by decide +kernel
theorem dX1_keepRow_72 : decode cX1_keepRow 72 = .ok (.iadd, 1) := by decide +kernel
theorem dX1_keepRow_73 : decode cX1_keepRow 73 = .ok (.iaload, 1) := by decide +kernel
theorem dX1_keepRow_74 : decode cX1_keepRow 74 = .ok (.if_icmp .ne 14, 3) := by decide +kernel
theorem dX1_keepRow_77 : decode cX1_keepRow 77 = .ok (.aload_n 0, 1) := by decide +kernel
theorem dX1_keepRow_78 : decode cX1_keepRow 78 = .ok (.getfield 15, 3) := by decide +kernel
theorem dX1_keepRow_81 : decode cX1_keepRow 81 = .ok (.iload 4, 2) := by decide +kernel
theorem dX1_keepRow_83 : decode cX1_keepRow 83 = .ok (.iconst 0, 1) := by decide +kernel
theorem dX1_keepRow_84 : decode cX1_keepRow 84 = .ok (.iastore, 1) := by decide +kernel
theorem dX1_keepRow_85 : decode cX1_keepRow 85 = .ok (.goto 73, 3) := by decide +kernel
theorem dX1_keepRow_88 : decode cX1_keepRow 88 = .ok (.aload_n 0, 1) := by decide +kernel
theorem dX1_keepRow_89 : decode cX1_keepRow 89 = .ok (.getfield 9, 3) := by decide +kernel
theorem dX1_keepRow_92 : decode cX1_keepRow 92 = .ok (.iload 4, 2) := by decide +kernel
theorem dX1_keepRow_94 : decode cX1_keepRow 94 = .ok (.iaload, 1) := by decide +kernel
theorem dX1_keepRow_95 : decode cX1_keepRow 95 = .ok (.aload_n 0, 1) := by decide +kernel
theorem dX1_keepRow_96 : decode cX1_keepRow 96 = .ok (.aload_n 0, 1) := by decide +kernel
theorem dX1_keepRow_97 : decode cX1_keepRow 97 = .ok (.getfield 22, 3) := by decide +kernel
theorem dX1_keepRow_100 : decode cX1_keepRow 100 = .ok (.iload 4, 2) := by decide +kernel
theorem dX1_keepRow_102 : decode cX1_keepRow 102 = .ok (.invokevirtual 36, 3) := by decide +kernel
theorem dX1_keepRow_105 : decode cX1_keepRow 105 = .ok (.if_icmp .ne 7, 3) := by decide +kernel
theorem dX1_keepRow_108 : decode cX1_keepRow 108 = .ok (.iconst 1, 1) := by decide +kernel
theorem dX1_keepRow_109 : decode cX1_keepRow 109 = .ok (.goto 4, 3) := by decide +kernel
theorem dX1_keepRow_112 : decode cX1_keepRow 112 = .ok (.iconst 0, 1) := by decide +kernel
theorem dX1_keepRow_113 : decode cX1_keepRow 113 = .ok (.istore 5, 2) := by decide +kernel
theorem dX1_keepRow_115 : decode cX1_keepRow 115 = .ok (.iload 5, 2) := by decide +kernel
theorem dX1_keepRow_117 : decode cX1_keepRow 117 = .ok (.ifCond .eq 7, 3) := by decide +kernel
theorem dX1_keepRow_120 : decode cX1_keepRow 120 = .ok (.iconst 1, 1) := by decide +kernel
theorem dX1_keepRow_121 : decode cX1_keepRow 121 = .ok (.goto 4, 3) := by decide +kernel
theorem dX1_keepRow_124 : decode cX1_keepRow 124 = .ok (.iconst 2, 1) := by decide +kernel
theorem dX1_keepRow_125 : decode cX1_keepRow 125 = .ok (.istore_n 2, 1) := by decide +kernel
theorem dX1_keepRow_126 : decode cX1_keepRow 126 = .ok (.iload 5, 2) := by decide +kernel
theorem dX1_keepRow_128 : decode cX1_keepRow 128 = .ok (.ifCond .eq 10, 3) := by decide +kernel
theorem dX1_keepRow_131 : decode cX1_keepRow 131 = .ok (.aload_n 0, 1) := by decide +kernel
theorem dX1_keepRow_132 : decode cX1_keepRow 132 = .ok (.getfield 22, 3) := by decide +kernel
theorem dX1_keepRow_135 : decode cX1_keepRow 135 = .ok (.goto 7, 3) := by decide +kernel
theorem dX1_keepRow_138 : decode cX1_keepRow 138 = .ok (.aload_n 0, 1) := by decide +kernel
theorem dX1_keepRow_139 : decode cX1_keepRow 139 = .ok (.getfield 25, 3) := by decide +kernel
theorem dX1_keepRow_142 : decode cX1_keepRow 142 = .ok (.astore_n 3, 1) := by decide +kernel
theorem dX1_keepRow_143 : decode cX1_keepRow 143 = .ok (.aload_n 0, 1) := by decide +kernel
theorem dX1_keepRow_144 : decode cX1_keepRow 144 = .ok (.iload 4, 2) := by decide +kernel
theorem dX1_keepRow_146 : decode cX1_keepRow 146 = .ok (.invokevirtual 67, 3) := by decide +kernel
theorem dX1_keepRow_149 : decode cX1_keepRow 149 = .ok (.istore_n 1, 1) := by decide +kernel
theorem dX1_keepRow_150 : decode cX1_keepRow 150 = .ok (.aload_n 0, 1) := by decide +kernel
theorem dX1_keepRow_151 : decode cX1_keepRow 151 = .ok (.getfield 15, 3) := by decide +kernel
theorem dX1_keepRow_154 : decode cX1_keepRow 154 = .ok (.iload 4, 2) := by decide +kernel
theorem dX1_keepRow_156 : decode cX1_keepRow 156 = .ok (.iload_n 2, 1) := by decide +kernel
theorem dX1_keepRow_157 : decode cX1_keepRow 157 = .ok (.iastore, 1) := by decide +kernel
theorem dX1_keepRow_158 : decode cX1_keepRow 158 = .ok (.iinc 4 1, 3) := by decide +kernel
theorem dX1_keepRow_161 : decode cX1_keepRow 161 = .ok (.goto (-144), 3) := by decide +kernel
theorem dX1_keepRow_164 : decode cX1_keepRow 164 = .ok (.return_, 1) := by decide +kernel
theorem dX2_init_0 : decode cX2_init 0 = .ok (.aload_n 0, 1) := by decide +kernel
theorem dX2_init_1 : decode cX2_init 1 = .ok (.invokespecial 3, 3) := by decide +kernel
theorem dX2_init_4 : decode cX2_init 4 = .ok (.aload_n 0, 1) := by decide +kernel
theorem dX2_init_5 : decode cX2_init 5 = .ok (.bipush 30, 2) := by decide +kernel
theorem dX2_init_7 : decode cX2_init 7 = .ok (.newarray .int, 2) := by decide +kernel
theorem dX2_init_9 : decode cX2_init 9 = .ok (.putfield 9, 3) := by decide +kernel
theorem dX2_init_12 : decode cX2_init 12 = .ok (.aload_n 0, 1) := by decide +kernel
theorem dX2_init_13 : decode cX2_init 13 = .ok (.bipush 30, 2) := by decide +kernel
theorem dX2_init_15 : decode cX2_init 15 = .ok (.newarray .int, 2) := by decide +kernel
theorem dX2_init_17 : decode cX2_init 17 = .ok (.putfield 15, 3) := by decide +kernel
theorem dX2_init_20 : decode cX2_init 20 = .ok (.aload_n 0, 1) := by decide +kernel
theorem dX2_init_21 : decode cX2_init 21 = .ok (.bipush 30, 2) := by decide +kernel
theorem dX2_init_23 : decode cX2_init 23 = .ok (.newarray .int, 2) := by decide +kernel
theorem dX2_init_25 : decode cX2_init 25 = .ok (.putfield 18, 3) := by decide +kernel
theorem dX2_init_28 : decode cX2_init 28 = .ok (.aload_n 0, 1) := by decide +kernel
theorem dX2_init_29 : decode cX2_init 29 = .ok (.bipush 10, 2) := by decide +kernel
theorem dX2_init_31 : decode cX2_init 31 = .ok (.newarray .int, 2) := by decide +kernel
theorem dX2_init_33 : decode cX2_init 33 = .ok (.putfield 21, 3) := by decide +kernel
theorem dX2_init_36 : decode cX2_init 36 = .ok (.aload_n 0, 1) := by decide +kernel
theorem dX2_init_37 : decode cX2_init 37 = .ok (.bipush 10, 2) := by decide +kernel
theorem dX2_init_39 : decode cX2_init 39 = .ok (.newarray .int, 2) := by decide +kernel
theorem dX2_init_41 : decode cX2_init 41 = .ok (.putfield 24, 3) := by decide +kernel
theorem dX2_init_44 : decode cX2_init 44 = .ok (.aload_n 0, 1) := by decide +kernel
theorem dX2_init_45 : decode cX2_init 45 = .ok (.bipush 10, 2) := by decide +kernel
theorem dX2_init_47 : decode cX2_init 47 = .ok (.newarray .int, 2) := by decide +kernel
theorem dX2_init_49 : decode cX2_init 49 = .ok (.putfield 27, 3) := by decide +kernel
theorem dX2_init_52 : decode cX2_init 52 = .ok (.aload_n 0, 1) := by decide +kernel
theorem dX2_init_53 : decode cX2_init 53 = .ok (.bipush 10, 2) := by decide +kernel
theorem dX2_init_55 : decode cX2_init 55 = .ok (.newarray .int, 2) := by decide +kernel
theorem dX2_init_57 : decode cX2_init 57 = .ok (.putfield 30, 3) := by decide +kernel
theorem dX2_init_60 : decode cX2_init 60 = .ok (.aload_n 0, 1) := by decide +kernel
theorem dX2_init_61 : decode cX2_init 61 = .ok (.iconst 0, 1) := by decide +kernel
theorem dX2_init_62 : decode cX2_init 62 = .ok (.putfield 33, 3) := by decide +kernel
theorem dX2_init_65 : decode cX2_init 65 = .ok (.aload_n 0, 1) := by decide +kernel
theorem dX2_init_66 : decode cX2_init 66 = .ok (.iconst 0, 1) := by decide +kernel
theorem dX2_init_67 : decode cX2_init 67 = .ok (.putfield 37, 3) := by decide +kernel
theorem dX2_init_70 : decode cX2_init 70 = .ok (.return_, 1) := by decide +kernel
theorem dX2_gainOf_0 : decode cX2_gainOf 0 = .ok (.aload_n 1, 1) := by decide +kernel
theorem dX2_gainOf_1 : decode cX2_gainOf 1 = .ok (.getfield 40, 3) := by decide +kernel
theorem dX2_gainOf_4 : decode cX2_gainOf 4 = .ok (.getfield 46, 3) := by decide +kernel
theorem dX2_gainOf_7 : decode cX2_gainOf 7 = .ok (.iload_n 2, 1) := by decide +kernel
theorem dX2_gainOf_8 : decode cX2_gainOf 8 = .ok (.iaload, 1) := by decide +kernel
theorem dX2_gainOf_9 : decode cX2_gainOf 9 = .ok (.iconst (-1), 1) := by decide +kernel
theorem dX2_gainOf_10 : decode cX2_gainOf 10 = .ok (.if_icmp .ne 20, 3) := by decide +kernel
theorem dX2_gainOf_13 : decode cX2_gainOf 13 = .ok (.aload_n 1, 1) := by decide +kernel
theorem dX2_gainOf_14 : decode cX2_gainOf 14 = .ok (.getfield 40, 3) := by decide +kernel
theorem dX2_gainOf_17 : decode cX2_gainOf 17 = .ok (.getfield 46, 3) := by decide +kernel
theorem dX2_gainOf_20 : decode cX2_gainOf 20 = .ok (.iload_n 2, 1) := by decide +kernel
theorem dX2_gainOf_21 : decode cX2_gainOf 21 = .ok (.aload_n 0, 1) := by decide +kernel
theorem dX2_gainOf_22 : decode cX2_gainOf 22 = .ok (.aload_n 1, 1) := by decide +kernel
theorem dX2_gainOf_23 : decode cX2_gainOf 23 = .ok (.iload_n 2, 1) := by decide +kernel
theorem dX2_gainOf_24 : decode cX2_gainOf 24 = .ok (.iconst (-1), 1) := by decide +kernel
theorem dX2_gainOf_25 : decode cX2_gainOf 25 = .ok (.iconst 0, 1) := by decide +kernel
theorem dX2_gainOf_26 : decode cX2_gainOf 26 = .ok (.invokevirtual 51, 3) := by decide +kernel
theorem dX2_gainOf_29 : decode cX2_gainOf 29 = .ok (.iastore, 1) := by decide +kernel
theorem dX2_gainOf_30 : decode cX2_gainOf 30 = .ok (.aload_n 1, 1) := by decide +kernel
theorem dX2_gainOf_31 : decode cX2_gainOf 31 = .ok (.getfield 40, 3) := by decide +kernel
theorem dX2_gainOf_34 : decode cX2_gainOf 34 = .ok (.getfield 46, 3) := by decide +kernel
theorem dX2_gainOf_37 : decode cX2_gainOf 37 = .ok (.iload_n 2, 1) := by decide +kernel
theorem dX2_gainOf_38 : decode cX2_gainOf 38 = .ok (.iaload, 1) := by decide +kernel
theorem dX2_gainOf_39 : decode cX2_gainOf 39 = .ok (.ireturn, 1) := by decide +kernel
theorem dX2_gainWithLimit_0 : decode cX2_gainWithLimit 0 = .ok (.iconst 0, 1) := by decide +kernel
theorem dX2_gainWithLimit_1 : decode cX2_gainWithLimit 1 = .ok (.istore 5, 2) := by decide +kernel
theorem dX2_gainWithLimit_3 : decode cX2_gainWithLimit 3 = .ok (.iconst 0, 1) := by decide +kernel
theorem dX2_gainWithLimit_4 : decode cX2_gainWithLimit 4 = .ok (.istore 6, 2) := by decide +kernel
theorem dX2_gainWithLimit_6 : decode cX2_gainWithLimit 6 = .ok (.iconst 1, 1) := by decide +kernel
theorem dX2_gainWithLimit_7 : decode cX2_gainWithLimit 7 = .ok (.istore 7, 2) := by decide +kernel
theorem dX2_gainWithLimit_9 : decode cX2_gainWithLimit 9 = .ok (.iload 7, 2) := by decide +kernel
theorem dX2_gainWithLimit_11 : decode cX2_gainWithLimit 11 = .ok (.aload_n 1, 1) := by decide +kernel
theorem dX2_gainWithLimit_12 : decode cX2_gainWithLimit 12 = .ok (.getfield 55, 3) := by decide +kernel
theorem dX2_gainWithLimit_15 : decode cX2_gainWithLimit 15 = .ok (.if_icmp .gt 101, 3) := by decide +kernel
theorem dX2_gainWithLimit_18 : decode cX2_gainWithLimit 18 = .ok (.iload 7, 2) := by decide +kernel
theorem dX2_gainWithLimit_20 : decode cX2_gainWithLimit 20 = .ok (.aload_n 1, 1) := by decide +kernel
theorem dX2_gainWithLimit_21 : decode cX2_gainWithLimit 21 = .ok (.getfield 55, 3) := by decide +kernel
theorem dX2_gainWithLimit_24 : decode cX2_gainWithLimit 24 = .ok (.if_icmp .eq 30, 3) := by decide +kernel
theorem dX2_gainWithLimit_27 : decode cX2_gainWithLimit 27 = .ok (.aload_n 1, 1) := by decide +kernel
theorem dX2_gainWithLimit_28 : decode cX2_gainWithLimit 28 = .ok (.getfield 58, 3) := by decide +kernel
theorem dX2_gainWithLimit_31 : decode cX2_gainWithLimit 31 = .ok (.aload_n 1, 1) := by decide +kernel
theorem dX2_gainWithLimit_32 : decode cX2_gainWithLimit 32 = .ok (.getfield 61, 3) := by decide +kernel
theorem dX2_gainWithLimit_35 : decode cX2_gainWithLimit 35 = .ok (.iload 7, 2) := by decide +kernel
theorem dX2_gainWithLimit_37 : decode cX2_gainWithLimit 37 = .ok (.iaload, 1) := by decide +kernel
theorem dX2_gainWithLimit_38 : decode cX2_gainWithLimit 38 = .ok (.iaload, 1) := by decide +kernel
theorem dX2_gainWithLimit_39 : decode cX2_gainWithLimit 39 = .ok (.aload_n 1, 1) := by decide +kernel
theorem dX2_gainWithLimit_40 : decode cX2_gainWithLimit 40 = .ok (.getfield 58, 3) := by decide +kernel
theorem dX2_gainWithLimit_43 : decode cX2_gainWithLimit 43 = .ok (.aload_n 1, 1) := by decide +kernel
theorem dX2_gainWithLimit_44 : decode cX2_gainWithLimit 44 = .ok (.getfield 61, 3) := by decide +kernel
theorem dX2_gainWithLimit_47 : decode cX2_gainWithLimit 47 = .ok (.iload 6, 2) := by decide +kernel
theorem dX2_gainWithLimit_49 : decode cX2_gainWithLimit 49 = .ok (.iaload, 1) := by decide +kernel
theorem dX2_gainWithLimit_50 : decode cX2_gainWithLimit 50 = .ok (.iaload, 1) := by decide +kernel
theorem dX2_gainWithLimit_51 : decode cX2_gainWithLimit 51 = .ok (.if_icmp .eq 59, 3) := by decide +kernel
theorem dX2_gainWithLimit_54 : decode cX2_gainWithLimit 54 = .ok (.aload_n 1, 1) := by decide +kernel
theorem dX2_gainWithLimit_55 : decode cX2_gainWithLimit 55 = .ok (.getfield 64, 3) := by decide +kernel
theorem dX2_gainWithLimit_58 : decode cX2_gainWithLimit 58 = .ok (.iconst 0, 1) := by decide +kernel
theorem dX2_gainWithLimit_59 : decode cX2_gainWithLimit 59 = .ok (.aload_n 0, 1) := by decide +kernel
theorem dX2_gainWithLimit_60 : decode cX2_gainWithLimit 60 = .ok (.getfield 24, 3) := by decide +kernel
theorem dX2_gainWithLimit_63 : decode cX2_gainWithLimit 63 = .ok (.iconst 0, 1) := by decide +kernel
theorem dX2_gainWithLimit_64 : decode cX2_gainWithLimit 64 = .ok (.bipush 10, 2) := by decide +kernel
theorem dX2_gainWithLimit_66 : decode cX2_gainWithLimit 66 = .ok (.invokestatic 67, 3) := by decide +kernel
theorem dX2_gainWithLimit_69 : decode cX2_gainWithLimit 69 = .ok (.iload_n 3, 1) := by decide +kernel
theorem dX2_gainWithLimit_70 : decode cX2_gainWithLimit 70 = .ok (.iconst (-1), 1) := by decide +kernel
theorem dX2_gainWithLimit_71 : decode cX2_gainWithLimit 71 = .ok (.if_icmp .eq 11, 3) := by decide +kernel
theorem dX2_gainWithLimit_74 : decode cX2_gainWithLimit 74 = .ok (.aload_n 0, 1) := by decide +kernel
theorem dX2_gainWithLimit_75 : decode cX2_gainWithLimit 75 = .ok (.getfield 24, 3) := by decide +kernel
theorem dX2_gainWithLimit_78 : decode cX2_gainWithLimit 78 = .ok (.iload_n 3, 1) := by decide +kernel
theorem dX2_gainWithLimit_79 : decode cX2_gainWithLimit 79 = .ok (.iload 4, 2) := by decide +kernel
theorem dX2_gainWithLimit_81 : decode cX2_gainWithLimit 81 = .ok (.iastore, 1) := by decide +kernel
theorem dX2_gainWithLimit_82 : decode cX2_gainWithLimit 82 = .ok (.aload_n 0, 1) := by decide +kernel
theorem dX2_gainWithLimit_83 : decode cX2_gainWithLimit 83 = .ok (.aload_n 1, 1) := by decide +kernel
theorem dX2_gainWithLimit_84 : decode cX2_gainWithLimit 84 = .ok (.iload_n 2, 1) := by decide +kernel
theorem dX2_gainWithLimit_85 : decode cX2_gainWithLimit 85 = .ok (.iload 6, 2) := by decide +kernel
theorem dX2_gainWithLimit_87 : decode cX2_gainWithLimit 87 = .ok (.iload 7, 2) := by decide +kernel
theorem dX2_gainWithLimit_89 : decode cX2_gainWithLimit 89 = .ok (.invokevirtual 73, 3) := by decide +kernel
theorem dX2_gainWithLimit_92 : decode cX2_gainWithLimit 92 = .ok (.iload 5, 2) := by decide +kernel
theorem dX2_gainWithLimit_94 : decode cX2_gainWithLimit 94 = .ok (.aload_n 0, 1) := by decide +kernel
theorem dX2_gainWithLimit_95 : decode cX2_gainWithLimit 95 = .ok (.aload_n 1, 1) := by decide +kernel
theorem dX2_gainWithLimit_96 : decode cX2_gainWithLimit 96 = .ok (.getfield 77, 3) := by decide +kernel
theorem dX2_gainWithLimit_99 : decode cX2_gainWithLimit 99 = .ok (.iload_n 2, 1) := by decide +kernel
theorem dX2_gainWithLimit_100 : decode cX2_gainWithLimit 100 = .ok (.invokevirtual 80, 3) := by decide +kernel
theorem dX2_gainWithLimit_103 : decode cX2_gainWithLimit 103 = .ok (.iadd, 1) := by decide +kernel
theorem dX2_gainWithLimit_104 : decode cX2_gainWithLimit 104 = .ok (.istore 5, 2) := by decide +kernel
theorem dX2_gainWithLimit_106 : decode cX2_gainWithLimit 106 = .ok (.iload 7, 2) := by decide +kernel
theorem dX2_gainWithLimit_108 : decode cX2_gainWithLimit 108 = .ok (.istore 6, 2) := by decide +kernel
theorem dX2_gainWithLimit_110 : decode cX2_gainWithLimit 110 = .ok (.iinc 7 1, 3) := by decide +kernel
theorem dX2_gainWithLimit_113 : decode cX2_gainWithLimit 113 = .ok (.goto (-104), 3) := by decide +kernel
theorem dX2_gainWithLimit_116 : decode cX2_gainWithLimit 116 = .ok (.iload 5, 2) := by decide +kernel
theorem dX2_gainWithLimit_118 : decode cX2_gainWithLimit 118 = .ok (.ireturn, 1) := by decide +kernel
theorem dX2_gather_0 : decode cX2_gather 0 = .ok (.aload_n 0, 1) := by decide +kernel
theorem dX2_gather_1 : decode cX2_gather 1 = .ok (.iconst 0, 1) := by decide +kernel
theorem dX2_gather_2 : decode cX2_gather 2 = .ok (.putfield 33, 3) := by decide +kernel
theorem dX2_gather_5 : decode cX2_gather 5 = .ok (.aload_n 0, 1) := by decide +kernel
theorem dX2_gather_6 : decode cX2_gather 6 = .ok (.getfield 21, 3) := by decide +kernel
theorem dX2_gather_9 : decode cX2_gather 9 = .ok (.iconst 0, 1) := by decide +kernel
theorem dX2_gather_10 : decode cX2_gather 10 = .ok (.invokestatic 84, 3) := by decide +kernel
theorem dX2_gather_13 : decode cX2_gather 13 = .ok (.iload_n 3, 1) := by decide +kernel
theorem dX2_gather_14 : decode cX2_gather 14 = .ok (.istore 5, 2) := by decide +kernel
theorem dX2_gather_16 : decode cX2_gather 16 = .ok (.iload 5, 2) := by decide +kernel
theorem dX2_gather_18 : decode cX2_gather 18 = .ok (.iload 4, 2) := by decide +kernel
theorem dX2_gather_20 : decode cX2_gather 20 = .ok (.if_icmp .ge 169, 3) := by decide +kernel
theorem dX2_gather_23 : decode cX2_gather 23 = .ok (.aload_n 1, 1) := by decide +kernel
theorem dX2_gather_24 : decode cX2_gather 24 = .ok (.getfield 61, 3) := by decide +kernel
theorem dX2_gather_27 : decode cX2_gather 27 = .ok (.iload 5, 2) := by decide +kernel
theorem dX2_gather_29 : decode cX2_gather 29 = .ok (.iaload, 1) := by decide +kernel
theorem dX2_gather_30 : decode cX2_gather 30 = .ok (.istore 6, 2) := by decide +kernel
theorem dX2_gather_32 : decode cX2_gather 32 = .ok (.aload_n 1, 1) := by decide +kernel
theorem dX2_gather_33 : decode cX2_gather 33 = .ok (.iload 6, 2) := by decide +kernel
theorem dX2_gather_35 : decode cX2_gather 35 = .ok (.iload_n 2, 1) := by decide +kernel
theorem dX2_gather_36 : decode cX2_gather 36 = .ok (.invokevirtual 90, 3) := by decide +kernel
theorem dX2_gather_39 : decode cX2_gather 39 = .ok (.ifCond .eq 144, 3) := by decide +kernel
theorem dX2_gather_42 : decode cX2_gather 42 = .ok (.iload_n 2, 1) := by decide +kernel
theorem dX2_gather_43 : decode cX2_gather 43 = .ok (.aload_n 1, 1) := by decide +kernel
theorem dX2_gather_44 : decode cX2_gather 44 = .ok (.getfield 94, 3) := by decide +kernel
theorem dX2_gather_47 : decode cX2_gather 47 = .ok (.iload 6, 2) := by decide +kernel
theorem dX2_gather_49 : decode cX2_gather 49 = .ok (.iaload, 1) := by decide +kernel
theorem dX2_gather_50 : decode cX2_gather 50 = .ok (.ishr, 1) := by decide +kernel
theorem dX2_gather_51 : decode cX2_gather 51 = .ok (.iconst 1, 1) := by decide +kernel
theorem dX2_gather_52 : decode cX2_gather 52 = .ok (.iand, 1) := by decide +kernel
theorem dX2_gather_53 : decode cX2_gather 53 = .ok (.iconst 1, 1) := by decide +kernel
theorem dX2_gather_54 : decode cX2_gather 54 = .ok (.if_icmp .ne 7, 3) := by decide +kernel
theorem dX2_gather_57 : decode cX2_gather 57 = .ok (.iconst 1, 1) := by decide +kernel
theorem dX2_gather_58 : decode cX2_gather 58 = .ok (.goto 4, 3) := by decide +kernel
theorem dX2_gather_61 : decode cX2_gather 61 = .ok (.iconst 0, 1) := by decide +kernel
theorem dX2_gather_62 : decode cX2_gather 62 = .ok (.istore 7, 2) := by decide +kernel
theorem dX2_gather_64 : decode cX2_gather 64 = .ok (.aload_n 0, 1) := by decide +kernel
theorem dX2_gather_65 : decode cX2_gather 65 = .ok (.getfield 9, 3) := by decide +kernel
theorem dX2_gather_68 : decode cX2_gather 68 = .ok (.aload_n 0, 1) := by decide +kernel
theorem dX2_gather_69 : decode cX2_gather 69 = .ok (.getfield 33, 3) := by decide +kernel
theorem dX2_gather_72 : decode cX2_gather 72 = .ok (.iload 7, 2) := by decide +kernel
theorem dX2_gather_74 : decode cX2_gather 74 = .ok (.ifCond .eq 13, 3) := by decide +kernel
theorem dX2_gather_77 : decode cX2_gather 77 = .ok (.aload_n 1, 1) := by decide +kernel
theorem dX2_gather_78 : decode cX2_gather 78 = .ok (.getfield 94, 3) := by decide +kernel
theorem dX2_gather_81 : decode cX2_gather 81 = .ok (.iload 6, 2) := by decide +kernel
theorem dX2_gather_83 : decode cX2_gather 83 = .ok (.iaload, 1) := by decide +kernel
theorem dX2_gather_84 : decode cX2_gather 84 = .ok (.goto 10, 3) := by decide +kernel
theorem dX2_gather_87 : decode cX2_gather 87 = .ok (.aload_n 1, 1) := by decide +kernel
theorem dX2_gather_88 : decode cX2_gather 88 = .ok (.getfield 97, 3) := by decide +kernel
theorem dX2_gather_91 : decode cX2_gather 91 = .ok (.iload 6, 2) := by decide +kernel
theorem dX2_gather_93 : decode cX2_gather 93 = .ok (.iaload, 1) := by decide +kernel
theorem dX2_gather_94 : decode cX2_gather 94 = .ok (.iastore, 1) := by decide +kernel
theorem dX2_gather_95 : decode cX2_gather 95 = .ok (.aload_n 0, 1) := by decide +kernel
theorem dX2_gather_96 : decode cX2_gather 96 = .ok (.getfield 15, 3) := by decide +kernel
theorem dX2_gather_99 : decode cX2_gather 99 = .ok (.aload_n 0, 1) := by decide +kernel
theorem dX2_gather_100 : decode cX2_gather 100 = .ok (.getfield 33, 3) := by decide +kernel
theorem dX2_gather_103 : decode cX2_gather 103 = .ok (.iload 7, 2) := by decide +kernel
theorem dX2_gather_105 : decode cX2_gather 105 = .ok (.ifCond .eq 13, 3) := by decide +kernel
theorem dX2_gather_108 : decode cX2_gather 108 = .ok (.aload_n 1, 1) := by decide +kernel
theorem dX2_gather_109 : decode cX2_gather 109 = .ok (.getfield 97, 3) := by decide +kernel
theorem dX2_gather_112 : decode cX2_gather 112 = .ok (.iload 6, 2) := by decide +kernel
theorem dX2_gather_114 : decode cX2_gather 114 = .ok (.iaload, 1) := by decide +kernel
theorem dX2_gather_115 : decode cX2_gather 115 = .ok (.goto 10, 3) := by decide +kernel
theorem dX2_gather_118 : decode cX2_gather 118 = .ok (.aload_n 1, 1) := by decide +kernel
theorem dX2_gather_119 : decode cX2_gather 119 = .ok (.getfield 94, 3) := by decide +kernel
theorem dX2_gather_122 : decode cX2_gather 122 = .ok (.iload 6, 2) := by decide +kernel
theorem dX2_gather_124 : decode cX2_gather 124 = .ok (.iaload, 1) := by decide +kernel
theorem dX2_gather_125 : decode cX2_gather 125 = .ok (.iastore, 1) := by decide +kernel
theorem dX2_gather_126 : decode cX2_gather 126 = .ok (.aload_n 0, 1) := by decide +kernel
theorem dX2_gather_127 : decode cX2_gather 127 = .ok (.getfield 18, 3) := by decide +kernel
theorem dX2_gather_130 : decode cX2_gather 130 = .ok (.aload_n 0, 1) := by decide +kernel
theorem dX2_gather_131 : decode cX2_gather 131 = .ok (.getfield 33, 3) := by decide +kernel
theorem dX2_gather_134 : decode cX2_gather 134 = .ok (.aload_n 1, 1) := by decide +kernel
theorem dX2_gather_135 : decode cX2_gather 135 = .ok (.iload 6, 2) := by decide +kernel
theorem dX2_gather_137 : decode cX2_gather 137 = .ok (.invokevirtual 100, 3) := by decide +kernel
theorem dX2_gather_140 : decode cX2_gather 140 = .ok (.iastore, 1) := by decide +kernel
theorem dX2_gather_141 : decode cX2_gather 141 = .ok (.aload_n 0, 1) := by decide +kernel
theorem dX2_gather_142 : decode cX2_gather 142 = .ok (.getfield 21, 3) := by decide +kernel
theorem dX2_gather_145 : decode cX2_gather 145 = .ok (.aload_n 1, 1) := by decide +kernel
theorem dX2_gather_146 : decode cX2_gather 146 = .ok (.getfield 94, 3) := by decide +kernel
theorem dX2_gather_149 : decode cX2_gather 149 = .ok (.iload 6, 2) := by decide +kernel
theorem dX2_gather_151 : decode cX2_gather 151 = .ok (.iaload, 1) := by decide +kernel
theorem dX2_gather_152 : decode cX2_gather 152 = .ok (.dup2, 1) := by decide +kernel
theorem dX2_gather_153 : decode cX2_gather 153 = .ok (.iaload, 1) := by decide +kernel
theorem dX2_gather_154 : decode cX2_gather 154 = .ok (.iconst 1, 1) := by decide +kernel
theorem dX2_gather_155 : decode cX2_gather 155 = .ok (.iadd, 1) := by decide +kernel
theorem dX2_gather_156 : decode cX2_gather 156 = .ok (.iastore, 1) := by decide +kernel
theorem dX2_gather_157 : decode cX2_gather 157 = .ok (.aload_n 0, 1) := by decide +kernel
theorem dX2_gather_158 : decode cX2_gather 158 = .ok (.getfield 21, 3) := by decide +kernel
theorem dX2_gather_161 : decode cX2_gather 161 = .ok (.aload_n 1, 1) := by decide +kernel
theorem dX2_gather_162 : decode cX2_gather 162 = .ok (.getfield 97, 3) := by decide +kernel
theorem dX2_gather_165 : decode cX2_gather 165 = .ok (.iload 6, 2) := by decide +kernel
theorem dX2_gather_167 : decode cX2_gather 167 = .ok (.iaload, 1) := by decide +kernel
theorem dX2_gather_168 : decode cX2_gather 168 = .ok (.dup2, 1) := by decide +kernel
theorem dX2_gather_169 : decode cX2_gather 169 = .ok (.iaload, 1) := by decide +kernel
theorem dX2_gather_170 : decode cX2_gather 170 = .ok (.iconst 1, 1) := by decide +kernel
theorem dX2_gather_171 : decode cX2_gather 171 = .ok (.iadd, 1) := by decide +kernel
theorem dX2_gather_172 : decode cX2_gather 172 = .ok (.iastore, 1) := by decide +kernel
theorem dX2_gather_173 : decode cX2_gather 173 = .ok (.aload_n 0, 1) := by decide +kernel
theorem dX2_gather_174 : decode cX2_gather 174 = .ok (.dup, 1) := by decide +kernel
theorem dX2_gather_175 : decode cX2_gather 175 = .ok (.getfield 33, 3) := by decide +kernel
theorem dX2_gather_178 : decode cX2_gather 178 = .ok (.iconst 1, 1) := by decide +kernel
theorem dX2_gather_179 : decode cX2_gather 179 = .ok (.iadd, 1) := by decide +kernel
theorem dX2_gather_180 : decode cX2_gather 180 = .ok (.putfield 33, 3) := by decide +kernel
theorem dX2_gather_183 : decode cX2_gather 183 = .ok (.iinc 5 1, 3) := by decide +kernel
theorem dX2_gather_186 : decode cX2_gather 186 = .ok (.goto (-170), 3) := by decide +kernel
theorem dX2_gather_189 : decode cX2_gather 189 = .ok (.return_, 1) := by decide +kernel
theorem dX2_gainOfYear_0 : decode cX2_gainOfYear 0 = .ok (.aload_n 0, 1) := by decide +kernel
theorem dX2_gainOfYear_1 : decode cX2_gainOfYear 1 = .ok (.iload_n 1, 1) := by decide +kernel
theorem dX2_gainOfYear_2 : decode cX2_gainOfYear 2 = .ok (.invokevirtual 104, 3) := by decide +kernel
theorem dX2_gainOfYear_5 : decode cX2_gainOfYear 5 = .ok (.ifCond .eq 8, 3) := by decide +kernel
theorem dX2_gainOfYear_8 : decode cX2_gainOfYear 8 = .ok (.aload_n 0, 1) := by decide +kernel
theorem dX2_gainOfYear_9 : decode cX2_gainOfYear 9 = .ok (.invokevirtual 108, 3) := by decide +kernel
theorem dX2_gainOfYear_12 : decode cX2_gainOfYear 12 = .ok (.ireturn, 1) := by decide +kernel
theorem dX2_gainOfYear_13 : decode cX2_gainOfYear 13 = .ok (.aload_n 0, 1) := by decide +kernel
theorem dX2_gainOfYear_14 : decode cX2_gainOfYear 14 = .ok (.iconst 0, 1) := by decide +kernel
theorem dX2_gainOfYear_15 : decode cX2_gainOfYear 15 = .ok (.putfield 37, 3) := by decide +kernel
theorem dX2_gainOfYear_18 : decode cX2_gainOfYear 18 = .ok (.iconst 0, 1) := by decide +kernel
theorem dX2_gainOfYear_19 : decode cX2_gainOfYear 19 = .ok (.istore_n 3, 1) := by decide +kernel
theorem dX2_gainOfYear_20 : decode cX2_gainOfYear 20 = .ok (.iconst 0, 1) := by decide +kernel
theorem dX2_gainOfYear_21 : decode cX2_gainOfYear 21 = .ok (.istore 4, 2) := by decide +kernel
theorem dX2_gainOfYear_23 : decode cX2_gainOfYear 23 = .ok (.iload 4, 2) := by decide +kernel
theorem dX2_gainOfYear_25 : decode cX2_gainOfYear 25 = .ok (.aload_n 0, 1) := by decide +kernel
theorem dX2_gainOfYear_26 : decode cX2_gainOfYear 26 = .ok (.getfield 33, 3) := by decide +kernel
theorem dX2_gainOfYear_29 : decode cX2_gainOfYear 29 = .ok (.if_icmp .ge 47, 3) := by decide +kernel
theorem dX2_gainOfYear_32 : decode cX2_gainOfYear 32 = .ok (.aload_n 0, 1) := by decide +kernel
theorem dX2_gainOfYear_33 : decode cX2_gainOfYear 33 = .ok (.iload_n 1, 1) := by decide +kernel
theorem dX2_gainOfYear_34 : decode cX2_gainOfYear 34 = .ok (.iload_n 2, 1) := by decide +kernel
theorem dX2_gainOfYear_35 : decode cX2_gainOfYear 35 = .ok (.invokevirtual 112, 3) := by decide +kernel
theorem dX2_gainOfYear_38 : decode cX2_gainOfYear 38 = .ok (.aload_n 0, 1) := by decide +kernel
theorem dX2_gainOfYear_39 : decode cX2_gainOfYear 39 = .ok (.iload_n 1, 1) := by decide +kernel
theorem dX2_gainOfYear_40 : decode cX2_gainOfYear 40 = .ok (.iload_n 2, 1) := by decide +kernel
theorem dX2_gainOfYear_41 : decode cX2_gainOfYear 41 = .ok (.invokevirtual 116, 3) := by decide +kernel
theorem dX2_gainOfYear_44 : decode cX2_gainOfYear 44 = .ok (.istore 5, 2) := by decide +kernel
theorem dX2_gainOfYear_46 : decode cX2_gainOfYear 46 = .ok (.iload 5, 2) := by decide +kernel
theorem dX2_gainOfYear_48 : decode cX2_gainOfYear 48 = .ok (.iconst (-1), 1) := by decide +kernel
theorem dX2_gainOfYear_49 : decode cX2_gainOfYear 49 = .ok (.if_icmp .ne 5, 3) := by decide +kernel
theorem dX2_gainOfYear_52 : decode cX2_gainOfYear 52 = .ok (.iload_n 3, 1) := by decide +kernel
theorem dX2_gainOfYear_53 : decode cX2_gainOfYear 53 = .ok (.ireturn, 1) := by decide +kernel
theorem dX2_gainOfYear_54 : decode cX2_gainOfYear 54 = .ok (.iload_n 3, 1) := by decide +kernel
theorem dX2_gainOfYear_55 : decode cX2_gainOfYear 55 = .ok (.aload_n 0, 1) := by decide +kernel
theorem dX2_gainOfYear_56 : decode cX2_gainOfYear 56 = .ok (.getfield 27, 3) := by decide +kernel
theorem dX2_gainOfYear_59 : decode cX2_gainOfYear 59 = .ok (.iload 5, 2) := by decide +kernel
theorem dX2_gainOfYear_61 : decode cX2_gainOfYear 61 = .ok (.iaload, 1) := by decide +kernel
theorem dX2_gainOfYear_62 : decode cX2_gainOfYear 62 = .ok (.iadd, 1) := by decide +kernel
theorem dX2_gainOfYear_63 : decode cX2_gainOfYear 63 = .ok (.istore_n 3, 1) := by decide +kernel
theorem dX2_gainOfYear_64 : decode cX2_gainOfYear 64 = .ok (.aload_n 0, 1) := by decide +kernel
theorem dX2_gainOfYear_65 : decode cX2_gainOfYear 65 = .ok (.iload 5, 2) := by decide +kernel
theorem dX2_gainOfYear_67 : decode cX2_gainOfYear 67 = .ok (.invokevirtual 119, 3) := by decide +kernel
theorem dX2_gainOfYear_70 : decode cX2_gainOfYear 70 = .ok (.iinc 4 1, 3) := by decide +kernel
theorem dX2_gainOfYear_73 : decode cX2_gainOfYear 73 = .ok (.goto (-50), 3) := by decide +kernel
theorem dX2_gainOfYear_76 : decode cX2_gainOfYear 76 = .ok (.iload_n 3, 1) := by decide +kernel
theorem dX2_gainOfYear_77 : decode cX2_gainOfYear 77 = .ok (.ireturn, 1) := by decide +kernel
theorem dX2_allFit_0 : decode cX2_allFit 0 = .ok (.iconst 0, 1) := by decide +kernel
theorem dX2_allFit_1 : decode cX2_allFit 1 = .ok (.istore_n 2, 1) := by decide +kernel
theorem dX2_allFit_2 : decode cX2_allFit 2 = .ok (.iload_n 2, 1) := by decide +kernel
theorem dX2_allFit_3 : decode cX2_allFit 3 = .ok (.iload_n 1, 1) := by decide +kernel
theorem dX2_allFit_4 : decode cX2_allFit 4 = .ok (.if_icmp .ge 26, 3) := by decide +kernel
theorem dX2_allFit_7 : decode cX2_allFit 7 = .ok (.aload_n 0, 1) := by decide +kernel
theorem dX2_allFit_8 : decode cX2_allFit 8 = .ok (.getfield 21, 3) := by decide +kernel
theorem dX2_allFit_11 : decode cX2_allFit 11 = .ok (.iload_n 2, 1) := by decide +kernel
theorem dX2_allFit_12 : decode cX2_allFit 12 = .ok (.iaload, 1) := by decide +kernel
theorem dX2_allFit_13 : decode cX2_allFit 13 = .ok (.aload_n 0, 1) := by decide +kernel
theorem dX2_allFit_14 : decode cX2_allFit 14 = .ok (.getfield 24, 3) := by decide +kernel
theorem dX2_allFit_17 : decode cX2_allFit 17 = .ok (.iload_n 2, 1) := by decide +kernel
theorem dX2_allFit_18 : decode cX2_allFit 18 = .ok (.iaload, 1) := by decide +kernel
theorem dX2_allFit_19 : decode cX2_allFit 19 = .ok (.if_icmp .le 5, 3) := by decide +kernel
theorem dX2_allFit_22 : decode cX2_allFit 22 = .ok (.iconst 0, 1) := by decide +kernel
theorem dX2_allFit_23 : decode cX2_allFit 23 = .ok (.ireturn, 1) := by decide +kernel
theorem dX2_allFit_24 : decode cX2_allFit 24 = .ok (.iinc 2 1, 3) := by decide +kernel
theorem dX2_allFit_27 : decode cX2_allFit 27 = .ok (.goto (-25), 3) := by decide +kernel
theorem dX2_allFit_30 : decode cX2_allFit 30 = .ok (.iconst 1, 1) := by decide +kernel
theorem dX2_allFit_31 : decode cX2_allFit 31 = .ok (.ireturn, 1) := by decide +kernel
theorem dX2_sumOfGoing_0 : decode cX2_sumOfGoing 0 = .ok (.iconst 0, 1) := by decide +kernel
theorem dX2_sumOfGoing_1 : decode cX2_sumOfGoing 1 = .ok (.istore_n 1, 1) := by decide +kernel
theorem dX2_sumOfGoing_2 : decode cX2_sumOfGoing 2 = .ok (.iconst 0, 1) := by decide +kernel
theorem dX2_sumOfGoing_3 : decode cX2_sumOfGoing 3 = .ok (.istore_n 2, 1) := by decide +kernel
theorem dX2_sumOfGoing_4 : decode cX2_sumOfGoing 4 = .ok (.iload_n 2, 1) := by decide +kernel
theorem dX2_sumOfGoing_5 : decode cX2_sumOfGoing 5 = .ok (.aload_n 0, 1) := by decide +kernel
theorem dX2_sumOfGoing_6 : decode cX2_sumOfGoing 6 = .ok (.getfield 33, 3) := by decide +kernel
theorem dX2_sumOfGoing_9 : decode cX2_sumOfGoing 9 = .ok (.if_icmp .ge 18, 3) := by decide +kernel
theorem dX2_sumOfGoing_12 : decode cX2_sumOfGoing 12 = .ok (.iload_n 1, 1) := by decide +kernel
theorem dX2_sumOfGoing_13 : decode cX2_sumOfGoing 13 = .ok (.aload_n 0, 1) := by decide +kernel
theorem dX2_sumOfGoing_14 : decode cX2_sumOfGoing 14 = .ok (.getfield 18, 3) := by decide +kernel
theorem dX2_sumOfGoing_17 : decode cX2_sumOfGoing 17 = .ok (.iload_n 2, 1) := by decide +kernel
theorem dX2_sumOfGoing_18 : decode cX2_sumOfGoing 18 = .ok (.iaload, 1) := by decide +kernel
theorem dX2_sumOfGoing_19 : decode cX2_sumOfGoing 19 = .ok (.iadd, 1) := by decide +kernel
theorem dX2_sumOfGoing_20 : decode cX2_sumOfGoing 20 = .ok (.istore_n 1, 1) := by decide +kernel
theorem dX2_sumOfGoing_21 : decode cX2_sumOfGoing 21 = .ok (.iinc 2 1, 3) := by decide +kernel
theorem dX2_sumOfGoing_24 : decode cX2_sumOfGoing 24 = .ok (.goto (-20), 3) := by decide +kernel
theorem dX2_sumOfGoing_27 : decode cX2_sumOfGoing 27 = .ok (.iload_n 1, 1) := by decide +kernel
theorem dX2_sumOfGoing_28 : decode cX2_sumOfGoing 28 = .ok (.ireturn, 1) := by decide +kernel
theorem dX2_spread_0 : decode cX2_spread 0 = .ok (.iconst 0, 1) := by decide +kernel
theorem dX2_spread_1 : decode cX2_spread 1 = .ok (.istore_n 3, 1) := by decide +kernel
theorem dX2_spread_2 : decode cX2_spread 2 = .ok (.iload_n 3, 1) := by decide +kernel
theorem dX2_spread_3 : decode cX2_spread 3 = .ok (.iload_n 1, 1) := by decide +kernel
theorem dX2_spread_4 : decode cX2_spread 4 = .ok (.if_icmp .ge 58, 3) := by decide +kernel
theorem dX2_spread_7 : decode cX2_spread 7 = .ok (.iload_n 2, 1) := by decide +kernel
theorem dX2_spread_8 : decode cX2_spread 8 = .ok (.iload_n 3, 1) := by decide +kernel
theorem dX2_spread_9 : decode cX2_spread 9 = .ok (.ishr, 1) := by decide +kernel
theorem dX2_spread_10 : decode cX2_spread 10 = .ok (.iconst 1, 1) := by decide +kernel
theorem dX2_spread_11 : decode cX2_spread 11 = .ok (.iand, 1) := by decide +kernel
theorem dX2_spread_12 : decode cX2_spread 12 = .ok (.iconst 1, 1) := by decide +kernel
theorem dX2_spread_13 : decode cX2_spread 13 = .ok (.if_icmp .ne 16, 3) := by decide +kernel
theorem dX2_spread_16 : decode cX2_spread 16 = .ok (.aload_n 0, 1) := by decide +kernel
theorem dX2_spread_17 : decode cX2_spread 17 = .ok (.getfield 24, 3) := by decide +kernel
theorem dX2_spread_20 : decode cX2_spread 20 = .ok (.iload_n 3, 1) := by decide +kernel
theorem dX2_spread_21 : decode cX2_spread 21 = .ok (.iaload, 1) := by decide +kernel
theorem dX2_spread_22 : decode cX2_spread 22 = .ok (.ifCond .le 7, 3) := by decide +kernel
theorem dX2_spread_25 : decode cX2_spread 25 = .ok (.iconst 1, 1) := by decide +kernel
theorem dX2_spread_26 : decode cX2_spread 26 = .ok (.goto 4, 3) := by decide +kernel
theorem dX2_spread_29 : decode cX2_spread 29 = .ok (.iconst 0, 1) := by decide +kernel
theorem dX2_spread_30 : decode cX2_spread 30 = .ok (.istore 4, 2) := by decide +kernel
theorem dX2_spread_32 : decode cX2_spread 32 = .ok (.aload_n 0, 1) := by decide +kernel
theorem dX2_spread_33 : decode cX2_spread 33 = .ok (.getfield 27, 3) := by decide +kernel
theorem dX2_spread_36 : decode cX2_spread 36 = .ok (.iload_n 3, 1) := by decide +kernel
theorem dX2_spread_37 : decode cX2_spread 37 = .ok (.iload 4, 2) := by decide +kernel
theorem dX2_spread_39 : decode cX2_spread 39 = .ok (.ifCond .eq 7, 3) := by decide +kernel
theorem dX2_spread_42 : decode cX2_spread 42 = .ok (.iconst 0, 1) := by decide +kernel
theorem dX2_spread_43 : decode cX2_spread 43 = .ok (.goto 5, 3) := by decide +kernel
theorem dX2_spread_46 : decode cX2_spread 46 = .ok (.ldc 123, 2) := by decide +kernel
theorem dX2_spread_48 : decode cX2_spread 48 = .ok (.iastore, 1) := by decide +kernel
theorem dX2_spread_49 : decode cX2_spread 49 = .ok (.aload_n 0, 1) := by decide +kernel
theorem dX2_spread_50 : decode cX2_spread 50 = .ok (.getfield 30, 3) := by decide +kernel
theorem dX2_spread_53 : decode cX2_spread 53 = .ok (.iload_n 3, 1) := by decide +kernel
theorem dX2_spread_54 : decode cX2_spread 54 = .ok (.iconst (-1), 1) := by decide +kernel
theorem dX2_spread_55 : decode cX2_spread 55 = .ok (.iastore, 1) := by decide +kernel
theorem dX2_spread_56 : decode cX2_spread 56 = .ok (.iinc 3 1, 3) := by decide +kernel
theorem dX2_spread_59 : decode cX2_spread 59 = .ok (.goto (-57), 3) := by decide +kernel
theorem dX2_spread_62 : decode cX2_spread 62 = .ok (.iconst 1, 1) := by decide +kernel
theorem dX2_spread_63 : decode cX2_spread 63 = .ok (.istore_n 3, 1) := by decide +kernel
theorem dX2_spread_64 : decode cX2_spread 64 = .ok (.iconst 0, 1) := by decide +kernel
theorem dX2_spread_65 : decode cX2_spread 65 = .ok (.istore 4, 2) := by decide +kernel
theorem dX2_spread_67 : decode cX2_spread 67 = .ok (.iload 4, 2) := by decide +kernel
theorem dX2_spread_69 : decode cX2_spread 69 = .ok (.bipush 10, 2) := by decide +kernel
theorem dX2_spread_71 : decode cX2_spread 71 = .ok (.if_icmp .gt 44, 3) := by decide +kernel
theorem dX2_spread_74 : decode cX2_spread 74 = .ok (.iload_n 3, 1) := by decide +kernel
theorem dX2_spread_75 : decode cX2_spread 75 = .ok (.ifCond .eq 40, 3) := by decide +kernel
theorem dX2_spread_78 : decode cX2_spread 78 = .ok (.iconst 0, 1) := by decide +kernel
theorem dX2_spread_79 : decode cX2_spread 79 = .ok (.istore_n 3, 1) := by decide +kernel
theorem dX2_spread_80 : decode cX2_spread 80 = .ok (.iconst 0, 1) := by decide +kernel
theorem dX2_spread_81 : decode cX2_spread 81 = .ok (.istore 5, 2) := by decide +kernel
theorem dX2_spread_83 : decode cX2_spread 83 = .ok (.iload 5, 2) := by decide +kernel
theorem dX2_spread_85 : decode cX2_spread 85 = .ok (.aload_n 0, 1) := by decide +kernel
theorem dX2_spread_86 : decode cX2_spread 86 = .ok (.getfield 33, 3) := by decide +kernel
theorem dX2_spread_89 : decode cX2_spread 89 = .ok (.if_icmp .ge 20, 3) := by decide +kernel
theorem dX2_spread_92 : decode cX2_spread 92 = .ok (.aload_n 0, 1) := by decide +kernel
theorem dX2_spread_93 : decode cX2_spread 93 = .ok (.iload 5, 2) := by decide +kernel
theorem dX2_spread_95 : decode cX2_spread 95 = .ok (.invokevirtual 124, 3) := by decide +kernel
theorem dX2_spread_98 : decode cX2_spread 98 = .ok (.ifCond .eq 5, 3) := by decide +kernel
theorem dX2_spread_101 : decode cX2_spread 101 = .ok (.iconst 1, 1) := by decide +kernel
theorem dX2_spread_102 : decode cX2_spread 102 = .ok (.istore_n 3, 1) := by decide +kernel
theorem dX2_spread_103 : decode cX2_spread 103 = .ok (.iinc 5 1, 3) := by decide +kernel
theorem dX2_spread_106 : decode cX2_spread 106 = .ok (.goto (-23), 3) := by decide +kernel
theorem dX2_spread_109 : decode cX2_spread 109 = .ok (.iinc 4 1, 3) := by decide +kernel
theorem dX2_spread_112 : decode cX2_spread 112 = .ok (.goto (-45), 3) := by decide +kernel
theorem dX2_spread_115 : decode cX2_spread 115 = .ok (.return_, 1) := by decide +kernel
theorem dX2_leadAlong_0 : decode cX2_leadAlong 0 = .ok (.aload_n 0, 1) := by decide +kernel
theorem dX2_leadAlong_1 : decode cX2_leadAlong 1 = .ok (.getfield 37, 3) := by decide +kernel
theorem dX2_leadAlong_4 : decode cX2_leadAlong 4 = .ok (.iload_n 1, 1) := by decide +kernel
theorem dX2_leadAlong_5 : decode cX2_leadAlong 5 = .ok (.ishr, 1) := by decide +kernel
theorem dX2_leadAlong_6 : decode cX2_leadAlong 6 = .ok (.iconst 1, 1) := by decide +kernel
theorem dX2_leadAlong_7 : decode cX2_leadAlong 7 = .ok (.iand, 1) := by decide +kernel
theorem dX2_leadAlong_8 : decode cX2_leadAlong 8 = .ok (.iconst 1, 1) := by decide +kernel
theorem dX2_leadAlong_9 : decode cX2_leadAlong 9 = .ok (.if_icmp .ne 7, 3) := by decide +kernel
theorem dX2_leadAlong_12 : decode cX2_leadAlong 12 = .ok (.iconst 1, 1) := by decide +kernel
theorem dX2_leadAlong_13 : decode cX2_leadAlong 13 = .ok (.goto 4, 3) := by decide +kernel
theorem dX2_leadAlong_16 : decode cX2_leadAlong 16 = .ok (.iconst 0, 1) := by decide +kernel
theorem dX2_leadAlong_17 : decode cX2_leadAlong 17 = .ok (.istore_n 2, 1) := by decide +kernel
theorem dX2_leadAlong_18 : decode cX2_leadAlong 18 = .ok (.iload_n 2, 1) := by decide +kernel
theorem dX2_leadAlong_19 : decode cX2_leadAlong 19 = .ok (.ifCond .eq 12, 3) := by decide +kernel
theorem dX2_leadAlong_22 : decode cX2_leadAlong 22 = .ok (.aload_n 0, 1) := by decide +kernel
theorem dX2_leadAlong_23 : decode cX2_leadAlong 23 = .ok (.getfield 15, 3) := by decide +kernel
theorem dX2_leadAlong_26 : decode cX2_leadAlong 26 = .ok (.iload_n 1, 1) := by decide +kernel
theorem dX2_leadAlong_27 : decode cX2_leadAlong 27 = .ok (.iaload, 1) := by decide +kernel
theorem dX2_leadAlong_28 : decode cX2_leadAlong 28 = .ok (.goto 9, 3) := by decide +kernel
theorem dX2_leadAlong_31 : decode cX2_leadAlong 31 = .ok (.aload_n 0, 1) := by decide +kernel
theorem dX2_leadAlong_32 : decode cX2_leadAlong 32 = .ok (.getfield 9, 3) := by decide +kernel
theorem dX2_leadAlong_35 : decode cX2_leadAlong 35 = .ok (.iload_n 1, 1) := by decide +kernel
theorem dX2_leadAlong_36 : decode cX2_leadAlong 36 = .ok (.iaload, 1) := by decide +kernel
theorem dX2_leadAlong_37 : decode cX2_leadAlong 37 = .ok (.istore_n 3, 1) := by decide +kernel
theorem dX2_leadAlong_38 : decode cX2_leadAlong 38 = .ok (.iload_n 2, 1) := by decide +kernel
theorem dX2_leadAlong_39 : decode cX2_leadAlong 39 = .ok (.ifCond .eq 12, 3) := by decide +kernel
theorem dX2_leadAlong_42 : decode cX2_leadAlong 42 = .ok (.aload_n 0, 1) := by decide +kernel
theorem dX2_leadAlong_43 : decode cX2_leadAlong 43 = .ok (.getfield 9, 3) := by decide +kernel
theorem dX2_leadAlong_46 : decode cX2_leadAlong 46 = .ok (.iload_n 1, 1) := by decide +kernel
theorem dX2_leadAlong_47 : decode cX2_leadAlong 47 = .ok (.iaload, 1) := by decide +kernel
theorem dX2_leadAlong_48 : decode cX2_leadAlong 48 = .ok (.goto 9, 3) := by decide +kernel
theorem dX2_leadAlong_51 : decode cX2_leadAlong 51 = .ok (.aload_n 0, 1) := by decide +kernel
theorem dX2_leadAlong_52 : decode cX2_leadAlong 52 = .ok (.getfield 15, 3) := by decide +kernel
theorem dX2_leadAlong_55 : decode cX2_leadAlong 55 = .ok (.iload_n 1, 1) := by decide +kernel
theorem dX2_leadAlong_56 : decode cX2_leadAlong 56 = .ok (.iaload, 1) := by decide +kernel
theorem dX2_leadAlong_57 : decode cX2_leadAlong 57 = .ok (.istore 4, 2) := by decide +kernel
theorem dX2_leadAlong_59 : decode cX2_leadAlong 59 = .ok (.iload_n 2, 1) := by decide +kernel
theorem dX2_leadAlong_60 : decode cX2_leadAlong 60 = .ok (.ifCond .eq 13, 3) := by decide +kernel
theorem dX2_leadAlong_63 : decode cX2_leadAlong 63 = .ok (.aload_n 0, 1) := by decide +kernel
theorem dX2_leadAlong_64 : decode cX2_leadAlong 64 = .ok (.getfield 18, 3) := by decide +kernel
theorem dX2_leadAlong_67 : decode cX2_leadAlong 67 = .ok (.iload_n 1, 1) := by decide +kernel
theorem dX2_leadAlong_68 : decode cX2_leadAlong 68 = .ok (.iaload, 1) := by decide +kernel
theorem dX2_leadAlong_69 : decode cX2_leadAlong 69 = .ok (.ineg, 1) := by decide +kernel
theorem dX2_leadAlong_70 : decode cX2_leadAlong 70 = .ok (.goto 9, 3) := by decide +kernel
theorem dX2_leadAlong_73 : decode cX2_leadAlong 73 = .ok (.aload_n 0, 1) := by decide +kernel
theorem dX2_leadAlong_74 : decode cX2_leadAlong 74 = .ok (.getfield 18, 3) := by decide +kernel
theorem dX2_leadAlong_77 : decode cX2_leadAlong 77 = .ok (.iload_n 1, 1) := by decide +kernel
theorem dX2_leadAlong_78 : decode cX2_leadAlong 78 = .ok (.iaload, 1) := by decide +kernel
theorem dX2_leadAlong_79 : decode cX2_leadAlong 79 = .ok (.istore 5, 2) := by decide +kernel
theorem dX2_leadAlong_81 : decode cX2_leadAlong 81 = .ok (.aload_n 0, 1) := by decide +kernel
theorem dX2_leadAlong_82 : decode cX2_leadAlong 82 = .ok (.getfield 27, 3) := by decide +kernel
theorem dX2_leadAlong_85 : decode cX2_leadAlong 85 = .ok (.iload_n 3, 1) := by decide +kernel
theorem dX2_leadAlong_86 : decode cX2_leadAlong 86 = .ok (.iaload, 1) := by decide +kernel
theorem dX2_leadAlong_87 : decode cX2_leadAlong 87 = .ok (.ldc 123, 2) := by decide +kernel
theorem dX2_leadAlong_89 : decode cX2_leadAlong 89 = .ok (.if_icmp .eq 22, 3) := by decide +kernel
theorem dX2_leadAlong_92 : decode cX2_leadAlong 92 = .ok (.aload_n 0, 1) := by decide +kernel
theorem dX2_leadAlong_93 : decode cX2_leadAlong 93 = .ok (.getfield 27, 3) := by decide +kernel
theorem dX2_leadAlong_96 : decode cX2_leadAlong 96 = .ok (.iload_n 3, 1) := by decide +kernel
theorem dX2_leadAlong_97 : decode cX2_leadAlong 97 = .ok (.iaload, 1) := by decide +kernel
theorem dX2_leadAlong_98 : decode cX2_leadAlong 98 = .ok (.iload 5, 2) := by decide +kernel
theorem dX2_leadAlong_100 : decode cX2_leadAlong 100 = .ok (.iadd, 1) := by decide +kernel
theorem dX2_leadAlong_101 : decode cX2_leadAlong 101 = .ok (.aload_n 0, 1) := by decide +kernel
theorem dX2_leadAlong_102 : decode cX2_leadAlong 102 = .ok (.getfield 27, 3) := by decide +kernel
theorem dX2_leadAlong_105 : decode cX2_leadAlong 105 = .ok (.iload 4, 2) := by decide +kernel
theorem dX2_leadAlong_107 : decode cX2_leadAlong 107 = .ok (.iaload, 1) := by decide +kernel
theorem dX2_leadAlong_108 : decode cX2_leadAlong 108 = .ok (.if_icmp .gt 5, 3) := by decide +kernel
theorem dX2_leadAlong_111 : decode cX2_leadAlong 111 = .ok (.iconst 0, 1) := by decide +kernel
theorem dX2_leadAlong_112 : decode cX2_leadAlong 112 = .ok (.ireturn, 1) := by decide +kernel
theorem dX2_leadAlong_113 : decode cX2_leadAlong 113 = .ok (.aload_n 0, 1) := by decide +kernel
theorem dX2_leadAlong_114 : decode cX2_leadAlong 114 = .ok (.getfield 27, 3) := by decide +kernel
theorem dX2_leadAlong_117 : decode cX2_leadAlong 117 = .ok (.iload 4, 2) := by decide +kernel
theorem dX2_leadAlong_119 : decode cX2_leadAlong 119 = .ok (.aload_n 0, 1) := by decide +kernel
theorem dX2_leadAlong_120 : decode cX2_leadAlong 120 = .ok (.getfield 27, 3) := by decide +kernel
theorem dX2_leadAlong_123 : decode cX2_leadAlong 123 = .ok (.iload_n 3, 1) := by decide +kernel
theorem dX2_leadAlong_124 : decode cX2_leadAlong 124 = .ok (.iaload, 1) := by decide +kernel
theorem dX2_leadAlong_125 : decode cX2_leadAlong 125 = .ok (.iload 5, 2) := by decide +kernel
theorem dX2_leadAlong_127 : decode cX2_leadAlong 127 = .ok (.iadd, 1) := by decide +kernel
theorem dX2_leadAlong_128 : decode cX2_leadAlong 128 = .ok (.iastore, 1) := by decide +kernel
theorem dX2_leadAlong_129 : decode cX2_leadAlong 129 = .ok (.aload_n 0, 1) := by decide +kernel
theorem dX2_leadAlong_130 : decode cX2_leadAlong 130 = .ok (.getfield 30, 3) := by decide +kernel
theorem dX2_leadAlong_133 : decode cX2_leadAlong 133 = .ok (.iload 4, 2) := by decide +kernel
theorem dX2_leadAlong_135 : decode cX2_leadAlong 135 = .ok (.iload_n 1, 1) := by decide +kernel
theorem dX2_leadAlong_136 : decode cX2_leadAlong 136 = .ok (.iastore, 1) := by decide +kernel
theorem dX2_leadAlong_137 : decode cX2_leadAlong 137 = .ok (.iconst 1, 1) := by decide +kernel
theorem dX2_leadAlong_138 : decode cX2_leadAlong 138 = .ok (.ireturn, 1) := by decide +kernel
theorem dX2_bestEnd_0 : decode cX2_bestEnd 0 = .ok (.iconst (-1), 1) := by decide +kernel
theorem dX2_bestEnd_1 : decode cX2_bestEnd 1 = .ok (.istore_n 3, 1) := by decide +kernel
theorem dX2_bestEnd_2 : decode cX2_bestEnd 2 = .ok (.iconst 0, 1) := by decide +kernel
theorem dX2_bestEnd_3 : decode cX2_bestEnd 3 = .ok (.istore 4, 2) := by decide +kernel
theorem dX2_bestEnd_5 : decode cX2_bestEnd 5 = .ok (.iconst 0, 1) := by decide +kernel
theorem dX2_bestEnd_6 : decode cX2_bestEnd 6 = .ok (.istore 5, 2) := by decide +kernel
theorem dX2_bestEnd_8 : decode cX2_bestEnd 8 = .ok (.iload 5, 2) := by decide +kernel
theorem dX2_bestEnd_10 : decode cX2_bestEnd 10 = .ok (.iload_n 1, 1) := by decide +kernel
theorem dX2_bestEnd_11 : decode cX2_bestEnd 11 = .ok (.if_icmp .ge 64, 3) := by decide +kernel
theorem dX2_bestEnd_14 : decode cX2_bestEnd 14 = .ok (.iload_n 2, 1) := by decide +kernel
theorem dX2_bestEnd_15 : decode cX2_bestEnd 15 = .ok (.iload 5, 2) := by decide +kernel
theorem dX2_bestEnd_17 : decode cX2_bestEnd 17 = .ok (.ishr, 1) := by decide +kernel
theorem dX2_bestEnd_18 : decode cX2_bestEnd 18 = .ok (.iconst 1, 1) := by decide +kernel
theorem dX2_bestEnd_19 : decode cX2_bestEnd 19 = .ok (.iand, 1) := by decide +kernel
theorem dX2_bestEnd_20 : decode cX2_bestEnd 20 = .ok (.ifCond .ne 7, 3) := by decide +kernel
theorem dX2_bestEnd_23 : decode cX2_bestEnd 23 = .ok (.iconst 1, 1) := by decide +kernel
theorem dX2_bestEnd_24 : decode cX2_bestEnd 24 = .ok (.goto 4, 3) := by decide +kernel
theorem dX2_bestEnd_27 : decode cX2_bestEnd 27 = .ok (.iconst 0, 1) := by decide +kernel
theorem dX2_bestEnd_28 : decode cX2_bestEnd 28 = .ok (.istore 6, 2) := by decide +kernel
theorem dX2_bestEnd_30 : decode cX2_bestEnd 30 = .ok (.iload 6, 2) := by decide +kernel
theorem dX2_bestEnd_32 : decode cX2_bestEnd 32 = .ok (.ifCond .eq 37, 3) := by decide +kernel
theorem dX2_bestEnd_35 : decode cX2_bestEnd 35 = .ok (.aload_n 0, 1) := by decide +kernel
theorem dX2_bestEnd_36 : decode cX2_bestEnd 36 = .ok (.getfield 24, 3) := by decide +kernel
theorem dX2_bestEnd_39 : decode cX2_bestEnd 39 = .ok (.iload 5, 2) := by decide +kernel
theorem dX2_bestEnd_41 : decode cX2_bestEnd 41 = .ok (.iaload, 1) := by decide +kernel
theorem dX2_bestEnd_42 : decode cX2_bestEnd 42 = .ok (.ifCond .le 27, 3) := by decide +kernel
theorem dX2_bestEnd_45 : decode cX2_bestEnd 45 = .ok (.aload_n 0, 1) := by decide +kernel
theorem dX2_bestEnd_46 : decode cX2_bestEnd 46 = .ok (.getfield 27, 3) := by decide +kernel
theorem dX2_bestEnd_49 : decode cX2_bestEnd 49 = .ok (.iload 5, 2) := by decide +kernel
theorem dX2_bestEnd_51 : decode cX2_bestEnd 51 = .ok (.iaload, 1) := by decide +kernel
theorem dX2_bestEnd_52 : decode cX2_bestEnd 52 = .ok (.iload 4, 2) := by decide +kernel
theorem dX2_bestEnd_54 : decode cX2_bestEnd 54 = .ok (.if_icmp .le 15, 3) := by decide +kernel
theorem dX2_bestEnd_57 : decode cX2_bestEnd 57 = .ok (.aload_n 0, 1) := by decide +kernel
theorem dX2_bestEnd_58 : decode cX2_bestEnd 58 = .ok (.getfield 27, 3) := by decide +kernel
theorem dX2_bestEnd_61 : decode cX2_bestEnd 61 = .ok (.iload 5, 2) := by decide +kernel
theorem dX2_bestEnd_63 : decode cX2_bestEnd 63 = .ok (.iaload, 1) := by decide +kernel
theorem dX2_bestEnd_64 : decode cX2_bestEnd 64 = .ok (.istore 4, 2) := by decide +kernel
theorem dX2_bestEnd_66 : decode cX2_bestEnd 66 = .ok (.iload 5, 2) := by decide +kernel
theorem dX2_bestEnd_68 : decode cX2_bestEnd 68 = .ok (.istore_n 3, 1) := by decide +kernel
theorem dX2_bestEnd_69 : decode cX2_bestEnd 69 = .ok (.iinc 5 1, 3) := by decide +kernel
theorem dX2_bestEnd_72 : decode cX2_bestEnd 72 = .ok (.goto (-64), 3) := by decide +kernel
theorem dX2_bestEnd_75 : decode cX2_bestEnd 75 = .ok (.iload_n 3, 1) := by decide +kernel
theorem dX2_bestEnd_76 : decode cX2_bestEnd 76 = .ok (.ireturn, 1) := by decide +kernel
theorem dX2_turnPath_0 : decode cX2_turnPath 0 = .ok (.iload_n 1, 1) := by decide +kernel
theorem dX2_turnPath_1 : decode cX2_turnPath 1 = .ok (.istore_n 2, 1) := by decide +kernel
theorem dX2_turnPath_2 : decode cX2_turnPath 2 = .ok (.iconst 0, 1) := by decide +kernel
theorem dX2_turnPath_3 : decode cX2_turnPath 3 = .ok (.istore_n 3, 1) := by decide +kernel
theorem dX2_turnPath_4 : decode cX2_turnPath 4 = .ok (.iload_n 3, 1) := by decide +kernel
theorem dX2_turnPath_5 : decode cX2_turnPath 5 = .ok (.bipush 10, 2) := by decide +kernel
theorem dX2_turnPath_7 : decode cX2_turnPath 7 = .ok (.if_icmp .gt 69, 3) := by decide +kernel
theorem dX2_turnPath_10 : decode cX2_turnPath 10 = .ok (.aload_n 0, 1) := by decide +kernel
theorem dX2_turnPath_11 : decode cX2_turnPath 11 = .ok (.getfield 30, 3) := by decide +kernel
theorem dX2_turnPath_14 : decode cX2_turnPath 14 = .ok (.iload_n 2, 1) := by decide +kernel
theorem dX2_turnPath_15 : decode cX2_turnPath 15 = .ok (.iaload, 1) := by decide +kernel
theorem dX2_turnPath_16 : decode cX2_turnPath 16 = .ok (.iconst (-1), 1) := by decide +kernel
theorem dX2_turnPath_17 : decode cX2_turnPath 17 = .ok (.if_icmp .eq 59, 3) := by decide +kernel
theorem dX2_turnPath_20 : decode cX2_turnPath 20 = .ok (.aload_n 0, 1) := by decide +kernel
theorem dX2_turnPath_21 : decode cX2_turnPath 21 = .ok (.getfield 30, 3) := by decide +kernel
theorem dX2_turnPath_24 : decode cX2_turnPath 24 = .ok (.iload_n 2, 1) := by decide +kernel
theorem dX2_turnPath_25 : decode cX2_turnPath 25 = .ok (.iaload, 1) := by decide +kernel
theorem dX2_turnPath_26 : decode cX2_turnPath 26 = .ok (.istore 4, 2) := by decide +kernel
theorem dX2_turnPath_28 : decode cX2_turnPath 28 = .ok (.aload_n 0, 1) := by decide +kernel
theorem dX2_turnPath_29 : decode cX2_turnPath 29 = .ok (.dup, 1) := by decide +kernel
theorem dX2_turnPath_30 : decode cX2_turnPath 30 = .ok (.getfield 37, 3) := by decide +kernel
theorem dX2_turnPath_33 : decode cX2_turnPath 33 = .ok (.iconst 1, 1) := by decide +kernel
theorem dX2_turnPath_34 : decode cX2_turnPath 34 = .ok (.iload 4, 2) := by decide +kernel
theorem dX2_turnPath_36 : decode cX2_turnPath 36 = .ok (.ishl, 1) := by decide +kernel
theorem dX2_turnPath_37 : decode cX2_turnPath 37 = .ok (.ixor, 1) := by decide +kernel
theorem dX2_turnPath_38 : decode cX2_turnPath 38 = .ok (.putfield 37, 3) := by decide +kernel
theorem dX2_turnPath_41 : decode cX2_turnPath 41 = .ok (.aload_n 0, 1) := by decide +kernel
theorem dX2_turnPath_42 : decode cX2_turnPath 42 = .ok (.getfield 9, 3) := by decide +kernel
theorem dX2_turnPath_45 : decode cX2_turnPath 45 = .ok (.iload 4, 2) := by decide +kernel
theorem dX2_turnPath_47 : decode cX2_turnPath 47 = .ok (.iaload, 1) := by decide +kernel
theorem dX2_turnPath_48 : decode cX2_turnPath 48 = .ok (.iload_n 2, 1) := by decide +kernel
theorem dX2_turnPath_49 : decode cX2_turnPath 49 = .ok (.if_icmp .ne 13, 3) := by decide +kernel
theorem dX2_turnPath_52 : decode cX2_turnPath 52 = .ok (.aload_n 0, 1) := by decide +kernel
theorem dX2_turnPath_53 : decode cX2_turnPath 53 = .ok (.getfield 15, 3) := by decide +kernel
theorem dX2_turnPath_56 : decode cX2_turnPath 56 = .ok (.iload 4, 2) := by decide +kernel
theorem dX2_turnPath_58 : decode cX2_turnPath 58 = .ok (.iaload, 1) := by decide +kernel
theorem dX2_turnPath_59 : decode cX2_turnPath 59 = .ok (.goto 10, 3) := by decide +kernel
theorem dX2_turnPath_62 : decode cX2_turnPath 62 = .ok (.aload_n 0, 1) := by decide +kernel
theorem dX2_turnPath_63 : decode cX2_turnPath 63 = .ok (.getfield 9, 3) := by decide +kernel
theorem dX2_turnPath_66 : decode cX2_turnPath 66 = .ok (.iload 4, 2) := by decide +kernel
theorem dX2_turnPath_68 : decode cX2_turnPath 68 = .ok (.iaload, 1) := by decide +kernel
theorem dX2_turnPath_69 : decode cX2_turnPath 69 = .ok (.istore_n 2, 1) := by decide +kernel
theorem dX2_turnPath_70 : decode cX2_turnPath 70 = .ok (.iinc 3 1, 3) := by decide +kernel
theorem dX2_turnPath_73 : decode cX2_turnPath 73 = .ok (.goto (-69), 3) := by decide +kernel
theorem dX2_turnPath_76 : decode cX2_turnPath 76 = .ok (.aload_n 0, 1) := by decide +kernel
theorem dX2_turnPath_77 : decode cX2_turnPath 77 = .ok (.getfield 24, 3) := by decide +kernel
theorem dX2_turnPath_80 : decode cX2_turnPath 80 = .ok (.iload_n 2, 1) := by decide +kernel
theorem dX2_turnPath_81 : decode cX2_turnPath 81 = .ok (.dup2, 1) := by decide +kernel
theorem dX2_turnPath_82 : decode cX2_turnPath 82 = .ok (.iaload, 1) := by decide +kernel
theorem dX2_turnPath_83 : decode cX2_turnPath 83 = .ok (.iconst 1, 1) := by decide +kernel
theorem dX2_turnPath_84 : decode cX2_turnPath 84 = .ok (.isub, 1) := by decide +kernel
theorem dX2_turnPath_85 : decode cX2_turnPath 85 = .ok (.iastore, 1) := by decide +kernel
theorem dX2_turnPath_86 : decode cX2_turnPath 86 = .ok (.aload_n 0, 1) := by decide +kernel
theorem dX2_turnPath_87 : decode cX2_turnPath 87 = .ok (.getfield 24, 3) := by decide +kernel
theorem dX2_turnPath_90 : decode cX2_turnPath 90 = .ok (.iload_n 1, 1) := by decide +kernel
theorem dX2_turnPath_91 : decode cX2_turnPath 91 = .ok (.dup2, 1) := by decide +kernel
theorem dX2_turnPath_92 : decode cX2_turnPath 92 = .ok (.iaload, 1) := by decide +kernel
theorem dX2_turnPath_93 : decode cX2_turnPath 93 = .ok (.iconst 1, 1) := by decide +kernel
theorem dX2_turnPath_94 : decode cX2_turnPath 94 = .ok (.isub, 1) := by decide +kernel
theorem dX2_turnPath_95 : decode cX2_turnPath 95 = .ok (.iastore, 1) := by decide +kernel
theorem dX2_turnPath_96 : decode cX2_turnPath 96 = .ok (.return_, 1) := by decide +kernel
theorem dX3_init_0 : decode cX3_init 0 = .ok (.aload_n 0, 1) := by decide +kernel
theorem dX3_init_1 : decode cX3_init 1 = .ok (.invokespecial 3, 3) := by decide +kernel
theorem dX3_init_4 : decode cX3_init 4 = .ok (.aload_n 0, 1) := by decide +kernel
theorem dX3_init_5 : decode cX3_init 5 = .ok (.bipush 12, 2) := by decide +kernel
theorem dX3_init_7 : decode cX3_init 7 = .ok (.newarray .int, 2) := by decide +kernel
theorem dX3_init_9 : decode cX3_init 9 = .ok (.putfield 9, 3) := by decide +kernel
theorem dX3_init_12 : decode cX3_init 12 = .ok (.aload_n 0, 1) := by decide +kernel
theorem dX3_init_13 : decode cX3_init 13 = .ok (.iconst 0, 1) := by decide +kernel
theorem dX3_init_14 : decode cX3_init 14 = .ok (.putfield 15, 3) := by decide +kernel
theorem dX3_init_17 : decode cX3_init 17 = .ok (.aload_n 0, 1) := by decide +kernel
theorem dX3_init_18 : decode cX3_init 18 = .ok (.new 19, 3) := by decide +kernel
theorem dX3_init_21 : decode cX3_init 21 = .ok (.dup, 1) := by decide +kernel
theorem dX3_init_22 : decode cX3_init 22 = .ok (.invokespecial 21, 3) := by decide +kernel
theorem dX3_init_25 : decode cX3_init 25 = .ok (.putfield 22, 3) := by decide +kernel
theorem dX3_init_28 : decode cX3_init 28 = .ok (.aload_n 0, 1) := by decide +kernel
theorem dX3_init_29 : decode cX3_init 29 = .ok (.bipush 12, 2) := by decide +kernel
theorem dX3_init_31 : decode cX3_init 31 = .ok (.newarray .int, 2) := by decide +kernel
theorem dX3_init_33 : decode cX3_init 33 = .ok (.putfield 26, 3) := by decide +kernel
theorem dX3_init_36 : decode cX3_init 36 = .ok (.aload_n 0, 1) := by decide +kernel
theorem dX3_init_37 : decode cX3_init 37 = .ok (.bipush 13, 2) := by decide +kernel
theorem dX3_init_39 : decode cX3_init 39 = .ok (.newarray .int, 2) := by decide +kernel
theorem dX3_init_41 : decode cX3_init 41 = .ok (.putfield 29, 3) := by decide +kernel
theorem dX3_init_44 : decode cX3_init 44 = .ok (.return_, 1) := by decide +kernel
theorem dX3_reckon_0 : decode cX3_reckon 0 = .ok (.aload_n 1, 1) := by decide +kernel
theorem dX3_reckon_1 : decode cX3_reckon 1 = .ok (.getfield 32, 3) := by decide +kernel
theorem dX3_reckon_4 : decode cX3_reckon 4 = .ok (.getfield 38, 3) := by decide +kernel
theorem dX3_reckon_7 : decode cX3_reckon 7 = .ok (.iconst (-1), 1) := by decide +kernel
theorem dX3_reckon_8 : decode cX3_reckon 8 = .ok (.if_icmp .ne 69, 3) := by decide +kernel
theorem dX3_reckon_11 : decode cX3_reckon 11 = .ok (.aload_n 0, 1) := by decide +kernel
theorem dX3_reckon_12 : decode cX3_reckon 12 = .ok (.getfield 29, 3) := by decide +kernel
theorem dX3_reckon_15 : decode cX3_reckon 15 = .ok (.aload_n 1, 1) := by decide +kernel
theorem dX3_reckon_16 : decode cX3_reckon 16 = .ok (.getfield 43, 3) := by decide +kernel
theorem dX3_reckon_19 : decode cX3_reckon 19 = .ok (.iconst 0, 1) := by decide +kernel
theorem dX3_reckon_20 : decode cX3_reckon 20 = .ok (.iastore, 1) := by decide +kernel
theorem dX3_reckon_21 : decode cX3_reckon 21 = .ok (.aload_n 1, 1) := by decide +kernel
theorem dX3_reckon_22 : decode cX3_reckon 22 = .ok (.getfield 43, 3) := by decide +kernel
theorem dX3_reckon_25 : decode cX3_reckon 25 = .ok (.iconst 1, 1) := by decide +kernel
theorem dX3_reckon_26 : decode cX3_reckon 26 = .ok (.isub, 1) := by decide +kernel
theorem dX3_reckon_27 : decode cX3_reckon 27 = .ok (.istore_n 2, 1) := by decide +kernel
theorem dX3_reckon_28 : decode cX3_reckon 28 = .ok (.iload_n 2, 1) := by decide +kernel
theorem dX3_reckon_29 : decode cX3_reckon 29 = .ok (.ifCond .lt 34, 3) := by decide +kernel
theorem dX3_reckon_32 : decode cX3_reckon 32 = .ok (.aload_n 0, 1) := by decide +kernel
theorem dX3_reckon_33 : decode cX3_reckon 33 = .ok (.getfield 29, 3) := by decide +kernel
theorem dX3_reckon_36 : decode cX3_reckon 36 = .ok (.iload_n 2, 1) := by decide +kernel
theorem dX3_reckon_37 : decode cX3_reckon 37 = .ok (.aload_n 0, 1) := by decide +kernel
theorem dX3_reckon_38 : decode cX3_reckon 38 = .ok (.getfield 29, 3) := by decide +kernel
theorem dX3_reckon_41 : decode cX3_reckon 41 = .ok (.iload_n 2, 1) := by decide +kernel
theorem dX3_reckon_42 : decode cX3_reckon 42 = .ok (.iconst 1, 1) := by decide +kernel
theorem dX3_reckon_43 : decode cX3_reckon 43 = .ok (.iadd, 1) := by decide +kernel
theorem dX3_reckon_44 : decode cX3_reckon 44 = .ok (.iaload, 1) := by decide +kernel
theorem dX3_reckon_45 : decode cX3_reckon 45 = .ok (.aload_n 1, 1) := by decide +kernel
theorem dX3_reckon_46 : decode cX3_reckon 46 = .ok (.aload_n 1, 1) := by decide +kernel
theorem dX3_reckon_47 : decode cX3_reckon 47 = .ok (.getfield 46, 3) := by decide +kernel
theorem dX3_reckon_50 : decode cX3_reckon 50 = .ok (.iload_n 2, 1) := by decide +kernel
theorem dX3_reckon_51 : decode cX3_reckon 51 = .ok (.iaload, 1) := by decide +kernel
theorem dX3_reckon_52 : decode cX3_reckon 52 = .ok (.invokevirtual 49, 3) := by decide +kernel
theorem dX3_reckon_55 : decode cX3_reckon 55 = .ok (.iadd, 1) := by decide +kernel
theorem dX3_reckon_56 : decode cX3_reckon 56 = .ok (.iastore, 1) := by decide +kernel
theorem dX3_reckon_57 : decode cX3_reckon 57 = .ok (.iinc 2 (-1), 3) := by decide +kernel
theorem dX3_reckon_60 : decode cX3_reckon 60 = .ok (.goto (-32), 3) := by decide +kernel
theorem dX3_reckon_63 : decode cX3_reckon 63 = .ok (.aload_n 0, 1) := by decide +kernel
theorem dX3_reckon_64 : decode cX3_reckon 64 = .ok (.getfield 22, 3) := by decide +kernel
theorem dX3_reckon_67 : decode cX3_reckon 67 = .ok (.invokevirtual 53, 3) := by decide +kernel
theorem dX3_reckon_70 : decode cX3_reckon 70 = .ok (.aload_n 0, 1) := by decide +kernel
theorem dX3_reckon_71 : decode cX3_reckon 71 = .ok (.aload_n 1, 1) := by decide +kernel
theorem dX3_reckon_72 : decode cX3_reckon 72 = .ok (.iconst 0, 1) := by decide +kernel
theorem dX3_reckon_73 : decode cX3_reckon 73 = .ok (.iconst 0, 1) := by decide +kernel
theorem dX3_reckon_74 : decode cX3_reckon 74 = .ok (.invokevirtual 56, 3) := by decide +kernel
theorem dX3_reckon_77 : decode cX3_reckon 77 = .ok (.aload_n 1, 1) := by decide +kernel
theorem dX3_reckon_78 : decode cX3_reckon 78 = .ok (.getfield 32, 3) := by decide +kernel
theorem dX3_reckon_81 : decode cX3_reckon 81 = .ok (.getfield 60, 3) := by decide +kernel
theorem dX3_reckon_84 : decode cX3_reckon 84 = .ok (.iconst 0, 1) := by decide +kernel
theorem dX3_reckon_85 : decode cX3_reckon 85 = .ok (.aload_n 0, 1) := by decide +kernel
theorem dX3_reckon_86 : decode cX3_reckon 86 = .ok (.getfield 9, 3) := by decide +kernel
theorem dX3_reckon_89 : decode cX3_reckon 89 = .ok (.iconst 0, 1) := by decide +kernel
theorem dX3_reckon_90 : decode cX3_reckon 90 = .ok (.bipush 12, 2) := by decide +kernel
theorem dX3_reckon_92 : decode cX3_reckon 92 = .ok (.invokestatic 63, 3) := by decide +kernel
theorem dX3_reckon_95 : decode cX3_reckon 95 = .ok (.aload_n 0, 1) := by decide +kernel
theorem dX3_reckon_96 : decode cX3_reckon 96 = .ok (.aload_n 1, 1) := by decide +kernel
theorem dX3_reckon_97 : decode cX3_reckon 97 = .ok (.getfield 43, 3) := by decide +kernel
theorem dX3_reckon_100 : decode cX3_reckon 100 = .ok (.putfield 15, 3) := by decide +kernel
theorem dX3_reckon_103 : decode cX3_reckon 103 = .ok (.aload_n 1, 1) := by decide +kernel
theorem dX3_reckon_104 : decode cX3_reckon 104 = .ok (.getfield 32, 3) := by decide +kernel
theorem dX3_reckon_107 : decode cX3_reckon 107 = .ok (.getfield 38, 3) := by decide +kernel
theorem dX3_reckon_110 : decode cX3_reckon 110 = .ok (.ireturn, 1) := by decide +kernel
theorem dX3_tryFrom_0 : decode cX3_tryFrom 0 = .ok (.iload_n 2, 1) := by decide +kernel
theorem dX3_tryFrom_1 : decode cX3_tryFrom 1 = .ok (.bipush 12, 2) := by decide +kernel
theorem dX3_tryFrom_3 : decode cX3_tryFrom 3 = .ok (.if_icmp .gt 21, 3) := by decide +kernel
theorem dX3_tryFrom_6 : decode cX3_tryFrom 6 = .ok (.iload_n 3, 1) := by decide +kernel
theorem dX3_tryFrom_7 : decode cX3_tryFrom 7 = .ok (.aload_n 0, 1) := by decide +kernel
theorem dX3_tryFrom_8 : decode cX3_tryFrom 8 = .ok (.getfield 29, 3) := by decide +kernel
theorem dX3_tryFrom_11 : decode cX3_tryFrom 11 = .ok (.iload_n 2, 1) := by decide +kernel
theorem dX3_tryFrom_12 : decode cX3_tryFrom 12 = .ok (.iaload, 1) := by decide +kernel
theorem dX3_tryFrom_13 : decode cX3_tryFrom 13 = .ok (.iadd, 1) := by decide +kernel
theorem dX3_tryFrom_14 : decode cX3_tryFrom 14 = .ok (.aload_n 1, 1) := by decide +kernel
theorem dX3_tryFrom_15 : decode cX3_tryFrom 15 = .ok (.getfield 32, 3) := by decide +kernel
theorem dX3_tryFrom_18 : decode cX3_tryFrom 18 = .ok (.getfield 38, 3) := by decide +kernel
theorem dX3_tryFrom_21 : decode cX3_tryFrom 21 = .ok (.if_icmp .gt 4, 3) := by decide +kernel
theorem dX3_tryFrom_24 : decode cX3_tryFrom 24 = .ok (.return_, 1) := by decide +kernel
theorem dX3_tryFrom_25 : decode cX3_tryFrom 25 = .ok (.iload_n 2, 1) := by decide +kernel
theorem dX3_tryFrom_26 : decode cX3_tryFrom 26 = .ok (.aload_n 1, 1) := by decide +kernel
theorem dX3_tryFrom_27 : decode cX3_tryFrom 27 = .ok (.getfield 43, 3) := by decide +kernel
theorem dX3_tryFrom_30 : decode cX3_tryFrom 30 = .ok (.if_icmp .lt 30, 3) := by decide +kernel
theorem dX3_tryFrom_33 : decode cX3_tryFrom 33 = .ok (.aload_n 1, 1) := by decide +kernel
theorem dX3_tryFrom_34 : decode cX3_tryFrom 34 = .ok (.getfield 32, 3) := by decide +kernel
theorem dX3_tryFrom_37 : decode cX3_tryFrom 37 = .ok (.iload_n 3, 1) := by decide +kernel
theorem dX3_tryFrom_38 : decode cX3_tryFrom 38 = .ok (.putfield 38, 3) := by decide +kernel
theorem dX3_tryFrom_41 : decode cX3_tryFrom 41 = .ok (.aload_n 0, 1) := by decide +kernel
theorem dX3_tryFrom_42 : decode cX3_tryFrom 42 = .ok (.getfield 26, 3) := by decide +kernel
theorem dX3_tryFrom_45 : decode cX3_tryFrom 45 = .ok (.iconst 0, 1) := by decide +kernel
theorem dX3_tryFrom_46 : decode cX3_tryFrom 46 = .ok (.aload_n 1, 1) := by decide +kernel
theorem dX3_tryFrom_47 : decode cX3_tryFrom 47 = .ok (.getfield 32, 3) := by decide +kernel
theorem dX3_tryFrom_50 : decode cX3_tryFrom 50 = .ok (.getfield 60, 3) := by decide +kernel
theorem dX3_tryFrom_53 : decode cX3_tryFrom 53 = .ok (.iconst 0, 1) := by decide +kernel
theorem dX3_tryFrom_54 : decode cX3_tryFrom 54 = .ok (.bipush 12, 2) := by decide +kernel
theorem dX3_tryFrom_56 : decode cX3_tryFrom 56 = .ok (.invokestatic 63, 3) := by decide +kernel
theorem dX3_tryFrom_59 : decode cX3_tryFrom 59 = .ok (.return_, 1) := by decide +kernel
theorem dX3_tryFrom_60 : decode cX3_tryFrom 60 = .ok (.aload_n 1, 1) := by decide +kernel
theorem dX3_tryFrom_61 : decode cX3_tryFrom 61 = .ok (.getfield 46, 3) := by decide +kernel
theorem dX3_tryFrom_64 : decode cX3_tryFrom 64 = .ok (.iload_n 2, 1) := by decide +kernel
theorem dX3_tryFrom_65 : decode cX3_tryFrom 65 = .ok (.iaload, 1) := by decide +kernel
theorem dX3_tryFrom_66 : decode cX3_tryFrom 66 = .ok (.istore 4, 2) := by decide +kernel
theorem dX3_tryFrom_68 : decode cX3_tryFrom 68 = .ok (.iconst 0, 1) := by decide +kernel
theorem dX3_tryFrom_69 : decode cX3_tryFrom 69 = .ok (.istore 5, 2) := by decide +kernel
theorem dX3_tryFrom_71 : decode cX3_tryFrom 71 = .ok (.iload 5, 2) := by decide +kernel
theorem dX3_tryFrom_73 : decode cX3_tryFrom 73 = .ok (.iconst 2, 1) := by decide +kernel
theorem dX3_tryFrom_74 : decode cX3_tryFrom 74 = .ok (.if_icmp .gt 73, 3) := by decide +kernel
theorem dX3_tryFrom_77 : decode cX3_tryFrom 77 = .ok (.aload_n 0, 1) := by decide +kernel
theorem dX3_tryFrom_78 : decode cX3_tryFrom 78 = .ok (.getfield 26, 3) := by decide +kernel
theorem dX3_tryFrom_81 : decode cX3_tryFrom 81 = .ok (.iload 4, 2) := by decide +kernel
theorem dX3_tryFrom_83 : decode cX3_tryFrom 83 = .ok (.iload 5, 2) := by decide +kernel
theorem dX3_tryFrom_85 : decode cX3_tryFrom 85 = .ok (.iastore, 1) := by decide +kernel
theorem dX3_tryFrom_86 : decode cX3_tryFrom 86 = .ok (.iload 5, 2) := by decide +kernel
theorem dX3_tryFrom_88 : decode cX3_tryFrom 88 = .ok (.ifCond .ne 15, 3) := by decide +kernel
theorem dX3_tryFrom_91 : decode cX3_tryFrom 91 = .ok (.aload_n 0, 1) := by decide +kernel
theorem dX3_tryFrom_92 : decode cX3_tryFrom 92 = .ok (.aload_n 1, 1) := by decide +kernel
theorem dX3_tryFrom_93 : decode cX3_tryFrom 93 = .ok (.iload_n 2, 1) := by decide +kernel
theorem dX3_tryFrom_94 : decode cX3_tryFrom 94 = .ok (.iconst 1, 1) := by decide +kernel
theorem dX3_tryFrom_95 : decode cX3_tryFrom 95 = .ok (.iadd, 1) := by decide +kernel
theorem dX3_tryFrom_96 : decode cX3_tryFrom 96 = .ok (.iload_n 3, 1) := by decide +kernel
theorem dX3_tryFrom_97 : decode cX3_tryFrom 97 = .ok (.invokevirtual 56, 3) := by decide +kernel
theorem dX3_tryFrom_100 : decode cX3_tryFrom 100 = .ok (.goto 41, 3) := by decide +kernel
theorem dX3_tryFrom_103 : decode cX3_tryFrom 103 = .ok (.aload_n 0, 1) := by decide +kernel
theorem dX3_tryFrom_104 : decode cX3_tryFrom 104 = .ok (.getfield 22, 3) := by decide +kernel
theorem dX3_tryFrom_107 : decode cX3_tryFrom 107 = .ok (.aload_n 1, 1) := by decide +kernel
theorem dX3_tryFrom_108 : decode cX3_tryFrom 108 = .ok (.iload 4, 2) := by decide +kernel
theorem dX3_tryFrom_110 : decode cX3_tryFrom 110 = .ok (.iload 5, 2) := by decide +kernel
theorem dX3_tryFrom_112 : decode cX3_tryFrom 112 = .ok (.invokevirtual 69, 3) := by decide +kernel
theorem dX3_tryFrom_115 : decode cX3_tryFrom 115 = .ok (.ifCond .ne 26, 3) := by decide +kernel
theorem dX3_tryFrom_118 : decode cX3_tryFrom 118 = .ok (.aload_n 0, 1) := by decide +kernel
theorem dX3_tryFrom_119 : decode cX3_tryFrom 119 = .ok (.aload_n 1, 1) := by decide +kernel
theorem dX3_tryFrom_120 : decode cX3_tryFrom 120 = .ok (.iload_n 2, 1) := by decide +kernel
theorem dX3_tryFrom_121 : decode cX3_tryFrom 121 = .ok (.iconst 1, 1) := by decide +kernel
theorem dX3_tryFrom_122 : decode cX3_tryFrom 122 = .ok (.iadd, 1) := by decide +kernel
theorem dX3_tryFrom_123 : decode cX3_tryFrom 123 = .ok (.iload_n 3, 1) := by decide +kernel
theorem dX3_tryFrom_124 : decode cX3_tryFrom 124 = .ok (.aload_n 1, 1) := by decide +kernel
theorem dX3_tryFrom_125 : decode cX3_tryFrom 125 = .ok (.iload 4, 2) := by decide +kernel
theorem dX3_tryFrom_127 : decode cX3_tryFrom 127 = .ok (.invokevirtual 49, 3) := by decide +kernel
theorem dX3_tryFrom_130 : decode cX3_tryFrom 130 = .ok (.iadd, 1) := by decide +kernel
theorem dX3_tryFrom_131 : decode cX3_tryFrom 131 = .ok (.invokevirtual 56, 3) := by decide +kernel
theorem dX3_tryFrom_134 : decode cX3_tryFrom 134 = .ok (.aload_n 0, 1) := by decide +kernel
theorem dX3_tryFrom_135 : decode cX3_tryFrom 135 = .ok (.getfield 22, 3) := by decide +kernel
theorem dX3_tryFrom_138 : decode cX3_tryFrom 138 = .ok (.invokevirtual 73, 3) := by decide +kernel
theorem dX3_tryFrom_141 : decode cX3_tryFrom 141 = .ok (.iinc 5 1, 3) := by decide +kernel
theorem dX3_tryFrom_144 : decode cX3_tryFrom 144 = .ok (.goto (-73), 3) := by decide +kernel
theorem dX3_tryFrom_147 : decode cX3_tryFrom 147 = .ok (.return_, 1) := by decide +kernel
theorem dX4_init_0 : decode cX4_init 0 = .ok (.aload_n 0, 1) := by decide +kernel
theorem dX4_init_1 : decode cX4_init 1 = .ok (.invokespecial 3, 3) := by decide +kernel
theorem dX4_init_4 : decode cX4_init 4 = .ok (.aload_n 0, 1) := by decide +kernel
theorem dX4_init_5 : decode cX4_init 5 = .ok (.iconst 0, 1) := by decide +kernel
theorem dX4_init_6 : decode cX4_init 6 = .ok (.putfield 9, 3) := by decide +kernel
theorem dX4_init_9 : decode cX4_init 9 = .ok (.aload_n 0, 1) := by decide +kernel
theorem dX4_init_10 : decode cX4_init 10 = .ok (.bipush 20, 2) := by decide +kernel
theorem dX4_init_12 : decode cX4_init 12 = .ok (.newarray .int, 2) := by decide +kernel
theorem dX4_init_14 : decode cX4_init 14 = .ok (.putfield 15, 3) := by decide +kernel
theorem dX4_init_17 : decode cX4_init 17 = .ok (.aload_n 0, 1) := by decide +kernel
theorem dX4_init_18 : decode cX4_init 18 = .ok (.bipush 20, 2) := by decide +kernel
theorem dX4_init_20 : decode cX4_init 20 = .ok (.newarray .int, 2) := by decide +kernel
theorem dX4_init_22 : decode cX4_init 22 = .ok (.putfield 19, 3) := by decide +kernel
theorem dX4_init_25 : decode cX4_init 25 = .ok (.aload_n 0, 1) := by decide +kernel
theorem dX4_init_26 : decode cX4_init 26 = .ok (.bipush 10, 2) := by decide +kernel
theorem dX4_init_28 : decode cX4_init 28 = .ok (.newarray .int, 2) := by decide +kernel
theorem dX4_init_30 : decode cX4_init 30 = .ok (.putfield 22, 3) := by decide +kernel
theorem dX4_init_33 : decode cX4_init 33 = .ok (.aload_n 0, 1) := by decide +kernel
theorem dX4_init_34 : decode cX4_init 34 = .ok (.iconst 0, 1) := by decide +kernel
theorem dX4_init_35 : decode cX4_init 35 = .ok (.putfield 25, 3) := by decide +kernel
theorem dX4_init_38 : decode cX4_init 38 = .ok (.aload_n 0, 1) := by decide +kernel
theorem dX4_init_39 : decode cX4_init 39 = .ok (.iconst 0, 1) := by decide +kernel
theorem dX4_init_40 : decode cX4_init 40 = .ok (.putfield 28, 3) := by decide +kernel
theorem dX4_init_43 : decode cX4_init 43 = .ok (.aload_n 0, 1) := by decide +kernel
theorem dX4_init_44 : decode cX4_init 44 = .ok (.iconst 0, 1) := by decide +kernel
theorem dX4_init_45 : decode cX4_init 45 = .ok (.putfield 31, 3) := by decide +kernel
theorem dX4_init_48 : decode cX4_init 48 = .ok (.return_, 1) := by decide +kernel
theorem dX4_take_0 : decode cX4_take 0 = .ok (.aload_n 0, 1) := by decide +kernel
theorem dX4_take_1 : decode cX4_take 1 = .ok (.iconst 0, 1) := by decide +kernel
theorem dX4_take_2 : decode cX4_take 2 = .ok (.putfield 9, 3) := by decide +kernel
theorem dX4_take_5 : decode cX4_take 5 = .ok (.aload_n 0, 1) := by decide +kernel
theorem dX4_take_6 : decode cX4_take 6 = .ok (.iconst 0, 1) := by decide +kernel
theorem dX4_take_7 : decode cX4_take 7 = .ok (.putfield 25, 3) := by decide +kernel
theorem dX4_take_10 : decode cX4_take 10 = .ok (.aload_n 0, 1) := by decide +kernel
theorem dX4_take_11 : decode cX4_take 11 = .ok (.getfield 22, 3) := by decide +kernel
theorem dX4_take_14 : decode cX4_take 14 = .ok (.iconst 0, 1) := by decide +kernel
theorem dX4_take_15 : decode cX4_take 15 = .ok (.invokestatic 34, 3) := by decide +kernel
theorem dX4_take_18 : decode cX4_take 18 = .ok (.aload_n 1, 1) := by decide +kernel
theorem dX4_take_19 : decode cX4_take 19 = .ok (.getfield 40, 3) := by decide +kernel
theorem dX4_take_22 : decode cX4_take 22 = .ok (.iconst 2, 1) := by decide +kernel
theorem dX4_take_23 : decode cX4_take 23 = .ok (.irem, 1) := by decide +kernel
theorem dX4_take_24 : decode cX4_take 24 = .ok (.ifCond .ne 12, 3) := by decide +kernel
theorem dX4_take_27 : decode cX4_take 27 = .ok (.aload_n 1, 1) := by decide +kernel
theorem dX4_take_28 : decode cX4_take 28 = .ok (.getfield 40, 3) := by decide +kernel
theorem dX4_take_31 : decode cX4_take 31 = .ok (.bipush 40, 2) := by decide +kernel
theorem dX4_take_33 : decode cX4_take 33 = .ok (.if_icmp .le 5, 3) := by decide +kernel
theorem dX4_take_36 : decode cX4_take 36 = .ok (.iconst 0, 1) := by decide +kernel
theorem dX4_take_37 : decode cX4_take 37 = .ok (.ireturn, 1) := by decide +kernel
theorem dX4_take_38 : decode cX4_take 38 = .ok (.iconst 0, 1) := by decide +kernel
theorem dX4_take_39 : decode cX4_take 39 = .ok (.istore_n 3, 1) := by decide +kernel
theorem dX4_take_40 : decode cX4_take 40 = .ok (.iload_n 3, 1) := by decide +kernel
theorem dX4_take_41 : decode cX4_take 41 = .ok (.iconst 1, 1) := by decide +kernel
theorem dX4_take_42 : decode cX4_take 42 = .ok (.iadd, 1) := by decide +kernel
theorem dX4_take_43 : decode cX4_take 43 = .ok (.aload_n 1, 1) := by decide +kernel
theorem dX4_take_44 : decode cX4_take 44 = .ok (.getfield 40, 3) := by decide +kernel
theorem dX4_take_47 : decode cX4_take 47 = .ok (.if_icmp .ge 64, 3) := by decide +kernel
theorem dX4_take_50 : decode cX4_take 50 = .ok (.aload_n 1, 1) := by decide +kernel
theorem dX4_take_51 : decode cX4_take 51 = .ok (.getfield 45, 3) := by decide +kernel
theorem dX4_take_54 : decode cX4_take 54 = .ok (.iload_n 3, 1) := by decide +kernel
theorem dX4_take_55 : decode cX4_take 55 = .ok (.baload, 1) := by decide +kernel
theorem dX4_take_56 : decode cX4_take 56 = .ok (.sipush 255, 3) := by decide +kernel
theorem dX4_take_59 : decode cX4_take 59 = .ok (.iand, 1) := by decide +kernel
theorem dX4_take_60 : decode cX4_take 60 = .ok (.istore 4, 2) := by decide +kernel
theorem dX4_take_62 : decode cX4_take 62 = .ok (.aload_n 1, 1) := by decide +kernel
theorem dX4_take_63 : decode cX4_take 63 = .ok (.getfield 45, 3) := by decide +kernel
theorem dX4_take_66 : decode cX4_take 66 = .ok (.iload_n 3, 1) := by decide +kernel
theorem dX4_take_67 : decode cX4_take 67 = .ok (.iconst 1, 1) := by decide +kernel
theorem dX4_take_68 : decode cX4_take 68 = .ok (.iadd, 1) := by decide +kernel
theorem dX4_take_69 : decode cX4_take 69 = .ok (.baload, 1) := by decide +kernel
theorem dX4_take_70 : decode cX4_take 70 = .ok (.sipush 255, 3) := by decide +kernel
theorem dX4_take_73 : decode cX4_take 73 = .ok (.iand, 1) := by decide +kernel
theorem dX4_take_74 : decode cX4_take 74 = .ok (.istore 5, 2) := by decide +kernel
theorem dX4_take_76 : decode cX4_take 76 = .ok (.iload 4, 2) := by decide +kernel
theorem dX4_take_78 : decode cX4_take 78 = .ok (.iload_n 2, 1) := by decide +kernel
theorem dX4_take_79 : decode cX4_take 79 = .ok (.if_icmp .ge 16, 3) := by decide +kernel
theorem dX4_take_82 : decode cX4_take 82 = .ok (.iload 5, 2) := by decide +kernel
theorem dX4_take_84 : decode cX4_take 84 = .ok (.iload_n 2, 1) := by decide +kernel
theorem dX4_take_85 : decode cX4_take 85 = .ok (.if_icmp .ge 10, 3) := by decide +kernel
theorem dX4_take_88 : decode cX4_take 88 = .ok (.iload 4, 2) := by decide +kernel
theorem dX4_take_90 : decode cX4_take 90 = .ok (.iload 5, 2) := by decide +kernel
theorem dX4_take_92 : decode cX4_take 92 = .ok (.if_icmp .ne 5, 3) := by decide +kernel
theorem dX4_take_95 : decode cX4_take 95 = .ok (.iconst 0, 1) := by decide +kernel
theorem dX4_take_96 : decode cX4_take 96 = .ok (.ireturn, 1) := by decide +kernel
theorem dX4_take_97 : decode cX4_take 97 = .ok (.aload_n 0, 1) := by decide +kernel
theorem dX4_take_98 : decode cX4_take 98 = .ok (.iload 4, 2) := by decide +kernel
theorem dX4_take_100 : decode cX4_take 100 = .ok (.iload 5, 2) := by decide +kernel
theorem dX4_take_102 : decode cX4_take 102 = .ok (.invokevirtual 49, 3) := by decide +kernel
theorem dX4_take_105 : decode cX4_take 105 = .ok (.iinc 3 2, 3) := by decide +kernel
theorem dX4_take_108 : decode cX4_take 108 = .ok (.goto (-68), 3) := by decide +kernel
theorem dX4_take_111 : decode cX4_take 111 = .ok (.iconst 1, 1) := by decide +kernel
theorem dX4_take_112 : decode cX4_take 112 = .ok (.ireturn, 1) := by decide +kernel
theorem dX4_addPair_0 : decode cX4_addPair 0 = .ok (.aload_n 0, 1) := by decide +kernel
theorem dX4_addPair_1 : decode cX4_addPair 1 = .ok (.getfield 15, 3) := by decide +kernel
theorem dX4_addPair_4 : decode cX4_addPair 4 = .ok (.aload_n 0, 1) := by decide +kernel
theorem dX4_addPair_5 : decode cX4_addPair 5 = .ok (.getfield 9, 3) := by decide +kernel
theorem dX4_addPair_8 : decode cX4_addPair 8 = .ok (.iload_n 1, 1) := by decide +kernel
theorem dX4_addPair_9 : decode cX4_addPair 9 = .ok (.iastore, 1) := by decide +kernel
theorem dX4_addPair_10 : decode cX4_addPair 10 = .ok (.aload_n 0, 1) := by decide +kernel
theorem dX4_addPair_11 : decode cX4_addPair 11 = .ok (.getfield 19, 3) := by decide +kernel
theorem dX4_addPair_14 : decode cX4_addPair 14 = .ok (.aload_n 0, 1) := by decide +kernel
theorem dX4_addPair_15 : decode cX4_addPair 15 = .ok (.getfield 9, 3) := by decide +kernel
theorem dX4_addPair_18 : decode cX4_addPair 18 = .ok (.iload_n 2, 1) := by decide +kernel
theorem dX4_addPair_19 : decode cX4_addPair 19 = .ok (.iastore, 1) := by decide +kernel
theorem dX4_addPair_20 : decode cX4_addPair 20 = .ok (.aload_n 0, 1) := by decide +kernel
theorem dX4_addPair_21 : decode cX4_addPair 21 = .ok (.dup, 1) := by decide +kernel
theorem dX4_addPair_22 : decode cX4_addPair 22 = .ok (.getfield 9, 3) := by decide +kernel
theorem dX4_addPair_25 : decode cX4_addPair 25 = .ok (.iconst 1, 1) := by decide +kernel
theorem dX4_addPair_26 : decode cX4_addPair 26 = .ok (.iadd, 1) := by decide +kernel
theorem dX4_addPair_27 : decode cX4_addPair 27 = .ok (.putfield 9, 3) := by decide +kernel
theorem dX4_addPair_30 : decode cX4_addPair 30 = .ok (.aload_n 0, 1) := by decide +kernel
theorem dX4_addPair_31 : decode cX4_addPair 31 = .ok (.getfield 22, 3) := by decide +kernel
theorem dX4_addPair_34 : decode cX4_addPair 34 = .ok (.iload_n 1, 1) := by decide +kernel
theorem dX4_addPair_35 : decode cX4_addPair 35 = .ok (.dup2, 1) := by decide +kernel
theorem dX4_addPair_36 : decode cX4_addPair 36 = .ok (.iaload, 1) := by decide +kernel
theorem dX4_addPair_37 : decode cX4_addPair 37 = .ok (.iconst 1, 1) := by decide +kernel
theorem dX4_addPair_38 : decode cX4_addPair 38 = .ok (.iload_n 2, 1) := by decide +kernel
theorem dX4_addPair_39 : decode cX4_addPair 39 = .ok (.ishl, 1) := by decide +kernel
theorem dX4_addPair_40 : decode cX4_addPair 40 = .ok (.ior, 1) := by decide +kernel
theorem dX4_addPair_41 : decode cX4_addPair 41 = .ok (.iastore, 1) := by decide +kernel
theorem dX4_addPair_42 : decode cX4_addPair 42 = .ok (.aload_n 0, 1) := by decide +kernel
theorem dX4_addPair_43 : decode cX4_addPair 43 = .ok (.getfield 22, 3) := by decide +kernel
theorem dX4_addPair_46 : decode cX4_addPair 46 = .ok (.iload_n 2, 1) := by decide +kernel
theorem dX4_addPair_47 : decode cX4_addPair 47 = .ok (.dup2, 1) := by decide +kernel
theorem dX4_addPair_48 : decode cX4_addPair 48 = .ok (.iaload, 1) := by decide +kernel
theorem dX4_addPair_49 : decode cX4_addPair 49 = .ok (.iconst 1, 1) := by decide +kernel
theorem dX4_addPair_50 : decode cX4_addPair 50 = .ok (.iload_n 1, 1) := by decide +kernel
theorem dX4_addPair_51 : decode cX4_addPair 51 = .ok (.ishl, 1) := by decide +kernel
theorem dX4_addPair_52 : decode cX4_addPair 52 = .ok (.ior, 1) := by decide +kernel
theorem dX4_addPair_53 : decode cX4_addPair 53 = .ok (.iastore, 1) := by decide +kernel
theorem dX4_addPair_54 : decode cX4_addPair 54 = .ok (.aload_n 0, 1) := by decide +kernel
theorem dX4_addPair_55 : decode cX4_addPair 55 = .ok (.dup, 1) := by decide +kernel
theorem dX4_addPair_56 : decode cX4_addPair 56 = .ok (.getfield 25, 3) := by decide +kernel
theorem dX4_addPair_59 : decode cX4_addPair 59 = .ok (.iconst 1, 1) := by decide +kernel
theorem dX4_addPair_60 : decode cX4_addPair 60 = .ok (.iload_n 1, 1) := by decide +kernel
theorem dX4_addPair_61 : decode cX4_addPair 61 = .ok (.ishl, 1) := by decide +kernel
theorem dX4_addPair_62 : decode cX4_addPair 62 = .ok (.iconst 1, 1) := by decide +kernel
theorem dX4_addPair_63 : decode cX4_addPair 63 = .ok (.iload_n 2, 1) := by decide +kernel
theorem dX4_addPair_64 : decode cX4_addPair 64 = .ok (.ishl, 1) := by decide +kernel
theorem dX4_addPair_65 : decode cX4_addPair 65 = .ok (.ior, 1) := by decide +kernel
theorem dX4_addPair_66 : decode cX4_addPair 66 = .ok (.ior, 1) := by decide +kernel
theorem dX4_addPair_67 : decode cX4_addPair 67 = .ok (.putfield 25, 3) := by decide +kernel
theorem dX4_addPair_70 : decode cX4_addPair 70 = .ok (.return_, 1) := by decide +kernel
theorem dX4_waysToBe_0 : decode cX4_waysToBe 0 = .ok (.iconst 1, 1) := by decide +kernel
theorem dX4_waysToBe_1 : decode cX4_waysToBe 1 = .ok (.istore_n 1, 1) := by decide +kernel
theorem dX4_waysToBe_2 : decode cX4_waysToBe 2 = .ok (.aload_n 0, 1) := by decide +kernel
theorem dX4_waysToBe_3 : decode cX4_waysToBe 3 = .ok (.getfield 25, 3) := by decide +kernel
theorem dX4_waysToBe_6 : decode cX4_waysToBe 6 = .ok (.istore_n 2, 1) := by decide +kernel
theorem dX4_waysToBe_7 : decode cX4_waysToBe 7 = .ok (.iconst 0, 1) := by decide +kernel
theorem dX4_waysToBe_8 : decode cX4_waysToBe 8 = .ok (.istore_n 3, 1) := by decide +kernel
theorem dX4_waysToBe_9 : decode cX4_waysToBe 9 = .ok (.iload_n 3, 1) := by decide +kernel
theorem dX4_waysToBe_10 : decode cX4_waysToBe 10 = .ok (.bipush 10, 2) := by decide +kernel
theorem dX4_waysToBe_12 : decode cX4_waysToBe 12 = .ok (.if_icmp .ge 53, 3) := by decide +kernel
theorem dX4_waysToBe_15 : decode cX4_waysToBe 15 = .ok (.iload_n 2, 1) := by decide +kernel
theorem dX4_waysToBe_16 : decode cX4_waysToBe 16 = .ok (.ifCond .eq 49, 3) := by decide +kernel
theorem dX4_waysToBe_19 : decode cX4_waysToBe 19 = .ok (.aload_n 0, 1) := by decide +kernel
theorem dX4_waysToBe_20 : decode cX4_waysToBe 20 = .ok (.iload_n 2, 1) := by decide +kernel
theorem dX4_waysToBe_21 : decode cX4_waysToBe 21 = .ok (.iload_n 2, 1) := by decide +kernel
theorem dX4_waysToBe_22 : decode cX4_waysToBe 22 = .ok (.ineg, 1) := by decide +kernel
theorem dX4_waysToBe_23 : decode cX4_waysToBe 23 = .ok (.iand, 1) := by decide +kernel
theorem dX4_waysToBe_24 : decode cX4_waysToBe 24 = .ok (.invokevirtual 53, 3) := by decide +kernel
theorem dX4_waysToBe_27 : decode cX4_waysToBe 27 = .ok (.aload_n 0, 1) := by decide +kernel
theorem dX4_waysToBe_28 : decode cX4_waysToBe 28 = .ok (.getfield 28, 3) := by decide +kernel
theorem dX4_waysToBe_31 : decode cX4_waysToBe 31 = .ok (.aload_n 0, 1) := by decide +kernel
theorem dX4_waysToBe_32 : decode cX4_waysToBe 32 = .ok (.getfield 31, 3) := by decide +kernel
theorem dX4_waysToBe_35 : decode cX4_waysToBe 35 = .ok (.iand, 1) := by decide +kernel
theorem dX4_waysToBe_36 : decode cX4_waysToBe 36 = .ok (.ifCond .eq 5, 3) := by decide +kernel
theorem dX4_waysToBe_39 : decode cX4_waysToBe 39 = .ok (.iconst 0, 1) := by decide +kernel
theorem dX4_waysToBe_40 : decode cX4_waysToBe 40 = .ok (.ireturn, 1) := by decide +kernel
theorem dX4_waysToBe_41 : decode cX4_waysToBe 41 = .ok (.iload_n 1, 1) := by decide +kernel
theorem dX4_waysToBe_42 : decode cX4_waysToBe 42 = .ok (.iconst 2, 1) := by decide +kernel
theorem dX4_waysToBe_43 : decode cX4_waysToBe 43 = .ok (.imul, 1) := by decide +kernel
theorem dX4_waysToBe_44 : decode cX4_waysToBe 44 = .ok (.istore_n 1, 1) := by decide +kernel
theorem dX4_waysToBe_45 : decode cX4_waysToBe 45 = .ok (.iload_n 2, 1) := by decide +kernel
theorem dX4_waysToBe_46 : decode cX4_waysToBe 46 = .ok (.aload_n 0, 1) := by decide +kernel
theorem dX4_waysToBe_47 : decode cX4_waysToBe 47 = .ok (.getfield 28, 3) := by decide +kernel
theorem dX4_waysToBe_50 : decode cX4_waysToBe 50 = .ok (.aload_n 0, 1) := by decide +kernel
theorem dX4_waysToBe_51 : decode cX4_waysToBe 51 = .ok (.getfield 31, 3) := by decide +kernel
theorem dX4_waysToBe_54 : decode cX4_waysToBe 54 = .ok (.ior, 1) := by decide +kernel
theorem dX4_waysToBe_55 : decode cX4_waysToBe 55 = .ok (.iconst (-1), 1) := by decide +kernel
theorem dX4_waysToBe_56 : decode cX4_waysToBe 56 = .ok (.ixor, 1) := by decide +kernel
theorem dX4_waysToBe_57 : decode cX4_waysToBe 57 = .ok (.iand, 1) := by decide +kernel
theorem dX4_waysToBe_58 : decode cX4_waysToBe 58 = .ok (.istore_n 2, 1) := by decide +kernel
theorem dX4_waysToBe_59 : decode cX4_waysToBe 59 = .ok (.iinc 3 1, 3) := by decide +kernel
theorem dX4_waysToBe_62 : decode cX4_waysToBe 62 = .ok (.goto (-53), 3) := by decide +kernel
theorem dX4_waysToBe_65 : decode cX4_waysToBe 65 = .ok (.iload_n 1, 1) := by decide +kernel
theorem dX4_waysToBe_66 : decode cX4_waysToBe 66 = .ok (.ireturn, 1) := by decide +kernel
theorem dX4_bound_0 : decode cX4_bound 0 = .ok (.aload_n 0, 1) := by decide +kernel
theorem dX4_bound_1 : decode cX4_bound 1 = .ok (.getfield 25, 3) := by decide +kernel
theorem dX4_bound_4 : decode cX4_bound 4 = .ok (.ifCond .eq 10, 3) := by decide +kernel
theorem dX4_bound_7 : decode cX4_bound 7 = .ok (.aload_n 0, 1) := by decide +kernel
theorem dX4_bound_8 : decode cX4_bound 8 = .ok (.invokevirtual 57, 3) := by decide +kernel
theorem dX4_bound_11 : decode cX4_bound 11 = .ok (.ifCond .ne 5, 3) := by decide +kernel
theorem dX4_bound_14 : decode cX4_bound 14 = .ok (.iconst (-1), 1) := by decide +kernel
theorem dX4_bound_15 : decode cX4_bound 15 = .ok (.ireturn, 1) := by decide +kernel
theorem dX4_bound_16 : decode cX4_bound 16 = .ok (.aload_n 0, 1) := by decide +kernel
theorem dX4_bound_17 : decode cX4_bound 17 = .ok (.aload_n 0, 1) := by decide +kernel
theorem dX4_bound_18 : decode cX4_bound 18 = .ok (.getfield 25, 3) := by decide +kernel
theorem dX4_bound_21 : decode cX4_bound 21 = .ok (.aload_n 0, 1) := by decide +kernel
theorem dX4_bound_22 : decode cX4_bound 22 = .ok (.getfield 25, 3) := by decide +kernel
theorem dX4_bound_25 : decode cX4_bound 25 = .ok (.ineg, 1) := by decide +kernel
theorem dX4_bound_26 : decode cX4_bound 26 = .ok (.iand, 1) := by decide +kernel
theorem dX4_bound_27 : decode cX4_bound 27 = .ok (.invokevirtual 53, 3) := by decide +kernel
theorem dX4_bound_30 : decode cX4_bound 30 = .ok (.iload_n 1, 1) := by decide +kernel
theorem dX4_bound_31 : decode cX4_bound 31 = .ok (.ifCond .eq 10, 3) := by decide +kernel
theorem dX4_bound_34 : decode cX4_bound 34 = .ok (.aload_n 0, 1) := by decide +kernel
theorem dX4_bound_35 : decode cX4_bound 35 = .ok (.getfield 28, 3) := by decide +kernel
theorem dX4_bound_38 : decode cX4_bound 38 = .ok (.goto 7, 3) := by decide +kernel
theorem dX4_bound_41 : decode cX4_bound 41 = .ok (.aload_n 0, 1) := by decide +kernel
theorem dX4_bound_42 : decode cX4_bound 42 = .ok (.getfield 31, 3) := by decide +kernel
theorem dX4_bound_45 : decode cX4_bound 45 = .ok (.ireturn, 1) := by decide +kernel
theorem dX4_spreadFrom_0 : decode cX4_spreadFrom 0 = .ok (.aload_n 0, 1) := by decide +kernel
theorem dX4_spreadFrom_1 : decode cX4_spreadFrom 1 = .ok (.iload_n 1, 1) := by decide +kernel
theorem dX4_spreadFrom_2 : decode cX4_spreadFrom 2 = .ok (.putfield 28, 3) := by decide +kernel
theorem dX4_spreadFrom_5 : decode cX4_spreadFrom 5 = .ok (.aload_n 0, 1) := by decide +kernel
theorem dX4_spreadFrom_6 : decode cX4_spreadFrom 6 = .ok (.iconst 0, 1) := by decide +kernel
theorem dX4_spreadFrom_7 : decode cX4_spreadFrom 7 = .ok (.putfield 31, 3) := by decide +kernel
theorem dX4_spreadFrom_10 : decode cX4_spreadFrom 10 = .ok (.iconst 0, 1) := by decide +kernel
theorem dX4_spreadFrom_11 : decode cX4_spreadFrom 11 = .ok (.istore_n 2, 1) := by decide +kernel
theorem dX4_spreadFrom_12 : decode cX4_spreadFrom 12 = .ok (.iconst 0, 1) := by decide +kernel
theorem dX4_spreadFrom_13 : decode cX4_spreadFrom 13 = .ok (.istore_n 3, 1) := by decide +kernel
theorem dX4_spreadFrom_14 : decode cX4_spreadFrom 14 = .ok (.iload_n 3, 1) := by decide +kernel
theorem dX4_spreadFrom_15 : decode cX4_spreadFrom 15 = .ok (.bipush 20, 2) := by decide +kernel
theorem dX4_spreadFrom_17 : decode cX4_spreadFrom 17 = .ok (.if_icmp .gt 56, 3) := by decide +kernel
theorem dX4_spreadFrom_20 : decode cX4_spreadFrom 20 = .ok (.iload_n 2, 1) := by decide +kernel
theorem dX4_spreadFrom_21 : decode cX4_spreadFrom 21 = .ok (.aload_n 0, 1) := by decide +kernel
theorem dX4_spreadFrom_22 : decode cX4_spreadFrom 22 = .ok (.getfield 28, 3) := by decide +kernel
theorem dX4_spreadFrom_25 : decode cX4_spreadFrom 25 = .ok (.if_icmp .eq 48, 3) := by decide +kernel
theorem dX4_spreadFrom_28 : decode cX4_spreadFrom 28 = .ok (.aload_n 0, 1) := by decide +kernel
theorem dX4_spreadFrom_29 : decode cX4_spreadFrom 29 = .ok (.getfield 28, 3) := by decide +kernel
theorem dX4_spreadFrom_32 : decode cX4_spreadFrom 32 = .ok (.istore_n 2, 1) := by decide +kernel
theorem dX4_spreadFrom_33 : decode cX4_spreadFrom 33 = .ok (.aload_n 0, 1) := by decide +kernel
theorem dX4_spreadFrom_34 : decode cX4_spreadFrom 34 = .ok (.dup, 1) := by decide +kernel
theorem dX4_spreadFrom_35 : decode cX4_spreadFrom 35 = .ok (.getfield 31, 3) := by decide +kernel
theorem dX4_spreadFrom_38 : decode cX4_spreadFrom 38 = .ok (.aload_n 0, 1) := by decide +kernel
theorem dX4_spreadFrom_39 : decode cX4_spreadFrom 39 = .ok (.aload_n 0, 1) := by decide +kernel
theorem dX4_spreadFrom_40 : decode cX4_spreadFrom 40 = .ok (.getfield 28, 3) := by decide +kernel
theorem dX4_spreadFrom_43 : decode cX4_spreadFrom 43 = .ok (.invokevirtual 61, 3) := by decide +kernel
theorem dX4_spreadFrom_46 : decode cX4_spreadFrom 46 = .ok (.ior, 1) := by decide +kernel
theorem dX4_spreadFrom_47 : decode cX4_spreadFrom 47 = .ok (.putfield 31, 3) := by decide +kernel
theorem dX4_spreadFrom_50 : decode cX4_spreadFrom 50 = .ok (.aload_n 0, 1) := by decide +kernel
theorem dX4_spreadFrom_51 : decode cX4_spreadFrom 51 = .ok (.dup, 1) := by decide +kernel
theorem dX4_spreadFrom_52 : decode cX4_spreadFrom 52 = .ok (.getfield 28, 3) := by decide +kernel
theorem dX4_spreadFrom_55 : decode cX4_spreadFrom 55 = .ok (.aload_n 0, 1) := by decide +kernel
theorem dX4_spreadFrom_56 : decode cX4_spreadFrom 56 = .ok (.aload_n 0, 1) := by decide +kernel
theorem dX4_spreadFrom_57 : decode cX4_spreadFrom 57 = .ok (.getfield 31, 3) := by decide +kernel
theorem dX4_spreadFrom_60 : decode cX4_spreadFrom 60 = .ok (.invokevirtual 61, 3) := by decide +kernel
theorem dX4_spreadFrom_63 : decode cX4_spreadFrom 63 = .ok (.ior, 1) := by decide +kernel
theorem dX4_spreadFrom_64 : decode cX4_spreadFrom 64 = .ok (.putfield 28, 3) := by decide +kernel
theorem dX4_spreadFrom_67 : decode cX4_spreadFrom 67 = .ok (.iinc 3 1, 3) := by decide +kernel
theorem dX4_spreadFrom_70 : decode cX4_spreadFrom 70 = .ok (.goto (-56), 3) := by decide +kernel
theorem dX4_spreadFrom_73 : decode cX4_spreadFrom 73 = .ok (.return_, 1) := by decide +kernel
theorem dX4_nearAny_0 : decode cX4_nearAny 0 = .ok (.iconst 0, 1) := by decide +kernel
theorem dX4_nearAny_1 : decode cX4_nearAny 1 = .ok (.istore_n 2, 1) := by decide +kernel
theorem dX4_nearAny_2 : decode cX4_nearAny 2 = .ok (.iconst 0, 1) := by decide +kernel
theorem dX4_nearAny_3 : decode cX4_nearAny 3 = .ok (.istore_n 3, 1) := by decide +kernel
theorem dX4_nearAny_4 : decode cX4_nearAny 4 = .ok (.iload_n 3, 1) := by decide +kernel
theorem dX4_nearAny_5 : decode cX4_nearAny 5 = .ok (.bipush 10, 2) := by decide +kernel
theorem dX4_nearAny_7 : decode cX4_nearAny 7 = .ok (.if_icmp .ge 27, 3) := by decide +kernel
theorem dX4_nearAny_10 : decode cX4_nearAny 10 = .ok (.iload_n 1, 1) := by decide +kernel
theorem dX4_nearAny_11 : decode cX4_nearAny 11 = .ok (.iload_n 3, 1) := by decide +kernel
theorem dX4_nearAny_12 : decode cX4_nearAny 12 = .ok (.ishr, 1) := by decide +kernel
theorem dX4_nearAny_13 : decode cX4_nearAny 13 = .ok (.iconst 1, 1) := by decide +kernel
theorem dX4_nearAny_14 : decode cX4_nearAny 14 = .ok (.iand, 1) := by decide +kernel
theorem dX4_nearAny_15 : decode cX4_nearAny 15 = .ok (.iconst 1, 1) := by decide +kernel
theorem dX4_nearAny_16 : decode cX4_nearAny 16 = .ok (.if_icmp .ne 12, 3) := by decide +kernel
theorem dX4_nearAny_19 : decode cX4_nearAny 19 = .ok (.iload_n 2, 1) := by decide +kernel
theorem dX4_nearAny_20 : decode cX4_nearAny 20 = .ok (.aload_n 0, 1) := by decide +kernel
theorem dX4_nearAny_21 : decode cX4_nearAny 21 = .ok (.getfield 22, 3) := by decide +kernel
theorem dX4_nearAny_24 : decode cX4_nearAny 24 = .ok (.iload_n 3, 1) := by decide +kernel
theorem dX4_nearAny_25 : decode cX4_nearAny 25 = .ok (.iaload, 1) := by decide +kernel
theorem dX4_nearAny_26 : decode cX4_nearAny 26 = .ok (.ior, 1) := by decide +kernel
theorem dX4_nearAny_27 : decode cX4_nearAny 27 = .ok (.istore_n 2, 1) := by decide +kernel
theorem dX4_nearAny_28 : decode cX4_nearAny 28 = .ok (.iinc 3 1, 3) := by decide +kernel
theorem dX4_nearAny_31 : decode cX4_nearAny 31 = .ok (.goto (-27), 3) := by decide +kernel
theorem dX4_nearAny_34 : decode cX4_nearAny 34 = .ok (.iload_n 2, 1) := by decide +kernel
theorem dX4_nearAny_35 : decode cX4_nearAny 35 = .ok (.ireturn, 1) := by decide +kernel
theorem dX4_fewestFalse_0 : decode cX4_fewestFalse 0 = .ok (.iconst 1, 1) := by decide +kernel
theorem dX4_fewestFalse_1 : decode cX4_fewestFalse 1 = .ok (.aload_n 0, 1) := by decide +kernel
theorem dX4_fewestFalse_2 : decode cX4_fewestFalse 2 = .ok (.getfield 9, 3) := by decide +kernel
theorem dX4_fewestFalse_5 : decode cX4_fewestFalse 5 = .ok (.ishl, 1) := by decide +kernel
theorem dX4_fewestFalse_6 : decode cX4_fewestFalse 6 = .ok (.iconst 1, 1) := by decide +kernel
theorem dX4_fewestFalse_7 : decode cX4_fewestFalse 7 = .ok (.isub, 1) := by decide +kernel
theorem dX4_fewestFalse_8 : decode cX4_fewestFalse 8 = .ok (.istore_n 2, 1) := by decide +kernel
theorem dX4_fewestFalse_9 : decode cX4_fewestFalse 9 = .ok (.iconst 0, 1) := by decide +kernel
theorem dX4_fewestFalse_10 : decode cX4_fewestFalse 10 = .ok (.istore_n 3, 1) := by decide +kernel
theorem dX4_fewestFalse_11 : decode cX4_fewestFalse 11 = .ok (.iload_n 3, 1) := by decide +kernel
theorem dX4_fewestFalse_12 : decode cX4_fewestFalse 12 = .ok (.iload_n 1, 1) := by decide +kernel
theorem dX4_fewestFalse_13 : decode cX4_fewestFalse 13 = .ok (.if_icmp .ge 47, 3) := by decide +kernel
theorem dX4_fewestFalse_16 : decode cX4_fewestFalse 16 = .ok (.aload_n 0, 1) := by decide +kernel
theorem dX4_fewestFalse_17 : decode cX4_fewestFalse 17 = .ok (.iload_n 3, 1) := by decide +kernel
theorem dX4_fewestFalse_18 : decode cX4_fewestFalse 18 = .ok (.invokevirtual 65, 3) := by decide +kernel
theorem dX4_fewestFalse_21 : decode cX4_fewestFalse 21 = .ok (.istore 4, 2) := by decide +kernel
theorem dX4_fewestFalse_23 : decode cX4_fewestFalse 23 = .ok (.iload 4, 2) := by decide +kernel
theorem dX4_fewestFalse_25 : decode cX4_fewestFalse 25 = .ok (.invokestatic 68, 3) := by decide +kernel
theorem dX4_fewestFalse_28 : decode cX4_fewestFalse 28 = .ok (.iload_n 2, 1) := by decide +kernel
theorem dX4_fewestFalse_29 : decode cX4_fewestFalse 29 = .ok (.invokestatic 68, 3) := by decide +kernel
theorem dX4_fewestFalse_32 : decode cX4_fewestFalse 32 = .ok (.isub, 1) := by decide +kernel
theorem dX4_fewestFalse_33 : decode cX4_fewestFalse 33 = .ok (.istore 5, 2) := by decide +kernel
theorem dX4_fewestFalse_35 : decode cX4_fewestFalse 35 = .ok (.iload 5, 2) := by decide +kernel
theorem dX4_fewestFalse_37 : decode cX4_fewestFalse 37 = .ok (.ifCond .lt 14, 3) := by decide +kernel
theorem dX4_fewestFalse_40 : decode cX4_fewestFalse 40 = .ok (.iload 5, 2) := by decide +kernel
theorem dX4_fewestFalse_42 : decode cX4_fewestFalse 42 = .ok (.ifCond .ne 12, 3) := by decide +kernel
theorem dX4_fewestFalse_45 : decode cX4_fewestFalse 45 = .ok (.iload 4, 2) := by decide +kernel
theorem dX4_fewestFalse_47 : decode cX4_fewestFalse 47 = .ok (.iload_n 2, 1) := by decide +kernel
theorem dX4_fewestFalse_48 : decode cX4_fewestFalse 48 = .ok (.if_icmp .ge 6, 3) := by decide +kernel
theorem dX4_fewestFalse_51 : decode cX4_fewestFalse 51 = .ok (.iload 4, 2) := by decide +kernel
theorem dX4_fewestFalse_53 : decode cX4_fewestFalse 53 = .ok (.istore_n 2, 1) := by decide +kernel
theorem dX4_fewestFalse_54 : decode cX4_fewestFalse 54 = .ok (.iinc 3 1, 3) := by decide +kernel
theorem dX4_fewestFalse_57 : decode cX4_fewestFalse 57 = .ok (.goto (-46), 3) := by decide +kernel
theorem dX4_fewestFalse_60 : decode cX4_fewestFalse 60 = .ok (.iload_n 2, 1) := by decide +kernel
theorem dX4_fewestFalse_61 : decode cX4_fewestFalse 61 = .ok (.ireturn, 1) := by decide +kernel
theorem dX4_brokenBy_0 : decode cX4_brokenBy 0 = .ok (.iconst 0, 1) := by decide +kernel
theorem dX4_brokenBy_1 : decode cX4_brokenBy 1 = .ok (.istore_n 2, 1) := by decide +kernel
theorem dX4_brokenBy_2 : decode cX4_brokenBy 2 = .ok (.iconst 0, 1) := by decide +kernel
theorem dX4_brokenBy_3 : decode cX4_brokenBy 3 = .ok (.istore_n 3, 1) := by decide +kernel
theorem dX4_brokenBy_4 : decode cX4_brokenBy 4 = .ok (.iload_n 3, 1) := by decide +kernel
theorem dX4_brokenBy_5 : decode cX4_brokenBy 5 = .ok (.aload_n 0, 1) := by decide +kernel
theorem dX4_brokenBy_6 : decode cX4_brokenBy 6 = .ok (.getfield 9, 3) := by decide +kernel
theorem dX4_brokenBy_9 : decode cX4_brokenBy 9 = .ok (.if_icmp .ge 38, 3) := by decide +kernel
theorem dX4_brokenBy_12 : decode cX4_brokenBy 12 = .ok (.iload_n 1, 1) := by decide +kernel
theorem dX4_brokenBy_13 : decode cX4_brokenBy 13 = .ok (.aload_n 0, 1) := by decide +kernel
theorem dX4_brokenBy_14 : decode cX4_brokenBy 14 = .ok (.getfield 15, 3) := by decide +kernel
theorem dX4_brokenBy_17 : decode cX4_brokenBy 17 = .ok (.iload_n 3, 1) := by decide +kernel
theorem dX4_brokenBy_18 : decode cX4_brokenBy 18 = .ok (.iaload, 1) := by decide +kernel
theorem dX4_brokenBy_19 : decode cX4_brokenBy 19 = .ok (.ishr, 1) := by decide +kernel
theorem dX4_brokenBy_20 : decode cX4_brokenBy 20 = .ok (.iconst 1, 1) := by decide +kernel
theorem dX4_brokenBy_21 : decode cX4_brokenBy 21 = .ok (.iand, 1) := by decide +kernel
theorem dX4_brokenBy_22 : decode cX4_brokenBy 22 = .ok (.iload_n 1, 1) := by decide +kernel
theorem dX4_brokenBy_23 : decode cX4_brokenBy 23 = .ok (.aload_n 0, 1) := by decide +kernel
theorem dX4_brokenBy_24 : decode cX4_brokenBy 24 = .ok (.getfield 19, 3) := by decide +kernel
theorem dX4_brokenBy_27 : decode cX4_brokenBy 27 = .ok (.iload_n 3, 1) := by decide +kernel
theorem dX4_brokenBy_28 : decode cX4_brokenBy 28 = .ok (.iaload, 1) := by decide +kernel
theorem dX4_brokenBy_29 : decode cX4_brokenBy 29 = .ok (.ishr, 1) := by decide +kernel
theorem dX4_brokenBy_30 : decode cX4_brokenBy 30 = .ok (.iconst 1, 1) := by decide +kernel
theorem dX4_brokenBy_31 : decode cX4_brokenBy 31 = .ok (.iand, 1) := by decide +kernel
theorem dX4_brokenBy_32 : decode cX4_brokenBy 32 = .ok (.if_icmp .ne 9, 3) := by decide +kernel
theorem dX4_brokenBy_35 : decode cX4_brokenBy 35 = .ok (.iload_n 2, 1) := by decide +kernel
theorem dX4_brokenBy_36 : decode cX4_brokenBy 36 = .ok (.iconst 1, 1) := by decide +kernel
theorem dX4_brokenBy_37 : decode cX4_brokenBy 37 = .ok (.iload_n 3, 1) := by decide +kernel
theorem dX4_brokenBy_38 : decode cX4_brokenBy 38 = .ok (.ishl, 1) := by decide +kernel
theorem dX4_brokenBy_39 : decode cX4_brokenBy 39 = .ok (.ior, 1) := by decide +kernel
theorem dX4_brokenBy_40 : decode cX4_brokenBy 40 = .ok (.istore_n 2, 1) := by decide +kernel
theorem dX4_brokenBy_41 : decode cX4_brokenBy 41 = .ok (.iinc 3 1, 3) := by decide +kernel
theorem dX4_brokenBy_44 : decode cX4_brokenBy 44 = .ok (.goto (-40), 3) := by decide +kernel
theorem dX4_brokenBy_47 : decode cX4_brokenBy 47 = .ok (.iload_n 2, 1) := by decide +kernel
theorem dX4_brokenBy_48 : decode cX4_brokenBy 48 = .ok (.ireturn, 1) := by decide +kernel
theorem dX5_init_0 : decode cX5_init 0 = .ok (.aload_n 0, 1) := by decide +kernel
theorem dX5_init_1 : decode cX5_init 1 = .ok (.invokespecial 3, 3) := by decide +kernel
theorem dX5_init_4 : decode cX5_init 4 = .ok (.aload_n 0, 1) := by decide +kernel
theorem dX5_init_5 : decode cX5_init 5 = .ok (.sipush 1024, 3) := by decide +kernel
theorem dX5_init_8 : decode cX5_init 8 = .ok (.newarray .int, 2) := by decide +kernel
theorem dX5_init_10 : decode cX5_init 10 = .ok (.putfield 9, 3) := by decide +kernel
theorem dX5_init_13 : decode cX5_init 13 = .ok (.aload_n 0, 1) := by decide +kernel
theorem dX5_init_14 : decode cX5_init 14 = .ok (.sipush 1024, 3) := by decide +kernel
theorem dX5_init_17 : decode cX5_init 17 = .ok (.newarray .int, 2) := by decide +kernel
theorem dX5_init_19 : decode cX5_init 19 = .ok (.putfield 15, 3) := by decide +kernel
theorem dX5_init_22 : decode cX5_init 22 = .ok (.aload_n 0, 1) := by decide +kernel
theorem dX5_init_23 : decode cX5_init 23 = .ok (.iconst (-1), 1) := by decide +kernel
theorem dX5_init_24 : decode cX5_init 24 = .ok (.putfield 18, 3) := by decide +kernel
theorem dX5_init_27 : decode cX5_init 27 = .ok (.aload_n 0, 1) := by decide +kernel
theorem dX5_init_28 : decode cX5_init 28 = .ok (.bipush 12, 2) := by decide +kernel
theorem dX5_init_30 : decode cX5_init 30 = .ok (.newarray .int, 2) := by decide +kernel
theorem dX5_init_32 : decode cX5_init 32 = .ok (.putfield 22, 3) := by decide +kernel
theorem dX5_init_35 : decode cX5_init 35 = .ok (.aload_n 0, 1) := by decide +kernel
theorem dX5_init_36 : decode cX5_init 36 = .ok (.iconst (-1), 1) := by decide +kernel
theorem dX5_init_37 : decode cX5_init 37 = .ok (.putfield 25, 3) := by decide +kernel
theorem dX5_init_40 : decode cX5_init 40 = .ok (.aload_n 0, 1) := by decide +kernel
theorem dX5_init_41 : decode cX5_init 41 = .ok (.getfield 9, 3) := by decide +kernel
theorem dX5_init_44 : decode cX5_init 44 = .ok (.iconst (-1), 1) := by decide +kernel
theorem dX5_init_45 : decode cX5_init 45 = .ok (.invokestatic 28, 3) := by decide +kernel
theorem dX5_init_48 : decode cX5_init 48 = .ok (.return_, 1) := by decide +kernel
theorem dX5_forget_0 : decode cX5_forget 0 = .ok (.aload_n 0, 1) := by decide +kernel
theorem dX5_forget_1 : decode cX5_forget 1 = .ok (.getfield 9, 3) := by decide +kernel
theorem dX5_forget_4 : decode cX5_forget 4 = .ok (.iconst (-1), 1) := by decide +kernel
theorem dX5_forget_5 : decode cX5_forget 5 = .ok (.invokestatic 28, 3) := by decide +kernel
theorem dX5_forget_8 : decode cX5_forget 8 = .ok (.aload_n 0, 1) := by decide +kernel
theorem dX5_forget_9 : decode cX5_forget 9 = .ok (.iconst (-1), 1) := by decide +kernel
theorem dX5_forget_10 : decode cX5_forget 10 = .ok (.putfield 18, 3) := by decide +kernel
theorem dX5_forget_13 : decode cX5_forget 13 = .ok (.aload_n 0, 1) := by decide +kernel
theorem dX5_forget_14 : decode cX5_forget 14 = .ok (.iconst (-1), 1) := by decide +kernel
theorem dX5_forget_15 : decode cX5_forget 15 = .ok (.putfield 25, 3) := by decide +kernel
theorem dX5_forget_18 : decode cX5_forget 18 = .ok (.return_, 1) := by decide +kernel
theorem dX5_copyFrom_0 : decode cX5_copyFrom 0 = .ok (.aload_n 1, 1) := by decide +kernel
theorem dX5_copyFrom_1 : decode cX5_copyFrom 1 = .ok (.getfield 9, 3) := by decide +kernel
theorem dX5_copyFrom_4 : decode cX5_copyFrom 4 = .ok (.iconst 0, 1) := by decide +kernel
theorem dX5_copyFrom_5 : decode cX5_copyFrom 5 = .ok (.aload_n 0, 1) := by decide +kernel
theorem dX5_copyFrom_6 : decode cX5_copyFrom 6 = .ok (.getfield 9, 3) := by decide +kernel
theorem dX5_copyFrom_9 : decode cX5_copyFrom 9 = .ok (.iconst 0, 1) := by decide +kernel
theorem dX5_copyFrom_10 : decode cX5_copyFrom 10 = .ok (.sipush 1024, 3) := by decide +kernel
theorem dX5_copyFrom_13 : decode cX5_copyFrom 13 = .ok (.invokestatic 34, 3) := by decide +kernel
theorem dX5_copyFrom_16 : decode cX5_copyFrom 16 = .ok (.aload_n 1, 1) := by decide +kernel
theorem dX5_copyFrom_17 : decode cX5_copyFrom 17 = .ok (.getfield 15, 3) := by decide +kernel
theorem dX5_copyFrom_20 : decode cX5_copyFrom 20 = .ok (.iconst 0, 1) := by decide +kernel
theorem dX5_copyFrom_21 : decode cX5_copyFrom 21 = .ok (.aload_n 0, 1) := by decide +kernel
theorem dX5_copyFrom_22 : decode cX5_copyFrom 22 = .ok (.getfield 15, 3) := by decide +kernel
theorem dX5_copyFrom_25 : decode cX5_copyFrom 25 = .ok (.iconst 0, 1) := by decide +kernel
theorem dX5_copyFrom_26 : decode cX5_copyFrom 26 = .ok (.sipush 1024, 3) := by decide +kernel
theorem dX5_copyFrom_29 : decode cX5_copyFrom 29 = .ok (.invokestatic 34, 3) := by decide +kernel
theorem dX5_copyFrom_32 : decode cX5_copyFrom 32 = .ok (.aload_n 1, 1) := by decide +kernel
theorem dX5_copyFrom_33 : decode cX5_copyFrom 33 = .ok (.getfield 22, 3) := by decide +kernel
theorem dX5_copyFrom_36 : decode cX5_copyFrom 36 = .ok (.iconst 0, 1) := by decide +kernel
theorem dX5_copyFrom_37 : decode cX5_copyFrom 37 = .ok (.aload_n 0, 1) := by decide +kernel
theorem dX5_copyFrom_38 : decode cX5_copyFrom 38 = .ok (.getfield 22, 3) := by decide +kernel
theorem dX5_copyFrom_41 : decode cX5_copyFrom 41 = .ok (.iconst 0, 1) := by decide +kernel
theorem dX5_copyFrom_42 : decode cX5_copyFrom 42 = .ok (.bipush 12, 2) := by decide +kernel
theorem dX5_copyFrom_44 : decode cX5_copyFrom 44 = .ok (.invokestatic 34, 3) := by decide +kernel
theorem dX5_copyFrom_47 : decode cX5_copyFrom 47 = .ok (.aload_n 0, 1) := by decide +kernel
theorem dX5_copyFrom_48 : decode cX5_copyFrom 48 = .ok (.aload_n 1, 1) := by decide +kernel
theorem dX5_copyFrom_49 : decode cX5_copyFrom 49 = .ok (.getfield 18, 3) := by decide +kernel
theorem dX5_copyFrom_52 : decode cX5_copyFrom 52 = .ok (.putfield 18, 3) := by decide +kernel
theorem dX5_copyFrom_55 : decode cX5_copyFrom 55 = .ok (.aload_n 0, 1) := by decide +kernel
theorem dX5_copyFrom_56 : decode cX5_copyFrom 56 = .ok (.aload_n 1, 1) := by decide +kernel
theorem dX5_copyFrom_57 : decode cX5_copyFrom 57 = .ok (.getfield 25, 3) := by decide +kernel
theorem dX5_copyFrom_60 : decode cX5_copyFrom 60 = .ok (.putfield 25, 3) := by decide +kernel
theorem dX5_copyFrom_63 : decode cX5_copyFrom 63 = .ok (.return_, 1) := by decide +kernel
theorem dX6_init_0 : decode cX6_init 0 = .ok (.aload_n 0, 1) := by decide +kernel
theorem dX6_init_1 : decode cX6_init 1 = .ok (.invokespecial 3, 3) := by decide +kernel
theorem dX6_init_4 : decode cX6_init 4 = .ok (.aload_n 0, 1) := by decide +kernel
theorem dX6_init_5 : decode cX6_init 5 = .ok (.bipush 40, 2) := by decide +kernel
theorem dX6_init_7 : decode cX6_init 7 = .ok (.newarray .int, 2) := by decide +kernel
theorem dX6_init_9 : decode cX6_init 9 = .ok (.putfield 11, 3) := by decide +kernel
theorem dX6_init_12 : decode cX6_init 12 = .ok (.aload_n 0, 1) := by decide +kernel
theorem dX6_init_13 : decode cX6_init 13 = .ok (.bipush 40, 2) := by decide +kernel
theorem dX6_init_15 : decode cX6_init 15 = .ok (.newarray .int, 2) := by decide +kernel
theorem dX6_init_17 : decode cX6_init 17 = .ok (.putfield 15, 3) := by decide +kernel
theorem dX6_init_20 : decode cX6_init 20 = .ok (.aload_n 0, 1) := by decide +kernel
theorem dX6_init_21 : decode cX6_init 21 = .ok (.iconst 0, 1) := by decide +kernel
theorem dX6_init_22 : decode cX6_init 22 = .ok (.putfield 18, 3) := by decide +kernel
theorem dX6_init_25 : decode cX6_init 25 = .ok (.aload_n 0, 1) := by decide +kernel
theorem dX6_init_26 : decode cX6_init 26 = .ok (.iconst 0, 1) := by decide +kernel
theorem dX6_init_27 : decode cX6_init 27 = .ok (.putfield 22, 3) := by decide +kernel
theorem dX6_init_30 : decode cX6_init 30 = .ok (.aload_n 0, 1) := by decide +kernel
theorem dX6_init_31 : decode cX6_init 31 = .ok (.iconst 0, 1) := by decide +kernel
theorem dX6_init_32 : decode cX6_init 32 = .ok (.putfield 25, 3) := by decide +kernel
theorem dX6_init_35 : decode cX6_init 35 = .ok (.aload_n 0, 1) := by decide +kernel
theorem dX6_init_36 : decode cX6_init 36 = .ok (.iconst 0, 1) := by decide +kernel
theorem dX6_init_37 : decode cX6_init 37 = .ok (.putfield 28, 3) := by decide +kernel
theorem dX6_init_40 : decode cX6_init 40 = .ok (.aload_n 0, 1) := by decide +kernel
theorem dX6_init_41 : decode cX6_init 41 = .ok (.iconst 0, 1) := by decide +kernel
theorem dX6_init_42 : decode cX6_init 42 = .ok (.putfield 31, 3) := by decide +kernel
theorem dX6_init_45 : decode cX6_init 45 = .ok (.aload_n 0, 1) := by decide +kernel
theorem dX6_init_46 : decode cX6_init 46 = .ok (.iconst 0, 1) := by decide +kernel
theorem dX6_init_47 : decode cX6_init 47 = .ok (.putfield 34, 3) := by decide +kernel
theorem dX6_init_50 : decode cX6_init 50 = .ok (.aload_n 0, 1) := by decide +kernel
theorem dX6_init_51 : decode cX6_init 51 = .ok (.aload_n 1, 1) := by decide +kernel
theorem dX6_init_52 : decode cX6_init 52 = .ok (.putfield 38, 3) := by decide +kernel
theorem dX6_init_55 : decode cX6_init 55 = .ok (.return_, 1) := by decide +kernel
theorem dX6_readTown_0 : decode cX6_readTown 0 = .ok (.aload_n 1, 1) := by decide +kernel
theorem dX6_readTown_1 : decode cX6_readTown 1 = .ok (.invokevirtual 42, 3) := by decide +kernel
theorem dX6_readTown_4 : decode cX6_readTown 4 = .ok (.aload_n 0, 1) := by decide +kernel
theorem dX6_readTown_5 : decode cX6_readTown 5 = .ok (.iconst 0, 1) := by decide +kernel
theorem dX6_readTown_6 : decode cX6_readTown 6 = .ok (.putfield 28, 3) := by decide +kernel
theorem dX6_readTown_9 : decode cX6_readTown 9 = .ok (.aload_n 0, 1) := by decide +kernel
theorem dX6_readTown_10 : decode cX6_readTown 10 = .ok (.iconst 0, 1) := by decide +kernel
theorem dX6_readTown_11 : decode cX6_readTown 11 = .ok (.putfield 31, 3) := by decide +kernel
theorem dX6_readTown_14 : decode cX6_readTown 14 = .ok (.aload_n 0, 1) := by decide +kernel
theorem dX6_readTown_15 : decode cX6_readTown 15 = .ok (.iconst 0, 1) := by decide +kernel
theorem dX6_readTown_16 : decode cX6_readTown 16 = .ok (.putfield 34, 3) := by decide +kernel
theorem dX6_readTown_19 : decode cX6_readTown 19 = .ok (.aload_n 0, 1) := by decide +kernel
theorem dX6_readTown_20 : decode cX6_readTown 20 = .ok (.sipush 900, 3) := by decide +kernel
theorem dX6_readTown_23 : decode cX6_readTown 23 = .ok (.invokevirtual 47, 3) := by decide +kernel
theorem dX6_readTown_26 : decode cX6_readTown 26 = .ok (.iconst 0, 1) := by decide +kernel
theorem dX6_readTown_27 : decode cX6_readTown 27 = .ok (.istore_n 2, 1) := by decide +kernel
theorem dX6_readTown_28 : decode cX6_readTown 28 = .ok (.iload_n 2, 1) := by decide +kernel
theorem dX6_readTown_29 : decode cX6_readTown 29 = .ok (.sipush 900, 3) := by decide +kernel
theorem dX6_readTown_32 : decode cX6_readTown 32 = .ok (.if_icmp .gt 58, 3) := by decide +kernel
theorem dX6_readTown_35 : decode cX6_readTown 35 = .ok (.aload_n 0, 1) := by decide +kernel
theorem dX6_readTown_36 : decode cX6_readTown 36 = .ok (.getfield 38, 3) := by decide +kernel
theorem dX6_readTown_39 : decode cX6_readTown 39 = .ok (.invokevirtual 51, 3) := by decide +kernel
theorem dX6_readTown_42 : decode cX6_readTown 42 = .ok (.aload_n 0, 1) := by decide +kernel
theorem dX6_readTown_43 : decode cX6_readTown 43 = .ok (.getfield 38, 3) := by decide +kernel
theorem dX6_readTown_46 : decode cX6_readTown 46 = .ok (.getfield 56, 3) := by decide +kernel
theorem dX6_readTown_49 : decode cX6_readTown 49 = .ok (.ifCond .ne 15, 3) := by decide +kernel
theorem dX6_readTown_52 : decode cX6_readTown 52 = .ok (.aload_n 1, 1) := by decide +kernel
theorem dX6_readTown_53 : decode cX6_readTown 53 = .ok (.invokevirtual 59, 3) := by decide +kernel
theorem dX6_readTown_56 : decode cX6_readTown 56 = .ok (.aload_n 0, 1) := by decide +kernel
theorem dX6_readTown_57 : decode cX6_readTown 57 = .ok (.sipush 900, 3) := by decide +kernel
theorem dX6_readTown_60 : decode cX6_readTown 60 = .ok (.invokevirtual 62, 3) := by decide +kernel
theorem dX6_readTown_63 : decode cX6_readTown 63 = .ok (.ireturn, 1) := by decide +kernel
theorem dX6_readTown_64 : decode cX6_readTown 64 = .ok (.aload_n 0, 1) := by decide +kernel
theorem dX6_readTown_65 : decode cX6_readTown 65 = .ok (.aload_n 1, 1) := by decide +kernel
theorem dX6_readTown_66 : decode cX6_readTown 66 = .ok (.invokevirtual 66, 3) := by decide +kernel
theorem dX6_readTown_69 : decode cX6_readTown 69 = .ok (.ifCond .ne 5, 3) := by decide +kernel
theorem dX6_readTown_72 : decode cX6_readTown 72 = .ok (.iconst 0, 1) := by decide +kernel
theorem dX6_readTown_73 : decode cX6_readTown 73 = .ok (.ireturn, 1) := by decide +kernel
theorem dX6_readTown_74 : decode cX6_readTown 74 = .ok (.aload_n 0, 1) := by decide +kernel
theorem dX6_readTown_75 : decode cX6_readTown 75 = .ok (.dup, 1) := by decide +kernel
theorem dX6_readTown_76 : decode cX6_readTown 76 = .ok (.getfield 18, 3) := by decide +kernel
theorem dX6_readTown_79 : decode cX6_readTown 79 = .ok (.iconst 1, 1) := by decide +kernel
theorem dX6_readTown_80 : decode cX6_readTown 80 = .ok (.iadd, 1) := by decide +kernel
theorem dX6_readTown_81 : decode cX6_readTown 81 = .ok (.putfield 18, 3) := by decide +kernel
theorem dX6_readTown_84 : decode cX6_readTown 84 = .ok (.iinc 2 1, 3) := by decide +kernel
theorem dX6_readTown_87 : decode cX6_readTown 87 = .ok (.goto (-59), 3) := by decide +kernel
theorem dX6_readTown_90 : decode cX6_readTown 90 = .ok (.iconst 0, 1) := by decide +kernel
theorem dX6_readTown_91 : decode cX6_readTown 91 = .ok (.ireturn, 1) := by decide +kernel
theorem dX6_readBook_0 : decode cX6_readBook 0 = .ok (.aload_n 0, 1) := by decide +kernel
theorem dX6_readBook_1 : decode cX6_readBook 1 = .ok (.sipush 600, 3) := by decide +kernel
theorem dX6_readBook_4 : decode cX6_readBook 4 = .ok (.invokevirtual 47, 3) := by decide +kernel
theorem dX6_readBook_7 : decode cX6_readBook 7 = .ok (.iconst 0, 1) := by decide +kernel
theorem dX6_readBook_8 : decode cX6_readBook 8 = .ok (.istore_n 2, 1) := by decide +kernel
theorem dX6_readBook_9 : decode cX6_readBook 9 = .ok (.iload_n 2, 1) := by decide +kernel
theorem dX6_readBook_10 : decode cX6_readBook 10 = .ok (.sipush 600, 3) := by decide +kernel
theorem dX6_readBook_13 : decode cX6_readBook 13 = .ok (.if_icmp .gt 54, 3) := by decide +kernel
theorem dX6_readBook_16 : decode cX6_readBook 16 = .ok (.aload_n 0, 1) := by decide +kernel
theorem dX6_readBook_17 : decode cX6_readBook 17 = .ok (.getfield 38, 3) := by decide +kernel
theorem dX6_readBook_20 : decode cX6_readBook 20 = .ok (.invokevirtual 51, 3) := by decide +kernel
theorem dX6_readBook_23 : decode cX6_readBook 23 = .ok (.aload_n 0, 1) := by decide +kernel
theorem dX6_readBook_24 : decode cX6_readBook 24 = .ok (.getfield 38, 3) := by decide +kernel
theorem dX6_readBook_27 : decode cX6_readBook 27 = .ok (.getfield 56, 3) := by decide +kernel
theorem dX6_readBook_30 : decode cX6_readBook 30 = .ok (.ifCond .ne 11, 3) := by decide +kernel
theorem dX6_readBook_33 : decode cX6_readBook 33 = .ok (.aload_n 0, 1) := by decide +kernel
theorem dX6_readBook_34 : decode cX6_readBook 34 = .ok (.sipush 600, 3) := by decide +kernel
theorem dX6_readBook_37 : decode cX6_readBook 37 = .ok (.invokevirtual 62, 3) := by decide +kernel
theorem dX6_readBook_40 : decode cX6_readBook 40 = .ok (.ireturn, 1) := by decide +kernel
theorem dX6_readBook_41 : decode cX6_readBook 41 = .ok (.aload_n 0, 1) := by decide +kernel
theorem dX6_readBook_42 : decode cX6_readBook 42 = .ok (.aload_n 1, 1) := by decide +kernel
theorem dX6_readBook_43 : decode cX6_readBook 43 = .ok (.invokevirtual 70, 3) := by decide +kernel
theorem dX6_readBook_46 : decode cX6_readBook 46 = .ok (.ifCond .ne 5, 3) := by decide +kernel
theorem dX6_readBook_49 : decode cX6_readBook 49 = .ok (.iconst 0, 1) := by decide +kernel
theorem dX6_readBook_50 : decode cX6_readBook 50 = .ok (.ireturn, 1) := by decide +kernel
theorem dX6_readBook_51 : decode cX6_readBook 51 = .ok (.aload_n 0, 1) := by decide +kernel
theorem dX6_readBook_52 : decode cX6_readBook 52 = .ok (.dup, 1) := by decide +kernel
theorem dX6_readBook_53 : decode cX6_readBook 53 = .ok (.getfield 18, 3) := by decide +kernel
theorem dX6_readBook_56 : decode cX6_readBook 56 = .ok (.iconst 1, 1) := by decide +kernel
theorem dX6_readBook_57 : decode cX6_readBook 57 = .ok (.iadd, 1) := by decide +kernel
theorem dX6_readBook_58 : decode cX6_readBook 58 = .ok (.putfield 18, 3) := by decide +kernel
theorem dX6_readBook_61 : decode cX6_readBook 61 = .ok (.iinc 2 1, 3) := by decide +kernel
theorem dX6_readBook_64 : decode cX6_readBook 64 = .ok (.goto (-55), 3) := by decide +kernel
theorem dX6_readBook_67 : decode cX6_readBook 67 = .ok (.iconst 0, 1) := by decide +kernel
theorem dX6_readBook_68 : decode cX6_readBook 68 = .ok (.ireturn, 1) := by decide +kernel
theorem dX6_start_0 : decode cX6_start 0 = .ok (.aload_n 0, 1) := by decide +kernel
theorem dX6_start_1 : decode cX6_start 1 = .ok (.getfield 38, 3) := by decide +kernel
theorem dX6_start_4 : decode cX6_start 4 = .ok (.iload_n 1, 1) := by decide +kernel
theorem dX6_start_5 : decode cX6_start 5 = .ok (.invokevirtual 73, 3) := by decide +kernel
theorem dX6_start_8 : decode cX6_start 8 = .ok (.aload_n 0, 1) := by decide +kernel
theorem dX6_start_9 : decode cX6_start 9 = .ok (.iconst 0, 1) := by decide +kernel
theorem dX6_start_10 : decode cX6_start 10 = .ok (.putfield 18, 3) := by decide +kernel
theorem dX6_start_13 : decode cX6_start 13 = .ok (.aload_n 0, 1) := by decide +kernel
theorem dX6_start_14 : decode cX6_start 14 = .ok (.iconst 0, 1) := by decide +kernel
theorem dX6_start_15 : decode cX6_start 15 = .ok (.putfield 22, 3) := by decide +kernel
theorem dX6_start_18 : decode cX6_start 18 = .ok (.aload_n 0, 1) := by decide +kernel
theorem dX6_start_19 : decode cX6_start 19 = .ok (.iconst 0, 1) := by decide +kernel
theorem dX6_start_20 : decode cX6_start 20 = .ok (.putfield 25, 3) := by decide +kernel
theorem dX6_start_23 : decode cX6_start 23 = .ok (.return_, 1) := by decide +kernel
theorem dX6_isWholeText_0 : decode cX6_isWholeText 0 = .ok (.aload_n 0, 1) := by decide +kernel
theorem dX6_isWholeText_1 : decode cX6_isWholeText 1 = .ok (.getfield 38, 3) := by decide +kernel
theorem dX6_isWholeText_4 : decode cX6_isWholeText 4 = .ok (.getfield 76, 3) := by decide +kernel
theorem dX6_isWholeText_7 : decode cX6_isWholeText 7 = .ok (.iload_n 1, 1) := by decide +kernel
theorem dX6_isWholeText_8 : decode cX6_isWholeText 8 = .ok (.if_icmp .le 11, 3) := by decide +kernel
theorem dX6_isWholeText_11 : decode cX6_isWholeText 11 = .ok (.aload_n 0, 1) := by decide +kernel
theorem dX6_isWholeText_12 : decode cX6_isWholeText 12 = .ok (.iconst 1, 1) := by decide +kernel
theorem dX6_isWholeText_13 : decode cX6_isWholeText 13 = .ok (.invokevirtual 79, 3) := by decide +kernel
theorem dX6_isWholeText_16 : decode cX6_isWholeText 16 = .ok (.ifCond .eq 7, 3) := by decide +kernel
theorem dX6_isWholeText_19 : decode cX6_isWholeText 19 = .ok (.iconst 1, 1) := by decide +kernel
theorem dX6_isWholeText_20 : decode cX6_isWholeText 20 = .ok (.goto 4, 3) := by decide +kernel
theorem dX6_isWholeText_23 : decode cX6_isWholeText 23 = .ok (.iconst 0, 1) := by decide +kernel
theorem dX6_isWholeText_24 : decode cX6_isWholeText 24 = .ok (.ireturn, 1) := by decide +kernel
theorem dX6_refuse_0 : decode cX6_refuse 0 = .ok (.aload_n 0, 1) := by decide +kernel
theorem dX6_refuse_1 : decode cX6_refuse 1 = .ok (.iload_n 1, 1) := by decide +kernel
theorem dX6_refuse_2 : decode cX6_refuse 2 = .ok (.putfield 22, 3) := by decide +kernel
theorem dX6_refuse_5 : decode cX6_refuse 5 = .ok (.aload_n 0, 1) := by decide +kernel
theorem dX6_refuse_6 : decode cX6_refuse 6 = .ok (.aload_n 0, 1) := by decide +kernel
theorem dX6_refuse_7 : decode cX6_refuse 7 = .ok (.getfield 38, 3) := by decide +kernel
theorem dX6_refuse_10 : decode cX6_refuse 10 = .ok (.getfield 82, 3) := by decide +kernel
theorem dX6_refuse_13 : decode cX6_refuse 13 = .ok (.putfield 25, 3) := by decide +kernel
theorem dX6_refuse_16 : decode cX6_refuse 16 = .ok (.iconst 0, 1) := by decide +kernel
theorem dX6_refuse_17 : decode cX6_refuse 17 = .ok (.ireturn, 1) := by decide +kernel
theorem dX6_readLine_0 : decode cX6_readLine 0 = .ok (.aload_n 0, 1) := by decide +kernel
theorem dX6_readLine_1 : decode cX6_readLine 1 = .ok (.getfield 38, 3) := by decide +kernel
theorem dX6_readLine_4 : decode cX6_readLine 4 = .ok (.ldc 83, 2) := by decide +kernel
theorem dX6_readLine_6 : decode cX6_readLine 6 = .ok (.invokevirtual 85, 3) := by decide +kernel
theorem dX6_readLine_9 : decode cX6_readLine 9 = .ok (.ifCond .eq 9, 3) := by decide +kernel
theorem dX6_readLine_12 : decode cX6_readLine 12 = .ok (.aload_n 0, 1) := by decide +kernel
theorem dX6_readLine_13 : decode cX6_readLine 13 = .ok (.aload_n 1, 1) := by decide +kernel
theorem dX6_readLine_14 : decode cX6_readLine 14 = .ok (.invokevirtual 89, 3) := by decide +kernel
theorem dX6_readLine_17 : decode cX6_readLine 17 = .ok (.ireturn, 1) := by decide +kernel
theorem dX6_readLine_18 : decode cX6_readLine 18 = .ok (.aload_n 0, 1) := by decide +kernel
theorem dX6_readLine_19 : decode cX6_readLine 19 = .ok (.getfield 38, 3) := by decide +kernel
theorem dX6_readLine_22 : decode cX6_readLine 22 = .ok (.ldc 92, 2) := by decide +kernel
theorem dX6_readLine_24 : decode cX6_readLine 24 = .ok (.invokevirtual 85, 3) := by decide +kernel
theorem dX6_readLine_27 : decode cX6_readLine 27 = .ok (.ifCond .eq 9, 3) := by decide +kernel
theorem dX6_readLine_30 : decode cX6_readLine 30 = .ok (.aload_n 0, 1) := by decide +kernel
theorem dX6_readLine_31 : decode cX6_readLine 31 = .ok (.aload_n 1, 1) := by decide +kernel
theorem dX6_readLine_32 : decode cX6_readLine 32 = .ok (.invokevirtual 94, 3) := by decide +kernel
theorem dX6_readLine_35 : decode cX6_readLine 35 = .ok (.ireturn, 1) := by decide +kernel
theorem dX6_readLine_36 : decode cX6_readLine 36 = .ok (.aload_n 0, 1) := by decide +kernel
theorem dX6_readLine_37 : decode cX6_readLine 37 = .ok (.getfield 38, 3) := by decide +kernel
theorem dX6_readLine_40 : decode cX6_readLine 40 = .ok (.ldc 97, 2) := by decide +kernel
theorem dX6_readLine_42 : decode cX6_readLine 42 = .ok (.invokevirtual 85, 3) := by decide +kernel
theorem dX6_readLine_45 : decode cX6_readLine 45 = .ok (.ifCond .eq 29, 3) := by decide +kernel
theorem dX6_readLine_48 : decode cX6_readLine 48 = .ok (.aload_n 0, 1) := by decide +kernel
theorem dX6_readLine_49 : decode cX6_readLine 49 = .ok (.aload_n 1, 1) := by decide +kernel
theorem dX6_readLine_50 : decode cX6_readLine 50 = .ok (.invokevirtual 99, 3) := by decide +kernel
theorem dX6_readLine_53 : decode cX6_readLine 53 = .ok (.ifCond .eq 19, 3) := by decide +kernel
theorem dX6_readLine_56 : decode cX6_readLine 56 = .ok (.aload_n 0, 1) := by decide +kernel
theorem dX6_readLine_57 : decode cX6_readLine 57 = .ok (.aload_n 1, 1) := by decide +kernel
theorem dX6_readLine_58 : decode cX6_readLine 58 = .ok (.aload_n 1, 1) := by decide +kernel
theorem dX6_readLine_59 : decode cX6_readLine 59 = .ok (.getfield 102, 3) := by decide +kernel
theorem dX6_readLine_62 : decode cX6_readLine 62 = .ok (.invokevirtual 105, 3) := by decide +kernel
theorem dX6_readLine_65 : decode cX6_readLine 65 = .ok (.ifCond .eq 7, 3) := by decide +kernel
theorem dX6_readLine_68 : decode cX6_readLine 68 = .ok (.iconst 1, 1) := by decide +kernel
theorem dX6_readLine_69 : decode cX6_readLine 69 = .ok (.goto 4, 3) := by decide +kernel
theorem dX6_readLine_72 : decode cX6_readLine 72 = .ok (.iconst 0, 1) := by decide +kernel
theorem dX6_readLine_73 : decode cX6_readLine 73 = .ok (.ireturn, 1) := by decide +kernel
theorem dX6_readLine_74 : decode cX6_readLine 74 = .ok (.aload_n 0, 1) := by decide +kernel
theorem dX6_readLine_75 : decode cX6_readLine 75 = .ok (.getfield 38, 3) := by decide +kernel
theorem dX6_readLine_78 : decode cX6_readLine 78 = .ok (.ldc 109, 2) := by decide +kernel
theorem dX6_readLine_80 : decode cX6_readLine 80 = .ok (.invokevirtual 85, 3) := by decide +kernel
theorem dX6_readLine_83 : decode cX6_readLine 83 = .ok (.ifCond .eq 9, 3) := by decide +kernel
theorem dX6_readLine_86 : decode cX6_readLine 86 = .ok (.aload_n 0, 1) := by decide +kernel
theorem dX6_readLine_87 : decode cX6_readLine 87 = .ok (.aload_n 1, 1) := by decide +kernel
theorem dX6_readLine_88 : decode cX6_readLine 88 = .ok (.invokevirtual 111, 3) := by decide +kernel
theorem dX6_readLine_91 : decode cX6_readLine 91 = .ok (.ireturn, 1) := by decide +kernel
theorem dX6_readLine_92 : decode cX6_readLine 92 = .ok (.aload_n 0, 1) := by decide +kernel
theorem dX6_readLine_93 : decode cX6_readLine 93 = .ok (.getfield 38, 3) := by decide +kernel
theorem dX6_readLine_96 : decode cX6_readLine 96 = .ok (.ldc 114, 2) := by decide +kernel
theorem dX6_readLine_98 : decode cX6_readLine 98 = .ok (.invokevirtual 85, 3) := by decide +kernel
theorem dX6_readLine_101 : decode cX6_readLine 101 = .ok (.ifCond .eq 9, 3) := by decide +kernel
theorem dX6_readLine_104 : decode cX6_readLine 104 = .ok (.aload_n 0, 1) := by decide +kernel
theorem dX6_readLine_105 : decode cX6_readLine 105 = .ok (.aload_n 1, 1) := by decide +kernel
theorem dX6_readLine_106 : decode cX6_readLine 106 = .ok (.invokevirtual 116, 3) := by decide +kernel
theorem dX6_readLine_109 : decode cX6_readLine 109 = .ok (.ireturn, 1) := by decide +kernel
theorem dX6_readLine_110 : decode cX6_readLine 110 = .ok (.aload_n 0, 1) := by decide +kernel
theorem dX6_readLine_111 : decode cX6_readLine 111 = .ok (.iconst 1, 1) := by decide +kernel
theorem dX6_readLine_112 : decode cX6_readLine 112 = .ok (.invokevirtual 79, 3) := by decide +kernel
theorem dX6_readLine_115 : decode cX6_readLine 115 = .ok (.ireturn, 1) := by decide +kernel
theorem dX6_readPerson_0 : decode cX6_readPerson 0 = .ok (.aload_n 1, 1) := by decide +kernel
theorem dX6_readPerson_1 : decode cX6_readPerson 1 = .ok (.getfield 119, 3) := by decide +kernel
theorem dX6_readPerson_4 : decode cX6_readPerson 4 = .ok (.bipush 10, 2) := by decide +kernel
theorem dX6_readPerson_6 : decode cX6_readPerson 6 = .ok (.if_icmp .lt 9, 3) := by decide +kernel
theorem dX6_readPerson_9 : decode cX6_readPerson 9 = .ok (.aload_n 0, 1) := by decide +kernel
theorem dX6_readPerson_10 : decode cX6_readPerson 10 = .ok (.iconst 4, 1) := by decide +kernel
theorem dX6_readPerson_11 : decode cX6_readPerson 11 = .ok (.invokevirtual 79, 3) := by decide +kernel
theorem dX6_readPerson_14 : decode cX6_readPerson 14 = .ok (.ireturn, 1) := by decide +kernel
theorem dX6_readPerson_15 : decode cX6_readPerson 15 = .ok (.aload_n 0, 1) := by decide +kernel
theorem dX6_readPerson_16 : decode cX6_readPerson 16 = .ok (.aload_n 1, 1) := by decide +kernel
theorem dX6_readPerson_17 : decode cX6_readPerson 17 = .ok (.invokevirtual 122, 3) := by decide +kernel
theorem dX6_readPerson_20 : decode cX6_readPerson 20 = .ok (.ifCond .ne 5, 3) := by decide +kernel
theorem dX6_readPerson_23 : decode cX6_readPerson 23 = .ok (.iconst 0, 1) := by decide +kernel
theorem dX6_readPerson_24 : decode cX6_readPerson 24 = .ok (.ireturn, 1) := by decide +kernel
theorem dX6_readPerson_25 : decode cX6_readPerson 25 = .ok (.aload_n 0, 1) := by decide +kernel
theorem dX6_readPerson_26 : decode cX6_readPerson 26 = .ok (.getfield 38, 3) := by decide +kernel
theorem dX6_readPerson_29 : decode cX6_readPerson 29 = .ok (.getfield 125, 3) := by decide +kernel
theorem dX6_readPerson_32 : decode cX6_readPerson 32 = .ok (.lstore_n 2, 1) := by decide +kernel
theorem dX6_readPerson_33 : decode cX6_readPerson 33 = .ok (.aload_n 0, 1) := by decide +kernel
theorem dX6_readPerson_34 : decode cX6_readPerson 34 = .ok (.iconst 0, 1) := by decide +kernel
theorem dX6_readPerson_35 : decode cX6_readPerson 35 = .ok (.bipush 59, 2) := by decide +kernel
theorem dX6_readPerson_37 : decode cX6_readPerson 37 = .ok (.invokevirtual 129, 3) := by decide +kernel
theorem dX6_readPerson_40 : decode cX6_readPerson 40 = .ok (.ifCond .ne 5, 3) := by decide +kernel
theorem dX6_readPerson_43 : decode cX6_readPerson 43 = .ok (.iconst 0, 1) := by decide +kernel
theorem dX6_readPerson_44 : decode cX6_readPerson 44 = .ok (.ireturn, 1) := by decide +kernel
theorem dX6_readPerson_45 : decode cX6_readPerson 45 = .ok (.aload_n 0, 1) := by decide +kernel
theorem dX6_readPerson_46 : decode cX6_readPerson 46 = .ok (.getfield 38, 3) := by decide +kernel
theorem dX6_readPerson_49 : decode cX6_readPerson 49 = .ok (.getfield 133, 3) := by decide +kernel
theorem dX6_readPerson_52 : decode cX6_readPerson 52 = .ok (.istore 4, 2) := by decide +kernel
theorem dX6_readPerson_54 : decode cX6_readPerson 54 = .ok (.aload_n 0, 1) := by decide +kernel
theorem dX6_readPerson_55 : decode cX6_readPerson 55 = .ok (.iload 4, 2) := by decide +kernel
theorem dX6_readPerson_57 : decode cX6_readPerson 57 = .ok (.bipush 59, 2) := by decide +kernel
theorem dX6_readPerson_59 : decode cX6_readPerson 59 = .ok (.invokevirtual 129, 3) := by decide +kernel
theorem dX6_readPerson_62 : decode cX6_readPerson 62 = .ok (.ifCond .ne 5, 3) := by decide +kernel
theorem dX6_readPerson_65 : decode cX6_readPerson 65 = .ok (.iconst 0, 1) := by decide +kernel
theorem dX6_readPerson_66 : decode cX6_readPerson 66 = .ok (.ireturn, 1) := by decide +kernel
theorem dX6_readPerson_67 : decode cX6_readPerson 67 = .ok (.aload_n 1, 1) := by decide +kernel
theorem dX6_readPerson_68 : decode cX6_readPerson 68 = .ok (.lload_n 2, 1) := by decide +kernel
theorem dX6_readPerson_69 : decode cX6_readPerson 69 = .ok (.iload 4, 2) := by decide +kernel
theorem dX6_readPerson_71 : decode cX6_readPerson 71 = .ok (.aload_n 0, 1) := by decide +kernel
theorem dX6_readPerson_72 : decode cX6_readPerson 72 = .ok (.getfield 38, 3) := by decide +kernel
theorem dX6_readPerson_75 : decode cX6_readPerson 75 = .ok (.getfield 133, 3) := by decide +kernel
theorem dX6_readPerson_78 : decode cX6_readPerson 78 = .ok (.invokevirtual 136, 3) := by decide +kernel
theorem dX6_readPerson_81 : decode cX6_readPerson 81 = .ok (.aload_n 0, 1) := by decide +kernel
theorem dX6_readPerson_82 : decode cX6_readPerson 82 = .ok (.invokevirtual 140, 3) := by decide +kernel
theorem dX6_readPerson_85 : decode cX6_readPerson 85 = .ok (.ireturn, 1) := by decide +kernel
theorem dX6_readLimit_0 : decode cX6_readLimit 0 = .ok (.aload_n 0, 1) := by decide +kernel
theorem dX6_readLimit_1 : decode cX6_readLimit 1 = .ok (.aload_n 1, 1) := by decide +kernel
theorem dX6_readLimit_2 : decode cX6_readLimit 2 = .ok (.invokevirtual 144, 3) := by decide +kernel
theorem dX6_readLimit_5 : decode cX6_readLimit 5 = .ok (.istore_n 2, 1) := by decide +kernel
theorem dX6_readLimit_6 : decode cX6_readLimit 6 = .ok (.iload_n 2, 1) := by decide +kernel
theorem dX6_readLimit_7 : decode cX6_readLimit 7 = .ok (.iconst (-1), 1) := by decide +kernel
theorem dX6_readLimit_8 : decode cX6_readLimit 8 = .ok (.if_icmp .ne 5, 3) := by decide +kernel
theorem dX6_readLimit_11 : decode cX6_readLimit 11 = .ok (.iconst 0, 1) := by decide +kernel
theorem dX6_readLimit_12 : decode cX6_readLimit 12 = .ok (.ireturn, 1) := by decide +kernel
theorem dX6_readLimit_13 : decode cX6_readLimit 13 = .ok (.aload_n 0, 1) := by decide +kernel
theorem dX6_readLimit_14 : decode cX6_readLimit 14 = .ok (.getfield 28, 3) := by decide +kernel
theorem dX6_readLimit_17 : decode cX6_readLimit 17 = .ok (.iload_n 2, 1) := by decide +kernel
theorem dX6_readLimit_18 : decode cX6_readLimit 18 = .ok (.ishr, 1) := by decide +kernel
theorem dX6_readLimit_19 : decode cX6_readLimit 19 = .ok (.iconst 1, 1) := by decide +kernel
theorem dX6_readLimit_20 : decode cX6_readLimit 20 = .ok (.iand, 1) := by decide +kernel
theorem dX6_readLimit_21 : decode cX6_readLimit 21 = .ok (.iconst 1, 1) := by decide +kernel
theorem dX6_readLimit_22 : decode cX6_readLimit 22 = .ok (.if_icmp .ne 9, 3) := by decide +kernel
theorem dX6_readLimit_25 : decode cX6_readLimit 25 = .ok (.aload_n 0, 1) := by decide +kernel
theorem dX6_readLimit_26 : decode cX6_readLimit 26 = .ok (.iconst 3, 1) := by decide +kernel
theorem dX6_readLimit_27 : decode cX6_readLimit 27 = .ok (.invokevirtual 79, 3) := by decide +kernel
theorem dX6_readLimit_30 : decode cX6_readLimit 30 = .ok (.ireturn, 1) := by decide +kernel
theorem dX6_readLimit_31 : decode cX6_readLimit 31 = .ok (.aload_n 0, 1) := by decide +kernel
theorem dX6_readLimit_32 : decode cX6_readLimit 32 = .ok (.dup, 1) := by decide +kernel
theorem dX6_readLimit_33 : decode cX6_readLimit 33 = .ok (.getfield 28, 3) := by decide +kernel
theorem dX6_readLimit_36 : decode cX6_readLimit 36 = .ok (.iconst 1, 1) := by decide +kernel
theorem dX6_readLimit_37 : decode cX6_readLimit 37 = .ok (.iload_n 2, 1) := by decide +kernel
theorem dX6_readLimit_38 : decode cX6_readLimit 38 = .ok (.ishl, 1) := by decide +kernel
theorem dX6_readLimit_39 : decode cX6_readLimit 39 = .ok (.ior, 1) := by decide +kernel
theorem dX6_readLimit_40 : decode cX6_readLimit 40 = .ok (.putfield 28, 3) := by decide +kernel
theorem dX6_readLimit_43 : decode cX6_readLimit 43 = .ok (.aload_n 0, 1) := by decide +kernel
theorem dX6_readLimit_44 : decode cX6_readLimit 44 = .ok (.iconst 0, 1) := by decide +kernel
theorem dX6_readLimit_45 : decode cX6_readLimit 45 = .ok (.bipush 9, 2) := by decide +kernel
theorem dX6_readLimit_47 : decode cX6_readLimit 47 = .ok (.invokevirtual 129, 3) := by decide +kernel
theorem dX6_readLimit_50 : decode cX6_readLimit 50 = .ok (.ifCond .ne 5, 3) := by decide +kernel
theorem dX6_readLimit_53 : decode cX6_readLimit 53 = .ok (.iconst 0, 1) := by decide +kernel
theorem dX6_readLimit_54 : decode cX6_readLimit 54 = .ok (.ireturn, 1) := by decide +kernel
theorem dX6_readLimit_55 : decode cX6_readLimit 55 = .ok (.aload_n 1, 1) := by decide +kernel
theorem dX6_readLimit_56 : decode cX6_readLimit 56 = .ok (.getfield 148, 3) := by decide +kernel
theorem dX6_readLimit_59 : decode cX6_readLimit 59 = .ok (.iload_n 2, 1) := by decide +kernel
theorem dX6_readLimit_60 : decode cX6_readLimit 60 = .ok (.aload_n 0, 1) := by decide +kernel
theorem dX6_readLimit_61 : decode cX6_readLimit 61 = .ok (.getfield 38, 3) := by decide +kernel
theorem dX6_readLimit_64 : decode cX6_readLimit 64 = .ok (.getfield 133, 3) := by decide +kernel
theorem dX6_readLimit_67 : decode cX6_readLimit 67 = .ok (.iastore, 1) := by decide +kernel
theorem dX6_readLimit_68 : decode cX6_readLimit 68 = .ok (.aload_n 0, 1) := by decide +kernel
theorem dX6_readLimit_69 : decode cX6_readLimit 69 = .ok (.invokevirtual 140, 3) := by decide +kernel
theorem dX6_readLimit_72 : decode cX6_readLimit 72 = .ok (.ireturn, 1) := by decide +kernel
theorem dX6_readDeal_0 : decode cX6_readDeal 0 = .ok (.aload_n 1, 1) := by decide +kernel
theorem dX6_readDeal_1 : decode cX6_readDeal 1 = .ok (.getfield 102, 3) := by decide +kernel
theorem dX6_readDeal_4 : decode cX6_readDeal 4 = .ok (.bipush 30, 2) := by decide +kernel
theorem dX6_readDeal_6 : decode cX6_readDeal 6 = .ok (.if_icmp .lt 9, 3) := by decide +kernel
theorem dX6_readDeal_9 : decode cX6_readDeal 9 = .ok (.aload_n 0, 1) := by decide +kernel
theorem dX6_readDeal_10 : decode cX6_readDeal 10 = .ok (.iconst 4, 1) := by decide +kernel
theorem dX6_readDeal_11 : decode cX6_readDeal 11 = .ok (.invokevirtual 79, 3) := by decide +kernel
theorem dX6_readDeal_14 : decode cX6_readDeal 14 = .ok (.ireturn, 1) := by decide +kernel
theorem dX6_readDeal_15 : decode cX6_readDeal 15 = .ok (.aload_n 0, 1) := by decide +kernel
theorem dX6_readDeal_16 : decode cX6_readDeal 16 = .ok (.aload_n 1, 1) := by decide +kernel
theorem dX6_readDeal_17 : decode cX6_readDeal 17 = .ok (.invokevirtual 122, 3) := by decide +kernel
theorem dX6_readDeal_20 : decode cX6_readDeal 20 = .ok (.ifCond .ne 5, 3) := by decide +kernel
theorem dX6_readDeal_23 : decode cX6_readDeal 23 = .ok (.iconst 0, 1) := by decide +kernel
theorem dX6_readDeal_24 : decode cX6_readDeal 24 = .ok (.ireturn, 1) := by decide +kernel
theorem dX6_readDeal_25 : decode cX6_readDeal 25 = .ok (.aload_n 1, 1) := by decide +kernel
theorem dX6_readDeal_26 : decode cX6_readDeal 26 = .ok (.getfield 150, 3) := by decide +kernel
theorem dX6_readDeal_29 : decode cX6_readDeal 29 = .ok (.aload_n 1, 1) := by decide +kernel
theorem dX6_readDeal_30 : decode cX6_readDeal 30 = .ok (.getfield 102, 3) := by decide +kernel
theorem dX6_readDeal_33 : decode cX6_readDeal 33 = .ok (.aload_n 0, 1) := by decide +kernel
theorem dX6_readDeal_34 : decode cX6_readDeal 34 = .ok (.getfield 38, 3) := by decide +kernel
theorem dX6_readDeal_37 : decode cX6_readDeal 37 = .ok (.getfield 125, 3) := by decide +kernel
theorem dX6_readDeal_40 : decode cX6_readDeal 40 = .ok (.lastore, 1) := by decide +kernel
theorem dX6_readDeal_41 : decode cX6_readDeal 41 = .ok (.aload_n 0, 1) := by decide +kernel
theorem dX6_readDeal_42 : decode cX6_readDeal 42 = .ok (.aload_n 1, 1) := by decide +kernel
theorem dX6_readDeal_43 : decode cX6_readDeal 43 = .ok (.invokevirtual 144, 3) := by decide +kernel
theorem dX6_readDeal_46 : decode cX6_readDeal 46 = .ok (.istore_n 2, 1) := by decide +kernel
theorem dX6_readDeal_47 : decode cX6_readDeal 47 = .ok (.iload_n 2, 1) := by decide +kernel
theorem dX6_readDeal_48 : decode cX6_readDeal 48 = .ok (.iconst (-1), 1) := by decide +kernel
theorem dX6_readDeal_49 : decode cX6_readDeal 49 = .ok (.if_icmp .ne 5, 3) := by decide +kernel
theorem dX6_readDeal_52 : decode cX6_readDeal 52 = .ok (.iconst 0, 1) := by decide +kernel
theorem dX6_readDeal_53 : decode cX6_readDeal 53 = .ok (.ireturn, 1) := by decide +kernel
theorem dX6_readDeal_54 : decode cX6_readDeal 54 = .ok (.aload_n 0, 1) := by decide +kernel
theorem dX6_readDeal_55 : decode cX6_readDeal 55 = .ok (.aload_n 1, 1) := by decide +kernel
theorem dX6_readDeal_56 : decode cX6_readDeal 56 = .ok (.invokevirtual 144, 3) := by decide +kernel
theorem dX6_readDeal_59 : decode cX6_readDeal 59 = .ok (.istore_n 3, 1) := by decide +kernel
theorem dX6_readDeal_60 : decode cX6_readDeal 60 = .ok (.iload_n 3, 1) := by decide +kernel
theorem dX6_readDeal_61 : decode cX6_readDeal 61 = .ok (.iconst (-1), 1) := by decide +kernel
theorem dX6_readDeal_62 : decode cX6_readDeal 62 = .ok (.if_icmp .ne 5, 3) := by decide +kernel
theorem dX6_readDeal_65 : decode cX6_readDeal 65 = .ok (.iconst 0, 1) := by decide +kernel
theorem dX6_readDeal_66 : decode cX6_readDeal 66 = .ok (.ireturn, 1) := by decide +kernel
theorem dX6_readDeal_67 : decode cX6_readDeal 67 = .ok (.iload_n 3, 1) := by decide +kernel
theorem dX6_readDeal_68 : decode cX6_readDeal 68 = .ok (.iload_n 2, 1) := by decide +kernel
theorem dX6_readDeal_69 : decode cX6_readDeal 69 = .ok (.if_icmp .ne 9, 3) := by decide +kernel
theorem dX6_readDeal_72 : decode cX6_readDeal 72 = .ok (.aload_n 0, 1) := by decide +kernel
theorem dX6_readDeal_73 : decode cX6_readDeal 73 = .ok (.iconst 3, 1) := by decide +kernel
theorem dX6_readDeal_74 : decode cX6_readDeal 74 = .ok (.invokevirtual 79, 3) := by decide +kernel
theorem dX6_readDeal_77 : decode cX6_readDeal 77 = .ok (.ireturn, 1) := by decide +kernel
theorem dX6_readDeal_78 : decode cX6_readDeal 78 = .ok (.aload_n 1, 1) := by decide +kernel
theorem dX6_readDeal_79 : decode cX6_readDeal 79 = .ok (.getfield 154, 3) := by decide +kernel
theorem dX6_readDeal_82 : decode cX6_readDeal 82 = .ok (.iload_n 2, 1) := by decide +kernel
theorem dX6_readDeal_83 : decode cX6_readDeal 83 = .ok (.iaload, 1) := by decide +kernel
theorem dX6_readDeal_84 : decode cX6_readDeal 84 = .ok (.aload_n 1, 1) := by decide +kernel
theorem dX6_readDeal_85 : decode cX6_readDeal 85 = .ok (.getfield 154, 3) := by decide +kernel
theorem dX6_readDeal_88 : decode cX6_readDeal 88 = .ok (.iload_n 3, 1) := by decide +kernel
theorem dX6_readDeal_89 : decode cX6_readDeal 89 = .ok (.iaload, 1) := by decide +kernel
theorem dX6_readDeal_90 : decode cX6_readDeal 90 = .ok (.invokestatic 157, 3) := by decide +kernel
theorem dX6_readDeal_93 : decode cX6_readDeal 93 = .ok (.istore 4, 2) := by decide +kernel
theorem dX6_readDeal_95 : decode cX6_readDeal 95 = .ok (.aload_n 1, 1) := by decide +kernel
theorem dX6_readDeal_96 : decode cX6_readDeal 96 = .ok (.getfield 163, 3) := by decide +kernel
theorem dX6_readDeal_99 : decode cX6_readDeal 99 = .ok (.iload_n 2, 1) := by decide +kernel
theorem dX6_readDeal_100 : decode cX6_readDeal 100 = .ok (.iaload, 1) := by decide +kernel
theorem dX6_readDeal_101 : decode cX6_readDeal 101 = .ok (.aload_n 1, 1) := by decide +kernel
theorem dX6_readDeal_102 : decode cX6_readDeal 102 = .ok (.getfield 163, 3) := by decide +kernel
theorem dX6_readDeal_105 : decode cX6_readDeal 105 = .ok (.iload_n 3, 1) := by decide +kernel
theorem dX6_readDeal_106 : decode cX6_readDeal 106 = .ok (.iaload, 1) := by decide +kernel
theorem dX6_readDeal_107 : decode cX6_readDeal 107 = .ok (.invokestatic 166, 3) := by decide +kernel
theorem dX6_readDeal_110 : decode cX6_readDeal 110 = .ok (.istore 5, 2) := by decide +kernel
theorem dX6_readDeal_112 : decode cX6_readDeal 112 = .ok (.aload_n 0, 1) := by decide +kernel
theorem dX6_readDeal_113 : decode cX6_readDeal 113 = .ok (.iload 4, 2) := by decide +kernel
theorem dX6_readDeal_115 : decode cX6_readDeal 115 = .ok (.iload 5, 2) := by decide +kernel
theorem dX6_readDeal_117 : decode cX6_readDeal 117 = .ok (.invokevirtual 129, 3) := by decide +kernel
theorem dX6_readDeal_120 : decode cX6_readDeal 120 = .ok (.ifCond .ne 5, 3) := by decide +kernel
theorem dX6_readDeal_123 : decode cX6_readDeal 123 = .ok (.iconst 0, 1) := by decide +kernel
theorem dX6_readDeal_124 : decode cX6_readDeal 124 = .ok (.ireturn, 1) := by decide +kernel
theorem dX6_readDeal_125 : decode cX6_readDeal 125 = .ok (.aload_n 1, 1) := by decide +kernel
theorem dX6_readDeal_126 : decode cX6_readDeal 126 = .ok (.getfield 169, 3) := by decide +kernel
theorem dX6_readDeal_129 : decode cX6_readDeal 129 = .ok (.aload_n 1, 1) := by decide +kernel
theorem dX6_readDeal_130 : decode cX6_readDeal 130 = .ok (.getfield 102, 3) := by decide +kernel
theorem dX6_readDeal_133 : decode cX6_readDeal 133 = .ok (.iload_n 2, 1) := by decide +kernel
theorem dX6_readDeal_134 : decode cX6_readDeal 134 = .ok (.iastore, 1) := by decide +kernel
theorem dX6_readDeal_135 : decode cX6_readDeal 135 = .ok (.aload_n 1, 1) := by decide +kernel
theorem dX6_readDeal_136 : decode cX6_readDeal 136 = .ok (.getfield 172, 3) := by decide +kernel
theorem dX6_readDeal_139 : decode cX6_readDeal 139 = .ok (.aload_n 1, 1) := by decide +kernel
theorem dX6_readDeal_140 : decode cX6_readDeal 140 = .ok (.getfield 102, 3) := by decide +kernel
theorem dX6_readDeal_143 : decode cX6_readDeal 143 = .ok (.iload_n 3, 1) := by decide +kernel
theorem dX6_readDeal_144 : decode cX6_readDeal 144 = .ok (.iastore, 1) := by decide +kernel
theorem dX6_readDeal_145 : decode cX6_readDeal 145 = .ok (.aload_n 1, 1) := by decide +kernel
theorem dX6_readDeal_146 : decode cX6_readDeal 146 = .ok (.getfield 175, 3) := by decide +kernel
theorem dX6_readDeal_149 : decode cX6_readDeal 149 = .ok (.aload_n 1, 1) := by decide +kernel
theorem dX6_readDeal_150 : decode cX6_readDeal 150 = .ok (.getfield 102, 3) := by decide +kernel
theorem dX6_readDeal_153 : decode cX6_readDeal 153 = .ok (.aload_n 0, 1) := by decide +kernel
theorem dX6_readDeal_154 : decode cX6_readDeal 154 = .ok (.getfield 38, 3) := by decide +kernel
theorem dX6_readDeal_157 : decode cX6_readDeal 157 = .ok (.getfield 133, 3) := by decide +kernel
theorem dX6_readDeal_160 : decode cX6_readDeal 160 = .ok (.iastore, 1) := by decide +kernel
theorem dX6_readDeal_161 : decode cX6_readDeal 161 = .ok (.iconst 1, 1) := by decide +kernel
theorem dX6_readDeal_162 : decode cX6_readDeal 162 = .ok (.ireturn, 1) := by decide +kernel
theorem dX6_readGains_0 : decode cX6_readGains 0 = .ok (.aload_n 0, 1) := by decide +kernel
theorem dX6_readGains_1 : decode cX6_readGains 1 = .ok (.iconst 0, 1) := by decide +kernel
theorem dX6_readGains_2 : decode cX6_readGains 2 = .ok (.bipush 99, 2) := by decide +kernel
theorem dX6_readGains_4 : decode cX6_readGains 4 = .ok (.invokevirtual 129, 3) := by decide +kernel
theorem dX6_readGains_7 : decode cX6_readGains 7 = .ok (.ifCond .ne 5, 3) := by decide +kernel
theorem dX6_readGains_10 : decode cX6_readGains 10 = .ok (.iconst 0, 1) := by decide +kernel
theorem dX6_readGains_11 : decode cX6_readGains 11 = .ok (.ireturn, 1) := by decide +kernel
theorem dX6_readGains_12 : decode cX6_readGains 12 = .ok (.aload_n 1, 1) := by decide +kernel
theorem dX6_readGains_13 : decode cX6_readGains 13 = .ok (.getfield 178, 3) := by decide +kernel
theorem dX6_readGains_16 : decode cX6_readGains 16 = .ok (.iload_n 2, 1) := by decide +kernel
theorem dX6_readGains_17 : decode cX6_readGains 17 = .ok (.aload_n 0, 1) := by decide +kernel
theorem dX6_readGains_18 : decode cX6_readGains 18 = .ok (.getfield 38, 3) := by decide +kernel
theorem dX6_readGains_21 : decode cX6_readGains 21 = .ok (.getfield 133, 3) := by decide +kernel
theorem dX6_readGains_24 : decode cX6_readGains 24 = .ok (.iastore, 1) := by decide +kernel
theorem dX6_readGains_25 : decode cX6_readGains 25 = .ok (.aload_n 0, 1) := by decide +kernel
theorem dX6_readGains_26 : decode cX6_readGains 26 = .ok (.iconst 0, 1) := by decide +kernel
theorem dX6_readGains_27 : decode cX6_readGains 27 = .ok (.bipush 99, 2) := by decide +kernel
theorem dX6_readGains_29 : decode cX6_readGains 29 = .ok (.invokevirtual 129, 3) := by decide +kernel
theorem dX6_readGains_32 : decode cX6_readGains 32 = .ok (.ifCond .ne 5, 3) := by decide +kernel
theorem dX6_readGains_35 : decode cX6_readGains 35 = .ok (.iconst 0, 1) := by decide +kernel
theorem dX6_readGains_36 : decode cX6_readGains 36 = .ok (.ireturn, 1) := by decide +kernel
theorem dX6_readGains_37 : decode cX6_readGains 37 = .ok (.aload_n 1, 1) := by decide +kernel
theorem dX6_readGains_38 : decode cX6_readGains 38 = .ok (.getfield 181, 3) := by decide +kernel
theorem dX6_readGains_41 : decode cX6_readGains 41 = .ok (.iload_n 2, 1) := by decide +kernel
theorem dX6_readGains_42 : decode cX6_readGains 42 = .ok (.aload_n 0, 1) := by decide +kernel
theorem dX6_readGains_43 : decode cX6_readGains 43 = .ok (.getfield 38, 3) := by decide +kernel
theorem dX6_readGains_46 : decode cX6_readGains 46 = .ok (.getfield 133, 3) := by decide +kernel
theorem dX6_readGains_49 : decode cX6_readGains 49 = .ok (.iastore, 1) := by decide +kernel
theorem dX6_readGains_50 : decode cX6_readGains 50 = .ok (.aload_n 0, 1) := by decide +kernel
theorem dX6_readGains_51 : decode cX6_readGains 51 = .ok (.getfield 38, 3) := by decide +kernel
theorem dX6_readGains_54 : decode cX6_readGains 54 = .ok (.invokevirtual 51, 3) := by decide +kernel
theorem dX6_readGains_57 : decode cX6_readGains 57 = .ok (.aload_n 1, 1) := by decide +kernel
theorem dX6_readGains_58 : decode cX6_readGains 58 = .ok (.getfield 184, 3) := by decide +kernel
theorem dX6_readGains_61 : decode cX6_readGains 61 = .ok (.iload_n 2, 1) := by decide +kernel
theorem dX6_readGains_62 : decode cX6_readGains 62 = .ok (.aload_n 0, 1) := by decide +kernel
theorem dX6_readGains_63 : decode cX6_readGains 63 = .ok (.getfield 38, 3) := by decide +kernel
theorem dX6_readGains_66 : decode cX6_readGains 66 = .ok (.ldc 187, 2) := by decide +kernel
theorem dX6_readGains_68 : decode cX6_readGains 68 = .ok (.invokevirtual 85, 3) := by decide +kernel
theorem dX6_readGains_71 : decode cX6_readGains 71 = .ok (.ifCond .eq 7, 3) := by decide +kernel
theorem dX6_readGains_74 : decode cX6_readGains 74 = .ok (.iconst 1, 1) := by decide +kernel
theorem dX6_readGains_75 : decode cX6_readGains 75 = .ok (.goto 4, 3) := by decide +kernel
theorem dX6_readGains_78 : decode cX6_readGains 78 = .ok (.iconst 0, 1) := by decide +kernel
theorem dX6_readGains_79 : decode cX6_readGains 79 = .ok (.iastore, 1) := by decide +kernel
theorem dX6_readGains_80 : decode cX6_readGains 80 = .ok (.aload_n 1, 1) := by decide +kernel
theorem dX6_readGains_81 : decode cX6_readGains 81 = .ok (.getfield 184, 3) := by decide +kernel
theorem dX6_readGains_84 : decode cX6_readGains 84 = .ok (.iload_n 2, 1) := by decide +kernel
theorem dX6_readGains_85 : decode cX6_readGains 85 = .ok (.iaload, 1) := by decide +kernel
theorem dX6_readGains_86 : decode cX6_readGains 86 = .ok (.iconst 1, 1) := by decide +kernel
theorem dX6_readGains_87 : decode cX6_readGains 87 = .ok (.if_icmp .ne 10, 3) := by decide +kernel
theorem dX6_readGains_90 : decode cX6_readGains 90 = .ok (.aload_n 0, 1) := by decide +kernel
theorem dX6_readGains_91 : decode cX6_readGains 91 = .ok (.getfield 38, 3) := by decide +kernel
theorem dX6_readGains_94 : decode cX6_readGains 94 = .ok (.invokevirtual 51, 3) := by decide +kernel
theorem dX6_readGains_97 : decode cX6_readGains 97 = .ok (.aload_n 1, 1) := by decide +kernel
theorem dX6_readGains_98 : decode cX6_readGains 98 = .ok (.dup, 1) := by decide +kernel
theorem dX6_readGains_99 : decode cX6_readGains 99 = .ok (.getfield 102, 3) := by decide +kernel
theorem dX6_readGains_102 : decode cX6_readGains 102 = .ok (.iconst 1, 1) := by decide +kernel
theorem dX6_readGains_103 : decode cX6_readGains 103 = .ok (.iadd, 1) := by decide +kernel
theorem dX6_readGains_104 : decode cX6_readGains 104 = .ok (.putfield 102, 3) := by decide +kernel
theorem dX6_readGains_107 : decode cX6_readGains 107 = .ok (.aload_n 0, 1) := by decide +kernel
theorem dX6_readGains_108 : decode cX6_readGains 108 = .ok (.invokevirtual 188, 3) := by decide +kernel
theorem dX6_readGains_111 : decode cX6_readGains 111 = .ok (.ireturn, 1) := by decide +kernel
theorem dX6_readLaw_0 : decode cX6_readLaw 0 = .ok (.aload_n 0, 1) := by decide +kernel
theorem dX6_readLaw_1 : decode cX6_readLaw 1 = .ok (.getfield 34, 3) := by decide +kernel
theorem dX6_readLaw_4 : decode cX6_readLaw 4 = .ok (.ifCond .eq 9, 3) := by decide +kernel
theorem dX6_readLaw_7 : decode cX6_readLaw 7 = .ok (.aload_n 0, 1) := by decide +kernel
theorem dX6_readLaw_8 : decode cX6_readLaw 8 = .ok (.iconst 3, 1) := by decide +kernel
theorem dX6_readLaw_9 : decode cX6_readLaw 9 = .ok (.invokevirtual 79, 3) := by decide +kernel
theorem dX6_readLaw_12 : decode cX6_readLaw 12 = .ok (.ireturn, 1) := by decide +kernel
theorem dX6_readLaw_13 : decode cX6_readLaw 13 = .ok (.aload_n 0, 1) := by decide +kernel
theorem dX6_readLaw_14 : decode cX6_readLaw 14 = .ok (.iconst 1, 1) := by decide +kernel
theorem dX6_readLaw_15 : decode cX6_readLaw 15 = .ok (.putfield 34, 3) := by decide +kernel
theorem dX6_readLaw_18 : decode cX6_readLaw 18 = .ok (.aload_n 0, 1) := by decide +kernel
theorem dX6_readLaw_19 : decode cX6_readLaw 19 = .ok (.getfield 38, 3) := by decide +kernel
theorem dX6_readLaw_22 : decode cX6_readLaw 22 = .ok (.invokevirtual 51, 3) := by decide +kernel
theorem dX6_readLaw_25 : decode cX6_readLaw 25 = .ok (.aload_n 0, 1) := by decide +kernel
theorem dX6_readLaw_26 : decode cX6_readLaw 26 = .ok (.getfield 38, 3) := by decide +kernel
theorem dX6_readLaw_29 : decode cX6_readLaw 29 = .ok (.ldc 191, 2) := by decide +kernel
theorem dX6_readLaw_31 : decode cX6_readLaw 31 = .ok (.invokevirtual 85, 3) := by decide +kernel
theorem dX6_readLaw_34 : decode cX6_readLaw 34 = .ok (.ifCond .eq 29, 3) := by decide +kernel
theorem dX6_readLaw_37 : decode cX6_readLaw 37 = .ok (.aload_n 0, 1) := by decide +kernel
theorem dX6_readLaw_38 : decode cX6_readLaw 38 = .ok (.iconst 1, 1) := by decide +kernel
theorem dX6_readLaw_39 : decode cX6_readLaw 39 = .ok (.bipush 60, 2) := by decide +kernel
theorem dX6_readLaw_41 : decode cX6_readLaw 41 = .ok (.invokevirtual 129, 3) := by decide +kernel
theorem dX6_readLaw_44 : decode cX6_readLaw 44 = .ok (.ifCond .ne 5, 3) := by decide +kernel
theorem dX6_readLaw_47 : decode cX6_readLaw 47 = .ok (.iconst 0, 1) := by decide +kernel
theorem dX6_readLaw_48 : decode cX6_readLaw 48 = .ok (.ireturn, 1) := by decide +kernel
theorem dX6_readLaw_49 : decode cX6_readLaw 49 = .ok (.aload_n 1, 1) := by decide +kernel
theorem dX6_readLaw_50 : decode cX6_readLaw 50 = .ok (.aload_n 0, 1) := by decide +kernel
theorem dX6_readLaw_51 : decode cX6_readLaw 51 = .ok (.getfield 38, 3) := by decide +kernel
theorem dX6_readLaw_54 : decode cX6_readLaw 54 = .ok (.getfield 133, 3) := by decide +kernel
theorem dX6_readLaw_57 : decode cX6_readLaw 57 = .ok (.putfield 193, 3) := by decide +kernel
theorem dX6_readLaw_60 : decode cX6_readLaw 60 = .ok (.goto 21, 3) := by decide +kernel
theorem dX6_readLaw_63 : decode cX6_readLaw 63 = .ok (.aload_n 0, 1) := by decide +kernel
theorem dX6_readLaw_64 : decode cX6_readLaw 64 = .ok (.getfield 38, 3) := by decide +kernel
theorem dX6_readLaw_67 : decode cX6_readLaw 67 = .ok (.ldc 196, 2) := by decide +kernel
theorem dX6_readLaw_69 : decode cX6_readLaw 69 = .ok (.invokevirtual 85, 3) := by decide +kernel
theorem dX6_readLaw_72 : decode cX6_readLaw 72 = .ok (.ifCond .ne 9, 3) := by decide +kernel
theorem dX6_readLaw_75 : decode cX6_readLaw 75 = .ok (.aload_n 0, 1) := by decide +kernel
theorem dX6_readLaw_76 : decode cX6_readLaw 76 = .ok (.iconst 1, 1) := by decide +kernel
theorem dX6_readLaw_77 : decode cX6_readLaw 77 = .ok (.invokevirtual 79, 3) := by decide +kernel
theorem dX6_readLaw_80 : decode cX6_readLaw 80 = .ok (.ireturn, 1) := by decide +kernel
theorem dX6_readLaw_81 : decode cX6_readLaw 81 = .ok (.aload_n 0, 1) := by decide +kernel
theorem dX6_readLaw_82 : decode cX6_readLaw 82 = .ok (.invokevirtual 140, 3) := by decide +kernel
theorem dX6_readLaw_85 : decode cX6_readLaw 85 = .ok (.ireturn, 1) := by decide +kernel
theorem dX6_readPart_0 : decode cX6_readPart 0 = .ok (.aload_n 0, 1) := by decide +kernel
theorem dX6_readPart_1 : decode cX6_readPart 1 = .ok (.aload_n 1, 1) := by decide +kernel
theorem dX6_readPart_2 : decode cX6_readPart 2 = .ok (.invokevirtual 144, 3) := by decide +kernel
theorem dX6_readPart_5 : decode cX6_readPart 5 = .ok (.istore_n 2, 1) := by decide +kernel
theorem dX6_readPart_6 : decode cX6_readPart 6 = .ok (.iload_n 2, 1) := by decide +kernel
theorem dX6_readPart_7 : decode cX6_readPart 7 = .ok (.iconst (-1), 1) := by decide +kernel
theorem dX6_readPart_8 : decode cX6_readPart 8 = .ok (.if_icmp .ne 5, 3) := by decide +kernel
theorem dX6_readPart_11 : decode cX6_readPart 11 = .ok (.iconst 0, 1) := by decide +kernel
theorem dX6_readPart_12 : decode cX6_readPart 12 = .ok (.ireturn, 1) := by decide +kernel
theorem dX6_readPart_13 : decode cX6_readPart 13 = .ok (.aload_n 0, 1) := by decide +kernel
theorem dX6_readPart_14 : decode cX6_readPart 14 = .ok (.getfield 31, 3) := by decide +kernel
theorem dX6_readPart_17 : decode cX6_readPart 17 = .ok (.iload_n 2, 1) := by decide +kernel
theorem dX6_readPart_18 : decode cX6_readPart 18 = .ok (.ishr, 1) := by decide +kernel
theorem dX6_readPart_19 : decode cX6_readPart 19 = .ok (.iconst 1, 1) := by decide +kernel
theorem dX6_readPart_20 : decode cX6_readPart 20 = .ok (.iand, 1) := by decide +kernel
theorem dX6_readPart_21 : decode cX6_readPart 21 = .ok (.iconst 1, 1) := by decide +kernel
theorem dX6_readPart_22 : decode cX6_readPart 22 = .ok (.if_icmp .ne 9, 3) := by decide +kernel
theorem dX6_readPart_25 : decode cX6_readPart 25 = .ok (.aload_n 0, 1) := by decide +kernel
theorem dX6_readPart_26 : decode cX6_readPart 26 = .ok (.iconst 3, 1) := by decide +kernel
theorem dX6_readPart_27 : decode cX6_readPart 27 = .ok (.invokevirtual 79, 3) := by decide +kernel
theorem dX6_readPart_30 : decode cX6_readPart 30 = .ok (.ireturn, 1) := by decide +kernel
theorem dX6_readPart_31 : decode cX6_readPart 31 = .ok (.aload_n 0, 1) := by decide +kernel
theorem dX6_readPart_32 : decode cX6_readPart 32 = .ok (.dup, 1) := by decide +kernel
theorem dX6_readPart_33 : decode cX6_readPart 33 = .ok (.getfield 31, 3) := by decide +kernel
theorem dX6_readPart_36 : decode cX6_readPart 36 = .ok (.iconst 1, 1) := by decide +kernel
theorem dX6_readPart_37 : decode cX6_readPart 37 = .ok (.iload_n 2, 1) := by decide +kernel
theorem dX6_readPart_38 : decode cX6_readPart 38 = .ok (.ishl, 1) := by decide +kernel
theorem dX6_readPart_39 : decode cX6_readPart 39 = .ok (.ior, 1) := by decide +kernel
theorem dX6_readPart_40 : decode cX6_readPart 40 = .ok (.putfield 31, 3) := by decide +kernel
theorem dX6_readPart_43 : decode cX6_readPart 43 = .ok (.aload_n 0, 1) := by decide +kernel
theorem dX6_readPart_44 : decode cX6_readPart 44 = .ok (.getfield 38, 3) := by decide +kernel
theorem dX6_readPart_47 : decode cX6_readPart 47 = .ok (.invokevirtual 51, 3) := by decide +kernel
theorem dX6_readPart_50 : decode cX6_readPart 50 = .ok (.aload_n 0, 1) := by decide +kernel
theorem dX6_readPart_51 : decode cX6_readPart 51 = .ok (.getfield 38, 3) := by decide +kernel
theorem dX6_readPart_54 : decode cX6_readPart 54 = .ok (.ldc 198, 2) := by decide +kernel
theorem dX6_readPart_56 : decode cX6_readPart 56 = .ok (.invokevirtual 85, 3) := by decide +kernel
theorem dX6_readPart_59 : decode cX6_readPart 59 = .ok (.ifCond .eq 18, 3) := by decide +kernel
theorem dX6_readPart_62 : decode cX6_readPart 62 = .ok (.aload_n 1, 1) := by decide +kernel
theorem dX6_readPart_63 : decode cX6_readPart 63 = .ok (.dup, 1) := by decide +kernel
theorem dX6_readPart_64 : decode cX6_readPart 64 = .ok (.getfield 200, 3) := by decide +kernel
theorem dX6_readPart_67 : decode cX6_readPart 67 = .ok (.iconst 1, 1) := by decide +kernel
theorem dX6_readPart_68 : decode cX6_readPart 68 = .ok (.iload_n 2, 1) := by decide +kernel
theorem dX6_readPart_69 : decode cX6_readPart 69 = .ok (.ishl, 1) := by decide +kernel
theorem dX6_readPart_70 : decode cX6_readPart 70 = .ok (.ior, 1) := by decide +kernel
theorem dX6_readPart_71 : decode cX6_readPart 71 = .ok (.putfield 200, 3) := by decide +kernel
theorem dX6_readPart_74 : decode cX6_readPart 74 = .ok (.goto 21, 3) := by decide +kernel
theorem dX6_readPart_77 : decode cX6_readPart 77 = .ok (.aload_n 0, 1) := by decide +kernel
theorem dX6_readPart_78 : decode cX6_readPart 78 = .ok (.getfield 38, 3) := by decide +kernel
theorem dX6_readPart_81 : decode cX6_readPart 81 = .ok (.ldc 203, 2) := by decide +kernel
theorem dX6_readPart_83 : decode cX6_readPart 83 = .ok (.invokevirtual 85, 3) := by decide +kernel
theorem dX6_readPart_86 : decode cX6_readPart 86 = .ok (.ifCond .ne 9, 3) := by decide +kernel
theorem dX6_readPart_89 : decode cX6_readPart 89 = .ok (.aload_n 0, 1) := by decide +kernel
theorem dX6_readPart_90 : decode cX6_readPart 90 = .ok (.iconst 1, 1) := by decide +kernel
theorem dX6_readPart_91 : decode cX6_readPart 91 = .ok (.invokevirtual 79, 3) := by decide +kernel
theorem dX6_readPart_94 : decode cX6_readPart 94 = .ok (.ireturn, 1) := by decide +kernel
theorem dX6_readPart_95 : decode cX6_readPart 95 = .ok (.aload_n 0, 1) := by decide +kernel
theorem dX6_readPart_96 : decode cX6_readPart 96 = .ok (.invokevirtual 140, 3) := by decide +kernel
theorem dX6_readPart_99 : decode cX6_readPart 99 = .ok (.ireturn, 1) := by decide +kernel
theorem dX6_readBookLine_0 : decode cX6_readBookLine 0 = .ok (.aload_n 0, 1) := by decide +kernel
theorem dX6_readBookLine_1 : decode cX6_readBookLine 1 = .ok (.getfield 38, 3) := by decide +kernel
theorem dX6_readBookLine_4 : decode cX6_readBookLine 4 = .ok (.invokevirtual 205, 3) := by decide +kernel
theorem dX6_readBookLine_7 : decode cX6_readBookLine 7 = .ok (.ifCond .ne 9, 3) := by decide +kernel
theorem dX6_readBookLine_10 : decode cX6_readBookLine 10 = .ok (.aload_n 0, 1) := by decide +kernel
theorem dX6_readBookLine_11 : decode cX6_readBookLine 11 = .ok (.iconst 1, 1) := by decide +kernel
theorem dX6_readBookLine_12 : decode cX6_readBookLine 12 = .ok (.invokevirtual 79, 3) := by decide +kernel
theorem dX6_readBookLine_15 : decode cX6_readBookLine 15 = .ok (.ireturn, 1) := by decide +kernel
theorem dX6_readBookLine_16 : decode cX6_readBookLine 16 = .ok (.aload_n 1, 1) := by decide +kernel
theorem dX6_readBookLine_17 : decode cX6_readBookLine 17 = .ok (.aload_n 0, 1) := by decide +kernel
theorem dX6_readBookLine_18 : decode cX6_readBookLine 18 = .ok (.getfield 38, 3) := by decide +kernel
theorem dX6_readBookLine_21 : decode cX6_readBookLine 21 = .ok (.getfield 125, 3) := by decide +kernel
theorem dX6_readBookLine_24 : decode cX6_readBookLine 24 = .ok (.invokevirtual 208, 3) := by decide +kernel
theorem dX6_readBookLine_27 : decode cX6_readBookLine 27 = .ok (.istore_n 2, 1) := by decide +kernel
theorem dX6_readBookLine_28 : decode cX6_readBookLine 28 = .ok (.iload_n 2, 1) := by decide +kernel
theorem dX6_readBookLine_29 : decode cX6_readBookLine 29 = .ok (.iconst (-1), 1) := by decide +kernel
theorem dX6_readBookLine_30 : decode cX6_readBookLine 30 = .ok (.if_icmp .ne 9, 3) := by decide +kernel
theorem dX6_readBookLine_33 : decode cX6_readBookLine 33 = .ok (.aload_n 0, 1) := by decide +kernel
theorem dX6_readBookLine_34 : decode cX6_readBookLine 34 = .ok (.iconst 3, 1) := by decide +kernel
theorem dX6_readBookLine_35 : decode cX6_readBookLine 35 = .ok (.invokevirtual 79, 3) := by decide +kernel
theorem dX6_readBookLine_38 : decode cX6_readBookLine 38 = .ok (.ireturn, 1) := by decide +kernel
theorem dX6_readBookLine_39 : decode cX6_readBookLine 39 = .ok (.aload_n 0, 1) := by decide +kernel
theorem dX6_readBookLine_40 : decode cX6_readBookLine 40 = .ok (.getfield 18, 3) := by decide +kernel
theorem dX6_readBookLine_43 : decode cX6_readBookLine 43 = .ok (.bipush 40, 2) := by decide +kernel
theorem dX6_readBookLine_45 : decode cX6_readBookLine 45 = .ok (.if_icmp .lt 9, 3) := by decide +kernel
theorem dX6_readBookLine_48 : decode cX6_readBookLine 48 = .ok (.aload_n 0, 1) := by decide +kernel
theorem dX6_readBookLine_49 : decode cX6_readBookLine 49 = .ok (.iconst 4, 1) := by decide +kernel
theorem dX6_readBookLine_50 : decode cX6_readBookLine 50 = .ok (.invokevirtual 79, 3) := by decide +kernel
theorem dX6_readBookLine_53 : decode cX6_readBookLine 53 = .ok (.ireturn, 1) := by decide +kernel
theorem dX6_readBookLine_54 : decode cX6_readBookLine 54 = .ok (.aload_n 0, 1) := by decide +kernel
theorem dX6_readBookLine_55 : decode cX6_readBookLine 55 = .ok (.getfield 38, 3) := by decide +kernel
theorem dX6_readBookLine_58 : decode cX6_readBookLine 58 = .ok (.invokevirtual 51, 3) := by decide +kernel
theorem dX6_readBookLine_61 : decode cX6_readBookLine 61 = .ok (.aload_n 0, 1) := by decide +kernel
theorem dX6_readBookLine_62 : decode cX6_readBookLine 62 = .ok (.getfield 38, 3) := by decide +kernel
theorem dX6_readBookLine_65 : decode cX6_readBookLine 65 = .ok (.ldc 212, 2) := by decide +kernel
theorem dX6_readBookLine_67 : decode cX6_readBookLine 67 = .ok (.invokevirtual 85, 3) := by decide +kernel
theorem dX6_readBookLine_70 : decode cX6_readBookLine 70 = .ok (.istore_n 3, 1) := by decide +kernel
theorem dX6_readBookLine_71 : decode cX6_readBookLine 71 = .ok (.iload_n 3, 1) := by decide +kernel
theorem dX6_readBookLine_72 : decode cX6_readBookLine 72 = .ok (.ifCond .eq 10, 3) := by decide +kernel
theorem dX6_readBookLine_75 : decode cX6_readBookLine 75 = .ok (.aload_n 0, 1) := by decide +kernel
theorem dX6_readBookLine_76 : decode cX6_readBookLine 76 = .ok (.getfield 38, 3) := by decide +kernel
theorem dX6_readBookLine_79 : decode cX6_readBookLine 79 = .ok (.invokevirtual 51, 3) := by decide +kernel
theorem dX6_readBookLine_82 : decode cX6_readBookLine 82 = .ok (.aload_n 0, 1) := by decide +kernel
theorem dX6_readBookLine_83 : decode cX6_readBookLine 83 = .ok (.getfield 11, 3) := by decide +kernel
theorem dX6_readBookLine_86 : decode cX6_readBookLine 86 = .ok (.aload_n 0, 1) := by decide +kernel
theorem dX6_readBookLine_87 : decode cX6_readBookLine 87 = .ok (.getfield 18, 3) := by decide +kernel
theorem dX6_readBookLine_90 : decode cX6_readBookLine 90 = .ok (.iload_n 2, 1) := by decide +kernel
theorem dX6_readBookLine_91 : decode cX6_readBookLine 91 = .ok (.iastore, 1) := by decide +kernel
theorem dX6_readBookLine_92 : decode cX6_readBookLine 92 = .ok (.aload_n 0, 1) := by decide +kernel
theorem dX6_readBookLine_93 : decode cX6_readBookLine 93 = .ok (.getfield 15, 3) := by decide +kernel
theorem dX6_readBookLine_96 : decode cX6_readBookLine 96 = .ok (.aload_n 0, 1) := by decide +kernel
theorem dX6_readBookLine_97 : decode cX6_readBookLine 97 = .ok (.getfield 18, 3) := by decide +kernel
theorem dX6_readBookLine_100 : decode cX6_readBookLine 100 = .ok (.iload_n 3, 1) := by decide +kernel
theorem dX6_readBookLine_101 : decode cX6_readBookLine 101 = .ok (.ifCond .eq 7, 3) := by decide +kernel
theorem dX6_readBookLine_104 : decode cX6_readBookLine 104 = .ok (.iconst 2, 1) := by decide +kernel
theorem dX6_readBookLine_105 : decode cX6_readBookLine 105 = .ok (.goto 4, 3) := by decide +kernel
theorem dX6_readBookLine_108 : decode cX6_readBookLine 108 = .ok (.iconst 1, 1) := by decide +kernel
theorem dX6_readBookLine_109 : decode cX6_readBookLine 109 = .ok (.iastore, 1) := by decide +kernel
theorem dX6_readBookLine_110 : decode cX6_readBookLine 110 = .ok (.aload_n 0, 1) := by decide +kernel
theorem dX6_readBookLine_111 : decode cX6_readBookLine 111 = .ok (.invokevirtual 188, 3) := by decide +kernel
theorem dX6_readBookLine_114 : decode cX6_readBookLine 114 = .ok (.ireturn, 1) := by decide +kernel
theorem dX6_readSemicolon_0 : decode cX6_readSemicolon 0 = .ok (.aload_n 0, 1) := by decide +kernel
theorem dX6_readSemicolon_1 : decode cX6_readSemicolon 1 = .ok (.getfield 38, 3) := by decide +kernel
theorem dX6_readSemicolon_4 : decode cX6_readSemicolon 4 = .ok (.invokevirtual 51, 3) := by decide +kernel
theorem dX6_readSemicolon_7 : decode cX6_readSemicolon 7 = .ok (.aload_n 0, 1) := by decide +kernel
theorem dX6_readSemicolon_8 : decode cX6_readSemicolon 8 = .ok (.invokevirtual 188, 3) := by decide +kernel
theorem dX6_readSemicolon_11 : decode cX6_readSemicolon 11 = .ok (.ireturn, 1) := by decide +kernel
theorem dX6_atSemicolon_0 : decode cX6_atSemicolon 0 = .ok (.aload_n 0, 1) := by decide +kernel
theorem dX6_atSemicolon_1 : decode cX6_atSemicolon 1 = .ok (.getfield 38, 3) := by decide +kernel
theorem dX6_atSemicolon_4 : decode cX6_atSemicolon 4 = .ok (.getfield 56, 3) := by decide +kernel
theorem dX6_atSemicolon_7 : decode cX6_atSemicolon 7 = .ok (.iconst 3, 1) := by decide +kernel
theorem dX6_atSemicolon_8 : decode cX6_atSemicolon 8 = .ok (.if_icmp .eq 11, 3) := by decide +kernel
theorem dX6_atSemicolon_11 : decode cX6_atSemicolon 11 = .ok (.aload_n 0, 1) := by decide +kernel
theorem dX6_atSemicolon_12 : decode cX6_atSemicolon 12 = .ok (.iconst 1, 1) := by decide +kernel
theorem dX6_atSemicolon_13 : decode cX6_atSemicolon 13 = .ok (.invokevirtual 79, 3) := by decide +kernel
theorem dX6_atSemicolon_16 : decode cX6_atSemicolon 16 = .ok (.ifCond .eq 7, 3) := by decide +kernel
theorem dX6_atSemicolon_19 : decode cX6_atSemicolon 19 = .ok (.iconst 1, 1) := by decide +kernel
theorem dX6_atSemicolon_20 : decode cX6_atSemicolon 20 = .ok (.goto 4, 3) := by decide +kernel
theorem dX6_atSemicolon_23 : decode cX6_atSemicolon 23 = .ok (.iconst 0, 1) := by decide +kernel
theorem dX6_atSemicolon_24 : decode cX6_atSemicolon 24 = .ok (.ireturn, 1) := by decide +kernel
theorem dX6_readNumber_0 : decode cX6_readNumber 0 = .ok (.aload_n 0, 1) := by decide +kernel
theorem dX6_readNumber_1 : decode cX6_readNumber 1 = .ok (.getfield 38, 3) := by decide +kernel
theorem dX6_readNumber_4 : decode cX6_readNumber 4 = .ok (.invokevirtual 51, 3) := by decide +kernel
theorem dX6_readNumber_7 : decode cX6_readNumber 7 = .ok (.aload_n 0, 1) := by decide +kernel
theorem dX6_readNumber_8 : decode cX6_readNumber 8 = .ok (.getfield 38, 3) := by decide +kernel
theorem dX6_readNumber_11 : decode cX6_readNumber 11 = .ok (.getfield 56, 3) := by decide +kernel
theorem dX6_readNumber_14 : decode cX6_readNumber 14 = .ok (.iconst 2, 1) := by decide +kernel
theorem dX6_readNumber_15 : decode cX6_readNumber 15 = .ok (.if_icmp .eq 9, 3) := by decide +kernel
theorem dX6_readNumber_18 : decode cX6_readNumber 18 = .ok (.aload_n 0, 1) := by decide +kernel
theorem dX6_readNumber_19 : decode cX6_readNumber 19 = .ok (.iconst 1, 1) := by decide +kernel
theorem dX6_readNumber_20 : decode cX6_readNumber 20 = .ok (.invokevirtual 79, 3) := by decide +kernel
theorem dX6_readNumber_23 : decode cX6_readNumber 23 = .ok (.ireturn, 1) := by decide +kernel
theorem dX6_readNumber_24 : decode cX6_readNumber 24 = .ok (.aload_n 0, 1) := by decide +kernel
theorem dX6_readNumber_25 : decode cX6_readNumber 25 = .ok (.getfield 38, 3) := by decide +kernel
theorem dX6_readNumber_28 : decode cX6_readNumber 28 = .ok (.getfield 133, 3) := by decide +kernel
theorem dX6_readNumber_31 : decode cX6_readNumber 31 = .ok (.iload_n 1, 1) := by decide +kernel
theorem dX6_readNumber_32 : decode cX6_readNumber 32 = .ok (.if_icmp .lt 14, 3) := by decide +kernel
theorem dX6_readNumber_35 : decode cX6_readNumber 35 = .ok (.aload_n 0, 1) := by decide +kernel
theorem dX6_readNumber_36 : decode cX6_readNumber 36 = .ok (.getfield 38, 3) := by decide +kernel
theorem dX6_readNumber_39 : decode cX6_readNumber 39 = .ok (.getfield 133, 3) := by decide +kernel
theorem dX6_readNumber_42 : decode cX6_readNumber 42 = .ok (.iload_n 2, 1) := by decide +kernel
theorem dX6_readNumber_43 : decode cX6_readNumber 43 = .ok (.if_icmp .le 11, 3) := by decide +kernel
theorem dX6_readNumber_46 : decode cX6_readNumber 46 = .ok (.aload_n 0, 1) := by decide +kernel
theorem dX6_readNumber_47 : decode cX6_readNumber 47 = .ok (.iconst 2, 1) := by decide +kernel
theorem dX6_readNumber_48 : decode cX6_readNumber 48 = .ok (.invokevirtual 79, 3) := by decide +kernel
theorem dX6_readNumber_51 : decode cX6_readNumber 51 = .ok (.ifCond .eq 7, 3) := by decide +kernel
theorem dX6_readNumber_54 : decode cX6_readNumber 54 = .ok (.iconst 1, 1) := by decide +kernel
theorem dX6_readNumber_55 : decode cX6_readNumber 55 = .ok (.goto 4, 3) := by decide +kernel
theorem dX6_readNumber_58 : decode cX6_readNumber 58 = .ok (.iconst 0, 1) := by decide +kernel
theorem dX6_readNumber_59 : decode cX6_readNumber 59 = .ok (.ireturn, 1) := by decide +kernel
theorem dX6_readNewName_0 : decode cX6_readNewName 0 = .ok (.aload_n 0, 1) := by decide +kernel
theorem dX6_readNewName_1 : decode cX6_readNewName 1 = .ok (.getfield 38, 3) := by decide +kernel
theorem dX6_readNewName_4 : decode cX6_readNewName 4 = .ok (.invokevirtual 51, 3) := by decide +kernel
theorem dX6_readNewName_7 : decode cX6_readNewName 7 = .ok (.aload_n 0, 1) := by decide +kernel
theorem dX6_readNewName_8 : decode cX6_readNewName 8 = .ok (.getfield 38, 3) := by decide +kernel
theorem dX6_readNewName_11 : decode cX6_readNewName 11 = .ok (.invokevirtual 205, 3) := by decide +kernel
theorem dX6_readNewName_14 : decode cX6_readNewName 14 = .ok (.ifCond .ne 9, 3) := by decide +kernel
theorem dX6_readNewName_17 : decode cX6_readNewName 17 = .ok (.aload_n 0, 1) := by decide +kernel
theorem dX6_readNewName_18 : decode cX6_readNewName 18 = .ok (.iconst 1, 1) := by decide +kernel
theorem dX6_readNewName_19 : decode cX6_readNewName 19 = .ok (.invokevirtual 79, 3) := by decide +kernel
theorem dX6_readNewName_22 : decode cX6_readNewName 22 = .ok (.ireturn, 1) := by decide +kernel
theorem dX6_readNewName_23 : decode cX6_readNewName 23 = .ok (.aload_n 1, 1) := by decide +kernel
theorem dX6_readNewName_24 : decode cX6_readNewName 24 = .ok (.aload_n 0, 1) := by decide +kernel
theorem dX6_readNewName_25 : decode cX6_readNewName 25 = .ok (.getfield 38, 3) := by decide +kernel
theorem dX6_readNewName_28 : decode cX6_readNewName 28 = .ok (.getfield 125, 3) := by decide +kernel
theorem dX6_readNewName_31 : decode cX6_readNewName 31 = .ok (.invokevirtual 214, 3) := by decide +kernel
theorem dX6_readNewName_34 : decode cX6_readNewName 34 = .ok (.iconst (-1), 1) := by decide +kernel
theorem dX6_readNewName_35 : decode cX6_readNewName 35 = .ok (.if_icmp .ne 22, 3) := by decide +kernel
theorem dX6_readNewName_38 : decode cX6_readNewName 38 = .ok (.aload_n 1, 1) := by decide +kernel
theorem dX6_readNewName_39 : decode cX6_readNewName 39 = .ok (.aload_n 0, 1) := by decide +kernel
theorem dX6_readNewName_40 : decode cX6_readNewName 40 = .ok (.getfield 38, 3) := by decide +kernel
theorem dX6_readNewName_43 : decode cX6_readNewName 43 = .ok (.getfield 125, 3) := by decide +kernel
theorem dX6_readNewName_46 : decode cX6_readNewName 46 = .ok (.invokevirtual 208, 3) := by decide +kernel
theorem dX6_readNewName_49 : decode cX6_readNewName 49 = .ok (.iconst (-1), 1) := by decide +kernel
theorem dX6_readNewName_50 : decode cX6_readNewName 50 = .ok (.if_icmp .ne 7, 3) := by decide +kernel
theorem dX6_readNewName_53 : decode cX6_readNewName 53 = .ok (.iconst 1, 1) := by decide +kernel
theorem dX6_readNewName_54 : decode cX6_readNewName 54 = .ok (.goto 4, 3) := by decide +kernel
theorem dX6_readNewName_57 : decode cX6_readNewName 57 = .ok (.iconst 0, 1) := by decide +kernel
theorem dX6_readNewName_58 : decode cX6_readNewName 58 = .ok (.istore_n 2, 1) := by decide +kernel
theorem dX6_readNewName_59 : decode cX6_readNewName 59 = .ok (.iload_n 2, 1) := by decide +kernel
theorem dX6_readNewName_60 : decode cX6_readNewName 60 = .ok (.ifCond .ne 11, 3) := by decide +kernel
theorem dX6_readNewName_63 : decode cX6_readNewName 63 = .ok (.aload_n 0, 1) := by decide +kernel
theorem dX6_readNewName_64 : decode cX6_readNewName 64 = .ok (.iconst 3, 1) := by decide +kernel
theorem dX6_readNewName_65 : decode cX6_readNewName 65 = .ok (.invokevirtual 79, 3) := by decide +kernel
theorem dX6_readNewName_68 : decode cX6_readNewName 68 = .ok (.ifCond .eq 7, 3) := by decide +kernel
theorem dX6_readNewName_71 : decode cX6_readNewName 71 = .ok (.iconst 1, 1) := by decide +kernel
theorem dX6_readNewName_72 : decode cX6_readNewName 72 = .ok (.goto 4, 3) := by decide +kernel
theorem dX6_readNewName_75 : decode cX6_readNewName 75 = .ok (.iconst 0, 1) := by decide +kernel
theorem dX6_readNewName_76 : decode cX6_readNewName 76 = .ok (.ireturn, 1) := by decide +kernel
theorem dX6_readKnownPerson_0 : decode cX6_readKnownPerson 0 = .ok (.aload_n 0, 1) := by decide +kernel
theorem dX6_readKnownPerson_1 : decode cX6_readKnownPerson 1 = .ok (.getfield 38, 3) := by decide +kernel
theorem dX6_readKnownPerson_4 : decode cX6_readKnownPerson 4 = .ok (.invokevirtual 51, 3) := by decide +kernel
theorem dX6_readKnownPerson_7 : decode cX6_readKnownPerson 7 = .ok (.aload_n 0, 1) := by decide +kernel
theorem dX6_readKnownPerson_8 : decode cX6_readKnownPerson 8 = .ok (.getfield 38, 3) := by decide +kernel
theorem dX6_readKnownPerson_11 : decode cX6_readKnownPerson 11 = .ok (.invokevirtual 205, 3) := by decide +kernel
theorem dX6_readKnownPerson_14 : decode cX6_readKnownPerson 14 = .ok (.ifCond .ne 11, 3) := by decide +kernel
theorem dX6_readKnownPerson_17 : decode cX6_readKnownPerson 17 = .ok (.aload_n 0, 1) := by decide +kernel
theorem dX6_readKnownPerson_18 : decode cX6_readKnownPerson 18 = .ok (.iconst 1, 1) := by decide +kernel
theorem dX6_readKnownPerson_19 : decode cX6_readKnownPerson 19 = .ok (.invokevirtual 79, 3) := by decide +kernel
theorem dX6_readKnownPerson_22 : decode cX6_readKnownPerson 22 = .ok (.pop, 1) := by decide +kernel
theorem dX6_readKnownPerson_23 : decode cX6_readKnownPerson 23 = .ok (.iconst (-1), 1) := by decide +kernel
theorem dX6_readKnownPerson_24 : decode cX6_readKnownPerson 24 = .ok (.ireturn, 1) := by decide +kernel
theorem dX6_readKnownPerson_25 : decode cX6_readKnownPerson 25 = .ok (.aload_n 1, 1) := by decide +kernel
theorem dX6_readKnownPerson_26 : decode cX6_readKnownPerson 26 = .ok (.aload_n 0, 1) := by decide +kernel
theorem dX6_readKnownPerson_27 : decode cX6_readKnownPerson 27 = .ok (.getfield 38, 3) := by decide +kernel
theorem dX6_readKnownPerson_30 : decode cX6_readKnownPerson 30 = .ok (.getfield 125, 3) := by decide +kernel
theorem dX6_readKnownPerson_33 : decode cX6_readKnownPerson 33 = .ok (.invokevirtual 214, 3) := by decide +kernel
theorem dX6_readKnownPerson_36 : decode cX6_readKnownPerson 36 = .ok (.istore_n 2, 1) := by decide +kernel
theorem dX6_readKnownPerson_37 : decode cX6_readKnownPerson 37 = .ok (.iload_n 2, 1) := by decide +kernel
theorem dX6_readKnownPerson_38 : decode cX6_readKnownPerson 38 = .ok (.iconst (-1), 1) := by decide +kernel
theorem dX6_readKnownPerson_39 : decode cX6_readKnownPerson 39 = .ok (.if_icmp .ne 9, 3) := by decide +kernel
theorem dX6_readKnownPerson_42 : decode cX6_readKnownPerson 42 = .ok (.aload_n 0, 1) := by decide +kernel
theorem dX6_readKnownPerson_43 : decode cX6_readKnownPerson 43 = .ok (.iconst 3, 1) := by decide +kernel
theorem dX6_readKnownPerson_44 : decode cX6_readKnownPerson 44 = .ok (.invokevirtual 79, 3) := by decide +kernel
theorem dX6_readKnownPerson_47 : decode cX6_readKnownPerson 47 = .ok (.pop, 1) := by decide +kernel
theorem dX6_readKnownPerson_48 : decode cX6_readKnownPerson 48 = .ok (.iload_n 2, 1) := by decide +kernel
theorem dX6_readKnownPerson_49 : decode cX6_readKnownPerson 49 = .ok (.ireturn, 1) := by decide +kernel
theorem dX7_init_0 : decode cX7_init 0 = .ok (.aload_n 0, 1) := by decide +kernel
theorem dX7_init_1 : decode cX7_init 1 = .ok (.invokespecial 3, 3) := by decide +kernel
theorem dX7_init_4 : decode cX7_init 4 = .ok (.aload_n 0, 1) := by decide +kernel
theorem dX7_init_5 : decode cX7_init 5 = .ok (.sipush 1024, 3) := by decide +kernel
theorem dX7_init_8 : decode cX7_init 8 = .ok (.newarray .int, 2) := by decide +kernel
theorem dX7_init_10 : decode cX7_init 10 = .ok (.putfield 9, 3) := by decide +kernel
theorem dX7_init_13 : decode cX7_init 13 = .ok (.aload_n 0, 1) := by decide +kernel
theorem dX7_init_14 : decode cX7_init 14 = .ok (.iconst 0, 1) := by decide +kernel
theorem dX7_init_15 : decode cX7_init 15 = .ok (.putfield 15, 3) := by decide +kernel
theorem dX7_init_18 : decode cX7_init 18 = .ok (.aload_n 0, 1) := by decide +kernel
theorem dX7_init_19 : decode cX7_init 19 = .ok (.iconst 0, 1) := by decide +kernel
theorem dX7_init_20 : decode cX7_init 20 = .ok (.putfield 19, 3) := by decide +kernel
theorem dX7_init_23 : decode cX7_init 23 = .ok (.aload_n 0, 1) := by decide +kernel
theorem dX7_init_24 : decode cX7_init 24 = .ok (.iconst 0, 1) := by decide +kernel
theorem dX7_init_25 : decode cX7_init 25 = .ok (.putfield 23, 3) := by decide +kernel
theorem dX7_init_28 : decode cX7_init 28 = .ok (.return_, 1) := by decide +kernel
theorem dX7_follow_0 : decode cX7_follow 0 = .ok (.aload_n 0, 1) := by decide +kernel
theorem dX7_follow_1 : decode cX7_follow 1 = .ok (.getfield 9, 3) := by decide +kernel
theorem dX7_follow_4 : decode cX7_follow 4 = .ok (.iconst (-1), 1) := by decide +kernel
theorem dX7_follow_5 : decode cX7_follow 5 = .ok (.invokestatic 26, 3) := by decide +kernel
theorem dX7_follow_8 : decode cX7_follow 8 = .ok (.aload_n 0, 1) := by decide +kernel
theorem dX7_follow_9 : decode cX7_follow 9 = .ok (.getfield 9, 3) := by decide +kernel
theorem dX7_follow_12 : decode cX7_follow 12 = .ok (.iload_n 2, 1) := by decide +kernel
theorem dX7_follow_13 : decode cX7_follow 13 = .ok (.iconst 0, 1) := by decide +kernel
theorem dX7_follow_14 : decode cX7_follow 14 = .ok (.iastore, 1) := by decide +kernel
theorem dX7_follow_15 : decode cX7_follow 15 = .ok (.aload_n 0, 1) := by decide +kernel
theorem dX7_follow_16 : decode cX7_follow 16 = .ok (.iconst 1, 1) := by decide +kernel
theorem dX7_follow_17 : decode cX7_follow 17 = .ok (.putfield 15, 3) := by decide +kernel
theorem dX7_follow_20 : decode cX7_follow 20 = .ok (.aload_n 0, 1) := by decide +kernel
theorem dX7_follow_21 : decode cX7_follow 21 = .ok (.iload_n 2, 1) := by decide +kernel
theorem dX7_follow_22 : decode cX7_follow 22 = .ok (.putfield 19, 3) := by decide +kernel
theorem dX7_follow_25 : decode cX7_follow 25 = .ok (.aload_n 0, 1) := by decide +kernel
theorem dX7_follow_26 : decode cX7_follow 26 = .ok (.iconst 0, 1) := by decide +kernel
theorem dX7_follow_27 : decode cX7_follow 27 = .ok (.putfield 23, 3) := by decide +kernel
theorem dX7_follow_30 : decode cX7_follow 30 = .ok (.iconst 1, 1) := by decide +kernel
theorem dX7_follow_31 : decode cX7_follow 31 = .ok (.istore_n 3, 1) := by decide +kernel
theorem dX7_follow_32 : decode cX7_follow 32 = .ok (.iload_n 3, 1) := by decide +kernel
theorem dX7_follow_33 : decode cX7_follow 33 = .ok (.sipush 1024, 3) := by decide +kernel
theorem dX7_follow_36 : decode cX7_follow 36 = .ok (.if_icmp .gt 70, 3) := by decide +kernel
theorem dX7_follow_39 : decode cX7_follow 39 = .ok (.aload_n 1, 1) := by decide +kernel
theorem dX7_follow_40 : decode cX7_follow 40 = .ok (.aload_n 0, 1) := by decide +kernel
theorem dX7_follow_41 : decode cX7_follow 41 = .ok (.getfield 19, 3) := by decide +kernel
theorem dX7_follow_44 : decode cX7_follow 44 = .ok (.invokestatic 32, 3) := by decide +kernel
theorem dX7_follow_47 : decode cX7_follow 47 = .ok (.istore 4, 2) := by decide +kernel
theorem dX7_follow_49 : decode cX7_follow 49 = .ok (.iload 4, 2) := by decide +kernel
theorem dX7_follow_51 : decode cX7_follow 51 = .ok (.aload_n 0, 1) := by decide +kernel
theorem dX7_follow_52 : decode cX7_follow 52 = .ok (.getfield 19, 3) := by decide +kernel
theorem dX7_follow_55 : decode cX7_follow 55 = .ok (.if_icmp .ne 5, 3) := by decide +kernel
theorem dX7_follow_58 : decode cX7_follow 58 = .ok (.iload_n 3, 1) := by decide +kernel
theorem dX7_follow_59 : decode cX7_follow 59 = .ok (.ireturn, 1) := by decide +kernel
theorem dX7_follow_60 : decode cX7_follow 60 = .ok (.aload_n 0, 1) := by decide +kernel
theorem dX7_follow_61 : decode cX7_follow 61 = .ok (.iload 4, 2) := by decide +kernel
theorem dX7_follow_63 : decode cX7_follow 63 = .ok (.putfield 19, 3) := by decide +kernel
theorem dX7_follow_66 : decode cX7_follow 66 = .ok (.aload_n 0, 1) := by decide +kernel
theorem dX7_follow_67 : decode cX7_follow 67 = .ok (.getfield 9, 3) := by decide +kernel
theorem dX7_follow_70 : decode cX7_follow 70 = .ok (.iload 4, 2) := by decide +kernel
theorem dX7_follow_72 : decode cX7_follow 72 = .ok (.iaload, 1) := by decide +kernel
theorem dX7_follow_73 : decode cX7_follow 73 = .ok (.iconst (-1), 1) := by decide +kernel
theorem dX7_follow_74 : decode cX7_follow 74 = .ok (.if_icmp .eq 18, 3) := by decide +kernel
theorem dX7_follow_77 : decode cX7_follow 77 = .ok (.aload_n 0, 1) := by decide +kernel
theorem dX7_follow_78 : decode cX7_follow 78 = .ok (.iload_n 3, 1) := by decide +kernel
theorem dX7_follow_79 : decode cX7_follow 79 = .ok (.aload_n 0, 1) := by decide +kernel
theorem dX7_follow_80 : decode cX7_follow 80 = .ok (.getfield 9, 3) := by decide +kernel
theorem dX7_follow_83 : decode cX7_follow 83 = .ok (.iload 4, 2) := by decide +kernel
theorem dX7_follow_85 : decode cX7_follow 85 = .ok (.iaload, 1) := by decide +kernel
theorem dX7_follow_86 : decode cX7_follow 86 = .ok (.isub, 1) := by decide +kernel
theorem dX7_follow_87 : decode cX7_follow 87 = .ok (.putfield 23, 3) := by decide +kernel
theorem dX7_follow_90 : decode cX7_follow 90 = .ok (.iload_n 3, 1) := by decide +kernel
theorem dX7_follow_91 : decode cX7_follow 91 = .ok (.ireturn, 1) := by decide +kernel
theorem dX7_follow_92 : decode cX7_follow 92 = .ok (.aload_n 0, 1) := by decide +kernel
theorem dX7_follow_93 : decode cX7_follow 93 = .ok (.getfield 9, 3) := by decide +kernel
theorem dX7_follow_96 : decode cX7_follow 96 = .ok (.iload 4, 2) := by decide +kernel
theorem dX7_follow_98 : decode cX7_follow 98 = .ok (.iload_n 3, 1) := by decide +kernel
theorem dX7_follow_99 : decode cX7_follow 99 = .ok (.iastore, 1) := by decide +kernel
theorem dX7_follow_100 : decode cX7_follow 100 = .ok (.iinc 3 1, 3) := by decide +kernel
theorem dX7_follow_103 : decode cX7_follow 103 = .ok (.goto (-71), 3) := by decide +kernel
theorem dX7_follow_106 : decode cX7_follow 106 = .ok (.sipush 1024, 3) := by decide +kernel
theorem dX7_follow_109 : decode cX7_follow 109 = .ok (.ireturn, 1) := by decide +kernel
theorem dX7_behindOne_0 : decode cX7_behindOne 0 = .ok (.iload_n 1, 1) := by decide +kernel
theorem dX7_behindOne_1 : decode cX7_behindOne 1 = .ok (.istore_n 2, 1) := by decide +kernel
theorem dX7_behindOne_2 : decode cX7_behindOne 2 = .ok (.iconst 0, 1) := by decide +kernel
theorem dX7_behindOne_3 : decode cX7_behindOne 3 = .ok (.istore_n 3, 1) := by decide +kernel
theorem dX7_behindOne_4 : decode cX7_behindOne 4 = .ok (.iload_n 3, 1) := by decide +kernel
theorem dX7_behindOne_5 : decode cX7_behindOne 5 = .ok (.aload_n 0, 1) := by decide +kernel
theorem dX7_behindOne_6 : decode cX7_behindOne 6 = .ok (.getfield 36, 3) := by decide +kernel
theorem dX7_behindOne_9 : decode cX7_behindOne 9 = .ok (.if_icmp .ge 24, 3) := by decide +kernel
theorem dX7_behindOne_12 : decode cX7_behindOne 12 = .ok (.aload_n 0, 1) := by decide +kernel
theorem dX7_behindOne_13 : decode cX7_behindOne 13 = .ok (.iload_n 3, 1) := by decide +kernel
theorem dX7_behindOne_14 : decode cX7_behindOne 14 = .ok (.iload_n 2, 1) := by decide +kernel
theorem dX7_behindOne_15 : decode cX7_behindOne 15 = .ok (.invokevirtual 41, 3) := by decide +kernel
theorem dX7_behindOne_18 : decode cX7_behindOne 18 = .ok (.ifCond .eq 9, 3) := by decide +kernel
theorem dX7_behindOne_21 : decode cX7_behindOne 21 = .ok (.iload_n 2, 1) := by decide +kernel
theorem dX7_behindOne_22 : decode cX7_behindOne 22 = .ok (.iconst 1, 1) := by decide +kernel
theorem dX7_behindOne_23 : decode cX7_behindOne 23 = .ok (.iload_n 3, 1) := by decide +kernel
theorem dX7_behindOne_24 : decode cX7_behindOne 24 = .ok (.ishl, 1) := by decide +kernel
theorem dX7_behindOne_25 : decode cX7_behindOne 25 = .ok (.ixor, 1) := by decide +kernel
theorem dX7_behindOne_26 : decode cX7_behindOne 26 = .ok (.istore_n 2, 1) := by decide +kernel
theorem dX7_behindOne_27 : decode cX7_behindOne 27 = .ok (.iinc 3 1, 3) := by decide +kernel
theorem dX7_behindOne_30 : decode cX7_behindOne 30 = .ok (.goto (-26), 3) := by decide +kernel
theorem dX7_behindOne_33 : decode cX7_behindOne 33 = .ok (.iload_n 2, 1) := by decide +kernel
theorem dX7_behindOne_34 : decode cX7_behindOne 34 = .ok (.ireturn, 1) := by decide +kernel
theorem dX8_init_0 : decode cX8_init 0 = .ok (.aload_n 0, 1) := by decide +kernel
theorem dX8_init_1 : decode cX8_init 1 = .ok (.invokespecial 1, 3) := by decide +kernel
theorem dX8_init_4 : decode cX8_init 4 = .ok (.aload_n 0, 1) := by decide +kernel
theorem dX8_init_5 : decode cX8_init 5 = .ok (.new 7, 3) := by decide +kernel
theorem dX8_init_8 : decode cX8_init 8 = .ok (.dup, 1) := by decide +kernel
theorem dX8_init_9 : decode cX8_init 9 = .ok (.invokespecial 9, 3) := by decide +kernel
theorem dX8_init_12 : decode cX8_init 12 = .ok (.putfield 10, 3) := by decide +kernel
theorem dX8_init_15 : decode cX8_init 15 = .ok (.aload_n 0, 1) := by decide +kernel
theorem dX8_init_16 : decode cX8_init 16 = .ok (.new 16, 3) := by decide +kernel
theorem dX8_init_19 : decode cX8_init 19 = .ok (.dup, 1) := by decide +kernel
theorem dX8_init_20 : decode cX8_init 20 = .ok (.invokespecial 18, 3) := by decide +kernel
theorem dX8_init_23 : decode cX8_init 23 = .ok (.putfield 19, 3) := by decide +kernel
theorem dX8_init_26 : decode cX8_init 26 = .ok (.aload_n 0, 1) := by decide +kernel
theorem dX8_init_27 : decode cX8_init 27 = .ok (.iconst 0, 1) := by decide +kernel
theorem dX8_init_28 : decode cX8_init 28 = .ok (.putfield 23, 3) := by decide +kernel
theorem dX8_init_31 : decode cX8_init 31 = .ok (.return_, 1) := by decide +kernel
theorem dX8_copyFrom_0 : decode cX8_copyFrom 0 = .ok (.aload_n 0, 1) := by decide +kernel
theorem dX8_copyFrom_1 : decode cX8_copyFrom 1 = .ok (.getfield 10, 3) := by decide +kernel
theorem dX8_copyFrom_4 : decode cX8_copyFrom 4 = .ok (.aload_n 1, 1) := by decide +kernel
theorem dX8_copyFrom_5 : decode cX8_copyFrom 5 = .ok (.getfield 10, 3) := by decide +kernel
theorem dX8_copyFrom_8 : decode cX8_copyFrom 8 = .ok (.invokevirtual 27, 3) := by decide +kernel
theorem dX8_copyFrom_11 : decode cX8_copyFrom 11 = .ok (.aload_n 0, 1) := by decide +kernel
theorem dX8_copyFrom_12 : decode cX8_copyFrom 12 = .ok (.getfield 19, 3) := by decide +kernel
theorem dX8_copyFrom_15 : decode cX8_copyFrom 15 = .ok (.aload_n 1, 1) := by decide +kernel
theorem dX8_copyFrom_16 : decode cX8_copyFrom 16 = .ok (.getfield 19, 3) := by decide +kernel
theorem dX8_copyFrom_19 : decode cX8_copyFrom 19 = .ok (.invokevirtual 31, 3) := by decide +kernel
theorem dX8_copyFrom_22 : decode cX8_copyFrom 22 = .ok (.return_, 1) := by decide +kernel
theorem dX9_init_0 : decode cX9_init 0 = .ok (.aload_n 0, 1) := by decide +kernel
theorem dX9_init_1 : decode cX9_init 1 = .ok (.invokespecial 1, 3) := by decide +kernel
theorem dX9_init_4 : decode cX9_init 4 = .ok (.aload_n 0, 1) := by decide +kernel
theorem dX9_init_5 : decode cX9_init 5 = .ok (.sipush 940, 3) := by decide +kernel
theorem dX9_init_8 : decode cX9_init 8 = .ok (.newarray .byte, 2) := by decide +kernel
theorem dX9_init_10 : decode cX9_init 10 = .ok (.putfield 9, 3) := by decide +kernel
theorem dX9_init_13 : decode cX9_init 13 = .ok (.aload_n 0, 1) := by decide +kernel
theorem dX9_init_14 : decode cX9_init 14 = .ok (.iconst 0, 1) := by decide +kernel
theorem dX9_init_15 : decode cX9_init 15 = .ok (.putfield 13, 3) := by decide +kernel
theorem dX9_init_18 : decode cX9_init 18 = .ok (.aload_n 0, 1) := by decide +kernel
theorem dX9_init_19 : decode cX9_init 19 = .ok (.iconst 0, 1) := by decide +kernel
theorem dX9_init_20 : decode cX9_init 20 = .ok (.putfield 17, 3) := by decide +kernel
theorem dX9_init_23 : decode cX9_init 23 = .ok (.aload_n 0, 1) := by decide +kernel
theorem dX9_init_24 : decode cX9_init 24 = .ok (.iconst 0, 1) := by decide +kernel
theorem dX9_init_25 : decode cX9_init 25 = .ok (.putfield 20, 3) := by decide +kernel
theorem dX9_init_28 : decode cX9_init 28 = .ok (.aload_n 0, 1) := by decide +kernel
theorem dX9_init_29 : decode cX9_init 29 = .ok (.iconst 0, 1) := by decide +kernel
theorem dX9_init_30 : decode cX9_init 30 = .ok (.putfield 23, 3) := by decide +kernel
theorem dX9_init_33 : decode cX9_init 33 = .ok (.aload_n 0, 1) := by decide +kernel
theorem dX9_init_34 : decode cX9_init 34 = .ok (.lconst 0, 1) := by decide +kernel
theorem dX9_init_35 : decode cX9_init 35 = .ok (.putfield 26, 3) := by decide +kernel
theorem dX9_init_38 : decode cX9_init 38 = .ok (.aload_n 0, 1) := by decide +kernel
theorem dX9_init_39 : decode cX9_init 39 = .ok (.iconst 0, 1) := by decide +kernel
theorem dX9_init_40 : decode cX9_init 40 = .ok (.putfield 30, 3) := by decide +kernel
theorem dX9_init_43 : decode cX9_init 43 = .ok (.aload_n 0, 1) := by decide +kernel
theorem dX9_init_44 : decode cX9_init 44 = .ok (.iconst 0, 1) := by decide +kernel
theorem dX9_init_45 : decode cX9_init 45 = .ok (.putfield 33, 3) := by decide +kernel
theorem dX9_init_48 : decode cX9_init 48 = .ok (.return_, 1) := by decide +kernel
theorem dX9_hasRoomFor_0 : decode cX9_hasRoomFor 0 = .ok (.aload_n 0, 1) := by decide +kernel
theorem dX9_hasRoomFor_1 : decode cX9_hasRoomFor 1 = .ok (.getfield 13, 3) := by decide +kernel
theorem dX9_hasRoomFor_4 : decode cX9_hasRoomFor 4 = .ok (.iload_n 1, 1) := by decide +kernel
theorem dX9_hasRoomFor_5 : decode cX9_hasRoomFor 5 = .ok (.iadd, 1) := by decide +kernel
theorem dX9_hasRoomFor_6 : decode cX9_hasRoomFor 6 = .ok (.sipush 940, 3) := by decide +kernel
theorem dX9_hasRoomFor_9 : decode cX9_hasRoomFor 9 = .ok (.if_icmp .gt 7, 3) := by decide +kernel
theorem dX9_hasRoomFor_12 : decode cX9_hasRoomFor 12 = .ok (.iconst 1, 1) := by decide +kernel
theorem dX9_hasRoomFor_13 : decode cX9_hasRoomFor 13 = .ok (.goto 4, 3) := by decide +kernel
theorem dX9_hasRoomFor_16 : decode cX9_hasRoomFor 16 = .ok (.iconst 0, 1) := by decide +kernel
theorem dX9_hasRoomFor_17 : decode cX9_hasRoomFor 17 = .ok (.ireturn, 1) := by decide +kernel
theorem dX9_addNumber_0 : decode cX9_addNumber 0 = .ok (.bipush 24, 2) := by decide +kernel
theorem dX9_addNumber_2 : decode cX9_addNumber 2 = .ok (.istore_n 2, 1) := by decide +kernel
theorem dX9_addNumber_3 : decode cX9_addNumber 3 = .ok (.iload_n 2, 1) := by decide +kernel
theorem dX9_addNumber_4 : decode cX9_addNumber 4 = .ok (.ifCond .lt 42, 3) := by decide +kernel
theorem dX9_addNumber_7 : decode cX9_addNumber 7 = .ok (.aload_n 0, 1) := by decide +kernel
theorem dX9_addNumber_8 : decode cX9_addNumber 8 = .ok (.getfield 13, 3) := by decide +kernel
theorem dX9_addNumber_11 : decode cX9_addNumber 11 = .ok (.sipush 940, 3) := by decide +kernel
theorem dX9_addNumber_14 : decode cX9_addNumber 14 = .ok (.if_icmp .ge 32, 3) := by decide +kernel
theorem dX9_addNumber_17 : decode cX9_addNumber 17 = .ok (.aload_n 0, 1) := by decide +kernel
theorem dX9_addNumber_18 : decode cX9_addNumber 18 = .ok (.getfield 9, 3) := by decide +kernel
theorem dX9_addNumber_21 : decode cX9_addNumber 21 = .ok (.aload_n 0, 1) := by decide +kernel
theorem dX9_addNumber_22 : decode cX9_addNumber 22 = .ok (.getfield 13, 3) := by decide +kernel
theorem dX9_addNumber_25 : decode cX9_addNumber 25 = .ok (.iload_n 1, 1) := by decide +kernel
theorem dX9_addNumber_26 : decode cX9_addNumber 26 = .ok (.iload_n 2, 1) := by decide +kernel
theorem dX9_addNumber_27 : decode cX9_addNumber 27 = .ok (.iushr, 1) := by decide +kernel
theorem dX9_addNumber_28 : decode cX9_addNumber 28 = .ok (.i2b, 1) := by decide +kernel
theorem dX9_addNumber_29 : decode cX9_addNumber 29 = .ok (.bastore, 1) := by decide +kernel
theorem dX9_addNumber_30 : decode cX9_addNumber 30 = .ok (.aload_n 0, 1) := by decide +kernel
theorem dX9_addNumber_31 : decode cX9_addNumber 31 = .ok (.dup, 1) := by decide +kernel
theorem dX9_addNumber_32 : decode cX9_addNumber 32 = .ok (.getfield 13, 3) := by decide +kernel
theorem dX9_addNumber_35 : decode cX9_addNumber 35 = .ok (.iconst 1, 1) := by decide +kernel
theorem dX9_addNumber_36 : decode cX9_addNumber 36 = .ok (.iadd, 1) := by decide +kernel
theorem dX9_addNumber_37 : decode cX9_addNumber 37 = .ok (.putfield 13, 3) := by decide +kernel
theorem dX9_addNumber_40 : decode cX9_addNumber 40 = .ok (.iinc 2 (-8), 3) := by decide +kernel
theorem dX9_addNumber_43 : decode cX9_addNumber 43 = .ok (.goto (-40), 3) := by decide +kernel
theorem dX9_addNumber_46 : decode cX9_addNumber 46 = .ok (.return_, 1) := by decide +kernel
theorem dX9_cut_0 : decode cX9_cut 0 = .ok (.aload_n 0, 1) := by decide +kernel
theorem dX9_cut_1 : decode cX9_cut 1 = .ok (.iload_n 1, 1) := by decide +kernel
theorem dX9_cut_2 : decode cX9_cut 2 = .ok (.putfield 13, 3) := by decide +kernel
theorem dX9_cut_5 : decode cX9_cut 5 = .ok (.return_, 1) := by decide +kernel
theorem dX9_startReading_0 : decode cX9_startReading 0 = .ok (.aload_n 0, 1) := by decide +kernel
theorem dX9_startReading_1 : decode cX9_startReading 1 = .ok (.iconst 0, 1) := by decide +kernel
theorem dX9_startReading_2 : decode cX9_startReading 2 = .ok (.putfield 30, 3) := by decide +kernel
theorem dX9_startReading_5 : decode cX9_startReading 5 = .ok (.aload_n 0, 1) := by decide +kernel
theorem dX9_startReading_6 : decode cX9_startReading 6 = .ok (.aload_n 0, 1) := by decide +kernel
theorem dX9_startReading_7 : decode cX9_startReading 7 = .ok (.getfield 13, 3) := by decide +kernel
theorem dX9_startReading_10 : decode cX9_startReading 10 = .ok (.iload_n 1, 1) := by decide +kernel
theorem dX9_startReading_11 : decode cX9_startReading 11 = .ok (.invokestatic 36, 3) := by decide +kernel
theorem dX9_startReading_14 : decode cX9_startReading 14 = .ok (.putfield 33, 3) := by decide +kernel
theorem dX9_startReading_17 : decode cX9_startReading 17 = .ok (.return_, 1) := by decide +kernel
theorem dX9_next_0 : decode cX9_next 0 = .ok (.aload_n 0, 1) := by decide +kernel
theorem dX9_next_1 : decode cX9_next 1 = .ok (.getfield 30, 3) := by decide +kernel
theorem dX9_next_4 : decode cX9_next 4 = .ok (.aload_n 0, 1) := by decide +kernel
theorem dX9_next_5 : decode cX9_next 5 = .ok (.getfield 33, 3) := by decide +kernel
theorem dX9_next_8 : decode cX9_next 8 = .ok (.if_icmp .ge 44, 3) := by decide +kernel
theorem dX9_next_11 : decode cX9_next 11 = .ok (.aload_n 0, 1) := by decide +kernel
theorem dX9_next_12 : decode cX9_next 12 = .ok (.getfield 9, 3) := by decide +kernel
theorem dX9_next_15 : decode cX9_next 15 = .ok (.aload_n 0, 1) := by decide +kernel
theorem dX9_next_16 : decode cX9_next 16 = .ok (.getfield 30, 3) := by decide +kernel
theorem dX9_next_19 : decode cX9_next 19 = .ok (.baload, 1) := by decide +kernel
theorem dX9_next_20 : decode cX9_next 20 = .ok (.bipush 32, 2) := by decide +kernel
theorem dX9_next_22 : decode cX9_next 22 = .ok (.if_icmp .eq 17, 3) := by decide +kernel
theorem dX9_next_25 : decode cX9_next 25 = .ok (.aload_n 0, 1) := by decide +kernel
theorem dX9_next_26 : decode cX9_next 26 = .ok (.getfield 9, 3) := by decide +kernel
theorem dX9_next_29 : decode cX9_next 29 = .ok (.aload_n 0, 1) := by decide +kernel
theorem dX9_next_30 : decode cX9_next 30 = .ok (.getfield 30, 3) := by decide +kernel
theorem dX9_next_33 : decode cX9_next 33 = .ok (.baload, 1) := by decide +kernel
theorem dX9_next_34 : decode cX9_next 34 = .ok (.bipush 10, 2) := by decide +kernel
theorem dX9_next_36 : decode cX9_next 36 = .ok (.if_icmp .ne 16, 3) := by decide +kernel
theorem dX9_next_39 : decode cX9_next 39 = .ok (.aload_n 0, 1) := by decide +kernel
theorem dX9_next_40 : decode cX9_next 40 = .ok (.dup, 1) := by decide +kernel
theorem dX9_next_41 : decode cX9_next 41 = .ok (.getfield 30, 3) := by decide +kernel
theorem dX9_next_44 : decode cX9_next 44 = .ok (.iconst 1, 1) := by decide +kernel
theorem dX9_next_45 : decode cX9_next 45 = .ok (.iadd, 1) := by decide +kernel
theorem dX9_next_46 : decode cX9_next 46 = .ok (.putfield 30, 3) := by decide +kernel
theorem dX9_next_49 : decode cX9_next 49 = .ok (.goto (-49), 3) := by decide +kernel
theorem dX9_next_52 : decode cX9_next 52 = .ok (.aload_n 0, 1) := by decide +kernel
theorem dX9_next_53 : decode cX9_next 53 = .ok (.getfield 30, 3) := by decide +kernel
theorem dX9_next_56 : decode cX9_next 56 = .ok (.aload_n 0, 1) := by decide +kernel
theorem dX9_next_57 : decode cX9_next 57 = .ok (.getfield 33, 3) := by decide +kernel
theorem dX9_next_60 : decode cX9_next 60 = .ok (.if_icmp .lt 17, 3) := by decide +kernel
theorem dX9_next_63 : decode cX9_next 63 = .ok (.aload_n 0, 1) := by decide +kernel
theorem dX9_next_64 : decode cX9_next 64 = .ok (.iconst 0, 1) := by decide +kernel
theorem dX9_next_65 : decode cX9_next 65 = .ok (.putfield 17, 3) := by decide +kernel
theorem dX9_next_68 : decode cX9_next 68 = .ok (.aload_n 0, 1) := by decide +kernel
theorem dX9_next_69 : decode cX9_next 69 = .ok (.aload_n 0, 1) := by decide +kernel
theorem dX9_next_70 : decode cX9_next 70 = .ok (.getfield 33, 3) := by decide +kernel
theorem dX9_next_73 : decode cX9_next 73 = .ok (.putfield 20, 3) := by decide +kernel
theorem dX9_next_76 : decode cX9_next 76 = .ok (.return_, 1) := by decide +kernel
theorem dX9_next_77 : decode cX9_next 77 = .ok (.aload_n 0, 1) := by decide +kernel
theorem dX9_next_78 : decode cX9_next 78 = .ok (.aload_n 0, 1) := by decide +kernel
theorem dX9_next_79 : decode cX9_next 79 = .ok (.getfield 30, 3) := by decide +kernel
theorem dX9_next_82 : decode cX9_next 82 = .ok (.putfield 20, 3) := by decide +kernel
theorem dX9_next_85 : decode cX9_next 85 = .ok (.aload_n 0, 1) := by decide +kernel
theorem dX9_next_86 : decode cX9_next 86 = .ok (.invokevirtual 42, 3) := by decide +kernel
theorem dX9_next_89 : decode cX9_next 89 = .ok (.aload_n 0, 1) := by decide +kernel
theorem dX9_next_90 : decode cX9_next 90 = .ok (.getfield 30, 3) := by decide +kernel
theorem dX9_next_93 : decode cX9_next 93 = .ok (.aload_n 0, 1) := by decide +kernel
theorem dX9_next_94 : decode cX9_next 94 = .ok (.getfield 20, 3) := by decide +kernel
theorem dX9_next_97 : decode cX9_next 97 = .ok (.if_icmp .ne 36, 3) := by decide +kernel
theorem dX9_next_100 : decode cX9_next 100 = .ok (.aload_n 0, 1) := by decide +kernel
theorem dX9_next_101 : decode cX9_next 101 = .ok (.aload_n 0, 1) := by decide +kernel
theorem dX9_next_102 : decode cX9_next 102 = .ok (.getfield 9, 3) := by decide +kernel
theorem dX9_next_105 : decode cX9_next 105 = .ok (.aload_n 0, 1) := by decide +kernel
theorem dX9_next_106 : decode cX9_next 106 = .ok (.getfield 30, 3) := by decide +kernel
theorem dX9_next_109 : decode cX9_next 109 = .ok (.baload, 1) := by decide +kernel
theorem dX9_next_110 : decode cX9_next 110 = .ok (.bipush 59, 2) := by decide +kernel
theorem dX9_next_112 : decode cX9_next 112 = .ok (.if_icmp .ne 7, 3) := by decide +kernel
theorem dX9_next_115 : decode cX9_next 115 = .ok (.iconst 3, 1) := by decide +kernel
theorem dX9_next_116 : decode cX9_next 116 = .ok (.goto 4, 3) := by decide +kernel
theorem dX9_next_119 : decode cX9_next 119 = .ok (.iconst 4, 1) := by decide +kernel
theorem dX9_next_120 : decode cX9_next 120 = .ok (.putfield 17, 3) := by decide +kernel
theorem dX9_next_123 : decode cX9_next 123 = .ok (.aload_n 0, 1) := by decide +kernel
theorem dX9_next_124 : decode cX9_next 124 = .ok (.dup, 1) := by decide +kernel
theorem dX9_next_125 : decode cX9_next 125 = .ok (.getfield 30, 3) := by decide +kernel
theorem dX9_next_128 : decode cX9_next 128 = .ok (.iconst 1, 1) := by decide +kernel
theorem dX9_next_129 : decode cX9_next 129 = .ok (.iadd, 1) := by decide +kernel
theorem dX9_next_130 : decode cX9_next 130 = .ok (.putfield 30, 3) := by decide +kernel
theorem dX9_next_133 : decode cX9_next 133 = .ok (.return_, 1) := by decide +kernel
theorem dX9_readWordOrNumber_0 : decode cX9_readWordOrNumber 0 = .ok (.iconst 0, 1) := by decide +kernel
theorem dX9_readWordOrNumber_1 : decode cX9_readWordOrNumber 1 = .ok (.istore_n 1, 1) := by decide +kernel
theorem dX9_readWordOrNumber_2 : decode cX9_readWordOrNumber 2 = .ok (.iconst 0, 1) := by decide +kernel
theorem dX9_readWordOrNumber_3 : decode cX9_readWordOrNumber 3 = .ok (.istore_n 2, 1) := by decide +kernel
theorem dX9_readWordOrNumber_4 : decode cX9_readWordOrNumber 4 = .ok (.aload_n 0, 1) := by decide +kernel
theorem dX9_readWordOrNumber_5 : decode cX9_readWordOrNumber 5 = .ok (.iconst 0, 1) := by decide +kernel
theorem dX9_readWordOrNumber_6 : decode cX9_readWordOrNumber 6 = .ok (.putfield 23, 3) := by decide +kernel
theorem dX9_readWordOrNumber_9 : decode cX9_readWordOrNumber 9 = .ok (.aload_n 0, 1) := by decide +kernel
theorem dX9_readWordOrNumber_10 : decode cX9_readWordOrNumber 10 = .ok (.lconst 0, 1) := by decide +kernel
theorem dX9_readWordOrNumber_11 : decode cX9_readWordOrNumber 11 = .ok (.putfield 26, 3) := by decide +kernel
theorem dX9_readWordOrNumber_14 : decode cX9_readWordOrNumber 14 = .ok (.aload_n 0, 1) := by decide +kernel
theorem dX9_readWordOrNumber_15 : decode cX9_readWordOrNumber 15 = .ok (.getfield 30, 3) := by decide +kernel
theorem dX9_readWordOrNumber_18 : decode cX9_readWordOrNumber 18 = .ok (.aload_n 0, 1) := by decide +kernel
theorem dX9_readWordOrNumber_19 : decode cX9_readWordOrNumber 19 = .ok (.getfield 13, 3) := by decide +kernel
theorem dX9_readWordOrNumber_22 : decode cX9_readWordOrNumber 22 = .ok (.if_icmp .ge 95, 3) := by decide +kernel
theorem dX9_readWordOrNumber_25 : decode cX9_readWordOrNumber 25 = .ok (.aload_n 0, 1) := by decide +kernel
theorem dX9_readWordOrNumber_26 : decode cX9_readWordOrNumber 26 = .ok (.getfield 9, 3) := by decide +kernel
theorem dX9_readWordOrNumber_29 : decode cX9_readWordOrNumber 29 = .ok (.aload_n 0, 1) := by decide +kernel
theorem dX9_readWordOrNumber_30 : decode cX9_readWordOrNumber 30 = .ok (.getfield 30, 3) := by decide +kernel
theorem dX9_readWordOrNumber_33 : decode cX9_readWordOrNumber 33 = .ok (.baload, 1) := by decide +kernel
theorem dX9_readWordOrNumber_34 : decode cX9_readWordOrNumber 34 = .ok (.istore_n 3, 1) := by decide +kernel
theorem dX9_readWordOrNumber_35 : decode cX9_readWordOrNumber 35 = .ok (.iload_n 3, 1) := by decide +kernel
theorem dX9_readWordOrNumber_36 : decode cX9_readWordOrNumber 36 = .ok (.bipush 97, 2) := by decide +kernel
theorem dX9_readWordOrNumber_38 : decode cX9_readWordOrNumber 38 = .ok (.if_icmp .lt 35, 3) := by decide +kernel
theorem dX9_readWordOrNumber_41 : decode cX9_readWordOrNumber 41 = .ok (.iload_n 3, 1) := by decide +kernel
theorem dX9_readWordOrNumber_42 : decode cX9_readWordOrNumber 42 = .ok (.bipush 122, 2) := by decide +kernel
theorem dX9_readWordOrNumber_44 : decode cX9_readWordOrNumber 44 = .ok (.if_icmp .gt 29, 3) := by decide +kernel
theorem dX9_readWordOrNumber_47 : decode cX9_readWordOrNumber 47 = .ok (.iinc 1 1, 3) := by decide +kernel
theorem dX9_readWordOrNumber_50 : decode cX9_readWordOrNumber 50 = .ok (.aload_n 0, 1) := by decide +kernel
theorem dX9_readWordOrNumber_51 : decode cX9_readWordOrNumber 51 = .ok (.aload_n 0, 1) := by decide +kernel
theorem dX9_readWordOrNumber_52 : decode cX9_readWordOrNumber 52 = .ok (.getfield 26, 3) := by decide +kernel
theorem dX9_readWordOrNumber_55 : decode cX9_readWordOrNumber 55 = .ok (.ldc2_w 45, 3) := by decide +kernel
theorem dX9_readWordOrNumber_58 : decode cX9_readWordOrNumber 58 = .ok (.lmul, 1) := by decide +kernel
theorem dX9_readWordOrNumber_59 : decode cX9_readWordOrNumber 59 = .ok (.iload_n 3, 1) := by decide +kernel
theorem dX9_readWordOrNumber_60 : decode cX9_readWordOrNumber 60 = .ok (.bipush 97, 2) := by decide +kernel
theorem dX9_readWordOrNumber_62 : decode cX9_readWordOrNumber 62 = .ok (.isub, 1) := by decide +kernel
theorem dX9_readWordOrNumber_63 : decode cX9_readWordOrNumber 63 = .ok (.iconst 1, 1) := by decide +kernel
theorem dX9_readWordOrNumber_64 : decode cX9_readWordOrNumber 64 = .ok (.iadd, 1) := by decide +kernel
theorem dX9_readWordOrNumber_65 : decode cX9_readWordOrNumber 65 = .ok (.i2l, 1) := by decide +kernel
theorem dX9_readWordOrNumber_66 : decode cX9_readWordOrNumber 66 = .ok (.ladd, 1) := by decide +kernel
theorem dX9_readWordOrNumber_67 : decode cX9_readWordOrNumber 67 = .ok (.putfield 26, 3) := by decide +kernel
theorem dX9_readWordOrNumber_70 : decode cX9_readWordOrNumber 70 = .ok (.goto 34, 3) := by decide +kernel
theorem dX9_readWordOrNumber_73 : decode cX9_readWordOrNumber 73 = .ok (.iload_n 3, 1) := by decide +kernel
theorem dX9_readWordOrNumber_74 : decode cX9_readWordOrNumber 74 = .ok (.bipush 48, 2) := by decide +kernel
theorem dX9_readWordOrNumber_76 : decode cX9_readWordOrNumber 76 = .ok (.if_icmp .lt 41, 3) := by decide +kernel
theorem dX9_readWordOrNumber_79 : decode cX9_readWordOrNumber 79 = .ok (.iload_n 3, 1) := by decide +kernel
theorem dX9_readWordOrNumber_80 : decode cX9_readWordOrNumber 80 = .ok (.bipush 57, 2) := by decide +kernel
theorem dX9_readWordOrNumber_82 : decode cX9_readWordOrNumber 82 = .ok (.if_icmp .gt 35, 3) := by decide +kernel
theorem dX9_readWordOrNumber_85 : decode cX9_readWordOrNumber 85 = .ok (.iinc 2 1, 3) := by decide +kernel
theorem dX9_readWordOrNumber_88 : decode cX9_readWordOrNumber 88 = .ok (.aload_n 0, 1) := by decide +kernel
theorem dX9_readWordOrNumber_89 : decode cX9_readWordOrNumber 89 = .ok (.aload_n 0, 1) := by decide +kernel
theorem dX9_readWordOrNumber_90 : decode cX9_readWordOrNumber 90 = .ok (.getfield 23, 3) := by decide +kernel
theorem dX9_readWordOrNumber_93 : decode cX9_readWordOrNumber 93 = .ok (.bipush 10, 2) := by decide +kernel
theorem dX9_readWordOrNumber_95 : decode cX9_readWordOrNumber 95 = .ok (.imul, 1) := by decide +kernel
theorem dX9_readWordOrNumber_96 : decode cX9_readWordOrNumber 96 = .ok (.iload_n 3, 1) := by decide +kernel
theorem dX9_readWordOrNumber_97 : decode cX9_readWordOrNumber 97 = .ok (.bipush 48, 2) := by decide +kernel
theorem dX9_readWordOrNumber_99 : decode cX9_readWordOrNumber 99 = .ok (.isub, 1) := by decide +kernel
theorem dX9_readWordOrNumber_100 : decode cX9_readWordOrNumber 100 = .ok (.iadd, 1) := by decide +kernel
theorem dX9_readWordOrNumber_101 : decode cX9_readWordOrNumber 101 = .ok (.putfield 23, 3) := by decide +kernel
theorem dX9_readWordOrNumber_104 : decode cX9_readWordOrNumber 104 = .ok (.aload_n 0, 1) := by decide +kernel
theorem dX9_readWordOrNumber_105 : decode cX9_readWordOrNumber 105 = .ok (.dup, 1) := by decide +kernel
theorem dX9_readWordOrNumber_106 : decode cX9_readWordOrNumber 106 = .ok (.getfield 30, 3) := by decide +kernel
theorem dX9_readWordOrNumber_109 : decode cX9_readWordOrNumber 109 = .ok (.iconst 1, 1) := by decide +kernel
theorem dX9_readWordOrNumber_110 : decode cX9_readWordOrNumber 110 = .ok (.iadd, 1) := by decide +kernel
theorem dX9_readWordOrNumber_111 : decode cX9_readWordOrNumber 111 = .ok (.putfield 30, 3) := by decide +kernel
theorem dX9_readWordOrNumber_114 : decode cX9_readWordOrNumber 114 = .ok (.goto (-100), 3) := by decide +kernel
theorem dX9_readWordOrNumber_117 : decode cX9_readWordOrNumber 117 = .ok (.iload_n 2, 1) := by decide +kernel
theorem dX9_readWordOrNumber_118 : decode cX9_readWordOrNumber 118 = .ok (.ifCond .ne 13, 3) := by decide +kernel
theorem dX9_readWordOrNumber_121 : decode cX9_readWordOrNumber 121 = .ok (.iload_n 1, 1) := by decide +kernel
theorem dX9_readWordOrNumber_122 : decode cX9_readWordOrNumber 122 = .ok (.bipush 7, 2) := by decide +kernel
theorem dX9_readWordOrNumber_124 : decode cX9_readWordOrNumber 124 = .ok (.if_icmp .gt 7, 3) := by decide +kernel
theorem dX9_readWordOrNumber_127 : decode cX9_readWordOrNumber 127 = .ok (.iconst 1, 1) := by decide +kernel
theorem dX9_readWordOrNumber_128 : decode cX9_readWordOrNumber 128 = .ok (.goto 4, 3) := by decide +kernel
theorem dX9_readWordOrNumber_131 : decode cX9_readWordOrNumber 131 = .ok (.iconst 0, 1) := by decide +kernel
theorem dX9_readWordOrNumber_132 : decode cX9_readWordOrNumber 132 = .ok (.istore_n 3, 1) := by decide +kernel
theorem dX9_readWordOrNumber_133 : decode cX9_readWordOrNumber 133 = .ok (.iload_n 1, 1) := by decide +kernel
theorem dX9_readWordOrNumber_134 : decode cX9_readWordOrNumber 134 = .ok (.ifCond .ne 12, 3) := by decide +kernel
theorem dX9_readWordOrNumber_137 : decode cX9_readWordOrNumber 137 = .ok (.iload_n 2, 1) := by decide +kernel
theorem dX9_readWordOrNumber_138 : decode cX9_readWordOrNumber 138 = .ok (.iconst 2, 1) := by decide +kernel
theorem dX9_readWordOrNumber_139 : decode cX9_readWordOrNumber 139 = .ok (.if_icmp .gt 7, 3) := by decide +kernel
theorem dX9_readWordOrNumber_142 : decode cX9_readWordOrNumber 142 = .ok (.iconst 1, 1) := by decide +kernel
theorem dX9_readWordOrNumber_143 : decode cX9_readWordOrNumber 143 = .ok (.goto 4, 3) := by decide +kernel
theorem dX9_readWordOrNumber_146 : decode cX9_readWordOrNumber 146 = .ok (.iconst 0, 1) := by decide +kernel
theorem dX9_readWordOrNumber_147 : decode cX9_readWordOrNumber 147 = .ok (.istore 4, 2) := by decide +kernel
theorem dX9_readWordOrNumber_149 : decode cX9_readWordOrNumber 149 = .ok (.aload_n 0, 1) := by decide +kernel
theorem dX9_readWordOrNumber_150 : decode cX9_readWordOrNumber 150 = .ok (.iload_n 3, 1) := by decide +kernel
theorem dX9_readWordOrNumber_151 : decode cX9_readWordOrNumber 151 = .ok (.ifCond .eq 7, 3) := by decide +kernel
theorem dX9_readWordOrNumber_154 : decode cX9_readWordOrNumber 154 = .ok (.iconst 1, 1) := by decide +kernel
theorem dX9_readWordOrNumber_155 : decode cX9_readWordOrNumber 155 = .ok (.goto 13, 3) := by decide +kernel
theorem dX9_readWordOrNumber_158 : decode cX9_readWordOrNumber 158 = .ok (.iload 4, 2) := by decide +kernel
theorem dX9_readWordOrNumber_160 : decode cX9_readWordOrNumber 160 = .ok (.ifCond .eq 7, 3) := by decide +kernel
theorem dX9_readWordOrNumber_163 : decode cX9_readWordOrNumber 163 = .ok (.iconst 2, 1) := by decide +kernel
theorem dX9_readWordOrNumber_164 : decode cX9_readWordOrNumber 164 = .ok (.goto 4, 3) := by decide +kernel
theorem dX9_readWordOrNumber_167 : decode cX9_readWordOrNumber 167 = .ok (.iconst 4, 1) := by decide +kernel
theorem dX9_readWordOrNumber_168 : decode cX9_readWordOrNumber 168 = .ok (.putfield 17, 3) := by decide +kernel
theorem dX9_readWordOrNumber_171 : decode cX9_readWordOrNumber 171 = .ok (.return_, 1) := by decide +kernel
theorem dX9_isWord_0 : decode cX9_isWord 0 = .ok (.aload_n 0, 1) := by decide +kernel
theorem dX9_isWord_1 : decode cX9_isWord 1 = .ok (.getfield 17, 3) := by decide +kernel
theorem dX9_isWord_4 : decode cX9_isWord 4 = .ok (.iconst 1, 1) := by decide +kernel
theorem dX9_isWord_5 : decode cX9_isWord 5 = .ok (.if_icmp .ne 19, 3) := by decide +kernel
theorem dX9_isWord_8 : decode cX9_isWord 8 = .ok (.aload_n 0, 1) := by decide +kernel
theorem dX9_isWord_9 : decode cX9_isWord 9 = .ok (.getfield 30, 3) := by decide +kernel
theorem dX9_isWord_12 : decode cX9_isWord 12 = .ok (.aload_n 0, 1) := by decide +kernel
theorem dX9_isWord_13 : decode cX9_isWord 13 = .ok (.getfield 20, 3) := by decide +kernel
theorem dX9_isWord_16 : decode cX9_isWord 16 = .ok (.isub, 1) := by decide +kernel
theorem dX9_isWord_17 : decode cX9_isWord 17 = .ok (.aload_n 1, 1) := by decide +kernel
theorem dX9_isWord_18 : decode cX9_isWord 18 = .ok (.invokevirtual 47, 3) := by decide +kernel
theorem dX9_isWord_21 : decode cX9_isWord 21 = .ok (.if_icmp .eq 5, 3) := by decide +kernel
theorem dX9_isWord_24 : decode cX9_isWord 24 = .ok (.iconst 0, 1) := by decide +kernel
theorem dX9_isWord_25 : decode cX9_isWord 25 = .ok (.ireturn, 1) := by decide +kernel
theorem dX9_isWord_26 : decode cX9_isWord 26 = .ok (.iconst 0, 1) := by decide +kernel
theorem dX9_isWord_27 : decode cX9_isWord 27 = .ok (.istore_n 2, 1) := by decide +kernel
theorem dX9_isWord_28 : decode cX9_isWord 28 = .ok (.iload_n 2, 1) := by decide +kernel
theorem dX9_isWord_29 : decode cX9_isWord 29 = .ok (.aload_n 1, 1) := by decide +kernel
theorem dX9_isWord_30 : decode cX9_isWord 30 = .ok (.invokevirtual 47, 3) := by decide +kernel
theorem dX9_isWord_33 : decode cX9_isWord 33 = .ok (.if_icmp .ge 42, 3) := by decide +kernel
theorem dX9_isWord_36 : decode cX9_isWord 36 = .ok (.aload_n 0, 1) := by decide +kernel
theorem dX9_isWord_37 : decode cX9_isWord 37 = .ok (.getfield 20, 3) := by decide +kernel
theorem dX9_isWord_40 : decode cX9_isWord 40 = .ok (.iload_n 2, 1) := by decide +kernel
theorem dX9_isWord_41 : decode cX9_isWord 41 = .ok (.iadd, 1) := by decide +kernel
theorem dX9_isWord_42 : decode cX9_isWord 42 = .ok (.sipush 940, 3) := by decide +kernel
theorem dX9_isWord_45 : decode cX9_isWord 45 = .ok (.if_icmp .ge 30, 3) := by decide +kernel
theorem dX9_isWord_48 : decode cX9_isWord 48 = .ok (.aload_n 0, 1) := by decide +kernel
theorem dX9_isWord_49 : decode cX9_isWord 49 = .ok (.getfield 9, 3) := by decide +kernel
theorem dX9_isWord_52 : decode cX9_isWord 52 = .ok (.aload_n 0, 1) := by decide +kernel
theorem dX9_isWord_53 : decode cX9_isWord 53 = .ok (.getfield 20, 3) := by decide +kernel
theorem dX9_isWord_56 : decode cX9_isWord 56 = .ok (.iload_n 2, 1) := by decide +kernel
theorem dX9_isWord_57 : decode cX9_isWord 57 = .ok (.iadd, 1) := by decide +kernel
theorem dX9_isWord_58 : decode cX9_isWord 58 = .ok (.baload, 1) := by decide +kernel
theorem dX9_isWord_59 : decode cX9_isWord 59 = .ok (.aload_n 1, 1) := by decide +kernel
theorem dX9_isWord_60 : decode cX9_isWord 60 = .ok (.iload_n 2, 1) := by decide +kernel
theorem dX9_isWord_61 : decode cX9_isWord 61 = .ok (.invokevirtual 53, 3) := by decide +kernel
theorem dX9_isWord_64 : decode cX9_isWord 64 = .ok (.if_icmp .eq 5, 3) := by decide +kernel
theorem dX9_isWord_67 : decode cX9_isWord 67 = .ok (.iconst 0, 1) := by decide +kernel
theorem dX9_isWord_68 : decode cX9_isWord 68 = .ok (.ireturn, 1) := by decide +kernel
theorem dX9_isWord_69 : decode cX9_isWord 69 = .ok (.iinc 2 1, 3) := by decide +kernel
theorem dX9_isWord_72 : decode cX9_isWord 72 = .ok (.goto (-44), 3) := by decide +kernel
theorem dX9_isWord_75 : decode cX9_isWord 75 = .ok (.iconst 1, 1) := by decide +kernel
theorem dX9_isWord_76 : decode cX9_isWord 76 = .ok (.ireturn, 1) := by decide +kernel
theorem dX9_isName_0 : decode cX9_isName 0 = .ok (.aload_n 0, 1) := by decide +kernel
theorem dX9_isName_1 : decode cX9_isName 1 = .ok (.ldc 57, 2) := by decide +kernel
theorem dX9_isName_3 : decode cX9_isName 3 = .ok (.invokevirtual 59, 3) := by decide +kernel
theorem dX9_isName_6 : decode cX9_isName 6 = .ok (.ifCond .ne 30, 3) := by decide +kernel
theorem dX9_isName_9 : decode cX9_isName 9 = .ok (.aload_n 0, 1) := by decide +kernel
theorem dX9_isName_10 : decode cX9_isName 10 = .ok (.ldc 63, 2) := by decide +kernel
theorem dX9_isName_12 : decode cX9_isName 12 = .ok (.invokevirtual 59, 3) := by decide +kernel
theorem dX9_isName_15 : decode cX9_isName 15 = .ok (.ifCond .ne 21, 3) := by decide +kernel
theorem dX9_isName_18 : decode cX9_isName 18 = .ok (.aload_n 0, 1) := by decide +kernel
theorem dX9_isName_19 : decode cX9_isName 19 = .ok (.ldc 65, 2) := by decide +kernel
theorem dX9_isName_21 : decode cX9_isName 21 = .ok (.invokevirtual 59, 3) := by decide +kernel
theorem dX9_isName_24 : decode cX9_isName 24 = .ok (.ifCond .ne 12, 3) := by decide +kernel
theorem dX9_isName_27 : decode cX9_isName 27 = .ok (.aload_n 0, 1) := by decide +kernel
theorem dX9_isName_28 : decode cX9_isName 28 = .ok (.ldc 67, 2) := by decide +kernel
theorem dX9_isName_30 : decode cX9_isName 30 = .ok (.invokevirtual 59, 3) := by decide +kernel
theorem dX9_isName_33 : decode cX9_isName 33 = .ok (.ifCond .eq 5, 3) := by decide +kernel
theorem dX9_isName_36 : decode cX9_isName 36 = .ok (.iconst 0, 1) := by decide +kernel
theorem dX9_isName_37 : decode cX9_isName 37 = .ok (.ireturn, 1) := by decide +kernel
theorem dX9_isName_38 : decode cX9_isName 38 = .ok (.aload_n 0, 1) := by decide +kernel
theorem dX9_isName_39 : decode cX9_isName 39 = .ok (.ldc 69, 2) := by decide +kernel
theorem dX9_isName_41 : decode cX9_isName 41 = .ok (.invokevirtual 59, 3) := by decide +kernel
theorem dX9_isName_44 : decode cX9_isName 44 = .ok (.ifCond .ne 30, 3) := by decide +kernel
theorem dX9_isName_47 : decode cX9_isName 47 = .ok (.aload_n 0, 1) := by decide +kernel
theorem dX9_isName_48 : decode cX9_isName 48 = .ok (.ldc 71, 2) := by decide +kernel
theorem dX9_isName_50 : decode cX9_isName 50 = .ok (.invokevirtual 59, 3) := by decide +kernel
theorem dX9_isName_53 : decode cX9_isName 53 = .ok (.ifCond .ne 21, 3) := by decide +kernel
theorem dX9_isName_56 : decode cX9_isName 56 = .ok (.aload_n 0, 1) := by decide +kernel
theorem dX9_isName_57 : decode cX9_isName 57 = .ok (.ldc 73, 2) := by decide +kernel
theorem dX9_isName_59 : decode cX9_isName 59 = .ok (.invokevirtual 59, 3) := by decide +kernel
theorem dX9_isName_62 : decode cX9_isName 62 = .ok (.ifCond .ne 12, 3) := by decide +kernel
theorem dX9_isName_65 : decode cX9_isName 65 = .ok (.aload_n 0, 1) := by decide +kernel
theorem dX9_isName_66 : decode cX9_isName 66 = .ok (.ldc 75, 2) := by decide +kernel
theorem dX9_isName_68 : decode cX9_isName 68 = .ok (.invokevirtual 59, 3) := by decide +kernel
theorem dX9_isName_71 : decode cX9_isName 71 = .ok (.ifCond .eq 5, 3) := by decide +kernel
theorem dX9_isName_74 : decode cX9_isName 74 = .ok (.iconst 0, 1) := by decide +kernel
theorem dX9_isName_75 : decode cX9_isName 75 = .ok (.ireturn, 1) := by decide +kernel
theorem dX9_isName_76 : decode cX9_isName 76 = .ok (.aload_n 0, 1) := by decide +kernel
theorem dX9_isName_77 : decode cX9_isName 77 = .ok (.getfield 17, 3) := by decide +kernel
theorem dX9_isName_80 : decode cX9_isName 80 = .ok (.iconst 1, 1) := by decide +kernel
theorem dX9_isName_81 : decode cX9_isName 81 = .ok (.if_icmp .ne 34, 3) := by decide +kernel
theorem dX9_isName_84 : decode cX9_isName 84 = .ok (.aload_n 0, 1) := by decide +kernel
theorem dX9_isName_85 : decode cX9_isName 85 = .ok (.ldc 77, 2) := by decide +kernel
theorem dX9_isName_87 : decode cX9_isName 87 = .ok (.invokevirtual 59, 3) := by decide +kernel
theorem dX9_isName_90 : decode cX9_isName 90 = .ok (.ifCond .ne 25, 3) := by decide +kernel
theorem dX9_isName_93 : decode cX9_isName 93 = .ok (.aload_n 0, 1) := by decide +kernel
theorem dX9_isName_94 : decode cX9_isName 94 = .ok (.ldc 79, 2) := by decide +kernel
theorem dX9_isName_96 : decode cX9_isName 96 = .ok (.invokevirtual 59, 3) := by decide +kernel
theorem dX9_isName_99 : decode cX9_isName 99 = .ok (.ifCond .ne 16, 3) := by decide +kernel
theorem dX9_isName_102 : decode cX9_isName 102 = .ok (.aload_n 0, 1) := by decide +kernel
theorem dX9_isName_103 : decode cX9_isName 103 = .ok (.ldc 81, 2) := by decide +kernel
theorem dX9_isName_105 : decode cX9_isName 105 = .ok (.invokevirtual 59, 3) := by decide +kernel
theorem dX9_isName_108 : decode cX9_isName 108 = .ok (.ifCond .ne 7, 3) := by decide +kernel
theorem dX9_isName_111 : decode cX9_isName 111 = .ok (.iconst 1, 1) := by decide +kernel
theorem dX9_isName_112 : decode cX9_isName 112 = .ok (.goto 4, 3) := by decide +kernel
theorem dX9_isName_115 : decode cX9_isName 115 = .ok (.iconst 0, 1) := by decide +kernel
theorem dX9_isName_116 : decode cX9_isName 116 = .ok (.ireturn, 1) := by decide +kernel
theorem dX10_init_0 : decode cX10_init 0 = .ok (.aload_n 0, 1) := by decide +kernel
theorem dX10_init_1 : decode cX10_init 1 = .ok (.invokespecial 3, 3) := by decide +kernel
theorem dX10_init_4 : decode cX10_init 4 = .ok (.aload_n 0, 1) := by decide +kernel
theorem dX10_init_5 : decode cX10_init 5 = .ok (.iconst 0, 1) := by decide +kernel
theorem dX10_init_6 : decode cX10_init 6 = .ok (.putfield 9, 3) := by decide +kernel
theorem dX10_init_9 : decode cX10_init 9 = .ok (.aload_n 0, 1) := by decide +kernel
theorem dX10_init_10 : decode cX10_init 10 = .ok (.iconst 0, 1) := by decide +kernel
theorem dX10_init_11 : decode cX10_init 11 = .ok (.putfield 15, 3) := by decide +kernel
theorem dX10_init_14 : decode cX10_init 14 = .ok (.aload_n 0, 1) := by decide +kernel
theorem dX10_init_15 : decode cX10_init 15 = .ok (.iconst 0, 1) := by decide +kernel
theorem dX10_init_16 : decode cX10_init 16 = .ok (.putfield 18, 3) := by decide +kernel
theorem dX10_init_19 : decode cX10_init 19 = .ok (.aload_n 0, 1) := by decide +kernel
theorem dX10_init_20 : decode cX10_init 20 = .ok (.iconst 0, 1) := by decide +kernel
theorem dX10_init_21 : decode cX10_init 21 = .ok (.putfield 21, 3) := by decide +kernel
theorem dX10_init_24 : decode cX10_init 24 = .ok (.aload_n 0, 1) := by decide +kernel
theorem dX10_init_25 : decode cX10_init 25 = .ok (.bipush 10, 2) := by decide +kernel
theorem dX10_init_27 : decode cX10_init 27 = .ok (.newarray .long, 2) := by decide +kernel
theorem dX10_init_29 : decode cX10_init 29 = .ok (.putfield 24, 3) := by decide +kernel
theorem dX10_init_32 : decode cX10_init 32 = .ok (.aload_n 0, 1) := by decide +kernel
theorem dX10_init_33 : decode cX10_init 33 = .ok (.bipush 10, 2) := by decide +kernel
theorem dX10_init_35 : decode cX10_init 35 = .ok (.newarray .int, 2) := by decide +kernel
theorem dX10_init_37 : decode cX10_init 37 = .ok (.putfield 28, 3) := by decide +kernel
theorem dX10_init_40 : decode cX10_init 40 = .ok (.aload_n 0, 1) := by decide +kernel
theorem dX10_init_41 : decode cX10_init 41 = .ok (.bipush 10, 2) := by decide +kernel
theorem dX10_init_43 : decode cX10_init 43 = .ok (.newarray .int, 2) := by decide +kernel
theorem dX10_init_45 : decode cX10_init 45 = .ok (.putfield 32, 3) := by decide +kernel
theorem dX10_init_48 : decode cX10_init 48 = .ok (.aload_n 0, 1) := by decide +kernel
theorem dX10_init_49 : decode cX10_init 49 = .ok (.bipush 10, 2) := by decide +kernel
theorem dX10_init_51 : decode cX10_init 51 = .ok (.newarray .int, 2) := by decide +kernel
theorem dX10_init_53 : decode cX10_init 53 = .ok (.putfield 35, 3) := by decide +kernel
theorem dX10_init_56 : decode cX10_init 56 = .ok (.aload_n 0, 1) := by decide +kernel
theorem dX10_init_57 : decode cX10_init 57 = .ok (.bipush 30, 2) := by decide +kernel
theorem dX10_init_59 : decode cX10_init 59 = .ok (.newarray .long, 2) := by decide +kernel
theorem dX10_init_61 : decode cX10_init 61 = .ok (.putfield 38, 3) := by decide +kernel
theorem dX10_init_64 : decode cX10_init 64 = .ok (.aload_n 0, 1) := by decide +kernel
theorem dX10_init_65 : decode cX10_init 65 = .ok (.bipush 30, 2) := by decide +kernel
theorem dX10_init_67 : decode cX10_init 67 = .ok (.newarray .int, 2) := by decide +kernel
theorem dX10_init_69 : decode cX10_init 69 = .ok (.putfield 41, 3) := by decide +kernel
theorem dX10_init_72 : decode cX10_init 72 = .ok (.aload_n 0, 1) := by decide +kernel
theorem dX10_init_73 : decode cX10_init 73 = .ok (.bipush 30, 2) := by decide +kernel
theorem dX10_init_75 : decode cX10_init 75 = .ok (.newarray .int, 2) := by decide +kernel
theorem dX10_init_77 : decode cX10_init 77 = .ok (.putfield 44, 3) := by decide +kernel
theorem dX10_init_80 : decode cX10_init 80 = .ok (.aload_n 0, 1) := by decide +kernel
theorem dX10_init_81 : decode cX10_init 81 = .ok (.bipush 30, 2) := by decide +kernel
theorem dX10_init_83 : decode cX10_init 83 = .ok (.newarray .int, 2) := by decide +kernel
theorem dX10_init_85 : decode cX10_init 85 = .ok (.putfield 47, 3) := by decide +kernel
theorem dX10_init_88 : decode cX10_init 88 = .ok (.aload_n 0, 1) := by decide +kernel
theorem dX10_init_89 : decode cX10_init 89 = .ok (.bipush 30, 2) := by decide +kernel
theorem dX10_init_91 : decode cX10_init 91 = .ok (.newarray .int, 2) := by decide +kernel
theorem dX10_init_93 : decode cX10_init 93 = .ok (.putfield 50, 3) := by decide +kernel
theorem dX10_init_96 : decode cX10_init 96 = .ok (.aload_n 0, 1) := by decide +kernel
theorem dX10_init_97 : decode cX10_init 97 = .ok (.bipush 30, 2) := by decide +kernel
theorem dX10_init_99 : decode cX10_init 99 = .ok (.newarray .int, 2) := by decide +kernel
theorem dX10_init_101 : decode cX10_init 101 = .ok (.putfield 53, 3) := by decide +kernel
theorem dX10_init_104 : decode cX10_init 104 = .ok (.aload_n 0, 1) := by decide +kernel
theorem dX10_init_105 : decode cX10_init 105 = .ok (.bipush 30, 2) := by decide +kernel
theorem dX10_init_107 : decode cX10_init 107 = .ok (.newarray .int, 2) := by decide +kernel
theorem dX10_init_109 : decode cX10_init 109 = .ok (.putfield 56, 3) := by decide +kernel
theorem dX10_init_112 : decode cX10_init 112 = .ok (.aload_n 0, 1) := by decide +kernel
theorem dX10_init_113 : decode cX10_init 113 = .ok (.bipush 30, 2) := by decide +kernel
theorem dX10_init_115 : decode cX10_init 115 = .ok (.newarray .int, 2) := by decide +kernel
theorem dX10_init_117 : decode cX10_init 117 = .ok (.putfield 59, 3) := by decide +kernel
theorem dX10_init_120 : decode cX10_init 120 = .ok (.aload_n 0, 1) := by decide +kernel
theorem dX10_init_121 : decode cX10_init 121 = .ok (.new 62, 3) := by decide +kernel
theorem dX10_init_124 : decode cX10_init 124 = .ok (.dup, 1) := by decide +kernel
theorem dX10_init_125 : decode cX10_init 125 = .ok (.invokespecial 64, 3) := by decide +kernel
theorem dX10_init_128 : decode cX10_init 128 = .ok (.putfield 65, 3) := by decide +kernel
theorem dX10_init_131 : decode cX10_init 131 = .ok (.return_, 1) := by decide +kernel
theorem dX10_clear_0 : decode cX10_clear 0 = .ok (.aload_n 0, 1) := by decide +kernel
theorem dX10_clear_1 : decode cX10_clear 1 = .ok (.iconst 0, 1) := by decide +kernel
theorem dX10_clear_2 : decode cX10_clear 2 = .ok (.putfield 9, 3) := by decide +kernel
theorem dX10_clear_5 : decode cX10_clear 5 = .ok (.aload_n 0, 1) := by decide +kernel
theorem dX10_clear_6 : decode cX10_clear 6 = .ok (.iconst 0, 1) := by decide +kernel
theorem dX10_clear_7 : decode cX10_clear 7 = .ok (.putfield 15, 3) := by decide +kernel
theorem dX10_clear_10 : decode cX10_clear 10 = .ok (.aload_n 0, 1) := by decide +kernel
theorem dX10_clear_11 : decode cX10_clear 11 = .ok (.iconst 0, 1) := by decide +kernel
theorem dX10_clear_12 : decode cX10_clear 12 = .ok (.putfield 18, 3) := by decide +kernel
theorem dX10_clear_15 : decode cX10_clear 15 = .ok (.aload_n 0, 1) := by decide +kernel
theorem dX10_clear_16 : decode cX10_clear 16 = .ok (.iconst 0, 1) := by decide +kernel
theorem dX10_clear_17 : decode cX10_clear 17 = .ok (.putfield 21, 3) := by decide +kernel
theorem dX10_clear_20 : decode cX10_clear 20 = .ok (.aload_n 0, 1) := by decide +kernel
theorem dX10_clear_21 : decode cX10_clear 21 = .ok (.getfield 65, 3) := by decide +kernel
theorem dX10_clear_24 : decode cX10_clear 24 = .ok (.invokevirtual 69, 3) := by decide +kernel
theorem dX10_clear_27 : decode cX10_clear 27 = .ok (.return_, 1) := by decide +kernel
theorem dX10_copyFrom_0 : decode cX10_copyFrom 0 = .ok (.aload_n 0, 1) := by decide +kernel
theorem dX10_copyFrom_1 : decode cX10_copyFrom 1 = .ok (.aload_n 1, 1) := by decide +kernel
theorem dX10_copyFrom_2 : decode cX10_copyFrom 2 = .ok (.getfield 9, 3) := by decide +kernel
theorem dX10_copyFrom_5 : decode cX10_copyFrom 5 = .ok (.putfield 9, 3) := by decide +kernel
theorem dX10_copyFrom_8 : decode cX10_copyFrom 8 = .ok (.aload_n 0, 1) := by decide +kernel
theorem dX10_copyFrom_9 : decode cX10_copyFrom 9 = .ok (.aload_n 1, 1) := by decide +kernel
theorem dX10_copyFrom_10 : decode cX10_copyFrom 10 = .ok (.getfield 15, 3) := by decide +kernel
theorem dX10_copyFrom_13 : decode cX10_copyFrom 13 = .ok (.putfield 15, 3) := by decide +kernel
theorem dX10_copyFrom_16 : decode cX10_copyFrom 16 = .ok (.aload_n 0, 1) := by decide +kernel
theorem dX10_copyFrom_17 : decode cX10_copyFrom 17 = .ok (.aload_n 1, 1) := by decide +kernel
theorem dX10_copyFrom_18 : decode cX10_copyFrom 18 = .ok (.getfield 18, 3) := by decide +kernel
theorem dX10_copyFrom_21 : decode cX10_copyFrom 21 = .ok (.putfield 18, 3) := by decide +kernel
theorem dX10_copyFrom_24 : decode cX10_copyFrom 24 = .ok (.aload_n 0, 1) := by decide +kernel
theorem dX10_copyFrom_25 : decode cX10_copyFrom 25 = .ok (.aload_n 1, 1) := by decide +kernel
theorem dX10_copyFrom_26 : decode cX10_copyFrom 26 = .ok (.getfield 21, 3) := by decide +kernel
theorem dX10_copyFrom_29 : decode cX10_copyFrom 29 = .ok (.putfield 21, 3) := by decide +kernel
theorem dX10_copyFrom_32 : decode cX10_copyFrom 32 = .ok (.aload_n 1, 1) := by decide +kernel
theorem dX10_copyFrom_33 : decode cX10_copyFrom 33 = .ok (.getfield 24, 3) := by decide +kernel
theorem dX10_copyFrom_36 : decode cX10_copyFrom 36 = .ok (.iconst 0, 1) := by decide +kernel
theorem dX10_copyFrom_37 : decode cX10_copyFrom 37 = .ok (.aload_n 0, 1) := by decide +kernel
theorem dX10_copyFrom_38 : decode cX10_copyFrom 38 = .ok (.getfield 24, 3) := by decide +kernel
theorem dX10_copyFrom_41 : decode cX10_copyFrom 41 = .ok (.iconst 0, 1) := by decide +kernel
theorem dX10_copyFrom_42 : decode cX10_copyFrom 42 = .ok (.bipush 10, 2) := by decide +kernel
theorem dX10_copyFrom_44 : decode cX10_copyFrom 44 = .ok (.invokestatic 72, 3) := by decide +kernel
theorem dX10_copyFrom_47 : decode cX10_copyFrom 47 = .ok (.aload_n 1, 1) := by decide +kernel
theorem dX10_copyFrom_48 : decode cX10_copyFrom 48 = .ok (.getfield 28, 3) := by decide +kernel
theorem dX10_copyFrom_51 : decode cX10_copyFrom 51 = .ok (.iconst 0, 1) := by decide +kernel
theorem dX10_copyFrom_52 : decode cX10_copyFrom 52 = .ok (.aload_n 0, 1) := by decide +kernel
theorem dX10_copyFrom_53 : decode cX10_copyFrom 53 = .ok (.getfield 28, 3) := by decide +kernel
theorem dX10_copyFrom_56 : decode cX10_copyFrom 56 = .ok (.iconst 0, 1) := by decide +kernel
theorem dX10_copyFrom_57 : decode cX10_copyFrom 57 = .ok (.bipush 10, 2) := by decide +kernel
theorem dX10_copyFrom_59 : decode cX10_copyFrom 59 = .ok (.invokestatic 72, 3) := by decide +kernel
theorem dX10_copyFrom_62 : decode cX10_copyFrom 62 = .ok (.aload_n 1, 1) := by decide +kernel
theorem dX10_copyFrom_63 : decode cX10_copyFrom 63 = .ok (.getfield 32, 3) := by decide +kernel
theorem dX10_copyFrom_66 : decode cX10_copyFrom 66 = .ok (.iconst 0, 1) := by decide +kernel
theorem dX10_copyFrom_67 : decode cX10_copyFrom 67 = .ok (.aload_n 0, 1) := by decide +kernel
theorem dX10_copyFrom_68 : decode cX10_copyFrom 68 = .ok (.getfield 32, 3) := by decide +kernel
theorem dX10_copyFrom_71 : decode cX10_copyFrom 71 = .ok (.iconst 0, 1) := by decide +kernel
theorem dX10_copyFrom_72 : decode cX10_copyFrom 72 = .ok (.bipush 10, 2) := by decide +kernel
theorem dX10_copyFrom_74 : decode cX10_copyFrom 74 = .ok (.invokestatic 72, 3) := by decide +kernel
theorem dX10_copyFrom_77 : decode cX10_copyFrom 77 = .ok (.aload_n 1, 1) := by decide +kernel
theorem dX10_copyFrom_78 : decode cX10_copyFrom 78 = .ok (.getfield 35, 3) := by decide +kernel
theorem dX10_copyFrom_81 : decode cX10_copyFrom 81 = .ok (.iconst 0, 1) := by decide +kernel
theorem dX10_copyFrom_82 : decode cX10_copyFrom 82 = .ok (.aload_n 0, 1) := by decide +kernel
theorem dX10_copyFrom_83 : decode cX10_copyFrom 83 = .ok (.getfield 35, 3) := by decide +kernel
theorem dX10_copyFrom_86 : decode cX10_copyFrom 86 = .ok (.iconst 0, 1) := by decide +kernel
theorem dX10_copyFrom_87 : decode cX10_copyFrom 87 = .ok (.bipush 10, 2) := by decide +kernel
theorem dX10_copyFrom_89 : decode cX10_copyFrom 89 = .ok (.invokestatic 72, 3) := by decide +kernel
theorem dX10_copyFrom_92 : decode cX10_copyFrom 92 = .ok (.aload_n 1, 1) := by decide +kernel
theorem dX10_copyFrom_93 : decode cX10_copyFrom 93 = .ok (.getfield 38, 3) := by decide +kernel
theorem dX10_copyFrom_96 : decode cX10_copyFrom 96 = .ok (.iconst 0, 1) := by decide +kernel
theorem dX10_copyFrom_97 : decode cX10_copyFrom 97 = .ok (.aload_n 0, 1) := by decide +kernel
theorem dX10_copyFrom_98 : decode cX10_copyFrom 98 = .ok (.getfield 38, 3) := by decide +kernel
theorem dX10_copyFrom_101 : decode cX10_copyFrom 101 = .ok (.iconst 0, 1) := by decide +kernel
theorem dX10_copyFrom_102 : decode cX10_copyFrom 102 = .ok (.bipush 30, 2) := by decide +kernel
theorem dX10_copyFrom_104 : decode cX10_copyFrom 104 = .ok (.invokestatic 72, 3) := by decide +kernel
theorem dX10_copyFrom_107 : decode cX10_copyFrom 107 = .ok (.aload_n 1, 1) := by decide +kernel
theorem dX10_copyFrom_108 : decode cX10_copyFrom 108 = .ok (.getfield 41, 3) := by decide +kernel
theorem dX10_copyFrom_111 : decode cX10_copyFrom 111 = .ok (.iconst 0, 1) := by decide +kernel
theorem dX10_copyFrom_112 : decode cX10_copyFrom 112 = .ok (.aload_n 0, 1) := by decide +kernel
theorem dX10_copyFrom_113 : decode cX10_copyFrom 113 = .ok (.getfield 41, 3) := by decide +kernel
theorem dX10_copyFrom_116 : decode cX10_copyFrom 116 = .ok (.iconst 0, 1) := by decide +kernel
theorem dX10_copyFrom_117 : decode cX10_copyFrom 117 = .ok (.bipush 30, 2) := by decide +kernel
theorem dX10_copyFrom_119 : decode cX10_copyFrom 119 = .ok (.invokestatic 72, 3) := by decide +kernel
theorem dX10_copyFrom_122 : decode cX10_copyFrom 122 = .ok (.aload_n 1, 1) := by decide +kernel
theorem dX10_copyFrom_123 : decode cX10_copyFrom 123 = .ok (.getfield 44, 3) := by decide +kernel
theorem dX10_copyFrom_126 : decode cX10_copyFrom 126 = .ok (.iconst 0, 1) := by decide +kernel
theorem dX10_copyFrom_127 : decode cX10_copyFrom 127 = .ok (.aload_n 0, 1) := by decide +kernel
theorem dX10_copyFrom_128 : decode cX10_copyFrom 128 = .ok (.getfield 44, 3) := by decide +kernel
theorem dX10_copyFrom_131 : decode cX10_copyFrom 131 = .ok (.iconst 0, 1) := by decide +kernel
theorem dX10_copyFrom_132 : decode cX10_copyFrom 132 = .ok (.bipush 30, 2) := by decide +kernel
theorem dX10_copyFrom_134 : decode cX10_copyFrom 134 = .ok (.invokestatic 72, 3) := by decide +kernel
theorem dX10_copyFrom_137 : decode cX10_copyFrom 137 = .ok (.aload_n 1, 1) := by decide +kernel
theorem dX10_copyFrom_138 : decode cX10_copyFrom 138 = .ok (.getfield 47, 3) := by decide +kernel
theorem dX10_copyFrom_141 : decode cX10_copyFrom 141 = .ok (.iconst 0, 1) := by decide +kernel
theorem dX10_copyFrom_142 : decode cX10_copyFrom 142 = .ok (.aload_n 0, 1) := by decide +kernel
theorem dX10_copyFrom_143 : decode cX10_copyFrom 143 = .ok (.getfield 47, 3) := by decide +kernel
theorem dX10_copyFrom_146 : decode cX10_copyFrom 146 = .ok (.iconst 0, 1) := by decide +kernel
theorem dX10_copyFrom_147 : decode cX10_copyFrom 147 = .ok (.bipush 30, 2) := by decide +kernel
theorem dX10_copyFrom_149 : decode cX10_copyFrom 149 = .ok (.invokestatic 72, 3) := by decide +kernel
theorem dX10_copyFrom_152 : decode cX10_copyFrom 152 = .ok (.aload_n 1, 1) := by decide +kernel
theorem dX10_copyFrom_153 : decode cX10_copyFrom 153 = .ok (.getfield 50, 3) := by decide +kernel
theorem dX10_copyFrom_156 : decode cX10_copyFrom 156 = .ok (.iconst 0, 1) := by decide +kernel
theorem dX10_copyFrom_157 : decode cX10_copyFrom 157 = .ok (.aload_n 0, 1) := by decide +kernel
theorem dX10_copyFrom_158 : decode cX10_copyFrom 158 = .ok (.getfield 50, 3) := by decide +kernel
theorem dX10_copyFrom_161 : decode cX10_copyFrom 161 = .ok (.iconst 0, 1) := by decide +kernel
theorem dX10_copyFrom_162 : decode cX10_copyFrom 162 = .ok (.bipush 30, 2) := by decide +kernel
theorem dX10_copyFrom_164 : decode cX10_copyFrom 164 = .ok (.invokestatic 72, 3) := by decide +kernel
theorem dX10_copyFrom_167 : decode cX10_copyFrom 167 = .ok (.aload_n 1, 1) := by decide +kernel
theorem dX10_copyFrom_168 : decode cX10_copyFrom 168 = .ok (.getfield 53, 3) := by decide +kernel
theorem dX10_copyFrom_171 : decode cX10_copyFrom 171 = .ok (.iconst 0, 1) := by decide +kernel
theorem dX10_copyFrom_172 : decode cX10_copyFrom 172 = .ok (.aload_n 0, 1) := by decide +kernel
theorem dX10_copyFrom_173 : decode cX10_copyFrom 173 = .ok (.getfield 53, 3) := by decide +kernel
theorem dX10_copyFrom_176 : decode cX10_copyFrom 176 = .ok (.iconst 0, 1) := by decide +kernel
theorem dX10_copyFrom_177 : decode cX10_copyFrom 177 = .ok (.bipush 30, 2) := by decide +kernel
theorem dX10_copyFrom_179 : decode cX10_copyFrom 179 = .ok (.invokestatic 72, 3) := by decide +kernel
theorem dX10_copyFrom_182 : decode cX10_copyFrom 182 = .ok (.aload_n 1, 1) := by decide +kernel
theorem dX10_copyFrom_183 : decode cX10_copyFrom 183 = .ok (.getfield 56, 3) := by decide +kernel
theorem dX10_copyFrom_186 : decode cX10_copyFrom 186 = .ok (.iconst 0, 1) := by decide +kernel
theorem dX10_copyFrom_187 : decode cX10_copyFrom 187 = .ok (.aload_n 0, 1) := by decide +kernel
theorem dX10_copyFrom_188 : decode cX10_copyFrom 188 = .ok (.getfield 56, 3) := by decide +kernel
theorem dX10_copyFrom_191 : decode cX10_copyFrom 191 = .ok (.iconst 0, 1) := by decide +kernel
theorem dX10_copyFrom_192 : decode cX10_copyFrom 192 = .ok (.bipush 30, 2) := by decide +kernel
theorem dX10_copyFrom_194 : decode cX10_copyFrom 194 = .ok (.invokestatic 72, 3) := by decide +kernel
theorem dX10_copyFrom_197 : decode cX10_copyFrom 197 = .ok (.aload_n 1, 1) := by decide +kernel
theorem dX10_copyFrom_198 : decode cX10_copyFrom 198 = .ok (.getfield 59, 3) := by decide +kernel
theorem dX10_copyFrom_201 : decode cX10_copyFrom 201 = .ok (.iconst 0, 1) := by decide +kernel
theorem dX10_copyFrom_202 : decode cX10_copyFrom 202 = .ok (.aload_n 0, 1) := by decide +kernel
theorem dX10_copyFrom_203 : decode cX10_copyFrom 203 = .ok (.getfield 59, 3) := by decide +kernel
theorem dX10_copyFrom_206 : decode cX10_copyFrom 206 = .ok (.iconst 0, 1) := by decide +kernel
theorem dX10_copyFrom_207 : decode cX10_copyFrom 207 = .ok (.bipush 30, 2) := by decide +kernel
theorem dX10_copyFrom_209 : decode cX10_copyFrom 209 = .ok (.invokestatic 72, 3) := by decide +kernel
theorem dX10_copyFrom_212 : decode cX10_copyFrom 212 = .ok (.aload_n 0, 1) := by decide +kernel
theorem dX10_copyFrom_213 : decode cX10_copyFrom 213 = .ok (.getfield 65, 3) := by decide +kernel
theorem dX10_copyFrom_216 : decode cX10_copyFrom 216 = .ok (.aload_n 1, 1) := by decide +kernel
theorem dX10_copyFrom_217 : decode cX10_copyFrom 217 = .ok (.getfield 65, 3) := by decide +kernel
theorem dX10_copyFrom_220 : decode cX10_copyFrom 220 = .ok (.invokevirtual 78, 3) := by decide +kernel
theorem dX10_copyFrom_223 : decode cX10_copyFrom 223 = .ok (.return_, 1) := by decide +kernel
theorem dX10_addPerson_0 : decode cX10_addPerson 0 = .ok (.aload_n 0, 1) := by decide +kernel
theorem dX10_addPerson_1 : decode cX10_addPerson 1 = .ok (.getfield 9, 3) := by decide +kernel
theorem dX10_addPerson_4 : decode cX10_addPerson 4 = .ok (.bipush 10, 2) := by decide +kernel
theorem dX10_addPerson_6 : decode cX10_addPerson 6 = .ok (.if_icmp .lt 4, 3) := by decide +kernel
theorem dX10_addPerson_9 : decode cX10_addPerson 9 = .ok (.return_, 1) := by decide +kernel
theorem dX10_addPerson_10 : decode cX10_addPerson 10 = .ok (.aload_n 0, 1) := by decide +kernel
theorem dX10_addPerson_11 : decode cX10_addPerson 11 = .ok (.getfield 24, 3) := by decide +kernel
theorem dX10_addPerson_14 : decode cX10_addPerson 14 = .ok (.aload_n 0, 1) := by decide +kernel
theorem dX10_addPerson_15 : decode cX10_addPerson 15 = .ok (.getfield 9, 3) := by decide +kernel
theorem dX10_addPerson_18 : decode cX10_addPerson 18 = .ok (.lload_n 1, 1) := by decide +kernel
theorem dX10_addPerson_19 : decode cX10_addPerson 19 = .ok (.lastore, 1) := by decide +kernel
theorem dX10_addPerson_20 : decode cX10_addPerson 20 = .ok (.aload_n 0, 1) := by decide +kernel
theorem dX10_addPerson_21 : decode cX10_addPerson 21 = .ok (.getfield 28, 3) := by decide +kernel
theorem dX10_addPerson_24 : decode cX10_addPerson 24 = .ok (.aload_n 0, 1) := by decide +kernel
theorem dX10_addPerson_25 : decode cX10_addPerson 25 = .ok (.getfield 9, 3) := by decide +kernel
theorem dX10_addPerson_28 : decode cX10_addPerson 28 = .ok (.iload_n 3, 1) := by decide +kernel
theorem dX10_addPerson_29 : decode cX10_addPerson 29 = .ok (.iastore, 1) := by decide +kernel
theorem dX10_addPerson_30 : decode cX10_addPerson 30 = .ok (.aload_n 0, 1) := by decide +kernel
theorem dX10_addPerson_31 : decode cX10_addPerson 31 = .ok (.getfield 32, 3) := by decide +kernel
theorem dX10_addPerson_34 : decode cX10_addPerson 34 = .ok (.aload_n 0, 1) := by decide +kernel
theorem dX10_addPerson_35 : decode cX10_addPerson 35 = .ok (.getfield 9, 3) := by decide +kernel
theorem dX10_addPerson_38 : decode cX10_addPerson 38 = .ok (.iload 4, 2) := by decide +kernel
theorem dX10_addPerson_40 : decode cX10_addPerson 40 = .ok (.iastore, 1) := by decide +kernel
theorem dX10_addPerson_41 : decode cX10_addPerson 41 = .ok (.aload_n 0, 1) := by decide +kernel
theorem dX10_addPerson_42 : decode cX10_addPerson 42 = .ok (.getfield 35, 3) := by decide +kernel
theorem dX10_addPerson_45 : decode cX10_addPerson 45 = .ok (.aload_n 0, 1) := by decide +kernel
theorem dX10_addPerson_46 : decode cX10_addPerson 46 = .ok (.getfield 9, 3) := by decide +kernel
theorem dX10_addPerson_49 : decode cX10_addPerson 49 = .ok (.bipush 9, 2) := by decide +kernel
theorem dX10_addPerson_51 : decode cX10_addPerson 51 = .ok (.iastore, 1) := by decide +kernel
theorem dX10_addPerson_52 : decode cX10_addPerson 52 = .ok (.aload_n 0, 1) := by decide +kernel
theorem dX10_addPerson_53 : decode cX10_addPerson 53 = .ok (.dup, 1) := by decide +kernel
theorem dX10_addPerson_54 : decode cX10_addPerson 54 = .ok (.getfield 9, 3) := by decide +kernel
theorem dX10_addPerson_57 : decode cX10_addPerson 57 = .ok (.iconst 1, 1) := by decide +kernel
theorem dX10_addPerson_58 : decode cX10_addPerson 58 = .ok (.iadd, 1) := by decide +kernel
theorem dX10_addPerson_59 : decode cX10_addPerson 59 = .ok (.putfield 9, 3) := by decide +kernel
theorem dX10_addPerson_62 : decode cX10_addPerson 62 = .ok (.return_, 1) := by decide +kernel
theorem dX10_orderByYear_0 : decode cX10_orderByYear 0 = .ok (.iconst 0, 1) := by decide +kernel
theorem dX10_orderByYear_1 : decode cX10_orderByYear 1 = .ok (.istore_n 1, 1) := by decide +kernel
theorem dX10_orderByYear_2 : decode cX10_orderByYear 2 = .ok (.iload_n 1, 1) := by decide +kernel
theorem dX10_orderByYear_3 : decode cX10_orderByYear 3 = .ok (.aload_n 0, 1) := by decide +kernel
theorem dX10_orderByYear_4 : decode cX10_orderByYear 4 = .ok (.getfield 15, 3) := by decide +kernel
theorem dX10_orderByYear_7 : decode cX10_orderByYear 7 = .ok (.if_icmp .ge 64, 3) := by decide +kernel
theorem dX10_orderByYear_10 : decode cX10_orderByYear 10 = .ok (.iload_n 1, 1) := by decide +kernel
theorem dX10_orderByYear_11 : decode cX10_orderByYear 11 = .ok (.istore_n 2, 1) := by decide +kernel
theorem dX10_orderByYear_12 : decode cX10_orderByYear 12 = .ok (.iload_n 2, 1) := by decide +kernel
theorem dX10_orderByYear_13 : decode cX10_orderByYear 13 = .ok (.ifCond .le 45, 3) := by decide +kernel
theorem dX10_orderByYear_16 : decode cX10_orderByYear 16 = .ok (.aload_n 0, 1) := by decide +kernel
theorem dX10_orderByYear_17 : decode cX10_orderByYear 17 = .ok (.getfield 47, 3) := by decide +kernel
theorem dX10_orderByYear_20 : decode cX10_orderByYear 20 = .ok (.aload_n 0, 1) := by decide +kernel
theorem dX10_orderByYear_21 : decode cX10_orderByYear 21 = .ok (.getfield 59, 3) := by decide +kernel
theorem dX10_orderByYear_24 : decode cX10_orderByYear 24 = .ok (.iload_n 2, 1) := by decide +kernel
theorem dX10_orderByYear_25 : decode cX10_orderByYear 25 = .ok (.iconst 1, 1) := by decide +kernel
theorem dX10_orderByYear_26 : decode cX10_orderByYear 26 = .ok (.isub, 1) := by decide +kernel
theorem dX10_orderByYear_27 : decode cX10_orderByYear 27 = .ok (.iaload, 1) := by decide +kernel
theorem dX10_orderByYear_28 : decode cX10_orderByYear 28 = .ok (.iaload, 1) := by decide +kernel
theorem dX10_orderByYear_29 : decode cX10_orderByYear 29 = .ok (.aload_n 0, 1) := by decide +kernel
theorem dX10_orderByYear_30 : decode cX10_orderByYear 30 = .ok (.getfield 47, 3) := by decide +kernel
theorem dX10_orderByYear_33 : decode cX10_orderByYear 33 = .ok (.iload_n 1, 1) := by decide +kernel
theorem dX10_orderByYear_34 : decode cX10_orderByYear 34 = .ok (.iaload, 1) := by decide +kernel
theorem dX10_orderByYear_35 : decode cX10_orderByYear 35 = .ok (.if_icmp .le 23, 3) := by decide +kernel
theorem dX10_orderByYear_38 : decode cX10_orderByYear 38 = .ok (.aload_n 0, 1) := by decide +kernel
theorem dX10_orderByYear_39 : decode cX10_orderByYear 39 = .ok (.getfield 59, 3) := by decide +kernel
theorem dX10_orderByYear_42 : decode cX10_orderByYear 42 = .ok (.iload_n 2, 1) := by decide +kernel
theorem dX10_orderByYear_43 : decode cX10_orderByYear 43 = .ok (.aload_n 0, 1) := by decide +kernel
theorem dX10_orderByYear_44 : decode cX10_orderByYear 44 = .ok (.getfield 59, 3) := by decide +kernel
theorem dX10_orderByYear_47 : decode cX10_orderByYear 47 = .ok (.iload_n 2, 1) := by decide +kernel
theorem dX10_orderByYear_48 : decode cX10_orderByYear 48 = .ok (.iconst 1, 1) := by decide +kernel
theorem dX10_orderByYear_49 : decode cX10_orderByYear 49 = .ok (.isub, 1) := by decide +kernel
theorem dX10_orderByYear_50 : decode cX10_orderByYear 50 = .ok (.iaload, 1) := by decide +kernel
theorem dX10_orderByYear_51 : decode cX10_orderByYear 51 = .ok (.iastore, 1) := by decide +kernel
theorem dX10_orderByYear_52 : decode cX10_orderByYear 52 = .ok (.iinc 2 (-1), 3) := by decide +kernel
theorem dX10_orderByYear_55 : decode cX10_orderByYear 55 = .ok (.goto (-43), 3) := by decide +kernel
theorem dX10_orderByYear_58 : decode cX10_orderByYear 58 = .ok (.aload_n 0, 1) := by decide +kernel
theorem dX10_orderByYear_59 : decode cX10_orderByYear 59 = .ok (.getfield 59, 3) := by decide +kernel
theorem dX10_orderByYear_62 : decode cX10_orderByYear 62 = .ok (.iload_n 2, 1) := by decide +kernel
theorem dX10_orderByYear_63 : decode cX10_orderByYear 63 = .ok (.iload_n 1, 1) := by decide +kernel
theorem dX10_orderByYear_64 : decode cX10_orderByYear 64 = .ok (.iastore, 1) := by decide +kernel
theorem dX10_orderByYear_65 : decode cX10_orderByYear 65 = .ok (.iinc 1 1, 3) := by decide +kernel
theorem dX10_orderByYear_68 : decode cX10_orderByYear 68 = .ok (.goto (-66), 3) := by decide +kernel
theorem dX10_orderByYear_71 : decode cX10_orderByYear 71 = .ok (.return_, 1) := by decide +kernel
theorem dX10_hasPerson_0 : decode cX10_hasPerson 0 = .ok (.iload_n 1, 1) := by decide +kernel
theorem dX10_hasPerson_1 : decode cX10_hasPerson 1 = .ok (.ifCond .lt 15, 3) := by decide +kernel
theorem dX10_hasPerson_4 : decode cX10_hasPerson 4 = .ok (.iload_n 1, 1) := by decide +kernel
theorem dX10_hasPerson_5 : decode cX10_hasPerson 5 = .ok (.aload_n 0, 1) := by decide +kernel
theorem dX10_hasPerson_6 : decode cX10_hasPerson 6 = .ok (.getfield 9, 3) := by decide +kernel
theorem dX10_hasPerson_9 : decode cX10_hasPerson 9 = .ok (.if_icmp .ge 7, 3) := by decide +kernel
theorem dX10_hasPerson_12 : decode cX10_hasPerson 12 = .ok (.iconst 1, 1) := by decide +kernel
theorem dX10_hasPerson_13 : decode cX10_hasPerson 13 = .ok (.goto 4, 3) := by decide +kernel
theorem dX10_hasPerson_16 : decode cX10_hasPerson 16 = .ok (.iconst 0, 1) := by decide +kernel
theorem dX10_hasPerson_17 : decode cX10_hasPerson 17 = .ok (.ireturn, 1) := by decide +kernel
theorem dX10_hasDeal_0 : decode cX10_hasDeal 0 = .ok (.iload_n 1, 1) := by decide +kernel
theorem dX10_hasDeal_1 : decode cX10_hasDeal 1 = .ok (.ifCond .lt 15, 3) := by decide +kernel
theorem dX10_hasDeal_4 : decode cX10_hasDeal 4 = .ok (.iload_n 1, 1) := by decide +kernel
theorem dX10_hasDeal_5 : decode cX10_hasDeal 5 = .ok (.aload_n 0, 1) := by decide +kernel
theorem dX10_hasDeal_6 : decode cX10_hasDeal 6 = .ok (.getfield 15, 3) := by decide +kernel
theorem dX10_hasDeal_9 : decode cX10_hasDeal 9 = .ok (.if_icmp .ge 7, 3) := by decide +kernel
theorem dX10_hasDeal_12 : decode cX10_hasDeal 12 = .ok (.iconst 1, 1) := by decide +kernel
theorem dX10_hasDeal_13 : decode cX10_hasDeal 13 = .ok (.goto 4, 3) := by decide +kernel
theorem dX10_hasDeal_16 : decode cX10_hasDeal 16 = .ok (.iconst 0, 1) := by decide +kernel
theorem dX10_hasDeal_17 : decode cX10_hasDeal 17 = .ok (.ireturn, 1) := by decide +kernel
theorem dX10_hasParts_0 : decode cX10_hasParts 0 = .ok (.iload_n 1, 1) := by decide +kernel
theorem dX10_hasParts_1 : decode cX10_hasParts 1 = .ok (.ifCond .lt 15, 3) := by decide +kernel
theorem dX10_hasParts_4 : decode cX10_hasParts 4 = .ok (.iload_n 1, 1) := by decide +kernel
theorem dX10_hasParts_5 : decode cX10_hasParts 5 = .ok (.aload_n 0, 1) := by decide +kernel
theorem dX10_hasParts_6 : decode cX10_hasParts 6 = .ok (.invokevirtual 82, 3) := by decide +kernel
theorem dX10_hasParts_9 : decode cX10_hasParts 9 = .ok (.if_icmp .ge 7, 3) := by decide +kernel
theorem dX10_hasParts_12 : decode cX10_hasParts 12 = .ok (.iconst 1, 1) := by decide +kernel
theorem dX10_hasParts_13 : decode cX10_hasParts 13 = .ok (.goto 4, 3) := by decide +kernel
theorem dX10_hasParts_16 : decode cX10_hasParts 16 = .ok (.iconst 0, 1) := by decide +kernel
theorem dX10_hasParts_17 : decode cX10_hasParts 17 = .ok (.ireturn, 1) := by decide +kernel
theorem dX10_partsCount_0 : decode cX10_partsCount 0 = .ok (.iconst 1, 1) := by decide +kernel
theorem dX10_partsCount_1 : decode cX10_partsCount 1 = .ok (.aload_n 0, 1) := by decide +kernel
theorem dX10_partsCount_2 : decode cX10_partsCount 2 = .ok (.getfield 9, 3) := by decide +kernel
theorem dX10_partsCount_5 : decode cX10_partsCount 5 = .ok (.ishl, 1) := by decide +kernel
theorem dX10_partsCount_6 : decode cX10_partsCount 6 = .ok (.ireturn, 1) := by decide +kernel
theorem dX10_findPerson_0 : decode cX10_findPerson 0 = .ok (.iconst 0, 1) := by decide +kernel
theorem dX10_findPerson_1 : decode cX10_findPerson 1 = .ok (.istore_n 3, 1) := by decide +kernel
theorem dX10_findPerson_2 : decode cX10_findPerson 2 = .ok (.iload_n 3, 1) := by decide +kernel
theorem dX10_findPerson_3 : decode cX10_findPerson 3 = .ok (.aload_n 0, 1) := by decide +kernel
theorem dX10_findPerson_4 : decode cX10_findPerson 4 = .ok (.getfield 9, 3) := by decide +kernel
theorem dX10_findPerson_7 : decode cX10_findPerson 7 = .ok (.if_icmp .ge 22, 3) := by decide +kernel
theorem dX10_findPerson_10 : decode cX10_findPerson 10 = .ok (.aload_n 0, 1) := by decide +kernel
theorem dX10_findPerson_11 : decode cX10_findPerson 11 = .ok (.getfield 24, 3) := by decide +kernel
theorem dX10_findPerson_14 : decode cX10_findPerson 14 = .ok (.iload_n 3, 1) := by decide +kernel
theorem dX10_findPerson_15 : decode cX10_findPerson 15 = .ok (.laload, 1) := by decide +kernel
theorem dX10_findPerson_16 : decode cX10_findPerson 16 = .ok (.lload_n 1, 1) := by decide +kernel
theorem dX10_findPerson_17 : decode cX10_findPerson 17 = .ok (.lcmp, 1) := by decide +kernel
theorem dX10_findPerson_18 : decode cX10_findPerson 18 = .ok (.ifCond .ne 5, 3) := by decide +kernel
theorem dX10_findPerson_21 : decode cX10_findPerson 21 = .ok (.iload_n 3, 1) := by decide +kernel
theorem dX10_findPerson_22 : decode cX10_findPerson 22 = .ok (.ireturn, 1) := by decide +kernel
theorem dX10_findPerson_23 : decode cX10_findPerson 23 = .ok (.iinc 3 1, 3) := by decide +kernel
theorem dX10_findPerson_26 : decode cX10_findPerson 26 = .ok (.goto (-24), 3) := by decide +kernel
theorem dX10_findPerson_29 : decode cX10_findPerson 29 = .ok (.iconst (-1), 1) := by decide +kernel
theorem dX10_findPerson_30 : decode cX10_findPerson 30 = .ok (.ireturn, 1) := by decide +kernel
theorem dX10_findDeal_0 : decode cX10_findDeal 0 = .ok (.iconst 0, 1) := by decide +kernel
theorem dX10_findDeal_1 : decode cX10_findDeal 1 = .ok (.istore_n 3, 1) := by decide +kernel
theorem dX10_findDeal_2 : decode cX10_findDeal 2 = .ok (.iload_n 3, 1) := by decide +kernel
theorem dX10_findDeal_3 : decode cX10_findDeal 3 = .ok (.aload_n 0, 1) := by decide +kernel
theorem dX10_findDeal_4 : decode cX10_findDeal 4 = .ok (.getfield 15, 3) := by decide +kernel
theorem dX10_findDeal_7 : decode cX10_findDeal 7 = .ok (.if_icmp .ge 22, 3) := by decide +kernel
theorem dX10_findDeal_10 : decode cX10_findDeal 10 = .ok (.aload_n 0, 1) := by decide +kernel
theorem dX10_findDeal_11 : decode cX10_findDeal 11 = .ok (.getfield 38, 3) := by decide +kernel
theorem dX10_findDeal_14 : decode cX10_findDeal 14 = .ok (.iload_n 3, 1) := by decide +kernel
theorem dX10_findDeal_15 : decode cX10_findDeal 15 = .ok (.laload, 1) := by decide +kernel
theorem dX10_findDeal_16 : decode cX10_findDeal 16 = .ok (.lload_n 1, 1) := by decide +kernel
theorem dX10_findDeal_17 : decode cX10_findDeal 17 = .ok (.lcmp, 1) := by decide +kernel
theorem dX10_findDeal_18 : decode cX10_findDeal 18 = .ok (.ifCond .ne 5, 3) := by decide +kernel
theorem dX10_findDeal_21 : decode cX10_findDeal 21 = .ok (.iload_n 3, 1) := by decide +kernel
theorem dX10_findDeal_22 : decode cX10_findDeal 22 = .ok (.ireturn, 1) := by decide +kernel
theorem dX10_findDeal_23 : decode cX10_findDeal 23 = .ok (.iinc 3 1, 3) := by decide +kernel
theorem dX10_findDeal_26 : decode cX10_findDeal 26 = .ok (.goto (-24), 3) := by decide +kernel
theorem dX10_findDeal_29 : decode cX10_findDeal 29 = .ok (.iconst (-1), 1) := by decide +kernel
theorem dX10_findDeal_30 : decode cX10_findDeal 30 = .ok (.ireturn, 1) := by decide +kernel
theorem dX10_isIn_0 : decode cX10_isIn 0 = .ok (.aload_n 0, 1) := by decide +kernel
theorem dX10_isIn_1 : decode cX10_isIn 1 = .ok (.getfield 41, 3) := by decide +kernel
theorem dX10_isIn_4 : decode cX10_isIn 4 = .ok (.iload_n 1, 1) := by decide +kernel
theorem dX10_isIn_5 : decode cX10_isIn 5 = .ok (.iaload, 1) := by decide +kernel
theorem dX10_isIn_6 : decode cX10_isIn 6 = .ok (.iload_n 2, 1) := by decide +kernel
theorem dX10_isIn_7 : decode cX10_isIn 7 = .ok (.if_icmp .eq 13, 3) := by decide +kernel
theorem dX10_isIn_10 : decode cX10_isIn 10 = .ok (.aload_n 0, 1) := by decide +kernel
theorem dX10_isIn_11 : decode cX10_isIn 11 = .ok (.getfield 44, 3) := by decide +kernel
theorem dX10_isIn_14 : decode cX10_isIn 14 = .ok (.iload_n 1, 1) := by decide +kernel
theorem dX10_isIn_15 : decode cX10_isIn 15 = .ok (.iaload, 1) := by decide +kernel
theorem dX10_isIn_16 : decode cX10_isIn 16 = .ok (.iload_n 2, 1) := by decide +kernel
theorem dX10_isIn_17 : decode cX10_isIn 17 = .ok (.if_icmp .ne 7, 3) := by decide +kernel
theorem dX10_isIn_20 : decode cX10_isIn 20 = .ok (.iconst 1, 1) := by decide +kernel
theorem dX10_isIn_21 : decode cX10_isIn 21 = .ok (.goto 4, 3) := by decide +kernel
theorem dX10_isIn_24 : decode cX10_isIn 24 = .ok (.iconst 0, 1) := by decide +kernel
theorem dX10_isIn_25 : decode cX10_isIn 25 = .ok (.ireturn, 1) := by decide +kernel
theorem dX10_otherIn_0 : decode cX10_otherIn 0 = .ok (.aload_n 0, 1) := by decide +kernel
theorem dX10_otherIn_1 : decode cX10_otherIn 1 = .ok (.getfield 41, 3) := by decide +kernel
theorem dX10_otherIn_4 : decode cX10_otherIn 4 = .ok (.iload_n 1, 1) := by decide +kernel
theorem dX10_otherIn_5 : decode cX10_otherIn 5 = .ok (.iaload, 1) := by decide +kernel
theorem dX10_otherIn_6 : decode cX10_otherIn 6 = .ok (.iload_n 2, 1) := by decide +kernel
theorem dX10_otherIn_7 : decode cX10_otherIn 7 = .ok (.if_icmp .ne 12, 3) := by decide +kernel
theorem dX10_otherIn_10 : decode cX10_otherIn 10 = .ok (.aload_n 0, 1) := by decide +kernel
theorem dX10_otherIn_11 : decode cX10_otherIn 11 = .ok (.getfield 44, 3) := by decide +kernel
theorem dX10_otherIn_14 : decode cX10_otherIn 14 = .ok (.iload_n 1, 1) := by decide +kernel
theorem dX10_otherIn_15 : decode cX10_otherIn 15 = .ok (.iaload, 1) := by decide +kernel
theorem dX10_otherIn_16 : decode cX10_otherIn 16 = .ok (.goto 9, 3) := by decide +kernel
theorem dX10_otherIn_19 : decode cX10_otherIn 19 = .ok (.aload_n 0, 1) := by decide +kernel
theorem dX10_otherIn_20 : decode cX10_otherIn 20 = .ok (.getfield 41, 3) := by decide +kernel
theorem dX10_otherIn_23 : decode cX10_otherIn 23 = .ok (.iload_n 1, 1) := by decide +kernel
theorem dX10_otherIn_24 : decode cX10_otherIn 24 = .ok (.iaload, 1) := by decide +kernel
theorem dX10_otherIn_25 : decode cX10_otherIn 25 = .ok (.ireturn, 1) := by decide +kernel
theorem dX10_shareOf_0 : decode cX10_shareOf 0 = .ok (.aload_n 0, 1) := by decide +kernel
theorem dX10_shareOf_1 : decode cX10_shareOf 1 = .ok (.getfield 41, 3) := by decide +kernel
theorem dX10_shareOf_4 : decode cX10_shareOf 4 = .ok (.iload_n 1, 1) := by decide +kernel
theorem dX10_shareOf_5 : decode cX10_shareOf 5 = .ok (.iaload, 1) := by decide +kernel
theorem dX10_shareOf_6 : decode cX10_shareOf 6 = .ok (.iload_n 2, 1) := by decide +kernel
theorem dX10_shareOf_7 : decode cX10_shareOf 7 = .ok (.if_icmp .ne 12, 3) := by decide +kernel
theorem dX10_shareOf_10 : decode cX10_shareOf 10 = .ok (.aload_n 0, 1) := by decide +kernel
theorem dX10_shareOf_11 : decode cX10_shareOf 11 = .ok (.getfield 50, 3) := by decide +kernel
theorem dX10_shareOf_14 : decode cX10_shareOf 14 = .ok (.iload_n 1, 1) := by decide +kernel
theorem dX10_shareOf_15 : decode cX10_shareOf 15 = .ok (.iaload, 1) := by decide +kernel
theorem dX10_shareOf_16 : decode cX10_shareOf 16 = .ok (.goto 23, 3) := by decide +kernel
theorem dX10_shareOf_19 : decode cX10_shareOf 19 = .ok (.aload_n 0, 1) := by decide +kernel
theorem dX10_shareOf_20 : decode cX10_shareOf 20 = .ok (.getfield 44, 3) := by decide +kernel
theorem dX10_shareOf_23 : decode cX10_shareOf 23 = .ok (.iload_n 1, 1) := by decide +kernel
theorem dX10_shareOf_24 : decode cX10_shareOf 24 = .ok (.iaload, 1) := by decide +kernel
theorem dX10_shareOf_25 : decode cX10_shareOf 25 = .ok (.iload_n 2, 1) := by decide +kernel
theorem dX10_shareOf_26 : decode cX10_shareOf 26 = .ok (.if_icmp .ne 12, 3) := by decide +kernel
theorem dX10_shareOf_29 : decode cX10_shareOf 29 = .ok (.aload_n 0, 1) := by decide +kernel
theorem dX10_shareOf_30 : decode cX10_shareOf 30 = .ok (.getfield 53, 3) := by decide +kernel
theorem dX10_shareOf_33 : decode cX10_shareOf 33 = .ok (.iload_n 1, 1) := by decide +kernel
theorem dX10_shareOf_34 : decode cX10_shareOf 34 = .ok (.iaload, 1) := by decide +kernel
theorem dX10_shareOf_35 : decode cX10_shareOf 35 = .ok (.goto 4, 3) := by decide +kernel
theorem dX10_shareOf_38 : decode cX10_shareOf 38 = .ok (.iconst 0, 1) := by decide +kernel
theorem dX10_shareOf_39 : decode cX10_shareOf 39 = .ok (.ireturn, 1) := by decide +kernel
theorem dX10_bothShares_0 : decode cX10_bothShares 0 = .ok (.aload_n 0, 1) := by decide +kernel
theorem dX10_bothShares_1 : decode cX10_bothShares 1 = .ok (.getfield 50, 3) := by decide +kernel
theorem dX10_bothShares_4 : decode cX10_bothShares 4 = .ok (.iload_n 1, 1) := by decide +kernel
theorem dX10_bothShares_5 : decode cX10_bothShares 5 = .ok (.iaload, 1) := by decide +kernel
theorem dX10_bothShares_6 : decode cX10_bothShares 6 = .ok (.aload_n 0, 1) := by decide +kernel
theorem dX10_bothShares_7 : decode cX10_bothShares 7 = .ok (.getfield 53, 3) := by decide +kernel
theorem dX10_bothShares_10 : decode cX10_bothShares 10 = .ok (.iload_n 1, 1) := by decide +kernel
theorem dX10_bothShares_11 : decode cX10_bothShares 11 = .ok (.iaload, 1) := by decide +kernel
theorem dX10_bothShares_12 : decode cX10_bothShares 12 = .ok (.iadd, 1) := by decide +kernel
theorem dX10_bothShares_13 : decode cX10_bothShares 13 = .ok (.ireturn, 1) := by decide +kernel
theorem dX10_goesBy_0 : decode cX10_goesBy 0 = .ok (.iload_n 2, 1) := by decide +kernel
theorem dX10_goesBy_1 : decode cX10_goesBy 1 = .ok (.aload_n 0, 1) := by decide +kernel
theorem dX10_goesBy_2 : decode cX10_goesBy 2 = .ok (.getfield 41, 3) := by decide +kernel
theorem dX10_goesBy_5 : decode cX10_goesBy 5 = .ok (.iload_n 1, 1) := by decide +kernel
theorem dX10_goesBy_6 : decode cX10_goesBy 6 = .ok (.iaload, 1) := by decide +kernel
theorem dX10_goesBy_7 : decode cX10_goesBy 7 = .ok (.ishr, 1) := by decide +kernel
theorem dX10_goesBy_8 : decode cX10_goesBy 8 = .ok (.iconst 1, 1) := by decide +kernel
theorem dX10_goesBy_9 : decode cX10_goesBy 9 = .ok (.iand, 1) := by decide +kernel
theorem dX10_goesBy_10 : decode cX10_goesBy 10 = .ok (.istore_n 3, 1) := by decide +kernel
theorem dX10_goesBy_11 : decode cX10_goesBy 11 = .ok (.iload_n 2, 1) := by decide +kernel
theorem dX10_goesBy_12 : decode cX10_goesBy 12 = .ok (.aload_n 0, 1) := by decide +kernel
theorem dX10_goesBy_13 : decode cX10_goesBy 13 = .ok (.getfield 44, 3) := by decide +kernel
theorem dX10_goesBy_16 : decode cX10_goesBy 16 = .ok (.iload_n 1, 1) := by decide +kernel
theorem dX10_goesBy_17 : decode cX10_goesBy 17 = .ok (.iaload, 1) := by decide +kernel
theorem dX10_goesBy_18 : decode cX10_goesBy 18 = .ok (.ishr, 1) := by decide +kernel
theorem dX10_goesBy_19 : decode cX10_goesBy 19 = .ok (.iconst 1, 1) := by decide +kernel
theorem dX10_goesBy_20 : decode cX10_goesBy 20 = .ok (.iand, 1) := by decide +kernel
theorem dX10_goesBy_21 : decode cX10_goesBy 21 = .ok (.istore 4, 2) := by decide +kernel
theorem dX10_goesBy_23 : decode cX10_goesBy 23 = .ok (.iload_n 3, 1) := by decide +kernel
theorem dX10_goesBy_24 : decode cX10_goesBy 24 = .ok (.iload 4, 2) := by decide +kernel
theorem dX10_goesBy_26 : decode cX10_goesBy 26 = .ok (.if_icmp .eq 22, 3) := by decide +kernel
theorem dX10_goesBy_29 : decode cX10_goesBy 29 = .ok (.iload_n 3, 1) := by decide +kernel
theorem dX10_goesBy_30 : decode cX10_goesBy 30 = .ok (.iconst 1, 1) := by decide +kernel
theorem dX10_goesBy_31 : decode cX10_goesBy 31 = .ok (.if_icmp .eq 13, 3) := by decide +kernel
theorem dX10_goesBy_34 : decode cX10_goesBy 34 = .ok (.aload_n 0, 1) := by decide +kernel
theorem dX10_goesBy_35 : decode cX10_goesBy 35 = .ok (.getfield 56, 3) := by decide +kernel
theorem dX10_goesBy_38 : decode cX10_goesBy 38 = .ok (.iload_n 1, 1) := by decide +kernel
theorem dX10_goesBy_39 : decode cX10_goesBy 39 = .ok (.iaload, 1) := by decide +kernel
theorem dX10_goesBy_40 : decode cX10_goesBy 40 = .ok (.iconst 1, 1) := by decide +kernel
theorem dX10_goesBy_41 : decode cX10_goesBy 41 = .ok (.if_icmp .ne 7, 3) := by decide +kernel
theorem dX10_goesBy_44 : decode cX10_goesBy 44 = .ok (.iconst 1, 1) := by decide +kernel
theorem dX10_goesBy_45 : decode cX10_goesBy 45 = .ok (.goto 4, 3) := by decide +kernel
theorem dX10_goesBy_48 : decode cX10_goesBy 48 = .ok (.iconst 0, 1) := by decide +kernel
theorem dX10_goesBy_49 : decode cX10_goesBy 49 = .ok (.ireturn, 1) := by decide +kernel
theorem dX10_ownOf_0 : decode cX10_ownOf 0 = .ok (.iconst 0, 1) := by decide +kernel
theorem dX10_ownOf_1 : decode cX10_ownOf 1 = .ok (.istore_n 3, 1) := by decide +kernel
theorem dX10_ownOf_2 : decode cX10_ownOf 2 = .ok (.iconst 0, 1) := by decide +kernel
theorem dX10_ownOf_3 : decode cX10_ownOf 3 = .ok (.istore 4, 2) := by decide +kernel
theorem dX10_ownOf_5 : decode cX10_ownOf 5 = .ok (.iload 4, 2) := by decide +kernel
theorem dX10_ownOf_7 : decode cX10_ownOf 7 = .ok (.aload_n 0, 1) := by decide +kernel
theorem dX10_ownOf_8 : decode cX10_ownOf 8 = .ok (.getfield 15, 3) := by decide +kernel
theorem dX10_ownOf_11 : decode cX10_ownOf 11 = .ok (.if_icmp .ge 39, 3) := by decide +kernel
theorem dX10_ownOf_14 : decode cX10_ownOf 14 = .ok (.aload_n 0, 1) := by decide +kernel
theorem dX10_ownOf_15 : decode cX10_ownOf 15 = .ok (.iload 4, 2) := by decide +kernel
theorem dX10_ownOf_17 : decode cX10_ownOf 17 = .ok (.iload_n 1, 1) := by decide +kernel
theorem dX10_ownOf_18 : decode cX10_ownOf 18 = .ok (.invokevirtual 86, 3) := by decide +kernel
theorem dX10_ownOf_21 : decode cX10_ownOf 21 = .ok (.ifCond .eq 23, 3) := by decide +kernel
theorem dX10_ownOf_24 : decode cX10_ownOf 24 = .ok (.aload_n 0, 1) := by decide +kernel
theorem dX10_ownOf_25 : decode cX10_ownOf 25 = .ok (.iload 4, 2) := by decide +kernel
theorem dX10_ownOf_27 : decode cX10_ownOf 27 = .ok (.iload_n 2, 1) := by decide +kernel
theorem dX10_ownOf_28 : decode cX10_ownOf 28 = .ok (.invokevirtual 90, 3) := by decide +kernel
theorem dX10_ownOf_31 : decode cX10_ownOf 31 = .ok (.ifCond .eq 13, 3) := by decide +kernel
theorem dX10_ownOf_34 : decode cX10_ownOf 34 = .ok (.iload_n 3, 1) := by decide +kernel
theorem dX10_ownOf_35 : decode cX10_ownOf 35 = .ok (.aload_n 0, 1) := by decide +kernel
theorem dX10_ownOf_36 : decode cX10_ownOf 36 = .ok (.iload 4, 2) := by decide +kernel
theorem dX10_ownOf_38 : decode cX10_ownOf 38 = .ok (.iload_n 1, 1) := by decide +kernel
theorem dX10_ownOf_39 : decode cX10_ownOf 39 = .ok (.invokevirtual 93, 3) := by decide +kernel
theorem dX10_ownOf_42 : decode cX10_ownOf 42 = .ok (.iadd, 1) := by decide +kernel
theorem dX10_ownOf_43 : decode cX10_ownOf 43 = .ok (.istore_n 3, 1) := by decide +kernel
theorem dX10_ownOf_44 : decode cX10_ownOf 44 = .ok (.iinc 4 1, 3) := by decide +kernel
theorem dX10_ownOf_47 : decode cX10_ownOf 47 = .ok (.goto (-42), 3) := by decide +kernel
theorem dX10_ownOf_50 : decode cX10_ownOf 50 = .ok (.iload_n 3, 1) := by decide +kernel
theorem dX10_ownOf_51 : decode cX10_ownOf 51 = .ok (.ireturn, 1) := by decide +kernel
theorem dX10_hasMoreByChange_0 : decode cX10_hasMoreByChange 0 = .ok (.aload_n 0, 1) := by decide +kernel
theorem dX10_hasMoreByChange_1 : decode cX10_hasMoreByChange 1 = .ok (.iload_n 1, 1) := by decide +kernel
theorem dX10_hasMoreByChange_2 : decode cX10_hasMoreByChange 2 = .ok (.iload_n 2, 1) := by decide +kernel
theorem dX10_hasMoreByChange_3 : decode cX10_hasMoreByChange 3 = .ok (.iconst 1, 1) := by decide +kernel
theorem dX10_hasMoreByChange_4 : decode cX10_hasMoreByChange 4 = .ok (.iload_n 1, 1) := by decide +kernel
theorem dX10_hasMoreByChange_5 : decode cX10_hasMoreByChange 5 = .ok (.ishl, 1) := by decide +kernel
theorem dX10_hasMoreByChange_6 : decode cX10_hasMoreByChange 6 = .ok (.ixor, 1) := by decide +kernel
theorem dX10_hasMoreByChange_7 : decode cX10_hasMoreByChange 7 = .ok (.invokevirtual 97, 3) := by decide +kernel
theorem dX10_hasMoreByChange_10 : decode cX10_hasMoreByChange 10 = .ok (.aload_n 0, 1) := by decide +kernel
theorem dX10_hasMoreByChange_11 : decode cX10_hasMoreByChange 11 = .ok (.iload_n 1, 1) := by decide +kernel
theorem dX10_hasMoreByChange_12 : decode cX10_hasMoreByChange 12 = .ok (.iload_n 2, 1) := by decide +kernel
theorem dX10_hasMoreByChange_13 : decode cX10_hasMoreByChange 13 = .ok (.invokevirtual 97, 3) := by decide +kernel
theorem dX10_hasMoreByChange_16 : decode cX10_hasMoreByChange 16 = .ok (.if_icmp .le 7, 3) := by decide +kernel
theorem dX10_hasMoreByChange_19 : decode cX10_hasMoreByChange 19 = .ok (.iconst 1, 1) := by decide +kernel
theorem dX10_hasMoreByChange_20 : decode cX10_hasMoreByChange 20 = .ok (.goto 4, 3) := by decide +kernel
theorem dX10_hasMoreByChange_23 : decode cX10_hasMoreByChange 23 = .ok (.iconst 0, 1) := by decide +kernel
theorem dX10_hasMoreByChange_24 : decode cX10_hasMoreByChange 24 = .ok (.ireturn, 1) := by decide +kernel
theorem dX10_isAtRest_0 : decode cX10_isAtRest 0 = .ok (.iconst 0, 1) := by decide +kernel
theorem dX10_isAtRest_1 : decode cX10_isAtRest 1 = .ok (.istore_n 2, 1) := by decide +kernel
theorem dX10_isAtRest_2 : decode cX10_isAtRest 2 = .ok (.iload_n 2, 1) := by decide +kernel
theorem dX10_isAtRest_3 : decode cX10_isAtRest 3 = .ok (.aload_n 0, 1) := by decide +kernel
theorem dX10_isAtRest_4 : decode cX10_isAtRest 4 = .ok (.getfield 9, 3) := by decide +kernel
theorem dX10_isAtRest_7 : decode cX10_isAtRest 7 = .ok (.if_icmp .ge 20, 3) := by decide +kernel
theorem dX10_isAtRest_10 : decode cX10_isAtRest 10 = .ok (.aload_n 0, 1) := by decide +kernel
theorem dX10_isAtRest_11 : decode cX10_isAtRest 11 = .ok (.iload_n 2, 1) := by decide +kernel
theorem dX10_isAtRest_12 : decode cX10_isAtRest 12 = .ok (.iload_n 1, 1) := by decide +kernel
theorem dX10_isAtRest_13 : decode cX10_isAtRest 13 = .ok (.invokevirtual 100, 3) := by decide +kernel
theorem dX10_isAtRest_16 : decode cX10_isAtRest 16 = .ok (.ifCond .eq 5, 3) := by decide +kernel
theorem dX10_isAtRest_19 : decode cX10_isAtRest 19 = .ok (.iconst 0, 1) := by decide +kernel
theorem dX10_isAtRest_20 : decode cX10_isAtRest 20 = .ok (.ireturn, 1) := by decide +kernel
theorem dX10_isAtRest_21 : decode cX10_isAtRest 21 = .ok (.iinc 2 1, 3) := by decide +kernel
theorem dX10_isAtRest_24 : decode cX10_isAtRest 24 = .ok (.goto (-22), 3) := by decide +kernel
theorem dX10_isAtRest_27 : decode cX10_isAtRest 27 = .ok (.iconst 1, 1) := by decide +kernel
theorem dX10_isAtRest_28 : decode cX10_isAtRest 28 = .ok (.ireturn, 1) := by decide +kernel
theorem dX10_personsWithDeals_0 : decode cX10_personsWithDeals 0 = .ok (.iconst 0, 1) := by decide +kernel
theorem dX10_personsWithDeals_1 : decode cX10_personsWithDeals 1 = .ok (.istore_n 1, 1) := by decide +kernel
theorem dX10_personsWithDeals_2 : decode cX10_personsWithDeals 2 = .ok (.iconst 0, 1) := by decide +kernel
theorem dX10_personsWithDeals_3 : decode cX10_personsWithDeals 3 = .ok (.istore_n 2, 1) := by decide +kernel
theorem dX10_personsWithDeals_4 : decode cX10_personsWithDeals 4 = .ok (.iload_n 2, 1) := by decide +kernel
theorem dX10_personsWithDeals_5 : decode cX10_personsWithDeals 5 = .ok (.aload_n 0, 1) := by decide +kernel
theorem dX10_personsWithDeals_6 : decode cX10_personsWithDeals 6 = .ok (.getfield 15, 3) := by decide +kernel
theorem dX10_personsWithDeals_9 : decode cX10_personsWithDeals 9 = .ok (.if_icmp .ge 29, 3) := by decide +kernel
theorem dX10_personsWithDeals_12 : decode cX10_personsWithDeals 12 = .ok (.iload_n 1, 1) := by decide +kernel
theorem dX10_personsWithDeals_13 : decode cX10_personsWithDeals 13 = .ok (.iconst 1, 1) := by decide +kernel
theorem dX10_personsWithDeals_14 : decode cX10_personsWithDeals 14 = .ok (.aload_n 0, 1) := by decide +kernel
theorem dX10_personsWithDeals_15 : decode cX10_personsWithDeals 15 = .ok (.getfield 41, 3) := by decide +kernel
theorem dX10_personsWithDeals_18 : decode cX10_personsWithDeals 18 = .ok (.iload_n 2, 1) := by decide +kernel
theorem dX10_personsWithDeals_19 : decode cX10_personsWithDeals 19 = .ok (.iaload, 1) := by decide +kernel
theorem dX10_personsWithDeals_20 : decode cX10_personsWithDeals 20 = .ok (.ishl, 1) := by decide +kernel
theorem dX10_personsWithDeals_21 : decode cX10_personsWithDeals 21 = .ok (.iconst 1, 1) := by decide +kernel
theorem dX10_personsWithDeals_22 : decode cX10_personsWithDeals 22 = .ok (.aload_n 0, 1) := by decide +kernel
theorem dX10_personsWithDeals_23 : decode cX10_personsWithDeals 23 = .ok (.getfield 44, 3) := by decide +kernel
theorem dX10_personsWithDeals_26 : decode cX10_personsWithDeals 26 = .ok (.iload_n 2, 1) := by decide +kernel
theorem dX10_personsWithDeals_27 : decode cX10_personsWithDeals 27 = .ok (.iaload, 1) := by decide +kernel
theorem dX10_personsWithDeals_28 : decode cX10_personsWithDeals 28 = .ok (.ishl, 1) := by decide +kernel
theorem dX10_personsWithDeals_29 : decode cX10_personsWithDeals 29 = .ok (.ior, 1) := by decide +kernel
theorem dX10_personsWithDeals_30 : decode cX10_personsWithDeals 30 = .ok (.ior, 1) := by decide +kernel
theorem dX10_personsWithDeals_31 : decode cX10_personsWithDeals 31 = .ok (.istore_n 1, 1) := by decide +kernel
theorem dX10_personsWithDeals_32 : decode cX10_personsWithDeals 32 = .ok (.iinc 2 1, 3) := by decide +kernel
theorem dX10_personsWithDeals_35 : decode cX10_personsWithDeals 35 = .ok (.goto (-31), 3) := by decide +kernel
theorem dX10_personsWithDeals_38 : decode cX10_personsWithDeals 38 = .ok (.iload_n 1, 1) := by decide +kernel
theorem dX10_personsWithDeals_39 : decode cX10_personsWithDeals 39 = .ok (.ireturn, 1) := by decide +kernel
theorem dX10_allServed_0 : decode cX10_allServed 0 = .ok (.iload_n 1, 1) := by decide +kernel
theorem dX10_allServed_1 : decode cX10_allServed 1 = .ok (.istore_n 3, 1) := by decide +kernel
theorem dX10_allServed_2 : decode cX10_allServed 2 = .ok (.iconst 0, 1) := by decide +kernel
theorem dX10_allServed_3 : decode cX10_allServed 3 = .ok (.istore 4, 2) := by decide +kernel
theorem dX10_allServed_5 : decode cX10_allServed 5 = .ok (.iload 4, 2) := by decide +kernel
theorem dX10_allServed_7 : decode cX10_allServed 7 = .ok (.aload_n 0, 1) := by decide +kernel
theorem dX10_allServed_8 : decode cX10_allServed 8 = .ok (.getfield 15, 3) := by decide +kernel
theorem dX10_allServed_11 : decode cX10_allServed 11 = .ok (.if_icmp .ge 74, 3) := by decide +kernel
theorem dX10_allServed_14 : decode cX10_allServed 14 = .ok (.iload_n 1, 1) := by decide +kernel
theorem dX10_allServed_15 : decode cX10_allServed 15 = .ok (.aload_n 0, 1) := by decide +kernel
theorem dX10_allServed_16 : decode cX10_allServed 16 = .ok (.getfield 41, 3) := by decide +kernel
theorem dX10_allServed_19 : decode cX10_allServed 19 = .ok (.iload 4, 2) := by decide +kernel
