theorem dX10_allServed_21 : decode cX10_allServed 21 = .ok (.iaload, 1) := by decide +kernel
theorem dX10_allServed_22 : decode cX10_allServed 22 = .ok (.ishr, 1) := by decide +kernel
theorem dX10_allServed_23 : decode cX10_allServed 23 = .ok (.iconst 1, 1) := by decide +kernel
theorem dX10_allServed_24 : decode cX10_allServed 24 = .ok (.iand, 1) := by decide +kernel
theorem dX10_allServed_25 : decode cX10_allServed 25 = .ok (.iconst 1, 1) := by decide +kernel
theorem dX10_allServed_26 : decode cX10_allServed 26 = .ok (.if_icmp .ne 15, 3) := by decide +kernel
theorem dX10_allServed_29 : decode cX10_allServed 29 = .ok (.iload_n 3, 1) := by decide +kernel
theorem dX10_allServed_30 : decode cX10_allServed 30 = .ok (.iconst 1, 1) := by decide +kernel
theorem dX10_allServed_31 : decode cX10_allServed 31 = .ok (.aload_n 0, 1) := by decide +kernel
theorem dX10_allServed_32 : decode cX10_allServed 32 = .ok (.getfield 44, 3) := by decide +kernel
theorem dX10_allServed_35 : decode cX10_allServed 35 = .ok (.iload 4, 2) := by decide +kernel
theorem dX10_allServed_37 : decode cX10_allServed 37 = .ok (.iaload, 1) := by decide +kernel
theorem dX10_allServed_38 : decode cX10_allServed 38 = .ok (.ishl, 1) := by decide +kernel
theorem dX10_allServed_39 : decode cX10_allServed 39 = .ok (.ior, 1) := by decide +kernel
theorem dX10_allServed_40 : decode cX10_allServed 40 = .ok (.istore_n 3, 1) := by decide +kernel
theorem dX10_allServed_41 : decode cX10_allServed 41 = .ok (.aload_n 0, 1) := by decide +kernel
theorem dX10_allServed_42 : decode cX10_allServed 42 = .ok (.getfield 56, 3) := by decide +kernel
theorem dX10_allServed_45 : decode cX10_allServed 45 = .ok (.iload 4, 2) := by decide +kernel
theorem dX10_allServed_47 : decode cX10_allServed 47 = .ok (.iaload, 1) := by decide +kernel
theorem dX10_allServed_48 : decode cX10_allServed 48 = .ok (.iconst 1, 1) := by decide +kernel
theorem dX10_allServed_49 : decode cX10_allServed 49 = .ok (.if_icmp .ne 30, 3) := by decide +kernel
theorem dX10_allServed_52 : decode cX10_allServed 52 = .ok (.iload_n 1, 1) := by decide +kernel
theorem dX10_allServed_53 : decode cX10_allServed 53 = .ok (.aload_n 0, 1) := by decide +kernel
theorem dX10_allServed_54 : decode cX10_allServed 54 = .ok (.getfield 44, 3) := by decide +kernel
theorem dX10_allServed_57 : decode cX10_allServed 57 = .ok (.iload 4, 2) := by decide +kernel
theorem dX10_allServed_59 : decode cX10_allServed 59 = .ok (.iaload, 1) := by decide +kernel
theorem dX10_allServed_60 : decode cX10_allServed 60 = .ok (.ishr, 1) := by decide +kernel
theorem dX10_allServed_61 : decode cX10_allServed 61 = .ok (.iconst 1, 1) := by decide +kernel
theorem dX10_allServed_62 : decode cX10_allServed 62 = .ok (.iand, 1) := by decide +kernel
theorem dX10_allServed_63 : decode cX10_allServed 63 = .ok (.iconst 1, 1) := by decide +kernel
theorem dX10_allServed_64 : decode cX10_allServed 64 = .ok (.if_icmp .ne 15, 3) := by decide +kernel
theorem dX10_allServed_67 : decode cX10_allServed 67 = .ok (.iload_n 3, 1) := by decide +kernel
theorem dX10_allServed_68 : decode cX10_allServed 68 = .ok (.iconst 1, 1) := by decide +kernel
theorem dX10_allServed_69 : decode cX10_allServed 69 = .ok (.aload_n 0, 1) := by decide +kernel
theorem dX10_allServed_70 : decode cX10_allServed 70 = .ok (.getfield 41, 3) := by decide +kernel
theorem dX10_allServed_73 : decode cX10_allServed 73 = .ok (.iload 4, 2) := by decide +kernel
theorem dX10_allServed_75 : decode cX10_allServed 75 = .ok (.iaload, 1) := by decide +kernel
theorem dX10_allServed_76 : decode cX10_allServed 76 = .ok (.ishl, 1) := by decide +kernel
theorem dX10_allServed_77 : decode cX10_allServed 77 = .ok (.ior, 1) := by decide +kernel
theorem dX10_allServed_78 : decode cX10_allServed 78 = .ok (.istore_n 3, 1) := by decide +kernel
theorem dX10_allServed_79 : decode cX10_allServed 79 = .ok (.iinc 4 1, 3) := by decide +kernel
theorem dX10_allServed_82 : decode cX10_allServed 82 = .ok (.goto (-77), 3) := by decide +kernel
theorem dX10_allServed_85 : decode cX10_allServed 85 = .ok (.iload_n 2, 1) := by decide +kernel
theorem dX10_allServed_86 : decode cX10_allServed 86 = .ok (.iload_n 3, 1) := by decide +kernel
theorem dX10_allServed_87 : decode cX10_allServed 87 = .ok (.iconst (-1), 1) := by decide +kernel
theorem dX10_allServed_88 : decode cX10_allServed 88 = .ok (.ixor, 1) := by decide +kernel
theorem dX10_allServed_89 : decode cX10_allServed 89 = .ok (.iand, 1) := by decide +kernel
theorem dX10_allServed_90 : decode cX10_allServed 90 = .ok (.ifCond .ne 7, 3) := by decide +kernel
theorem dX10_allServed_93 : decode cX10_allServed 93 = .ok (.iconst 1, 1) := by decide +kernel
theorem dX10_allServed_94 : decode cX10_allServed 94 = .ok (.goto 4, 3) := by decide +kernel
theorem dX10_allServed_97 : decode cX10_allServed 97 = .ok (.iconst 0, 1) := by decide +kernel
theorem dX10_allServed_98 : decode cX10_allServed 98 = .ok (.ireturn, 1) := by decide +kernel
theorem dX11_init_0 : decode cX11_init 0 = .ok (.aload_n 0, 1) := by decide +kernel
theorem dX11_init_1 : decode cX11_init 1 = .ok (.invokespecial 3, 3) := by decide +kernel
theorem dX11_init_4 : decode cX11_init 4 = .ok (.aload_n 0, 1) := by decide +kernel
theorem dX11_init_5 : decode cX11_init 5 = .ok (.new 9, 3) := by decide +kernel
theorem dX11_init_8 : decode cX11_init 8 = .ok (.dup, 1) := by decide +kernel
theorem dX11_init_9 : decode cX11_init 9 = .ok (.invokespecial 11, 3) := by decide +kernel
theorem dX11_init_12 : decode cX11_init 12 = .ok (.putfield 12, 3) := by decide +kernel
theorem dX11_init_15 : decode cX11_init 15 = .ok (.aload_n 0, 1) := by decide +kernel
theorem dX11_init_16 : decode cX11_init 16 = .ok (.new 16, 3) := by decide +kernel
theorem dX11_init_19 : decode cX11_init 19 = .ok (.dup, 1) := by decide +kernel
theorem dX11_init_20 : decode cX11_init 20 = .ok (.aload_n 0, 1) := by decide +kernel
theorem dX11_init_21 : decode cX11_init 21 = .ok (.getfield 12, 3) := by decide +kernel
theorem dX11_init_24 : decode cX11_init 24 = .ok (.invokespecial 18, 3) := by decide +kernel
theorem dX11_init_27 : decode cX11_init 27 = .ok (.putfield 21, 3) := by decide +kernel
theorem dX11_init_30 : decode cX11_init 30 = .ok (.aload_n 0, 1) := by decide +kernel
theorem dX11_init_31 : decode cX11_init 31 = .ok (.new 25, 3) := by decide +kernel
theorem dX11_init_34 : decode cX11_init 34 = .ok (.dup, 1) := by decide +kernel
theorem dX11_init_35 : decode cX11_init 35 = .ok (.invokespecial 27, 3) := by decide +kernel
theorem dX11_init_38 : decode cX11_init 38 = .ok (.putfield 28, 3) := by decide +kernel
theorem dX11_init_41 : decode cX11_init 41 = .ok (.aload_n 0, 1) := by decide +kernel
theorem dX11_init_42 : decode cX11_init 42 = .ok (.new 32, 3) := by decide +kernel
theorem dX11_init_45 : decode cX11_init 45 = .ok (.dup, 1) := by decide +kernel
theorem dX11_init_46 : decode cX11_init 46 = .ok (.invokespecial 34, 3) := by decide +kernel
theorem dX11_init_49 : decode cX11_init 49 = .ok (.putfield 35, 3) := by decide +kernel
theorem dX11_init_52 : decode cX11_init 52 = .ok (.aload_n 0, 1) := by decide +kernel
theorem dX11_init_53 : decode cX11_init 53 = .ok (.new 39, 3) := by decide +kernel
theorem dX11_init_56 : decode cX11_init 56 = .ok (.dup, 1) := by decide +kernel
theorem dX11_init_57 : decode cX11_init 57 = .ok (.invokespecial 41, 3) := by decide +kernel
theorem dX11_init_60 : decode cX11_init 60 = .ok (.putfield 42, 3) := by decide +kernel
theorem dX11_init_63 : decode cX11_init 63 = .ok (.aload_n 0, 1) := by decide +kernel
theorem dX11_init_64 : decode cX11_init 64 = .ok (.new 46, 3) := by decide +kernel
theorem dX11_init_67 : decode cX11_init 67 = .ok (.dup, 1) := by decide +kernel
theorem dX11_init_68 : decode cX11_init 68 = .ok (.invokespecial 48, 3) := by decide +kernel
theorem dX11_init_71 : decode cX11_init 71 = .ok (.putfield 49, 3) := by decide +kernel
theorem dX11_init_74 : decode cX11_init 74 = .ok (.aload_n 0, 1) := by decide +kernel
theorem dX11_init_75 : decode cX11_init 75 = .ok (.new 53, 3) := by decide +kernel
theorem dX11_init_78 : decode cX11_init 78 = .ok (.dup, 1) := by decide +kernel
theorem dX11_init_79 : decode cX11_init 79 = .ok (.invokespecial 55, 3) := by decide +kernel
theorem dX11_init_82 : decode cX11_init 82 = .ok (.putfield 56, 3) := by decide +kernel
theorem dX11_init_85 : decode cX11_init 85 = .ok (.aload_n 0, 1) := by decide +kernel
theorem dX11_init_86 : decode cX11_init 86 = .ok (.new 60, 3) := by decide +kernel
theorem dX11_init_89 : decode cX11_init 89 = .ok (.dup, 1) := by decide +kernel
theorem dX11_init_90 : decode cX11_init 90 = .ok (.invokespecial 62, 3) := by decide +kernel
theorem dX11_init_93 : decode cX11_init 93 = .ok (.putfield 63, 3) := by decide +kernel
theorem dX11_init_96 : decode cX11_init 96 = .ok (.aload_n 0, 1) := by decide +kernel
theorem dX11_init_97 : decode cX11_init 97 = .ok (.new 60, 3) := by decide +kernel
theorem dX11_init_100 : decode cX11_init 100 = .ok (.dup, 1) := by decide +kernel
theorem dX11_init_101 : decode cX11_init 101 = .ok (.invokespecial 62, 3) := by decide +kernel
theorem dX11_init_104 : decode cX11_init 104 = .ok (.putfield 67, 3) := by decide +kernel
theorem dX11_init_107 : decode cX11_init 107 = .ok (.aload_n 0, 1) := by decide +kernel
theorem dX11_init_108 : decode cX11_init 108 = .ok (.new 60, 3) := by decide +kernel
theorem dX11_init_111 : decode cX11_init 111 = .ok (.dup, 1) := by decide +kernel
theorem dX11_init_112 : decode cX11_init 112 = .ok (.invokespecial 62, 3) := by decide +kernel
theorem dX11_init_115 : decode cX11_init 115 = .ok (.putfield 70, 3) := by decide +kernel
theorem dX11_init_118 : decode cX11_init 118 = .ok (.aload_n 0, 1) := by decide +kernel
theorem dX11_init_119 : decode cX11_init 119 = .ok (.new 73, 3) := by decide +kernel
theorem dX11_init_122 : decode cX11_init 122 = .ok (.dup, 1) := by decide +kernel
theorem dX11_init_123 : decode cX11_init 123 = .ok (.invokespecial 75, 3) := by decide +kernel
theorem dX11_init_126 : decode cX11_init 126 = .ok (.putfield 76, 3) := by decide +kernel
theorem dX11_init_129 : decode cX11_init 129 = .ok (.aload_n 0, 1) := by decide +kernel
theorem dX11_init_130 : decode cX11_init 130 = .ok (.iconst 0, 1) := by decide +kernel
theorem dX11_init_131 : decode cX11_init 131 = .ok (.putfield 80, 3) := by decide +kernel
theorem dX11_init_134 : decode cX11_init 134 = .ok (.aload_n 0, 1) := by decide +kernel
theorem dX11_init_135 : decode cX11_init 135 = .ok (.iconst 0, 1) := by decide +kernel
theorem dX11_init_136 : decode cX11_init 136 = .ok (.putfield 84, 3) := by decide +kernel
theorem dX11_init_139 : decode cX11_init 139 = .ok (.aload_n 0, 1) := by decide +kernel
theorem dX11_init_140 : decode cX11_init 140 = .ok (.iconst (-1), 1) := by decide +kernel
theorem dX11_init_141 : decode cX11_init 141 = .ok (.putfield 87, 3) := by decide +kernel
theorem dX11_init_144 : decode cX11_init 144 = .ok (.return_, 1) := by decide +kernel
theorem dX11_feed_0 : decode cX11_feed 0 = .ok (.aload_n 0, 1) := by decide +kernel
theorem dX11_feed_1 : decode cX11_feed 1 = .ok (.getfield 12, 3) := by decide +kernel
theorem dX11_feed_4 : decode cX11_feed 4 = .ok (.bipush 20, 2) := by decide +kernel
theorem dX11_feed_6 : decode cX11_feed 6 = .ok (.invokevirtual 90, 3) := by decide +kernel
theorem dX11_feed_9 : decode cX11_feed 9 = .ok (.ifCond .ne 5, 3) := by decide +kernel
theorem dX11_feed_12 : decode cX11_feed 12 = .ok (.iconst (-1), 1) := by decide +kernel
theorem dX11_feed_13 : decode cX11_feed 13 = .ok (.ireturn, 1) := by decide +kernel
theorem dX11_feed_14 : decode cX11_feed 14 = .ok (.aload_n 0, 1) := by decide +kernel
theorem dX11_feed_15 : decode cX11_feed 15 = .ok (.getfield 12, 3) := by decide +kernel
theorem dX11_feed_18 : decode cX11_feed 18 = .ok (.iload_n 1, 1) := by decide +kernel
theorem dX11_feed_19 : decode cX11_feed 19 = .ok (.invokevirtual 94, 3) := by decide +kernel
theorem dX11_feed_22 : decode cX11_feed 22 = .ok (.aload_n 0, 1) := by decide +kernel
theorem dX11_feed_23 : decode cX11_feed 23 = .ok (.getfield 12, 3) := by decide +kernel
theorem dX11_feed_26 : decode cX11_feed 26 = .ok (.iload_n 2, 1) := by decide +kernel
theorem dX11_feed_27 : decode cX11_feed 27 = .ok (.invokevirtual 94, 3) := by decide +kernel
theorem dX11_feed_30 : decode cX11_feed 30 = .ok (.aload_n 0, 1) := by decide +kernel
theorem dX11_feed_31 : decode cX11_feed 31 = .ok (.getfield 12, 3) := by decide +kernel
theorem dX11_feed_34 : decode cX11_feed 34 = .ok (.iload_n 3, 1) := by decide +kernel
theorem dX11_feed_35 : decode cX11_feed 35 = .ok (.invokevirtual 94, 3) := by decide +kernel
theorem dX11_feed_38 : decode cX11_feed 38 = .ok (.aload_n 0, 1) := by decide +kernel
theorem dX11_feed_39 : decode cX11_feed 39 = .ok (.getfield 12, 3) := by decide +kernel
theorem dX11_feed_42 : decode cX11_feed 42 = .ok (.iload 4, 2) := by decide +kernel
theorem dX11_feed_44 : decode cX11_feed 44 = .ok (.invokevirtual 94, 3) := by decide +kernel
theorem dX11_feed_47 : decode cX11_feed 47 = .ok (.aload_n 0, 1) := by decide +kernel
theorem dX11_feed_48 : decode cX11_feed 48 = .ok (.getfield 12, 3) := by decide +kernel
theorem dX11_feed_51 : decode cX11_feed 51 = .ok (.iload 5, 2) := by decide +kernel
theorem dX11_feed_53 : decode cX11_feed 53 = .ok (.invokevirtual 94, 3) := by decide +kernel
theorem dX11_feed_56 : decode cX11_feed 56 = .ok (.aload_n 0, 1) := by decide +kernel
theorem dX11_feed_57 : decode cX11_feed 57 = .ok (.getfield 12, 3) := by decide +kernel
theorem dX11_feed_60 : decode cX11_feed 60 = .ok (.getfield 98, 3) := by decide +kernel
theorem dX11_feed_63 : decode cX11_feed 63 = .ok (.ireturn, 1) := by decide +kernel
theorem dX11_end_0 : decode cX11_end 0 = .ok (.iload_n 1, 1) := by decide +kernel
theorem dX11_end_1 : decode cX11_end 1 = .ok (.ifCond .lt 14, 3) := by decide +kernel
theorem dX11_end_4 : decode cX11_end 4 = .ok (.iload_n 1, 1) := by decide +kernel
theorem dX11_end_5 : decode cX11_end 5 = .ok (.aload_n 0, 1) := by decide +kernel
theorem dX11_end_6 : decode cX11_end 6 = .ok (.getfield 12, 3) := by decide +kernel
theorem dX11_end_9 : decode cX11_end 9 = .ok (.getfield 98, 3) := by decide +kernel
theorem dX11_end_12 : decode cX11_end 12 = .ok (.if_icmp .le 5, 3) := by decide +kernel
theorem dX11_end_15 : decode cX11_end 15 = .ok (.iconst 0, 1) := by decide +kernel
theorem dX11_end_16 : decode cX11_end 16 = .ok (.ireturn, 1) := by decide +kernel
theorem dX11_end_17 : decode cX11_end 17 = .ok (.aload_n 0, 1) := by decide +kernel
theorem dX11_end_18 : decode cX11_end 18 = .ok (.getfield 12, 3) := by decide +kernel
theorem dX11_end_21 : decode cX11_end 21 = .ok (.iload_n 1, 1) := by decide +kernel
theorem dX11_end_22 : decode cX11_end 22 = .ok (.invokevirtual 101, 3) := by decide +kernel
theorem dX11_end_25 : decode cX11_end 25 = .ok (.iconst 1, 1) := by decide +kernel
theorem dX11_end_26 : decode cX11_end 26 = .ok (.ireturn, 1) := by decide +kernel
theorem dX11_town_0 : decode cX11_town 0 = .ok (.aload_n 0, 1) := by decide +kernel
theorem dX11_town_1 : decode cX11_town 1 = .ok (.getfield 21, 3) := by decide +kernel
theorem dX11_town_4 : decode cX11_town 4 = .ok (.aload_n 0, 1) := by decide +kernel
theorem dX11_town_5 : decode cX11_town 5 = .ok (.getfield 76, 3) := by decide +kernel
theorem dX11_town_8 : decode cX11_town 8 = .ok (.invokevirtual 104, 3) := by decide +kernel
theorem dX11_town_11 : decode cX11_town 11 = .ok (.istore_n 1, 1) := by decide +kernel
theorem dX11_town_12 : decode cX11_town 12 = .ok (.aload_n 0, 1) := by decide +kernel
theorem dX11_town_13 : decode cX11_town 13 = .ok (.getfield 12, 3) := by decide +kernel
theorem dX11_town_16 : decode cX11_town 16 = .ok (.iconst 0, 1) := by decide +kernel
theorem dX11_town_17 : decode cX11_town 17 = .ok (.invokevirtual 101, 3) := by decide +kernel
theorem dX11_town_20 : decode cX11_town 20 = .ok (.iload_n 1, 1) := by decide +kernel
theorem dX11_town_21 : decode cX11_town 21 = .ok (.ifCond .ne 13, 3) := by decide +kernel
theorem dX11_town_24 : decode cX11_town 24 = .ok (.iconst (-1), 1) := by decide +kernel
theorem dX11_town_25 : decode cX11_town 25 = .ok (.aload_n 0, 1) := by decide +kernel
theorem dX11_town_26 : decode cX11_town 26 = .ok (.getfield 21, 3) := by decide +kernel
theorem dX11_town_29 : decode cX11_town 29 = .ok (.getfield 108, 3) := by decide +kernel
theorem dX11_town_32 : decode cX11_town 32 = .ok (.isub, 1) := by decide +kernel
theorem dX11_town_33 : decode cX11_town 33 = .ok (.ireturn, 1) := by decide +kernel
theorem dX11_town_34 : decode cX11_town 34 = .ok (.aload_n 0, 1) := by decide +kernel
theorem dX11_town_35 : decode cX11_town 35 = .ok (.getfield 63, 3) := by decide +kernel
theorem dX11_town_38 : decode cX11_town 38 = .ok (.getfield 111, 3) := by decide +kernel
theorem dX11_town_41 : decode cX11_town 41 = .ok (.astore_n 2, 1) := by decide +kernel
theorem dX11_town_42 : decode cX11_town 42 = .ok (.aload_n 0, 1) := by decide +kernel
theorem dX11_town_43 : decode cX11_town 43 = .ok (.getfield 63, 3) := by decide +kernel
theorem dX11_town_46 : decode cX11_town 46 = .ok (.aload_n 0, 1) := by decide +kernel
theorem dX11_town_47 : decode cX11_town 47 = .ok (.getfield 76, 3) := by decide +kernel
theorem dX11_town_50 : decode cX11_town 50 = .ok (.putfield 111, 3) := by decide +kernel
theorem dX11_town_53 : decode cX11_town 53 = .ok (.aload_n 0, 1) := by decide +kernel
theorem dX11_town_54 : decode cX11_town 54 = .ok (.aload_n 2, 1) := by decide +kernel
theorem dX11_town_55 : decode cX11_town 55 = .ok (.putfield 76, 3) := by decide +kernel
theorem dX11_town_58 : decode cX11_town 58 = .ok (.aload_n 0, 1) := by decide +kernel
theorem dX11_town_59 : decode cX11_town 59 = .ok (.getfield 63, 3) := by decide +kernel
theorem dX11_town_62 : decode cX11_town 62 = .ok (.getfield 114, 3) := by decide +kernel
theorem dX11_town_65 : decode cX11_town 65 = .ok (.invokevirtual 118, 3) := by decide +kernel
theorem dX11_town_68 : decode cX11_town 68 = .ok (.aload_n 0, 1) := by decide +kernel
theorem dX11_town_69 : decode cX11_town 69 = .ok (.getfield 21, 3) := by decide +kernel
theorem dX11_town_72 : decode cX11_town 72 = .ok (.getfield 123, 3) := by decide +kernel
theorem dX11_town_75 : decode cX11_town 75 = .ok (.ireturn, 1) := by decide +kernel
theorem dX11_fault_0 : decode cX11_fault 0 = .ok (.aload_n 0, 1) := by decide +kernel
theorem dX11_fault_1 : decode cX11_fault 1 = .ok (.getfield 21, 3) := by decide +kernel
theorem dX11_fault_4 : decode cX11_fault 4 = .ok (.getfield 126, 3) := by decide +kernel
theorem dX11_fault_7 : decode cX11_fault 7 = .ok (.ireturn, 1) := by decide +kernel
theorem dX11_person_0 : decode cX11_person 0 = .ok (.aload_n 0, 1) := by decide +kernel
theorem dX11_person_1 : decode cX11_person 1 = .ok (.getfield 63, 3) := by decide +kernel
theorem dX11_person_4 : decode cX11_person 4 = .ok (.getfield 111, 3) := by decide +kernel
theorem dX11_person_7 : decode cX11_person 7 = .ok (.astore_n 3, 1) := by decide +kernel
theorem dX11_person_8 : decode cX11_person 8 = .ok (.aload_n 3, 1) := by decide +kernel
theorem dX11_person_9 : decode cX11_person 9 = .ok (.iload_n 1, 1) := by decide +kernel
theorem dX11_person_10 : decode cX11_person 10 = .ok (.invokevirtual 129, 3) := by decide +kernel
theorem dX11_person_13 : decode cX11_person 13 = .ok (.ifCond .eq 12, 3) := by decide +kernel
theorem dX11_person_16 : decode cX11_person 16 = .ok (.iload_n 2, 1) := by decide +kernel
theorem dX11_person_17 : decode cX11_person 17 = .ok (.ifCond .lt 8, 3) := by decide +kernel
theorem dX11_person_20 : decode cX11_person 20 = .ok (.iload_n 2, 1) := by decide +kernel
theorem dX11_person_21 : decode cX11_person 21 = .ok (.iconst 3, 1) := by decide +kernel
theorem dX11_person_22 : decode cX11_person 22 = .ok (.if_icmp .le 13, 3) := by decide +kernel
theorem dX11_person_25 : decode cX11_person 25 = .ok (.new 132, 3) := by decide +kernel
theorem dX11_person_28 : decode cX11_person 28 = .ok (.dup, 1) := by decide +kernel
theorem dX11_person_29 : decode cX11_person 29 = .ok (.ldc 134, 2) := by decide +kernel
theorem dX11_person_31 : decode cX11_person 31 = .ok (.invokespecial 136, 3) := by decide +kernel
theorem dX11_person_34 : decode cX11_person 34 = .ok (.athrow, 1) := by decide +kernel
theorem dX11_person_35 : decode cX11_person 35 = .ok (.iload_n 2, 1) := by decide +kernel
theorem dX11_person_36 : decode cX11_person 36 = .ok (.tableswitch 49 0 2 #[28, 35, 42], 28) := by decide +kernel
theorem dX11_person_64 : decode cX11_person 64 = .ok (.aload_n 3, 1) := by decide +kernel
theorem dX11_person_65 : decode cX11_person 65 = .ok (.getfield 139, 3) := by decide +kernel
theorem dX11_person_68 : decode cX11_person 68 = .ok (.iload_n 1, 1) := by decide +kernel
theorem dX11_person_69 : decode cX11_person 69 = .ok (.iaload, 1) := by decide +kernel
theorem dX11_person_70 : decode cX11_person 70 = .ok (.ireturn, 1) := by decide +kernel
theorem dX11_person_71 : decode cX11_person 71 = .ok (.aload_n 3, 1) := by decide +kernel
theorem dX11_person_72 : decode cX11_person 72 = .ok (.getfield 143, 3) := by decide +kernel
theorem dX11_person_75 : decode cX11_person 75 = .ok (.iload_n 1, 1) := by decide +kernel
theorem dX11_person_76 : decode cX11_person 76 = .ok (.iaload, 1) := by decide +kernel
theorem dX11_person_77 : decode cX11_person 77 = .ok (.ireturn, 1) := by decide +kernel
theorem dX11_person_78 : decode cX11_person 78 = .ok (.aload_n 3, 1) := by decide +kernel
theorem dX11_person_79 : decode cX11_person 79 = .ok (.getfield 146, 3) := by decide +kernel
theorem dX11_person_82 : decode cX11_person 82 = .ok (.iload_n 1, 1) := by decide +kernel
theorem dX11_person_83 : decode cX11_person 83 = .ok (.iaload, 1) := by decide +kernel
theorem dX11_person_84 : decode cX11_person 84 = .ok (.ireturn, 1) := by decide +kernel
theorem dX11_person_85 : decode cX11_person 85 = .ok (.aload_n 3, 1) := by decide +kernel
theorem dX11_person_86 : decode cX11_person 86 = .ok (.getfield 149, 3) := by decide +kernel
theorem dX11_person_89 : decode cX11_person 89 = .ok (.iload_n 1, 1) := by decide +kernel
theorem dX11_person_90 : decode cX11_person 90 = .ok (.ishr, 1) := by decide +kernel
theorem dX11_person_91 : decode cX11_person 91 = .ok (.iconst 1, 1) := by decide +kernel
theorem dX11_person_92 : decode cX11_person 92 = .ok (.iand, 1) := by decide +kernel
theorem dX11_person_93 : decode cX11_person 93 = .ok (.ireturn, 1) := by decide +kernel
theorem dX11_deal_0 : decode cX11_deal 0 = .ok (.aload_n 0, 1) := by decide +kernel
theorem dX11_deal_1 : decode cX11_deal 1 = .ok (.getfield 63, 3) := by decide +kernel
theorem dX11_deal_4 : decode cX11_deal 4 = .ok (.getfield 111, 3) := by decide +kernel
theorem dX11_deal_7 : decode cX11_deal 7 = .ok (.astore_n 3, 1) := by decide +kernel
theorem dX11_deal_8 : decode cX11_deal 8 = .ok (.aload_n 3, 1) := by decide +kernel
theorem dX11_deal_9 : decode cX11_deal 9 = .ok (.iload_n 1, 1) := by decide +kernel
theorem dX11_deal_10 : decode cX11_deal 10 = .ok (.invokevirtual 152, 3) := by decide +kernel
theorem dX11_deal_13 : decode cX11_deal 13 = .ok (.ifCond .eq 13, 3) := by decide +kernel
theorem dX11_deal_16 : decode cX11_deal 16 = .ok (.iload_n 2, 1) := by decide +kernel
theorem dX11_deal_17 : decode cX11_deal 17 = .ok (.ifCond .lt 9, 3) := by decide +kernel
theorem dX11_deal_20 : decode cX11_deal 20 = .ok (.iload_n 2, 1) := by decide +kernel
theorem dX11_deal_21 : decode cX11_deal 21 = .ok (.bipush 6, 2) := by decide +kernel
theorem dX11_deal_23 : decode cX11_deal 23 = .ok (.if_icmp .le 13, 3) := by decide +kernel
theorem dX11_deal_26 : decode cX11_deal 26 = .ok (.new 132, 3) := by decide +kernel
theorem dX11_deal_29 : decode cX11_deal 29 = .ok (.dup, 1) := by decide +kernel
theorem dX11_deal_30 : decode cX11_deal 30 = .ok (.ldc 155, 2) := by decide +kernel
theorem dX11_deal_32 : decode cX11_deal 32 = .ok (.invokespecial 136, 3) := by decide +kernel
theorem dX11_deal_35 : decode cX11_deal 35 = .ok (.athrow, 1) := by decide +kernel
theorem dX11_deal_36 : decode cX11_deal 36 = .ok (.iload_n 2, 1) := by decide +kernel
theorem dX11_deal_37 : decode cX11_deal 37 = .ok (.tableswitch 81 0 5 #[39, 46, 53, 60, 67, 74], 39) := by decide +kernel
theorem dX11_deal_76 : decode cX11_deal 76 = .ok (.aload_n 3, 1) := by decide +kernel
theorem dX11_deal_77 : decode cX11_deal 77 = .ok (.getfield 157, 3) := by decide +kernel
theorem dX11_deal_80 : decode cX11_deal 80 = .ok (.iload_n 1, 1) := by decide +kernel
theorem dX11_deal_81 : decode cX11_deal 81 = .ok (.iaload, 1) := by decide +kernel
theorem dX11_deal_82 : decode cX11_deal 82 = .ok (.ireturn, 1) := by decide +kernel
theorem dX11_deal_83 : decode cX11_deal 83 = .ok (.aload_n 3, 1) := by decide +kernel
theorem dX11_deal_84 : decode cX11_deal 84 = .ok (.getfield 160, 3) := by decide +kernel
theorem dX11_deal_87 : decode cX11_deal 87 = .ok (.iload_n 1, 1) := by decide +kernel
theorem dX11_deal_88 : decode cX11_deal 88 = .ok (.iaload, 1) := by decide +kernel
theorem dX11_deal_89 : decode cX11_deal 89 = .ok (.ireturn, 1) := by decide +kernel
theorem dX11_deal_90 : decode cX11_deal 90 = .ok (.aload_n 3, 1) := by decide +kernel
theorem dX11_deal_91 : decode cX11_deal 91 = .ok (.getfield 163, 3) := by decide +kernel
theorem dX11_deal_94 : decode cX11_deal 94 = .ok (.iload_n 1, 1) := by decide +kernel
theorem dX11_deal_95 : decode cX11_deal 95 = .ok (.iaload, 1) := by decide +kernel
theorem dX11_deal_96 : decode cX11_deal 96 = .ok (.ireturn, 1) := by decide +kernel
theorem dX11_deal_97 : decode cX11_deal 97 = .ok (.aload_n 3, 1) := by decide +kernel
theorem dX11_deal_98 : decode cX11_deal 98 = .ok (.getfield 166, 3) := by decide +kernel
theorem dX11_deal_101 : decode cX11_deal 101 = .ok (.iload_n 1, 1) := by decide +kernel
theorem dX11_deal_102 : decode cX11_deal 102 = .ok (.iaload, 1) := by decide +kernel
theorem dX11_deal_103 : decode cX11_deal 103 = .ok (.ireturn, 1) := by decide +kernel
theorem dX11_deal_104 : decode cX11_deal 104 = .ok (.aload_n 3, 1) := by decide +kernel
theorem dX11_deal_105 : decode cX11_deal 105 = .ok (.getfield 169, 3) := by decide +kernel
theorem dX11_deal_108 : decode cX11_deal 108 = .ok (.iload_n 1, 1) := by decide +kernel
theorem dX11_deal_109 : decode cX11_deal 109 = .ok (.iaload, 1) := by decide +kernel
theorem dX11_deal_110 : decode cX11_deal 110 = .ok (.ireturn, 1) := by decide +kernel
theorem dX11_deal_111 : decode cX11_deal 111 = .ok (.aload_n 3, 1) := by decide +kernel
theorem dX11_deal_112 : decode cX11_deal 112 = .ok (.getfield 172, 3) := by decide +kernel
theorem dX11_deal_115 : decode cX11_deal 115 = .ok (.iload_n 1, 1) := by decide +kernel
theorem dX11_deal_116 : decode cX11_deal 116 = .ok (.iaload, 1) := by decide +kernel
theorem dX11_deal_117 : decode cX11_deal 117 = .ok (.ireturn, 1) := by decide +kernel
theorem dX11_deal_118 : decode cX11_deal 118 = .ok (.aload_n 0, 1) := by decide +kernel
theorem dX11_deal_119 : decode cX11_deal 119 = .ok (.getfield 63, 3) := by decide +kernel
theorem dX11_deal_122 : decode cX11_deal 122 = .ok (.getfield 114, 3) := by decide +kernel
theorem dX11_deal_125 : decode cX11_deal 125 = .ok (.iload_n 1, 1) := by decide +kernel
theorem dX11_deal_126 : decode cX11_deal 126 = .ok (.invokevirtual 175, 3) := by decide +kernel
theorem dX11_deal_129 : decode cX11_deal 129 = .ok (.ireturn, 1) := by decide +kernel
theorem dX11_does_0 : decode cX11_does 0 = .ok (.aload_n 0, 1) := by decide +kernel
theorem dX11_does_1 : decode cX11_does 1 = .ok (.getfield 63, 3) := by decide +kernel
theorem dX11_does_4 : decode cX11_does 4 = .ok (.getfield 111, 3) := by decide +kernel
theorem dX11_does_7 : decode cX11_does 7 = .ok (.astore_n 3, 1) := by decide +kernel
theorem dX11_does_8 : decode cX11_does 8 = .ok (.aload_n 3, 1) := by decide +kernel
theorem dX11_does_9 : decode cX11_does 9 = .ok (.iload_n 1, 1) := by decide +kernel
theorem dX11_does_10 : decode cX11_does 10 = .ok (.invokevirtual 152, 3) := by decide +kernel
theorem dX11_does_13 : decode cX11_does 13 = .ok (.ifCond .eq 12, 3) := by decide +kernel
theorem dX11_does_16 : decode cX11_does 16 = .ok (.iload_n 2, 1) := by decide +kernel
theorem dX11_does_17 : decode cX11_does 17 = .ok (.ifCond .lt 8, 3) := by decide +kernel
theorem dX11_does_20 : decode cX11_does 20 = .ok (.iload_n 2, 1) := by decide +kernel
theorem dX11_does_21 : decode cX11_does 21 = .ok (.iconst 1, 1) := by decide +kernel
theorem dX11_does_22 : decode cX11_does 22 = .ok (.if_icmp .le 5, 3) := by decide +kernel
theorem dX11_does_25 : decode cX11_does 25 = .ok (.iconst (-1), 1) := by decide +kernel
theorem dX11_does_26 : decode cX11_does 26 = .ok (.ireturn, 1) := by decide +kernel
theorem dX11_does_27 : decode cX11_does 27 = .ok (.aload_n 0, 1) := by decide +kernel
theorem dX11_does_28 : decode cX11_does 28 = .ok (.getfield 63, 3) := by decide +kernel
theorem dX11_does_31 : decode cX11_does 31 = .ok (.getfield 114, 3) := by decide +kernel
theorem dX11_does_34 : decode cX11_does 34 = .ok (.aload_n 3, 1) := by decide +kernel
theorem dX11_does_35 : decode cX11_does 35 = .ok (.iload_n 1, 1) := by decide +kernel
theorem dX11_does_36 : decode cX11_does 36 = .ok (.iload_n 2, 1) := by decide +kernel
theorem dX11_does_37 : decode cX11_does 37 = .ok (.iconst 1, 1) := by decide +kernel
theorem dX11_does_38 : decode cX11_does 38 = .ok (.if_icmp .ne 7, 3) := by decide +kernel
theorem dX11_does_41 : decode cX11_does 41 = .ok (.iconst 2, 1) := by decide +kernel
theorem dX11_does_42 : decode cX11_does 42 = .ok (.goto 4, 3) := by decide +kernel
theorem dX11_does_45 : decode cX11_does 45 = .ok (.iconst 1, 1) := by decide +kernel
theorem dX11_does_46 : decode cX11_does 46 = .ok (.invokevirtual 179, 3) := by decide +kernel
theorem dX11_does_49 : decode cX11_does 49 = .ok (.ireturn, 1) := by decide +kernel
theorem dX11_undo_0 : decode cX11_undo 0 = .ok (.aload_n 0, 1) := by decide +kernel
theorem dX11_undo_1 : decode cX11_undo 1 = .ok (.getfield 63, 3) := by decide +kernel
theorem dX11_undo_4 : decode cX11_undo 4 = .ok (.getfield 114, 3) := by decide +kernel
theorem dX11_undo_7 : decode cX11_undo 7 = .ok (.getfield 183, 3) := by decide +kernel
theorem dX11_undo_10 : decode cX11_undo 10 = .ok (.ifCond .ne 5, 3) := by decide +kernel
theorem dX11_undo_13 : decode cX11_undo 13 = .ok (.iconst (-1), 1) := by decide +kernel
theorem dX11_undo_14 : decode cX11_undo 14 = .ok (.ireturn, 1) := by decide +kernel
theorem dX11_undo_15 : decode cX11_undo 15 = .ok (.aload_n 0, 1) := by decide +kernel
theorem dX11_undo_16 : decode cX11_undo 16 = .ok (.getfield 63, 3) := by decide +kernel
theorem dX11_undo_19 : decode cX11_undo 19 = .ok (.getfield 114, 3) := by decide +kernel
theorem dX11_undo_22 : decode cX11_undo 22 = .ok (.invokevirtual 184, 3) := by decide +kernel
theorem dX11_undo_25 : decode cX11_undo 25 = .ok (.aload_n 0, 1) := by decide +kernel
theorem dX11_undo_26 : decode cX11_undo 26 = .ok (.getfield 63, 3) := by decide +kernel
theorem dX11_undo_29 : decode cX11_undo 29 = .ok (.getfield 114, 3) := by decide +kernel
theorem dX11_undo_32 : decode cX11_undo 32 = .ok (.getfield 183, 3) := by decide +kernel
theorem dX11_undo_35 : decode cX11_undo 35 = .ok (.ireturn, 1) := by decide +kernel
theorem dX11_book_0 : decode cX11_book 0 = .ok (.aload_n 0, 1) := by decide +kernel
theorem dX11_book_1 : decode cX11_book 1 = .ok (.iconst 0, 1) := by decide +kernel
theorem dX11_book_2 : decode cX11_book 2 = .ok (.putfield 80, 3) := by decide +kernel
theorem dX11_book_5 : decode cX11_book 5 = .ok (.aload_n 0, 1) := by decide +kernel
theorem dX11_book_6 : decode cX11_book 6 = .ok (.getfield 21, 3) := by decide +kernel
theorem dX11_book_9 : decode cX11_book 9 = .ok (.aload_n 0, 1) := by decide +kernel
theorem dX11_book_10 : decode cX11_book 10 = .ok (.getfield 63, 3) := by decide +kernel
theorem dX11_book_13 : decode cX11_book 13 = .ok (.getfield 111, 3) := by decide +kernel
theorem dX11_book_16 : decode cX11_book 16 = .ok (.invokevirtual 187, 3) := by decide +kernel
theorem dX11_book_19 : decode cX11_book 19 = .ok (.istore_n 1, 1) := by decide +kernel
theorem dX11_book_20 : decode cX11_book 20 = .ok (.aload_n 0, 1) := by decide +kernel
theorem dX11_book_21 : decode cX11_book 21 = .ok (.getfield 12, 3) := by decide +kernel
theorem dX11_book_24 : decode cX11_book 24 = .ok (.iconst 0, 1) := by decide +kernel
theorem dX11_book_25 : decode cX11_book 25 = .ok (.invokevirtual 101, 3) := by decide +kernel
theorem dX11_book_28 : decode cX11_book 28 = .ok (.iload_n 1, 1) := by decide +kernel
theorem dX11_book_29 : decode cX11_book 29 = .ok (.ifCond .ne 14, 3) := by decide +kernel
theorem dX11_book_32 : decode cX11_book 32 = .ok (.bipush (-2), 2) := by decide +kernel
theorem dX11_book_34 : decode cX11_book 34 = .ok (.aload_n 0, 1) := by decide +kernel
theorem dX11_book_35 : decode cX11_book 35 = .ok (.getfield 21, 3) := by decide +kernel
theorem dX11_book_38 : decode cX11_book 38 = .ok (.getfield 108, 3) := by decide +kernel
theorem dX11_book_41 : decode cX11_book 41 = .ok (.isub, 1) := by decide +kernel
theorem dX11_book_42 : decode cX11_book 42 = .ok (.ireturn, 1) := by decide +kernel
theorem dX11_book_43 : decode cX11_book 43 = .ok (.aload_n 0, 1) := by decide +kernel
theorem dX11_book_44 : decode cX11_book 44 = .ok (.getfield 63, 3) := by decide +kernel
theorem dX11_book_47 : decode cX11_book 47 = .ok (.getfield 114, 3) := by decide +kernel
theorem dX11_book_50 : decode cX11_book 50 = .ok (.invokevirtual 118, 3) := by decide +kernel
theorem dX11_book_53 : decode cX11_book 53 = .ok (.iconst 0, 1) := by decide +kernel
theorem dX11_book_54 : decode cX11_book 54 = .ok (.istore_n 2, 1) := by decide +kernel
theorem dX11_book_55 : decode cX11_book 55 = .ok (.iload_n 2, 1) := by decide +kernel
theorem dX11_book_56 : decode cX11_book 56 = .ok (.aload_n 0, 1) := by decide +kernel
theorem dX11_book_57 : decode cX11_book 57 = .ok (.getfield 21, 3) := by decide +kernel
theorem dX11_book_60 : decode cX11_book 60 = .ok (.getfield 123, 3) := by decide +kernel
theorem dX11_book_63 : decode cX11_book 63 = .ok (.if_icmp .ge 57, 3) := by decide +kernel
theorem dX11_book_66 : decode cX11_book 66 = .ok (.aload_n 0, 1) := by decide +kernel
theorem dX11_book_67 : decode cX11_book 67 = .ok (.aload_n 0, 1) := by decide +kernel
theorem dX11_book_68 : decode cX11_book 68 = .ok (.getfield 63, 3) := by decide +kernel
theorem dX11_book_71 : decode cX11_book 71 = .ok (.getfield 114, 3) := by decide +kernel
theorem dX11_book_74 : decode cX11_book 74 = .ok (.aload_n 0, 1) := by decide +kernel
theorem dX11_book_75 : decode cX11_book 75 = .ok (.getfield 63, 3) := by decide +kernel
theorem dX11_book_78 : decode cX11_book 78 = .ok (.getfield 111, 3) := by decide +kernel
theorem dX11_book_81 : decode cX11_book 81 = .ok (.aload_n 0, 1) := by decide +kernel
theorem dX11_book_82 : decode cX11_book 82 = .ok (.getfield 21, 3) := by decide +kernel
theorem dX11_book_85 : decode cX11_book 85 = .ok (.getfield 190, 3) := by decide +kernel
theorem dX11_book_88 : decode cX11_book 88 = .ok (.iload_n 2, 1) := by decide +kernel
theorem dX11_book_89 : decode cX11_book 89 = .ok (.iaload, 1) := by decide +kernel
theorem dX11_book_90 : decode cX11_book 90 = .ok (.aload_n 0, 1) := by decide +kernel
theorem dX11_book_91 : decode cX11_book 91 = .ok (.getfield 21, 3) := by decide +kernel
theorem dX11_book_94 : decode cX11_book 94 = .ok (.getfield 193, 3) := by decide +kernel
theorem dX11_book_97 : decode cX11_book 97 = .ok (.iload_n 2, 1) := by decide +kernel
theorem dX11_book_98 : decode cX11_book 98 = .ok (.iaload, 1) := by decide +kernel
theorem dX11_book_99 : decode cX11_book 99 = .ok (.invokevirtual 179, 3) := by decide +kernel
theorem dX11_book_102 : decode cX11_book 102 = .ok (.putfield 80, 3) := by decide +kernel
theorem dX11_book_105 : decode cX11_book 105 = .ok (.aload_n 0, 1) := by decide +kernel
theorem dX11_book_106 : decode cX11_book 106 = .ok (.getfield 80, 3) := by decide +kernel
theorem dX11_book_109 : decode cX11_book 109 = .ok (.ifCond .eq 5, 3) := by decide +kernel
theorem dX11_book_112 : decode cX11_book 112 = .ok (.iload_n 2, 1) := by decide +kernel
theorem dX11_book_113 : decode cX11_book 113 = .ok (.ireturn, 1) := by decide +kernel
theorem dX11_book_114 : decode cX11_book 114 = .ok (.iinc 2 1, 3) := by decide +kernel
theorem dX11_book_117 : decode cX11_book 117 = .ok (.goto (-62), 3) := by decide +kernel
theorem dX11_book_120 : decode cX11_book 120 = .ok (.iconst (-1), 1) := by decide +kernel
theorem dX11_book_121 : decode cX11_book 121 = .ok (.ireturn, 1) := by decide +kernel
theorem dX11_why_0 : decode cX11_why 0 = .ok (.aload_n 0, 1) := by decide +kernel
theorem dX11_why_1 : decode cX11_why 1 = .ok (.getfield 80, 3) := by decide +kernel
theorem dX11_why_4 : decode cX11_why 4 = .ok (.ireturn, 1) := by decide +kernel
theorem dX11_is_0 : decode cX11_is 0 = .ok (.aload_n 0, 1) := by decide +kernel
theorem dX11_is_1 : decode cX11_is 1 = .ok (.getfield 63, 3) := by decide +kernel
theorem dX11_is_4 : decode cX11_is 4 = .ok (.getfield 111, 3) := by decide +kernel
theorem dX11_is_7 : decode cX11_is 7 = .ok (.iload_n 1, 1) := by decide +kernel
theorem dX11_is_8 : decode cX11_is 8 = .ok (.invokevirtual 129, 3) := by decide +kernel
theorem dX11_is_11 : decode cX11_is 11 = .ok (.ifCond .eq 10, 3) := by decide +kernel
theorem dX11_is_14 : decode cX11_is 14 = .ok (.iload_n 2, 1) := by decide +kernel
theorem dX11_is_15 : decode cX11_is 15 = .ok (.invokestatic 196, 3) := by decide +kernel
theorem dX11_is_18 : decode cX11_is 18 = .ok (.ifCond .ne 5, 3) := by decide +kernel
theorem dX11_is_21 : decode cX11_is 21 = .ok (.iconst (-1), 1) := by decide +kernel
theorem dX11_is_22 : decode cX11_is 22 = .ok (.ireturn, 1) := by decide +kernel
theorem dX11_is_23 : decode cX11_is 23 = .ok (.aload_n 0, 1) := by decide +kernel
theorem dX11_is_24 : decode cX11_is 24 = .ok (.getfield 63, 3) := by decide +kernel
theorem dX11_is_27 : decode cX11_is 27 = .ok (.getfield 114, 3) := by decide +kernel
theorem dX11_is_30 : decode cX11_is 30 = .ok (.aload_n 0, 1) := by decide +kernel
theorem dX11_is_31 : decode cX11_is 31 = .ok (.getfield 63, 3) := by decide +kernel
theorem dX11_is_34 : decode cX11_is 34 = .ok (.getfield 111, 3) := by decide +kernel
theorem dX11_is_37 : decode cX11_is 37 = .ok (.iload_n 1, 1) := by decide +kernel
theorem dX11_is_38 : decode cX11_is 38 = .ok (.iload_n 2, 1) := by decide +kernel
theorem dX11_is_39 : decode cX11_is 39 = .ok (.invokevirtual 199, 3) := by decide +kernel
theorem dX11_is_42 : decode cX11_is 42 = .ok (.ireturn, 1) := by decide +kernel
theorem dX11_may_0 : decode cX11_may 0 = .ok (.iload_n 1, 1) := by decide +kernel
theorem dX11_may_1 : decode cX11_may 1 = .ok (.ifCond .lt 8, 3) := by decide +kernel
theorem dX11_may_4 : decode cX11_may 4 = .ok (.iload_n 1, 1) := by decide +kernel
theorem dX11_may_5 : decode cX11_may 5 = .ok (.iconst 1, 1) := by decide +kernel
theorem dX11_may_6 : decode cX11_may 6 = .ok (.if_icmp .le 5, 3) := by decide +kernel
theorem dX11_may_9 : decode cX11_may 9 = .ok (.iconst (-1), 1) := by decide +kernel
theorem dX11_may_10 : decode cX11_may 10 = .ok (.ireturn, 1) := by decide +kernel
theorem dX11_may_11 : decode cX11_may 11 = .ok (.iload_n 1, 1) := by decide +kernel
theorem dX11_may_12 : decode cX11_may 12 = .ok (.iconst 1, 1) := by decide +kernel
theorem dX11_may_13 : decode cX11_may 13 = .ok (.if_icmp .ne 7, 3) := by decide +kernel
theorem dX11_may_16 : decode cX11_may 16 = .ok (.iconst 2, 1) := by decide +kernel
theorem dX11_may_17 : decode cX11_may 17 = .ok (.goto 4, 3) := by decide +kernel
theorem dX11_may_20 : decode cX11_may 20 = .ok (.iconst 1, 1) := by decide +kernel
theorem dX11_may_21 : decode cX11_may 21 = .ok (.istore_n 2, 1) := by decide +kernel
theorem dX11_may_22 : decode cX11_may 22 = .ok (.iconst 0, 1) := by decide +kernel
theorem dX11_may_23 : decode cX11_may 23 = .ok (.istore_n 3, 1) := by decide +kernel
theorem dX11_may_24 : decode cX11_may 24 = .ok (.iconst 0, 1) := by decide +kernel
theorem dX11_may_25 : decode cX11_may 25 = .ok (.istore 4, 2) := by decide +kernel
theorem dX11_may_27 : decode cX11_may 27 = .ok (.iload 4, 2) := by decide +kernel
theorem dX11_may_29 : decode cX11_may 29 = .ok (.aload_n 0, 1) := by decide +kernel
theorem dX11_may_30 : decode cX11_may 30 = .ok (.getfield 63, 3) := by decide +kernel
theorem dX11_may_33 : decode cX11_may 33 = .ok (.getfield 111, 3) := by decide +kernel
theorem dX11_may_36 : decode cX11_may 36 = .ok (.getfield 202, 3) := by decide +kernel
theorem dX11_may_39 : decode cX11_may 39 = .ok (.if_icmp .ge 39, 3) := by decide +kernel
theorem dX11_may_42 : decode cX11_may 42 = .ok (.aload_n 0, 1) := by decide +kernel
theorem dX11_may_43 : decode cX11_may 43 = .ok (.getfield 63, 3) := by decide +kernel
theorem dX11_may_46 : decode cX11_may 46 = .ok (.getfield 114, 3) := by decide +kernel
theorem dX11_may_49 : decode cX11_may 49 = .ok (.aload_n 0, 1) := by decide +kernel
theorem dX11_may_50 : decode cX11_may 50 = .ok (.getfield 63, 3) := by decide +kernel
theorem dX11_may_53 : decode cX11_may 53 = .ok (.getfield 111, 3) := by decide +kernel
theorem dX11_may_56 : decode cX11_may 56 = .ok (.iload 4, 2) := by decide +kernel
theorem dX11_may_58 : decode cX11_may 58 = .ok (.iload_n 2, 1) := by decide +kernel
theorem dX11_may_59 : decode cX11_may 59 = .ok (.invokevirtual 205, 3) := by decide +kernel
theorem dX11_may_62 : decode cX11_may 62 = .ok (.ifCond .ne 10, 3) := by decide +kernel
theorem dX11_may_65 : decode cX11_may 65 = .ok (.iload_n 3, 1) := by decide +kernel
theorem dX11_may_66 : decode cX11_may 66 = .ok (.iconst 1, 1) := by decide +kernel
theorem dX11_may_67 : decode cX11_may 67 = .ok (.iload 4, 2) := by decide +kernel
theorem dX11_may_69 : decode cX11_may 69 = .ok (.ishl, 1) := by decide +kernel
theorem dX11_may_70 : decode cX11_may 70 = .ok (.ior, 1) := by decide +kernel
theorem dX11_may_71 : decode cX11_may 71 = .ok (.istore_n 3, 1) := by decide +kernel
theorem dX11_may_72 : decode cX11_may 72 = .ok (.iinc 4 1, 3) := by decide +kernel
theorem dX11_may_75 : decode cX11_may 75 = .ok (.goto (-48), 3) := by decide +kernel
theorem dX11_may_78 : decode cX11_may 78 = .ok (.iload_n 3, 1) := by decide +kernel
theorem dX11_may_79 : decode cX11_may 79 = .ok (.ireturn, 1) := by decide +kernel
theorem dX11_had_0 : decode cX11_had 0 = .ok (.aload_n 0, 1) := by decide +kernel
theorem dX11_had_1 : decode cX11_had 1 = .ok (.getfield 63, 3) := by decide +kernel
theorem dX11_had_4 : decode cX11_had 4 = .ok (.getfield 111, 3) := by decide +kernel
theorem dX11_had_7 : decode cX11_had 7 = .ok (.iload_n 1, 1) := by decide +kernel
theorem dX11_had_8 : decode cX11_had 8 = .ok (.invokevirtual 129, 3) := by decide +kernel
theorem dX11_had_11 : decode cX11_had 11 = .ok (.ifCond .ne 5, 3) := by decide +kernel
theorem dX11_had_14 : decode cX11_had 14 = .ok (.iconst (-1), 1) := by decide +kernel
theorem dX11_had_15 : decode cX11_had 15 = .ok (.ireturn, 1) := by decide +kernel
theorem dX11_had_16 : decode cX11_had 16 = .ok (.aload_n 0, 1) := by decide +kernel
theorem dX11_had_17 : decode cX11_had 17 = .ok (.getfield 63, 3) := by decide +kernel
theorem dX11_had_20 : decode cX11_had 20 = .ok (.getfield 114, 3) := by decide +kernel
theorem dX11_had_23 : decode cX11_had 23 = .ok (.aload_n 0, 1) := by decide +kernel
theorem dX11_had_24 : decode cX11_had 24 = .ok (.getfield 63, 3) := by decide +kernel
theorem dX11_had_27 : decode cX11_had 27 = .ok (.getfield 111, 3) := by decide +kernel
theorem dX11_had_30 : decode cX11_had 30 = .ok (.iload_n 1, 1) := by decide +kernel
theorem dX11_had_31 : decode cX11_had 31 = .ok (.invokevirtual 208, 3) := by decide +kernel
theorem dX11_had_34 : decode cX11_had 34 = .ok (.ireturn, 1) := by decide +kernel
theorem dX11_gain_0 : decode cX11_gain 0 = .ok (.aload_n 0, 1) := by decide +kernel
theorem dX11_gain_1 : decode cX11_gain 1 = .ok (.getfield 63, 3) := by decide +kernel
theorem dX11_gain_4 : decode cX11_gain 4 = .ok (.getfield 111, 3) := by decide +kernel
theorem dX11_gain_7 : decode cX11_gain 7 = .ok (.iload_n 1, 1) := by decide +kernel
theorem dX11_gain_8 : decode cX11_gain 8 = .ok (.invokevirtual 212, 3) := by decide +kernel
theorem dX11_gain_11 : decode cX11_gain 11 = .ok (.ifCond .ne 5, 3) := by decide +kernel
theorem dX11_gain_14 : decode cX11_gain 14 = .ok (.iconst (-1), 1) := by decide +kernel
theorem dX11_gain_15 : decode cX11_gain 15 = .ok (.ireturn, 1) := by decide +kernel
theorem dX11_gain_16 : decode cX11_gain 16 = .ok (.aload_n 0, 1) := by decide +kernel
theorem dX11_gain_17 : decode cX11_gain 17 = .ok (.getfield 28, 3) := by decide +kernel
theorem dX11_gain_20 : decode cX11_gain 20 = .ok (.aload_n 0, 1) := by decide +kernel
theorem dX11_gain_21 : decode cX11_gain 21 = .ok (.getfield 63, 3) := by decide +kernel
theorem dX11_gain_24 : decode cX11_gain 24 = .ok (.getfield 111, 3) := by decide +kernel
theorem dX11_gain_27 : decode cX11_gain 27 = .ok (.iload_n 1, 1) := by decide +kernel
theorem dX11_gain_28 : decode cX11_gain 28 = .ok (.invokevirtual 215, 3) := by decide +kernel
theorem dX11_gain_31 : decode cX11_gain 31 = .ok (.ireturn, 1) := by decide +kernel
theorem dX11_best_0 : decode cX11_best 0 = .ok (.aload_n 0, 1) := by decide +kernel
theorem dX11_best_1 : decode cX11_best 1 = .ok (.getfield 28, 3) := by decide +kernel
theorem dX11_best_4 : decode cX11_best 4 = .ok (.aload_n 0, 1) := by decide +kernel
theorem dX11_best_5 : decode cX11_best 5 = .ok (.getfield 63, 3) := by decide +kernel
theorem dX11_best_8 : decode cX11_best 8 = .ok (.getfield 111, 3) := by decide +kernel
theorem dX11_best_11 : decode cX11_best 11 = .ok (.aload_n 0, 1) := by decide +kernel
theorem dX11_best_12 : decode cX11_best 12 = .ok (.invokevirtual 218, 3) := by decide +kernel
theorem dX11_best_15 : decode cX11_best 15 = .ok (.invokevirtual 215, 3) := by decide +kernel
theorem dX11_best_18 : decode cX11_best 18 = .ok (.ireturn, 1) := by decide +kernel
theorem dX11_bestParts_0 : decode cX11_bestParts 0 = .ok (.aload_n 0, 1) := by decide +kernel
theorem dX11_bestParts_1 : decode cX11_bestParts 1 = .ok (.invokevirtual 218, 3) := by decide +kernel
theorem dX11_bestParts_4 : decode cX11_bestParts 4 = .ok (.ireturn, 1) := by decide +kernel
theorem dX11_goes_0 : decode cX11_goes 0 = .ok (.aload_n 0, 1) := by decide +kernel
theorem dX11_goes_1 : decode cX11_goes 1 = .ok (.getfield 63, 3) := by decide +kernel
theorem dX11_goes_4 : decode cX11_goes 4 = .ok (.getfield 111, 3) := by decide +kernel
theorem dX11_goes_7 : decode cX11_goes 7 = .ok (.iload_n 1, 1) := by decide +kernel
theorem dX11_goes_8 : decode cX11_goes 8 = .ok (.invokevirtual 212, 3) := by decide +kernel
theorem dX11_goes_11 : decode cX11_goes 11 = .ok (.ifCond .ne 5, 3) := by decide +kernel
theorem dX11_goes_14 : decode cX11_goes 14 = .ok (.iconst (-1), 1) := by decide +kernel
theorem dX11_goes_15 : decode cX11_goes 15 = .ok (.ireturn, 1) := by decide +kernel
theorem dX11_goes_16 : decode cX11_goes 16 = .ok (.iconst 0, 1) := by decide +kernel
theorem dX11_goes_17 : decode cX11_goes 17 = .ok (.istore_n 2, 1) := by decide +kernel
theorem dX11_goes_18 : decode cX11_goes 18 = .ok (.iconst 0, 1) := by decide +kernel
theorem dX11_goes_19 : decode cX11_goes 19 = .ok (.istore_n 3, 1) := by decide +kernel
theorem dX11_goes_20 : decode cX11_goes 20 = .ok (.iload_n 3, 1) := by decide +kernel
theorem dX11_goes_21 : decode cX11_goes 21 = .ok (.aload_n 0, 1) := by decide +kernel
theorem dX11_goes_22 : decode cX11_goes 22 = .ok (.getfield 63, 3) := by decide +kernel
theorem dX11_goes_25 : decode cX11_goes 25 = .ok (.getfield 111, 3) := by decide +kernel
theorem dX11_goes_28 : decode cX11_goes 28 = .ok (.getfield 202, 3) := by decide +kernel
theorem dX11_goes_31 : decode cX11_goes 31 = .ok (.if_icmp .ge 30, 3) := by decide +kernel
theorem dX11_goes_34 : decode cX11_goes 34 = .ok (.aload_n 0, 1) := by decide +kernel
theorem dX11_goes_35 : decode cX11_goes 35 = .ok (.getfield 63, 3) := by decide +kernel
theorem dX11_goes_38 : decode cX11_goes 38 = .ok (.getfield 111, 3) := by decide +kernel
theorem dX11_goes_41 : decode cX11_goes 41 = .ok (.iload_n 3, 1) := by decide +kernel
theorem dX11_goes_42 : decode cX11_goes 42 = .ok (.iload_n 1, 1) := by decide +kernel
theorem dX11_goes_43 : decode cX11_goes 43 = .ok (.invokevirtual 222, 3) := by decide +kernel
theorem dX11_goes_46 : decode cX11_goes 46 = .ok (.ifCond .eq 9, 3) := by decide +kernel
theorem dX11_goes_49 : decode cX11_goes 49 = .ok (.iload_n 2, 1) := by decide +kernel
theorem dX11_goes_50 : decode cX11_goes 50 = .ok (.iconst 1, 1) := by decide +kernel
theorem dX11_goes_51 : decode cX11_goes 51 = .ok (.iload_n 3, 1) := by decide +kernel
theorem dX11_goes_52 : decode cX11_goes 52 = .ok (.ishl, 1) := by decide +kernel
theorem dX11_goes_53 : decode cX11_goes 53 = .ok (.ior, 1) := by decide +kernel
theorem dX11_goes_54 : decode cX11_goes 54 = .ok (.istore_n 2, 1) := by decide +kernel
theorem dX11_goes_55 : decode cX11_goes 55 = .ok (.iinc 3 1, 3) := by decide +kernel
theorem dX11_goes_58 : decode cX11_goes 58 = .ok (.goto (-38), 3) := by decide +kernel
theorem dX11_goes_61 : decode cX11_goes 61 = .ok (.iload_n 2, 1) := by decide +kernel
theorem dX11_goes_62 : decode cX11_goes 62 = .ok (.ireturn, 1) := by decide +kernel
theorem dX11_above_0 : decode cX11_above 0 = .ok (.iconst 0, 1) := by decide +kernel
theorem dX11_above_1 : decode cX11_above 1 = .ok (.istore_n 2, 1) := by decide +kernel
theorem dX11_above_2 : decode cX11_above 2 = .ok (.iconst 0, 1) := by decide +kernel
theorem dX11_above_3 : decode cX11_above 3 = .ok (.istore_n 3, 1) := by decide +kernel
theorem dX11_above_4 : decode cX11_above 4 = .ok (.iload_n 3, 1) := by decide +kernel
theorem dX11_above_5 : decode cX11_above 5 = .ok (.aload_n 0, 1) := by decide +kernel
theorem dX11_above_6 : decode cX11_above 6 = .ok (.getfield 63, 3) := by decide +kernel
theorem dX11_above_9 : decode cX11_above 9 = .ok (.getfield 111, 3) := by decide +kernel
theorem dX11_above_12 : decode cX11_above 12 = .ok (.invokevirtual 226, 3) := by decide +kernel
theorem dX11_above_15 : decode cX11_above 15 = .ok (.if_icmp .ge 31, 3) := by decide +kernel
theorem dX11_above_18 : decode cX11_above 18 = .ok (.aload_n 0, 1) := by decide +kernel
theorem dX11_above_19 : decode cX11_above 19 = .ok (.getfield 28, 3) := by decide +kernel
theorem dX11_above_22 : decode cX11_above 22 = .ok (.aload_n 0, 1) := by decide +kernel
theorem dX11_above_23 : decode cX11_above 23 = .ok (.getfield 63, 3) := by decide +kernel
theorem dX11_above_26 : decode cX11_above 26 = .ok (.getfield 111, 3) := by decide +kernel
theorem dX11_above_29 : decode cX11_above 29 = .ok (.iload_n 3, 1) := by decide +kernel
theorem dX11_above_30 : decode cX11_above 30 = .ok (.invokevirtual 215, 3) := by decide +kernel
theorem dX11_above_33 : decode cX11_above 33 = .ok (.iload_n 1, 1) := by decide +kernel
theorem dX11_above_34 : decode cX11_above 34 = .ok (.if_icmp .lt 6, 3) := by decide +kernel
theorem dX11_above_37 : decode cX11_above 37 = .ok (.iinc 2 1, 3) := by decide +kernel
theorem dX11_above_40 : decode cX11_above 40 = .ok (.iinc 3 1, 3) := by decide +kernel
theorem dX11_above_43 : decode cX11_above 43 = .ok (.goto (-39), 3) := by decide +kernel
theorem dX11_above_46 : decode cX11_above 46 = .ok (.iload_n 2, 1) := by decide +kernel
theorem dX11_above_47 : decode cX11_above 47 = .ok (.ireturn, 1) := by decide +kernel
theorem dX11_price_0 : decode cX11_price 0 = .ok (.aload_n 0, 1) := by decide +kernel
theorem dX11_price_1 : decode cX11_price 1 = .ok (.getfield 63, 3) := by decide +kernel
theorem dX11_price_4 : decode cX11_price 4 = .ok (.getfield 111, 3) := by decide +kernel
theorem dX11_price_7 : decode cX11_price 7 = .ok (.iload_n 1, 1) := by decide +kernel
theorem dX11_price_8 : decode cX11_price 8 = .ok (.invokevirtual 129, 3) := by decide +kernel
theorem dX11_price_11 : decode cX11_price 11 = .ok (.ifCond .eq 17, 3) := by decide +kernel
theorem dX11_price_14 : decode cX11_price 14 = .ok (.aload_n 0, 1) := by decide +kernel
theorem dX11_price_15 : decode cX11_price 15 = .ok (.getfield 63, 3) := by decide +kernel
theorem dX11_price_18 : decode cX11_price 18 = .ok (.getfield 111, 3) := by decide +kernel
theorem dX11_price_21 : decode cX11_price 21 = .ok (.iload_n 2, 1) := by decide +kernel
theorem dX11_price_22 : decode cX11_price 22 = .ok (.invokevirtual 212, 3) := by decide +kernel
theorem dX11_price_25 : decode cX11_price 25 = .ok (.ifCond .ne 5, 3) := by decide +kernel
theorem dX11_price_28 : decode cX11_price 28 = .ok (.iconst (-1), 1) := by decide +kernel
theorem dX11_price_29 : decode cX11_price 29 = .ok (.ireturn, 1) := by decide +kernel
theorem dX11_price_30 : decode cX11_price 30 = .ok (.aload_n 0, 1) := by decide +kernel
theorem dX11_price_31 : decode cX11_price 31 = .ok (.getfield 28, 3) := by decide +kernel
theorem dX11_price_34 : decode cX11_price 34 = .ok (.aload_n 0, 1) := by decide +kernel
theorem dX11_price_35 : decode cX11_price 35 = .ok (.getfield 63, 3) := by decide +kernel
theorem dX11_price_38 : decode cX11_price 38 = .ok (.getfield 111, 3) := by decide +kernel
theorem dX11_price_41 : decode cX11_price 41 = .ok (.iload_n 2, 1) := by decide +kernel
theorem dX11_price_42 : decode cX11_price 42 = .ok (.iload_n 1, 1) := by decide +kernel
theorem dX11_price_43 : decode cX11_price 43 = .ok (.aload_n 0, 1) := by decide +kernel
theorem dX11_price_44 : decode cX11_price 44 = .ok (.getfield 63, 3) := by decide +kernel
theorem dX11_price_47 : decode cX11_price 47 = .ok (.getfield 111, 3) := by decide +kernel
theorem dX11_price_50 : decode cX11_price 50 = .ok (.getfield 146, 3) := by decide +kernel
theorem dX11_price_53 : decode cX11_price 53 = .ok (.iload_n 1, 1) := by decide +kernel
theorem dX11_price_54 : decode cX11_price 54 = .ok (.iaload, 1) := by decide +kernel
theorem dX11_price_55 : decode cX11_price 55 = .ok (.iconst 1, 1) := by decide +kernel
theorem dX11_price_56 : decode cX11_price 56 = .ok (.iadd, 1) := by decide +kernel
theorem dX11_price_57 : decode cX11_price 57 = .ok (.invokevirtual 229, 3) := by decide +kernel
theorem dX11_price_60 : decode cX11_price 60 = .ok (.istore_n 3, 1) := by decide +kernel
theorem dX11_price_61 : decode cX11_price 61 = .ok (.iload_n 3, 1) := by decide +kernel
theorem dX11_price_62 : decode cX11_price 62 = .ok (.aload_n 0, 1) := by decide +kernel
theorem dX11_price_63 : decode cX11_price 63 = .ok (.getfield 28, 3) := by decide +kernel
theorem dX11_price_66 : decode cX11_price 66 = .ok (.aload_n 0, 1) := by decide +kernel
theorem dX11_price_67 : decode cX11_price 67 = .ok (.getfield 63, 3) := by decide +kernel
theorem dX11_price_70 : decode cX11_price 70 = .ok (.getfield 111, 3) := by decide +kernel
theorem dX11_price_73 : decode cX11_price 73 = .ok (.iload_n 2, 1) := by decide +kernel
theorem dX11_price_74 : decode cX11_price 74 = .ok (.invokevirtual 215, 3) := by decide +kernel
theorem dX11_price_77 : decode cX11_price 77 = .ok (.isub, 1) := by decide +kernel
theorem dX11_price_78 : decode cX11_price 78 = .ok (.ireturn, 1) := by decide +kernel
theorem dX11_loss_0 : decode cX11_loss 0 = .ok (.aload_n 0, 1) := by decide +kernel
theorem dX11_loss_1 : decode cX11_loss 1 = .ok (.getfield 63, 3) := by decide +kernel
theorem dX11_loss_4 : decode cX11_loss 4 = .ok (.getfield 111, 3) := by decide +kernel
theorem dX11_loss_7 : decode cX11_loss 7 = .ok (.iload_n 1, 1) := by decide +kernel
theorem dX11_loss_8 : decode cX11_loss 8 = .ok (.invokevirtual 129, 3) := by decide +kernel
theorem dX11_loss_11 : decode cX11_loss 11 = .ok (.ifCond .eq 17, 3) := by decide +kernel
theorem dX11_loss_14 : decode cX11_loss 14 = .ok (.aload_n 0, 1) := by decide +kernel
theorem dX11_loss_15 : decode cX11_loss 15 = .ok (.getfield 63, 3) := by decide +kernel
theorem dX11_loss_18 : decode cX11_loss 18 = .ok (.getfield 111, 3) := by decide +kernel
theorem dX11_loss_21 : decode cX11_loss 21 = .ok (.iload_n 2, 1) := by decide +kernel
theorem dX11_loss_22 : decode cX11_loss 22 = .ok (.invokevirtual 212, 3) := by decide +kernel
theorem dX11_loss_25 : decode cX11_loss 25 = .ok (.ifCond .ne 5, 3) := by decide +kernel
theorem dX11_loss_28 : decode cX11_loss 28 = .ok (.iconst (-1), 1) := by decide +kernel
theorem dX11_loss_29 : decode cX11_loss 29 = .ok (.ireturn, 1) := by decide +kernel
theorem dX11_loss_30 : decode cX11_loss 30 = .ok (.aload_n 0, 1) := by decide +kernel
theorem dX11_loss_31 : decode cX11_loss 31 = .ok (.getfield 28, 3) := by decide +kernel
theorem dX11_loss_34 : decode cX11_loss 34 = .ok (.aload_n 0, 1) := by decide +kernel
theorem dX11_loss_35 : decode cX11_loss 35 = .ok (.getfield 63, 3) := by decide +kernel
theorem dX11_loss_38 : decode cX11_loss 38 = .ok (.getfield 111, 3) := by decide +kernel
theorem dX11_loss_41 : decode cX11_loss 41 = .ok (.iload_n 2, 1) := by decide +kernel
theorem dX11_loss_42 : decode cX11_loss 42 = .ok (.invokevirtual 215, 3) := by decide +kernel
theorem dX11_loss_45 : decode cX11_loss 45 = .ok (.aload_n 0, 1) := by decide +kernel
theorem dX11_loss_46 : decode cX11_loss 46 = .ok (.getfield 28, 3) := by decide +kernel
theorem dX11_loss_49 : decode cX11_loss 49 = .ok (.aload_n 0, 1) := by decide +kernel
theorem dX11_loss_50 : decode cX11_loss 50 = .ok (.getfield 63, 3) := by decide +kernel
theorem dX11_loss_53 : decode cX11_loss 53 = .ok (.getfield 111, 3) := by decide +kernel
theorem dX11_loss_56 : decode cX11_loss 56 = .ok (.iload_n 2, 1) := by decide +kernel
theorem dX11_loss_57 : decode cX11_loss 57 = .ok (.iload_n 1, 1) := by decide +kernel
theorem dX11_loss_58 : decode cX11_loss 58 = .ok (.iconst 0, 1) := by decide +kernel
theorem dX11_loss_59 : decode cX11_loss 59 = .ok (.invokevirtual 229, 3) := by decide +kernel
theorem dX11_loss_62 : decode cX11_loss 62 = .ok (.isub, 1) := by decide +kernel
theorem dX11_loss_63 : decode cX11_loss 63 = .ok (.ireturn, 1) := by decide +kernel
theorem dX11_climb_0 : decode cX11_climb 0 = .ok (.aload_n 0, 1) := by decide +kernel
theorem dX11_climb_1 : decode cX11_climb 1 = .ok (.getfield 63, 3) := by decide +kernel
theorem dX11_climb_4 : decode cX11_climb 4 = .ok (.getfield 111, 3) := by decide +kernel
theorem dX11_climb_7 : decode cX11_climb 7 = .ok (.iload_n 1, 1) := by decide +kernel
theorem dX11_climb_8 : decode cX11_climb 8 = .ok (.invokevirtual 212, 3) := by decide +kernel
theorem dX11_climb_11 : decode cX11_climb 11 = .ok (.ifCond .ne 5, 3) := by decide +kernel
theorem dX11_climb_14 : decode cX11_climb 14 = .ok (.iconst (-1), 1) := by decide +kernel
theorem dX11_climb_15 : decode cX11_climb 15 = .ok (.ireturn, 1) := by decide +kernel
theorem dX11_climb_16 : decode cX11_climb 16 = .ok (.aload_n 0, 1) := by decide +kernel
theorem dX11_climb_17 : decode cX11_climb 17 = .ok (.iconst 0, 1) := by decide +kernel
theorem dX11_climb_18 : decode cX11_climb 18 = .ok (.putfield 84, 3) := by decide +kernel
theorem dX11_climb_21 : decode cX11_climb 21 = .ok (.iload_n 1, 1) := by decide +kernel
theorem dX11_climb_22 : decode cX11_climb 22 = .ok (.istore_n 2, 1) := by decide +kernel
theorem dX11_climb_23 : decode cX11_climb 23 = .ok (.iconst 0, 1) := by decide +kernel
theorem dX11_climb_24 : decode cX11_climb 24 = .ok (.istore_n 3, 1) := by decide +kernel
theorem dX11_climb_25 : decode cX11_climb 25 = .ok (.iload_n 3, 1) := by decide +kernel
theorem dX11_climb_26 : decode cX11_climb 26 = .ok (.sipush 1024, 3) := by decide +kernel
theorem dX11_climb_29 : decode cX11_climb 29 = .ok (.if_icmp .ge 37, 3) := by decide +kernel
theorem dX11_climb_32 : decode cX11_climb 32 = .ok (.aload_n 0, 1) := by decide +kernel
theorem dX11_climb_33 : decode cX11_climb 33 = .ok (.iload_n 2, 1) := by decide +kernel
theorem dX11_climb_34 : decode cX11_climb 34 = .ok (.invokevirtual 233, 3) := by decide +kernel
theorem dX11_climb_37 : decode cX11_climb 37 = .ok (.istore 4, 2) := by decide +kernel
theorem dX11_climb_39 : decode cX11_climb 39 = .ok (.iload 4, 2) := by decide +kernel
theorem dX11_climb_41 : decode cX11_climb 41 = .ok (.iload_n 2, 1) := by decide +kernel
theorem dX11_climb_42 : decode cX11_climb 42 = .ok (.if_icmp .ne 5, 3) := by decide +kernel
theorem dX11_climb_45 : decode cX11_climb 45 = .ok (.iload_n 2, 1) := by decide +kernel
theorem dX11_climb_46 : decode cX11_climb 46 = .ok (.ireturn, 1) := by decide +kernel
theorem dX11_climb_47 : decode cX11_climb 47 = .ok (.iload 4, 2) := by decide +kernel
theorem dX11_climb_49 : decode cX11_climb 49 = .ok (.istore_n 2, 1) := by decide +kernel
theorem dX11_climb_50 : decode cX11_climb 50 = .ok (.aload_n 0, 1) := by decide +kernel
theorem dX11_climb_51 : decode cX11_climb 51 = .ok (.dup, 1) := by decide +kernel
theorem dX11_climb_52 : decode cX11_climb 52 = .ok (.getfield 84, 3) := by decide +kernel
theorem dX11_climb_55 : decode cX11_climb 55 = .ok (.iconst 1, 1) := by decide +kernel
theorem dX11_climb_56 : decode cX11_climb 56 = .ok (.iadd, 1) := by decide +kernel
theorem dX11_climb_57 : decode cX11_climb 57 = .ok (.putfield 84, 3) := by decide +kernel
theorem dX11_climb_60 : decode cX11_climb 60 = .ok (.iinc 3 1, 3) := by decide +kernel
theorem dX11_climb_63 : decode cX11_climb 63 = .ok (.goto (-38), 3) := by decide +kernel
theorem dX11_climb_66 : decode cX11_climb 66 = .ok (.iload_n 2, 1) := by decide +kernel
theorem dX11_climb_67 : decode cX11_climb 67 = .ok (.ireturn, 1) := by decide +kernel
theorem dX11_climbed_0 : decode cX11_climbed 0 = .ok (.aload_n 0, 1) := by decide +kernel
theorem dX11_climbed_1 : decode cX11_climbed 1 = .ok (.getfield 84, 3) := by decide +kernel
theorem dX11_climbed_4 : decode cX11_climbed 4 = .ok (.ireturn, 1) := by decide +kernel
theorem dX11_told_0 : decode cX11_told 0 = .ok (.aload_n 0, 1) := by decide +kernel
theorem dX11_told_1 : decode cX11_told 1 = .ok (.getfield 63, 3) := by decide +kernel
theorem dX11_told_4 : decode cX11_told 4 = .ok (.getfield 111, 3) := by decide +kernel
theorem dX11_told_7 : decode cX11_told 7 = .ok (.getfield 149, 3) := by decide +kernel
theorem dX11_told_10 : decode cX11_told 10 = .ok (.ireturn, 1) := by decide +kernel
theorem dX11_own_0 : decode cX11_own 0 = .ok (.aload_n 0, 1) := by decide +kernel
theorem dX11_own_1 : decode cX11_own 1 = .ok (.getfield 63, 3) := by decide +kernel
theorem dX11_own_4 : decode cX11_own 4 = .ok (.getfield 111, 3) := by decide +kernel
theorem dX11_own_7 : decode cX11_own 7 = .ok (.iload_n 1, 1) := by decide +kernel
theorem dX11_own_8 : decode cX11_own 8 = .ok (.invokevirtual 129, 3) := by decide +kernel
theorem dX11_own_11 : decode cX11_own 11 = .ok (.ifCond .eq 17, 3) := by decide +kernel
theorem dX11_own_14 : decode cX11_own 14 = .ok (.aload_n 0, 1) := by decide +kernel
theorem dX11_own_15 : decode cX11_own 15 = .ok (.getfield 63, 3) := by decide +kernel
theorem dX11_own_18 : decode cX11_own 18 = .ok (.getfield 111, 3) := by decide +kernel
theorem dX11_own_21 : decode cX11_own 21 = .ok (.iload_n 2, 1) := by decide +kernel
theorem dX11_own_22 : decode cX11_own 22 = .ok (.invokevirtual 212, 3) := by decide +kernel
theorem dX11_own_25 : decode cX11_own 25 = .ok (.ifCond .ne 5, 3) := by decide +kernel
theorem dX11_own_28 : decode cX11_own 28 = .ok (.iconst (-1), 1) := by decide +kernel
theorem dX11_own_29 : decode cX11_own 29 = .ok (.ireturn, 1) := by decide +kernel
theorem dX11_own_30 : decode cX11_own 30 = .ok (.aload_n 0, 1) := by decide +kernel
theorem dX11_own_31 : decode cX11_own 31 = .ok (.getfield 63, 3) := by decide +kernel
theorem dX11_own_34 : decode cX11_own 34 = .ok (.getfield 111, 3) := by decide +kernel
theorem dX11_own_37 : decode cX11_own 37 = .ok (.iload_n 1, 1) := by decide +kernel
theorem dX11_own_38 : decode cX11_own 38 = .ok (.iload_n 2, 1) := by decide +kernel
theorem dX11_own_39 : decode cX11_own 39 = .ok (.invokevirtual 236, 3) := by decide +kernel
theorem dX11_own_42 : decode cX11_own 42 = .ok (.ireturn, 1) := by decide +kernel
theorem dX11_rests_0 : decode cX11_rests 0 = .ok (.aload_n 0, 1) := by decide +kernel
theorem dX11_rests_1 : decode cX11_rests 1 = .ok (.getfield 63, 3) := by decide +kernel
theorem dX11_rests_4 : decode cX11_rests 4 = .ok (.getfield 111, 3) := by decide +kernel
theorem dX11_rests_7 : decode cX11_rests 7 = .ok (.getfield 240, 3) := by decide +kernel
theorem dX11_rests_10 : decode cX11_rests 10 = .ok (.astore_n 2, 1) := by decide +kernel
theorem dX11_rests_11 : decode cX11_rests 11 = .ok (.aload_n 2, 1) := by decide +kernel
theorem dX11_rests_12 : decode cX11_rests 12 = .ok (.getfield 244, 3) := by decide +kernel
theorem dX11_rests_15 : decode cX11_rests 15 = .ok (.iconst (-1), 1) := by decide +kernel
theorem dX11_rests_16 : decode cX11_rests 16 = .ok (.if_icmp .ne 14, 3) := by decide +kernel
theorem dX11_rests_19 : decode cX11_rests 19 = .ok (.aload_n 0, 1) := by decide +kernel
theorem dX11_rests_20 : decode cX11_rests 20 = .ok (.getfield 63, 3) := by decide +kernel
theorem dX11_rests_23 : decode cX11_rests 23 = .ok (.getfield 111, 3) := by decide +kernel
theorem dX11_rests_26 : decode cX11_rests 26 = .ok (.aload_n 2, 1) := by decide +kernel
theorem dX11_rests_27 : decode cX11_rests 27 = .ok (.invokestatic 249, 3) := by decide +kernel
theorem dX11_rests_30 : decode cX11_rests 30 = .ok (.iload_n 1, 1) := by decide +kernel
theorem dX11_rests_31 : decode cX11_rests 31 = .ok (.iconst (-1), 1) := by decide +kernel
theorem dX11_rests_32 : decode cX11_rests 32 = .ok (.if_icmp .ne 8, 3) := by decide +kernel
theorem dX11_rests_35 : decode cX11_rests 35 = .ok (.aload_n 2, 1) := by decide +kernel
theorem dX11_rests_36 : decode cX11_rests 36 = .ok (.getfield 244, 3) := by decide +kernel
theorem dX11_rests_39 : decode cX11_rests 39 = .ok (.ireturn, 1) := by decide +kernel
theorem dX11_rests_40 : decode cX11_rests 40 = .ok (.iload_n 1, 1) := by decide +kernel
theorem dX11_rests_41 : decode cX11_rests 41 = .ok (.ifCond .lt 18, 3) := by decide +kernel
theorem dX11_rests_44 : decode cX11_rests 44 = .ok (.iload_n 1, 1) := by decide +kernel
theorem dX11_rests_45 : decode cX11_rests 45 = .ok (.aload_n 2, 1) := by decide +kernel
theorem dX11_rests_46 : decode cX11_rests 46 = .ok (.getfield 244, 3) := by decide +kernel
theorem dX11_rests_49 : decode cX11_rests 49 = .ok (.if_icmp .ge 10, 3) := by decide +kernel
theorem dX11_rests_52 : decode cX11_rests 52 = .ok (.iload_n 1, 1) := by decide +kernel
theorem dX11_rests_53 : decode cX11_rests 53 = .ok (.sipush 1024, 3) := by decide +kernel
theorem dX11_rests_56 : decode cX11_rests 56 = .ok (.if_icmp .lt 5, 3) := by decide +kernel
theorem dX11_rests_59 : decode cX11_rests 59 = .ok (.iconst (-1), 1) := by decide +kernel
theorem dX11_rests_60 : decode cX11_rests 60 = .ok (.ireturn, 1) := by decide +kernel
theorem dX11_rests_61 : decode cX11_rests 61 = .ok (.aload_n 2, 1) := by decide +kernel
theorem dX11_rests_62 : decode cX11_rests 62 = .ok (.getfield 253, 3) := by decide +kernel
theorem dX11_rests_65 : decode cX11_rests 65 = .ok (.iload_n 1, 1) := by decide +kernel
theorem dX11_rests_66 : decode cX11_rests 66 = .ok (.iaload, 1) := by decide +kernel
theorem dX11_rests_67 : decode cX11_rests 67 = .ok (.ireturn, 1) := by decide +kernel
theorem dX11_rounds_0 : decode cX11_rounds 0 = .ok (.aload_n 0, 1) := by decide +kernel
theorem dX11_rounds_1 : decode cX11_rounds 1 = .ok (.getfield 63, 3) := by decide +kernel
theorem dX11_rounds_4 : decode cX11_rounds 4 = .ok (.getfield 111, 3) := by decide +kernel
theorem dX11_rounds_7 : decode cX11_rounds 7 = .ok (.iload_n 1, 1) := by decide +kernel
theorem dX11_rounds_8 : decode cX11_rounds 8 = .ok (.invokevirtual 212, 3) := by decide +kernel
theorem dX11_rounds_11 : decode cX11_rounds 11 = .ok (.ifCond .ne 5, 3) := by decide +kernel
theorem dX11_rounds_14 : decode cX11_rounds 14 = .ok (.iconst (-1), 1) := by decide +kernel
theorem dX11_rounds_15 : decode cX11_rounds 15 = .ok (.ireturn, 1) := by decide +kernel
theorem dX11_rounds_16 : decode cX11_rounds 16 = .ok (.aload_n 0, 1) := by decide +kernel
theorem dX11_rounds_17 : decode cX11_rounds 17 = .ok (.getfield 35, 3) := by decide +kernel
theorem dX11_rounds_20 : decode cX11_rounds 20 = .ok (.aload_n 0, 1) := by decide +kernel
theorem dX11_rounds_21 : decode cX11_rounds 21 = .ok (.getfield 63, 3) := by decide +kernel
theorem dX11_rounds_24 : decode cX11_rounds 24 = .ok (.getfield 111, 3) := by decide +kernel
theorem dX11_rounds_27 : decode cX11_rounds 27 = .ok (.iload_n 1, 1) := by decide +kernel
theorem dX11_rounds_28 : decode cX11_rounds 28 = .ok (.invokevirtual 256, 3) := by decide +kernel
theorem dX11_rounds_31 : decode cX11_rounds 31 = .ok (.ireturn, 1) := by decide +kernel
theorem dX11_ended_0 : decode cX11_ended 0 = .ok (.aload_n 0, 1) := by decide +kernel
theorem dX11_ended_1 : decode cX11_ended 1 = .ok (.getfield 35, 3) := by decide +kernel
theorem dX11_ended_4 : decode cX11_ended 4 = .ok (.getfield 259, 3) := by decide +kernel
theorem dX11_ended_7 : decode cX11_ended 7 = .ok (.ifCond .ne 5, 3) := by decide +kernel
theorem dX11_ended_10 : decode cX11_ended 10 = .ok (.iconst (-1), 1) := by decide +kernel
theorem dX11_ended_11 : decode cX11_ended 11 = .ok (.ireturn, 1) := by decide +kernel
theorem dX11_ended_12 : decode cX11_ended 12 = .ok (.iload_n 1, 1) := by decide +kernel
theorem dX11_ended_13 : decode cX11_ended 13 = .ok (.ifCond .ne 13, 3) := by decide +kernel
theorem dX11_ended_16 : decode cX11_ended 16 = .ok (.aload_n 0, 1) := by decide +kernel
theorem dX11_ended_17 : decode cX11_ended 17 = .ok (.getfield 35, 3) := by decide +kernel
theorem dX11_ended_20 : decode cX11_ended 20 = .ok (.getfield 263, 3) := by decide +kernel
theorem dX11_ended_23 : decode cX11_ended 23 = .ok (.goto 19, 3) := by decide +kernel
theorem dX11_ended_26 : decode cX11_ended 26 = .ok (.iload_n 1, 1) := by decide +kernel
theorem dX11_ended_27 : decode cX11_ended 27 = .ok (.iconst 1, 1) := by decide +kernel
theorem dX11_ended_28 : decode cX11_ended 28 = .ok (.if_icmp .ne 13, 3) := by decide +kernel
theorem dX11_ended_31 : decode cX11_ended 31 = .ok (.aload_n 0, 1) := by decide +kernel
theorem dX11_ended_32 : decode cX11_ended 32 = .ok (.getfield 35, 3) := by decide +kernel
theorem dX11_ended_35 : decode cX11_ended 35 = .ok (.getfield 266, 3) := by decide +kernel
theorem dX11_ended_38 : decode cX11_ended 38 = .ok (.goto 4, 3) := by decide +kernel
theorem dX11_ended_41 : decode cX11_ended 41 = .ok (.iconst (-1), 1) := by decide +kernel
theorem dX11_ended_42 : decode cX11_ended 42 = .ok (.ireturn, 1) := by decide +kernel
theorem dX11_one_0 : decode cX11_one 0 = .ok (.aload_n 0, 1) := by decide +kernel
theorem dX11_one_1 : decode cX11_one 1 = .ok (.getfield 63, 3) := by decide +kernel
theorem dX11_one_4 : decode cX11_one 4 = .ok (.getfield 111, 3) := by decide +kernel
theorem dX11_one_7 : decode cX11_one 7 = .ok (.iload_n 1, 1) := by decide +kernel
theorem dX11_one_8 : decode cX11_one 8 = .ok (.invokevirtual 129, 3) := by decide +kernel
theorem dX11_one_11 : decode cX11_one 11 = .ok (.ifCond .eq 17, 3) := by decide +kernel
theorem dX11_one_14 : decode cX11_one 14 = .ok (.aload_n 0, 1) := by decide +kernel
theorem dX11_one_15 : decode cX11_one 15 = .ok (.getfield 63, 3) := by decide +kernel
theorem dX11_one_18 : decode cX11_one 18 = .ok (.getfield 111, 3) := by decide +kernel
theorem dX11_one_21 : decode cX11_one 21 = .ok (.iload_n 2, 1) := by decide +kernel
theorem dX11_one_22 : decode cX11_one 22 = .ok (.invokevirtual 212, 3) := by decide +kernel
theorem dX11_one_25 : decode cX11_one 25 = .ok (.ifCond .ne 5, 3) := by decide +kernel
theorem dX11_one_28 : decode cX11_one 28 = .ok (.iconst (-1), 1) := by decide +kernel
theorem dX11_one_29 : decode cX11_one 29 = .ok (.ireturn, 1) := by decide +kernel
theorem dX11_one_30 : decode cX11_one 30 = .ok (.aload_n 0, 1) := by decide +kernel
theorem dX11_one_31 : decode cX11_one 31 = .ok (.getfield 42, 3) := by decide +kernel
theorem dX11_one_34 : decode cX11_one 34 = .ok (.aload_n 0, 1) := by decide +kernel
theorem dX11_one_35 : decode cX11_one 35 = .ok (.getfield 63, 3) := by decide +kernel
theorem dX11_one_38 : decode cX11_one 38 = .ok (.getfield 111, 3) := by decide +kernel
theorem dX11_one_41 : decode cX11_one 41 = .ok (.iload_n 1, 1) := by decide +kernel
theorem dX11_one_42 : decode cX11_one 42 = .ok (.iload_n 2, 1) := by decide +kernel
theorem dX11_one_43 : decode cX11_one 43 = .ok (.aload_n 0, 1) := by decide +kernel
theorem dX11_one_44 : decode cX11_one 44 = .ok (.getfield 63, 3) := by decide +kernel
theorem dX11_one_47 : decode cX11_one 47 = .ok (.getfield 111, 3) := by decide +kernel
theorem dX11_one_50 : decode cX11_one 50 = .ok (.getfield 269, 3) := by decide +kernel
theorem dX11_one_53 : decode cX11_one 53 = .ok (.invokevirtual 272, 3) := by decide +kernel
theorem dX11_one_56 : decode cX11_one 56 = .ok (.aload_n 0, 1) := by decide +kernel
theorem dX11_one_57 : decode cX11_one 57 = .ok (.getfield 42, 3) := by decide +kernel
theorem dX11_one_60 : decode cX11_one 60 = .ok (.invokevirtual 276, 3) := by decide +kernel
theorem dX11_one_63 : decode cX11_one 63 = .ok (.aload_n 0, 1) := by decide +kernel
theorem dX11_one_64 : decode cX11_one 64 = .ok (.getfield 42, 3) := by decide +kernel
theorem dX11_one_67 : decode cX11_one 67 = .ok (.getfield 279, 3) := by decide +kernel
theorem dX11_one_70 : decode cX11_one 70 = .ok (.iconst 0, 1) := by decide +kernel
theorem dX11_one_71 : decode cX11_one 71 = .ok (.iaload, 1) := by decide +kernel
theorem dX11_one_72 : decode cX11_one 72 = .ok (.ireturn, 1) := by decide +kernel
theorem dX11_oneBy_0 : decode cX11_oneBy 0 = .ok (.aload_n 0, 1) := by decide +kernel
theorem dX11_oneBy_1 : decode cX11_oneBy 1 = .ok (.getfield 63, 3) := by decide +kernel
theorem dX11_oneBy_4 : decode cX11_oneBy 4 = .ok (.getfield 111, 3) := by decide +kernel
theorem dX11_oneBy_7 : decode cX11_oneBy 7 = .ok (.iload_n 1, 1) := by decide +kernel
theorem dX11_oneBy_8 : decode cX11_oneBy 8 = .ok (.invokevirtual 129, 3) := by decide +kernel
theorem dX11_oneBy_11 : decode cX11_oneBy 11 = .ok (.ifCond .eq 27, 3) := by decide +kernel
theorem dX11_oneBy_14 : decode cX11_oneBy 14 = .ok (.aload_n 0, 1) := by decide +kernel
theorem dX11_oneBy_15 : decode cX11_oneBy 15 = .ok (.getfield 63, 3) := by decide +kernel
theorem dX11_oneBy_18 : decode cX11_oneBy 18 = .ok (.getfield 111, 3) := by decide +kernel
theorem dX11_oneBy_21 : decode cX11_oneBy 21 = .ok (.iload_n 2, 1) := by decide +kernel
theorem dX11_oneBy_22 : decode cX11_oneBy 22 = .ok (.invokevirtual 212, 3) := by decide +kernel
theorem dX11_oneBy_25 : decode cX11_oneBy 25 = .ok (.ifCond .eq 13, 3) := by decide +kernel
theorem dX11_oneBy_28 : decode cX11_oneBy 28 = .ok (.iload_n 3, 1) := by decide +kernel
theorem dX11_oneBy_29 : decode cX11_oneBy 29 = .ok (.ifCond .lt 9, 3) := by decide +kernel
theorem dX11_oneBy_32 : decode cX11_oneBy 32 = .ok (.iload_n 3, 1) := by decide +kernel
theorem dX11_oneBy_33 : decode cX11_oneBy 33 = .ok (.bipush 60, 2) := by decide +kernel
theorem dX11_oneBy_35 : decode cX11_oneBy 35 = .ok (.if_icmp .le 5, 3) := by decide +kernel
theorem dX11_oneBy_38 : decode cX11_oneBy 38 = .ok (.iconst (-1), 1) := by decide +kernel
theorem dX11_oneBy_39 : decode cX11_oneBy 39 = .ok (.ireturn, 1) := by decide +kernel
theorem dX11_oneBy_40 : decode cX11_oneBy 40 = .ok (.aload_n 0, 1) := by decide +kernel
theorem dX11_oneBy_41 : decode cX11_oneBy 41 = .ok (.getfield 42, 3) := by decide +kernel
theorem dX11_oneBy_44 : decode cX11_oneBy 44 = .ok (.aload_n 0, 1) := by decide +kernel
theorem dX11_oneBy_45 : decode cX11_oneBy 45 = .ok (.getfield 63, 3) := by decide +kernel
theorem dX11_oneBy_48 : decode cX11_oneBy 48 = .ok (.getfield 111, 3) := by decide +kernel
theorem dX11_oneBy_51 : decode cX11_oneBy 51 = .ok (.iload_n 1, 1) := by decide +kernel
theorem dX11_oneBy_52 : decode cX11_oneBy 52 = .ok (.iload_n 2, 1) := by decide +kernel
theorem dX11_oneBy_53 : decode cX11_oneBy 53 = .ok (.iload_n 3, 1) := by decide +kernel
theorem dX11_oneBy_54 : decode cX11_oneBy 54 = .ok (.invokevirtual 272, 3) := by decide +kernel
theorem dX11_oneBy_57 : decode cX11_oneBy 57 = .ok (.aload_n 0, 1) := by decide +kernel
theorem dX11_oneBy_58 : decode cX11_oneBy 58 = .ok (.getfield 42, 3) := by decide +kernel
theorem dX11_oneBy_61 : decode cX11_oneBy 61 = .ok (.getfield 279, 3) := by decide +kernel
theorem dX11_oneBy_64 : decode cX11_oneBy 64 = .ok (.iconst 0, 1) := by decide +kernel
theorem dX11_oneBy_65 : decode cX11_oneBy 65 = .ok (.iaload, 1) := by decide +kernel
theorem dX11_oneBy_66 : decode cX11_oneBy 66 = .ok (.ireturn, 1) := by decide +kernel
theorem dX11_lawful_0 : decode cX11_lawful 0 = .ok (.aload_n 0, 1) := by decide +kernel
theorem dX11_lawful_1 : decode cX11_lawful 1 = .ok (.getfield 63, 3) := by decide +kernel
theorem dX11_lawful_4 : decode cX11_lawful 4 = .ok (.getfield 111, 3) := by decide +kernel
theorem dX11_lawful_7 : decode cX11_lawful 7 = .ok (.getfield 202, 3) := by decide +kernel
theorem dX11_lawful_10 : decode cX11_lawful 10 = .ok (.bipush 12, 2) := by decide +kernel
theorem dX11_lawful_12 : decode cX11_lawful 12 = .ok (.if_icmp .le 5, 3) := by decide +kernel
theorem dX11_lawful_15 : decode cX11_lawful 15 = .ok (.iconst (-1), 1) := by decide +kernel
theorem dX11_lawful_16 : decode cX11_lawful 16 = .ok (.ireturn, 1) := by decide +kernel
theorem dX11_lawful_17 : decode cX11_lawful 17 = .ok (.aload_n 0, 1) := by decide +kernel
theorem dX11_lawful_18 : decode cX11_lawful 18 = .ok (.getfield 49, 3) := by decide +kernel
theorem dX11_lawful_21 : decode cX11_lawful 21 = .ok (.aload_n 0, 1) := by decide +kernel
theorem dX11_lawful_22 : decode cX11_lawful 22 = .ok (.getfield 63, 3) := by decide +kernel
theorem dX11_lawful_25 : decode cX11_lawful 25 = .ok (.getfield 111, 3) := by decide +kernel
theorem dX11_lawful_28 : decode cX11_lawful 28 = .ok (.invokevirtual 282, 3) := by decide +kernel
theorem dX11_lawful_31 : decode cX11_lawful 31 = .ok (.ireturn, 1) := by decide +kernel
theorem dX11_lawfulBy_0 : decode cX11_lawfulBy 0 = .ok (.iload_n 1, 1) := by decide +kernel
theorem dX11_lawfulBy_1 : decode cX11_lawfulBy 1 = .ok (.ifCond .lt 20, 3) := by decide +kernel
theorem dX11_lawfulBy_4 : decode cX11_lawfulBy 4 = .ok (.iload_n 1, 1) := by decide +kernel
theorem dX11_lawfulBy_5 : decode cX11_lawfulBy 5 = .ok (.aload_n 0, 1) := by decide +kernel
theorem dX11_lawfulBy_6 : decode cX11_lawfulBy 6 = .ok (.getfield 49, 3) := by decide +kernel
theorem dX11_lawfulBy_9 : decode cX11_lawfulBy 9 = .ok (.getfield 285, 3) := by decide +kernel
theorem dX11_lawfulBy_12 : decode cX11_lawfulBy 12 = .ok (.if_icmp .ge 9, 3) := by decide +kernel
theorem dX11_lawfulBy_15 : decode cX11_lawfulBy 15 = .ok (.iload_n 1, 1) := by decide +kernel
theorem dX11_lawfulBy_16 : decode cX11_lawfulBy 16 = .ok (.bipush 12, 2) := by decide +kernel
theorem dX11_lawfulBy_18 : decode cX11_lawfulBy 18 = .ok (.if_icmp .lt 5, 3) := by decide +kernel
theorem dX11_lawfulBy_21 : decode cX11_lawfulBy 21 = .ok (.iconst (-1), 1) := by decide +kernel
theorem dX11_lawfulBy_22 : decode cX11_lawfulBy 22 = .ok (.ireturn, 1) := by decide +kernel
theorem dX11_lawfulBy_23 : decode cX11_lawfulBy 23 = .ok (.aload_n 0, 1) := by decide +kernel
theorem dX11_lawfulBy_24 : decode cX11_lawfulBy 24 = .ok (.getfield 49, 3) := by decide +kernel
theorem dX11_lawfulBy_27 : decode cX11_lawfulBy 27 = .ok (.getfield 288, 3) := by decide +kernel
theorem dX11_lawfulBy_30 : decode cX11_lawfulBy 30 = .ok (.iload_n 1, 1) := by decide +kernel
theorem dX11_lawfulBy_31 : decode cX11_lawfulBy 31 = .ok (.iaload, 1) := by decide +kernel
theorem dX11_lawfulBy_32 : decode cX11_lawfulBy 32 = .ok (.ireturn, 1) := by decide +kernel
theorem dX11_oneIs_0 : decode cX11_oneIs 0 = .ok (.aload_n 0, 1) := by decide +kernel
theorem dX11_oneIs_1 : decode cX11_oneIs 1 = .ok (.getfield 42, 3) := by decide +kernel
theorem dX11_oneIs_4 : decode cX11_oneIs 4 = .ok (.getfield 291, 3) := by decide +kernel
theorem dX11_oneIs_7 : decode cX11_oneIs 7 = .ok (.ifCond .eq 10, 3) := by decide +kernel
theorem dX11_oneIs_10 : decode cX11_oneIs 10 = .ok (.iload_n 1, 1) := by decide +kernel
theorem dX11_oneIs_11 : decode cX11_oneIs 11 = .ok (.invokestatic 196, 3) := by decide +kernel
theorem dX11_oneIs_14 : decode cX11_oneIs 14 = .ok (.ifCond .ne 5, 3) := by decide +kernel
theorem dX11_oneIs_17 : decode cX11_oneIs 17 = .ok (.iconst (-1), 1) := by decide +kernel
theorem dX11_oneIs_18 : decode cX11_oneIs 18 = .ok (.ireturn, 1) := by decide +kernel
theorem dX11_oneIs_19 : decode cX11_oneIs 19 = .ok (.aload_n 0, 1) := by decide +kernel
theorem dX11_oneIs_20 : decode cX11_oneIs 20 = .ok (.getfield 42, 3) := by decide +kernel
theorem dX11_oneIs_23 : decode cX11_oneIs 23 = .ok (.getfield 294, 3) := by decide +kernel
theorem dX11_oneIs_26 : decode cX11_oneIs 26 = .ok (.iload_n 1, 1) := by decide +kernel
theorem dX11_oneIs_27 : decode cX11_oneIs 27 = .ok (.iaload, 1) := by decide +kernel
theorem dX11_oneIs_28 : decode cX11_oneIs 28 = .ok (.ireturn, 1) := by decide +kernel
theorem dX11_fewest_0 : decode cX11_fewest 0 = .ok (.aload_n 0, 1) := by decide +kernel
theorem dX11_fewest_1 : decode cX11_fewest 1 = .ok (.getfield 63, 3) := by decide +kernel
theorem dX11_fewest_4 : decode cX11_fewest 4 = .ok (.getfield 111, 3) := by decide +kernel
theorem dX11_fewest_7 : decode cX11_fewest 7 = .ok (.astore_n 1, 1) := by decide +kernel
theorem dX11_fewest_8 : decode cX11_fewest 8 = .ok (.aload_n 1, 1) := by decide +kernel
theorem dX11_fewest_9 : decode cX11_fewest 9 = .ok (.invokevirtual 297, 3) := by decide +kernel
theorem dX11_fewest_12 : decode cX11_fewest 12 = .ok (.istore_n 2, 1) := by decide +kernel
theorem dX11_fewest_13 : decode cX11_fewest 13 = .ok (.iload_n 2, 1) := by decide +kernel
theorem dX11_fewest_14 : decode cX11_fewest 14 = .ok (.istore_n 3, 1) := by decide +kernel
theorem dX11_fewest_15 : decode cX11_fewest 15 = .ok (.iconst 0, 1) := by decide +kernel
theorem dX11_fewest_16 : decode cX11_fewest 16 = .ok (.istore 4, 2) := by decide +kernel
theorem dX11_fewest_18 : decode cX11_fewest 18 = .ok (.iload 4, 2) := by decide +kernel
theorem dX11_fewest_20 : decode cX11_fewest 20 = .ok (.aload_n 1, 1) := by decide +kernel
theorem dX11_fewest_21 : decode cX11_fewest 21 = .ok (.invokevirtual 226, 3) := by decide +kernel
theorem dX11_fewest_24 : decode cX11_fewest 24 = .ok (.if_icmp .ge 55, 3) := by decide +kernel
theorem dX11_fewest_27 : decode cX11_fewest 27 = .ok (.iload 4, 2) := by decide +kernel
theorem dX11_fewest_29 : decode cX11_fewest 29 = .ok (.invokestatic 300, 3) := by decide +kernel
theorem dX11_fewest_32 : decode cX11_fewest 32 = .ok (.iload_n 3, 1) := by decide +kernel
theorem dX11_fewest_33 : decode cX11_fewest 33 = .ok (.invokestatic 300, 3) := by decide +kernel
theorem dX11_fewest_36 : decode cX11_fewest 36 = .ok (.if_icmp .ge 7, 3) := by decide +kernel
theorem dX11_fewest_39 : decode cX11_fewest 39 = .ok (.iconst 1, 1) := by decide +kernel
theorem dX11_fewest_40 : decode cX11_fewest 40 = .ok (.goto 4, 3) := by decide +kernel
theorem dX11_fewest_43 : decode cX11_fewest 43 = .ok (.iconst 0, 1) := by decide +kernel
theorem dX11_fewest_44 : decode cX11_fewest 44 = .ok (.istore 5, 2) := by decide +kernel
theorem dX11_fewest_46 : decode cX11_fewest 46 = .ok (.iload 5, 2) := by decide +kernel
theorem dX11_fewest_48 : decode cX11_fewest 48 = .ok (.ifCond .eq 25, 3) := by decide +kernel
theorem dX11_fewest_51 : decode cX11_fewest 51 = .ok (.iload 4, 2) := by decide +kernel
theorem dX11_fewest_53 : decode cX11_fewest 53 = .ok (.iload_n 2, 1) := by decide +kernel
theorem dX11_fewest_54 : decode cX11_fewest 54 = .ok (.iconst (-1), 1) := by decide +kernel
theorem dX11_fewest_55 : decode cX11_fewest 55 = .ok (.ixor, 1) := by decide +kernel
theorem dX11_fewest_56 : decode cX11_fewest 56 = .ok (.iand, 1) := by decide +kernel
theorem dX11_fewest_57 : decode cX11_fewest 57 = .ok (.ifCond .ne 16, 3) := by decide +kernel
theorem dX11_fewest_60 : decode cX11_fewest 60 = .ok (.aload_n 1, 1) := by decide +kernel
theorem dX11_fewest_61 : decode cX11_fewest 61 = .ok (.iload 4, 2) := by decide +kernel
theorem dX11_fewest_63 : decode cX11_fewest 63 = .ok (.iload_n 2, 1) := by decide +kernel
theorem dX11_fewest_64 : decode cX11_fewest 64 = .ok (.invokevirtual 305, 3) := by decide +kernel
theorem dX11_fewest_67 : decode cX11_fewest 67 = .ok (.ifCond .eq 6, 3) := by decide +kernel
theorem dX11_fewest_70 : decode cX11_fewest 70 = .ok (.iload 4, 2) := by decide +kernel
theorem dX11_fewest_72 : decode cX11_fewest 72 = .ok (.istore_n 3, 1) := by decide +kernel
theorem dX11_fewest_73 : decode cX11_fewest 73 = .ok (.iinc 4 1, 3) := by decide +kernel
theorem dX11_fewest_76 : decode cX11_fewest 76 = .ok (.goto (-58), 3) := by decide +kernel
theorem dX11_fewest_79 : decode cX11_fewest 79 = .ok (.iload_n 3, 1) := by decide +kernel
theorem dX11_fewest_80 : decode cX11_fewest 80 = .ok (.ireturn, 1) := by decide +kernel
theorem dX11_meet_0 : decode cX11_meet 0 = .ok (.aload_n 0, 1) := by decide +kernel
theorem dX11_meet_1 : decode cX11_meet 1 = .ok (.getfield 56, 3) := by decide +kernel
theorem dX11_meet_4 : decode cX11_meet 4 = .ok (.aload_n 0, 1) := by decide +kernel
theorem dX11_meet_5 : decode cX11_meet 5 = .ok (.getfield 12, 3) := by decide +kernel
theorem dX11_meet_8 : decode cX11_meet 8 = .ok (.aload_n 0, 1) := by decide +kernel
theorem dX11_meet_9 : decode cX11_meet 9 = .ok (.getfield 63, 3) := by decide +kernel
theorem dX11_meet_12 : decode cX11_meet 12 = .ok (.getfield 111, 3) := by decide +kernel
theorem dX11_meet_15 : decode cX11_meet 15 = .ok (.getfield 308, 3) := by decide +kernel
theorem dX11_meet_18 : decode cX11_meet 18 = .ok (.invokevirtual 311, 3) := by decide +kernel
theorem dX11_meet_21 : decode cX11_meet 21 = .ok (.istore_n 1, 1) := by decide +kernel
theorem dX11_meet_22 : decode cX11_meet 22 = .ok (.aload_n 0, 1) := by decide +kernel
theorem dX11_meet_23 : decode cX11_meet 23 = .ok (.getfield 12, 3) := by decide +kernel
theorem dX11_meet_26 : decode cX11_meet 26 = .ok (.iconst 0, 1) := by decide +kernel
theorem dX11_meet_27 : decode cX11_meet 27 = .ok (.invokevirtual 101, 3) := by decide +kernel
theorem dX11_meet_30 : decode cX11_meet 30 = .ok (.iload_n 1, 1) := by decide +kernel
theorem dX11_meet_31 : decode cX11_meet 31 = .ok (.ifCond .eq 13, 3) := by decide +kernel
theorem dX11_meet_34 : decode cX11_meet 34 = .ok (.aload_n 0, 1) := by decide +kernel
theorem dX11_meet_35 : decode cX11_meet 35 = .ok (.getfield 56, 3) := by decide +kernel
theorem dX11_meet_38 : decode cX11_meet 38 = .ok (.invokevirtual 315, 3) := by decide +kernel
theorem dX11_meet_41 : decode cX11_meet 41 = .ok (.goto 4, 3) := by decide +kernel
theorem dX11_meet_44 : decode cX11_meet 44 = .ok (.iconst (-1), 1) := by decide +kernel
theorem dX11_meet_45 : decode cX11_meet 45 = .ok (.ireturn, 1) := by decide +kernel
theorem dX11_must_0 : decode cX11_must 0 = .ok (.aload_n 0, 1) := by decide +kernel
theorem dX11_must_1 : decode cX11_must 1 = .ok (.getfield 56, 3) := by decide +kernel
theorem dX11_must_4 : decode cX11_must 4 = .ok (.aload_n 0, 1) := by decide +kernel
theorem dX11_must_5 : decode cX11_must 5 = .ok (.getfield 12, 3) := by decide +kernel
theorem dX11_must_8 : decode cX11_must 8 = .ok (.aload_n 0, 1) := by decide +kernel
theorem dX11_must_9 : decode cX11_must 9 = .ok (.getfield 63, 3) := by decide +kernel
theorem dX11_must_12 : decode cX11_must 12 = .ok (.getfield 111, 3) := by decide +kernel
theorem dX11_must_15 : decode cX11_must 15 = .ok (.getfield 308, 3) := by decide +kernel
theorem dX11_must_18 : decode cX11_must 18 = .ok (.invokevirtual 311, 3) := by decide +kernel
theorem dX11_must_21 : decode cX11_must 21 = .ok (.istore_n 2, 1) := by decide +kernel
theorem dX11_must_22 : decode cX11_must 22 = .ok (.aload_n 0, 1) := by decide +kernel
theorem dX11_must_23 : decode cX11_must 23 = .ok (.getfield 12, 3) := by decide +kernel
theorem dX11_must_26 : decode cX11_must 26 = .ok (.iconst 0, 1) := by decide +kernel
theorem dX11_must_27 : decode cX11_must 27 = .ok (.invokevirtual 101, 3) := by decide +kernel
theorem dX11_must_30 : decode cX11_must 30 = .ok (.iload_n 2, 1) := by decide +kernel
theorem dX11_must_31 : decode cX11_must 31 = .ok (.ifCond .eq 12, 3) := by decide +kernel
theorem dX11_must_34 : decode cX11_must 34 = .ok (.iload_n 1, 1) := by decide +kernel
theorem dX11_must_35 : decode cX11_must 35 = .ok (.ifCond .lt 8, 3) := by decide +kernel
theorem dX11_must_38 : decode cX11_must 38 = .ok (.iload_n 1, 1) := by decide +kernel
theorem dX11_must_39 : decode cX11_must 39 = .ok (.iconst 1, 1) := by decide +kernel
theorem dX11_must_40 : decode cX11_must 40 = .ok (.if_icmp .le 5, 3) := by decide +kernel
theorem dX11_must_43 : decode cX11_must 43 = .ok (.iconst (-1), 1) := by decide +kernel
theorem dX11_must_44 : decode cX11_must 44 = .ok (.ireturn, 1) := by decide +kernel
theorem dX11_must_45 : decode cX11_must 45 = .ok (.aload_n 0, 1) := by decide +kernel
theorem dX11_must_46 : decode cX11_must 46 = .ok (.getfield 56, 3) := by decide +kernel
theorem dX11_must_49 : decode cX11_must 49 = .ok (.iload_n 1, 1) := by decide +kernel
theorem dX11_must_50 : decode cX11_must 50 = .ok (.ifCond .ne 7, 3) := by decide +kernel
theorem dX11_must_53 : decode cX11_must 53 = .ok (.iconst 1, 1) := by decide +kernel
theorem dX11_must_54 : decode cX11_must 54 = .ok (.goto 4, 3) := by decide +kernel
theorem dX11_must_57 : decode cX11_must 57 = .ok (.iconst 0, 1) := by decide +kernel
theorem dX11_must_58 : decode cX11_must 58 = .ok (.invokevirtual 318, 3) := by decide +kernel
theorem dX11_must_61 : decode cX11_must 61 = .ok (.ireturn, 1) := by decide +kernel
theorem dX11_wrongly_0 : decode cX11_wrongly 0 = .ok (.aload_n 0, 1) := by decide +kernel
theorem dX11_wrongly_1 : decode cX11_wrongly 1 = .ok (.getfield 56, 3) := by decide +kernel
theorem dX11_wrongly_4 : decode cX11_wrongly 4 = .ok (.aload_n 0, 1) := by decide +kernel
theorem dX11_wrongly_5 : decode cX11_wrongly 5 = .ok (.getfield 12, 3) := by decide +kernel
theorem dX11_wrongly_8 : decode cX11_wrongly 8 = .ok (.aload_n 0, 1) := by decide +kernel
theorem dX11_wrongly_9 : decode cX11_wrongly 9 = .ok (.getfield 63, 3) := by decide +kernel
theorem dX11_wrongly_12 : decode cX11_wrongly 12 = .ok (.getfield 111, 3) := by decide +kernel
theorem dX11_wrongly_15 : decode cX11_wrongly 15 = .ok (.getfield 308, 3) := by decide +kernel
theorem dX11_wrongly_18 : decode cX11_wrongly 18 = .ok (.invokevirtual 311, 3) := by decide +kernel
theorem dX11_wrongly_21 : decode cX11_wrongly 21 = .ok (.istore_n 1, 1) := by decide +kernel
theorem dX11_wrongly_22 : decode cX11_wrongly 22 = .ok (.aload_n 0, 1) := by decide +kernel
theorem dX11_wrongly_23 : decode cX11_wrongly 23 = .ok (.getfield 12, 3) := by decide +kernel
theorem dX11_wrongly_26 : decode cX11_wrongly 26 = .ok (.iconst 0, 1) := by decide +kernel
theorem dX11_wrongly_27 : decode cX11_wrongly 27 = .ok (.invokevirtual 101, 3) := by decide +kernel
theorem dX11_wrongly_30 : decode cX11_wrongly 30 = .ok (.iload_n 1, 1) := by decide +kernel
theorem dX11_wrongly_31 : decode cX11_wrongly 31 = .ok (.ifCond .eq 15, 3) := by decide +kernel
theorem dX11_wrongly_34 : decode cX11_wrongly 34 = .ok (.aload_n 0, 1) := by decide +kernel
theorem dX11_wrongly_35 : decode cX11_wrongly 35 = .ok (.getfield 56, 3) := by decide +kernel
theorem dX11_wrongly_38 : decode cX11_wrongly 38 = .ok (.getfield 322, 3) := by decide +kernel
theorem dX11_wrongly_41 : decode cX11_wrongly 41 = .ok (.bipush 16, 2) := by decide +kernel
theorem dX11_wrongly_43 : decode cX11_wrongly 43 = .ok (.if_icmp .le 5, 3) := by decide +kernel
theorem dX11_wrongly_46 : decode cX11_wrongly 46 = .ok (.iconst (-1), 1) := by decide +kernel
theorem dX11_wrongly_47 : decode cX11_wrongly 47 = .ok (.ireturn, 1) := by decide +kernel
theorem dX11_wrongly_48 : decode cX11_wrongly 48 = .ok (.aload_n 0, 1) := by decide +kernel
theorem dX11_wrongly_49 : decode cX11_wrongly 49 = .ok (.getfield 56, 3) := by decide +kernel
theorem dX11_wrongly_52 : decode cX11_wrongly 52 = .ok (.aload_n 0, 1) := by decide +kernel
theorem dX11_wrongly_53 : decode cX11_wrongly 53 = .ok (.getfield 63, 3) := by decide +kernel
theorem dX11_wrongly_56 : decode cX11_wrongly 56 = .ok (.getfield 111, 3) := by decide +kernel
theorem dX11_wrongly_59 : decode cX11_wrongly 59 = .ok (.invokevirtual 226, 3) := by decide +kernel
theorem dX11_wrongly_62 : decode cX11_wrongly 62 = .ok (.invokevirtual 325, 3) := by decide +kernel
theorem dX11_wrongly_65 : decode cX11_wrongly 65 = .ok (.ireturn, 1) := by decide +kernel
theorem dX11_between_0 : decode cX11_between 0 = .ok (.iload_n 1, 1) := by decide +kernel
theorem dX11_between_1 : decode cX11_between 1 = .ok (.invokestatic 196, 3) := by decide +kernel
theorem dX11_between_4 : decode cX11_between 4 = .ok (.ifCond .ne 5, 3) := by decide +kernel
theorem dX11_between_7 : decode cX11_between 7 = .ok (.iconst (-1), 1) := by decide +kernel
theorem dX11_between_8 : decode cX11_between 8 = .ok (.ireturn, 1) := by decide +kernel
theorem dX11_between_9 : decode cX11_between 9 = .ok (.iconst 0, 1) := by decide +kernel
theorem dX11_between_10 : decode cX11_between 10 = .ok (.istore_n 2, 1) := by decide +kernel
theorem dX11_between_11 : decode cX11_between 11 = .ok (.iconst 0, 1) := by decide +kernel
theorem dX11_between_12 : decode cX11_between 12 = .ok (.istore_n 3, 1) := by decide +kernel
theorem dX11_between_13 : decode cX11_between 13 = .ok (.iload_n 3, 1) := by decide +kernel
theorem dX11_between_14 : decode cX11_between 14 = .ok (.aload_n 0, 1) := by decide +kernel
theorem dX11_between_15 : decode cX11_between 15 = .ok (.getfield 63, 3) := by decide +kernel
theorem dX11_between_18 : decode cX11_between 18 = .ok (.getfield 111, 3) := by decide +kernel
theorem dX11_between_21 : decode cX11_between 21 = .ok (.getfield 308, 3) := by decide +kernel
theorem dX11_between_24 : decode cX11_between 24 = .ok (.if_icmp .ge 24, 3) := by decide +kernel
theorem dX11_between_27 : decode cX11_between 27 = .ok (.aload_n 0, 1) := by decide +kernel
theorem dX11_between_28 : decode cX11_between 28 = .ok (.iload_n 3, 1) := by decide +kernel
theorem dX11_between_29 : decode cX11_between 29 = .ok (.iload_n 1, 1) := by decide +kernel
theorem dX11_between_30 : decode cX11_between 30 = .ok (.invokevirtual 328, 3) := by decide +kernel
theorem dX11_between_33 : decode cX11_between 33 = .ok (.ifCond .eq 9, 3) := by decide +kernel
theorem dX11_between_36 : decode cX11_between 36 = .ok (.iload_n 2, 1) := by decide +kernel
theorem dX11_between_37 : decode cX11_between 37 = .ok (.iconst 1, 1) := by decide +kernel
theorem dX11_between_38 : decode cX11_between 38 = .ok (.iload_n 3, 1) := by decide +kernel
theorem dX11_between_39 : decode cX11_between 39 = .ok (.ishl, 1) := by decide +kernel
theorem dX11_between_40 : decode cX11_between 40 = .ok (.ior, 1) := by decide +kernel
theorem dX11_between_41 : decode cX11_between 41 = .ok (.istore_n 2, 1) := by decide +kernel
theorem dX11_between_42 : decode cX11_between 42 = .ok (.iinc 3 1, 3) := by decide +kernel
theorem dX11_between_45 : decode cX11_between 45 = .ok (.goto (-32), 3) := by decide +kernel
theorem dX11_between_48 : decode cX11_between 48 = .ok (.iload_n 2, 1) := by decide +kernel
theorem dX11_between_49 : decode cX11_between 49 = .ok (.ireturn, 1) := by decide +kernel
theorem dX11_run_0 : decode cX11_run 0 = .ok (.aload_n 0, 1) := by decide +kernel
theorem dX11_run_1 : decode cX11_run 1 = .ok (.getfield 63, 3) := by decide +kernel
theorem dX11_run_4 : decode cX11_run 4 = .ok (.getfield 111, 3) := by decide +kernel
theorem dX11_run_7 : decode cX11_run 7 = .ok (.astore_n 2, 1) := by decide +kernel
theorem dX11_run_8 : decode cX11_run 8 = .ok (.aload_n 2, 1) := by decide +kernel
theorem dX11_run_9 : decode cX11_run 9 = .ok (.getfield 202, 3) := by decide +kernel
theorem dX11_run_12 : decode cX11_run 12 = .ok (.ifCond .ne 5, 3) := by decide +kernel
theorem dX11_run_15 : decode cX11_run 15 = .ok (.iconst (-1), 1) := by decide +kernel
theorem dX11_run_16 : decode cX11_run 16 = .ok (.ireturn, 1) := by decide +kernel
theorem dX11_run_17 : decode cX11_run 17 = .ok (.aload_n 0, 1) := by decide +kernel
theorem dX11_run_18 : decode cX11_run 18 = .ok (.getfield 63, 3) := by decide +kernel
theorem dX11_run_21 : decode cX11_run 21 = .ok (.getfield 114, 3) := by decide +kernel
theorem dX11_run_24 : decode cX11_run 24 = .ok (.invokevirtual 118, 3) := by decide +kernel
theorem dX11_run_27 : decode cX11_run 27 = .ok (.aload_n 0, 1) := by decide +kernel
theorem dX11_run_28 : decode cX11_run 28 = .ok (.iconst 0, 1) := by decide +kernel
theorem dX11_run_29 : decode cX11_run 29 = .ok (.putfield 87, 3) := by decide +kernel
theorem dX11_run_32 : decode cX11_run 32 = .ok (.iload_n 1, 1) := by decide +kernel
theorem dX11_run_33 : decode cX11_run 33 = .ok (.istore_n 3, 1) := by decide +kernel
theorem dX11_run_34 : decode cX11_run 34 = .ok (.iconst 0, 1) := by decide +kernel
theorem dX11_run_35 : decode cX11_run 35 = .ok (.istore 4, 2) := by decide +kernel
theorem dX11_run_37 : decode cX11_run 37 = .ok (.iload 4, 2) := by decide +kernel
theorem dX11_run_39 : decode cX11_run 39 = .ok (.aload_n 2, 1) := by decide +kernel
theorem dX11_run_40 : decode cX11_run 40 = .ok (.getfield 202, 3) := by decide +kernel
theorem dX11_run_43 : decode cX11_run 43 = .ok (.if_icmp .ge 93, 3) := by decide +kernel
theorem dX11_run_46 : decode cX11_run 46 = .ok (.aload_n 2, 1) := by decide +kernel
theorem dX11_run_47 : decode cX11_run 47 = .ok (.getfield 331, 3) := by decide +kernel
theorem dX11_run_50 : decode cX11_run 50 = .ok (.iload 4, 2) := by decide +kernel
theorem dX11_run_52 : decode cX11_run 52 = .ok (.iaload, 1) := by decide +kernel
theorem dX11_run_53 : decode cX11_run 53 = .ok (.istore 5, 2) := by decide +kernel
theorem dX11_run_55 : decode cX11_run 55 = .ok (.iload_n 3, 1) := by decide +kernel
theorem dX11_run_56 : decode cX11_run 56 = .ok (.ldc_w 334, 3) := by decide +kernel
theorem dX11_run_59 : decode cX11_run 59 = .ok (.imul, 1) := by decide +kernel
theorem dX11_run_60 : decode cX11_run 60 = .ok (.sipush 12345, 3) := by decide +kernel
theorem dX11_run_63 : decode cX11_run 63 = .ok (.iadd, 1) := by decide +kernel
theorem dX11_run_64 : decode cX11_run 64 = .ok (.istore_n 3, 1) := by decide +kernel
theorem dX11_run_65 : decode cX11_run 65 = .ok (.iload_n 3, 1) := by decide +kernel
theorem dX11_run_66 : decode cX11_run 66 = .ok (.bipush 8, 2) := by decide +kernel
theorem dX11_run_68 : decode cX11_run 68 = .ok (.iushr, 1) := by decide +kernel
theorem dX11_run_69 : decode cX11_run 69 = .ok (.iconst 4, 1) := by decide +kernel
theorem dX11_run_70 : decode cX11_run 70 = .ok (.irem, 1) := by decide +kernel
theorem dX11_run_71 : decode cX11_run 71 = .ok (.istore 6, 2) := by decide +kernel
theorem dX11_run_73 : decode cX11_run 73 = .ok (.iload 6, 2) := by decide +kernel
theorem dX11_run_75 : decode cX11_run 75 = .ok (.iconst 1, 1) := by decide +kernel
theorem dX11_run_76 : decode cX11_run 76 = .ok (.if_icmp .ne 18, 3) := by decide +kernel
theorem dX11_run_79 : decode cX11_run 79 = .ok (.aload_n 2, 1) := by decide +kernel
theorem dX11_run_80 : decode cX11_run 80 = .ok (.getfield 172, 3) := by decide +kernel
theorem dX11_run_83 : decode cX11_run 83 = .ok (.iload 5, 2) := by decide +kernel
theorem dX11_run_85 : decode cX11_run 85 = .ok (.iaload, 1) := by decide +kernel
theorem dX11_run_86 : decode cX11_run 86 = .ok (.iconst 1, 1) := by decide +kernel
theorem dX11_run_87 : decode cX11_run 87 = .ok (.if_icmp .ne 7, 3) := by decide +kernel
theorem dX11_run_90 : decode cX11_run 90 = .ok (.iconst 2, 1) := by decide +kernel
theorem dX11_run_91 : decode cX11_run 91 = .ok (.goto 4, 3) := by decide +kernel
theorem dX11_run_94 : decode cX11_run 94 = .ok (.iconst 1, 1) := by decide +kernel
theorem dX11_run_95 : decode cX11_run 95 = .ok (.istore 7, 2) := by decide +kernel
theorem dX11_run_97 : decode cX11_run 97 = .ok (.iload 6, 2) := by decide +kernel
theorem dX11_run_99 : decode cX11_run 99 = .ok (.ifCond .eq 31, 3) := by decide +kernel
theorem dX11_run_102 : decode cX11_run 102 = .ok (.aload_n 0, 1) := by decide +kernel
theorem dX11_run_103 : decode cX11_run 103 = .ok (.getfield 63, 3) := by decide +kernel
theorem dX11_run_106 : decode cX11_run 106 = .ok (.getfield 114, 3) := by decide +kernel
theorem dX11_run_109 : decode cX11_run 109 = .ok (.aload_n 2, 1) := by decide +kernel
theorem dX11_run_110 : decode cX11_run 110 = .ok (.iload 5, 2) := by decide +kernel
theorem dX11_run_112 : decode cX11_run 112 = .ok (.iload 7, 2) := by decide +kernel
theorem dX11_run_114 : decode cX11_run 114 = .ok (.invokevirtual 179, 3) := by decide +kernel
theorem dX11_run_117 : decode cX11_run 117 = .ok (.ifCond .eq 13, 3) := by decide +kernel
theorem dX11_run_120 : decode cX11_run 120 = .ok (.aload_n 0, 1) := by decide +kernel
theorem dX11_run_121 : decode cX11_run 121 = .ok (.dup, 1) := by decide +kernel
theorem dX11_run_122 : decode cX11_run 122 = .ok (.getfield 87, 3) := by decide +kernel
theorem dX11_run_125 : decode cX11_run 125 = .ok (.iconst 1, 1) := by decide +kernel
theorem dX11_run_126 : decode cX11_run 126 = .ok (.iadd, 1) := by decide +kernel
theorem dX11_run_127 : decode cX11_run 127 = .ok (.putfield 87, 3) := by decide +kernel
theorem dX11_run_130 : decode cX11_run 130 = .ok (.iinc 4 1, 3) := by decide +kernel
theorem dX11_run_133 : decode cX11_run 133 = .ok (.goto (-96), 3) := by decide +kernel
theorem dX11_run_136 : decode cX11_run 136 = .ok (.aload_n 0, 1) := by decide +kernel
theorem dX11_run_137 : decode cX11_run 137 = .ok (.getfield 63, 3) := by decide +kernel
theorem dX11_run_140 : decode cX11_run 140 = .ok (.getfield 114, 3) := by decide +kernel
theorem dX11_run_143 : decode cX11_run 143 = .ok (.getfield 183, 3) := by decide +kernel
theorem dX11_run_146 : decode cX11_run 146 = .ok (.ireturn, 1) := by decide +kernel
theorem dX11_refused_0 : decode cX11_refused 0 = .ok (.aload_n 0, 1) := by decide +kernel
theorem dX11_refused_1 : decode cX11_refused 1 = .ok (.getfield 87, 3) := by decide +kernel
theorem dX11_refused_4 : decode cX11_refused 4 = .ok (.ireturn, 1) := by decide +kernel
theorem dX11_image_0 : decode cX11_image 0 = .ok (.aload_n 0, 1) := by decide +kernel
theorem dX11_image_1 : decode cX11_image 1 = .ok (.iload_n 1, 1) := by decide +kernel
theorem dX11_image_2 : decode cX11_image 2 = .ok (.invokevirtual 335, 3) := by decide +kernel
theorem dX11_image_5 : decode cX11_image 5 = .ok (.astore_n 2, 1) := by decide +kernel
theorem dX11_image_6 : decode cX11_image 6 = .ok (.aload_n 2, 1) := by decide +kernel
theorem dX11_image_7 : decode cX11_image 7 = .ok (.ifnonnull 5, 3) := by decide +kernel
theorem dX11_image_10 : decode cX11_image 10 = .ok (.iconst 0, 1) := by decide +kernel
theorem dX11_image_11 : decode cX11_image 11 = .ok (.ireturn, 1) := by decide +kernel
theorem dX11_image_12 : decode cX11_image 12 = .ok (.aload_n 2, 1) := by decide +kernel
theorem dX11_image_13 : decode cX11_image 13 = .ok (.aload_n 0, 1) := by decide +kernel
theorem dX11_image_14 : decode cX11_image 14 = .ok (.getfield 63, 3) := by decide +kernel
theorem dX11_image_17 : decode cX11_image 17 = .ok (.invokevirtual 339, 3) := by decide +kernel
theorem dX11_image_20 : decode cX11_image 20 = .ok (.aload_n 2, 1) := by decide +kernel
theorem dX11_image_21 : decode cX11_image 21 = .ok (.iconst 1, 1) := by decide +kernel
theorem dX11_image_22 : decode cX11_image 22 = .ok (.putfield 343, 3) := by decide +kernel
theorem dX11_image_25 : decode cX11_image 25 = .ok (.iconst 1, 1) := by decide +kernel
theorem dX11_image_26 : decode cX11_image 26 = .ok (.ireturn, 1) := by decide +kernel
theorem dX11_restore_0 : decode cX11_restore 0 = .ok (.aload_n 0, 1) := by decide +kernel
theorem dX11_restore_1 : decode cX11_restore 1 = .ok (.iload_n 1, 1) := by decide +kernel
theorem dX11_restore_2 : decode cX11_restore 2 = .ok (.invokevirtual 335, 3) := by decide +kernel
theorem dX11_restore_5 : decode cX11_restore 5 = .ok (.astore_n 2, 1) := by decide +kernel
theorem dX11_restore_6 : decode cX11_restore 6 = .ok (.aload_n 2, 1) := by decide +kernel
theorem dX11_restore_7 : decode cX11_restore 7 = .ok (.ifnull 10, 3) := by decide +kernel
theorem dX11_restore_10 : decode cX11_restore 10 = .ok (.aload_n 2, 1) := by decide +kernel
theorem dX11_restore_11 : decode cX11_restore 11 = .ok (.getfield 343, 3) := by decide +kernel
theorem dX11_restore_14 : decode cX11_restore 14 = .ok (.ifCond .ne 5, 3) := by decide +kernel
theorem dX11_restore_17 : decode cX11_restore 17 = .ok (.iconst 0, 1) := by decide +kernel
theorem dX11_restore_18 : decode cX11_restore 18 = .ok (.ireturn, 1) := by decide +kernel
theorem dX11_restore_19 : decode cX11_restore 19 = .ok (.aload_n 0, 1) := by decide +kernel
theorem dX11_restore_20 : decode cX11_restore 20 = .ok (.getfield 63, 3) := by decide +kernel
theorem dX11_restore_23 : decode cX11_restore 23 = .ok (.aload_n 2, 1) := by decide +kernel
theorem dX11_restore_24 : decode cX11_restore 24 = .ok (.invokevirtual 339, 3) := by decide +kernel
theorem dX11_restore_27 : decode cX11_restore 27 = .ok (.iconst 1, 1) := by decide +kernel
theorem dX11_restore_28 : decode cX11_restore 28 = .ok (.ireturn, 1) := by decide +kernel
theorem dX11_count_0 : decode cX11_count 0 = .ok (.iload_n 1, 1) := by decide +kernel
theorem dX11_count_1 : decode cX11_count 1 = .ok (.tableswitch 87 0 4 #[35, 46, 57, 68, 79], 35) := by decide +kernel
theorem dX11_count_36 : decode cX11_count 36 = .ok (.aload_n 0, 1) := by decide +kernel
theorem dX11_count_37 : decode cX11_count 37 = .ok (.getfield 63, 3) := by decide +kernel
theorem dX11_count_40 : decode cX11_count 40 = .ok (.getfield 111, 3) := by decide +kernel
theorem dX11_count_43 : decode cX11_count 43 = .ok (.getfield 308, 3) := by decide +kernel
theorem dX11_count_46 : decode cX11_count 46 = .ok (.ireturn, 1) := by decide +kernel
theorem dX11_count_47 : decode cX11_count 47 = .ok (.aload_n 0, 1) := by decide +kernel
theorem dX11_count_48 : decode cX11_count 48 = .ok (.getfield 63, 3) := by decide +kernel
theorem dX11_count_51 : decode cX11_count 51 = .ok (.getfield 111, 3) := by decide +kernel
theorem dX11_count_54 : decode cX11_count 54 = .ok (.getfield 202, 3) := by decide +kernel
theorem dX11_count_57 : decode cX11_count 57 = .ok (.ireturn, 1) := by decide +kernel
theorem dX11_count_58 : decode cX11_count 58 = .ok (.aload_n 0, 1) := by decide +kernel
theorem dX11_count_59 : decode cX11_count 59 = .ok (.getfield 63, 3) := by decide +kernel
theorem dX11_count_62 : decode cX11_count 62 = .ok (.getfield 111, 3) := by decide +kernel
theorem dX11_count_65 : decode cX11_count 65 = .ok (.getfield 269, 3) := by decide +kernel
theorem dX11_count_68 : decode cX11_count 68 = .ok (.ireturn, 1) := by decide +kernel
theorem dX11_count_69 : decode cX11_count 69 = .ok (.aload_n 0, 1) := by decide +kernel
theorem dX11_count_70 : decode cX11_count 70 = .ok (.getfield 63, 3) := by decide +kernel
theorem dX11_count_73 : decode cX11_count 73 = .ok (.getfield 114, 3) := by decide +kernel
theorem dX11_count_76 : decode cX11_count 76 = .ok (.getfield 183, 3) := by decide +kernel
theorem dX11_count_79 : decode cX11_count 79 = .ok (.ireturn, 1) := by decide +kernel
theorem dX11_count_80 : decode cX11_count 80 = .ok (.aload_n 0, 1) := by decide +kernel
theorem dX11_count_81 : decode cX11_count 81 = .ok (.getfield 12, 3) := by decide +kernel
theorem dX11_count_84 : decode cX11_count 84 = .ok (.getfield 98, 3) := by decide +kernel
theorem dX11_count_87 : decode cX11_count 87 = .ok (.ireturn, 1) := by decide +kernel
theorem dX11_count_88 : decode cX11_count 88 = .ok (.iconst (-1), 1) := by decide +kernel
theorem dX11_count_89 : decode cX11_count 89 = .ok (.ireturn, 1) := by decide +kernel
theorem dX11_isYear_0 : decode cX11_isYear 0 = .ok (.iload_n 0, 1) := by decide +kernel
theorem dX11_isYear_1 : decode cX11_isYear 1 = .ok (.ifCond .lt 13, 3) := by decide +kernel
theorem dX11_isYear_4 : decode cX11_isYear 4 = .ok (.iload_n 0, 1) := by decide +kernel
theorem dX11_isYear_5 : decode cX11_isYear 5 = .ok (.bipush 60, 2) := by decide +kernel
theorem dX11_isYear_7 : decode cX11_isYear 7 = .ok (.if_icmp .ge 7, 3) := by decide +kernel
theorem dX11_isYear_10 : decode cX11_isYear 10 = .ok (.iconst 1, 1) := by decide +kernel
theorem dX11_isYear_11 : decode cX11_isYear 11 = .ok (.goto 4, 3) := by decide +kernel
theorem dX11_isYear_14 : decode cX11_isYear 14 = .ok (.iconst 0, 1) := by decide +kernel
theorem dX11_isYear_15 : decode cX11_isYear 15 = .ok (.ireturn, 1) := by decide +kernel
theorem dX11_imageAt_0 : decode cX11_imageAt 0 = .ok (.iload_n 1, 1) := by decide +kernel
theorem dX11_imageAt_1 : decode cX11_imageAt 1 = .ok (.ifCond .ne 10, 3) := by decide +kernel
theorem dX11_imageAt_4 : decode cX11_imageAt 4 = .ok (.aload_n 0, 1) := by decide +kernel
theorem dX11_imageAt_5 : decode cX11_imageAt 5 = .ok (.getfield 67, 3) := by decide +kernel
theorem dX11_imageAt_8 : decode cX11_imageAt 8 = .ok (.goto 16, 3) := by decide +kernel
theorem dX11_imageAt_11 : decode cX11_imageAt 11 = .ok (.iload_n 1, 1) := by decide +kernel
theorem dX11_imageAt_12 : decode cX11_imageAt 12 = .ok (.iconst 1, 1) := by decide +kernel
theorem dX11_imageAt_13 : decode cX11_imageAt 13 = .ok (.if_icmp .ne 10, 3) := by decide +kernel
theorem dX11_imageAt_16 : decode cX11_imageAt 16 = .ok (.aload_n 0, 1) := by decide +kernel
theorem dX11_imageAt_17 : decode cX11_imageAt 17 = .ok (.getfield 70, 3) := by decide +kernel
theorem dX11_imageAt_20 : decode cX11_imageAt 20 = .ok (.goto 4, 3) := by decide +kernel
theorem dX11_imageAt_23 : decode cX11_imageAt 23 = .ok (.aconst_null, 1) := by decide +kernel
theorem dX11_imageAt_24 : decode cX11_imageAt 24 = .ok (.areturn, 1) := by decide +kernel
theorem dX11_partsOfMost_0 : decode cX11_partsOfMost 0 = .ok (.iconst 0, 1) := by decide +kernel
theorem dX11_partsOfMost_1 : decode cX11_partsOfMost 1 = .ok (.istore_n 1, 1) := by decide +kernel
theorem dX11_partsOfMost_2 : decode cX11_partsOfMost 2 = .ok (.iconst 1, 1) := by decide +kernel
theorem dX11_partsOfMost_3 : decode cX11_partsOfMost 3 = .ok (.istore_n 2, 1) := by decide +kernel
theorem dX11_partsOfMost_4 : decode cX11_partsOfMost 4 = .ok (.iload_n 2, 1) := by decide +kernel
theorem dX11_partsOfMost_5 : decode cX11_partsOfMost 5 = .ok (.aload_n 0, 1) := by decide +kernel
theorem dX11_partsOfMost_6 : decode cX11_partsOfMost 6 = .ok (.getfield 63, 3) := by decide +kernel
theorem dX11_partsOfMost_9 : decode cX11_partsOfMost 9 = .ok (.getfield 111, 3) := by decide +kernel
theorem dX11_partsOfMost_12 : decode cX11_partsOfMost 12 = .ok (.invokevirtual 226, 3) := by decide +kernel
theorem dX11_partsOfMost_15 : decode cX11_partsOfMost 15 = .ok (.if_icmp .ge 44, 3) := by decide +kernel
theorem dX11_partsOfMost_18 : decode cX11_partsOfMost 18 = .ok (.aload_n 0, 1) := by decide +kernel
theorem dX11_partsOfMost_19 : decode cX11_partsOfMost 19 = .ok (.getfield 28, 3) := by decide +kernel
theorem dX11_partsOfMost_22 : decode cX11_partsOfMost 22 = .ok (.aload_n 0, 1) := by decide +kernel
theorem dX11_partsOfMost_23 : decode cX11_partsOfMost 23 = .ok (.getfield 63, 3) := by decide +kernel
theorem dX11_partsOfMost_26 : decode cX11_partsOfMost 26 = .ok (.getfield 111, 3) := by decide +kernel
theorem dX11_partsOfMost_29 : decode cX11_partsOfMost 29 = .ok (.iload_n 2, 1) := by decide +kernel
theorem dX11_partsOfMost_30 : decode cX11_partsOfMost 30 = .ok (.invokevirtual 215, 3) := by decide +kernel
theorem dX11_partsOfMost_33 : decode cX11_partsOfMost 33 = .ok (.aload_n 0, 1) := by decide +kernel
theorem dX11_partsOfMost_34 : decode cX11_partsOfMost 34 = .ok (.getfield 28, 3) := by decide +kernel
theorem dX11_partsOfMost_37 : decode cX11_partsOfMost 37 = .ok (.aload_n 0, 1) := by decide +kernel
theorem dX11_partsOfMost_38 : decode cX11_partsOfMost 38 = .ok (.getfield 63, 3) := by decide +kernel
theorem dX11_partsOfMost_41 : decode cX11_partsOfMost 41 = .ok (.getfield 111, 3) := by decide +kernel
theorem dX11_partsOfMost_44 : decode cX11_partsOfMost 44 = .ok (.iload_n 1, 1) := by decide +kernel
theorem dX11_partsOfMost_45 : decode cX11_partsOfMost 45 = .ok (.invokevirtual 215, 3) := by decide +kernel
theorem dX11_partsOfMost_48 : decode cX11_partsOfMost 48 = .ok (.if_icmp .le 5, 3) := by decide +kernel
theorem dX11_partsOfMost_51 : decode cX11_partsOfMost 51 = .ok (.iload_n 2, 1) := by decide +kernel
theorem dX11_partsOfMost_52 : decode cX11_partsOfMost 52 = .ok (.istore_n 1, 1) := by decide +kernel
theorem dX11_partsOfMost_53 : decode cX11_partsOfMost 53 = .ok (.iinc 2 1, 3) := by decide +kernel
theorem dX11_partsOfMost_56 : decode cX11_partsOfMost 56 = .ok (.goto (-52), 3) := by decide +kernel
theorem dX11_partsOfMost_59 : decode cX11_partsOfMost 59 = .ok (.iload_n 1, 1) := by decide +kernel
theorem dX11_partsOfMost_60 : decode cX11_partsOfMost 60 = .ok (.ireturn, 1) := by decide +kernel
theorem dX11_firstBetter_0 : decode cX11_firstBetter 0 = .ok (.aload_n 0, 1) := by decide +kernel
theorem dX11_firstBetter_1 : decode cX11_firstBetter 1 = .ok (.getfield 28, 3) := by decide +kernel
theorem dX11_firstBetter_4 : decode cX11_firstBetter 4 = .ok (.aload_n 0, 1) := by decide +kernel
theorem dX11_firstBetter_5 : decode cX11_firstBetter 5 = .ok (.getfield 63, 3) := by decide +kernel
theorem dX11_firstBetter_8 : decode cX11_firstBetter 8 = .ok (.getfield 111, 3) := by decide +kernel
theorem dX11_firstBetter_11 : decode cX11_firstBetter 11 = .ok (.iload_n 1, 1) := by decide +kernel
theorem dX11_firstBetter_12 : decode cX11_firstBetter 12 = .ok (.invokevirtual 215, 3) := by decide +kernel
theorem dX11_firstBetter_15 : decode cX11_firstBetter 15 = .ok (.istore_n 2, 1) := by decide +kernel
theorem dX11_firstBetter_16 : decode cX11_firstBetter 16 = .ok (.iconst 0, 1) := by decide +kernel
theorem dX11_firstBetter_17 : decode cX11_firstBetter 17 = .ok (.istore_n 3, 1) := by decide +kernel
theorem dX11_firstBetter_18 : decode cX11_firstBetter 18 = .ok (.iload_n 3, 1) := by decide +kernel
theorem dX11_firstBetter_19 : decode cX11_firstBetter 19 = .ok (.aload_n 0, 1) := by decide +kernel
theorem dX11_firstBetter_20 : decode cX11_firstBetter 20 = .ok (.getfield 63, 3) := by decide +kernel
theorem dX11_firstBetter_23 : decode cX11_firstBetter 23 = .ok (.getfield 111, 3) := by decide +kernel
theorem dX11_firstBetter_26 : decode cX11_firstBetter 26 = .ok (.getfield 308, 3) := by decide +kernel
theorem dX11_firstBetter_29 : decode cX11_firstBetter 29 = .ok (.if_icmp .ge 39, 3) := by decide +kernel
theorem dX11_firstBetter_32 : decode cX11_firstBetter 32 = .ok (.iload_n 1, 1) := by decide +kernel
theorem dX11_firstBetter_33 : decode cX11_firstBetter 33 = .ok (.iconst 1, 1) := by decide +kernel
theorem dX11_firstBetter_34 : decode cX11_firstBetter 34 = .ok (.iload_n 3, 1) := by decide +kernel
theorem dX11_firstBetter_35 : decode cX11_firstBetter 35 = .ok (.ishl, 1) := by decide +kernel
theorem dX11_firstBetter_36 : decode cX11_firstBetter 36 = .ok (.ixor, 1) := by decide +kernel
theorem dX11_firstBetter_37 : decode cX11_firstBetter 37 = .ok (.istore 4, 2) := by decide +kernel
theorem dX11_firstBetter_39 : decode cX11_firstBetter 39 = .ok (.aload_n 0, 1) := by decide +kernel
theorem dX11_firstBetter_40 : decode cX11_firstBetter 40 = .ok (.getfield 28, 3) := by decide +kernel
theorem dX11_firstBetter_43 : decode cX11_firstBetter 43 = .ok (.aload_n 0, 1) := by decide +kernel
theorem dX11_firstBetter_44 : decode cX11_firstBetter 44 = .ok (.getfield 63, 3) := by decide +kernel
theorem dX11_firstBetter_47 : decode cX11_firstBetter 47 = .ok (.getfield 111, 3) := by decide +kernel
theorem dX11_firstBetter_50 : decode cX11_firstBetter 50 = .ok (.iload 4, 2) := by decide +kernel
theorem dX11_firstBetter_52 : decode cX11_firstBetter 52 = .ok (.invokevirtual 215, 3) := by decide +kernel
theorem dX11_firstBetter_55 : decode cX11_firstBetter 55 = .ok (.iload_n 2, 1) := by decide +kernel
theorem dX11_firstBetter_56 : decode cX11_firstBetter 56 = .ok (.if_icmp .le 6, 3) := by decide +kernel
theorem dX11_firstBetter_59 : decode cX11_firstBetter 59 = .ok (.iload 4, 2) := by decide +kernel
theorem dX11_firstBetter_61 : decode cX11_firstBetter 61 = .ok (.ireturn, 1) := by decide +kernel
theorem dX11_firstBetter_62 : decode cX11_firstBetter 62 = .ok (.iinc 3 1, 3) := by decide +kernel
theorem dX11_firstBetter_65 : decode cX11_firstBetter 65 = .ok (.goto (-47), 3) := by decide +kernel
theorem dX11_firstBetter_68 : decode cX11_firstBetter 68 = .ok (.iload_n 1, 1) := by decide +kernel
theorem dX11_firstBetter_69 : decode cX11_firstBetter 69 = .ok (.ireturn, 1) := by decide +kernel
theorem dX11_findRests_0 : decode cX11_findRests 0 = .ok (.aload_n 1, 1) := by decide +kernel
theorem dX11_findRests_1 : decode cX11_findRests 1 = .ok (.iconst 0, 1) := by decide +kernel
theorem dX11_findRests_2 : decode cX11_findRests 2 = .ok (.putfield 244, 3) := by decide +kernel
theorem dX11_findRests_5 : decode cX11_findRests 5 = .ok (.iconst 0, 1) := by decide +kernel
theorem dX11_findRests_6 : decode cX11_findRests 6 = .ok (.istore_n 2, 1) := by decide +kernel
theorem dX11_findRests_7 : decode cX11_findRests 7 = .ok (.iload_n 2, 1) := by decide +kernel
theorem dX11_findRests_8 : decode cX11_findRests 8 = .ok (.aload_n 0, 1) := by decide +kernel
theorem dX11_findRests_9 : decode cX11_findRests 9 = .ok (.invokevirtual 226, 3) := by decide +kernel
theorem dX11_findRests_12 : decode cX11_findRests 12 = .ok (.if_icmp .ge 37, 3) := by decide +kernel
theorem dX11_findRests_15 : decode cX11_findRests 15 = .ok (.aload_n 0, 1) := by decide +kernel
theorem dX11_findRests_16 : decode cX11_findRests 16 = .ok (.iload_n 2, 1) := by decide +kernel
theorem dX11_findRests_17 : decode cX11_findRests 17 = .ok (.invokevirtual 344, 3) := by decide +kernel
theorem dX11_findRests_20 : decode cX11_findRests 20 = .ok (.ifCond .eq 23, 3) := by decide +kernel
theorem dX11_findRests_23 : decode cX11_findRests 23 = .ok (.aload_n 1, 1) := by decide +kernel
theorem dX11_findRests_24 : decode cX11_findRests 24 = .ok (.getfield 253, 3) := by decide +kernel
theorem dX11_findRests_27 : decode cX11_findRests 27 = .ok (.aload_n 1, 1) := by decide +kernel
theorem dX11_findRests_28 : decode cX11_findRests 28 = .ok (.getfield 244, 3) := by decide +kernel
theorem dX11_findRests_31 : decode cX11_findRests 31 = .ok (.iload_n 2, 1) := by decide +kernel
theorem dX11_findRests_32 : decode cX11_findRests 32 = .ok (.iastore, 1) := by decide +kernel
theorem dX11_findRests_33 : decode cX11_findRests 33 = .ok (.aload_n 1, 1) := by decide +kernel
theorem dX11_findRests_34 : decode cX11_findRests 34 = .ok (.dup, 1) := by decide +kernel
theorem dX11_findRests_35 : decode cX11_findRests 35 = .ok (.getfield 244, 3) := by decide +kernel
theorem dX11_findRests_38 : decode cX11_findRests 38 = .ok (.iconst 1, 1) := by decide +kernel
theorem dX11_findRests_39 : decode cX11_findRests 39 = .ok (.iadd, 1) := by decide +kernel
theorem dX11_findRests_40 : decode cX11_findRests 40 = .ok (.putfield 244, 3) := by decide +kernel
theorem dX11_findRests_43 : decode cX11_findRests 43 = .ok (.iinc 2 1, 3) := by decide +kernel
theorem dX11_findRests_46 : decode cX11_findRests 46 = .ok (.goto (-39), 3) := by decide +kernel
theorem dX11_findRests_49 : decode cX11_findRests 49 = .ok (.return_, 1) := by decide +kernel
theorem dX11_goesBetween_0 : decode cX11_goesBetween 0 = .ok (.aload_n 0, 1) := by decide +kernel
theorem dX11_goesBetween_1 : decode cX11_goesBetween 1 = .ok (.getfield 63, 3) := by decide +kernel
theorem dX11_goesBetween_4 : decode cX11_goesBetween 4 = .ok (.getfield 111, 3) := by decide +kernel
theorem dX11_goesBetween_7 : decode cX11_goesBetween 7 = .ok (.astore_n 3, 1) := by decide +kernel
theorem dX11_goesBetween_8 : decode cX11_goesBetween 8 = .ok (.iload_n 2, 1) := by decide +kernel
theorem dX11_goesBetween_9 : decode cX11_goesBetween 9 = .ok (.aload_n 3, 1) := by decide +kernel
theorem dX11_goesBetween_10 : decode cX11_goesBetween 10 = .ok (.getfield 139, 3) := by decide +kernel
theorem dX11_goesBetween_13 : decode cX11_goesBetween 13 = .ok (.iload_n 1, 1) := by decide +kernel
theorem dX11_goesBetween_14 : decode cX11_goesBetween 14 = .ok (.iaload, 1) := by decide +kernel
theorem dX11_goesBetween_15 : decode cX11_goesBetween 15 = .ok (.if_icmp .lt 29, 3) := by decide +kernel
theorem dX11_goesBetween_18 : decode cX11_goesBetween 18 = .ok (.iload_n 2, 1) := by decide +kernel
theorem dX11_goesBetween_19 : decode cX11_goesBetween 19 = .ok (.aload_n 3, 1) := by decide +kernel
theorem dX11_goesBetween_20 : decode cX11_goesBetween 20 = .ok (.getfield 143, 3) := by decide +kernel
theorem dX11_goesBetween_23 : decode cX11_goesBetween 23 = .ok (.iload_n 1, 1) := by decide +kernel
theorem dX11_goesBetween_24 : decode cX11_goesBetween 24 = .ok (.iaload, 1) := by decide +kernel
theorem dX11_goesBetween_25 : decode cX11_goesBetween 25 = .ok (.if_icmp .gt 19, 3) := by decide +kernel
theorem dX11_goesBetween_28 : decode cX11_goesBetween 28 = .ok (.aload_n 0, 1) := by decide +kernel
theorem dX11_goesBetween_29 : decode cX11_goesBetween 29 = .ok (.getfield 63, 3) := by decide +kernel
theorem dX11_goesBetween_32 : decode cX11_goesBetween 32 = .ok (.getfield 114, 3) := by decide +kernel
theorem dX11_goesBetween_35 : decode cX11_goesBetween 35 = .ok (.aload_n 3, 1) := by decide +kernel
theorem dX11_goesBetween_36 : decode cX11_goesBetween 36 = .ok (.iload_n 1, 1) := by decide +kernel
theorem dX11_goesBetween_37 : decode cX11_goesBetween 37 = .ok (.iload_n 2, 1) := by decide +kernel
theorem dX11_goesBetween_38 : decode cX11_goesBetween 38 = .ok (.invokevirtual 199, 3) := by decide +kernel
theorem dX11_goesBetween_41 : decode cX11_goesBetween 41 = .ok (.ifCond .eq 5, 3) := by decide +kernel
theorem dX11_goesBetween_44 : decode cX11_goesBetween 44 = .ok (.iconst 0, 1) := by decide +kernel
theorem dX11_goesBetween_45 : decode cX11_goesBetween 45 = .ok (.ireturn, 1) := by decide +kernel
theorem dX11_goesBetween_46 : decode cX11_goesBetween 46 = .ok (.iconst 0, 1) := by decide +kernel
theorem dX11_goesBetween_47 : decode cX11_goesBetween 47 = .ok (.istore 4, 2) := by decide +kernel
theorem dX11_goesBetween_49 : decode cX11_goesBetween 49 = .ok (.iconst 0, 1) := by decide +kernel
theorem dX11_goesBetween_50 : decode cX11_goesBetween 50 = .ok (.istore 5, 2) := by decide +kernel
theorem dX11_goesBetween_52 : decode cX11_goesBetween 52 = .ok (.iconst 0, 1) := by decide +kernel
theorem dX11_goesBetween_53 : decode cX11_goesBetween 53 = .ok (.istore 6, 2) := by decide +kernel
theorem dX11_goesBetween_55 : decode cX11_goesBetween 55 = .ok (.iload 6, 2) := by decide +kernel
theorem dX11_goesBetween_57 : decode cX11_goesBetween 57 = .ok (.aload_n 3, 1) := by decide +kernel
theorem dX11_goesBetween_58 : decode cX11_goesBetween 58 = .ok (.getfield 202, 3) := by decide +kernel
theorem dX11_goesBetween_61 : decode cX11_goesBetween 61 = .ok (.if_icmp .ge 153, 3) := by decide +kernel
theorem dX11_goesBetween_64 : decode cX11_goesBetween 64 = .ok (.aload_n 3, 1) := by decide +kernel
theorem dX11_goesBetween_65 : decode cX11_goesBetween 65 = .ok (.getfield 163, 3) := by decide +kernel
theorem dX11_goesBetween_68 : decode cX11_goesBetween 68 = .ok (.iload 6, 2) := by decide +kernel
theorem dX11_goesBetween_70 : decode cX11_goesBetween 70 = .ok (.iaload, 1) := by decide +kernel
theorem dX11_goesBetween_71 : decode cX11_goesBetween 71 = .ok (.iload_n 2, 1) := by decide +kernel
theorem dX11_goesBetween_72 : decode cX11_goesBetween 72 = .ok (.if_icmp .ne 136, 3) := by decide +kernel
theorem dX11_goesBetween_75 : decode cX11_goesBetween 75 = .ok (.aload_n 3, 1) := by decide +kernel
theorem dX11_goesBetween_76 : decode cX11_goesBetween 76 = .ok (.iload 6, 2) := by decide +kernel
theorem dX11_goesBetween_78 : decode cX11_goesBetween 78 = .ok (.iload_n 1, 1) := by decide +kernel
theorem dX11_goesBetween_79 : decode cX11_goesBetween 79 = .ok (.invokevirtual 347, 3) := by decide +kernel
theorem dX11_goesBetween_82 : decode cX11_goesBetween 82 = .ok (.ifCond .eq 126, 3) := by decide +kernel
theorem dX11_goesBetween_85 : decode cX11_goesBetween 85 = .ok (.aload_n 0, 1) := by decide +kernel
theorem dX11_goesBetween_86 : decode cX11_goesBetween 86 = .ok (.getfield 63, 3) := by decide +kernel
theorem dX11_goesBetween_89 : decode cX11_goesBetween 89 = .ok (.getfield 114, 3) := by decide +kernel
theorem dX11_goesBetween_92 : decode cX11_goesBetween 92 = .ok (.iload 6, 2) := by decide +kernel
theorem dX11_goesBetween_94 : decode cX11_goesBetween 94 = .ok (.invokevirtual 175, 3) := by decide +kernel
theorem dX11_goesBetween_97 : decode cX11_goesBetween 97 = .ok (.ifCond .eq 6, 3) := by decide +kernel
theorem dX11_goesBetween_100 : decode cX11_goesBetween 100 = .ok (.goto 108, 3) := by decide +kernel
theorem dX11_goesBetween_103 : decode cX11_goesBetween 103 = .ok (.aload_n 3, 1) := by decide +kernel
theorem dX11_goesBetween_104 : decode cX11_goesBetween 104 = .ok (.iload 6, 2) := by decide +kernel
theorem dX11_goesBetween_106 : decode cX11_goesBetween 106 = .ok (.iload_n 1, 1) := by decide +kernel
theorem dX11_goesBetween_107 : decode cX11_goesBetween 107 = .ok (.invokevirtual 350, 3) := by decide +kernel
theorem dX11_goesBetween_110 : decode cX11_goesBetween 110 = .ok (.istore 7, 2) := by decide +kernel
theorem dX11_goesBetween_112 : decode cX11_goesBetween 112 = .ok (.aload_n 0, 1) := by decide +kernel
theorem dX11_goesBetween_113 : decode cX11_goesBetween 113 = .ok (.getfield 63, 3) := by decide +kernel
theorem dX11_goesBetween_116 : decode cX11_goesBetween 116 = .ok (.getfield 114, 3) := by decide +kernel
theorem dX11_goesBetween_119 : decode cX11_goesBetween 119 = .ok (.aload_n 3, 1) := by decide +kernel
theorem dX11_goesBetween_120 : decode cX11_goesBetween 120 = .ok (.iload 7, 2) := by decide +kernel
theorem dX11_goesBetween_122 : decode cX11_goesBetween 122 = .ok (.iload_n 2, 1) := by decide +kernel
theorem dX11_goesBetween_123 : decode cX11_goesBetween 123 = .ok (.invokevirtual 199, 3) := by decide +kernel
theorem dX11_goesBetween_126 : decode cX11_goesBetween 126 = .ok (.istore 8, 2) := by decide +kernel
theorem dX11_goesBetween_128 : decode cX11_goesBetween 128 = .ok (.aload_n 3, 1) := by decide +kernel
theorem dX11_goesBetween_129 : decode cX11_goesBetween 129 = .ok (.getfield 172, 3) := by decide +kernel
theorem dX11_goesBetween_132 : decode cX11_goesBetween 132 = .ok (.iload 6, 2) := by decide +kernel
theorem dX11_goesBetween_134 : decode cX11_goesBetween 134 = .ok (.iaload, 1) := by decide +kernel
theorem dX11_goesBetween_135 : decode cX11_goesBetween 135 = .ok (.iconst 1, 1) := by decide +kernel
theorem dX11_goesBetween_136 : decode cX11_goesBetween 136 = .ok (.if_icmp .ne 7, 3) := by decide +kernel
theorem dX11_goesBetween_139 : decode cX11_goesBetween 139 = .ok (.iconst 1, 1) := by decide +kernel
theorem dX11_goesBetween_140 : decode cX11_goesBetween 140 = .ok (.goto 4, 3) := by decide +kernel
theorem dX11_goesBetween_143 : decode cX11_goesBetween 143 = .ok (.iconst 0, 1) := by decide +kernel
theorem dX11_goesBetween_144 : decode cX11_goesBetween 144 = .ok (.istore 9, 2) := by decide +kernel
theorem dX11_goesBetween_146 : decode cX11_goesBetween 146 = .ok (.aload_n 3, 1) := by decide +kernel
theorem dX11_goesBetween_147 : decode cX11_goesBetween 147 = .ok (.getfield 160, 3) := by decide +kernel
theorem dX11_goesBetween_150 : decode cX11_goesBetween 150 = .ok (.iload 6, 2) := by decide +kernel
theorem dX11_goesBetween_152 : decode cX11_goesBetween 152 = .ok (.iaload, 1) := by decide +kernel
theorem dX11_goesBetween_153 : decode cX11_goesBetween 153 = .ok (.iload_n 1, 1) := by decide +kernel
theorem dX11_goesBetween_154 : decode cX11_goesBetween 154 = .ok (.if_icmp .eq 8, 3) := by decide +kernel
theorem dX11_goesBetween_157 : decode cX11_goesBetween 157 = .ok (.iload 9, 2) := by decide +kernel
theorem dX11_goesBetween_159 : decode cX11_goesBetween 159 = .ok (.ifCond .eq 18, 3) := by decide +kernel
theorem dX11_goesBetween_162 : decode cX11_goesBetween 162 = .ok (.iload 8, 2) := by decide +kernel
theorem dX11_goesBetween_164 : decode cX11_goesBetween 164 = .ok (.iconst 2, 1) := by decide +kernel
theorem dX11_goesBetween_165 : decode cX11_goesBetween 165 = .ok (.if_icmp .eq 12, 3) := by decide +kernel
theorem dX11_goesBetween_168 : decode cX11_goesBetween 168 = .ok (.iload 4, 2) := by decide +kernel
theorem dX11_goesBetween_170 : decode cX11_goesBetween 170 = .ok (.iconst 1, 1) := by decide +kernel
theorem dX11_goesBetween_171 : decode cX11_goesBetween 171 = .ok (.iload 7, 2) := by decide +kernel
theorem dX11_goesBetween_173 : decode cX11_goesBetween 173 = .ok (.ishl, 1) := by decide +kernel
theorem dX11_goesBetween_174 : decode cX11_goesBetween 174 = .ok (.ior, 1) := by decide +kernel
theorem dX11_goesBetween_175 : decode cX11_goesBetween 175 = .ok (.istore 4, 2) := by decide +kernel
theorem dX11_goesBetween_177 : decode cX11_goesBetween 177 = .ok (.aload_n 3, 1) := by decide +kernel
theorem dX11_goesBetween_178 : decode cX11_goesBetween 178 = .ok (.getfield 157, 3) := by decide +kernel
theorem dX11_goesBetween_181 : decode cX11_goesBetween 181 = .ok (.iload 6, 2) := by decide +kernel
theorem dX11_goesBetween_183 : decode cX11_goesBetween 183 = .ok (.iaload, 1) := by decide +kernel
theorem dX11_goesBetween_184 : decode cX11_goesBetween 184 = .ok (.iload_n 1, 1) := by decide +kernel
theorem dX11_goesBetween_185 : decode cX11_goesBetween 185 = .ok (.if_icmp .eq 8, 3) := by decide +kernel
theorem dX11_goesBetween_188 : decode cX11_goesBetween 188 = .ok (.iload 9, 2) := by decide +kernel
theorem dX11_goesBetween_190 : decode cX11_goesBetween 190 = .ok (.ifCond .eq 18, 3) := by decide +kernel
theorem dX11_goesBetween_193 : decode cX11_goesBetween 193 = .ok (.iload 8, 2) := by decide +kernel
theorem dX11_goesBetween_195 : decode cX11_goesBetween 195 = .ok (.iconst 1, 1) := by decide +kernel
theorem dX11_goesBetween_196 : decode cX11_goesBetween 196 = .ok (.if_icmp .eq 12, 3) := by decide +kernel
theorem dX11_goesBetween_199 : decode cX11_goesBetween 199 = .ok (.iload 5, 2) := by decide +kernel
theorem dX11_goesBetween_201 : decode cX11_goesBetween 201 = .ok (.iconst 1, 1) := by decide +kernel
theorem dX11_goesBetween_202 : decode cX11_goesBetween 202 = .ok (.iload 7, 2) := by decide +kernel
theorem dX11_goesBetween_204 : decode cX11_goesBetween 204 = .ok (.ishl, 1) := by decide +kernel
theorem dX11_goesBetween_205 : decode cX11_goesBetween 205 = .ok (.ior, 1) := by decide +kernel
theorem dX11_goesBetween_206 : decode cX11_goesBetween 206 = .ok (.istore 5, 2) := by decide +kernel
theorem dX11_goesBetween_208 : decode cX11_goesBetween 208 = .ok (.iinc 6 1, 3) := by decide +kernel
theorem dX11_goesBetween_211 : decode cX11_goesBetween 211 = .ok (.goto (-156), 3) := by decide +kernel
theorem dX11_goesBetween_214 : decode cX11_goesBetween 214 = .ok (.iload 4, 2) := by decide +kernel
theorem dX11_goesBetween_216 : decode cX11_goesBetween 216 = .ok (.ifCond .eq 24, 3) := by decide +kernel
theorem dX11_goesBetween_219 : decode cX11_goesBetween 219 = .ok (.iload 5, 2) := by decide +kernel
theorem dX11_goesBetween_221 : decode cX11_goesBetween 221 = .ok (.ifCond .eq 19, 3) := by decide +kernel
theorem dX11_goesBetween_224 : decode cX11_goesBetween 224 = .ok (.iload 4, 2) := by decide +kernel
theorem dX11_goesBetween_226 : decode cX11_goesBetween 226 = .ok (.iload 5, 2) := by decide +kernel
theorem dX11_goesBetween_228 : decode cX11_goesBetween 228 = .ok (.ior, 1) := by decide +kernel
theorem dX11_goesBetween_229 : decode cX11_goesBetween 229 = .ok (.invokestatic 300, 3) := by decide +kernel
theorem dX11_goesBetween_232 : decode cX11_goesBetween 232 = .ok (.iconst 1, 1) := by decide +kernel
theorem dX11_goesBetween_233 : decode cX11_goesBetween 233 = .ok (.if_icmp .le 7, 3) := by decide +kernel
theorem dX11_goesBetween_236 : decode cX11_goesBetween 236 = .ok (.iconst 1, 1) := by decide +kernel
theorem dX11_goesBetween_237 : decode cX11_goesBetween 237 = .ok (.goto 4, 3) := by decide +kernel
theorem dX11_goesBetween_240 : decode cX11_goesBetween 240 = .ok (.iconst 0, 1) := by decide +kernel
theorem dX11_goesBetween_241 : decode cX11_goesBetween 241 = .ok (.ireturn, 1) := by decide +kernel
theorem dX12_thrown_0 : decode cX12_thrown 0 = .ok (.aload_n 0, 1) := by decide +kernel
theorem dX12_thrown_1 : decode cX12_thrown 1 = .ok (.getfield 1, 3) := by decide +kernel
theorem dX12_thrown_4 : decode cX12_thrown 4 = .ok (.ireturn, 1) := by decide +kernel
theorem dX12_throwsIf_0 : decode cX12_throwsIf 0 = .ok (.aload_n 0, 1) := by decide +kernel
theorem dX12_throwsIf_1 : decode cX12_throwsIf 1 = .ok (.iload_n 1, 1) := by decide +kernel
theorem dX12_throwsIf_2 : decode cX12_throwsIf 2 = .ok (.ifCond .eq 7, 3) := by decide +kernel
theorem dX12_throwsIf_5 : decode cX12_throwsIf 5 = .ok (.iconst 1, 1) := by decide +kernel
theorem dX12_throwsIf_6 : decode cX12_throwsIf 6 = .ok (.goto 4, 3) := by decide +kernel
theorem dX12_throwsIf_9 : decode cX12_throwsIf 9 = .ok (.iconst 0, 1) := by decide +kernel
theorem dX12_throwsIf_10 : decode cX12_throwsIf 10 = .ok (.putfield 1, 3) := by decide +kernel
theorem dX12_throwsIf_13 : decode cX12_throwsIf 13 = .ok (.iload_n 1, 1) := by decide +kernel
theorem dX12_throwsIf_14 : decode cX12_throwsIf 14 = .ok (.ireturn, 1) := by decide +kernel
theorem dX12_feed_0 : decode cX12_feed 0 = .ok (.aload_n 0, 1) := by decide +kernel
theorem dX12_feed_1 : decode cX12_feed 1 = .ok (.iconst 0, 1) := by decide +kernel
theorem dX12_feed_2 : decode cX12_feed 2 = .ok (.putfield 1, 3) := by decide +kernel
theorem dX12_feed_5 : decode cX12_feed 5 = .ok (.aload_n 0, 1) := by decide +kernel
theorem dX12_feed_6 : decode cX12_feed 6 = .ok (.getfield 7, 3) := by decide +kernel
theorem dX12_feed_9 : decode cX12_feed 9 = .ok (.bipush 20, 2) := by decide +kernel
theorem dX12_feed_11 : decode cX12_feed 11 = .ok (.iadd, 1) := by decide +kernel
theorem dX12_feed_12 : decode cX12_feed 12 = .ok (.sipush 940, 3) := by decide +kernel
theorem dX12_feed_15 : decode cX12_feed 15 = .ok (.if_icmp .le 5, 3) := by decide +kernel
theorem dX12_feed_18 : decode cX12_feed 18 = .ok (.iconst (-1), 1) := by decide +kernel
theorem dX12_feed_19 : decode cX12_feed 19 = .ok (.ireturn, 1) := by decide +kernel
theorem dX12_feed_20 : decode cX12_feed 20 = .ok (.aload_n 0, 1) := by decide +kernel
theorem dX12_feed_21 : decode cX12_feed 21 = .ok (.iload_n 1, 1) := by decide +kernel
theorem dX12_feed_22 : decode cX12_feed 22 = .ok (.invokevirtual 10, 3) := by decide +kernel
theorem dX12_feed_25 : decode cX12_feed 25 = .ok (.aload_n 0, 1) := by decide +kernel
theorem dX12_feed_26 : decode cX12_feed 26 = .ok (.iload_n 2, 1) := by decide +kernel
theorem dX12_feed_27 : decode cX12_feed 27 = .ok (.invokevirtual 10, 3) := by decide +kernel
theorem dX12_feed_30 : decode cX12_feed 30 = .ok (.aload_n 0, 1) := by decide +kernel
theorem dX12_feed_31 : decode cX12_feed 31 = .ok (.iload_n 3, 1) := by decide +kernel
theorem dX12_feed_32 : decode cX12_feed 32 = .ok (.invokevirtual 10, 3) := by decide +kernel
theorem dX12_feed_35 : decode cX12_feed 35 = .ok (.aload_n 0, 1) := by decide +kernel
theorem dX12_feed_36 : decode cX12_feed 36 = .ok (.iload 4, 2) := by decide +kernel
theorem dX12_feed_38 : decode cX12_feed 38 = .ok (.invokevirtual 10, 3) := by decide +kernel
theorem dX12_feed_41 : decode cX12_feed 41 = .ok (.aload_n 0, 1) := by decide +kernel
theorem dX12_feed_42 : decode cX12_feed 42 = .ok (.iload 5, 2) := by decide +kernel
theorem dX12_feed_44 : decode cX12_feed 44 = .ok (.invokevirtual 10, 3) := by decide +kernel
theorem dX12_feed_47 : decode cX12_feed 47 = .ok (.aload_n 0, 1) := by decide +kernel
theorem dX12_feed_48 : decode cX12_feed 48 = .ok (.getfield 7, 3) := by decide +kernel
theorem dX12_feed_51 : decode cX12_feed 51 = .ok (.ireturn, 1) := by decide +kernel
theorem dX12_four_0 : decode cX12_four 0 = .ok (.bipush 24, 2) := by decide +kernel
theorem dX12_four_2 : decode cX12_four 2 = .ok (.istore_n 2, 1) := by decide +kernel
theorem dX12_four_3 : decode cX12_four 3 = .ok (.iload_n 2, 1) := by decide +kernel
theorem dX12_four_4 : decode cX12_four 4 = .ok (.ifCond .lt 32, 3) := by decide +kernel
theorem dX12_four_7 : decode cX12_four 7 = .ok (.aload_n 0, 1) := by decide +kernel
theorem dX12_four_8 : decode cX12_four 8 = .ok (.getfield 14, 3) := by decide +kernel
theorem dX12_four_11 : decode cX12_four 11 = .ok (.aload_n 0, 1) := by decide +kernel
theorem dX12_four_12 : decode cX12_four 12 = .ok (.getfield 7, 3) := by decide +kernel
theorem dX12_four_15 : decode cX12_four 15 = .ok (.iload_n 1, 1) := by decide +kernel
theorem dX12_four_16 : decode cX12_four 16 = .ok (.iload_n 2, 1) := by decide +kernel
theorem dX12_four_17 : decode cX12_four 17 = .ok (.ishr, 1) := by decide +kernel
theorem dX12_four_18 : decode cX12_four 18 = .ok (.i2b, 1) := by decide +kernel
theorem dX12_four_19 : decode cX12_four 19 = .ok (.bastore, 1) := by decide +kernel
theorem dX12_four_20 : decode cX12_four 20 = .ok (.aload_n 0, 1) := by decide +kernel
theorem dX12_four_21 : decode cX12_four 21 = .ok (.dup, 1) := by decide +kernel
theorem dX12_four_22 : decode cX12_four 22 = .ok (.getfield 7, 3) := by decide +kernel
theorem dX12_four_25 : decode cX12_four 25 = .ok (.iconst 1, 1) := by decide +kernel
theorem dX12_four_26 : decode cX12_four 26 = .ok (.iadd, 1) := by decide +kernel
theorem dX12_four_27 : decode cX12_four 27 = .ok (.putfield 7, 3) := by decide +kernel
theorem dX12_four_30 : decode cX12_four 30 = .ok (.iinc 2 (-8), 3) := by decide +kernel
theorem dX12_four_33 : decode cX12_four 33 = .ok (.goto (-30), 3) := by decide +kernel
theorem dX12_four_36 : decode cX12_four 36 = .ok (.return_, 1) := by decide +kernel
theorem dX12_end_0 : decode cX12_end 0 = .ok (.aload_n 0, 1) := by decide +kernel
theorem dX12_end_1 : decode cX12_end 1 = .ok (.iconst 0, 1) := by decide +kernel
theorem dX12_end_2 : decode cX12_end 2 = .ok (.putfield 1, 3) := by decide +kernel
theorem dX12_end_5 : decode cX12_end 5 = .ok (.iload_n 1, 1) := by decide +kernel
theorem dX12_end_6 : decode cX12_end 6 = .ok (.ifCond .lt 11, 3) := by decide +kernel
theorem dX12_end_9 : decode cX12_end 9 = .ok (.iload_n 1, 1) := by decide +kernel
theorem dX12_end_10 : decode cX12_end 10 = .ok (.aload_n 0, 1) := by decide +kernel
theorem dX12_end_11 : decode cX12_end 11 = .ok (.getfield 7, 3) := by decide +kernel
theorem dX12_end_14 : decode cX12_end 14 = .ok (.if_icmp .le 5, 3) := by decide +kernel
theorem dX12_end_17 : decode cX12_end 17 = .ok (.iconst 0, 1) := by decide +kernel
theorem dX12_end_18 : decode cX12_end 18 = .ok (.ireturn, 1) := by decide +kernel
theorem dX12_end_19 : decode cX12_end 19 = .ok (.aload_n 0, 1) := by decide +kernel
theorem dX12_end_20 : decode cX12_end 20 = .ok (.iload_n 1, 1) := by decide +kernel
theorem dX12_end_21 : decode cX12_end 21 = .ok (.putfield 7, 3) := by decide +kernel
theorem dX12_end_24 : decode cX12_end 24 = .ok (.iconst 1, 1) := by decide +kernel
theorem dX12_end_25 : decode cX12_end 25 = .ok (.ireturn, 1) := by decide +kernel
theorem dX12_taken_0 : decode cX12_taken 0 = .ok (.aload_n 0, 1) := by decide +kernel
theorem dX12_taken_1 : decode cX12_taken 1 = .ok (.aload_n 0, 1) := by decide +kernel
theorem dX12_taken_2 : decode cX12_taken 2 = .ok (.getfield 7, 3) := by decide +kernel
theorem dX12_taken_5 : decode cX12_taken 5 = .ok (.putfield 18, 3) := by decide +kernel
theorem dX12_taken_8 : decode cX12_taken 8 = .ok (.aload_n 0, 1) := by decide +kernel
theorem dX12_taken_9 : decode cX12_taken 9 = .ok (.iconst 0, 1) := by decide +kernel
theorem dX12_taken_10 : decode cX12_taken 10 = .ok (.putfield 7, 3) := by decide +kernel
theorem dX12_taken_13 : decode cX12_taken 13 = .ok (.aload_n 0, 1) := by decide +kernel
theorem dX12_taken_14 : decode cX12_taken 14 = .ok (.iconst 0, 1) := by decide +kernel
theorem dX12_taken_15 : decode cX12_taken 15 = .ok (.putfield 21, 3) := by decide +kernel
theorem dX12_taken_18 : decode cX12_taken 18 = .ok (.aload_n 0, 1) := by decide +kernel
theorem dX12_taken_19 : decode cX12_taken 19 = .ok (.iload_n 1, 1) := by decide +kernel
theorem dX12_taken_20 : decode cX12_taken 20 = .ok (.putfield 24, 3) := by decide +kernel
theorem dX12_taken_23 : decode cX12_taken 23 = .ok (.return_, 1) := by decide +kernel
theorem dX12_isIn_0 : decode cX12_isIn 0 = .ok (.iload_n 0, 1) := by decide +kernel
theorem dX12_isIn_1 : decode cX12_isIn 1 = .ok (.iload_n 1, 1) := by decide +kernel
theorem dX12_isIn_2 : decode cX12_isIn 2 = .ok (.if_icmp .lt 12, 3) := by decide +kernel
theorem dX12_isIn_5 : decode cX12_isIn 5 = .ok (.iload_n 0, 1) := by decide +kernel
theorem dX12_isIn_6 : decode cX12_isIn 6 = .ok (.iload_n 2, 1) := by decide +kernel
theorem dX12_isIn_7 : decode cX12_isIn 7 = .ok (.if_icmp .gt 7, 3) := by decide +kernel
theorem dX12_isIn_10 : decode cX12_isIn 10 = .ok (.iconst 1, 1) := by decide +kernel
theorem dX12_isIn_11 : decode cX12_isIn 11 = .ok (.goto 4, 3) := by decide +kernel
theorem dX12_isIn_14 : decode cX12_isIn 14 = .ok (.iconst 0, 1) := by decide +kernel
theorem dX12_isIn_15 : decode cX12_isIn 15 = .ok (.ireturn, 1) := by decide +kernel
theorem dX12_has_0 : decode cX12_has 0 = .ok (.iload_n 0, 1) := by decide +kernel
theorem dX12_has_1 : decode cX12_has 1 = .ok (.iload_n 1, 1) := by decide +kernel
theorem dX12_has_2 : decode cX12_has 2 = .ok (.ishr, 1) := by decide +kernel
theorem dX12_has_3 : decode cX12_has 3 = .ok (.iconst 1, 1) := by decide +kernel
theorem dX12_has_4 : decode cX12_has 4 = .ok (.iand, 1) := by decide +kernel
theorem dX12_has_5 : decode cX12_has 5 = .ok (.iconst 1, 1) := by decide +kernel
theorem dX12_has_6 : decode cX12_has 6 = .ok (.if_icmp .ne 7, 3) := by decide +kernel
theorem dX12_has_9 : decode cX12_has 9 = .ok (.iconst 1, 1) := by decide +kernel
theorem dX12_has_10 : decode cX12_has 10 = .ok (.goto 4, 3) := by decide +kernel
theorem dX12_has_13 : decode cX12_has 13 = .ok (.iconst 0, 1) := by decide +kernel
theorem dX12_has_14 : decode cX12_has 14 = .ok (.ireturn, 1) := by decide +kernel
theorem dX12_bits_0 : decode cX12_bits 0 = .ok (.iconst 0, 1) := by decide +kernel
theorem dX12_bits_1 : decode cX12_bits 1 = .ok (.istore_n 1, 1) := by decide +kernel
theorem dX12_bits_2 : decode cX12_bits 2 = .ok (.iload_n 0, 1) := by decide +kernel
theorem dX12_bits_3 : decode cX12_bits 3 = .ok (.istore_n 2, 1) := by decide +kernel
theorem dX12_bits_4 : decode cX12_bits 4 = .ok (.iload_n 2, 1) := by decide +kernel
theorem dX12_bits_5 : decode cX12_bits 5 = .ok (.ifCond .eq 15, 3) := by decide +kernel
theorem dX12_bits_8 : decode cX12_bits 8 = .ok (.iinc 1 1, 3) := by decide +kernel
theorem dX12_bits_11 : decode cX12_bits 11 = .ok (.iload_n 2, 1) := by decide +kernel
theorem dX12_bits_12 : decode cX12_bits 12 = .ok (.iload_n 2, 1) := by decide +kernel
theorem dX12_bits_13 : decode cX12_bits 13 = .ok (.iconst 1, 1) := by decide +kernel
theorem dX12_bits_14 : decode cX12_bits 14 = .ok (.isub, 1) := by decide +kernel
theorem dX12_bits_15 : decode cX12_bits 15 = .ok (.iand, 1) := by decide +kernel
theorem dX12_bits_16 : decode cX12_bits 16 = .ok (.istore_n 2, 1) := by decide +kernel
theorem dX12_bits_17 : decode cX12_bits 17 = .ok (.goto (-13), 3) := by decide +kernel
theorem dX12_bits_20 : decode cX12_bits 20 = .ok (.iload_n 1, 1) := by decide +kernel
theorem dX12_bits_21 : decode cX12_bits 21 = .ok (.ireturn, 1) := by decide +kernel
theorem dX12_octet_0 : decode cX12_octet 0 = .ok (.aload_n 0, 1) := by decide +kernel
theorem dX12_octet_1 : decode cX12_octet 1 = .ok (.getfield 14, 3) := by decide +kernel
theorem dX12_octet_4 : decode cX12_octet 4 = .ok (.iload_n 1, 1) := by decide +kernel
theorem dX12_octet_5 : decode cX12_octet 5 = .ok (.baload, 1) := by decide +kernel
theorem dX12_octet_6 : decode cX12_octet 6 = .ok (.sipush 255, 3) := by decide +kernel
theorem dX12_octet_9 : decode cX12_octet 9 = .ok (.iand, 1) := by decide +kernel
theorem dX12_octet_10 : decode cX12_octet 10 = .ok (.ireturn, 1) := by decide +kernel
theorem dX12_init_0 : decode cX12_init 0 = .ok (.aload_n 0, 1) := by decide +kernel
theorem dX12_init_1 : decode cX12_init 1 = .ok (.invokespecial 27, 3) := by decide +kernel
theorem dX12_init_4 : decode cX12_init 4 = .ok (.aload_n 0, 1) := by decide +kernel
theorem dX12_init_5 : decode cX12_init 5 = .ok (.sipush 940, 3) := by decide +kernel
theorem dX12_init_8 : decode cX12_init 8 = .ok (.newarray .byte, 2) := by decide +kernel
theorem dX12_init_10 : decode cX12_init 10 = .ok (.putfield 14, 3) := by decide +kernel
theorem dX12_init_13 : decode cX12_init 13 = .ok (.aload_n 0, 1) := by decide +kernel
theorem dX12_init_14 : decode cX12_init 14 = .ok (.sipush 284, 3) := by decide +kernel
theorem dX12_init_17 : decode cX12_init 17 = .ok (.newarray .int, 2) := by decide +kernel
theorem dX12_init_19 : decode cX12_init 19 = .ok (.putfield 33, 3) := by decide +kernel
theorem dX12_init_22 : decode cX12_init 22 = .ok (.aload_n 0, 1) := by decide +kernel
theorem dX12_init_23 : decode cX12_init 23 = .ok (.sipush 224, 3) := by decide +kernel
theorem dX12_init_26 : decode cX12_init 26 = .ok (.newarray .int, 2) := by decide +kernel
theorem dX12_init_28 : decode cX12_init 28 = .ok (.putfield 37, 3) := by decide +kernel
theorem dX12_init_31 : decode cX12_init 31 = .ok (.aload_n 0, 1) := by decide +kernel
theorem dX12_init_32 : decode cX12_init 32 = .ok (.bipush 40, 2) := by decide +kernel
theorem dX12_init_34 : decode cX12_init 34 = .ok (.newarray .int, 2) := by decide +kernel
theorem dX12_init_36 : decode cX12_init 36 = .ok (.putfield 40, 3) := by decide +kernel
theorem dX12_init_39 : decode cX12_init 39 = .ok (.aload_n 0, 1) := by decide +kernel
theorem dX12_init_40 : decode cX12_init 40 = .ok (.bipush 40, 2) := by decide +kernel
theorem dX12_init_42 : decode cX12_init 42 = .ok (.newarray .int, 2) := by decide +kernel
theorem dX12_init_44 : decode cX12_init 44 = .ok (.putfield 43, 3) := by decide +kernel
theorem dX12_init_47 : decode cX12_init 47 = .ok (.aload_n 0, 1) := by decide +kernel
theorem dX12_init_48 : decode cX12_init 48 = .ok (.bipush 80, 2) := by decide +kernel
theorem dX12_init_50 : decode cX12_init 50 = .ok (.newarray .long, 2) := by decide +kernel
theorem dX12_init_52 : decode cX12_init 52 = .ok (.putfield 46, 3) := by decide +kernel
theorem dX12_init_55 : decode cX12_init 55 = .ok (.aload_n 0, 1) := by decide +kernel
theorem dX12_init_56 : decode cX12_init 56 = .ok (.bipush 11, 2) := by decide +kernel
theorem dX12_init_58 : decode cX12_init 58 = .ok (.newarray .long, 2) := by decide +kernel
theorem dX12_init_60 : decode cX12_init 60 = .ok (.putfield 50, 3) := by decide +kernel
theorem dX12_init_63 : decode cX12_init 63 = .ok (.aload_n 0, 1) := by decide +kernel
theorem dX12_init_64 : decode cX12_init 64 = .ok (.bipush 10, 2) := by decide +kernel
theorem dX12_init_66 : decode cX12_init 66 = .ok (.newarray .int, 2) := by decide +kernel
theorem dX12_init_68 : decode cX12_init 68 = .ok (.putfield 53, 3) := by decide +kernel
theorem dX12_init_71 : decode cX12_init 71 = .ok (.aload_n 0, 1) := by decide +kernel
theorem dX12_init_72 : decode cX12_init 72 = .ok (.bipush 10, 2) := by decide +kernel
theorem dX12_init_74 : decode cX12_init 74 = .ok (.newarray .int, 2) := by decide +kernel
theorem dX12_init_76 : decode cX12_init 76 = .ok (.putfield 56, 3) := by decide +kernel
theorem dX12_init_79 : decode cX12_init 79 = .ok (.aload_n 0, 1) := by decide +kernel
theorem dX12_init_80 : decode cX12_init 80 = .ok (.bipush 60, 2) := by decide +kernel
theorem dX12_init_82 : decode cX12_init 82 = .ok (.newarray .int, 2) := by decide +kernel
theorem dX12_init_84 : decode cX12_init 84 = .ok (.putfield 59, 3) := by decide +kernel
theorem dX12_init_87 : decode cX12_init 87 = .ok (.aload_n 0, 1) := by decide +kernel
theorem dX12_init_88 : decode cX12_init 88 = .ok (.bipush 30, 2) := by decide +kernel
theorem dX12_init_90 : decode cX12_init 90 = .ok (.newarray .int, 2) := by decide +kernel
theorem dX12_init_92 : decode cX12_init 92 = .ok (.putfield 62, 3) := by decide +kernel
theorem dX12_init_95 : decode cX12_init 95 = .ok (.aload_n 0, 1) := by decide +kernel
theorem dX12_init_96 : decode cX12_init 96 = .ok (.bipush 10, 2) := by decide +kernel
theorem dX12_init_98 : decode cX12_init 98 = .ok (.newarray .int, 2) := by decide +kernel
theorem dX12_init_100 : decode cX12_init 100 = .ok (.putfield 65, 3) := by decide +kernel
theorem dX12_init_103 : decode cX12_init 103 = .ok (.aload_n 0, 1) := by decide +kernel
theorem dX12_init_104 : decode cX12_init 104 = .ok (.bipush 10, 2) := by decide +kernel
theorem dX12_init_106 : decode cX12_init 106 = .ok (.newarray .int, 2) := by decide +kernel
theorem dX12_init_108 : decode cX12_init 108 = .ok (.putfield 68, 3) := by decide +kernel
theorem dX12_init_111 : decode cX12_init 111 = .ok (.aload_n 0, 1) := by decide +kernel
theorem dX12_init_112 : decode cX12_init 112 = .ok (.bipush 30, 2) := by decide +kernel
theorem dX12_init_114 : decode cX12_init 114 = .ok (.newarray .int, 2) := by decide +kernel
theorem dX12_init_116 : decode cX12_init 116 = .ok (.putfield 71, 3) := by decide +kernel
theorem dX12_init_119 : decode cX12_init 119 = .ok (.aload_n 0, 1) := by decide +kernel
theorem dX12_init_120 : decode cX12_init 120 = .ok (.bipush 30, 2) := by decide +kernel
theorem dX12_init_122 : decode cX12_init 122 = .ok (.newarray .int, 2) := by decide +kernel
theorem dX12_init_124 : decode cX12_init 124 = .ok (.putfield 74, 3) := by decide +kernel
theorem dX12_init_127 : decode cX12_init 127 = .ok (.aload_n 0, 1) := by decide +kernel
theorem dX12_init_128 : decode cX12_init 128 = .ok (.bipush 30, 2) := by decide +kernel
theorem dX12_init_130 : decode cX12_init 130 = .ok (.newarray .int, 2) := by decide +kernel
theorem dX12_init_132 : decode cX12_init 132 = .ok (.putfield 77, 3) := by decide +kernel
theorem dX12_init_135 : decode cX12_init 135 = .ok (.aload_n 0, 1) := by decide +kernel
theorem dX12_init_136 : decode cX12_init 136 = .ok (.bipush 30, 2) := by decide +kernel
theorem dX12_init_138 : decode cX12_init 138 = .ok (.newarray .boolean, 2) := by decide +kernel
theorem dX12_init_140 : decode cX12_init 140 = .ok (.putfield 80, 3) := by decide +kernel
theorem dX12_init_143 : decode cX12_init 143 = .ok (.aload_n 0, 1) := by decide +kernel
theorem dX12_init_144 : decode cX12_init 144 = .ok (.sipush 1024, 3) := by decide +kernel
theorem dX12_init_147 : decode cX12_init 147 = .ok (.newarray .int, 2) := by decide +kernel
theorem dX12_init_149 : decode cX12_init 149 = .ok (.putfield 84, 3) := by decide +kernel
theorem dX12_init_152 : decode cX12_init 152 = .ok (.aload_n 0, 1) := by decide +kernel
theorem dX12_init_153 : decode cX12_init 153 = .ok (.sipush 1024, 3) := by decide +kernel
theorem dX12_init_156 : decode cX12_init 156 = .ok (.newarray .int, 2) := by decide +kernel
theorem dX12_init_158 : decode cX12_init 158 = .ok (.putfield 87, 3) := by decide +kernel
theorem dX12_init_161 : decode cX12_init 161 = .ok (.aload_n 0, 1) := by decide +kernel
theorem dX12_init_162 : decode cX12_init 162 = .ok (.iconst 2, 1) := by decide +kernel
theorem dX12_init_163 : decode cX12_init 163 = .ok (.newarray .int, 2) := by decide +kernel
theorem dX12_init_165 : decode cX12_init 165 = .ok (.putfield 90, 3) := by decide +kernel
theorem dX12_init_168 : decode cX12_init 168 = .ok (.aload_n 0, 1) := by decide +kernel
theorem dX12_init_169 : decode cX12_init 169 = .ok (.bipush 120, 2) := by decide +kernel
theorem dX12_init_171 : decode cX12_init 171 = .ok (.newarray .int, 2) := by decide +kernel
theorem dX12_init_173 : decode cX12_init 173 = .ok (.putfield 93, 3) := by decide +kernel
theorem dX12_init_176 : decode cX12_init 176 = .ok (.aload_n 0, 1) := by decide +kernel
theorem dX12_init_177 : decode cX12_init 177 = .ok (.sipush 7381, 3) := by decide +kernel
theorem dX12_init_180 : decode cX12_init 180 = .ok (.newarray .int, 2) := by decide +kernel
theorem dX12_init_182 : decode cX12_init 182 = .ok (.putfield 96, 3) := by decide +kernel
theorem dX12_init_185 : decode cX12_init 185 = .ok (.aload_n 0, 1) := by decide +kernel
theorem dX12_init_186 : decode cX12_init 186 = .ok (.bipush 60, 2) := by decide +kernel
theorem dX12_init_188 : decode cX12_init 188 = .ok (.newarray .int, 2) := by decide +kernel
theorem dX12_init_190 : decode cX12_init 190 = .ok (.putfield 99, 3) := by decide +kernel
theorem dX12_init_193 : decode cX12_init 193 = .ok (.aload_n 0, 1) := by decide +kernel
theorem dX12_init_194 : decode cX12_init 194 = .ok (.bipush 30, 2) := by decide +kernel
theorem dX12_init_196 : decode cX12_init 196 = .ok (.newarray .int, 2) := by decide +kernel
theorem dX12_init_198 : decode cX12_init 198 = .ok (.putfield 102, 3) := by decide +kernel
theorem dX12_init_201 : decode cX12_init 201 = .ok (.aload_n 0, 1) := by decide +kernel
theorem dX12_init_202 : decode cX12_init 202 = .ok (.bipush 12, 2) := by decide +kernel
theorem dX12_init_204 : decode cX12_init 204 = .ok (.newarray .int, 2) := by decide +kernel
theorem dX12_init_206 : decode cX12_init 206 = .ok (.putfield 105, 3) := by decide +kernel
theorem dX12_init_209 : decode cX12_init 209 = .ok (.aload_n 0, 1) := by decide +kernel
theorem dX12_init_210 : decode cX12_init 210 = .ok (.bipush 12, 2) := by decide +kernel
theorem dX12_init_212 : decode cX12_init 212 = .ok (.newarray .int, 2) := by decide +kernel
theorem dX12_init_214 : decode cX12_init 214 = .ok (.putfield 108, 3) := by decide +kernel
theorem dX12_init_217 : decode cX12_init 217 = .ok (.aload_n 0, 1) := by decide +kernel
theorem dX12_init_218 : decode cX12_init 218 = .ok (.iconst (-1), 1) := by decide +kernel
theorem dX12_init_219 : decode cX12_init 219 = .ok (.putfield 111, 3) := by decide +kernel
theorem dX12_init_222 : decode cX12_init 222 = .ok (.aload_n 0, 1) := by decide +kernel
theorem dX12_init_223 : decode cX12_init 223 = .ok (.bipush 61, 2) := by decide +kernel
theorem dX12_init_225 : decode cX12_init 225 = .ok (.newarray .int, 2) := by decide +kernel
theorem dX12_init_227 : decode cX12_init 227 = .ok (.putfield 114, 3) := by decide +kernel
theorem dX12_init_230 : decode cX12_init 230 = .ok (.aload_n 0, 1) := by decide +kernel
theorem dX12_init_231 : decode cX12_init 231 = .ok (.iconst (-1), 1) := by decide +kernel
theorem dX12_init_232 : decode cX12_init 232 = .ok (.putfield 117, 3) := by decide +kernel
theorem dX12_init_235 : decode cX12_init 235 = .ok (.aload_n 0, 1) := by decide +kernel
theorem dX12_init_236 : decode cX12_init 236 = .ok (.sipush 568, 3) := by decide +kernel
theorem dX12_init_239 : decode cX12_init 239 = .ok (.newarray .int, 2) := by decide +kernel
theorem dX12_init_241 : decode cX12_init 241 = .ok (.putfield 120, 3) := by decide +kernel
theorem dX12_init_244 : decode cX12_init 244 = .ok (.aload_n 0, 1) := by decide +kernel
theorem dX12_init_245 : decode cX12_init 245 = .ok (.bipush 80, 2) := by decide +kernel
theorem dX12_init_247 : decode cX12_init 247 = .ok (.newarray .long, 2) := by decide +kernel
theorem dX12_init_249 : decode cX12_init 249 = .ok (.putfield 123, 3) := by decide +kernel
theorem dX12_init_252 : decode cX12_init 252 = .ok (.aload_n 0, 1) := by decide +kernel
theorem dX12_init_253 : decode cX12_init 253 = .ok (.iconst 2, 1) := by decide +kernel
theorem dX12_init_254 : decode cX12_init 254 = .ok (.newarray .boolean, 2) := by decide +kernel
theorem dX12_init_256 : decode cX12_init 256 = .ok (.putfield 126, 3) := by decide +kernel
theorem dX12_init_259 : decode cX12_init 259 = .ok (.aload_n 0, 1) := by decide +kernel
theorem dX12_init_260 : decode cX12_init 260 = .ok (.getfield 50, 3) := by decide +kernel
theorem dX12_init_263 : decode cX12_init 263 = .ok (.iconst 0, 1) := by decide +kernel
theorem dX12_init_264 : decode cX12_init 264 = .ok (.ldc2_w 129, 3) := by decide +kernel
theorem dX12_init_267 : decode cX12_init 267 = .ok (.lastore, 1) := by decide +kernel
theorem dX12_init_268 : decode cX12_init 268 = .ok (.aload_n 0, 1) := by decide +kernel
theorem dX12_init_269 : decode cX12_init 269 = .ok (.getfield 50, 3) := by decide +kernel
theorem dX12_init_272 : decode cX12_init 272 = .ok (.iconst 1, 1) := by decide +kernel
theorem dX12_init_273 : decode cX12_init 273 = .ok (.ldc2_w 131, 3) := by decide +kernel
theorem dX12_init_276 : decode cX12_init 276 = .ok (.lastore, 1) := by decide +kernel
theorem dX12_init_277 : decode cX12_init 277 = .ok (.aload_n 0, 1) := by decide +kernel
theorem dX12_init_278 : decode cX12_init 278 = .ok (.getfield 50, 3) := by decide +kernel
theorem dX12_init_281 : decode cX12_init 281 = .ok (.iconst 2, 1) := by decide +kernel
theorem dX12_init_282 : decode cX12_init 282 = .ok (.ldc2_w 133, 3) := by decide +kernel
theorem dX12_init_285 : decode cX12_init 285 = .ok (.lastore, 1) := by decide +kernel
theorem dX12_init_286 : decode cX12_init 286 = .ok (.aload_n 0, 1) := by decide +kernel
theorem dX12_init_287 : decode cX12_init 287 = .ok (.getfield 50, 3) := by decide +kernel
theorem dX12_init_290 : decode cX12_init 290 = .ok (.iconst 3, 1) := by decide +kernel
theorem dX12_init_291 : decode cX12_init 291 = .ok (.ldc2_w 135, 3) := by decide +kernel
theorem dX12_init_294 : decode cX12_init 294 = .ok (.lastore, 1) := by decide +kernel
theorem dX12_init_295 : decode cX12_init 295 = .ok (.aload_n 0, 1) := by decide +kernel
theorem dX12_init_296 : decode cX12_init 296 = .ok (.getfield 50, 3) := by decide +kernel
theorem dX12_init_299 : decode cX12_init 299 = .ok (.iconst 4, 1) := by decide +kernel
theorem dX12_init_300 : decode cX12_init 300 = .ok (.ldc2_w 137, 3) := by decide +kernel
theorem dX12_init_303 : decode cX12_init 303 = .ok (.lastore, 1) := by decide +kernel
theorem dX12_init_304 : decode cX12_init 304 = .ok (.aload_n 0, 1) := by decide +kernel
theorem dX12_init_305 : decode cX12_init 305 = .ok (.getfield 50, 3) := by decide +kernel
theorem dX12_init_308 : decode cX12_init 308 = .ok (.iconst 5, 1) := by decide +kernel
theorem dX12_init_309 : decode cX12_init 309 = .ok (.ldc2_w 139, 3) := by decide +kernel
theorem dX12_init_312 : decode cX12_init 312 = .ok (.lastore, 1) := by decide +kernel
theorem dX12_init_313 : decode cX12_init 313 = .ok (.aload_n 0, 1) := by decide +kernel
theorem dX12_init_314 : decode cX12_init 314 = .ok (.getfield 50, 3) := by decide +kernel
theorem dX12_init_317 : decode cX12_init 317 = .ok (.bipush 6, 2) := by decide +kernel
theorem dX12_init_319 : decode cX12_init 319 = .ok (.ldc2_w 141, 3) := by decide +kernel
theorem dX12_init_322 : decode cX12_init 322 = .ok (.lastore, 1) := by decide +kernel
theorem dX12_init_323 : decode cX12_init 323 = .ok (.aload_n 0, 1) := by decide +kernel
theorem dX12_init_324 : decode cX12_init 324 = .ok (.getfield 50, 3) := by decide +kernel
theorem dX12_init_327 : decode cX12_init 327 = .ok (.bipush 7, 2) := by decide +kernel
theorem dX12_init_329 : decode cX12_init 329 = .ok (.ldc2_w 143, 3) := by decide +kernel
theorem dX12_init_332 : decode cX12_init 332 = .ok (.lastore, 1) := by decide +kernel
theorem dX12_init_333 : decode cX12_init 333 = .ok (.aload_n 0, 1) := by decide +kernel
theorem dX12_init_334 : decode cX12_init 334 = .ok (.getfield 50, 3) := by decide +kernel
theorem dX12_init_337 : decode cX12_init 337 = .ok (.bipush 8, 2) := by decide +kernel
theorem dX12_init_339 : decode cX12_init 339 = .ok (.ldc2_w 145, 3) := by decide +kernel
theorem dX12_init_342 : decode cX12_init 342 = .ok (.lastore, 1) := by decide +kernel
theorem dX12_init_343 : decode cX12_init 343 = .ok (.aload_n 0, 1) := by decide +kernel
theorem dX12_init_344 : decode cX12_init 344 = .ok (.getfield 50, 3) := by decide +kernel
theorem dX12_init_347 : decode cX12_init 347 = .ok (.bipush 9, 2) := by decide +kernel
theorem dX12_init_349 : decode cX12_init 349 = .ok (.ldc2_w 147, 3) := by decide +kernel
theorem dX12_init_352 : decode cX12_init 352 = .ok (.lastore, 1) := by decide +kernel
theorem dX12_init_353 : decode cX12_init 353 = .ok (.aload_n 0, 1) := by decide +kernel
theorem dX12_init_354 : decode cX12_init 354 = .ok (.getfield 50, 3) := by decide +kernel
theorem dX12_init_357 : decode cX12_init 357 = .ok (.bipush 10, 2) := by decide +kernel
theorem dX12_init_359 : decode cX12_init 359 = .ok (.ldc2_w 149, 3) := by decide +kernel
theorem dX12_init_362 : decode cX12_init 362 = .ok (.lastore, 1) := by decide +kernel
theorem dX12_init_363 : decode cX12_init 363 = .ok (.aload_n 0, 1) := by decide +kernel
theorem dX12_init_364 : decode cX12_init 364 = .ok (.iconst 1, 1) := by decide +kernel
theorem dX12_init_365 : decode cX12_init 365 = .ok (.putfield 151, 3) := by decide +kernel
theorem dX12_init_368 : decode cX12_init 368 = .ok (.return_, 1) := by decide +kernel
theorem dX12_peek_0 : decode cX12_peek 0 = .ok (.aload_n 0, 1) := by decide +kernel
theorem dX12_peek_1 : decode cX12_peek 1 = .ok (.getfield 21, 3) := by decide +kernel
theorem dX12_peek_4 : decode cX12_peek 4 = .ok (.aload_n 0, 1) := by decide +kernel
theorem dX12_peek_5 : decode cX12_peek 5 = .ok (.getfield 18, 3) := by decide +kernel
theorem dX12_peek_8 : decode cX12_peek 8 = .ok (.if_icmp .ge 19, 3) := by decide +kernel
theorem dX12_peek_11 : decode cX12_peek 11 = .ok (.aload_n 0, 1) := by decide +kernel
theorem dX12_peek_12 : decode cX12_peek 12 = .ok (.getfield 14, 3) := by decide +kernel
theorem dX12_peek_15 : decode cX12_peek 15 = .ok (.aload_n 0, 1) := by decide +kernel
theorem dX12_peek_16 : decode cX12_peek 16 = .ok (.getfield 21, 3) := by decide +kernel
theorem dX12_peek_19 : decode cX12_peek 19 = .ok (.baload, 1) := by decide +kernel
theorem dX12_peek_20 : decode cX12_peek 20 = .ok (.sipush 255, 3) := by decide +kernel
theorem dX12_peek_23 : decode cX12_peek 23 = .ok (.iand, 1) := by decide +kernel
theorem dX12_peek_24 : decode cX12_peek 24 = .ok (.goto 4, 3) := by decide +kernel
theorem dX12_peek_27 : decode cX12_peek 27 = .ok (.iconst (-1), 1) := by decide +kernel
theorem dX12_peek_28 : decode cX12_peek 28 = .ok (.ireturn, 1) := by decide +kernel
theorem dX12_isSmall_0 : decode cX12_isSmall 0 = .ok (.iload_n 0, 1) := by decide +kernel
theorem dX12_isSmall_1 : decode cX12_isSmall 1 = .ok (.bipush 97, 2) := by decide +kernel
theorem dX12_isSmall_3 : decode cX12_isSmall 3 = .ok (.if_icmp .lt 13, 3) := by decide +kernel
theorem dX12_isSmall_6 : decode cX12_isSmall 6 = .ok (.iload_n 0, 1) := by decide +kernel
theorem dX12_isSmall_7 : decode cX12_isSmall 7 = .ok (.bipush 122, 2) := by decide +kernel
theorem dX12_isSmall_9 : decode cX12_isSmall 9 = .ok (.if_icmp .gt 7, 3) := by decide +kernel
theorem dX12_isSmall_12 : decode cX12_isSmall 12 = .ok (.iconst 1, 1) := by decide +kernel
theorem dX12_isSmall_13 : decode cX12_isSmall 13 = .ok (.goto 4, 3) := by decide +kernel
theorem dX12_isSmall_16 : decode cX12_isSmall 16 = .ok (.iconst 0, 1) := by decide +kernel
theorem dX12_isSmall_17 : decode cX12_isSmall 17 = .ok (.ireturn, 1) := by decide +kernel
theorem dX12_isDigit_0 : decode cX12_isDigit 0 = .ok (.iload_n 0, 1) := by decide +kernel
theorem dX12_isDigit_1 : decode cX12_isDigit 1 = .ok (.bipush 48, 2) := by decide +kernel
theorem dX12_isDigit_3 : decode cX12_isDigit 3 = .ok (.if_icmp .lt 13, 3) := by decide +kernel
theorem dX12_isDigit_6 : decode cX12_isDigit 6 = .ok (.iload_n 0, 1) := by decide +kernel
theorem dX12_isDigit_7 : decode cX12_isDigit 7 = .ok (.bipush 57, 2) := by decide +kernel
theorem dX12_isDigit_9 : decode cX12_isDigit 9 = .ok (.if_icmp .gt 7, 3) := by decide +kernel
theorem dX12_isDigit_12 : decode cX12_isDigit 12 = .ok (.iconst 1, 1) := by decide +kernel
theorem dX12_isDigit_13 : decode cX12_isDigit 13 = .ok (.goto 4, 3) := by decide +kernel
theorem dX12_isDigit_16 : decode cX12_isDigit 16 = .ok (.iconst 0, 1) := by decide +kernel
theorem dX12_isDigit_17 : decode cX12_isDigit 17 = .ok (.ireturn, 1) := by decide +kernel
theorem dX12_skip_0 : decode cX12_skip 0 = .ok (.aload_n 0, 1) := by decide +kernel
theorem dX12_skip_1 : decode cX12_skip 1 = .ok (.invokevirtual 155, 3) := by decide +kernel
theorem dX12_skip_4 : decode cX12_skip 4 = .ok (.bipush 32, 2) := by decide +kernel
theorem dX12_skip_6 : decode cX12_skip 6 = .ok (.if_icmp .eq 12, 3) := by decide +kernel
theorem dX12_skip_9 : decode cX12_skip 9 = .ok (.aload_n 0, 1) := by decide +kernel
theorem dX12_skip_10 : decode cX12_skip 10 = .ok (.invokevirtual 155, 3) := by decide +kernel
theorem dX12_skip_13 : decode cX12_skip 13 = .ok (.bipush 10, 2) := by decide +kernel
theorem dX12_skip_15 : decode cX12_skip 15 = .ok (.if_icmp .ne 16, 3) := by decide +kernel
theorem dX12_skip_18 : decode cX12_skip 18 = .ok (.aload_n 0, 1) := by decide +kernel
theorem dX12_skip_19 : decode cX12_skip 19 = .ok (.dup, 1) := by decide +kernel
theorem dX12_skip_20 : decode cX12_skip 20 = .ok (.getfield 21, 3) := by decide +kernel
theorem dX12_skip_23 : decode cX12_skip 23 = .ok (.iconst 1, 1) := by decide +kernel
theorem dX12_skip_24 : decode cX12_skip 24 = .ok (.iadd, 1) := by decide +kernel
theorem dX12_skip_25 : decode cX12_skip 25 = .ok (.putfield 21, 3) := by decide +kernel
theorem dX12_skip_28 : decode cX12_skip 28 = .ok (.goto (-28), 3) := by decide +kernel
theorem dX12_skip_31 : decode cX12_skip 31 = .ok (.aload_n 0, 1) := by decide +kernel
theorem dX12_skip_32 : decode cX12_skip 32 = .ok (.aload_n 0, 1) := by decide +kernel
theorem dX12_skip_33 : decode cX12_skip 33 = .ok (.getfield 21, 3) := by decide +kernel
theorem dX12_skip_36 : decode cX12_skip 36 = .ok (.putfield 159, 3) := by decide +kernel
theorem dX12_skip_39 : decode cX12_skip 39 = .ok (.aload_n 0, 1) := by decide +kernel
theorem dX12_skip_40 : decode cX12_skip 40 = .ok (.iconst 0, 1) := by decide +kernel
theorem dX12_skip_41 : decode cX12_skip 41 = .ok (.putfield 162, 3) := by decide +kernel
theorem dX12_skip_44 : decode cX12_skip 44 = .ok (.aload_n 0, 1) := by decide +kernel
theorem dX12_skip_45 : decode cX12_skip 45 = .ok (.getfield 18, 3) := by decide +kernel
theorem dX12_skip_48 : decode cX12_skip 48 = .ok (.aload_n 0, 1) := by decide +kernel
theorem dX12_skip_49 : decode cX12_skip 49 = .ok (.getfield 24, 3) := by decide +kernel
theorem dX12_skip_52 : decode cX12_skip 52 = .ok (.if_icmp .le 28, 3) := by decide +kernel
theorem dX12_skip_55 : decode cX12_skip 55 = .ok (.aload_n 0, 1) := by decide +kernel
theorem dX12_skip_56 : decode cX12_skip 56 = .ok (.getfield 21, 3) := by decide +kernel
theorem dX12_skip_59 : decode cX12_skip 59 = .ok (.aload_n 0, 1) := by decide +kernel
theorem dX12_skip_60 : decode cX12_skip 60 = .ok (.getfield 24, 3) := by decide +kernel
theorem dX12_skip_63 : decode cX12_skip 63 = .ok (.if_icmp .lt 17, 3) := by decide +kernel
theorem dX12_skip_66 : decode cX12_skip 66 = .ok (.aload_n 0, 1) := by decide +kernel
theorem dX12_skip_67 : decode cX12_skip 67 = .ok (.aload_n 0, 1) := by decide +kernel
theorem dX12_skip_68 : decode cX12_skip 68 = .ok (.getfield 24, 3) := by decide +kernel
theorem dX12_skip_71 : decode cX12_skip 71 = .ok (.putfield 159, 3) := by decide +kernel
theorem dX12_skip_74 : decode cX12_skip 74 = .ok (.aload_n 0, 1) := by decide +kernel
theorem dX12_skip_75 : decode cX12_skip 75 = .ok (.iconst 4, 1) := by decide +kernel
theorem dX12_skip_76 : decode cX12_skip 76 = .ok (.putfield 165, 3) := by decide +kernel
theorem dX12_skip_79 : decode cX12_skip 79 = .ok (.return_, 1) := by decide +kernel
theorem dX12_skip_80 : decode cX12_skip 80 = .ok (.aload_n 0, 1) := by decide +kernel
theorem dX12_skip_81 : decode cX12_skip 81 = .ok (.invokevirtual 155, 3) := by decide +kernel
theorem dX12_skip_84 : decode cX12_skip 84 = .ok (.istore_n 1, 1) := by decide +kernel
theorem dX12_skip_85 : decode cX12_skip 85 = .ok (.iload_n 1, 1) := by decide +kernel
theorem dX12_skip_86 : decode cX12_skip 86 = .ok (.ifCond .ge 9, 3) := by decide +kernel
theorem dX12_skip_89 : decode cX12_skip 89 = .ok (.aload_n 0, 1) := by decide +kernel
theorem dX12_skip_90 : decode cX12_skip 90 = .ok (.iconst 0, 1) := by decide +kernel
theorem dX12_skip_91 : decode cX12_skip 91 = .ok (.putfield 165, 3) := by decide +kernel
theorem dX12_skip_94 : decode cX12_skip 94 = .ok (.return_, 1) := by decide +kernel
theorem dX12_skip_95 : decode cX12_skip 95 = .ok (.iload_n 1, 1) := by decide +kernel
theorem dX12_skip_96 : decode cX12_skip 96 = .ok (.invokestatic 168, 3) := by decide +kernel
theorem dX12_skip_99 : decode cX12_skip 99 = .ok (.ifCond .ne 41, 3) := by decide +kernel
theorem dX12_skip_102 : decode cX12_skip 102 = .ok (.iload_n 1, 1) := by decide +kernel
theorem dX12_skip_103 : decode cX12_skip 103 = .ok (.invokestatic 172, 3) := by decide +kernel
theorem dX12_skip_106 : decode cX12_skip 106 = .ok (.ifCond .ne 34, 3) := by decide +kernel
theorem dX12_skip_109 : decode cX12_skip 109 = .ok (.aload_n 0, 1) := by decide +kernel
theorem dX12_skip_110 : decode cX12_skip 110 = .ok (.iload_n 1, 1) := by decide +kernel
theorem dX12_skip_111 : decode cX12_skip 111 = .ok (.bipush 59, 2) := by decide +kernel
theorem dX12_skip_113 : decode cX12_skip 113 = .ok (.if_icmp .ne 7, 3) := by decide +kernel
theorem dX12_skip_116 : decode cX12_skip 116 = .ok (.iconst 3, 1) := by decide +kernel
theorem dX12_skip_117 : decode cX12_skip 117 = .ok (.goto 4, 3) := by decide +kernel
theorem dX12_skip_120 : decode cX12_skip 120 = .ok (.iconst 4, 1) := by decide +kernel
theorem dX12_skip_121 : decode cX12_skip 121 = .ok (.putfield 165, 3) := by decide +kernel
theorem dX12_skip_124 : decode cX12_skip 124 = .ok (.aload_n 0, 1) := by decide +kernel
theorem dX12_skip_125 : decode cX12_skip 125 = .ok (.iload_n 1, 1) := by decide +kernel
theorem dX12_skip_126 : decode cX12_skip 126 = .ok (.putfield 175, 3) := by decide +kernel
theorem dX12_skip_129 : decode cX12_skip 129 = .ok (.aload_n 0, 1) := by decide +kernel
theorem dX12_skip_130 : decode cX12_skip 130 = .ok (.dup, 1) := by decide +kernel
theorem dX12_skip_131 : decode cX12_skip 131 = .ok (.getfield 21, 3) := by decide +kernel
theorem dX12_skip_134 : decode cX12_skip 134 = .ok (.iconst 1, 1) := by decide +kernel
theorem dX12_skip_135 : decode cX12_skip 135 = .ok (.iadd, 1) := by decide +kernel
theorem dX12_skip_136 : decode cX12_skip 136 = .ok (.putfield 21, 3) := by decide +kernel
theorem dX12_skip_139 : decode cX12_skip 139 = .ok (.return_, 1) := by decide +kernel
theorem dX12_skip_140 : decode cX12_skip 140 = .ok (.iload_n 1, 1) := by decide +kernel
theorem dX12_skip_141 : decode cX12_skip 141 = .ok (.invokestatic 168, 3) := by decide +kernel
theorem dX12_skip_144 : decode cX12_skip 144 = .ok (.istore_n 2, 1) := by decide +kernel
theorem dX12_skip_145 : decode cX12_skip 145 = .ok (.iconst 1, 1) := by decide +kernel
theorem dX12_skip_146 : decode cX12_skip 146 = .ok (.istore_n 3, 1) := by decide +kernel
theorem dX12_skip_147 : decode cX12_skip 147 = .ok (.aload_n 0, 1) := by decide +kernel
theorem dX12_skip_148 : decode cX12_skip 148 = .ok (.lconst 0, 1) := by decide +kernel
theorem dX12_skip_149 : decode cX12_skip 149 = .ok (.putfield 178, 3) := by decide +kernel
theorem dX12_skip_152 : decode cX12_skip 152 = .ok (.aload_n 0, 1) := by decide +kernel
theorem dX12_skip_153 : decode cX12_skip 153 = .ok (.iconst 0, 1) := by decide +kernel
theorem dX12_skip_154 : decode cX12_skip 154 = .ok (.putfield 175, 3) := by decide +kernel
theorem dX12_skip_157 : decode cX12_skip 157 = .ok (.aload_n 0, 1) := by decide +kernel
theorem dX12_skip_158 : decode cX12_skip 158 = .ok (.invokevirtual 155, 3) := by decide +kernel
theorem dX12_skip_161 : decode cX12_skip 161 = .ok (.invokestatic 168, 3) := by decide +kernel
theorem dX12_skip_164 : decode cX12_skip 164 = .ok (.ifCond .ne 13, 3) := by decide +kernel
theorem dX12_skip_167 : decode cX12_skip 167 = .ok (.aload_n 0, 1) := by decide +kernel
theorem dX12_skip_168 : decode cX12_skip 168 = .ok (.invokevirtual 155, 3) := by decide +kernel
theorem dX12_skip_171 : decode cX12_skip 171 = .ok (.invokestatic 172, 3) := by decide +kernel
theorem dX12_skip_174 : decode cX12_skip 174 = .ok (.ifCond .eq 100, 3) := by decide +kernel
theorem dX12_skip_177 : decode cX12_skip 177 = .ok (.iload_n 3, 1) := by decide +kernel
theorem dX12_skip_178 : decode cX12_skip 178 = .ok (.ifCond .eq 18, 3) := by decide +kernel
theorem dX12_skip_181 : decode cX12_skip 181 = .ok (.aload_n 0, 1) := by decide +kernel
theorem dX12_skip_182 : decode cX12_skip 182 = .ok (.invokevirtual 155, 3) := by decide +kernel
theorem dX12_skip_185 : decode cX12_skip 185 = .ok (.invokestatic 168, 3) := by decide +kernel
theorem dX12_skip_188 : decode cX12_skip 188 = .ok (.iload_n 2, 1) := by decide +kernel
theorem dX12_skip_189 : decode cX12_skip 189 = .ok (.if_icmp .ne 7, 3) := by decide +kernel
theorem dX12_skip_192 : decode cX12_skip 192 = .ok (.iconst 1, 1) := by decide +kernel
theorem dX12_skip_193 : decode cX12_skip 193 = .ok (.goto 4, 3) := by decide +kernel
theorem dX12_skip_196 : decode cX12_skip 196 = .ok (.iconst 0, 1) := by decide +kernel
theorem dX12_skip_197 : decode cX12_skip 197 = .ok (.istore_n 3, 1) := by decide +kernel
theorem dX12_skip_198 : decode cX12_skip 198 = .ok (.aload_n 0, 1) := by decide +kernel
theorem dX12_skip_199 : decode cX12_skip 199 = .ok (.getfield 162, 3) := by decide +kernel
theorem dX12_skip_202 : decode cX12_skip 202 = .ok (.bipush 7, 2) := by decide +kernel
theorem dX12_skip_204 : decode cX12_skip 204 = .ok (.if_icmp .ge 20, 3) := by decide +kernel
theorem dX12_skip_207 : decode cX12_skip 207 = .ok (.aload_n 0, 1) := by decide +kernel
theorem dX12_skip_208 : decode cX12_skip 208 = .ok (.aload_n 0, 1) := by decide +kernel
theorem dX12_skip_209 : decode cX12_skip 209 = .ok (.getfield 178, 3) := by decide +kernel
theorem dX12_skip_212 : decode cX12_skip 212 = .ok (.bipush 8, 2) := by decide +kernel
theorem dX12_skip_214 : decode cX12_skip 214 = .ok (.lshl, 1) := by decide +kernel
theorem dX12_skip_215 : decode cX12_skip 215 = .ok (.aload_n 0, 1) := by decide +kernel
theorem dX12_skip_216 : decode cX12_skip 216 = .ok (.invokevirtual 155, 3) := by decide +kernel
theorem dX12_skip_219 : decode cX12_skip 219 = .ok (.i2l, 1) := by decide +kernel
theorem dX12_skip_220 : decode cX12_skip 220 = .ok (.lor, 1) := by decide +kernel
theorem dX12_skip_221 : decode cX12_skip 221 = .ok (.putfield 178, 3) := by decide +kernel
theorem dX12_skip_224 : decode cX12_skip 224 = .ok (.aload_n 0, 1) := by decide +kernel
theorem dX12_skip_225 : decode cX12_skip 225 = .ok (.getfield 162, 3) := by decide +kernel
theorem dX12_skip_228 : decode cX12_skip 228 = .ok (.iconst 2, 1) := by decide +kernel
theorem dX12_skip_229 : decode cX12_skip 229 = .ok (.if_icmp .ge 22, 3) := by decide +kernel
theorem dX12_skip_232 : decode cX12_skip 232 = .ok (.aload_n 0, 1) := by decide +kernel
theorem dX12_skip_233 : decode cX12_skip 233 = .ok (.bipush 10, 2) := by decide +kernel
theorem dX12_skip_235 : decode cX12_skip 235 = .ok (.aload_n 0, 1) := by decide +kernel
theorem dX12_skip_236 : decode cX12_skip 236 = .ok (.getfield 175, 3) := by decide +kernel
theorem dX12_skip_239 : decode cX12_skip 239 = .ok (.imul, 1) := by decide +kernel
theorem dX12_skip_240 : decode cX12_skip 240 = .ok (.aload_n 0, 1) := by decide +kernel
theorem dX12_skip_241 : decode cX12_skip 241 = .ok (.invokevirtual 155, 3) := by decide +kernel
theorem dX12_skip_244 : decode cX12_skip 244 = .ok (.iadd, 1) := by decide +kernel
theorem dX12_skip_245 : decode cX12_skip 245 = .ok (.bipush 48, 2) := by decide +kernel
theorem dX12_skip_247 : decode cX12_skip 247 = .ok (.isub, 1) := by decide +kernel
theorem dX12_skip_248 : decode cX12_skip 248 = .ok (.putfield 175, 3) := by decide +kernel
theorem dX12_skip_251 : decode cX12_skip 251 = .ok (.aload_n 0, 1) := by decide +kernel
theorem dX12_skip_252 : decode cX12_skip 252 = .ok (.dup, 1) := by decide +kernel
theorem dX12_skip_253 : decode cX12_skip 253 = .ok (.getfield 162, 3) := by decide +kernel
theorem dX12_skip_256 : decode cX12_skip 256 = .ok (.iconst 1, 1) := by decide +kernel
theorem dX12_skip_257 : decode cX12_skip 257 = .ok (.iadd, 1) := by decide +kernel
theorem dX12_skip_258 : decode cX12_skip 258 = .ok (.putfield 162, 3) := by decide +kernel
theorem dX12_skip_261 : decode cX12_skip 261 = .ok (.aload_n 0, 1) := by decide +kernel
theorem dX12_skip_262 : decode cX12_skip 262 = .ok (.dup, 1) := by decide +kernel
theorem dX12_skip_263 : decode cX12_skip 263 = .ok (.getfield 21, 3) := by decide +kernel
theorem dX12_skip_266 : decode cX12_skip 266 = .ok (.iconst 1, 1) := by decide +kernel
theorem dX12_skip_267 : decode cX12_skip 267 = .ok (.iadd, 1) := by decide +kernel
theorem dX12_skip_268 : decode cX12_skip 268 = .ok (.putfield 21, 3) := by decide +kernel
theorem dX12_skip_271 : decode cX12_skip 271 = .ok (.goto (-114), 3) := by decide +kernel
theorem dX12_skip_274 : decode cX12_skip 274 = .ok (.aload_n 0, 1) := by decide +kernel
theorem dX12_skip_275 : decode cX12_skip 275 = .ok (.iload_n 3, 1) := by decide +kernel
theorem dX12_skip_276 : decode cX12_skip 276 = .ok (.ifCond .eq 20, 3) := by decide +kernel
theorem dX12_skip_279 : decode cX12_skip 279 = .ok (.aload_n 0, 1) := by decide +kernel
theorem dX12_skip_280 : decode cX12_skip 280 = .ok (.getfield 162, 3) := by decide +kernel
theorem dX12_skip_283 : decode cX12_skip 283 = .ok (.iload_n 2, 1) := by decide +kernel
theorem dX12_skip_284 : decode cX12_skip 284 = .ok (.ifCond .eq 8, 3) := by decide +kernel
theorem dX12_skip_287 : decode cX12_skip 287 = .ok (.bipush 7, 2) := by decide +kernel
theorem dX12_skip_289 : decode cX12_skip 289 = .ok (.goto 4, 3) := by decide +kernel
theorem dX12_skip_292 : decode cX12_skip 292 = .ok (.iconst 2, 1) := by decide +kernel
theorem dX12_skip_293 : decode cX12_skip 293 = .ok (.if_icmp .le 7, 3) := by decide +kernel
theorem dX12_skip_296 : decode cX12_skip 296 = .ok (.iconst 4, 1) := by decide +kernel
theorem dX12_skip_297 : decode cX12_skip 297 = .ok (.goto 12, 3) := by decide +kernel
theorem dX12_skip_300 : decode cX12_skip 300 = .ok (.iload_n 2, 1) := by decide +kernel
theorem dX12_skip_301 : decode cX12_skip 301 = .ok (.ifCond .eq 7, 3) := by decide +kernel
theorem dX12_skip_304 : decode cX12_skip 304 = .ok (.iconst 1, 1) := by decide +kernel
theorem dX12_skip_305 : decode cX12_skip 305 = .ok (.goto 4, 3) := by decide +kernel
theorem dX12_skip_308 : decode cX12_skip 308 = .ok (.iconst 2, 1) := by decide +kernel
theorem dX12_skip_309 : decode cX12_skip 309 = .ok (.putfield 165, 3) := by decide +kernel
theorem dX12_skip_312 : decode cX12_skip 312 = .ok (.return_, 1) := by decide +kernel
theorem dX12_bad_0 : decode cX12_bad 0 = .ok (.aload_n 0, 1) := by decide +kernel
theorem dX12_bad_1 : decode cX12_bad 1 = .ok (.iload_n 1, 1) := by decide +kernel
theorem dX12_bad_2 : decode cX12_bad 2 = .ok (.putfield 182, 3) := by decide +kernel
theorem dX12_bad_5 : decode cX12_bad 5 = .ok (.aload_n 0, 1) := by decide +kernel
theorem dX12_bad_6 : decode cX12_bad 6 = .ok (.aload_n 0, 1) := by decide +kernel
theorem dX12_bad_7 : decode cX12_bad 7 = .ok (.getfield 159, 3) := by decide +kernel
theorem dX12_bad_10 : decode cX12_bad 10 = .ok (.putfield 185, 3) := by decide +kernel
theorem dX12_bad_13 : decode cX12_bad 13 = .ok (.iconst 0, 1) := by decide +kernel
theorem dX12_bad_14 : decode cX12_bad 14 = .ok (.ireturn, 1) := by decide +kernel
theorem dX12_isWord_0 : decode cX12_isWord 0 = .ok (.aload_n 0, 1) := by decide +kernel
theorem dX12_isWord_1 : decode cX12_isWord 1 = .ok (.getfield 165, 3) := by decide +kernel
theorem dX12_isWord_4 : decode cX12_isWord 4 = .ok (.iconst 1, 1) := by decide +kernel
theorem dX12_isWord_5 : decode cX12_isWord 5 = .ok (.if_icmp .ne 16, 3) := by decide +kernel
theorem dX12_isWord_8 : decode cX12_isWord 8 = .ok (.aload_n 0, 1) := by decide +kernel
theorem dX12_isWord_9 : decode cX12_isWord 9 = .ok (.getfield 178, 3) := by decide +kernel
theorem dX12_isWord_12 : decode cX12_isWord 12 = .ok (.lload_n 1, 1) := by decide +kernel
theorem dX12_isWord_13 : decode cX12_isWord 13 = .ok (.lcmp, 1) := by decide +kernel
theorem dX12_isWord_14 : decode cX12_isWord 14 = .ok (.ifCond .ne 7, 3) := by decide +kernel
theorem dX12_isWord_17 : decode cX12_isWord 17 = .ok (.iconst 1, 1) := by decide +kernel
theorem dX12_isWord_18 : decode cX12_isWord 18 = .ok (.goto 4, 3) := by decide +kernel
theorem dX12_isWord_21 : decode cX12_isWord 21 = .ok (.iconst 0, 1) := by decide +kernel
theorem dX12_isWord_22 : decode cX12_isWord 22 = .ok (.ireturn, 1) := by decide +kernel
theorem dX12_isSign_0 : decode cX12_isSign 0 = .ok (.aload_n 0, 1) := by decide +kernel
theorem dX12_isSign_1 : decode cX12_isSign 1 = .ok (.getfield 165, 3) := by decide +kernel
theorem dX12_isSign_4 : decode cX12_isSign 4 = .ok (.iconst 3, 1) := by decide +kernel
theorem dX12_isSign_5 : decode cX12_isSign 5 = .ok (.if_icmp .ne 15, 3) := by decide +kernel
theorem dX12_isSign_8 : decode cX12_isSign 8 = .ok (.aload_n 0, 1) := by decide +kernel
theorem dX12_isSign_9 : decode cX12_isSign 9 = .ok (.getfield 175, 3) := by decide +kernel
theorem dX12_isSign_12 : decode cX12_isSign 12 = .ok (.iload_n 1, 1) := by decide +kernel
theorem dX12_isSign_13 : decode cX12_isSign 13 = .ok (.if_icmp .ne 7, 3) := by decide +kernel
theorem dX12_isSign_16 : decode cX12_isSign 16 = .ok (.iconst 1, 1) := by decide +kernel
theorem dX12_isSign_17 : decode cX12_isSign 17 = .ok (.goto 4, 3) := by decide +kernel
theorem dX12_isSign_20 : decode cX12_isSign 20 = .ok (.iconst 0, 1) := by decide +kernel
theorem dX12_isSign_21 : decode cX12_isSign 21 = .ok (.ireturn, 1) := by decide +kernel
theorem dX12_sign_0 : decode cX12_sign 0 = .ok (.aload_n 0, 1) := by decide +kernel
theorem dX12_sign_1 : decode cX12_sign 1 = .ok (.iload_n 1, 1) := by decide +kernel
theorem dX12_sign_2 : decode cX12_sign 2 = .ok (.invokevirtual 188, 3) := by decide +kernel
theorem dX12_sign_5 : decode cX12_sign 5 = .ok (.ifCond .ne 9, 3) := by decide +kernel
theorem dX12_sign_8 : decode cX12_sign 8 = .ok (.aload_n 0, 1) := by decide +kernel
theorem dX12_sign_9 : decode cX12_sign 9 = .ok (.iconst 1, 1) := by decide +kernel
theorem dX12_sign_10 : decode cX12_sign 10 = .ok (.invokevirtual 191, 3) := by decide +kernel
theorem dX12_sign_13 : decode cX12_sign 13 = .ok (.ireturn, 1) := by decide +kernel
theorem dX12_sign_14 : decode cX12_sign 14 = .ok (.aload_n 0, 1) := by decide +kernel
theorem dX12_sign_15 : decode cX12_sign 15 = .ok (.invokevirtual 194, 3) := by decide +kernel
theorem dX12_sign_18 : decode cX12_sign 18 = .ok (.iconst 1, 1) := by decide +kernel
theorem dX12_sign_19 : decode cX12_sign 19 = .ok (.ireturn, 1) := by decide +kernel
theorem dX12_isName_0 : decode cX12_isName 0 = .ok (.aload_n 0, 1) := by decide +kernel
theorem dX12_isName_1 : decode cX12_isName 1 = .ok (.getfield 165, 3) := by decide +kernel
theorem dX12_isName_4 : decode cX12_isName 4 = .ok (.iconst 1, 1) := by decide +kernel
theorem dX12_isName_5 : decode cX12_isName 5 = .ok (.if_icmp .ne 7, 3) := by decide +kernel
theorem dX12_isName_8 : decode cX12_isName 8 = .ok (.iconst 1, 1) := by decide +kernel
theorem dX12_isName_9 : decode cX12_isName 9 = .ok (.goto 4, 3) := by decide +kernel
theorem dX12_isName_12 : decode cX12_isName 12 = .ok (.iconst 0, 1) := by decide +kernel
theorem dX12_isName_13 : decode cX12_isName 13 = .ok (.istore_n 1, 1) := by decide +kernel
theorem dX12_isName_14 : decode cX12_isName 14 = .ok (.iconst 0, 1) := by decide +kernel
theorem dX12_isName_15 : decode cX12_isName 15 = .ok (.istore_n 2, 1) := by decide +kernel
theorem dX12_isName_16 : decode cX12_isName 16 = .ok (.iload_n 2, 1) := by decide +kernel
theorem dX12_isName_17 : decode cX12_isName 17 = .ok (.bipush 11, 2) := by decide +kernel
theorem dX12_isName_19 : decode cX12_isName 19 = .ok (.if_icmp .ge 33, 3) := by decide +kernel
theorem dX12_isName_22 : decode cX12_isName 22 = .ok (.iload_n 1, 1) := by decide +kernel
theorem dX12_isName_23 : decode cX12_isName 23 = .ok (.ifCond .eq 21, 3) := by decide +kernel
theorem dX12_isName_26 : decode cX12_isName 26 = .ok (.aload_n 0, 1) := by decide +kernel
theorem dX12_isName_27 : decode cX12_isName 27 = .ok (.getfield 178, 3) := by decide +kernel
theorem dX12_isName_30 : decode cX12_isName 30 = .ok (.aload_n 0, 1) := by decide +kernel
theorem dX12_isName_31 : decode cX12_isName 31 = .ok (.getfield 50, 3) := by decide +kernel
theorem dX12_isName_34 : decode cX12_isName 34 = .ok (.iload_n 2, 1) := by decide +kernel
theorem dX12_isName_35 : decode cX12_isName 35 = .ok (.laload, 1) := by decide +kernel
theorem dX12_isName_36 : decode cX12_isName 36 = .ok (.lcmp, 1) := by decide +kernel
theorem dX12_isName_37 : decode cX12_isName 37 = .ok (.ifCond .eq 7, 3) := by decide +kernel
theorem dX12_isName_40 : decode cX12_isName 40 = .ok (.iconst 1, 1) := by decide +kernel
theorem dX12_isName_41 : decode cX12_isName 41 = .ok (.goto 4, 3) := by decide +kernel
theorem dX12_isName_44 : decode cX12_isName 44 = .ok (.iconst 0, 1) := by decide +kernel
theorem dX12_isName_45 : decode cX12_isName 45 = .ok (.istore_n 1, 1) := by decide +kernel
theorem dX12_isName_46 : decode cX12_isName 46 = .ok (.iinc 2 1, 3) := by decide +kernel
theorem dX12_isName_49 : decode cX12_isName 49 = .ok (.goto (-33), 3) := by decide +kernel
theorem dX12_isName_52 : decode cX12_isName 52 = .ok (.iload_n 1, 1) := by decide +kernel
theorem dX12_isName_53 : decode cX12_isName 53 = .ok (.ireturn, 1) := by decide +kernel
theorem dX12_takes_0 : decode cX12_takes 0 = .ok (.aload_n 0, 1) := by decide +kernel
theorem dX12_takes_1 : decode cX12_takes 1 = .ok (.getfield 165, 3) := by decide +kernel
theorem dX12_takes_4 : decode cX12_takes 4 = .ok (.iconst 2, 1) := by decide +kernel
theorem dX12_takes_5 : decode cX12_takes 5 = .ok (.if_icmp .eq 9, 3) := by decide +kernel
theorem dX12_takes_8 : decode cX12_takes 8 = .ok (.aload_n 0, 1) := by decide +kernel
theorem dX12_takes_9 : decode cX12_takes 9 = .ok (.iconst 1, 1) := by decide +kernel
theorem dX12_takes_10 : decode cX12_takes 10 = .ok (.invokevirtual 191, 3) := by decide +kernel
theorem dX12_takes_13 : decode cX12_takes 13 = .ok (.ireturn, 1) := by decide +kernel
theorem dX12_takes_14 : decode cX12_takes 14 = .ok (.aload_n 0, 1) := by decide +kernel
theorem dX12_takes_15 : decode cX12_takes 15 = .ok (.getfield 175, 3) := by decide +kernel
theorem dX12_takes_18 : decode cX12_takes 18 = .ok (.iload_n 1, 1) := by decide +kernel
theorem dX12_takes_19 : decode cX12_takes 19 = .ok (.iload_n 2, 1) := by decide +kernel
theorem dX12_takes_20 : decode cX12_takes 20 = .ok (.invokestatic 197, 3) := by decide +kernel
theorem dX12_takes_23 : decode cX12_takes 23 = .ok (.ifCond .ne 9, 3) := by decide +kernel
theorem dX12_takes_26 : decode cX12_takes 26 = .ok (.aload_n 0, 1) := by decide +kernel
theorem dX12_takes_27 : decode cX12_takes 27 = .ok (.iconst 2, 1) := by decide +kernel
theorem dX12_takes_28 : decode cX12_takes 28 = .ok (.invokevirtual 191, 3) := by decide +kernel
theorem dX12_takes_31 : decode cX12_takes 31 = .ok (.ireturn, 1) := by decide +kernel
theorem dX12_takes_32 : decode cX12_takes 32 = .ok (.aload_n 0, 1) := by decide +kernel
theorem dX12_takes_33 : decode cX12_takes 33 = .ok (.aload_n 0, 1) := by decide +kernel
theorem dX12_takes_34 : decode cX12_takes 34 = .ok (.getfield 175, 3) := by decide +kernel
theorem dX12_takes_37 : decode cX12_takes 37 = .ok (.putfield 201, 3) := by decide +kernel
theorem dX12_takes_40 : decode cX12_takes 40 = .ok (.aload_n 0, 1) := by decide +kernel
theorem dX12_takes_41 : decode cX12_takes 41 = .ok (.invokevirtual 194, 3) := by decide +kernel
theorem dX12_takes_44 : decode cX12_takes 44 = .ok (.iconst 1, 1) := by decide +kernel
theorem dX12_takes_45 : decode cX12_takes 45 = .ok (.ireturn, 1) := by decide +kernel
theorem dX12_find_0 : decode cX12_find 0 = .ok (.iconst 0, 1) := by decide +kernel
theorem dX12_find_1 : decode cX12_find 1 = .ok (.istore_n 3, 1) := by decide +kernel
theorem dX12_find_2 : decode cX12_find 2 = .ok (.iload_n 3, 1) := by decide +kernel
theorem dX12_find_3 : decode cX12_find 3 = .ok (.iload_n 2, 1) := by decide +kernel
theorem dX12_find_4 : decode cX12_find 4 = .ok (.if_icmp .ge 27, 3) := by decide +kernel
theorem dX12_find_7 : decode cX12_find 7 = .ok (.aload_n 0, 1) := by decide +kernel
theorem dX12_find_8 : decode cX12_find 8 = .ok (.getfield 46, 3) := by decide +kernel
theorem dX12_find_11 : decode cX12_find 11 = .ok (.iload_n 1, 1) := by decide +kernel
theorem dX12_find_12 : decode cX12_find 12 = .ok (.iload_n 3, 1) := by decide +kernel
theorem dX12_find_13 : decode cX12_find 13 = .ok (.iadd, 1) := by decide +kernel
theorem dX12_find_14 : decode cX12_find 14 = .ok (.laload, 1) := by decide +kernel
theorem dX12_find_15 : decode cX12_find 15 = .ok (.aload_n 0, 1) := by decide +kernel
theorem dX12_find_16 : decode cX12_find 16 = .ok (.getfield 178, 3) := by decide +kernel
theorem dX12_find_19 : decode cX12_find 19 = .ok (.lcmp, 1) := by decide +kernel
theorem dX12_find_20 : decode cX12_find 20 = .ok (.ifCond .ne 5, 3) := by decide +kernel
theorem dX12_find_23 : decode cX12_find 23 = .ok (.iload_n 3, 1) := by decide +kernel
theorem dX12_find_24 : decode cX12_find 24 = .ok (.ireturn, 1) := by decide +kernel
theorem dX12_find_25 : decode cX12_find 25 = .ok (.iinc 3 1, 3) := by decide +kernel
theorem dX12_find_28 : decode cX12_find 28 = .ok (.goto (-26), 3) := by decide +kernel
theorem dX12_find_31 : decode cX12_find 31 = .ok (.iconst (-1), 1) := by decide +kernel
theorem dX12_find_32 : decode cX12_find 32 = .ok (.ireturn, 1) := by decide +kernel
theorem dX12_fresh_0 : decode cX12_fresh 0 = .ok (.aload_n 0, 1) := by decide +kernel
theorem dX12_fresh_1 : decode cX12_fresh 1 = .ok (.invokevirtual 204, 3) := by decide +kernel
theorem dX12_fresh_4 : decode cX12_fresh 4 = .ok (.ifCond .ne 9, 3) := by decide +kernel
theorem dX12_fresh_7 : decode cX12_fresh 7 = .ok (.aload_n 0, 1) := by decide +kernel
theorem dX12_fresh_8 : decode cX12_fresh 8 = .ok (.iconst 1, 1) := by decide +kernel
theorem dX12_fresh_9 : decode cX12_fresh 9 = .ok (.invokevirtual 191, 3) := by decide +kernel
theorem dX12_fresh_12 : decode cX12_fresh 12 = .ok (.ireturn, 1) := by decide +kernel
theorem dX12_fresh_13 : decode cX12_fresh 13 = .ok (.aload_n 0, 1) := by decide +kernel
theorem dX12_fresh_14 : decode cX12_fresh 14 = .ok (.bipush 40, 2) := by decide +kernel
theorem dX12_fresh_16 : decode cX12_fresh 16 = .ok (.aload_n 0, 1) := by decide +kernel
theorem dX12_fresh_17 : decode cX12_fresh 17 = .ok (.getfield 37, 3) := by decide +kernel
theorem dX12_fresh_20 : decode cX12_fresh 20 = .ok (.iconst 0, 1) := by decide +kernel
theorem dX12_fresh_21 : decode cX12_fresh 21 = .ok (.iaload, 1) := by decide +kernel
theorem dX12_fresh_22 : decode cX12_fresh 22 = .ok (.invokevirtual 208, 3) := by decide +kernel
theorem dX12_fresh_25 : decode cX12_fresh 25 = .ok (.ifCond .ge 18, 3) := by decide +kernel
theorem dX12_fresh_28 : decode cX12_fresh 28 = .ok (.aload_n 0, 1) := by decide +kernel
theorem dX12_fresh_29 : decode cX12_fresh 29 = .ok (.bipush 50, 2) := by decide +kernel
theorem dX12_fresh_31 : decode cX12_fresh 31 = .ok (.aload_n 0, 1) := by decide +kernel
theorem dX12_fresh_32 : decode cX12_fresh 32 = .ok (.getfield 37, 3) := by decide +kernel
theorem dX12_fresh_35 : decode cX12_fresh 35 = .ok (.iconst 1, 1) := by decide +kernel
theorem dX12_fresh_36 : decode cX12_fresh 36 = .ok (.iaload, 1) := by decide +kernel
theorem dX12_fresh_37 : decode cX12_fresh 37 = .ok (.invokevirtual 208, 3) := by decide +kernel
theorem dX12_fresh_40 : decode cX12_fresh 40 = .ok (.ifCond .lt 9, 3) := by decide +kernel
theorem dX12_fresh_43 : decode cX12_fresh 43 = .ok (.aload_n 0, 1) := by decide +kernel
theorem dX12_fresh_44 : decode cX12_fresh 44 = .ok (.iconst 3, 1) := by decide +kernel
theorem dX12_fresh_45 : decode cX12_fresh 45 = .ok (.invokevirtual 191, 3) := by decide +kernel
theorem dX12_fresh_48 : decode cX12_fresh 48 = .ok (.ireturn, 1) := by decide +kernel
theorem dX12_fresh_49 : decode cX12_fresh 49 = .ok (.aload_n 0, 1) := by decide +kernel
theorem dX12_fresh_50 : decode cX12_fresh 50 = .ok (.getfield 46, 3) := by decide +kernel
theorem dX12_fresh_53 : decode cX12_fresh 53 = .ok (.iload_n 1, 1) := by decide +kernel
theorem dX12_fresh_54 : decode cX12_fresh 54 = .ok (.aload_n 0, 1) := by decide +kernel
theorem dX12_fresh_55 : decode cX12_fresh 55 = .ok (.getfield 178, 3) := by decide +kernel
theorem dX12_fresh_58 : decode cX12_fresh 58 = .ok (.lastore, 1) := by decide +kernel
theorem dX12_fresh_59 : decode cX12_fresh 59 = .ok (.aload_n 0, 1) := by decide +kernel
theorem dX12_fresh_60 : decode cX12_fresh 60 = .ok (.invokevirtual 194, 3) := by decide +kernel
theorem dX12_fresh_63 : decode cX12_fresh 63 = .ok (.iconst 1, 1) := by decide +kernel
theorem dX12_fresh_64 : decode cX12_fresh 64 = .ok (.ireturn, 1) := by decide +kernel
theorem dX12_takesPerson_0 : decode cX12_takesPerson 0 = .ok (.aload_n 0, 1) := by decide +kernel
theorem dX12_takesPerson_1 : decode cX12_takesPerson 1 = .ok (.invokevirtual 204, 3) := by decide +kernel
theorem dX12_takesPerson_4 : decode cX12_takesPerson 4 = .ok (.ifCond .ne 9, 3) := by decide +kernel
theorem dX12_takesPerson_7 : decode cX12_takesPerson 7 = .ok (.aload_n 0, 1) := by decide +kernel
theorem dX12_takesPerson_8 : decode cX12_takesPerson 8 = .ok (.iconst 1, 1) := by decide +kernel
theorem dX12_takesPerson_9 : decode cX12_takesPerson 9 = .ok (.invokevirtual 191, 3) := by decide +kernel
theorem dX12_takesPerson_12 : decode cX12_takesPerson 12 = .ok (.ireturn, 1) := by decide +kernel
theorem dX12_takesPerson_13 : decode cX12_takesPerson 13 = .ok (.aload_n 0, 1) := by decide +kernel
theorem dX12_takesPerson_14 : decode cX12_takesPerson 14 = .ok (.aload_n 0, 1) := by decide +kernel
theorem dX12_takesPerson_15 : decode cX12_takesPerson 15 = .ok (.bipush 40, 2) := by decide +kernel
theorem dX12_takesPerson_17 : decode cX12_takesPerson 17 = .ok (.aload_n 0, 1) := by decide +kernel
theorem dX12_takesPerson_18 : decode cX12_takesPerson 18 = .ok (.getfield 37, 3) := by decide +kernel
theorem dX12_takesPerson_21 : decode cX12_takesPerson 21 = .ok (.iconst 0, 1) := by decide +kernel
theorem dX12_takesPerson_22 : decode cX12_takesPerson 22 = .ok (.iaload, 1) := by decide +kernel
theorem dX12_takesPerson_23 : decode cX12_takesPerson 23 = .ok (.invokevirtual 208, 3) := by decide +kernel
theorem dX12_takesPerson_26 : decode cX12_takesPerson 26 = .ok (.putfield 201, 3) := by decide +kernel
theorem dX12_takesPerson_29 : decode cX12_takesPerson 29 = .ok (.aload_n 0, 1) := by decide +kernel
theorem dX12_takesPerson_30 : decode cX12_takesPerson 30 = .ok (.getfield 201, 3) := by decide +kernel
theorem dX12_takesPerson_33 : decode cX12_takesPerson 33 = .ok (.ifCond .lt 11, 3) := by decide +kernel
theorem dX12_takesPerson_36 : decode cX12_takesPerson 36 = .ok (.aload_n 0, 1) := by decide +kernel
theorem dX12_takesPerson_37 : decode cX12_takesPerson 37 = .ok (.getfield 201, 3) := by decide +kernel
theorem dX12_takesPerson_40 : decode cX12_takesPerson 40 = .ok (.iload_n 1, 1) := by decide +kernel
theorem dX12_takesPerson_41 : decode cX12_takesPerson 41 = .ok (.if_icmp .ne 9, 3) := by decide +kernel
theorem dX12_takesPerson_44 : decode cX12_takesPerson 44 = .ok (.aload_n 0, 1) := by decide +kernel
theorem dX12_takesPerson_45 : decode cX12_takesPerson 45 = .ok (.iconst 3, 1) := by decide +kernel
theorem dX12_takesPerson_46 : decode cX12_takesPerson 46 = .ok (.invokevirtual 191, 3) := by decide +kernel
theorem dX12_takesPerson_49 : decode cX12_takesPerson 49 = .ok (.ireturn, 1) := by decide +kernel
theorem dX12_takesPerson_50 : decode cX12_takesPerson 50 = .ok (.aload_n 0, 1) := by decide +kernel
theorem dX12_takesPerson_51 : decode cX12_takesPerson 51 = .ok (.invokevirtual 194, 3) := by decide +kernel
theorem dX12_takesPerson_54 : decode cX12_takesPerson 54 = .ok (.iconst 1, 1) := by decide +kernel
theorem dX12_takesPerson_55 : decode cX12_takesPerson 55 = .ok (.ireturn, 1) := by decide +kernel
theorem dX12_line_0 : decode cX12_line 0 = .ok (.aload_n 0, 1) := by decide +kernel
theorem dX12_line_1 : decode cX12_line 1 = .ok (.ldc2_w 129, 3) := by decide +kernel
theorem dX12_line_4 : decode cX12_line 4 = .ok (.invokevirtual 212, 3) := by decide +kernel
theorem dX12_line_7 : decode cX12_line 7 = .ok (.ifCond .eq 114, 3) := by decide +kernel
theorem dX12_line_10 : decode cX12_line 10 = .ok (.aload_n 0, 1) := by decide +kernel
theorem dX12_line_11 : decode cX12_line 11 = .ok (.getfield 37, 3) := by decide +kernel
theorem dX12_line_14 : decode cX12_line 14 = .ok (.iconst 0, 1) := by decide +kernel
theorem dX12_line_15 : decode cX12_line 15 = .ok (.iaload, 1) := by decide +kernel
theorem dX12_line_16 : decode cX12_line 16 = .ok (.istore_n 1, 1) := by decide +kernel
theorem dX12_line_17 : decode cX12_line 17 = .ok (.iload_n 1, 1) := by decide +kernel
theorem dX12_line_18 : decode cX12_line 18 = .ok (.bipush 10, 2) := by decide +kernel
theorem dX12_line_20 : decode cX12_line 20 = .ok (.if_icmp .ne 9, 3) := by decide +kernel
theorem dX12_line_23 : decode cX12_line 23 = .ok (.aload_n 0, 1) := by decide +kernel
theorem dX12_line_24 : decode cX12_line 24 = .ok (.iconst 4, 1) := by decide +kernel
theorem dX12_line_25 : decode cX12_line 25 = .ok (.invokevirtual 191, 3) := by decide +kernel
theorem dX12_line_28 : decode cX12_line 28 = .ok (.ireturn, 1) := by decide +kernel
theorem dX12_line_29 : decode cX12_line 29 = .ok (.aload_n 0, 1) := by decide +kernel
theorem dX12_line_30 : decode cX12_line 30 = .ok (.invokevirtual 194, 3) := by decide +kernel
theorem dX12_line_33 : decode cX12_line 33 = .ok (.aload_n 0, 1) := by decide +kernel
theorem dX12_line_34 : decode cX12_line 34 = .ok (.bipush 40, 2) := by decide +kernel
theorem dX12_line_36 : decode cX12_line 36 = .ok (.iload_n 1, 1) := by decide +kernel
theorem dX12_line_37 : decode cX12_line 37 = .ok (.iadd, 1) := by decide +kernel
theorem dX12_line_38 : decode cX12_line 38 = .ok (.invokevirtual 216, 3) := by decide +kernel
theorem dX12_line_41 : decode cX12_line 41 = .ok (.ifCond .ne 5, 3) := by decide +kernel
theorem dX12_line_44 : decode cX12_line 44 = .ok (.iconst 0, 1) := by decide +kernel
theorem dX12_line_45 : decode cX12_line 45 = .ok (.ireturn, 1) := by decide +kernel
theorem dX12_line_46 : decode cX12_line 46 = .ok (.aload_n 0, 1) := by decide +kernel
theorem dX12_line_47 : decode cX12_line 47 = .ok (.iconst 0, 1) := by decide +kernel
theorem dX12_line_48 : decode cX12_line 48 = .ok (.bipush 59, 2) := by decide +kernel
theorem dX12_line_50 : decode cX12_line 50 = .ok (.invokevirtual 219, 3) := by decide +kernel
theorem dX12_line_53 : decode cX12_line 53 = .ok (.ifCond .ne 5, 3) := by decide +kernel
theorem dX12_line_56 : decode cX12_line 56 = .ok (.iconst 0, 1) := by decide +kernel
theorem dX12_line_57 : decode cX12_line 57 = .ok (.ireturn, 1) := by decide +kernel
theorem dX12_line_58 : decode cX12_line 58 = .ok (.aload_n 0, 1) := by decide +kernel
theorem dX12_line_59 : decode cX12_line 59 = .ok (.getfield 37, 3) := by decide +kernel
theorem dX12_line_62 : decode cX12_line 62 = .ok (.iconst 4, 1) := by decide +kernel
theorem dX12_line_63 : decode cX12_line 63 = .ok (.iload_n 1, 1) := by decide +kernel
theorem dX12_line_64 : decode cX12_line 64 = .ok (.iadd, 1) := by decide +kernel
theorem dX12_line_65 : decode cX12_line 65 = .ok (.aload_n 0, 1) := by decide +kernel
theorem dX12_line_66 : decode cX12_line 66 = .ok (.getfield 201, 3) := by decide +kernel
theorem dX12_line_69 : decode cX12_line 69 = .ok (.iastore, 1) := by decide +kernel
theorem dX12_line_70 : decode cX12_line 70 = .ok (.aload_n 0, 1) := by decide +kernel
theorem dX12_line_71 : decode cX12_line 71 = .ok (.aload_n 0, 1) := by decide +kernel
theorem dX12_line_72 : decode cX12_line 72 = .ok (.getfield 201, 3) := by decide +kernel
theorem dX12_line_75 : decode cX12_line 75 = .ok (.bipush 59, 2) := by decide +kernel
theorem dX12_line_77 : decode cX12_line 77 = .ok (.invokevirtual 219, 3) := by decide +kernel
theorem dX12_line_80 : decode cX12_line 80 = .ok (.ifCond .ne 5, 3) := by decide +kernel
theorem dX12_line_83 : decode cX12_line 83 = .ok (.iconst 0, 1) := by decide +kernel
theorem dX12_line_84 : decode cX12_line 84 = .ok (.ireturn, 1) := by decide +kernel
theorem dX12_line_85 : decode cX12_line 85 = .ok (.aload_n 0, 1) := by decide +kernel
theorem dX12_line_86 : decode cX12_line 86 = .ok (.getfield 37, 3) := by decide +kernel
theorem dX12_line_89 : decode cX12_line 89 = .ok (.bipush 14, 2) := by decide +kernel
theorem dX12_line_91 : decode cX12_line 91 = .ok (.iload_n 1, 1) := by decide +kernel
theorem dX12_line_92 : decode cX12_line 92 = .ok (.iadd, 1) := by decide +kernel
theorem dX12_line_93 : decode cX12_line 93 = .ok (.aload_n 0, 1) := by decide +kernel
theorem dX12_line_94 : decode cX12_line 94 = .ok (.getfield 201, 3) := by decide +kernel
theorem dX12_line_97 : decode cX12_line 97 = .ok (.iastore, 1) := by decide +kernel
theorem dX12_line_98 : decode cX12_line 98 = .ok (.aload_n 0, 1) := by decide +kernel
theorem dX12_line_99 : decode cX12_line 99 = .ok (.getfield 37, 3) := by decide +kernel
theorem dX12_line_102 : decode cX12_line 102 = .ok (.bipush 24, 2) := by decide +kernel
theorem dX12_line_104 : decode cX12_line 104 = .ok (.iload_n 1, 1) := by decide +kernel
theorem dX12_line_105 : decode cX12_line 105 = .ok (.iadd, 1) := by decide +kernel
theorem dX12_line_106 : decode cX12_line 106 = .ok (.bipush 9, 2) := by decide +kernel
theorem dX12_line_108 : decode cX12_line 108 = .ok (.iastore, 1) := by decide +kernel
theorem dX12_line_109 : decode cX12_line 109 = .ok (.aload_n 0, 1) := by decide +kernel
theorem dX12_line_110 : decode cX12_line 110 = .ok (.getfield 37, 3) := by decide +kernel
theorem dX12_line_113 : decode cX12_line 113 = .ok (.iconst 0, 1) := by decide +kernel
theorem dX12_line_114 : decode cX12_line 114 = .ok (.dup2, 1) := by decide +kernel
theorem dX12_line_115 : decode cX12_line 115 = .ok (.iaload, 1) := by decide +kernel
theorem dX12_line_116 : decode cX12_line 116 = .ok (.iconst 1, 1) := by decide +kernel
theorem dX12_line_117 : decode cX12_line 117 = .ok (.iadd, 1) := by decide +kernel
theorem dX12_line_118 : decode cX12_line 118 = .ok (.iastore, 1) := by decide +kernel
theorem dX12_line_119 : decode cX12_line 119 = .ok (.iconst 1, 1) := by decide +kernel
theorem dX12_line_120 : decode cX12_line 120 = .ok (.ireturn, 1) := by decide +kernel
theorem dX12_line_121 : decode cX12_line 121 = .ok (.aload_n 0, 1) := by decide +kernel
theorem dX12_line_122 : decode cX12_line 122 = .ok (.ldc2_w 131, 3) := by decide +kernel
theorem dX12_line_125 : decode cX12_line 125 = .ok (.invokevirtual 212, 3) := by decide +kernel
theorem dX12_line_128 : decode cX12_line 128 = .ok (.ifCond .eq 60, 3) := by decide +kernel
theorem dX12_line_131 : decode cX12_line 131 = .ok (.aload_n 0, 1) := by decide +kernel
theorem dX12_line_132 : decode cX12_line 132 = .ok (.aload_n 0, 1) := by decide +kernel
theorem dX12_line_133 : decode cX12_line 133 = .ok (.getfield 223, 3) := by decide +kernel
theorem dX12_line_136 : decode cX12_line 136 = .ok (.invokevirtual 226, 3) := by decide +kernel
theorem dX12_line_139 : decode cX12_line 139 = .ok (.ifCond .ne 5, 3) := by decide +kernel
theorem dX12_line_142 : decode cX12_line 142 = .ok (.iconst 0, 1) := by decide +kernel
theorem dX12_line_143 : decode cX12_line 143 = .ok (.ireturn, 1) := by decide +kernel
theorem dX12_line_144 : decode cX12_line 144 = .ok (.aload_n 0, 1) := by decide +kernel
theorem dX12_line_145 : decode cX12_line 145 = .ok (.getfield 201, 3) := by decide +kernel
theorem dX12_line_148 : decode cX12_line 148 = .ok (.istore_n 1, 1) := by decide +kernel
theorem dX12_line_149 : decode cX12_line 149 = .ok (.aload_n 0, 1) := by decide +kernel
theorem dX12_line_150 : decode cX12_line 150 = .ok (.dup, 1) := by decide +kernel
theorem dX12_line_151 : decode cX12_line 151 = .ok (.getfield 223, 3) := by decide +kernel
theorem dX12_line_154 : decode cX12_line 154 = .ok (.iconst 1, 1) := by decide +kernel
theorem dX12_line_155 : decode cX12_line 155 = .ok (.iload_n 1, 1) := by decide +kernel
theorem dX12_line_156 : decode cX12_line 156 = .ok (.ishl, 1) := by decide +kernel
theorem dX12_line_157 : decode cX12_line 157 = .ok (.ior, 1) := by decide +kernel
theorem dX12_line_158 : decode cX12_line 158 = .ok (.putfield 223, 3) := by decide +kernel
theorem dX12_line_161 : decode cX12_line 161 = .ok (.aload_n 0, 1) := by decide +kernel
theorem dX12_line_162 : decode cX12_line 162 = .ok (.iconst 0, 1) := by decide +kernel
theorem dX12_line_163 : decode cX12_line 163 = .ok (.bipush 9, 2) := by decide +kernel
theorem dX12_line_165 : decode cX12_line 165 = .ok (.invokevirtual 219, 3) := by decide +kernel
theorem dX12_line_168 : decode cX12_line 168 = .ok (.ifCond .ne 5, 3) := by decide +kernel
theorem dX12_line_171 : decode cX12_line 171 = .ok (.iconst 0, 1) := by decide +kernel
theorem dX12_line_172 : decode cX12_line 172 = .ok (.ireturn, 1) := by decide +kernel
theorem dX12_line_173 : decode cX12_line 173 = .ok (.aload_n 0, 1) := by decide +kernel
theorem dX12_line_174 : decode cX12_line 174 = .ok (.getfield 37, 3) := by decide +kernel
theorem dX12_line_177 : decode cX12_line 177 = .ok (.bipush 24, 2) := by decide +kernel
theorem dX12_line_179 : decode cX12_line 179 = .ok (.iload_n 1, 1) := by decide +kernel
theorem dX12_line_180 : decode cX12_line 180 = .ok (.iadd, 1) := by decide +kernel
theorem dX12_line_181 : decode cX12_line 181 = .ok (.aload_n 0, 1) := by decide +kernel
theorem dX12_line_182 : decode cX12_line 182 = .ok (.getfield 201, 3) := by decide +kernel
theorem dX12_line_185 : decode cX12_line 185 = .ok (.iastore, 1) := by decide +kernel
theorem dX12_line_186 : decode cX12_line 186 = .ok (.iconst 1, 1) := by decide +kernel
theorem dX12_line_187 : decode cX12_line 187 = .ok (.ireturn, 1) := by decide +kernel
theorem dX12_line_188 : decode cX12_line 188 = .ok (.aload_n 0, 1) := by decide +kernel
theorem dX12_line_189 : decode cX12_line 189 = .ok (.ldc2_w 133, 3) := by decide +kernel
theorem dX12_line_192 : decode cX12_line 192 = .ok (.invokevirtual 212, 3) := by decide +kernel
theorem dX12_line_195 : decode cX12_line 195 = .ok (.ifCond .eq 8, 3) := by decide +kernel
theorem dX12_line_198 : decode cX12_line 198 = .ok (.aload_n 0, 1) := by decide +kernel
theorem dX12_line_199 : decode cX12_line 199 = .ok (.invokevirtual 229, 3) := by decide +kernel
theorem dX12_line_202 : decode cX12_line 202 = .ok (.ireturn, 1) := by decide +kernel
theorem dX12_line_203 : decode cX12_line 203 = .ok (.aload_n 0, 1) := by decide +kernel
theorem dX12_line_204 : decode cX12_line 204 = .ok (.ldc2_w 137, 3) := by decide +kernel
theorem dX12_line_207 : decode cX12_line 207 = .ok (.invokevirtual 212, 3) := by decide +kernel
theorem dX12_line_210 : decode cX12_line 210 = .ok (.ifCond .eq 8, 3) := by decide +kernel
theorem dX12_line_213 : decode cX12_line 213 = .ok (.aload_n 0, 1) := by decide +kernel
theorem dX12_line_214 : decode cX12_line 214 = .ok (.invokevirtual 232, 3) := by decide +kernel
theorem dX12_line_217 : decode cX12_line 217 = .ok (.ireturn, 1) := by decide +kernel
theorem dX12_line_218 : decode cX12_line 218 = .ok (.aload_n 0, 1) := by decide +kernel
theorem dX12_line_219 : decode cX12_line 219 = .ok (.ldc2_w 143, 3) := by decide +kernel
theorem dX12_line_222 : decode cX12_line 222 = .ok (.invokevirtual 212, 3) := by decide +kernel
theorem dX12_line_225 : decode cX12_line 225 = .ok (.ifCond .ne 9, 3) := by decide +kernel
theorem dX12_line_228 : decode cX12_line 228 = .ok (.aload_n 0, 1) := by decide +kernel
theorem dX12_line_229 : decode cX12_line 229 = .ok (.iconst 1, 1) := by decide +kernel
theorem dX12_line_230 : decode cX12_line 230 = .ok (.invokevirtual 191, 3) := by decide +kernel
theorem dX12_line_233 : decode cX12_line 233 = .ok (.ireturn, 1) := by decide +kernel
theorem dX12_line_234 : decode cX12_line 234 = .ok (.iconst 0, 1) := by decide +kernel
theorem dX12_line_235 : decode cX12_line 235 = .ok (.istore_n 1, 1) := by decide +kernel
theorem dX12_line_236 : decode cX12_line 236 = .ok (.iconst 0, 1) := by decide +kernel
theorem dX12_line_237 : decode cX12_line 237 = .ok (.istore_n 2, 1) := by decide +kernel
theorem dX12_line_238 : decode cX12_line 238 = .ok (.iload_n 2, 1) := by decide +kernel
theorem dX12_line_239 : decode cX12_line 239 = .ok (.aload_n 0, 1) := by decide +kernel
theorem dX12_line_240 : decode cX12_line 240 = .ok (.getfield 37, 3) := by decide +kernel
theorem dX12_line_243 : decode cX12_line 243 = .ok (.iconst 0, 1) := by decide +kernel
theorem dX12_line_244 : decode cX12_line 244 = .ok (.iaload, 1) := by decide +kernel
theorem dX12_line_245 : decode cX12_line 245 = .ok (.if_icmp .ge 31, 3) := by decide +kernel
theorem dX12_line_248 : decode cX12_line 248 = .ok (.iload_n 1, 1) := by decide +kernel
theorem dX12_line_249 : decode cX12_line 249 = .ok (.aload_n 0, 1) := by decide +kernel
theorem dX12_line_250 : decode cX12_line 250 = .ok (.getfield 37, 3) := by decide +kernel
theorem dX12_line_253 : decode cX12_line 253 = .ok (.bipush 34, 2) := by decide +kernel
theorem dX12_line_255 : decode cX12_line 255 = .ok (.iload_n 2, 1) := by decide +kernel
theorem dX12_line_256 : decode cX12_line 256 = .ok (.iadd, 1) := by decide +kernel
theorem dX12_line_257 : decode cX12_line 257 = .ok (.iaload, 1) := by decide +kernel
theorem dX12_line_258 : decode cX12_line 258 = .ok (.ifCond .le 9, 3) := by decide +kernel
theorem dX12_line_261 : decode cX12_line 261 = .ok (.iconst 1, 1) := by decide +kernel
theorem dX12_line_262 : decode cX12_line 262 = .ok (.iload_n 2, 1) := by decide +kernel
theorem dX12_line_263 : decode cX12_line 263 = .ok (.ishl, 1) := by decide +kernel
theorem dX12_line_264 : decode cX12_line 264 = .ok (.goto 4, 3) := by decide +kernel
theorem dX12_line_267 : decode cX12_line 267 = .ok (.iconst 0, 1) := by decide +kernel
theorem dX12_line_268 : decode cX12_line 268 = .ok (.ior, 1) := by decide +kernel
theorem dX12_line_269 : decode cX12_line 269 = .ok (.istore_n 1, 1) := by decide +kernel
theorem dX12_line_270 : decode cX12_line 270 = .ok (.iinc 2 1, 3) := by decide +kernel
theorem dX12_line_273 : decode cX12_line 273 = .ok (.goto (-35), 3) := by decide +kernel
theorem dX12_line_276 : decode cX12_line 276 = .ok (.aload_n 0, 1) := by decide +kernel
theorem dX12_line_277 : decode cX12_line 277 = .ok (.iload_n 1, 1) := by decide +kernel
theorem dX12_line_278 : decode cX12_line 278 = .ok (.invokevirtual 226, 3) := by decide +kernel
theorem dX12_line_281 : decode cX12_line 281 = .ok (.ifCond .ne 5, 3) := by decide +kernel
theorem dX12_line_284 : decode cX12_line 284 = .ok (.iconst 0, 1) := by decide +kernel
theorem dX12_line_285 : decode cX12_line 285 = .ok (.ireturn, 1) := by decide +kernel
theorem dX12_line_286 : decode cX12_line 286 = .ok (.aload_n 0, 1) := by decide +kernel
theorem dX12_line_287 : decode cX12_line 287 = .ok (.ldc2_w 145, 3) := by decide +kernel
theorem dX12_line_290 : decode cX12_line 290 = .ok (.invokevirtual 212, 3) := by decide +kernel
theorem dX12_line_293 : decode cX12_line 293 = .ok (.ifCond .ne 19, 3) := by decide +kernel
theorem dX12_line_296 : decode cX12_line 296 = .ok (.aload_n 0, 1) := by decide +kernel
theorem dX12_line_297 : decode cX12_line 297 = .ok (.ldc2_w 147, 3) := by decide +kernel
theorem dX12_line_300 : decode cX12_line 300 = .ok (.invokevirtual 212, 3) := by decide +kernel
theorem dX12_line_303 : decode cX12_line 303 = .ok (.ifCond .ne 9, 3) := by decide +kernel
theorem dX12_line_306 : decode cX12_line 306 = .ok (.aload_n 0, 1) := by decide +kernel
theorem dX12_line_307 : decode cX12_line 307 = .ok (.iconst 1, 1) := by decide +kernel
theorem dX12_line_308 : decode cX12_line 308 = .ok (.invokevirtual 191, 3) := by decide +kernel
theorem dX12_line_311 : decode cX12_line 311 = .ok (.ireturn, 1) := by decide +kernel
theorem dX12_line_312 : decode cX12_line 312 = .ok (.aload_n 0, 1) := by decide +kernel
theorem dX12_line_313 : decode cX12_line 313 = .ok (.getfield 37, 3) := by decide +kernel
theorem dX12_line_316 : decode cX12_line 316 = .ok (.bipush 34, 2) := by decide +kernel
theorem dX12_line_318 : decode cX12_line 318 = .ok (.aload_n 0, 1) := by decide +kernel
theorem dX12_line_319 : decode cX12_line 319 = .ok (.getfield 201, 3) := by decide +kernel
theorem dX12_line_322 : decode cX12_line 322 = .ok (.iadd, 1) := by decide +kernel
theorem dX12_line_323 : decode cX12_line 323 = .ok (.aload_n 0, 1) := by decide +kernel
theorem dX12_line_324 : decode cX12_line 324 = .ok (.ldc2_w 145, 3) := by decide +kernel
theorem dX12_line_327 : decode cX12_line 327 = .ok (.invokevirtual 212, 3) := by decide +kernel
theorem dX12_line_330 : decode cX12_line 330 = .ok (.ifCond .eq 7, 3) := by decide +kernel
theorem dX12_line_333 : decode cX12_line 333 = .ok (.iconst 2, 1) := by decide +kernel
theorem dX12_line_334 : decode cX12_line 334 = .ok (.goto 4, 3) := by decide +kernel
theorem dX12_line_337 : decode cX12_line 337 = .ok (.iconst 1, 1) := by decide +kernel
theorem dX12_line_338 : decode cX12_line 338 = .ok (.iastore, 1) := by decide +kernel
theorem dX12_line_339 : decode cX12_line 339 = .ok (.aload_n 0, 1) := by decide +kernel
theorem dX12_line_340 : decode cX12_line 340 = .ok (.invokevirtual 194, 3) := by decide +kernel
theorem dX12_line_343 : decode cX12_line 343 = .ok (.iconst 1, 1) := by decide +kernel
theorem dX12_line_344 : decode cX12_line 344 = .ok (.ireturn, 1) := by decide +kernel
theorem dX12_toldOf_0 : decode cX12_toldOf 0 = .ok (.aload_n 0, 1) := by decide +kernel
theorem dX12_toldOf_1 : decode cX12_toldOf 1 = .ok (.invokevirtual 194, 3) := by decide +kernel
theorem dX12_toldOf_4 : decode cX12_toldOf 4 = .ok (.aload_n 0, 1) := by decide +kernel
theorem dX12_toldOf_5 : decode cX12_toldOf 5 = .ok (.invokevirtual 204, 3) := by decide +kernel
theorem dX12_toldOf_8 : decode cX12_toldOf 8 = .ok (.ifCond .ne 9, 3) := by decide +kernel
theorem dX12_toldOf_11 : decode cX12_toldOf 11 = .ok (.aload_n 0, 1) := by decide +kernel
theorem dX12_toldOf_12 : decode cX12_toldOf 12 = .ok (.iconst 1, 1) := by decide +kernel
theorem dX12_toldOf_13 : decode cX12_toldOf 13 = .ok (.invokevirtual 191, 3) := by decide +kernel
theorem dX12_toldOf_16 : decode cX12_toldOf 16 = .ok (.ireturn, 1) := by decide +kernel
theorem dX12_toldOf_17 : decode cX12_toldOf 17 = .ok (.aload_n 0, 1) := by decide +kernel
theorem dX12_toldOf_18 : decode cX12_toldOf 18 = .ok (.aload_n 0, 1) := by decide +kernel
theorem dX12_toldOf_19 : decode cX12_toldOf 19 = .ok (.bipush 40, 2) := by decide +kernel
theorem dX12_toldOf_21 : decode cX12_toldOf 21 = .ok (.aload_n 0, 1) := by decide +kernel
theorem dX12_toldOf_22 : decode cX12_toldOf 22 = .ok (.getfield 37, 3) := by decide +kernel
theorem dX12_toldOf_25 : decode cX12_toldOf 25 = .ok (.iconst 0, 1) := by decide +kernel
theorem dX12_toldOf_26 : decode cX12_toldOf 26 = .ok (.iaload, 1) := by decide +kernel
theorem dX12_toldOf_27 : decode cX12_toldOf 27 = .ok (.invokevirtual 208, 3) := by decide +kernel
theorem dX12_toldOf_30 : decode cX12_toldOf 30 = .ok (.putfield 201, 3) := by decide +kernel
theorem dX12_toldOf_33 : decode cX12_toldOf 33 = .ok (.aload_n 0, 1) := by decide +kernel
theorem dX12_toldOf_34 : decode cX12_toldOf 34 = .ok (.getfield 201, 3) := by decide +kernel
theorem dX12_toldOf_37 : decode cX12_toldOf 37 = .ok (.ifCond .lt 14, 3) := by decide +kernel
theorem dX12_toldOf_40 : decode cX12_toldOf 40 = .ok (.iload_n 1, 1) := by decide +kernel
theorem dX12_toldOf_41 : decode cX12_toldOf 41 = .ok (.aload_n 0, 1) := by decide +kernel
theorem dX12_toldOf_42 : decode cX12_toldOf 42 = .ok (.getfield 201, 3) := by decide +kernel
theorem dX12_toldOf_45 : decode cX12_toldOf 45 = .ok (.invokestatic 235, 3) := by decide +kernel
theorem dX12_toldOf_48 : decode cX12_toldOf 48 = .ok (.ifCond .eq 9, 3) := by decide +kernel
theorem dX12_toldOf_51 : decode cX12_toldOf 51 = .ok (.aload_n 0, 1) := by decide +kernel
theorem dX12_toldOf_52 : decode cX12_toldOf 52 = .ok (.iconst 3, 1) := by decide +kernel
theorem dX12_toldOf_53 : decode cX12_toldOf 53 = .ok (.invokevirtual 191, 3) := by decide +kernel
theorem dX12_toldOf_56 : decode cX12_toldOf 56 = .ok (.ireturn, 1) := by decide +kernel
theorem dX12_toldOf_57 : decode cX12_toldOf 57 = .ok (.aload_n 0, 1) := by decide +kernel
theorem dX12_toldOf_58 : decode cX12_toldOf 58 = .ok (.invokevirtual 194, 3) := by decide +kernel
theorem dX12_toldOf_61 : decode cX12_toldOf 61 = .ok (.iconst 1, 1) := by decide +kernel
theorem dX12_toldOf_62 : decode cX12_toldOf 62 = .ok (.ireturn, 1) := by decide +kernel
theorem dX12_readLaw_0 : decode cX12_readLaw 0 = .ok (.aload_n 0, 1) := by decide +kernel
theorem dX12_readLaw_1 : decode cX12_readLaw 1 = .ok (.getfield 238, 3) := by decide +kernel
theorem dX12_readLaw_4 : decode cX12_readLaw 4 = .ok (.ifCond .eq 9, 3) := by decide +kernel
theorem dX12_readLaw_7 : decode cX12_readLaw 7 = .ok (.aload_n 0, 1) := by decide +kernel
theorem dX12_readLaw_8 : decode cX12_readLaw 8 = .ok (.iconst 3, 1) := by decide +kernel
theorem dX12_readLaw_9 : decode cX12_readLaw 9 = .ok (.invokevirtual 191, 3) := by decide +kernel
theorem dX12_readLaw_12 : decode cX12_readLaw 12 = .ok (.ireturn, 1) := by decide +kernel
theorem dX12_readLaw_13 : decode cX12_readLaw 13 = .ok (.aload_n 0, 1) := by decide +kernel
theorem dX12_readLaw_14 : decode cX12_readLaw 14 = .ok (.iconst 1, 1) := by decide +kernel
theorem dX12_readLaw_15 : decode cX12_readLaw 15 = .ok (.putfield 238, 3) := by decide +kernel
theorem dX12_readLaw_18 : decode cX12_readLaw 18 = .ok (.aload_n 0, 1) := by decide +kernel
theorem dX12_readLaw_19 : decode cX12_readLaw 19 = .ok (.invokevirtual 194, 3) := by decide +kernel
theorem dX12_readLaw_22 : decode cX12_readLaw 22 = .ok (.aload_n 0, 1) := by decide +kernel
theorem dX12_readLaw_23 : decode cX12_readLaw 23 = .ok (.ldc2_w 139, 3) := by decide +kernel
theorem dX12_readLaw_26 : decode cX12_readLaw 26 = .ok (.invokevirtual 212, 3) := by decide +kernel
theorem dX12_readLaw_29 : decode cX12_readLaw 29 = .ok (.ifCond .eq 9, 3) := by decide +kernel
theorem dX12_readLaw_32 : decode cX12_readLaw 32 = .ok (.aload_n 0, 1) := by decide +kernel
theorem dX12_readLaw_33 : decode cX12_readLaw 33 = .ok (.invokevirtual 194, 3) := by decide +kernel
theorem dX12_readLaw_36 : decode cX12_readLaw 36 = .ok (.iconst 1, 1) := by decide +kernel
theorem dX12_readLaw_37 : decode cX12_readLaw 37 = .ok (.ireturn, 1) := by decide +kernel
theorem dX12_readLaw_38 : decode cX12_readLaw 38 = .ok (.aload_n 0, 1) := by decide +kernel
theorem dX12_readLaw_39 : decode cX12_readLaw 39 = .ok (.ldc2_w 141, 3) := by decide +kernel
theorem dX12_readLaw_42 : decode cX12_readLaw 42 = .ok (.invokevirtual 212, 3) := by decide +kernel
theorem dX12_readLaw_45 : decode cX12_readLaw 45 = .ok (.ifCond .ne 9, 3) := by decide +kernel
theorem dX12_readLaw_48 : decode cX12_readLaw 48 = .ok (.aload_n 0, 1) := by decide +kernel
theorem dX12_readLaw_49 : decode cX12_readLaw 49 = .ok (.iconst 1, 1) := by decide +kernel
theorem dX12_readLaw_50 : decode cX12_readLaw 50 = .ok (.invokevirtual 191, 3) := by decide +kernel
theorem dX12_readLaw_53 : decode cX12_readLaw 53 = .ok (.ireturn, 1) := by decide +kernel
theorem dX12_readLaw_54 : decode cX12_readLaw 54 = .ok (.aload_n 0, 1) := by decide +kernel
theorem dX12_readLaw_55 : decode cX12_readLaw 55 = .ok (.invokevirtual 194, 3) := by decide +kernel
theorem dX12_readLaw_58 : decode cX12_readLaw 58 = .ok (.aload_n 0, 1) := by decide +kernel
theorem dX12_readLaw_59 : decode cX12_readLaw 59 = .ok (.iconst 1, 1) := by decide +kernel
theorem dX12_readLaw_60 : decode cX12_readLaw 60 = .ok (.bipush 60, 2) := by decide +kernel
theorem dX12_readLaw_62 : decode cX12_readLaw 62 = .ok (.invokevirtual 219, 3) := by decide +kernel
theorem dX12_readLaw_65 : decode cX12_readLaw 65 = .ok (.ifCond .ne 5, 3) := by decide +kernel
theorem dX12_readLaw_68 : decode cX12_readLaw 68 = .ok (.iconst 0, 1) := by decide +kernel
theorem dX12_readLaw_69 : decode cX12_readLaw 69 = .ok (.ireturn, 1) := by decide +kernel
theorem dX12_readLaw_70 : decode cX12_readLaw 70 = .ok (.aload_n 0, 1) := by decide +kernel
theorem dX12_readLaw_71 : decode cX12_readLaw 71 = .ok (.getfield 37, 3) := by decide +kernel
theorem dX12_readLaw_74 : decode cX12_readLaw 74 = .ok (.iconst 2, 1) := by decide +kernel
theorem dX12_readLaw_75 : decode cX12_readLaw 75 = .ok (.aload_n 0, 1) := by decide +kernel
theorem dX12_readLaw_76 : decode cX12_readLaw 76 = .ok (.getfield 201, 3) := by decide +kernel
theorem dX12_readLaw_79 : decode cX12_readLaw 79 = .ok (.iastore, 1) := by decide +kernel
theorem dX12_readLaw_80 : decode cX12_readLaw 80 = .ok (.iconst 1, 1) := by decide +kernel
theorem dX12_readLaw_81 : decode cX12_readLaw 81 = .ok (.ireturn, 1) := by decide +kernel
theorem dX12_readDeal_0 : decode cX12_readDeal 0 = .ok (.aload_n 0, 1) := by decide +kernel
theorem dX12_readDeal_1 : decode cX12_readDeal 1 = .ok (.getfield 37, 3) := by decide +kernel
theorem dX12_readDeal_4 : decode cX12_readDeal 4 = .ok (.iconst 1, 1) := by decide +kernel
theorem dX12_readDeal_5 : decode cX12_readDeal 5 = .ok (.iaload, 1) := by decide +kernel
theorem dX12_readDeal_6 : decode cX12_readDeal 6 = .ok (.istore_n 1, 1) := by decide +kernel
theorem dX12_readDeal_7 : decode cX12_readDeal 7 = .ok (.iload_n 1, 1) := by decide +kernel
theorem dX12_readDeal_8 : decode cX12_readDeal 8 = .ok (.bipush 30, 2) := by decide +kernel
theorem dX12_readDeal_10 : decode cX12_readDeal 10 = .ok (.if_icmp .ne 9, 3) := by decide +kernel
theorem dX12_readDeal_13 : decode cX12_readDeal 13 = .ok (.aload_n 0, 1) := by decide +kernel
theorem dX12_readDeal_14 : decode cX12_readDeal 14 = .ok (.iconst 4, 1) := by decide +kernel
theorem dX12_readDeal_15 : decode cX12_readDeal 15 = .ok (.invokevirtual 191, 3) := by decide +kernel
theorem dX12_readDeal_18 : decode cX12_readDeal 18 = .ok (.ireturn, 1) := by decide +kernel
theorem dX12_readDeal_19 : decode cX12_readDeal 19 = .ok (.aload_n 0, 1) := by decide +kernel
theorem dX12_readDeal_20 : decode cX12_readDeal 20 = .ok (.invokevirtual 194, 3) := by decide +kernel
theorem dX12_readDeal_23 : decode cX12_readDeal 23 = .ok (.aload_n 0, 1) := by decide +kernel
theorem dX12_readDeal_24 : decode cX12_readDeal 24 = .ok (.bipush 50, 2) := by decide +kernel
theorem dX12_readDeal_26 : decode cX12_readDeal 26 = .ok (.iload_n 1, 1) := by decide +kernel
theorem dX12_readDeal_27 : decode cX12_readDeal 27 = .ok (.iadd, 1) := by decide +kernel
theorem dX12_readDeal_28 : decode cX12_readDeal 28 = .ok (.invokevirtual 216, 3) := by decide +kernel
theorem dX12_readDeal_31 : decode cX12_readDeal 31 = .ok (.ifCond .ne 5, 3) := by decide +kernel
theorem dX12_readDeal_34 : decode cX12_readDeal 34 = .ok (.iconst 0, 1) := by decide +kernel
theorem dX12_readDeal_35 : decode cX12_readDeal 35 = .ok (.ireturn, 1) := by decide +kernel
theorem dX12_readDeal_36 : decode cX12_readDeal 36 = .ok (.bipush 44, 2) := by decide +kernel
theorem dX12_readDeal_38 : decode cX12_readDeal 38 = .ok (.bipush 6, 2) := by decide +kernel
theorem dX12_readDeal_40 : decode cX12_readDeal 40 = .ok (.iload_n 1, 1) := by decide +kernel
theorem dX12_readDeal_41 : decode cX12_readDeal 41 = .ok (.imul, 1) := by decide +kernel
theorem dX12_readDeal_42 : decode cX12_readDeal 42 = .ok (.iadd, 1) := by decide +kernel
theorem dX12_readDeal_43 : decode cX12_readDeal 43 = .ok (.istore_n 2, 1) := by decide +kernel
theorem dX12_readDeal_44 : decode cX12_readDeal 44 = .ok (.aload_n 0, 1) := by decide +kernel
theorem dX12_readDeal_45 : decode cX12_readDeal 45 = .ok (.iconst (-1), 1) := by decide +kernel
theorem dX12_readDeal_46 : decode cX12_readDeal 46 = .ok (.invokevirtual 241, 3) := by decide +kernel
theorem dX12_readDeal_49 : decode cX12_readDeal 49 = .ok (.ifCond .ne 5, 3) := by decide +kernel
theorem dX12_readDeal_52 : decode cX12_readDeal 52 = .ok (.iconst 0, 1) := by decide +kernel
theorem dX12_readDeal_53 : decode cX12_readDeal 53 = .ok (.ireturn, 1) := by decide +kernel
theorem dX12_readDeal_54 : decode cX12_readDeal 54 = .ok (.aload_n 0, 1) := by decide +kernel
theorem dX12_readDeal_55 : decode cX12_readDeal 55 = .ok (.getfield 201, 3) := by decide +kernel
theorem dX12_readDeal_58 : decode cX12_readDeal 58 = .ok (.istore_n 3, 1) := by decide +kernel
theorem dX12_readDeal_59 : decode cX12_readDeal 59 = .ok (.aload_n 0, 1) := by decide +kernel
theorem dX12_readDeal_60 : decode cX12_readDeal 60 = .ok (.iload_n 3, 1) := by decide +kernel
theorem dX12_readDeal_61 : decode cX12_readDeal 61 = .ok (.invokevirtual 241, 3) := by decide +kernel
theorem dX12_readDeal_64 : decode cX12_readDeal 64 = .ok (.ifCond .ne 5, 3) := by decide +kernel
theorem dX12_readDeal_67 : decode cX12_readDeal 67 = .ok (.iconst 0, 1) := by decide +kernel
theorem dX12_readDeal_68 : decode cX12_readDeal 68 = .ok (.ireturn, 1) := by decide +kernel
theorem dX12_readDeal_69 : decode cX12_readDeal 69 = .ok (.aload_n 0, 1) := by decide +kernel
theorem dX12_readDeal_70 : decode cX12_readDeal 70 = .ok (.getfield 201, 3) := by decide +kernel
theorem dX12_readDeal_73 : decode cX12_readDeal 73 = .ok (.istore 4, 2) := by decide +kernel
theorem dX12_readDeal_75 : decode cX12_readDeal 75 = .ok (.aload_n 0, 1) := by decide +kernel
theorem dX12_readDeal_76 : decode cX12_readDeal 76 = .ok (.getfield 37, 3) := by decide +kernel
theorem dX12_readDeal_79 : decode cX12_readDeal 79 = .ok (.iconst 4, 1) := by decide +kernel
theorem dX12_readDeal_80 : decode cX12_readDeal 80 = .ok (.iload_n 3, 1) := by decide +kernel
theorem dX12_readDeal_81 : decode cX12_readDeal 81 = .ok (.iadd, 1) := by decide +kernel
theorem dX12_readDeal_82 : decode cX12_readDeal 82 = .ok (.iaload, 1) := by decide +kernel
theorem dX12_readDeal_83 : decode cX12_readDeal 83 = .ok (.aload_n 0, 1) := by decide +kernel
theorem dX12_readDeal_84 : decode cX12_readDeal 84 = .ok (.getfield 37, 3) := by decide +kernel
theorem dX12_readDeal_87 : decode cX12_readDeal 87 = .ok (.iconst 4, 1) := by decide +kernel
theorem dX12_readDeal_88 : decode cX12_readDeal 88 = .ok (.iload 4, 2) := by decide +kernel
theorem dX12_readDeal_90 : decode cX12_readDeal 90 = .ok (.iadd, 1) := by decide +kernel
theorem dX12_readDeal_91 : decode cX12_readDeal 91 = .ok (.iaload, 1) := by decide +kernel
theorem dX12_readDeal_92 : decode cX12_readDeal 92 = .ok (.if_icmp .le 14, 3) := by decide +kernel
theorem dX12_readDeal_95 : decode cX12_readDeal 95 = .ok (.aload_n 0, 1) := by decide +kernel
theorem dX12_readDeal_96 : decode cX12_readDeal 96 = .ok (.getfield 37, 3) := by decide +kernel
theorem dX12_readDeal_99 : decode cX12_readDeal 99 = .ok (.iconst 4, 1) := by decide +kernel
theorem dX12_readDeal_100 : decode cX12_readDeal 100 = .ok (.iload_n 3, 1) := by decide +kernel
theorem dX12_readDeal_101 : decode cX12_readDeal 101 = .ok (.iadd, 1) := by decide +kernel
theorem dX12_readDeal_102 : decode cX12_readDeal 102 = .ok (.iaload, 1) := by decide +kernel
theorem dX12_readDeal_103 : decode cX12_readDeal 103 = .ok (.goto 12, 3) := by decide +kernel
theorem dX12_readDeal_106 : decode cX12_readDeal 106 = .ok (.aload_n 0, 1) := by decide +kernel
theorem dX12_readDeal_107 : decode cX12_readDeal 107 = .ok (.getfield 37, 3) := by decide +kernel
theorem dX12_readDeal_110 : decode cX12_readDeal 110 = .ok (.iconst 4, 1) := by decide +kernel
theorem dX12_readDeal_111 : decode cX12_readDeal 111 = .ok (.iload 4, 2) := by decide +kernel
theorem dX12_readDeal_113 : decode cX12_readDeal 113 = .ok (.iadd, 1) := by decide +kernel
theorem dX12_readDeal_114 : decode cX12_readDeal 114 = .ok (.iaload, 1) := by decide +kernel
theorem dX12_readDeal_115 : decode cX12_readDeal 115 = .ok (.istore 5, 2) := by decide +kernel
theorem dX12_readDeal_117 : decode cX12_readDeal 117 = .ok (.aload_n 0, 1) := by decide +kernel
theorem dX12_readDeal_118 : decode cX12_readDeal 118 = .ok (.getfield 37, 3) := by decide +kernel
theorem dX12_readDeal_121 : decode cX12_readDeal 121 = .ok (.bipush 14, 2) := by decide +kernel
theorem dX12_readDeal_123 : decode cX12_readDeal 123 = .ok (.iload_n 3, 1) := by decide +kernel
theorem dX12_readDeal_124 : decode cX12_readDeal 124 = .ok (.iadd, 1) := by decide +kernel
theorem dX12_readDeal_125 : decode cX12_readDeal 125 = .ok (.iaload, 1) := by decide +kernel
theorem dX12_readDeal_126 : decode cX12_readDeal 126 = .ok (.aload_n 0, 1) := by decide +kernel
theorem dX12_readDeal_127 : decode cX12_readDeal 127 = .ok (.getfield 37, 3) := by decide +kernel
theorem dX12_readDeal_130 : decode cX12_readDeal 130 = .ok (.bipush 14, 2) := by decide +kernel
theorem dX12_readDeal_132 : decode cX12_readDeal 132 = .ok (.iload 4, 2) := by decide +kernel
theorem dX12_readDeal_134 : decode cX12_readDeal 134 = .ok (.iadd, 1) := by decide +kernel
theorem dX12_readDeal_135 : decode cX12_readDeal 135 = .ok (.iaload, 1) := by decide +kernel
theorem dX12_readDeal_136 : decode cX12_readDeal 136 = .ok (.if_icmp .ge 15, 3) := by decide +kernel
theorem dX12_readDeal_139 : decode cX12_readDeal 139 = .ok (.aload_n 0, 1) := by decide +kernel
theorem dX12_readDeal_140 : decode cX12_readDeal 140 = .ok (.getfield 37, 3) := by decide +kernel
theorem dX12_readDeal_143 : decode cX12_readDeal 143 = .ok (.bipush 14, 2) := by decide +kernel
theorem dX12_readDeal_145 : decode cX12_readDeal 145 = .ok (.iload_n 3, 1) := by decide +kernel
theorem dX12_readDeal_146 : decode cX12_readDeal 146 = .ok (.iadd, 1) := by decide +kernel
theorem dX12_readDeal_147 : decode cX12_readDeal 147 = .ok (.iaload, 1) := by decide +kernel
theorem dX12_readDeal_148 : decode cX12_readDeal 148 = .ok (.goto 13, 3) := by decide +kernel
theorem dX12_readDeal_151 : decode cX12_readDeal 151 = .ok (.aload_n 0, 1) := by decide +kernel
theorem dX12_readDeal_152 : decode cX12_readDeal 152 = .ok (.getfield 37, 3) := by decide +kernel
theorem dX12_readDeal_155 : decode cX12_readDeal 155 = .ok (.bipush 14, 2) := by decide +kernel
theorem dX12_readDeal_157 : decode cX12_readDeal 157 = .ok (.iload 4, 2) := by decide +kernel
theorem dX12_readDeal_159 : decode cX12_readDeal 159 = .ok (.iadd, 1) := by decide +kernel
theorem dX12_readDeal_160 : decode cX12_readDeal 160 = .ok (.iaload, 1) := by decide +kernel
theorem dX12_readDeal_161 : decode cX12_readDeal 161 = .ok (.istore 6, 2) := by decide +kernel
theorem dX12_readDeal_163 : decode cX12_readDeal 163 = .ok (.aload_n 0, 1) := by decide +kernel
theorem dX12_readDeal_164 : decode cX12_readDeal 164 = .ok (.getfield 37, 3) := by decide +kernel
theorem dX12_readDeal_167 : decode cX12_readDeal 167 = .ok (.iload_n 2, 1) := by decide +kernel
theorem dX12_readDeal_168 : decode cX12_readDeal 168 = .ok (.iload_n 3, 1) := by decide +kernel
theorem dX12_readDeal_169 : decode cX12_readDeal 169 = .ok (.iastore, 1) := by decide +kernel
theorem dX12_readDeal_170 : decode cX12_readDeal 170 = .ok (.aload_n 0, 1) := by decide +kernel
theorem dX12_readDeal_171 : decode cX12_readDeal 171 = .ok (.getfield 37, 3) := by decide +kernel
theorem dX12_readDeal_174 : decode cX12_readDeal 174 = .ok (.iload_n 2, 1) := by decide +kernel
theorem dX12_readDeal_175 : decode cX12_readDeal 175 = .ok (.iconst 1, 1) := by decide +kernel
theorem dX12_readDeal_176 : decode cX12_readDeal 176 = .ok (.iadd, 1) := by decide +kernel
theorem dX12_readDeal_177 : decode cX12_readDeal 177 = .ok (.iload 4, 2) := by decide +kernel
theorem dX12_readDeal_179 : decode cX12_readDeal 179 = .ok (.iastore, 1) := by decide +kernel
theorem dX12_readDeal_180 : decode cX12_readDeal 180 = .ok (.aload_n 0, 1) := by decide +kernel
theorem dX12_readDeal_181 : decode cX12_readDeal 181 = .ok (.iload 5, 2) := by decide +kernel
theorem dX12_readDeal_183 : decode cX12_readDeal 183 = .ok (.iload 6, 2) := by decide +kernel
theorem dX12_readDeal_185 : decode cX12_readDeal 185 = .ok (.invokevirtual 219, 3) := by decide +kernel
theorem dX12_readDeal_188 : decode cX12_readDeal 188 = .ok (.ifCond .ne 5, 3) := by decide +kernel
theorem dX12_readDeal_191 : decode cX12_readDeal 191 = .ok (.iconst 0, 1) := by decide +kernel
theorem dX12_readDeal_192 : decode cX12_readDeal 192 = .ok (.ireturn, 1) := by decide +kernel
theorem dX12_readDeal_193 : decode cX12_readDeal 193 = .ok (.aload_n 0, 1) := by decide +kernel
theorem dX12_readDeal_194 : decode cX12_readDeal 194 = .ok (.getfield 37, 3) := by decide +kernel
theorem dX12_readDeal_197 : decode cX12_readDeal 197 = .ok (.iload_n 2, 1) := by decide +kernel
theorem dX12_readDeal_198 : decode cX12_readDeal 198 = .ok (.iconst 2, 1) := by decide +kernel
theorem dX12_readDeal_199 : decode cX12_readDeal 199 = .ok (.iadd, 1) := by decide +kernel
theorem dX12_readDeal_200 : decode cX12_readDeal 200 = .ok (.aload_n 0, 1) := by decide +kernel
theorem dX12_readDeal_201 : decode cX12_readDeal 201 = .ok (.getfield 201, 3) := by decide +kernel
theorem dX12_readDeal_204 : decode cX12_readDeal 204 = .ok (.iastore, 1) := by decide +kernel
theorem dX12_readDeal_205 : decode cX12_readDeal 205 = .ok (.aload_n 0, 1) := by decide +kernel
theorem dX12_readDeal_206 : decode cX12_readDeal 206 = .ok (.iconst 0, 1) := by decide +kernel
theorem dX12_readDeal_207 : decode cX12_readDeal 207 = .ok (.bipush 99, 2) := by decide +kernel
theorem dX12_readDeal_209 : decode cX12_readDeal 209 = .ok (.invokevirtual 219, 3) := by decide +kernel
theorem dX12_readDeal_212 : decode cX12_readDeal 212 = .ok (.ifCond .ne 5, 3) := by decide +kernel
theorem dX12_readDeal_215 : decode cX12_readDeal 215 = .ok (.iconst 0, 1) := by decide +kernel
theorem dX12_readDeal_216 : decode cX12_readDeal 216 = .ok (.ireturn, 1) := by decide +kernel
theorem dX12_readDeal_217 : decode cX12_readDeal 217 = .ok (.aload_n 0, 1) := by decide +kernel
theorem dX12_readDeal_218 : decode cX12_readDeal 218 = .ok (.getfield 37, 3) := by decide +kernel
theorem dX12_readDeal_221 : decode cX12_readDeal 221 = .ok (.iload_n 2, 1) := by decide +kernel
theorem dX12_readDeal_222 : decode cX12_readDeal 222 = .ok (.iconst 3, 1) := by decide +kernel
theorem dX12_readDeal_223 : decode cX12_readDeal 223 = .ok (.iadd, 1) := by decide +kernel
theorem dX12_readDeal_224 : decode cX12_readDeal 224 = .ok (.aload_n 0, 1) := by decide +kernel
theorem dX12_readDeal_225 : decode cX12_readDeal 225 = .ok (.getfield 201, 3) := by decide +kernel
theorem dX12_readDeal_228 : decode cX12_readDeal 228 = .ok (.iastore, 1) := by decide +kernel
theorem dX12_readDeal_229 : decode cX12_readDeal 229 = .ok (.aload_n 0, 1) := by decide +kernel
theorem dX12_readDeal_230 : decode cX12_readDeal 230 = .ok (.iconst 0, 1) := by decide +kernel
theorem dX12_readDeal_231 : decode cX12_readDeal 231 = .ok (.bipush 99, 2) := by decide +kernel
theorem dX12_readDeal_233 : decode cX12_readDeal 233 = .ok (.invokevirtual 219, 3) := by decide +kernel
theorem dX12_readDeal_236 : decode cX12_readDeal 236 = .ok (.ifCond .ne 5, 3) := by decide +kernel
theorem dX12_readDeal_239 : decode cX12_readDeal 239 = .ok (.iconst 0, 1) := by decide +kernel
theorem dX12_readDeal_240 : decode cX12_readDeal 240 = .ok (.ireturn, 1) := by decide +kernel
theorem dX12_readDeal_241 : decode cX12_readDeal 241 = .ok (.aload_n 0, 1) := by decide +kernel
theorem dX12_readDeal_242 : decode cX12_readDeal 242 = .ok (.getfield 37, 3) := by decide +kernel
theorem dX12_readDeal_245 : decode cX12_readDeal 245 = .ok (.iload_n 2, 1) := by decide +kernel
theorem dX12_readDeal_246 : decode cX12_readDeal 246 = .ok (.iconst 4, 1) := by decide +kernel
theorem dX12_readDeal_247 : decode cX12_readDeal 247 = .ok (.iadd, 1) := by decide +kernel
theorem dX12_readDeal_248 : decode cX12_readDeal 248 = .ok (.aload_n 0, 1) := by decide +kernel
theorem dX12_readDeal_249 : decode cX12_readDeal 249 = .ok (.getfield 201, 3) := by decide +kernel
theorem dX12_readDeal_252 : decode cX12_readDeal 252 = .ok (.iastore, 1) := by decide +kernel
theorem dX12_readDeal_253 : decode cX12_readDeal 253 = .ok (.aload_n 0, 1) := by decide +kernel
theorem dX12_readDeal_254 : decode cX12_readDeal 254 = .ok (.getfield 37, 3) := by decide +kernel
theorem dX12_readDeal_257 : decode cX12_readDeal 257 = .ok (.iload_n 2, 1) := by decide +kernel
theorem dX12_readDeal_258 : decode cX12_readDeal 258 = .ok (.iconst 5, 1) := by decide +kernel
theorem dX12_readDeal_259 : decode cX12_readDeal 259 = .ok (.iadd, 1) := by decide +kernel
theorem dX12_readDeal_260 : decode cX12_readDeal 260 = .ok (.iconst 0, 1) := by decide +kernel
theorem dX12_readDeal_261 : decode cX12_readDeal 261 = .ok (.iastore, 1) := by decide +kernel
theorem dX12_readDeal_262 : decode cX12_readDeal 262 = .ok (.aload_n 0, 1) := by decide +kernel
theorem dX12_readDeal_263 : decode cX12_readDeal 263 = .ok (.ldc2_w 135, 3) := by decide +kernel
theorem dX12_readDeal_266 : decode cX12_readDeal 266 = .ok (.invokevirtual 212, 3) := by decide +kernel
theorem dX12_readDeal_269 : decode cX12_readDeal 269 = .ok (.ifCond .eq 16, 3) := by decide +kernel
theorem dX12_readDeal_272 : decode cX12_readDeal 272 = .ok (.aload_n 0, 1) := by decide +kernel
theorem dX12_readDeal_273 : decode cX12_readDeal 273 = .ok (.getfield 37, 3) := by decide +kernel
theorem dX12_readDeal_276 : decode cX12_readDeal 276 = .ok (.iload_n 2, 1) := by decide +kernel
theorem dX12_readDeal_277 : decode cX12_readDeal 277 = .ok (.iconst 5, 1) := by decide +kernel
theorem dX12_readDeal_278 : decode cX12_readDeal 278 = .ok (.iadd, 1) := by decide +kernel
theorem dX12_readDeal_279 : decode cX12_readDeal 279 = .ok (.iconst 1, 1) := by decide +kernel
theorem dX12_readDeal_280 : decode cX12_readDeal 280 = .ok (.iastore, 1) := by decide +kernel
theorem dX12_readDeal_281 : decode cX12_readDeal 281 = .ok (.aload_n 0, 1) := by decide +kernel
theorem dX12_readDeal_282 : decode cX12_readDeal 282 = .ok (.invokevirtual 194, 3) := by decide +kernel
theorem dX12_readDeal_285 : decode cX12_readDeal 285 = .ok (.aload_n 0, 1) := by decide +kernel
theorem dX12_readDeal_286 : decode cX12_readDeal 286 = .ok (.getfield 37, 3) := by decide +kernel
theorem dX12_readDeal_289 : decode cX12_readDeal 289 = .ok (.iconst 1, 1) := by decide +kernel
theorem dX12_readDeal_290 : decode cX12_readDeal 290 = .ok (.dup2, 1) := by decide +kernel
theorem dX12_readDeal_291 : decode cX12_readDeal 291 = .ok (.iaload, 1) := by decide +kernel
theorem dX12_readDeal_292 : decode cX12_readDeal 292 = .ok (.iconst 1, 1) := by decide +kernel
theorem dX12_readDeal_293 : decode cX12_readDeal 293 = .ok (.iadd, 1) := by decide +kernel
theorem dX12_readDeal_294 : decode cX12_readDeal 294 = .ok (.iastore, 1) := by decide +kernel
theorem dX12_readDeal_295 : decode cX12_readDeal 295 = .ok (.iconst 1, 1) := by decide +kernel
theorem dX12_readDeal_296 : decode cX12_readDeal 296 = .ok (.ireturn, 1) := by decide +kernel
theorem dX12_town_0 : decode cX12_town 0 = .ok (.aload_n 0, 1) := by decide +kernel
theorem dX12_town_1 : decode cX12_town 1 = .ok (.iconst 0, 1) := by decide +kernel
theorem dX12_town_2 : decode cX12_town 2 = .ok (.putfield 1, 3) := by decide +kernel
theorem dX12_town_5 : decode cX12_town 5 = .ok (.aload_n 0, 1) := by decide +kernel
theorem dX12_town_6 : decode cX12_town 6 = .ok (.sipush 900, 3) := by decide +kernel
theorem dX12_town_9 : decode cX12_town 9 = .ok (.invokevirtual 244, 3) := by decide +kernel
theorem dX12_town_12 : decode cX12_town 12 = .ok (.aload_n 0, 1) := by decide +kernel
theorem dX12_town_13 : decode cX12_town 13 = .ok (.iconst 0, 1) := by decide +kernel
theorem dX12_town_14 : decode cX12_town 14 = .ok (.putfield 182, 3) := by decide +kernel
theorem dX12_town_17 : decode cX12_town 17 = .ok (.aload_n 0, 1) := by decide +kernel
theorem dX12_town_18 : decode cX12_town 18 = .ok (.iconst 0, 1) := by decide +kernel
theorem dX12_town_19 : decode cX12_town 19 = .ok (.putfield 247, 3) := by decide +kernel
theorem dX12_town_22 : decode cX12_town 22 = .ok (.aload_n 0, 1) := by decide +kernel
theorem dX12_town_23 : decode cX12_town 23 = .ok (.iconst 0, 1) := by decide +kernel
theorem dX12_town_24 : decode cX12_town 24 = .ok (.putfield 223, 3) := by decide +kernel
theorem dX12_town_27 : decode cX12_town 27 = .ok (.aload_n 0, 1) := by decide +kernel
theorem dX12_town_28 : decode cX12_town 28 = .ok (.iconst 0, 1) := by decide +kernel
theorem dX12_town_29 : decode cX12_town 29 = .ok (.putfield 238, 3) := by decide +kernel
theorem dX12_town_32 : decode cX12_town 32 = .ok (.iconst 0, 1) := by decide +kernel
theorem dX12_town_33 : decode cX12_town 33 = .ok (.istore_n 1, 1) := by decide +kernel
theorem dX12_town_34 : decode cX12_town 34 = .ok (.iload_n 1, 1) := by decide +kernel
theorem dX12_town_35 : decode cX12_town 35 = .ok (.sipush 224, 3) := by decide +kernel
theorem dX12_town_38 : decode cX12_town 38 = .ok (.if_icmp .ge 16, 3) := by decide +kernel
theorem dX12_town_41 : decode cX12_town 41 = .ok (.aload_n 0, 1) := by decide +kernel
theorem dX12_town_42 : decode cX12_town 42 = .ok (.getfield 37, 3) := by decide +kernel
theorem dX12_town_45 : decode cX12_town 45 = .ok (.iload_n 1, 1) := by decide +kernel
theorem dX12_town_46 : decode cX12_town 46 = .ok (.iconst 0, 1) := by decide +kernel
theorem dX12_town_47 : decode cX12_town 47 = .ok (.iastore, 1) := by decide +kernel
theorem dX12_town_48 : decode cX12_town 48 = .ok (.iinc 1 1, 3) := by decide +kernel
theorem dX12_town_51 : decode cX12_town 51 = .ok (.goto (-17), 3) := by decide +kernel
theorem dX12_town_54 : decode cX12_town 54 = .ok (.aload_n 0, 1) := by decide +kernel
theorem dX12_town_55 : decode cX12_town 55 = .ok (.invokevirtual 194, 3) := by decide +kernel
theorem dX12_town_58 : decode cX12_town 58 = .ok (.aload_n 0, 1) := by decide +kernel
theorem dX12_town_59 : decode cX12_town 59 = .ok (.getfield 165, 3) := by decide +kernel
theorem dX12_town_62 : decode cX12_town 62 = .ok (.ifCond .eq 39, 3) := by decide +kernel
theorem dX12_town_65 : decode cX12_town 65 = .ok (.aload_n 0, 1) := by decide +kernel
theorem dX12_town_66 : decode cX12_town 66 = .ok (.invokevirtual 250, 3) := by decide +kernel
theorem dX12_town_69 : decode cX12_town 69 = .ok (.ifCond .eq 12, 3) := by decide +kernel
theorem dX12_town_72 : decode cX12_town 72 = .ok (.aload_n 0, 1) := by decide +kernel
theorem dX12_town_73 : decode cX12_town 73 = .ok (.bipush 59, 2) := by decide +kernel
theorem dX12_town_75 : decode cX12_town 75 = .ok (.invokevirtual 253, 3) := by decide +kernel
theorem dX12_town_78 : decode cX12_town 78 = .ok (.ifCond .ne 10, 3) := by decide +kernel
theorem dX12_town_81 : decode cX12_town 81 = .ok (.iconst (-1), 1) := by decide +kernel
theorem dX12_town_82 : decode cX12_town 82 = .ok (.aload_n 0, 1) := by decide +kernel
theorem dX12_town_83 : decode cX12_town 83 = .ok (.getfield 185, 3) := by decide +kernel
theorem dX12_town_86 : decode cX12_town 86 = .ok (.isub, 1) := by decide +kernel
theorem dX12_town_87 : decode cX12_town 87 = .ok (.ireturn, 1) := by decide +kernel
theorem dX12_town_88 : decode cX12_town 88 = .ok (.aload_n 0, 1) := by decide +kernel
theorem dX12_town_89 : decode cX12_town 89 = .ok (.dup, 1) := by decide +kernel
theorem dX12_town_90 : decode cX12_town 90 = .ok (.getfield 247, 3) := by decide +kernel
theorem dX12_town_93 : decode cX12_town 93 = .ok (.iconst 1, 1) := by decide +kernel
theorem dX12_town_94 : decode cX12_town 94 = .ok (.iadd, 1) := by decide +kernel
theorem dX12_town_95 : decode cX12_town 95 = .ok (.putfield 247, 3) := by decide +kernel
theorem dX12_town_98 : decode cX12_town 98 = .ok (.goto (-40), 3) := by decide +kernel
theorem dX12_town_101 : decode cX12_town 101 = .ok (.iconst 0, 1) := by decide +kernel
theorem dX12_town_102 : decode cX12_town 102 = .ok (.istore_n 1, 1) := by decide +kernel
theorem dX12_town_103 : decode cX12_town 103 = .ok (.iload_n 1, 1) := by decide +kernel
theorem dX12_town_104 : decode cX12_town 104 = .ok (.sipush 284, 3) := by decide +kernel
theorem dX12_town_107 : decode cX12_town 107 = .ok (.if_icmp .ge 32, 3) := by decide +kernel
theorem dX12_town_110 : decode cX12_town 110 = .ok (.aload_n 0, 1) := by decide +kernel
theorem dX12_town_111 : decode cX12_town 111 = .ok (.getfield 33, 3) := by decide +kernel
theorem dX12_town_114 : decode cX12_town 114 = .ok (.iload_n 1, 1) := by decide +kernel
theorem dX12_town_115 : decode cX12_town 115 = .ok (.iload_n 1, 1) := by decide +kernel
theorem dX12_town_116 : decode cX12_town 116 = .ok (.sipush 224, 3) := by decide +kernel
theorem dX12_town_119 : decode cX12_town 119 = .ok (.if_icmp .ge 12, 3) := by decide +kernel
theorem dX12_town_122 : decode cX12_town 122 = .ok (.aload_n 0, 1) := by decide +kernel
theorem dX12_town_123 : decode cX12_town 123 = .ok (.getfield 37, 3) := by decide +kernel
theorem dX12_town_126 : decode cX12_town 126 = .ok (.iload_n 1, 1) := by decide +kernel
theorem dX12_town_127 : decode cX12_town 127 = .ok (.iaload, 1) := by decide +kernel
theorem dX12_town_128 : decode cX12_town 128 = .ok (.goto 4, 3) := by decide +kernel
theorem dX12_town_131 : decode cX12_town 131 = .ok (.iconst 0, 1) := by decide +kernel
theorem dX12_town_132 : decode cX12_town 132 = .ok (.iastore, 1) := by decide +kernel
theorem dX12_town_133 : decode cX12_town 133 = .ok (.iinc 1 1, 3) := by decide +kernel
theorem dX12_town_136 : decode cX12_town 136 = .ok (.goto (-33), 3) := by decide +kernel
theorem dX12_town_139 : decode cX12_town 139 = .ok (.iconst 0, 1) := by decide +kernel
theorem dX12_town_140 : decode cX12_town 140 = .ok (.istore_n 1, 1) := by decide +kernel
theorem dX12_town_141 : decode cX12_town 141 = .ok (.iload_n 1, 1) := by decide +kernel
theorem dX12_town_142 : decode cX12_town 142 = .ok (.bipush 40, 2) := by decide +kernel
theorem dX12_town_144 : decode cX12_town 144 = .ok (.if_icmp .ge 24, 3) := by decide +kernel
theorem dX12_town_147 : decode cX12_town 147 = .ok (.aload_n 0, 1) := by decide +kernel
theorem dX12_town_148 : decode cX12_town 148 = .ok (.getfield 46, 3) := by decide +kernel
theorem dX12_town_151 : decode cX12_town 151 = .ok (.iload_n 1, 1) := by decide +kernel
theorem dX12_town_152 : decode cX12_town 152 = .ok (.aload_n 0, 1) := by decide +kernel
theorem dX12_town_153 : decode cX12_town 153 = .ok (.getfield 46, 3) := by decide +kernel
theorem dX12_town_156 : decode cX12_town 156 = .ok (.bipush 40, 2) := by decide +kernel
theorem dX12_town_158 : decode cX12_town 158 = .ok (.iload_n 1, 1) := by decide +kernel
theorem dX12_town_159 : decode cX12_town 159 = .ok (.iadd, 1) := by decide +kernel
theorem dX12_town_160 : decode cX12_town 160 = .ok (.laload, 1) := by decide +kernel
theorem dX12_town_161 : decode cX12_town 161 = .ok (.lastore, 1) := by decide +kernel
theorem dX12_town_162 : decode cX12_town 162 = .ok (.iinc 1 1, 3) := by decide +kernel
theorem dX12_town_165 : decode cX12_town 165 = .ok (.goto (-24), 3) := by decide +kernel
theorem dX12_town_168 : decode cX12_town 168 = .ok (.aload_n 0, 1) := by decide +kernel
theorem dX12_town_169 : decode cX12_town 169 = .ok (.iconst 1, 1) := by decide +kernel
theorem dX12_town_170 : decode cX12_town 170 = .ok (.putfield 151, 3) := by decide +kernel
theorem dX12_town_173 : decode cX12_town 173 = .ok (.aload_n 0, 1) := by decide +kernel
theorem dX12_town_174 : decode cX12_town 174 = .ok (.getfield 247, 3) := by decide +kernel
theorem dX12_town_177 : decode cX12_town 177 = .ok (.ireturn, 1) := by decide +kernel
theorem dX12_fault_0 : decode cX12_fault 0 = .ok (.aload_n 0, 1) := by decide +kernel
theorem dX12_fault_1 : decode cX12_fault 1 = .ok (.iconst 0, 1) := by decide +kernel
theorem dX12_fault_2 : decode cX12_fault 2 = .ok (.putfield 1, 3) := by decide +kernel
theorem dX12_fault_5 : decode cX12_fault 5 = .ok (.aload_n 0, 1) := by decide +kernel
theorem dX12_fault_6 : decode cX12_fault 6 = .ok (.getfield 182, 3) := by decide +kernel
theorem dX12_fault_9 : decode cX12_fault 9 = .ok (.ireturn, 1) := by decide +kernel
theorem dX12_isPerson_0 : decode cX12_isPerson 0 = .ok (.iload_n 1, 1) := by decide +kernel
theorem dX12_isPerson_1 : decode cX12_isPerson 1 = .ok (.iconst 0, 1) := by decide +kernel
theorem dX12_isPerson_2 : decode cX12_isPerson 2 = .ok (.aload_n 0, 1) := by decide +kernel
theorem dX12_isPerson_3 : decode cX12_isPerson 3 = .ok (.getfield 33, 3) := by decide +kernel
theorem dX12_isPerson_6 : decode cX12_isPerson 6 = .ok (.iconst 0, 1) := by decide +kernel
theorem dX12_isPerson_7 : decode cX12_isPerson 7 = .ok (.iaload, 1) := by decide +kernel
theorem dX12_isPerson_8 : decode cX12_isPerson 8 = .ok (.iconst 1, 1) := by decide +kernel
theorem dX12_isPerson_9 : decode cX12_isPerson 9 = .ok (.isub, 1) := by decide +kernel
theorem dX12_isPerson_10 : decode cX12_isPerson 10 = .ok (.invokestatic 197, 3) := by decide +kernel
theorem dX12_isPerson_13 : decode cX12_isPerson 13 = .ok (.ireturn, 1) := by decide +kernel
theorem dX12_isDeal_0 : decode cX12_isDeal 0 = .ok (.iload_n 1, 1) := by decide +kernel
theorem dX12_isDeal_1 : decode cX12_isDeal 1 = .ok (.iconst 0, 1) := by decide +kernel
theorem dX12_isDeal_2 : decode cX12_isDeal 2 = .ok (.aload_n 0, 1) := by decide +kernel
theorem dX12_isDeal_3 : decode cX12_isDeal 3 = .ok (.getfield 33, 3) := by decide +kernel
theorem dX12_isDeal_6 : decode cX12_isDeal 6 = .ok (.iconst 1, 1) := by decide +kernel
theorem dX12_isDeal_7 : decode cX12_isDeal 7 = .ok (.iaload, 1) := by decide +kernel
theorem dX12_isDeal_8 : decode cX12_isDeal 8 = .ok (.iconst 1, 1) := by decide +kernel
theorem dX12_isDeal_9 : decode cX12_isDeal 9 = .ok (.isub, 1) := by decide +kernel
theorem dX12_isDeal_10 : decode cX12_isDeal 10 = .ok (.invokestatic 197, 3) := by decide +kernel
theorem dX12_isDeal_13 : decode cX12_isDeal 13 = .ok (.ireturn, 1) := by decide +kernel
theorem dX12_isParts_0 : decode cX12_isParts 0 = .ok (.iload_n 1, 1) := by decide +kernel
theorem dX12_isParts_1 : decode cX12_isParts 1 = .ok (.iconst 0, 1) := by decide +kernel
theorem dX12_isParts_2 : decode cX12_isParts 2 = .ok (.iconst 1, 1) := by decide +kernel
theorem dX12_isParts_3 : decode cX12_isParts 3 = .ok (.aload_n 0, 1) := by decide +kernel
theorem dX12_isParts_4 : decode cX12_isParts 4 = .ok (.getfield 33, 3) := by decide +kernel
theorem dX12_isParts_7 : decode cX12_isParts 7 = .ok (.iconst 0, 1) := by decide +kernel
theorem dX12_isParts_8 : decode cX12_isParts 8 = .ok (.iaload, 1) := by decide +kernel
theorem dX12_isParts_9 : decode cX12_isParts 9 = .ok (.ishl, 1) := by decide +kernel
theorem dX12_isParts_10 : decode cX12_isParts 10 = .ok (.iconst 1, 1) := by decide +kernel
theorem dX12_isParts_11 : decode cX12_isParts 11 = .ok (.isub, 1) := by decide +kernel
theorem dX12_isParts_12 : decode cX12_isParts 12 = .ok (.invokestatic 197, 3) := by decide +kernel
theorem dX12_isParts_15 : decode cX12_isParts 15 = .ok (.ireturn, 1) := by decide +kernel
theorem dX12_of_0 : decode cX12_of 0 = .ok (.aload_n 0, 1) := by decide +kernel
theorem dX12_of_1 : decode cX12_of 1 = .ok (.getfield 33, 3) := by decide +kernel
theorem dX12_of_4 : decode cX12_of 4 = .ok (.bipush 44, 2) := by decide +kernel
theorem dX12_of_6 : decode cX12_of 6 = .ok (.bipush 6, 2) := by decide +kernel
theorem dX12_of_8 : decode cX12_of 8 = .ok (.iload_n 1, 1) := by decide +kernel
theorem dX12_of_9 : decode cX12_of 9 = .ok (.imul, 1) := by decide +kernel
theorem dX12_of_10 : decode cX12_of 10 = .ok (.iadd, 1) := by decide +kernel
theorem dX12_of_11 : decode cX12_of 11 = .ok (.iload_n 2, 1) := by decide +kernel
theorem dX12_of_12 : decode cX12_of 12 = .ok (.iadd, 1) := by decide +kernel
theorem dX12_of_13 : decode cX12_of 13 = .ok (.iaload, 1) := by decide +kernel
theorem dX12_of_14 : decode cX12_of 14 = .ok (.ireturn, 1) := by decide +kernel
theorem dX12_person_0 : decode cX12_person 0 = .ok (.aload_n 0, 1) := by decide +kernel
theorem dX12_person_1 : decode cX12_person 1 = .ok (.aload_n 0, 1) := by decide +kernel
theorem dX12_person_2 : decode cX12_person 2 = .ok (.iload_n 1, 1) := by decide +kernel
theorem dX12_person_3 : decode cX12_person 3 = .ok (.invokevirtual 256, 3) := by decide +kernel
theorem dX12_person_6 : decode cX12_person 6 = .ok (.ifCond .eq 12, 3) := by decide +kernel
theorem dX12_person_9 : decode cX12_person 9 = .ok (.iload_n 2, 1) := by decide +kernel
theorem dX12_person_10 : decode cX12_person 10 = .ok (.iconst 0, 1) := by decide +kernel
theorem dX12_person_11 : decode cX12_person 11 = .ok (.iconst 3, 1) := by decide +kernel
theorem dX12_person_12 : decode cX12_person 12 = .ok (.invokestatic 197, 3) := by decide +kernel
theorem dX12_person_15 : decode cX12_person 15 = .ok (.ifCond .ne 7, 3) := by decide +kernel
theorem dX12_person_18 : decode cX12_person 18 = .ok (.iconst 1, 1) := by decide +kernel
theorem dX12_person_19 : decode cX12_person 19 = .ok (.goto 4, 3) := by decide +kernel
theorem dX12_person_22 : decode cX12_person 22 = .ok (.iconst 0, 1) := by decide +kernel
theorem dX12_person_23 : decode cX12_person 23 = .ok (.invokevirtual 259, 3) := by decide +kernel
theorem dX12_person_26 : decode cX12_person 26 = .ok (.ifCond .eq 5, 3) := by decide +kernel
theorem dX12_person_29 : decode cX12_person 29 = .ok (.iconst 0, 1) := by decide +kernel
theorem dX12_person_30 : decode cX12_person 30 = .ok (.ireturn, 1) := by decide +kernel
theorem dX12_person_31 : decode cX12_person 31 = .ok (.iload_n 2, 1) := by decide +kernel
theorem dX12_person_32 : decode cX12_person 32 = .ok (.ifCond .ne 14, 3) := by decide +kernel
theorem dX12_person_35 : decode cX12_person 35 = .ok (.aload_n 0, 1) := by decide +kernel
theorem dX12_person_36 : decode cX12_person 36 = .ok (.getfield 33, 3) := by decide +kernel
theorem dX12_person_39 : decode cX12_person 39 = .ok (.iconst 4, 1) := by decide +kernel
theorem dX12_person_40 : decode cX12_person 40 = .ok (.iload_n 1, 1) := by decide +kernel
theorem dX12_person_41 : decode cX12_person 41 = .ok (.iadd, 1) := by decide +kernel
theorem dX12_person_42 : decode cX12_person 42 = .ok (.iaload, 1) := by decide +kernel
theorem dX12_person_43 : decode cX12_person 43 = .ok (.goto 55, 3) := by decide +kernel
theorem dX12_person_46 : decode cX12_person 46 = .ok (.iload_n 2, 1) := by decide +kernel
theorem dX12_person_47 : decode cX12_person 47 = .ok (.iconst 1, 1) := by decide +kernel
theorem dX12_person_48 : decode cX12_person 48 = .ok (.if_icmp .ne 15, 3) := by decide +kernel
theorem dX12_person_51 : decode cX12_person 51 = .ok (.aload_n 0, 1) := by decide +kernel
theorem dX12_person_52 : decode cX12_person 52 = .ok (.getfield 33, 3) := by decide +kernel
theorem dX12_person_55 : decode cX12_person 55 = .ok (.bipush 14, 2) := by decide +kernel
theorem dX12_person_57 : decode cX12_person 57 = .ok (.iload_n 1, 1) := by decide +kernel
theorem dX12_person_58 : decode cX12_person 58 = .ok (.iadd, 1) := by decide +kernel
theorem dX12_person_59 : decode cX12_person 59 = .ok (.iaload, 1) := by decide +kernel
theorem dX12_person_60 : decode cX12_person 60 = .ok (.goto 38, 3) := by decide +kernel
theorem dX12_person_63 : decode cX12_person 63 = .ok (.iload_n 2, 1) := by decide +kernel
theorem dX12_person_64 : decode cX12_person 64 = .ok (.iconst 2, 1) := by decide +kernel
theorem dX12_person_65 : decode cX12_person 65 = .ok (.if_icmp .ne 15, 3) := by decide +kernel
theorem dX12_person_68 : decode cX12_person 68 = .ok (.aload_n 0, 1) := by decide +kernel
theorem dX12_person_69 : decode cX12_person 69 = .ok (.getfield 33, 3) := by decide +kernel
theorem dX12_person_72 : decode cX12_person 72 = .ok (.bipush 24, 2) := by decide +kernel
theorem dX12_person_74 : decode cX12_person 74 = .ok (.iload_n 1, 1) := by decide +kernel
theorem dX12_person_75 : decode cX12_person 75 = .ok (.iadd, 1) := by decide +kernel
theorem dX12_person_76 : decode cX12_person 76 = .ok (.iaload, 1) := by decide +kernel
theorem dX12_person_77 : decode cX12_person 77 = .ok (.goto 21, 3) := by decide +kernel
theorem dX12_person_80 : decode cX12_person 80 = .ok (.aload_n 0, 1) := by decide +kernel
theorem dX12_person_81 : decode cX12_person 81 = .ok (.getfield 33, 3) := by decide +kernel
theorem dX12_person_84 : decode cX12_person 84 = .ok (.bipush 34, 2) := by decide +kernel
theorem dX12_person_86 : decode cX12_person 86 = .ok (.iload_n 1, 1) := by decide +kernel
theorem dX12_person_87 : decode cX12_person 87 = .ok (.iadd, 1) := by decide +kernel
theorem dX12_person_88 : decode cX12_person 88 = .ok (.iaload, 1) := by decide +kernel
theorem dX12_person_89 : decode cX12_person 89 = .ok (.iconst 2, 1) := by decide +kernel
theorem dX12_person_90 : decode cX12_person 90 = .ok (.if_icmp .ne 7, 3) := by decide +kernel
theorem dX12_person_93 : decode cX12_person 93 = .ok (.iconst 1, 1) := by decide +kernel
theorem dX12_person_94 : decode cX12_person 94 = .ok (.goto 4, 3) := by decide +kernel
theorem dX12_person_97 : decode cX12_person 97 = .ok (.iconst 0, 1) := by decide +kernel
theorem dX12_person_98 : decode cX12_person 98 = .ok (.ireturn, 1) := by decide +kernel
theorem dX12_deal_0 : decode cX12_deal 0 = .ok (.aload_n 0, 1) := by decide +kernel
theorem dX12_deal_1 : decode cX12_deal 1 = .ok (.aload_n 0, 1) := by decide +kernel
theorem dX12_deal_2 : decode cX12_deal 2 = .ok (.iload_n 1, 1) := by decide +kernel
theorem dX12_deal_3 : decode cX12_deal 3 = .ok (.invokevirtual 263, 3) := by decide +kernel
theorem dX12_deal_6 : decode cX12_deal 6 = .ok (.ifCond .eq 13, 3) := by decide +kernel
theorem dX12_deal_9 : decode cX12_deal 9 = .ok (.iload_n 2, 1) := by decide +kernel
theorem dX12_deal_10 : decode cX12_deal 10 = .ok (.iconst 0, 1) := by decide +kernel
theorem dX12_deal_11 : decode cX12_deal 11 = .ok (.bipush 6, 2) := by decide +kernel
theorem dX12_deal_13 : decode cX12_deal 13 = .ok (.invokestatic 197, 3) := by decide +kernel
theorem dX12_deal_16 : decode cX12_deal 16 = .ok (.ifCond .ne 7, 3) := by decide +kernel
theorem dX12_deal_19 : decode cX12_deal 19 = .ok (.iconst 1, 1) := by decide +kernel
theorem dX12_deal_20 : decode cX12_deal 20 = .ok (.goto 4, 3) := by decide +kernel
theorem dX12_deal_23 : decode cX12_deal 23 = .ok (.iconst 0, 1) := by decide +kernel
theorem dX12_deal_24 : decode cX12_deal 24 = .ok (.invokevirtual 259, 3) := by decide +kernel
theorem dX12_deal_27 : decode cX12_deal 27 = .ok (.ifCond .eq 5, 3) := by decide +kernel
theorem dX12_deal_30 : decode cX12_deal 30 = .ok (.iconst 0, 1) := by decide +kernel
theorem dX12_deal_31 : decode cX12_deal 31 = .ok (.ireturn, 1) := by decide +kernel
theorem dX12_deal_32 : decode cX12_deal 32 = .ok (.iload_n 2, 1) := by decide +kernel
theorem dX12_deal_33 : decode cX12_deal 33 = .ok (.bipush 6, 2) := by decide +kernel
theorem dX12_deal_35 : decode cX12_deal 35 = .ok (.if_icmp .ge 12, 3) := by decide +kernel
theorem dX12_deal_38 : decode cX12_deal 38 = .ok (.aload_n 0, 1) := by decide +kernel
theorem dX12_deal_39 : decode cX12_deal 39 = .ok (.iload_n 1, 1) := by decide +kernel
theorem dX12_deal_40 : decode cX12_deal 40 = .ok (.iload_n 2, 1) := by decide +kernel
theorem dX12_deal_41 : decode cX12_deal 41 = .ok (.invokevirtual 266, 3) := by decide +kernel
theorem dX12_deal_44 : decode cX12_deal 44 = .ok (.goto 8, 3) := by decide +kernel
theorem dX12_deal_47 : decode cX12_deal 47 = .ok (.aload_n 0, 1) := by decide +kernel
theorem dX12_deal_48 : decode cX12_deal 48 = .ok (.iload_n 1, 1) := by decide +kernel
theorem dX12_deal_49 : decode cX12_deal 49 = .ok (.invokevirtual 269, 3) := by decide +kernel
theorem dX12_deal_52 : decode cX12_deal 52 = .ok (.ireturn, 1) := by decide +kernel
theorem dX12_doneAs_0 : decode cX12_doneAs 0 = .ok (.iconst 0, 1) := by decide +kernel
theorem dX12_doneAs_1 : decode cX12_doneAs 1 = .ok (.istore_n 2, 1) := by decide +kernel
theorem dX12_doneAs_2 : decode cX12_doneAs 2 = .ok (.iload_n 2, 1) := by decide +kernel
theorem dX12_doneAs_3 : decode cX12_doneAs 3 = .ok (.aload_n 0, 1) := by decide +kernel
theorem dX12_doneAs_4 : decode cX12_doneAs 4 = .ok (.getfield 33, 3) := by decide +kernel
theorem dX12_doneAs_7 : decode cX12_doneAs 7 = .ok (.iconst 3, 1) := by decide +kernel
theorem dX12_doneAs_8 : decode cX12_doneAs 8 = .ok (.iaload, 1) := by decide +kernel
theorem dX12_doneAs_9 : decode cX12_doneAs 9 = .ok (.if_icmp .ge 36, 3) := by decide +kernel
theorem dX12_doneAs_12 : decode cX12_doneAs 12 = .ok (.aload_n 0, 1) := by decide +kernel
theorem dX12_doneAs_13 : decode cX12_doneAs 13 = .ok (.getfield 33, 3) := by decide +kernel
theorem dX12_doneAs_16 : decode cX12_doneAs 16 = .ok (.sipush 224, 3) := by decide +kernel
theorem dX12_doneAs_19 : decode cX12_doneAs 19 = .ok (.iload_n 2, 1) := by decide +kernel
theorem dX12_doneAs_20 : decode cX12_doneAs 20 = .ok (.iadd, 1) := by decide +kernel
theorem dX12_doneAs_21 : decode cX12_doneAs 21 = .ok (.iaload, 1) := by decide +kernel
theorem dX12_doneAs_22 : decode cX12_doneAs 22 = .ok (.iload_n 1, 1) := by decide +kernel
theorem dX12_doneAs_23 : decode cX12_doneAs 23 = .ok (.if_icmp .ne 16, 3) := by decide +kernel
theorem dX12_doneAs_26 : decode cX12_doneAs 26 = .ok (.iconst 1, 1) := by decide +kernel
theorem dX12_doneAs_27 : decode cX12_doneAs 27 = .ok (.aload_n 0, 1) := by decide +kernel
theorem dX12_doneAs_28 : decode cX12_doneAs 28 = .ok (.getfield 33, 3) := by decide +kernel
theorem dX12_doneAs_31 : decode cX12_doneAs 31 = .ok (.sipush 254, 3) := by decide +kernel
theorem dX12_doneAs_34 : decode cX12_doneAs 34 = .ok (.iload_n 2, 1) := by decide +kernel
theorem dX12_doneAs_35 : decode cX12_doneAs 35 = .ok (.iadd, 1) := by decide +kernel
theorem dX12_doneAs_36 : decode cX12_doneAs 36 = .ok (.iaload, 1) := by decide +kernel
theorem dX12_doneAs_37 : decode cX12_doneAs 37 = .ok (.iadd, 1) := by decide +kernel
theorem dX12_doneAs_38 : decode cX12_doneAs 38 = .ok (.ireturn, 1) := by decide +kernel
theorem dX12_doneAs_39 : decode cX12_doneAs 39 = .ok (.iinc 2 1, 3) := by decide +kernel
theorem dX12_doneAs_42 : decode cX12_doneAs 42 = .ok (.goto (-40), 3) := by decide +kernel
theorem dX12_doneAs_45 : decode cX12_doneAs 45 = .ok (.iconst 0, 1) := by decide +kernel
theorem dX12_doneAs_46 : decode cX12_doneAs 46 = .ok (.ireturn, 1) := by decide +kernel
theorem dX12_lender_0 : decode cX12_lender 0 = .ok (.aload_n 0, 1) := by decide +kernel
theorem dX12_lender_1 : decode cX12_lender 1 = .ok (.iload_n 1, 1) := by decide +kernel
theorem dX12_lender_2 : decode cX12_lender 2 = .ok (.iload_n 2, 1) := by decide +kernel
theorem dX12_lender_3 : decode cX12_lender 3 = .ok (.invokevirtual 266, 3) := by decide +kernel
theorem dX12_lender_6 : decode cX12_lender 6 = .ok (.ireturn, 1) := by decide +kernel
theorem dX12_borrower_0 : decode cX12_borrower 0 = .ok (.aload_n 0, 1) := by decide +kernel
theorem dX12_borrower_1 : decode cX12_borrower 1 = .ok (.iload_n 1, 1) := by decide +kernel
theorem dX12_borrower_2 : decode cX12_borrower 2 = .ok (.iconst 1, 1) := by decide +kernel
theorem dX12_borrower_3 : decode cX12_borrower 3 = .ok (.iload_n 2, 1) := by decide +kernel
theorem dX12_borrower_4 : decode cX12_borrower 4 = .ok (.isub, 1) := by decide +kernel
theorem dX12_borrower_5 : decode cX12_borrower 5 = .ok (.invokevirtual 266, 3) := by decide +kernel
theorem dX12_borrower_8 : decode cX12_borrower 8 = .ok (.ireturn, 1) := by decide +kernel
theorem dX12_now_0 : decode cX12_now 0 = .ok (.aload_n 0, 1) := by decide +kernel
theorem dX12_now_1 : decode cX12_now 1 = .ok (.getfield 53, 3) := by decide +kernel
theorem dX12_now_4 : decode cX12_now 4 = .ok (.iload_n 1, 1) := by decide +kernel
theorem dX12_now_5 : decode cX12_now 5 = .ok (.iaload, 1) := by decide +kernel
theorem dX12_now_6 : decode cX12_now 6 = .ok (.ifCond .le 38, 3) := by decide +kernel
theorem dX12_now_9 : decode cX12_now 9 = .ok (.aload_n 0, 1) := by decide +kernel
theorem dX12_now_10 : decode cX12_now 10 = .ok (.getfield 33, 3) := by decide +kernel
theorem dX12_now_13 : decode cX12_now 13 = .ok (.iconst 2, 1) := by decide +kernel
theorem dX12_now_14 : decode cX12_now 14 = .ok (.iaload, 1) := by decide +kernel
theorem dX12_now_15 : decode cX12_now 15 = .ok (.ifCond .eq 20, 3) := by decide +kernel
theorem dX12_now_18 : decode cX12_now 18 = .ok (.iload_n 2, 1) := by decide +kernel
theorem dX12_now_19 : decode cX12_now 19 = .ok (.aload_n 0, 1) := by decide +kernel
theorem dX12_now_20 : decode cX12_now 20 = .ok (.getfield 56, 3) := by decide +kernel
theorem dX12_now_23 : decode cX12_now 23 = .ok (.iload_n 1, 1) := by decide +kernel
theorem dX12_now_24 : decode cX12_now 24 = .ok (.iaload, 1) := by decide +kernel
theorem dX12_now_25 : decode cX12_now 25 = .ok (.aload_n 0, 1) := by decide +kernel
theorem dX12_now_26 : decode cX12_now 26 = .ok (.getfield 33, 3) := by decide +kernel
theorem dX12_now_29 : decode cX12_now 29 = .ok (.iconst 2, 1) := by decide +kernel
theorem dX12_now_30 : decode cX12_now 30 = .ok (.iaload, 1) := by decide +kernel
theorem dX12_now_31 : decode cX12_now 31 = .ok (.iadd, 1) := by decide +kernel
theorem dX12_now_32 : decode cX12_now 32 = .ok (.if_icmp .ge 12, 3) := by decide +kernel
theorem dX12_now_35 : decode cX12_now 35 = .ok (.aload_n 0, 1) := by decide +kernel
theorem dX12_now_36 : decode cX12_now 36 = .ok (.getfield 53, 3) := by decide +kernel
theorem dX12_now_39 : decode cX12_now 39 = .ok (.iload_n 1, 1) := by decide +kernel
theorem dX12_now_40 : decode cX12_now 40 = .ok (.iaload, 1) := by decide +kernel
theorem dX12_now_41 : decode cX12_now 41 = .ok (.goto 4, 3) := by decide +kernel
theorem dX12_now_44 : decode cX12_now 44 = .ok (.iconst 0, 1) := by decide +kernel
theorem dX12_now_45 : decode cX12_now 45 = .ok (.ireturn, 1) := by decide +kernel
theorem dX12_bind_0 : decode cX12_bind 0 = .ok (.iconst 0, 1) := by decide +kernel
theorem dX12_bind_1 : decode cX12_bind 1 = .ok (.istore_n 2, 1) := by decide +kernel
theorem dX12_bind_2 : decode cX12_bind 2 = .ok (.iload_n 2, 1) := by decide +kernel
theorem dX12_bind_3 : decode cX12_bind 3 = .ok (.bipush 10, 2) := by decide +kernel
theorem dX12_bind_5 : decode cX12_bind 5 = .ok (.if_icmp .ge 16, 3) := by decide +kernel
theorem dX12_bind_8 : decode cX12_bind 8 = .ok (.aload_n 0, 1) := by decide +kernel
theorem dX12_bind_9 : decode cX12_bind 9 = .ok (.getfield 53, 3) := by decide +kernel
theorem dX12_bind_12 : decode cX12_bind 12 = .ok (.iload_n 2, 1) := by decide +kernel
theorem dX12_bind_13 : decode cX12_bind 13 = .ok (.iconst 0, 1) := by decide +kernel
theorem dX12_bind_14 : decode cX12_bind 14 = .ok (.iastore, 1) := by decide +kernel
theorem dX12_bind_15 : decode cX12_bind 15 = .ok (.iinc 2 1, 3) := by decide +kernel
theorem dX12_bind_18 : decode cX12_bind 18 = .ok (.goto (-16), 3) := by decide +kernel
theorem dX12_bind_21 : decode cX12_bind 21 = .ok (.iconst 0, 1) := by decide +kernel
theorem dX12_bind_22 : decode cX12_bind 22 = .ok (.istore_n 2, 1) := by decide +kernel
theorem dX12_bind_23 : decode cX12_bind 23 = .ok (.iload_n 2, 1) := by decide +kernel
theorem dX12_bind_24 : decode cX12_bind 24 = .ok (.aload_n 0, 1) := by decide +kernel
theorem dX12_bind_25 : decode cX12_bind 25 = .ok (.getfield 33, 3) := by decide +kernel
theorem dX12_bind_28 : decode cX12_bind 28 = .ok (.iconst 3, 1) := by decide +kernel
theorem dX12_bind_29 : decode cX12_bind 29 = .ok (.iaload, 1) := by decide +kernel
theorem dX12_bind_30 : decode cX12_bind 30 = .ok (.if_icmp .ge 85, 3) := by decide +kernel
theorem dX12_bind_33 : decode cX12_bind 33 = .ok (.aload_n 0, 1) := by decide +kernel
theorem dX12_bind_34 : decode cX12_bind 34 = .ok (.getfield 33, 3) := by decide +kernel
theorem dX12_bind_37 : decode cX12_bind 37 = .ok (.sipush 224, 3) := by decide +kernel
theorem dX12_bind_40 : decode cX12_bind 40 = .ok (.iload_n 2, 1) := by decide +kernel
theorem dX12_bind_41 : decode cX12_bind 41 = .ok (.iadd, 1) := by decide +kernel
theorem dX12_bind_42 : decode cX12_bind 42 = .ok (.iaload, 1) := by decide +kernel
theorem dX12_bind_43 : decode cX12_bind 43 = .ok (.istore_n 3, 1) := by decide +kernel
theorem dX12_bind_44 : decode cX12_bind 44 = .ok (.aload_n 0, 1) := by decide +kernel
theorem dX12_bind_45 : decode cX12_bind 45 = .ok (.iload_n 3, 1) := by decide +kernel
theorem dX12_bind_46 : decode cX12_bind 46 = .ok (.iconst 2, 1) := by decide +kernel
theorem dX12_bind_47 : decode cX12_bind 47 = .ok (.invokevirtual 266, 3) := by decide +kernel
theorem dX12_bind_50 : decode cX12_bind 50 = .ok (.iload_n 1, 1) := by decide +kernel
theorem dX12_bind_51 : decode cX12_bind 51 = .ok (.if_icmp .le 6, 3) := by decide +kernel
theorem dX12_bind_54 : decode cX12_bind 54 = .ok (.goto 55, 3) := by decide +kernel
theorem dX12_bind_57 : decode cX12_bind 57 = .ok (.aload_n 0, 1) := by decide +kernel
theorem dX12_bind_58 : decode cX12_bind 58 = .ok (.aload_n 0, 1) := by decide +kernel
theorem dX12_bind_59 : decode cX12_bind 59 = .ok (.iload_n 3, 1) := by decide +kernel
theorem dX12_bind_60 : decode cX12_bind 60 = .ok (.aload_n 0, 1) := by decide +kernel
theorem dX12_bind_61 : decode cX12_bind 61 = .ok (.getfield 33, 3) := by decide +kernel
theorem dX12_bind_64 : decode cX12_bind 64 = .ok (.sipush 254, 3) := by decide +kernel
theorem dX12_bind_67 : decode cX12_bind 67 = .ok (.iload_n 2, 1) := by decide +kernel
theorem dX12_bind_68 : decode cX12_bind 68 = .ok (.iadd, 1) := by decide +kernel
theorem dX12_bind_69 : decode cX12_bind 69 = .ok (.iaload, 1) := by decide +kernel
theorem dX12_bind_70 : decode cX12_bind 70 = .ok (.invokevirtual 273, 3) := by decide +kernel
theorem dX12_bind_73 : decode cX12_bind 73 = .ok (.aload_n 0, 1) := by decide +kernel
theorem dX12_bind_74 : decode cX12_bind 74 = .ok (.iload_n 3, 1) := by decide +kernel
theorem dX12_bind_75 : decode cX12_bind 75 = .ok (.iconst 2, 1) := by decide +kernel
theorem dX12_bind_76 : decode cX12_bind 76 = .ok (.invokevirtual 266, 3) := by decide +kernel
theorem dX12_bind_79 : decode cX12_bind 79 = .ok (.iconst 1, 1) := by decide +kernel
theorem dX12_bind_80 : decode cX12_bind 80 = .ok (.invokevirtual 276, 3) := by decide +kernel
theorem dX12_bind_83 : decode cX12_bind 83 = .ok (.aload_n 0, 1) := by decide +kernel
theorem dX12_bind_84 : decode cX12_bind 84 = .ok (.aload_n 0, 1) := by decide +kernel
theorem dX12_bind_85 : decode cX12_bind 85 = .ok (.iload_n 3, 1) := by decide +kernel
theorem dX12_bind_86 : decode cX12_bind 86 = .ok (.aload_n 0, 1) := by decide +kernel
theorem dX12_bind_87 : decode cX12_bind 87 = .ok (.getfield 33, 3) := by decide +kernel
theorem dX12_bind_90 : decode cX12_bind 90 = .ok (.sipush 254, 3) := by decide +kernel
theorem dX12_bind_93 : decode cX12_bind 93 = .ok (.iload_n 2, 1) := by decide +kernel
theorem dX12_bind_94 : decode cX12_bind 94 = .ok (.iadd, 1) := by decide +kernel
theorem dX12_bind_95 : decode cX12_bind 95 = .ok (.iaload, 1) := by decide +kernel
theorem dX12_bind_96 : decode cX12_bind 96 = .ok (.invokevirtual 280, 3) := by decide +kernel
theorem dX12_bind_99 : decode cX12_bind 99 = .ok (.aload_n 0, 1) := by decide +kernel
theorem dX12_bind_100 : decode cX12_bind 100 = .ok (.iload_n 3, 1) := by decide +kernel
theorem dX12_bind_101 : decode cX12_bind 101 = .ok (.iconst 2, 1) := by decide +kernel
theorem dX12_bind_102 : decode cX12_bind 102 = .ok (.invokevirtual 266, 3) := by decide +kernel
theorem dX12_bind_105 : decode cX12_bind 105 = .ok (.iconst 2, 1) := by decide +kernel
theorem dX12_bind_106 : decode cX12_bind 106 = .ok (.invokevirtual 276, 3) := by decide +kernel
theorem dX12_bind_109 : decode cX12_bind 109 = .ok (.iinc 2 1, 3) := by decide +kernel
theorem dX12_bind_112 : decode cX12_bind 112 = .ok (.goto (-89), 3) := by decide +kernel
theorem dX12_bind_115 : decode cX12_bind 115 = .ok (.return_, 1) := by decide +kernel
theorem dX12_bound_0 : decode cX12_bound 0 = .ok (.aload_n 0, 1) := by decide +kernel
theorem dX12_bound_1 : decode cX12_bound 1 = .ok (.iload_n 1, 1) := by decide +kernel
theorem dX12_bound_2 : decode cX12_bound 2 = .ok (.iload_n 2, 1) := by decide +kernel
theorem dX12_bound_3 : decode cX12_bound 3 = .ok (.invokevirtual 283, 3) := by decide +kernel
theorem dX12_bound_6 : decode cX12_bound 6 = .ok (.ifCond .le 4, 3) := by decide +kernel
theorem dX12_bound_9 : decode cX12_bound 9 = .ok (.return_, 1) := by decide +kernel
theorem dX12_bound_10 : decode cX12_bound 10 = .ok (.aload_n 0, 1) := by decide +kernel
theorem dX12_bound_11 : decode cX12_bound 11 = .ok (.getfield 53, 3) := by decide +kernel
theorem dX12_bound_14 : decode cX12_bound 14 = .ok (.iload_n 1, 1) := by decide +kernel
theorem dX12_bound_15 : decode cX12_bound 15 = .ok (.iload_n 3, 1) := by decide +kernel
theorem dX12_bound_16 : decode cX12_bound 16 = .ok (.iastore, 1) := by decide +kernel
theorem dX12_bound_17 : decode cX12_bound 17 = .ok (.aload_n 0, 1) := by decide +kernel
theorem dX12_bound_18 : decode cX12_bound 18 = .ok (.getfield 56, 3) := by decide +kernel
theorem dX12_bound_21 : decode cX12_bound 21 = .ok (.iload_n 1, 1) := by decide +kernel
theorem dX12_bound_22 : decode cX12_bound 22 = .ok (.iload_n 2, 1) := by decide +kernel
theorem dX12_bound_23 : decode cX12_bound 23 = .ok (.iastore, 1) := by decide +kernel
theorem dX12_bound_24 : decode cX12_bound 24 = .ok (.return_, 1) := by decide +kernel
theorem dX12_didIn_0 : decode cX12_didIn 0 = .ok (.iconst 0, 1) := by decide +kernel
theorem dX12_didIn_1 : decode cX12_didIn 1 = .ok (.istore_n 3, 1) := by decide +kernel
theorem dX12_didIn_2 : decode cX12_didIn 2 = .ok (.iconst 0, 1) := by decide +kernel
theorem dX12_didIn_3 : decode cX12_didIn 3 = .ok (.istore 4, 2) := by decide +kernel
theorem dX12_didIn_5 : decode cX12_didIn 5 = .ok (.iload 4, 2) := by decide +kernel
theorem dX12_didIn_7 : decode cX12_didIn 7 = .ok (.aload_n 0, 1) := by decide +kernel
theorem dX12_didIn_8 : decode cX12_didIn 8 = .ok (.getfield 33, 3) := by decide +kernel
theorem dX12_didIn_11 : decode cX12_didIn 11 = .ok (.iconst 3, 1) := by decide +kernel
theorem dX12_didIn_12 : decode cX12_didIn 12 = .ok (.iaload, 1) := by decide +kernel
theorem dX12_didIn_13 : decode cX12_didIn 13 = .ok (.if_icmp .ge 63, 3) := by decide +kernel
theorem dX12_didIn_16 : decode cX12_didIn 16 = .ok (.aload_n 0, 1) := by decide +kernel
theorem dX12_didIn_17 : decode cX12_didIn 17 = .ok (.getfield 33, 3) := by decide +kernel
theorem dX12_didIn_20 : decode cX12_didIn 20 = .ok (.sipush 224, 3) := by decide +kernel
theorem dX12_didIn_23 : decode cX12_didIn 23 = .ok (.iload 4, 2) := by decide +kernel
theorem dX12_didIn_25 : decode cX12_didIn 25 = .ok (.iadd, 1) := by decide +kernel
theorem dX12_didIn_26 : decode cX12_didIn 26 = .ok (.iaload, 1) := by decide +kernel
theorem dX12_didIn_27 : decode cX12_didIn 27 = .ok (.istore 5, 2) := by decide +kernel
theorem dX12_didIn_29 : decode cX12_didIn 29 = .ok (.iload_n 3, 1) := by decide +kernel
theorem dX12_didIn_30 : decode cX12_didIn 30 = .ok (.aload_n 0, 1) := by decide +kernel
theorem dX12_didIn_31 : decode cX12_didIn 31 = .ok (.iload 5, 2) := by decide +kernel
theorem dX12_didIn_33 : decode cX12_didIn 33 = .ok (.iconst 2, 1) := by decide +kernel
theorem dX12_didIn_34 : decode cX12_didIn 34 = .ok (.invokevirtual 266, 3) := by decide +kernel
theorem dX12_didIn_37 : decode cX12_didIn 37 = .ok (.iload_n 2, 1) := by decide +kernel
theorem dX12_didIn_38 : decode cX12_didIn 38 = .ok (.if_icmp .ne 29, 3) := by decide +kernel
theorem dX12_didIn_41 : decode cX12_didIn 41 = .ok (.aload_n 0, 1) := by decide +kernel
theorem dX12_didIn_42 : decode cX12_didIn 42 = .ok (.iload 5, 2) := by decide +kernel
theorem dX12_didIn_44 : decode cX12_didIn 44 = .ok (.iconst 0, 1) := by decide +kernel
theorem dX12_didIn_45 : decode cX12_didIn 45 = .ok (.invokevirtual 266, 3) := by decide +kernel
theorem dX12_didIn_48 : decode cX12_didIn 48 = .ok (.iload_n 1, 1) := by decide +kernel
theorem dX12_didIn_49 : decode cX12_didIn 49 = .ok (.if_icmp .eq 14, 3) := by decide +kernel
theorem dX12_didIn_52 : decode cX12_didIn 52 = .ok (.aload_n 0, 1) := by decide +kernel
theorem dX12_didIn_53 : decode cX12_didIn 53 = .ok (.iload 5, 2) := by decide +kernel
theorem dX12_didIn_55 : decode cX12_didIn 55 = .ok (.iconst 1, 1) := by decide +kernel
theorem dX12_didIn_56 : decode cX12_didIn 56 = .ok (.invokevirtual 266, 3) := by decide +kernel
theorem dX12_didIn_59 : decode cX12_didIn 59 = .ok (.iload_n 1, 1) := by decide +kernel
theorem dX12_didIn_60 : decode cX12_didIn 60 = .ok (.if_icmp .ne 7, 3) := by decide +kernel
theorem dX12_didIn_63 : decode cX12_didIn 63 = .ok (.iconst 1, 1) := by decide +kernel
theorem dX12_didIn_64 : decode cX12_didIn 64 = .ok (.goto 4, 3) := by decide +kernel
theorem dX12_didIn_67 : decode cX12_didIn 67 = .ok (.iconst 0, 1) := by decide +kernel
theorem dX12_didIn_68 : decode cX12_didIn 68 = .ok (.iadd, 1) := by decide +kernel
theorem dX12_didIn_69 : decode cX12_didIn 69 = .ok (.istore_n 3, 1) := by decide +kernel
theorem dX12_didIn_70 : decode cX12_didIn 70 = .ok (.iinc 4 1, 3) := by decide +kernel
theorem dX12_didIn_73 : decode cX12_didIn 73 = .ok (.goto (-68), 3) := by decide +kernel
theorem dX12_didIn_76 : decode cX12_didIn 76 = .ok (.iload_n 3, 1) := by decide +kernel
theorem dX12_didIn_77 : decode cX12_didIn 77 = .ok (.ireturn, 1) := by decide +kernel
theorem dX12_wrong_0 : decode cX12_wrong 0 = .ok (.aload_n 0, 1) := by decide +kernel
theorem dX12_wrong_1 : decode cX12_wrong 1 = .ok (.iload_n 1, 1) := by decide +kernel
theorem dX12_wrong_2 : decode cX12_wrong 2 = .ok (.iconst 2, 1) := by decide +kernel
theorem dX12_wrong_3 : decode cX12_wrong 3 = .ok (.invokevirtual 266, 3) := by decide +kernel
theorem dX12_wrong_6 : decode cX12_wrong 6 = .ok (.istore_n 3, 1) := by decide +kernel
theorem dX12_wrong_7 : decode cX12_wrong 7 = .ok (.aload_n 0, 1) := by decide +kernel
theorem dX12_wrong_8 : decode cX12_wrong 8 = .ok (.iload_n 1, 1) := by decide +kernel
theorem dX12_wrong_9 : decode cX12_wrong 9 = .ok (.invokevirtual 269, 3) := by decide +kernel
theorem dX12_wrong_12 : decode cX12_wrong 12 = .ok (.ifCond .le 5, 3) := by decide +kernel
theorem dX12_wrong_15 : decode cX12_wrong 15 = .ok (.iconst 1, 1) := by decide +kernel
theorem dX12_wrong_16 : decode cX12_wrong 16 = .ok (.ireturn, 1) := by decide +kernel
theorem dX12_wrong_17 : decode cX12_wrong 17 = .ok (.iload_n 2, 1) := by decide +kernel
theorem dX12_wrong_18 : decode cX12_wrong 18 = .ok (.iconst 1, 1) := by decide +kernel
theorem dX12_wrong_19 : decode cX12_wrong 19 = .ok (.if_icmp .ne 14, 3) := by decide +kernel
theorem dX12_wrong_22 : decode cX12_wrong 22 = .ok (.aload_n 0, 1) := by decide +kernel
theorem dX12_wrong_23 : decode cX12_wrong 23 = .ok (.iload_n 1, 1) := by decide +kernel
theorem dX12_wrong_24 : decode cX12_wrong 24 = .ok (.iconst 5, 1) := by decide +kernel
theorem dX12_wrong_25 : decode cX12_wrong 25 = .ok (.invokevirtual 266, 3) := by decide +kernel
theorem dX12_wrong_28 : decode cX12_wrong 28 = .ok (.ifCond .ne 5, 3) := by decide +kernel
theorem dX12_wrong_31 : decode cX12_wrong 31 = .ok (.iconst 2, 1) := by decide +kernel
theorem dX12_wrong_32 : decode cX12_wrong 32 = .ok (.ireturn, 1) := by decide +kernel
theorem dX12_wrong_33 : decode cX12_wrong 33 = .ok (.aload_n 0, 1) := by decide +kernel
theorem dX12_wrong_34 : decode cX12_wrong 34 = .ok (.getfield 33, 3) := by decide +kernel
theorem dX12_wrong_37 : decode cX12_wrong 37 = .ok (.iconst 3, 1) := by decide +kernel
theorem dX12_wrong_38 : decode cX12_wrong 38 = .ok (.iaload, 1) := by decide +kernel
theorem dX12_wrong_39 : decode cX12_wrong 39 = .ok (.ifCond .le 31, 3) := by decide +kernel
theorem dX12_wrong_42 : decode cX12_wrong 42 = .ok (.iload_n 3, 1) := by decide +kernel
theorem dX12_wrong_43 : decode cX12_wrong 43 = .ok (.aload_n 0, 1) := by decide +kernel
theorem dX12_wrong_44 : decode cX12_wrong 44 = .ok (.aload_n 0, 1) := by decide +kernel
theorem dX12_wrong_45 : decode cX12_wrong 45 = .ok (.getfield 33, 3) := by decide +kernel
theorem dX12_wrong_48 : decode cX12_wrong 48 = .ok (.sipush 224, 3) := by decide +kernel
theorem dX12_wrong_51 : decode cX12_wrong 51 = .ok (.aload_n 0, 1) := by decide +kernel
theorem dX12_wrong_52 : decode cX12_wrong 52 = .ok (.getfield 33, 3) := by decide +kernel
theorem dX12_wrong_55 : decode cX12_wrong 55 = .ok (.iconst 3, 1) := by decide +kernel
theorem dX12_wrong_56 : decode cX12_wrong 56 = .ok (.iaload, 1) := by decide +kernel
theorem dX12_wrong_57 : decode cX12_wrong 57 = .ok (.iadd, 1) := by decide +kernel
theorem dX12_wrong_58 : decode cX12_wrong 58 = .ok (.iconst 1, 1) := by decide +kernel
theorem dX12_wrong_59 : decode cX12_wrong 59 = .ok (.isub, 1) := by decide +kernel
theorem dX12_wrong_60 : decode cX12_wrong 60 = .ok (.iaload, 1) := by decide +kernel
theorem dX12_wrong_61 : decode cX12_wrong 61 = .ok (.iconst 2, 1) := by decide +kernel
theorem dX12_wrong_62 : decode cX12_wrong 62 = .ok (.invokevirtual 266, 3) := by decide +kernel
theorem dX12_wrong_65 : decode cX12_wrong 65 = .ok (.if_icmp .ge 5, 3) := by decide +kernel
theorem dX12_wrong_68 : decode cX12_wrong 68 = .ok (.iconst 3, 1) := by decide +kernel
theorem dX12_wrong_69 : decode cX12_wrong 69 = .ok (.ireturn, 1) := by decide +kernel
theorem dX12_wrong_70 : decode cX12_wrong 70 = .ok (.aload_n 0, 1) := by decide +kernel
theorem dX12_wrong_71 : decode cX12_wrong 71 = .ok (.iload_n 3, 1) := by decide +kernel
theorem dX12_wrong_72 : decode cX12_wrong 72 = .ok (.invokevirtual 286, 3) := by decide +kernel
theorem dX12_wrong_75 : decode cX12_wrong 75 = .ok (.aload_n 0, 1) := by decide +kernel
theorem dX12_wrong_76 : decode cX12_wrong 76 = .ok (.aload_n 0, 1) := by decide +kernel
theorem dX12_wrong_77 : decode cX12_wrong 77 = .ok (.iload_n 1, 1) := by decide +kernel
theorem dX12_wrong_78 : decode cX12_wrong 78 = .ok (.iload_n 2, 1) := by decide +kernel
theorem dX12_wrong_79 : decode cX12_wrong 79 = .ok (.invokevirtual 273, 3) := by decide +kernel
theorem dX12_wrong_82 : decode cX12_wrong 82 = .ok (.iload_n 3, 1) := by decide +kernel
theorem dX12_wrong_83 : decode cX12_wrong 83 = .ok (.invokevirtual 283, 3) := by decide +kernel
theorem dX12_wrong_86 : decode cX12_wrong 86 = .ok (.iconst 2, 1) := by decide +kernel
theorem dX12_wrong_87 : decode cX12_wrong 87 = .ok (.if_icmp .ne 5, 3) := by decide +kernel
theorem dX12_wrong_90 : decode cX12_wrong 90 = .ok (.iconst 4, 1) := by decide +kernel
theorem dX12_wrong_91 : decode cX12_wrong 91 = .ok (.ireturn, 1) := by decide +kernel
theorem dX12_wrong_92 : decode cX12_wrong 92 = .ok (.aload_n 0, 1) := by decide +kernel
theorem dX12_wrong_93 : decode cX12_wrong 93 = .ok (.aload_n 0, 1) := by decide +kernel
theorem dX12_wrong_94 : decode cX12_wrong 94 = .ok (.iload_n 1, 1) := by decide +kernel
theorem dX12_wrong_95 : decode cX12_wrong 95 = .ok (.iload_n 2, 1) := by decide +kernel
theorem dX12_wrong_96 : decode cX12_wrong 96 = .ok (.invokevirtual 280, 3) := by decide +kernel
theorem dX12_wrong_99 : decode cX12_wrong 99 = .ok (.iload_n 3, 1) := by decide +kernel
theorem dX12_wrong_100 : decode cX12_wrong 100 = .ok (.invokevirtual 283, 3) := by decide +kernel
theorem dX12_wrong_103 : decode cX12_wrong 103 = .ok (.iconst 1, 1) := by decide +kernel
theorem dX12_wrong_104 : decode cX12_wrong 104 = .ok (.if_icmp .ne 5, 3) := by decide +kernel
theorem dX12_wrong_107 : decode cX12_wrong 107 = .ok (.iconst 5, 1) := by decide +kernel
theorem dX12_wrong_108 : decode cX12_wrong 108 = .ok (.ireturn, 1) := by decide +kernel
theorem dX12_wrong_109 : decode cX12_wrong 109 = .ok (.aload_n 0, 1) := by decide +kernel
theorem dX12_wrong_110 : decode cX12_wrong 110 = .ok (.aload_n 0, 1) := by decide +kernel
theorem dX12_wrong_111 : decode cX12_wrong 111 = .ok (.iload_n 1, 1) := by decide +kernel
theorem dX12_wrong_112 : decode cX12_wrong 112 = .ok (.iconst 0, 1) := by decide +kernel
theorem dX12_wrong_113 : decode cX12_wrong 113 = .ok (.invokevirtual 266, 3) := by decide +kernel
theorem dX12_wrong_116 : decode cX12_wrong 116 = .ok (.iload_n 3, 1) := by decide +kernel
theorem dX12_wrong_117 : decode cX12_wrong 117 = .ok (.invokevirtual 289, 3) := by decide +kernel
theorem dX12_wrong_120 : decode cX12_wrong 120 = .ok (.aload_n 0, 1) := by decide +kernel
theorem dX12_wrong_121 : decode cX12_wrong 121 = .ok (.getfield 33, 3) := by decide +kernel
theorem dX12_wrong_124 : decode cX12_wrong 124 = .ok (.bipush 24, 2) := by decide +kernel
theorem dX12_wrong_126 : decode cX12_wrong 126 = .ok (.aload_n 0, 1) := by decide +kernel
theorem dX12_wrong_127 : decode cX12_wrong 127 = .ok (.iload_n 1, 1) := by decide +kernel
theorem dX12_wrong_128 : decode cX12_wrong 128 = .ok (.iconst 0, 1) := by decide +kernel
theorem dX12_wrong_129 : decode cX12_wrong 129 = .ok (.invokevirtual 266, 3) := by decide +kernel
theorem dX12_wrong_132 : decode cX12_wrong 132 = .ok (.iadd, 1) := by decide +kernel
theorem dX12_wrong_133 : decode cX12_wrong 133 = .ok (.iaload, 1) := by decide +kernel
theorem dX12_wrong_134 : decode cX12_wrong 134 = .ok (.if_icmp .ge 31, 3) := by decide +kernel
theorem dX12_wrong_137 : decode cX12_wrong 137 = .ok (.aload_n 0, 1) := by decide +kernel
theorem dX12_wrong_138 : decode cX12_wrong 138 = .ok (.aload_n 0, 1) := by decide +kernel
theorem dX12_wrong_139 : decode cX12_wrong 139 = .ok (.iload_n 1, 1) := by decide +kernel
theorem dX12_wrong_140 : decode cX12_wrong 140 = .ok (.iconst 1, 1) := by decide +kernel
theorem dX12_wrong_141 : decode cX12_wrong 141 = .ok (.invokevirtual 266, 3) := by decide +kernel
theorem dX12_wrong_144 : decode cX12_wrong 144 = .ok (.iload_n 3, 1) := by decide +kernel
theorem dX12_wrong_145 : decode cX12_wrong 145 = .ok (.invokevirtual 289, 3) := by decide +kernel
theorem dX12_wrong_148 : decode cX12_wrong 148 = .ok (.aload_n 0, 1) := by decide +kernel
theorem dX12_wrong_149 : decode cX12_wrong 149 = .ok (.getfield 33, 3) := by decide +kernel
theorem dX12_wrong_152 : decode cX12_wrong 152 = .ok (.bipush 24, 2) := by decide +kernel
theorem dX12_wrong_154 : decode cX12_wrong 154 = .ok (.aload_n 0, 1) := by decide +kernel
theorem dX12_wrong_155 : decode cX12_wrong 155 = .ok (.iload_n 1, 1) := by decide +kernel
theorem dX12_wrong_156 : decode cX12_wrong 156 = .ok (.iconst 1, 1) := by decide +kernel
theorem dX12_wrong_157 : decode cX12_wrong 157 = .ok (.invokevirtual 266, 3) := by decide +kernel
theorem dX12_wrong_160 : decode cX12_wrong 160 = .ok (.iadd, 1) := by decide +kernel
theorem dX12_wrong_161 : decode cX12_wrong 161 = .ok (.iaload, 1) := by decide +kernel
theorem dX12_wrong_162 : decode cX12_wrong 162 = .ok (.if_icmp .lt 8, 3) := by decide +kernel
theorem dX12_wrong_165 : decode cX12_wrong 165 = .ok (.bipush 6, 2) := by decide +kernel
theorem dX12_wrong_167 : decode cX12_wrong 167 = .ok (.goto 4, 3) := by decide +kernel
theorem dX12_wrong_170 : decode cX12_wrong 170 = .ok (.iconst 0, 1) := by decide +kernel
theorem dX12_wrong_171 : decode cX12_wrong 171 = .ok (.ireturn, 1) := by decide +kernel
theorem dX12_put_0 : decode cX12_put 0 = .ok (.aload_n 0, 1) := by decide +kernel
theorem dX12_put_1 : decode cX12_put 1 = .ok (.getfield 33, 3) := by decide +kernel
theorem dX12_put_4 : decode cX12_put 4 = .ok (.sipush 224, 3) := by decide +kernel
theorem dX12_put_7 : decode cX12_put 7 = .ok (.aload_n 0, 1) := by decide +kernel
theorem dX12_put_8 : decode cX12_put 8 = .ok (.getfield 33, 3) := by decide +kernel
theorem dX12_put_11 : decode cX12_put 11 = .ok (.iconst 3, 1) := by decide +kernel
theorem dX12_put_12 : decode cX12_put 12 = .ok (.iaload, 1) := by decide +kernel
theorem dX12_put_13 : decode cX12_put 13 = .ok (.iadd, 1) := by decide +kernel
theorem dX12_put_14 : decode cX12_put 14 = .ok (.iload_n 1, 1) := by decide +kernel
theorem dX12_put_15 : decode cX12_put 15 = .ok (.iastore, 1) := by decide +kernel
theorem dX12_put_16 : decode cX12_put 16 = .ok (.aload_n 0, 1) := by decide +kernel
theorem dX12_put_17 : decode cX12_put 17 = .ok (.getfield 33, 3) := by decide +kernel
theorem dX12_put_20 : decode cX12_put 20 = .ok (.sipush 254, 3) := by decide +kernel
theorem dX12_put_23 : decode cX12_put 23 = .ok (.aload_n 0, 1) := by decide +kernel
theorem dX12_put_24 : decode cX12_put 24 = .ok (.getfield 33, 3) := by decide +kernel
theorem dX12_put_27 : decode cX12_put 27 = .ok (.iconst 3, 1) := by decide +kernel
theorem dX12_put_28 : decode cX12_put 28 = .ok (.iaload, 1) := by decide +kernel
theorem dX12_put_29 : decode cX12_put 29 = .ok (.iadd, 1) := by decide +kernel
theorem dX12_put_30 : decode cX12_put 30 = .ok (.iload_n 2, 1) := by decide +kernel
theorem dX12_put_31 : decode cX12_put 31 = .ok (.iastore, 1) := by decide +kernel
theorem dX12_put_32 : decode cX12_put 32 = .ok (.aload_n 0, 1) := by decide +kernel
theorem dX12_put_33 : decode cX12_put 33 = .ok (.getfield 33, 3) := by decide +kernel
theorem dX12_put_36 : decode cX12_put 36 = .ok (.iconst 3, 1) := by decide +kernel
theorem dX12_put_37 : decode cX12_put 37 = .ok (.dup2, 1) := by decide +kernel
theorem dX12_put_38 : decode cX12_put 38 = .ok (.iaload, 1) := by decide +kernel
theorem dX12_put_39 : decode cX12_put 39 = .ok (.iconst 1, 1) := by decide +kernel
theorem dX12_put_40 : decode cX12_put 40 = .ok (.iadd, 1) := by decide +kernel
theorem dX12_put_41 : decode cX12_put 41 = .ok (.iastore, 1) := by decide +kernel
theorem dX12_put_42 : decode cX12_put 42 = .ok (.return_, 1) := by decide +kernel
theorem dX12_does_0 : decode cX12_does 0 = .ok (.aload_n 0, 1) := by decide +kernel
theorem dX12_does_1 : decode cX12_does 1 = .ok (.iconst 0, 1) := by decide +kernel
theorem dX12_does_2 : decode cX12_does 2 = .ok (.putfield 1, 3) := by decide +kernel
theorem dX12_does_5 : decode cX12_does 5 = .ok (.aload_n 0, 1) := by decide +kernel
theorem dX12_does_6 : decode cX12_does 6 = .ok (.iload_n 1, 1) := by decide +kernel
theorem dX12_does_7 : decode cX12_does 7 = .ok (.invokevirtual 263, 3) := by decide +kernel
theorem dX12_does_10 : decode cX12_does 10 = .ok (.ifCond .eq 12, 3) := by decide +kernel
theorem dX12_does_13 : decode cX12_does 13 = .ok (.iload_n 2, 1) := by decide +kernel
theorem dX12_does_14 : decode cX12_does 14 = .ok (.iconst 0, 1) := by decide +kernel
theorem dX12_does_15 : decode cX12_does 15 = .ok (.iconst 1, 1) := by decide +kernel
theorem dX12_does_16 : decode cX12_does 16 = .ok (.invokestatic 197, 3) := by decide +kernel
theorem dX12_does_19 : decode cX12_does 19 = .ok (.ifCond .ne 5, 3) := by decide +kernel
theorem dX12_does_22 : decode cX12_does 22 = .ok (.iconst (-1), 1) := by decide +kernel
theorem dX12_does_23 : decode cX12_does 23 = .ok (.ireturn, 1) := by decide +kernel
theorem dX12_does_24 : decode cX12_does 24 = .ok (.aload_n 0, 1) := by decide +kernel
theorem dX12_does_25 : decode cX12_does 25 = .ok (.iload_n 1, 1) := by decide +kernel
theorem dX12_does_26 : decode cX12_does 26 = .ok (.iload_n 2, 1) := by decide +kernel
theorem dX12_does_27 : decode cX12_does 27 = .ok (.invokevirtual 292, 3) := by decide +kernel
theorem dX12_does_30 : decode cX12_does 30 = .ok (.istore_n 3, 1) := by decide +kernel
theorem dX12_does_31 : decode cX12_does 31 = .ok (.iload_n 3, 1) := by decide +kernel
theorem dX12_does_32 : decode cX12_does 32 = .ok (.ifCond .ne 9, 3) := by decide +kernel
theorem dX12_does_35 : decode cX12_does 35 = .ok (.aload_n 0, 1) := by decide +kernel
theorem dX12_does_36 : decode cX12_does 36 = .ok (.iload_n 1, 1) := by decide +kernel
theorem dX12_does_37 : decode cX12_does 37 = .ok (.iload_n 2, 1) := by decide +kernel
theorem dX12_does_38 : decode cX12_does 38 = .ok (.invokevirtual 295, 3) := by decide +kernel
theorem dX12_does_41 : decode cX12_does 41 = .ok (.iload_n 3, 1) := by decide +kernel
theorem dX12_does_42 : decode cX12_does 42 = .ok (.ireturn, 1) := by decide +kernel
theorem dX12_undo_0 : decode cX12_undo 0 = .ok (.aload_n 0, 1) := by decide +kernel
theorem dX12_undo_1 : decode cX12_undo 1 = .ok (.iconst 0, 1) := by decide +kernel
theorem dX12_undo_2 : decode cX12_undo 2 = .ok (.putfield 1, 3) := by decide +kernel
theorem dX12_undo_5 : decode cX12_undo 5 = .ok (.aload_n 0, 1) := by decide +kernel
theorem dX12_undo_6 : decode cX12_undo 6 = .ok (.getfield 33, 3) := by decide +kernel
theorem dX12_undo_9 : decode cX12_undo 9 = .ok (.iconst 3, 1) := by decide +kernel
theorem dX12_undo_10 : decode cX12_undo 10 = .ok (.iaload, 1) := by decide +kernel
theorem dX12_undo_11 : decode cX12_undo 11 = .ok (.ifCond .ne 5, 3) := by decide +kernel
theorem dX12_undo_14 : decode cX12_undo 14 = .ok (.iconst (-1), 1) := by decide +kernel
theorem dX12_undo_15 : decode cX12_undo 15 = .ok (.ireturn, 1) := by decide +kernel
theorem dX12_undo_16 : decode cX12_undo 16 = .ok (.aload_n 0, 1) := by decide +kernel
theorem dX12_undo_17 : decode cX12_undo 17 = .ok (.getfield 33, 3) := by decide +kernel
theorem dX12_undo_20 : decode cX12_undo 20 = .ok (.iconst 3, 1) := by decide +kernel
theorem dX12_undo_21 : decode cX12_undo 21 = .ok (.dup2, 1) := by decide +kernel
theorem dX12_undo_22 : decode cX12_undo 22 = .ok (.iaload, 1) := by decide +kernel
theorem dX12_undo_23 : decode cX12_undo 23 = .ok (.iconst 1, 1) := by decide +kernel
theorem dX12_undo_24 : decode cX12_undo 24 = .ok (.isub, 1) := by decide +kernel
theorem dX12_undo_25 : decode cX12_undo 25 = .ok (.iastore, 1) := by decide +kernel
theorem dX12_undo_26 : decode cX12_undo 26 = .ok (.aload_n 0, 1) := by decide +kernel
theorem dX12_undo_27 : decode cX12_undo 27 = .ok (.getfield 33, 3) := by decide +kernel
theorem dX12_undo_30 : decode cX12_undo 30 = .ok (.iconst 3, 1) := by decide +kernel
theorem dX12_undo_31 : decode cX12_undo 31 = .ok (.iaload, 1) := by decide +kernel
theorem dX12_undo_32 : decode cX12_undo 32 = .ok (.ireturn, 1) := by decide +kernel
theorem dX12_readLine_0 : decode cX12_readLine 0 = .ok (.aload_n 0, 1) := by decide +kernel
theorem dX12_readLine_1 : decode cX12_readLine 1 = .ok (.invokevirtual 204, 3) := by decide +kernel
theorem dX12_readLine_4 : decode cX12_readLine 4 = .ok (.ifCond .ne 9, 3) := by decide +kernel
theorem dX12_readLine_7 : decode cX12_readLine 7 = .ok (.aload_n 0, 1) := by decide +kernel
theorem dX12_readLine_8 : decode cX12_readLine 8 = .ok (.iconst 1, 1) := by decide +kernel
theorem dX12_readLine_9 : decode cX12_readLine 9 = .ok (.invokevirtual 191, 3) := by decide +kernel
theorem dX12_readLine_12 : decode cX12_readLine 12 = .ok (.ireturn, 1) := by decide +kernel
theorem dX12_readLine_13 : decode cX12_readLine 13 = .ok (.aload_n 0, 1) := by decide +kernel
theorem dX12_readLine_14 : decode cX12_readLine 14 = .ok (.bipush 10, 2) := by decide +kernel
theorem dX12_readLine_16 : decode cX12_readLine 16 = .ok (.aload_n 0, 1) := by decide +kernel
theorem dX12_readLine_17 : decode cX12_readLine 17 = .ok (.getfield 33, 3) := by decide +kernel
theorem dX12_readLine_20 : decode cX12_readLine 20 = .ok (.iconst 1, 1) := by decide +kernel
theorem dX12_readLine_21 : decode cX12_readLine 21 = .ok (.iaload, 1) := by decide +kernel
theorem dX12_readLine_22 : decode cX12_readLine 22 = .ok (.invokevirtual 208, 3) := by decide +kernel
theorem dX12_readLine_25 : decode cX12_readLine 25 = .ok (.istore_n 1, 1) := by decide +kernel
theorem dX12_readLine_26 : decode cX12_readLine 26 = .ok (.iload_n 1, 1) := by decide +kernel
theorem dX12_readLine_27 : decode cX12_readLine 27 = .ok (.ifCond .ge 9, 3) := by decide +kernel
theorem dX12_readLine_30 : decode cX12_readLine 30 = .ok (.aload_n 0, 1) := by decide +kernel
theorem dX12_readLine_31 : decode cX12_readLine 31 = .ok (.iconst 3, 1) := by decide +kernel
theorem dX12_readLine_32 : decode cX12_readLine 32 = .ok (.invokevirtual 191, 3) := by decide +kernel
theorem dX12_readLine_35 : decode cX12_readLine 35 = .ok (.ireturn, 1) := by decide +kernel
theorem dX12_readLine_36 : decode cX12_readLine 36 = .ok (.aload_n 0, 1) := by decide +kernel
theorem dX12_readLine_37 : decode cX12_readLine 37 = .ok (.getfield 299, 3) := by decide +kernel
theorem dX12_readLine_40 : decode cX12_readLine 40 = .ok (.bipush 40, 2) := by decide +kernel
theorem dX12_readLine_42 : decode cX12_readLine 42 = .ok (.if_icmp .ne 9, 3) := by decide +kernel
theorem dX12_readLine_45 : decode cX12_readLine 45 = .ok (.aload_n 0, 1) := by decide +kernel
theorem dX12_readLine_46 : decode cX12_readLine 46 = .ok (.iconst 4, 1) := by decide +kernel
theorem dX12_readLine_47 : decode cX12_readLine 47 = .ok (.invokevirtual 191, 3) := by decide +kernel
theorem dX12_readLine_50 : decode cX12_readLine 50 = .ok (.ireturn, 1) := by decide +kernel
theorem dX12_readLine_51 : decode cX12_readLine 51 = .ok (.aload_n 0, 1) := by decide +kernel
theorem dX12_readLine_52 : decode cX12_readLine 52 = .ok (.invokevirtual 194, 3) := by decide +kernel
theorem dX12_readLine_55 : decode cX12_readLine 55 = .ok (.aload_n 0, 1) := by decide +kernel
theorem dX12_readLine_56 : decode cX12_readLine 56 = .ok (.getfield 40, 3) := by decide +kernel
theorem dX12_readLine_59 : decode cX12_readLine 59 = .ok (.aload_n 0, 1) := by decide +kernel
theorem dX12_readLine_60 : decode cX12_readLine 60 = .ok (.getfield 299, 3) := by decide +kernel
theorem dX12_readLine_63 : decode cX12_readLine 63 = .ok (.iload_n 1, 1) := by decide +kernel
theorem dX12_readLine_64 : decode cX12_readLine 64 = .ok (.iastore, 1) := by decide +kernel
theorem dX12_readLine_65 : decode cX12_readLine 65 = .ok (.aload_n 0, 1) := by decide +kernel
theorem dX12_readLine_66 : decode cX12_readLine 66 = .ok (.getfield 43, 3) := by decide +kernel
theorem dX12_readLine_69 : decode cX12_readLine 69 = .ok (.aload_n 0, 1) := by decide +kernel
theorem dX12_readLine_70 : decode cX12_readLine 70 = .ok (.getfield 299, 3) := by decide +kernel
theorem dX12_readLine_73 : decode cX12_readLine 73 = .ok (.aload_n 0, 1) := by decide +kernel
theorem dX12_readLine_74 : decode cX12_readLine 74 = .ok (.ldc2_w 149, 3) := by decide +kernel
theorem dX12_readLine_77 : decode cX12_readLine 77 = .ok (.invokevirtual 212, 3) := by decide +kernel
theorem dX12_readLine_80 : decode cX12_readLine 80 = .ok (.ifCond .eq 7, 3) := by decide +kernel
theorem dX12_readLine_83 : decode cX12_readLine 83 = .ok (.iconst 1, 1) := by decide +kernel
theorem dX12_readLine_84 : decode cX12_readLine 84 = .ok (.goto 4, 3) := by decide +kernel
theorem dX12_readLine_87 : decode cX12_readLine 87 = .ok (.iconst 0, 1) := by decide +kernel
theorem dX12_readLine_88 : decode cX12_readLine 88 = .ok (.iastore, 1) := by decide +kernel
theorem dX12_readLine_89 : decode cX12_readLine 89 = .ok (.aload_n 0, 1) := by decide +kernel
theorem dX12_readLine_90 : decode cX12_readLine 90 = .ok (.getfield 43, 3) := by decide +kernel
theorem dX12_readLine_93 : decode cX12_readLine 93 = .ok (.aload_n 0, 1) := by decide +kernel
theorem dX12_readLine_94 : decode cX12_readLine 94 = .ok (.getfield 299, 3) := by decide +kernel
theorem dX12_readLine_97 : decode cX12_readLine 97 = .ok (.iaload, 1) := by decide +kernel
theorem dX12_readLine_98 : decode cX12_readLine 98 = .ok (.iconst 1, 1) := by decide +kernel
theorem dX12_readLine_99 : decode cX12_readLine 99 = .ok (.if_icmp .ne 7, 3) := by decide +kernel
theorem dX12_readLine_102 : decode cX12_readLine 102 = .ok (.aload_n 0, 1) := by decide +kernel
theorem dX12_readLine_103 : decode cX12_readLine 103 = .ok (.invokevirtual 194, 3) := by decide +kernel
theorem dX12_readLine_106 : decode cX12_readLine 106 = .ok (.iconst 1, 1) := by decide +kernel
theorem dX12_readLine_107 : decode cX12_readLine 107 = .ok (.ireturn, 1) := by decide +kernel
theorem dX12_book_0 : decode cX12_book 0 = .ok (.aload_n 0, 1) := by decide +kernel
theorem dX12_book_1 : decode cX12_book 1 = .ok (.iconst 0, 1) := by decide +kernel
theorem dX12_book_2 : decode cX12_book 2 = .ok (.putfield 1, 3) := by decide +kernel
theorem dX12_book_5 : decode cX12_book 5 = .ok (.aload_n 0, 1) := by decide +kernel
theorem dX12_book_6 : decode cX12_book 6 = .ok (.sipush 600, 3) := by decide +kernel
theorem dX12_book_9 : decode cX12_book 9 = .ok (.invokevirtual 244, 3) := by decide +kernel
theorem dX12_book_12 : decode cX12_book 12 = .ok (.aload_n 0, 1) := by decide +kernel
theorem dX12_book_13 : decode cX12_book 13 = .ok (.iconst 0, 1) := by decide +kernel
theorem dX12_book_14 : decode cX12_book 14 = .ok (.putfield 182, 3) := by decide +kernel
theorem dX12_book_17 : decode cX12_book 17 = .ok (.aload_n 0, 1) := by decide +kernel
theorem dX12_book_18 : decode cX12_book 18 = .ok (.iconst 0, 1) := by decide +kernel
theorem dX12_book_19 : decode cX12_book 19 = .ok (.putfield 302, 3) := by decide +kernel
theorem dX12_book_22 : decode cX12_book 22 = .ok (.aload_n 0, 1) := by decide +kernel
theorem dX12_book_23 : decode cX12_book 23 = .ok (.iconst 0, 1) := by decide +kernel
theorem dX12_book_24 : decode cX12_book 24 = .ok (.putfield 299, 3) := by decide +kernel
theorem dX12_book_27 : decode cX12_book 27 = .ok (.aload_n 0, 1) := by decide +kernel
theorem dX12_book_28 : decode cX12_book 28 = .ok (.invokevirtual 194, 3) := by decide +kernel
theorem dX12_book_31 : decode cX12_book 31 = .ok (.aload_n 0, 1) := by decide +kernel
theorem dX12_book_32 : decode cX12_book 32 = .ok (.getfield 165, 3) := by decide +kernel
theorem dX12_book_35 : decode cX12_book 35 = .ok (.ifCond .eq 40, 3) := by decide +kernel
theorem dX12_book_38 : decode cX12_book 38 = .ok (.aload_n 0, 1) := by decide +kernel
theorem dX12_book_39 : decode cX12_book 39 = .ok (.invokevirtual 305, 3) := by decide +kernel
theorem dX12_book_42 : decode cX12_book 42 = .ok (.ifCond .eq 12, 3) := by decide +kernel
theorem dX12_book_45 : decode cX12_book 45 = .ok (.aload_n 0, 1) := by decide +kernel
theorem dX12_book_46 : decode cX12_book 46 = .ok (.bipush 59, 2) := by decide +kernel
theorem dX12_book_48 : decode cX12_book 48 = .ok (.invokevirtual 253, 3) := by decide +kernel
theorem dX12_book_51 : decode cX12_book 51 = .ok (.ifCond .ne 11, 3) := by decide +kernel
theorem dX12_book_54 : decode cX12_book 54 = .ok (.bipush (-2), 2) := by decide +kernel
theorem dX12_book_56 : decode cX12_book 56 = .ok (.aload_n 0, 1) := by decide +kernel
theorem dX12_book_57 : decode cX12_book 57 = .ok (.getfield 185, 3) := by decide +kernel
theorem dX12_book_60 : decode cX12_book 60 = .ok (.isub, 1) := by decide +kernel
theorem dX12_book_61 : decode cX12_book 61 = .ok (.ireturn, 1) := by decide +kernel
theorem dX12_book_62 : decode cX12_book 62 = .ok (.aload_n 0, 1) := by decide +kernel
theorem dX12_book_63 : decode cX12_book 63 = .ok (.dup, 1) := by decide +kernel
theorem dX12_book_64 : decode cX12_book 64 = .ok (.getfield 299, 3) := by decide +kernel
theorem dX12_book_67 : decode cX12_book 67 = .ok (.iconst 1, 1) := by decide +kernel
theorem dX12_book_68 : decode cX12_book 68 = .ok (.iadd, 1) := by decide +kernel
theorem dX12_book_69 : decode cX12_book 69 = .ok (.putfield 299, 3) := by decide +kernel
theorem dX12_book_72 : decode cX12_book 72 = .ok (.goto (-41), 3) := by decide +kernel
theorem dX12_book_75 : decode cX12_book 75 = .ok (.aload_n 0, 1) := by decide +kernel
theorem dX12_book_76 : decode cX12_book 76 = .ok (.getfield 33, 3) := by decide +kernel
theorem dX12_book_79 : decode cX12_book 79 = .ok (.iconst 3, 1) := by decide +kernel
theorem dX12_book_80 : decode cX12_book 80 = .ok (.iconst 0, 1) := by decide +kernel
theorem dX12_book_81 : decode cX12_book 81 = .ok (.iastore, 1) := by decide +kernel
theorem dX12_book_82 : decode cX12_book 82 = .ok (.iconst 0, 1) := by decide +kernel
theorem dX12_book_83 : decode cX12_book 83 = .ok (.istore_n 1, 1) := by decide +kernel
theorem dX12_book_84 : decode cX12_book 84 = .ok (.iload_n 1, 1) := by decide +kernel
theorem dX12_book_85 : decode cX12_book 85 = .ok (.aload_n 0, 1) := by decide +kernel
theorem dX12_book_86 : decode cX12_book 86 = .ok (.getfield 299, 3) := by decide +kernel
theorem dX12_book_89 : decode cX12_book 89 = .ok (.if_icmp .ge 54, 3) := by decide +kernel
theorem dX12_book_92 : decode cX12_book 92 = .ok (.aload_n 0, 1) := by decide +kernel
theorem dX12_book_93 : decode cX12_book 93 = .ok (.aload_n 0, 1) := by decide +kernel
theorem dX12_book_94 : decode cX12_book 94 = .ok (.aload_n 0, 1) := by decide +kernel
theorem dX12_book_95 : decode cX12_book 95 = .ok (.getfield 40, 3) := by decide +kernel
theorem dX12_book_98 : decode cX12_book 98 = .ok (.iload_n 1, 1) := by decide +kernel
theorem dX12_book_99 : decode cX12_book 99 = .ok (.iaload, 1) := by decide +kernel
theorem dX12_book_100 : decode cX12_book 100 = .ok (.aload_n 0, 1) := by decide +kernel
theorem dX12_book_101 : decode cX12_book 101 = .ok (.getfield 43, 3) := by decide +kernel
theorem dX12_book_104 : decode cX12_book 104 = .ok (.iload_n 1, 1) := by decide +kernel
theorem dX12_book_105 : decode cX12_book 105 = .ok (.iaload, 1) := by decide +kernel
theorem dX12_book_106 : decode cX12_book 106 = .ok (.invokevirtual 292, 3) := by decide +kernel
theorem dX12_book_109 : decode cX12_book 109 = .ok (.putfield 302, 3) := by decide +kernel
theorem dX12_book_112 : decode cX12_book 112 = .ok (.aload_n 0, 1) := by decide +kernel
theorem dX12_book_113 : decode cX12_book 113 = .ok (.getfield 302, 3) := by decide +kernel
theorem dX12_book_116 : decode cX12_book 116 = .ok (.ifCond .le 5, 3) := by decide +kernel
theorem dX12_book_119 : decode cX12_book 119 = .ok (.iload_n 1, 1) := by decide +kernel
theorem dX12_book_120 : decode cX12_book 120 = .ok (.ireturn, 1) := by decide +kernel
theorem dX12_book_121 : decode cX12_book 121 = .ok (.aload_n 0, 1) := by decide +kernel
theorem dX12_book_122 : decode cX12_book 122 = .ok (.aload_n 0, 1) := by decide +kernel
theorem dX12_book_123 : decode cX12_book 123 = .ok (.getfield 40, 3) := by decide +kernel
theorem dX12_book_126 : decode cX12_book 126 = .ok (.iload_n 1, 1) := by decide +kernel
theorem dX12_book_127 : decode cX12_book 127 = .ok (.iaload, 1) := by decide +kernel
theorem dX12_book_128 : decode cX12_book 128 = .ok (.aload_n 0, 1) := by decide +kernel
theorem dX12_book_129 : decode cX12_book 129 = .ok (.getfield 43, 3) := by decide +kernel
theorem dX12_book_132 : decode cX12_book 132 = .ok (.iload_n 1, 1) := by decide +kernel
theorem dX12_book_133 : decode cX12_book 133 = .ok (.iaload, 1) := by decide +kernel
theorem dX12_book_134 : decode cX12_book 134 = .ok (.invokevirtual 295, 3) := by decide +kernel
theorem dX12_book_137 : decode cX12_book 137 = .ok (.iinc 1 1, 3) := by decide +kernel
theorem dX12_book_140 : decode cX12_book 140 = .ok (.goto (-56), 3) := by decide +kernel
theorem dX12_book_143 : decode cX12_book 143 = .ok (.iconst (-1), 1) := by decide +kernel
theorem dX12_book_144 : decode cX12_book 144 = .ok (.ireturn, 1) := by decide +kernel
theorem dX12_why_0 : decode cX12_why 0 = .ok (.aload_n 0, 1) := by decide +kernel
theorem dX12_why_1 : decode cX12_why 1 = .ok (.iconst 0, 1) := by decide +kernel
theorem dX12_why_2 : decode cX12_why 2 = .ok (.putfield 1, 3) := by decide +kernel
theorem dX12_why_5 : decode cX12_why 5 = .ok (.aload_n 0, 1) := by decide +kernel
theorem dX12_why_6 : decode cX12_why 6 = .ok (.getfield 302, 3) := by decide +kernel
theorem dX12_why_9 : decode cX12_why 9 = .ok (.ireturn, 1) := by decide +kernel
theorem dX12_is_0 : decode cX12_is 0 = .ok (.aload_n 0, 1) := by decide +kernel
theorem dX12_is_1 : decode cX12_is 1 = .ok (.iconst 0, 1) := by decide +kernel
theorem dX12_is_2 : decode cX12_is 2 = .ok (.putfield 1, 3) := by decide +kernel
theorem dX12_is_5 : decode cX12_is 5 = .ok (.aload_n 0, 1) := by decide +kernel
theorem dX12_is_6 : decode cX12_is 6 = .ok (.iload_n 1, 1) := by decide +kernel
theorem dX12_is_7 : decode cX12_is 7 = .ok (.invokevirtual 256, 3) := by decide +kernel
theorem dX12_is_10 : decode cX12_is 10 = .ok (.ifCond .eq 13, 3) := by decide +kernel
theorem dX12_is_13 : decode cX12_is 13 = .ok (.iload_n 2, 1) := by decide +kernel
theorem dX12_is_14 : decode cX12_is 14 = .ok (.iconst 0, 1) := by decide +kernel
theorem dX12_is_15 : decode cX12_is 15 = .ok (.bipush 59, 2) := by decide +kernel
theorem dX12_is_17 : decode cX12_is 17 = .ok (.invokestatic 197, 3) := by decide +kernel
theorem dX12_is_20 : decode cX12_is 20 = .ok (.ifCond .ne 5, 3) := by decide +kernel
theorem dX12_is_23 : decode cX12_is 23 = .ok (.iconst (-1), 1) := by decide +kernel
theorem dX12_is_24 : decode cX12_is 24 = .ok (.ireturn, 1) := by decide +kernel
theorem dX12_is_25 : decode cX12_is 25 = .ok (.aload_n 0, 1) := by decide +kernel
theorem dX12_is_26 : decode cX12_is 26 = .ok (.iload_n 2, 1) := by decide +kernel
theorem dX12_is_27 : decode cX12_is 27 = .ok (.invokevirtual 286, 3) := by decide +kernel
theorem dX12_is_30 : decode cX12_is 30 = .ok (.aload_n 0, 1) := by decide +kernel
theorem dX12_is_31 : decode cX12_is 31 = .ok (.iload_n 1, 1) := by decide +kernel
theorem dX12_is_32 : decode cX12_is 32 = .ok (.iload_n 2, 1) := by decide +kernel
theorem dX12_is_33 : decode cX12_is 33 = .ok (.invokevirtual 283, 3) := by decide +kernel
theorem dX12_is_36 : decode cX12_is 36 = .ok (.ireturn, 1) := by decide +kernel
theorem dX12_may_0 : decode cX12_may 0 = .ok (.aload_n 0, 1) := by decide +kernel
theorem dX12_may_1 : decode cX12_may 1 = .ok (.iconst 0, 1) := by decide +kernel
theorem dX12_may_2 : decode cX12_may 2 = .ok (.putfield 1, 3) := by decide +kernel
theorem dX12_may_5 : decode cX12_may 5 = .ok (.iload_n 1, 1) := by decide +kernel
theorem dX12_may_6 : decode cX12_may 6 = .ok (.iconst 0, 1) := by decide +kernel
theorem dX12_may_7 : decode cX12_may 7 = .ok (.iconst 1, 1) := by decide +kernel
theorem dX12_may_8 : decode cX12_may 8 = .ok (.invokestatic 197, 3) := by decide +kernel
theorem dX12_may_11 : decode cX12_may 11 = .ok (.ifCond .ne 5, 3) := by decide +kernel
theorem dX12_may_14 : decode cX12_may 14 = .ok (.iconst (-1), 1) := by decide +kernel
theorem dX12_may_15 : decode cX12_may 15 = .ok (.ireturn, 1) := by decide +kernel
theorem dX12_may_16 : decode cX12_may 16 = .ok (.iconst 0, 1) := by decide +kernel
theorem dX12_may_17 : decode cX12_may 17 = .ok (.istore_n 2, 1) := by decide +kernel
theorem dX12_may_18 : decode cX12_may 18 = .ok (.iconst 0, 1) := by decide +kernel
theorem dX12_may_19 : decode cX12_may 19 = .ok (.istore_n 3, 1) := by decide +kernel
theorem dX12_may_20 : decode cX12_may 20 = .ok (.iload_n 3, 1) := by decide +kernel
theorem dX12_may_21 : decode cX12_may 21 = .ok (.aload_n 0, 1) := by decide +kernel
theorem dX12_may_22 : decode cX12_may 22 = .ok (.getfield 33, 3) := by decide +kernel
theorem dX12_may_25 : decode cX12_may 25 = .ok (.iconst 1, 1) := by decide +kernel
theorem dX12_may_26 : decode cX12_may 26 = .ok (.iaload, 1) := by decide +kernel
theorem dX12_may_27 : decode cX12_may 27 = .ok (.if_icmp .ge 28, 3) := by decide +kernel
theorem dX12_may_30 : decode cX12_may 30 = .ok (.iload_n 2, 1) := by decide +kernel
theorem dX12_may_31 : decode cX12_may 31 = .ok (.aload_n 0, 1) := by decide +kernel
theorem dX12_may_32 : decode cX12_may 32 = .ok (.iload_n 3, 1) := by decide +kernel
theorem dX12_may_33 : decode cX12_may 33 = .ok (.iload_n 1, 1) := by decide +kernel
theorem dX12_may_34 : decode cX12_may 34 = .ok (.invokevirtual 292, 3) := by decide +kernel
theorem dX12_may_37 : decode cX12_may 37 = .ok (.ifCond .ne 9, 3) := by decide +kernel
theorem dX12_may_40 : decode cX12_may 40 = .ok (.iconst 1, 1) := by decide +kernel
theorem dX12_may_41 : decode cX12_may 41 = .ok (.iload_n 3, 1) := by decide +kernel
theorem dX12_may_42 : decode cX12_may 42 = .ok (.ishl, 1) := by decide +kernel
theorem dX12_may_43 : decode cX12_may 43 = .ok (.goto 4, 3) := by decide +kernel
theorem dX12_may_46 : decode cX12_may 46 = .ok (.iconst 0, 1) := by decide +kernel
theorem dX12_may_47 : decode cX12_may 47 = .ok (.ior, 1) := by decide +kernel
theorem dX12_may_48 : decode cX12_may 48 = .ok (.istore_n 2, 1) := by decide +kernel
theorem dX12_may_49 : decode cX12_may 49 = .ok (.iinc 3 1, 3) := by decide +kernel
theorem dX12_may_52 : decode cX12_may 52 = .ok (.goto (-32), 3) := by decide +kernel
theorem dX12_may_55 : decode cX12_may 55 = .ok (.iload_n 2, 1) := by decide +kernel
theorem dX12_may_56 : decode cX12_may 56 = .ok (.ireturn, 1) := by decide +kernel
theorem dX12_had_0 : decode cX12_had 0 = .ok (.aload_n 0, 1) := by decide +kernel
theorem dX12_had_1 : decode cX12_had 1 = .ok (.iconst 0, 1) := by decide +kernel
theorem dX12_had_2 : decode cX12_had 2 = .ok (.putfield 1, 3) := by decide +kernel
theorem dX12_had_5 : decode cX12_had 5 = .ok (.aload_n 0, 1) := by decide +kernel
theorem dX12_had_6 : decode cX12_had 6 = .ok (.iload_n 1, 1) := by decide +kernel
theorem dX12_had_7 : decode cX12_had 7 = .ok (.invokevirtual 256, 3) := by decide +kernel
theorem dX12_had_10 : decode cX12_had 10 = .ok (.ifCond .ne 5, 3) := by decide +kernel
theorem dX12_had_13 : decode cX12_had 13 = .ok (.iconst (-1), 1) := by decide +kernel
theorem dX12_had_14 : decode cX12_had 14 = .ok (.ireturn, 1) := by decide +kernel
theorem dX12_had_15 : decode cX12_had 15 = .ok (.iconst 0, 1) := by decide +kernel
theorem dX12_had_16 : decode cX12_had 16 = .ok (.istore_n 2, 1) := by decide +kernel
theorem dX12_had_17 : decode cX12_had 17 = .ok (.iconst 0, 1) := by decide +kernel
theorem dX12_had_18 : decode cX12_had 18 = .ok (.istore_n 3, 1) := by decide +kernel
theorem dX12_had_19 : decode cX12_had 19 = .ok (.iload_n 3, 1) := by decide +kernel
theorem dX12_had_20 : decode cX12_had 20 = .ok (.aload_n 0, 1) := by decide +kernel
theorem dX12_had_21 : decode cX12_had 21 = .ok (.getfield 33, 3) := by decide +kernel
theorem dX12_had_24 : decode cX12_had 24 = .ok (.iconst 3, 1) := by decide +kernel
theorem dX12_had_25 : decode cX12_had 25 = .ok (.iaload, 1) := by decide +kernel
theorem dX12_had_26 : decode cX12_had 26 = .ok (.if_icmp .ge 27, 3) := by decide +kernel
theorem dX12_had_29 : decode cX12_had 29 = .ok (.iload_n 2, 1) := by decide +kernel
theorem dX12_had_30 : decode cX12_had 30 = .ok (.aload_n 0, 1) := by decide +kernel
theorem dX12_had_31 : decode cX12_had 31 = .ok (.aload_n 0, 1) := by decide +kernel
theorem dX12_had_32 : decode cX12_had 32 = .ok (.getfield 33, 3) := by decide +kernel
theorem dX12_had_35 : decode cX12_had 35 = .ok (.sipush 224, 3) := by decide +kernel
theorem dX12_had_38 : decode cX12_had 38 = .ok (.iload_n 3, 1) := by decide +kernel
theorem dX12_had_39 : decode cX12_had 39 = .ok (.iadd, 1) := by decide +kernel
theorem dX12_had_40 : decode cX12_had 40 = .ok (.iaload, 1) := by decide +kernel
theorem dX12_had_41 : decode cX12_had 41 = .ok (.iload_n 1, 1) := by decide +kernel
theorem dX12_had_42 : decode cX12_had 42 = .ok (.invokevirtual 308, 3) := by decide +kernel
theorem dX12_had_45 : decode cX12_had 45 = .ok (.iadd, 1) := by decide +kernel
theorem dX12_had_46 : decode cX12_had 46 = .ok (.istore_n 2, 1) := by decide +kernel
theorem dX12_had_47 : decode cX12_had 47 = .ok (.iinc 3 1, 3) := by decide +kernel
theorem dX12_had_50 : decode cX12_had 50 = .ok (.goto (-31), 3) := by decide +kernel
theorem dX12_had_53 : decode cX12_had 53 = .ok (.iload_n 2, 1) := by decide +kernel
theorem dX12_had_54 : decode cX12_had 54 = .ok (.ireturn, 1) := by decide +kernel
theorem dX12_gainOf_0 : decode cX12_gainOf 0 = .ok (.aload_n 0, 1) := by decide +kernel
theorem dX12_gainOf_1 : decode cX12_gainOf 1 = .ok (.iload_n 1, 1) := by decide +kernel
theorem dX12_gainOf_2 : decode cX12_gainOf 2 = .ok (.iconst 0, 1) := by decide +kernel
theorem dX12_gainOf_3 : decode cX12_gainOf 3 = .ok (.invokevirtual 266, 3) := by decide +kernel
theorem dX12_gainOf_6 : decode cX12_gainOf 6 = .ok (.iload_n 2, 1) := by decide +kernel
theorem dX12_gainOf_7 : decode cX12_gainOf 7 = .ok (.if_icmp .ne 12, 3) := by decide +kernel
theorem dX12_gainOf_10 : decode cX12_gainOf 10 = .ok (.aload_n 0, 1) := by decide +kernel
theorem dX12_gainOf_11 : decode cX12_gainOf 11 = .ok (.iload_n 1, 1) := by decide +kernel
theorem dX12_gainOf_12 : decode cX12_gainOf 12 = .ok (.iconst 3, 1) := by decide +kernel
theorem dX12_gainOf_13 : decode cX12_gainOf 13 = .ok (.invokevirtual 266, 3) := by decide +kernel
theorem dX12_gainOf_16 : decode cX12_gainOf 16 = .ok (.goto 23, 3) := by decide +kernel
theorem dX12_gainOf_19 : decode cX12_gainOf 19 = .ok (.aload_n 0, 1) := by decide +kernel
theorem dX12_gainOf_20 : decode cX12_gainOf 20 = .ok (.iload_n 1, 1) := by decide +kernel
theorem dX12_gainOf_21 : decode cX12_gainOf 21 = .ok (.iconst 1, 1) := by decide +kernel
theorem dX12_gainOf_22 : decode cX12_gainOf 22 = .ok (.invokevirtual 266, 3) := by decide +kernel
theorem dX12_gainOf_25 : decode cX12_gainOf 25 = .ok (.iload_n 2, 1) := by decide +kernel
theorem dX12_gainOf_26 : decode cX12_gainOf 26 = .ok (.if_icmp .ne 12, 3) := by decide +kernel
theorem dX12_gainOf_29 : decode cX12_gainOf 29 = .ok (.aload_n 0, 1) := by decide +kernel
theorem dX12_gainOf_30 : decode cX12_gainOf 30 = .ok (.iload_n 1, 1) := by decide +kernel
theorem dX12_gainOf_31 : decode cX12_gainOf 31 = .ok (.iconst 4, 1) := by decide +kernel
theorem dX12_gainOf_32 : decode cX12_gainOf 32 = .ok (.invokevirtual 266, 3) := by decide +kernel
theorem dX12_gainOf_35 : decode cX12_gainOf 35 = .ok (.goto 4, 3) := by decide +kernel
theorem dX12_gainOf_38 : decode cX12_gainOf 38 = .ok (.iconst 0, 1) := by decide +kernel
theorem dX12_gainOf_39 : decode cX12_gainOf 39 = .ok (.ireturn, 1) := by decide +kernel
theorem dX12_goesAs_0 : decode cX12_goesAs 0 = .ok (.iload_n 2, 1) := by decide +kernel
theorem dX12_goesAs_1 : decode cX12_goesAs 1 = .ok (.aload_n 0, 1) := by decide +kernel
theorem dX12_goesAs_2 : decode cX12_goesAs 2 = .ok (.iload_n 1, 1) := by decide +kernel
theorem dX12_goesAs_3 : decode cX12_goesAs 3 = .ok (.iconst 0, 1) := by decide +kernel
theorem dX12_goesAs_4 : decode cX12_goesAs 4 = .ok (.invokevirtual 266, 3) := by decide +kernel
theorem dX12_goesAs_7 : decode cX12_goesAs 7 = .ok (.invokestatic 235, 3) := by decide +kernel
theorem dX12_goesAs_10 : decode cX12_goesAs 10 = .ok (.istore_n 3, 1) := by decide +kernel
theorem dX12_goesAs_11 : decode cX12_goesAs 11 = .ok (.iload_n 2, 1) := by decide +kernel
theorem dX12_goesAs_12 : decode cX12_goesAs 12 = .ok (.aload_n 0, 1) := by decide +kernel
theorem dX12_goesAs_13 : decode cX12_goesAs 13 = .ok (.iload_n 1, 1) := by decide +kernel
theorem dX12_goesAs_14 : decode cX12_goesAs 14 = .ok (.iconst 1, 1) := by decide +kernel
theorem dX12_goesAs_15 : decode cX12_goesAs 15 = .ok (.invokevirtual 266, 3) := by decide +kernel
theorem dX12_goesAs_18 : decode cX12_goesAs 18 = .ok (.invokestatic 235, 3) := by decide +kernel
theorem dX12_goesAs_21 : decode cX12_goesAs 21 = .ok (.istore 4, 2) := by decide +kernel
theorem dX12_goesAs_23 : decode cX12_goesAs 23 = .ok (.iload_n 3, 1) := by decide +kernel
theorem dX12_goesAs_24 : decode cX12_goesAs 24 = .ok (.ifCond .eq 12, 3) := by decide +kernel
theorem dX12_goesAs_27 : decode cX12_goesAs 27 = .ok (.iload 4, 2) := by decide +kernel
theorem dX12_goesAs_29 : decode cX12_goesAs 29 = .ok (.ifCond .ne 7, 3) := by decide +kernel
theorem dX12_goesAs_32 : decode cX12_goesAs 32 = .ok (.iconst 1, 1) := by decide +kernel
theorem dX12_goesAs_33 : decode cX12_goesAs 33 = .ok (.goto 27, 3) := by decide +kernel
theorem dX12_goesAs_36 : decode cX12_goesAs 36 = .ok (.iload 4, 2) := by decide +kernel
theorem dX12_goesAs_38 : decode cX12_goesAs 38 = .ok (.ifCond .eq 21, 3) := by decide +kernel
theorem dX12_goesAs_41 : decode cX12_goesAs 41 = .ok (.iload_n 3, 1) := by decide +kernel
theorem dX12_goesAs_42 : decode cX12_goesAs 42 = .ok (.ifCond .ne 17, 3) := by decide +kernel
theorem dX12_goesAs_45 : decode cX12_goesAs 45 = .ok (.aload_n 0, 1) := by decide +kernel
theorem dX12_goesAs_46 : decode cX12_goesAs 46 = .ok (.iload_n 1, 1) := by decide +kernel
theorem dX12_goesAs_47 : decode cX12_goesAs 47 = .ok (.iconst 5, 1) := by decide +kernel
theorem dX12_goesAs_48 : decode cX12_goesAs 48 = .ok (.invokevirtual 266, 3) := by decide +kernel
theorem dX12_goesAs_51 : decode cX12_goesAs 51 = .ok (.iconst 1, 1) := by decide +kernel
theorem dX12_goesAs_52 : decode cX12_goesAs 52 = .ok (.if_icmp .ne 7, 3) := by decide +kernel
theorem dX12_goesAs_55 : decode cX12_goesAs 55 = .ok (.iconst 2, 1) := by decide +kernel
theorem dX12_goesAs_56 : decode cX12_goesAs 56 = .ok (.goto 4, 3) := by decide +kernel
theorem dX12_goesAs_59 : decode cX12_goesAs 59 = .ok (.iconst 0, 1) := by decide +kernel
theorem dX12_goesAs_60 : decode cX12_goesAs 60 = .ok (.ireturn, 1) := by decide +kernel
theorem dX12_mostOf_0 : decode cX12_mostOf 0 = .ok (.iconst 0, 1) := by decide +kernel
theorem dX12_mostOf_1 : decode cX12_mostOf 1 = .ok (.istore_n 1, 1) := by decide +kernel
theorem dX12_mostOf_2 : decode cX12_mostOf 2 = .ok (.iload_n 1, 1) := by decide +kernel
theorem dX12_mostOf_3 : decode cX12_mostOf 3 = .ok (.bipush 10, 2) := by decide +kernel
theorem dX12_mostOf_5 : decode cX12_mostOf 5 = .ok (.if_icmp .ge 16, 3) := by decide +kernel
theorem dX12_mostOf_8 : decode cX12_mostOf 8 = .ok (.aload_n 0, 1) := by decide +kernel
theorem dX12_mostOf_9 : decode cX12_mostOf 9 = .ok (.getfield 65, 3) := by decide +kernel
