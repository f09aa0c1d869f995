/-! DECODE ROWS: printed by wip/whole/gen/words.py -/
theorem d_Mo_access_0 : decode b_Mo_access 0 = .ok (.aload_n 0, 1) := by decide +kernel
theorem d_Mo_access_1 : decode b_Mo_access 1 = .ok (.iload_n 1, 1) := by decide +kernel
theorem d_Mo_access_2 : decode b_Mo_access 2 = .ok (.iconst 0, 1) := by decide +kernel
theorem d_Mo_access_3 : decode b_Mo_access 3 = .ok (.iconst 1, 1) := by decide +kernel
theorem d_Mo_access_4 : decode b_Mo_access 4 = .ok (.invokestatic 63, 3) := by decide +kernel
theorem d_Mo_access_7 : decode b_Mo_access 7 = .ok (.ifCond .eq 12, 3) := by decide +kernel
theorem d_Mo_access_10 : decode b_Mo_access 10 = .ok (.iload_n 3, 1) := by decide +kernel
theorem d_Mo_access_11 : decode b_Mo_access 11 = .ok (.iconst 0, 1) := by decide +kernel
theorem d_Mo_access_12 : decode b_Mo_access 12 = .ok (.iconst 2, 1) := by decide +kernel
theorem d_Mo_access_13 : decode b_Mo_access 13 = .ok (.invokestatic 63, 3) := by decide +kernel
theorem d_Mo_access_16 : decode b_Mo_access 16 = .ok (.ifCond .ne 7, 3) := by decide +kernel
theorem d_Mo_access_19 : decode b_Mo_access 19 = .ok (.iconst 1, 1) := by decide +kernel
theorem d_Mo_access_20 : decode b_Mo_access 20 = .ok (.goto 24, 3) := by decide +kernel
theorem d_Mo_access_23 : decode b_Mo_access 23 = .ok (.iload_n 2, 1) := by decide +kernel
theorem d_Mo_access_24 : decode b_Mo_access 24 = .ok (.iconst 0, 1) := by decide +kernel
theorem d_Mo_access_25 : decode b_Mo_access 25 = .ok (.aload_n 0, 1) := by decide +kernel
theorem d_Mo_access_26 : decode b_Mo_access 26 = .ok (.getfield 53, 3) := by decide +kernel
theorem d_Mo_access_29 : decode b_Mo_access 29 = .ok (.iload_n 1, 1) := by decide +kernel
theorem d_Mo_access_30 : decode b_Mo_access 30 = .ok (.iaload, 1) := by decide +kernel
theorem d_Mo_access_31 : decode b_Mo_access 31 = .ok (.iconst 1, 1) := by decide +kernel
theorem d_Mo_access_32 : decode b_Mo_access 32 = .ok (.isub, 1) := by decide +kernel
theorem d_Mo_access_33 : decode b_Mo_access 33 = .ok (.invokestatic 63, 3) := by decide +kernel
theorem d_Mo_access_36 : decode b_Mo_access 36 = .ok (.ifCond .ne 7, 3) := by decide +kernel
theorem d_Mo_access_39 : decode b_Mo_access 39 = .ok (.iconst 2, 1) := by decide +kernel
theorem d_Mo_access_40 : decode b_Mo_access 40 = .ok (.goto 4, 3) := by decide +kernel
theorem d_Mo_access_43 : decode b_Mo_access 43 = .ok (.iconst 0, 1) := by decide +kernel
theorem d_Mo_access_44 : decode b_Mo_access 44 = .ok (.putfield 59, 3) := by decide +kernel
theorem d_Mo_access_47 : decode b_Mo_access 47 = .ok (.aload_n 0, 1) := by decide +kernel
theorem d_Mo_access_48 : decode b_Mo_access 48 = .ok (.getfield 59, 3) := by decide +kernel
theorem d_Mo_access_51 : decode b_Mo_access 51 = .ok (.ifCond .le 7, 3) := by decide +kernel
theorem d_Mo_access_54 : decode b_Mo_access 54 = .ok (.iconst 0, 1) := by decide +kernel
theorem d_Mo_access_55 : decode b_Mo_access 55 = .ok (.goto 18, 3) := by decide +kernel
theorem d_Mo_access_58 : decode b_Mo_access 58 = .ok (.aload_n 0, 1) := by decide +kernel
theorem d_Mo_access_59 : decode b_Mo_access 59 = .ok (.getfield 56, 3) := by decide +kernel
theorem d_Mo_access_62 : decode b_Mo_access 62 = .ok (.bipush 120, 2) := by decide +kernel
theorem d_Mo_access_64 : decode b_Mo_access 64 = .ok (.iload_n 1, 1) := by decide +kernel
theorem d_Mo_access_65 : decode b_Mo_access 65 = .ok (.imul, 1) := by decide +kernel
theorem d_Mo_access_66 : decode b_Mo_access 66 = .ok (.iconst 3, 1) := by decide +kernel
theorem d_Mo_access_67 : decode b_Mo_access 67 = .ok (.iload_n 2, 1) := by decide +kernel
theorem d_Mo_access_68 : decode b_Mo_access 68 = .ok (.imul, 1) := by decide +kernel
theorem d_Mo_access_69 : decode b_Mo_access 69 = .ok (.iadd, 1) := by decide +kernel
theorem d_Mo_access_70 : decode b_Mo_access 70 = .ok (.iload_n 3, 1) := by decide +kernel
theorem d_Mo_access_71 : decode b_Mo_access 71 = .ok (.iadd, 1) := by decide +kernel
theorem d_Mo_access_72 : decode b_Mo_access 72 = .ok (.iaload, 1) := by decide +kernel
theorem d_Mo_access_73 : decode b_Mo_access 73 = .ok (.ireturn, 1) := by decide +kernel
theorem d_Mo_add_0 : decode b_Mo_add 0 = .ok (.iload_n 1, 1) := by decide +kernel
theorem d_Mo_add_1 : decode b_Mo_add 1 = .ok (.iconst 0, 1) := by decide +kernel
theorem d_Mo_add_2 : decode b_Mo_add 2 = .ok (.bipush 15, 2) := by decide +kernel
theorem d_Mo_add_4 : decode b_Mo_add 4 = .ok (.invokestatic 63, 3) := by decide +kernel
theorem d_Mo_add_7 : decode b_Mo_add 7 = .ok (.ifCond .eq 39, 3) := by decide +kernel
theorem d_Mo_add_10 : decode b_Mo_add 10 = .ok (.iload_n 2, 1) := by decide +kernel
theorem d_Mo_add_11 : decode b_Mo_add 11 = .ok (.iconst 0, 1) := by decide +kernel
theorem d_Mo_add_12 : decode b_Mo_add 12 = .ok (.bipush 7, 2) := by decide +kernel
theorem d_Mo_add_14 : decode b_Mo_add 14 = .ok (.invokestatic 63, 3) := by decide +kernel
theorem d_Mo_add_17 : decode b_Mo_add 17 = .ok (.ifCond .eq 29, 3) := by decide +kernel
theorem d_Mo_add_20 : decode b_Mo_add 20 = .ok (.iload_n 3, 1) := by decide +kernel
theorem d_Mo_add_21 : decode b_Mo_add 21 = .ok (.iconst 0, 1) := by decide +kernel
theorem d_Mo_add_22 : decode b_Mo_add 22 = .ok (.bipush 7, 2) := by decide +kernel
theorem d_Mo_add_24 : decode b_Mo_add 24 = .ok (.invokestatic 63, 3) := by decide +kernel
theorem d_Mo_add_27 : decode b_Mo_add 27 = .ok (.ifCond .eq 19, 3) := by decide +kernel
theorem d_Mo_add_30 : decode b_Mo_add 30 = .ok (.iload 4, 2) := by decide +kernel
theorem d_Mo_add_32 : decode b_Mo_add 32 = .ok (.bipush (-128), 2) := by decide +kernel
theorem d_Mo_add_34 : decode b_Mo_add 34 = .ok (.bipush 127, 2) := by decide +kernel
theorem d_Mo_add_36 : decode b_Mo_add 36 = .ok (.invokestatic 63, 3) := by decide +kernel
theorem d_Mo_add_39 : decode b_Mo_add 39 = .ok (.ifCond .eq 7, 3) := by decide +kernel
theorem d_Mo_add_42 : decode b_Mo_add 42 = .ok (.iconst 1, 1) := by decide +kernel
theorem d_Mo_add_43 : decode b_Mo_add 43 = .ok (.goto 4, 3) := by decide +kernel
theorem d_Mo_add_46 : decode b_Mo_add 46 = .ok (.iconst 0, 1) := by decide +kernel
theorem d_Mo_add_47 : decode b_Mo_add 47 = .ok (.istore 5, 2) := by decide +kernel
theorem d_Mo_add_49 : decode b_Mo_add 49 = .ok (.aload_n 0, 1) := by decide +kernel
theorem d_Mo_add_50 : decode b_Mo_add 50 = .ok (.iload 5, 2) := by decide +kernel
theorem d_Mo_add_52 : decode b_Mo_add 52 = .ok (.ifCond .ne 7, 3) := by decide +kernel
theorem d_Mo_add_55 : decode b_Mo_add 55 = .ok (.iconst 1, 1) := by decide +kernel
theorem d_Mo_add_56 : decode b_Mo_add 56 = .ok (.goto 17, 3) := by decide +kernel
theorem d_Mo_add_59 : decode b_Mo_add 59 = .ok (.aload_n 0, 1) := by decide +kernel
theorem d_Mo_add_60 : decode b_Mo_add 60 = .ok (.getfield 67, 3) := by decide +kernel
theorem d_Mo_add_63 : decode b_Mo_add 63 = .ok (.bipush 24, 2) := by decide +kernel
theorem d_Mo_add_65 : decode b_Mo_add 65 = .ok (.if_icmp .ne 7, 3) := by decide +kernel
theorem d_Mo_add_68 : decode b_Mo_add 68 = .ok (.iconst 2, 1) := by decide +kernel
theorem d_Mo_add_69 : decode b_Mo_add 69 = .ok (.goto 4, 3) := by decide +kernel
theorem d_Mo_add_72 : decode b_Mo_add 72 = .ok (.iconst 0, 1) := by decide +kernel
theorem d_Mo_add_73 : decode b_Mo_add 73 = .ok (.putfield 59, 3) := by decide +kernel
theorem d_Mo_add_76 : decode b_Mo_add 76 = .ok (.aload_n 0, 1) := by decide +kernel
theorem d_Mo_add_77 : decode b_Mo_add 77 = .ok (.getfield 59, 3) := by decide +kernel
theorem d_Mo_add_80 : decode b_Mo_add 80 = .ok (.ifCond .le 5, 3) := by decide +kernel
theorem d_Mo_add_83 : decode b_Mo_add 83 = .ok (.iconst 0, 1) := by decide +kernel
theorem d_Mo_add_84 : decode b_Mo_add 84 = .ok (.ireturn, 1) := by decide +kernel
theorem d_Mo_add_85 : decode b_Mo_add 85 = .ok (.aload_n 0, 1) := by decide +kernel
theorem d_Mo_add_86 : decode b_Mo_add 86 = .ok (.getfield 7, 3) := by decide +kernel
theorem d_Mo_add_89 : decode b_Mo_add 89 = .ok (.aload_n 0, 1) := by decide +kernel
theorem d_Mo_add_90 : decode b_Mo_add 90 = .ok (.getfield 67, 3) := by decide +kernel
theorem d_Mo_add_93 : decode b_Mo_add 93 = .ok (.iload_n 1, 1) := by decide +kernel
theorem d_Mo_add_94 : decode b_Mo_add 94 = .ok (.iastore, 1) := by decide +kernel
theorem d_Mo_add_95 : decode b_Mo_add 95 = .ok (.aload_n 0, 1) := by decide +kernel
theorem d_Mo_add_96 : decode b_Mo_add 96 = .ok (.getfield 13, 3) := by decide +kernel
theorem d_Mo_add_99 : decode b_Mo_add 99 = .ok (.aload_n 0, 1) := by decide +kernel
theorem d_Mo_add_100 : decode b_Mo_add 100 = .ok (.getfield 67, 3) := by decide +kernel
theorem d_Mo_add_103 : decode b_Mo_add 103 = .ok (.iload_n 2, 1) := by decide +kernel
theorem d_Mo_add_104 : decode b_Mo_add 104 = .ok (.iastore, 1) := by decide +kernel
theorem d_Mo_add_105 : decode b_Mo_add 105 = .ok (.aload_n 0, 1) := by decide +kernel
theorem d_Mo_add_106 : decode b_Mo_add 106 = .ok (.getfield 16, 3) := by decide +kernel
theorem d_Mo_add_109 : decode b_Mo_add 109 = .ok (.aload_n 0, 1) := by decide +kernel
theorem d_Mo_add_110 : decode b_Mo_add 110 = .ok (.getfield 67, 3) := by decide +kernel
theorem d_Mo_add_113 : decode b_Mo_add 113 = .ok (.iload_n 3, 1) := by decide +kernel
theorem d_Mo_add_114 : decode b_Mo_add 114 = .ok (.iastore, 1) := by decide +kernel
theorem d_Mo_add_115 : decode b_Mo_add 115 = .ok (.aload_n 0, 1) := by decide +kernel
theorem d_Mo_add_116 : decode b_Mo_add 116 = .ok (.getfield 19, 3) := by decide +kernel
theorem d_Mo_add_119 : decode b_Mo_add 119 = .ok (.aload_n 0, 1) := by decide +kernel
theorem d_Mo_add_120 : decode b_Mo_add 120 = .ok (.getfield 67, 3) := by decide +kernel
theorem d_Mo_add_123 : decode b_Mo_add 123 = .ok (.iload 4, 2) := by decide +kernel
theorem d_Mo_add_125 : decode b_Mo_add 125 = .ok (.iastore, 1) := by decide +kernel
theorem d_Mo_add_126 : decode b_Mo_add 126 = .ok (.aload_n 0, 1) := by decide +kernel
theorem d_Mo_add_127 : decode b_Mo_add 127 = .ok (.dup, 1) := by decide +kernel
theorem d_Mo_add_128 : decode b_Mo_add 128 = .ok (.getfield 67, 3) := by decide +kernel
theorem d_Mo_add_131 : decode b_Mo_add 131 = .ok (.iconst 1, 1) := by decide +kernel
theorem d_Mo_add_132 : decode b_Mo_add 132 = .ok (.iadd, 1) := by decide +kernel
theorem d_Mo_add_133 : decode b_Mo_add 133 = .ok (.putfield 67, 3) := by decide +kernel
theorem d_Mo_add_136 : decode b_Mo_add 136 = .ok (.aload_n 0, 1) := by decide +kernel
theorem d_Mo_add_137 : decode b_Mo_add 137 = .ok (.invokevirtual 70, 3) := by decide +kernel
theorem d_Mo_add_140 : decode b_Mo_add 140 = .ok (.aload_n 0, 1) := by decide +kernel
theorem d_Mo_add_141 : decode b_Mo_add 141 = .ok (.getfield 67, 3) := by decide +kernel
theorem d_Mo_add_144 : decode b_Mo_add 144 = .ok (.iconst 1, 1) := by decide +kernel
theorem d_Mo_add_145 : decode b_Mo_add 145 = .ok (.isub, 1) := by decide +kernel
theorem d_Mo_add_146 : decode b_Mo_add 146 = .ok (.ireturn, 1) := by decide +kernel
theorem d_Mo_address_0 : decode b_Mo_address 0 = .ok (.aload_n 0, 1) := by decide +kernel
theorem d_Mo_address_1 : decode b_Mo_address 1 = .ok (.aload_n 0, 1) := by decide +kernel
theorem d_Mo_address_2 : decode b_Mo_address 2 = .ok (.getfield 16, 3) := by decide +kernel
theorem d_Mo_address_5 : decode b_Mo_address 5 = .ok (.iload_n 1, 1) := by decide +kernel
theorem d_Mo_address_6 : decode b_Mo_address 6 = .ok (.iaload, 1) := by decide +kernel
theorem d_Mo_address_7 : decode b_Mo_address 7 = .ok (.iconst 4, 1) := by decide +kernel
theorem d_Mo_address_8 : decode b_Mo_address 8 = .ok (.invokevirtual 99, 3) := by decide +kernel
theorem d_Mo_address_11 : decode b_Mo_address 11 = .ok (.istore_n 2, 1) := by decide +kernel
theorem d_Mo_address_12 : decode b_Mo_address 12 = .ok (.aload_n 0, 1) := by decide +kernel
theorem d_Mo_address_13 : decode b_Mo_address 13 = .ok (.iconst 5, 1) := by decide +kernel
theorem d_Mo_address_14 : decode b_Mo_address 14 = .ok (.iconst 5, 1) := by decide +kernel
theorem d_Mo_address_15 : decode b_Mo_address 15 = .ok (.iload_n 2, 1) := by decide +kernel
theorem d_Mo_address_16 : decode b_Mo_address 16 = .ok (.aload_n 0, 1) := by decide +kernel
theorem d_Mo_address_17 : decode b_Mo_address 17 = .ok (.getfield 19, 3) := by decide +kernel
theorem d_Mo_address_20 : decode b_Mo_address 20 = .ok (.iload_n 1, 1) := by decide +kernel
theorem d_Mo_address_21 : decode b_Mo_address 21 = .ok (.iaload, 1) := by decide +kernel
theorem d_Mo_address_22 : decode b_Mo_address 22 = .ok (.invokevirtual 95, 3) := by decide +kernel
theorem d_Mo_address_25 : decode b_Mo_address 25 = .ok (.aload_n 0, 1) := by decide +kernel
theorem d_Mo_address_26 : decode b_Mo_address 26 = .ok (.iconst 5, 1) := by decide +kernel
theorem d_Mo_address_27 : decode b_Mo_address 27 = .ok (.iconst 4, 1) := by decide +kernel
theorem d_Mo_address_28 : decode b_Mo_address 28 = .ok (.iconst 0, 1) := by decide +kernel
theorem d_Mo_address_29 : decode b_Mo_address 29 = .ok (.bipush 32, 2) := by decide +kernel
theorem d_Mo_address_31 : decode b_Mo_address 31 = .ok (.invokevirtual 95, 3) := by decide +kernel
theorem d_Mo_address_34 : decode b_Mo_address 34 = .ok (.aload_n 0, 1) := by decide +kernel
theorem d_Mo_address_35 : decode b_Mo_address 35 = .ok (.bipush 12, 2) := by decide +kernel
theorem d_Mo_address_37 : decode b_Mo_address 37 = .ok (.iconst 5, 1) := by decide +kernel
theorem d_Mo_address_38 : decode b_Mo_address 38 = .ok (.iconst 4, 1) := by decide +kernel
theorem d_Mo_address_39 : decode b_Mo_address 39 = .ok (.aload_n 0, 1) := by decide +kernel
theorem d_Mo_address_40 : decode b_Mo_address 40 = .ok (.getfield 67, 3) := by decide +kernel
theorem d_Mo_address_43 : decode b_Mo_address 43 = .ok (.invokevirtual 103, 3) := by decide +kernel
theorem d_Mo_address_46 : decode b_Mo_address 46 = .ok (.return_, 1) := by decide +kernel
theorem d_Mo_begin_0 : decode b_Mo_begin 0 = .ok (.iconst 0, 1) := by decide +kernel
theorem d_Mo_begin_1 : decode b_Mo_begin 1 = .ok (.istore_n 2, 1) := by decide +kernel
theorem d_Mo_begin_2 : decode b_Mo_begin 2 = .ok (.iload_n 2, 1) := by decide +kernel
theorem d_Mo_begin_3 : decode b_Mo_begin 3 = .ok (.bipush 8, 2) := by decide +kernel
theorem d_Mo_begin_5 : decode b_Mo_begin 5 = .ok (.if_icmp .ge 39, 3) := by decide +kernel
theorem d_Mo_begin_8 : decode b_Mo_begin 8 = .ok (.aload_n 0, 1) := by decide +kernel
theorem d_Mo_begin_9 : decode b_Mo_begin 9 = .ok (.getfield 38, 3) := by decide +kernel
theorem d_Mo_begin_12 : decode b_Mo_begin 12 = .ok (.bipush 8, 2) := by decide +kernel
theorem d_Mo_begin_14 : decode b_Mo_begin 14 = .ok (.iload_n 1, 1) := by decide +kernel
theorem d_Mo_begin_15 : decode b_Mo_begin 15 = .ok (.imul, 1) := by decide +kernel
theorem d_Mo_begin_16 : decode b_Mo_begin 16 = .ok (.iload_n 2, 1) := by decide +kernel
theorem d_Mo_begin_17 : decode b_Mo_begin 17 = .ok (.iadd, 1) := by decide +kernel
theorem d_Mo_begin_18 : decode b_Mo_begin 18 = .ok (.iload_n 1, 1) := by decide +kernel
theorem d_Mo_begin_19 : decode b_Mo_begin 19 = .ok (.ifCond .eq 8, 3) := by decide +kernel
theorem d_Mo_begin_22 : decode b_Mo_begin 22 = .ok (.iload_n 2, 1) := by decide +kernel
theorem d_Mo_begin_23 : decode b_Mo_begin 23 = .ok (.iconst 4, 1) := by decide +kernel
theorem d_Mo_begin_24 : decode b_Mo_begin 24 = .ok (.if_icmp .ge 12, 3) := by decide +kernel
theorem d_Mo_begin_27 : decode b_Mo_begin 27 = .ok (.aload_n 0, 1) := by decide +kernel
theorem d_Mo_begin_28 : decode b_Mo_begin 28 = .ok (.getfield 32, 3) := by decide +kernel
theorem d_Mo_begin_31 : decode b_Mo_begin 31 = .ok (.iload_n 2, 1) := by decide +kernel
theorem d_Mo_begin_32 : decode b_Mo_begin 32 = .ok (.iaload, 1) := by decide +kernel
theorem d_Mo_begin_33 : decode b_Mo_begin 33 = .ok (.goto 4, 3) := by decide +kernel
theorem d_Mo_begin_36 : decode b_Mo_begin 36 = .ok (.iconst 0, 1) := by decide +kernel
theorem d_Mo_begin_37 : decode b_Mo_begin 37 = .ok (.iastore, 1) := by decide +kernel
theorem d_Mo_begin_38 : decode b_Mo_begin 38 = .ok (.iinc 2 1, 3) := by decide +kernel
theorem d_Mo_begin_41 : decode b_Mo_begin 41 = .ok (.goto (-39), 3) := by decide +kernel
theorem d_Mo_begin_44 : decode b_Mo_begin 44 = .ok (.iconst 0, 1) := by decide +kernel
theorem d_Mo_begin_45 : decode b_Mo_begin 45 = .ok (.istore_n 2, 1) := by decide +kernel
theorem d_Mo_begin_46 : decode b_Mo_begin 46 = .ok (.iload_n 2, 1) := by decide +kernel
theorem d_Mo_begin_47 : decode b_Mo_begin 47 = .ok (.bipush 64, 2) := by decide +kernel
theorem d_Mo_begin_49 : decode b_Mo_begin 49 = .ok (.if_icmp .ge 36, 3) := by decide +kernel
theorem d_Mo_begin_52 : decode b_Mo_begin 52 = .ok (.aload_n 0, 1) := by decide +kernel
theorem d_Mo_begin_53 : decode b_Mo_begin 53 = .ok (.getfield 41, 3) := by decide +kernel
theorem d_Mo_begin_56 : decode b_Mo_begin 56 = .ok (.bipush 64, 2) := by decide +kernel
theorem d_Mo_begin_58 : decode b_Mo_begin 58 = .ok (.iload_n 1, 1) := by decide +kernel
theorem d_Mo_begin_59 : decode b_Mo_begin 59 = .ok (.imul, 1) := by decide +kernel
theorem d_Mo_begin_60 : decode b_Mo_begin 60 = .ok (.iload_n 2, 1) := by decide +kernel
theorem d_Mo_begin_61 : decode b_Mo_begin 61 = .ok (.iadd, 1) := by decide +kernel
theorem d_Mo_begin_62 : decode b_Mo_begin 62 = .ok (.iload_n 2, 1) := by decide +kernel
theorem d_Mo_begin_63 : decode b_Mo_begin 63 = .ok (.bipush 32, 2) := by decide +kernel
theorem d_Mo_begin_65 : decode b_Mo_begin 65 = .ok (.if_icmp .ge 12, 3) := by decide +kernel
theorem d_Mo_begin_68 : decode b_Mo_begin 68 = .ok (.aload_n 0, 1) := by decide +kernel
theorem d_Mo_begin_69 : decode b_Mo_begin 69 = .ok (.getfield 35, 3) := by decide +kernel
theorem d_Mo_begin_72 : decode b_Mo_begin 72 = .ok (.iload_n 2, 1) := by decide +kernel
theorem d_Mo_begin_73 : decode b_Mo_begin 73 = .ok (.iaload, 1) := by decide +kernel
theorem d_Mo_begin_74 : decode b_Mo_begin 74 = .ok (.goto 4, 3) := by decide +kernel
theorem d_Mo_begin_77 : decode b_Mo_begin 77 = .ok (.iconst 0, 1) := by decide +kernel
theorem d_Mo_begin_78 : decode b_Mo_begin 78 = .ok (.iastore, 1) := by decide +kernel
theorem d_Mo_begin_79 : decode b_Mo_begin 79 = .ok (.iinc 2 1, 3) := by decide +kernel
theorem d_Mo_begin_82 : decode b_Mo_begin 82 = .ok (.goto (-36), 3) := by decide +kernel
theorem d_Mo_begin_85 : decode b_Mo_begin 85 = .ok (.iconst 4, 1) := by decide +kernel
theorem d_Mo_begin_86 : decode b_Mo_begin 86 = .ok (.istore_n 2, 1) := by decide +kernel
theorem d_Mo_begin_87 : decode b_Mo_begin 87 = .ok (.iload_n 2, 1) := by decide +kernel
theorem d_Mo_begin_88 : decode b_Mo_begin 88 = .ok (.bipush 8, 2) := by decide +kernel
theorem d_Mo_begin_90 : decode b_Mo_begin 90 = .ok (.if_icmp .ge 29, 3) := by decide +kernel
theorem d_Mo_begin_93 : decode b_Mo_begin 93 = .ok (.iload_n 1, 1) := by decide +kernel
theorem d_Mo_begin_94 : decode b_Mo_begin 94 = .ok (.iconst 1, 1) := by decide +kernel
theorem d_Mo_begin_95 : decode b_Mo_begin 95 = .ok (.if_icmp .ne 24, 3) := by decide +kernel
theorem d_Mo_begin_98 : decode b_Mo_begin 98 = .ok (.aload_n 0, 1) := by decide +kernel
theorem d_Mo_begin_99 : decode b_Mo_begin 99 = .ok (.getfield 41, 3) := by decide +kernel
theorem d_Mo_begin_102 : decode b_Mo_begin 102 = .ok (.bipush 96, 2) := by decide +kernel
theorem d_Mo_begin_104 : decode b_Mo_begin 104 = .ok (.iload_n 2, 1) := by decide +kernel
theorem d_Mo_begin_105 : decode b_Mo_begin 105 = .ok (.iadd, 1) := by decide +kernel
theorem d_Mo_begin_106 : decode b_Mo_begin 106 = .ok (.aload_n 0, 1) := by decide +kernel
theorem d_Mo_begin_107 : decode b_Mo_begin 107 = .ok (.getfield 32, 3) := by decide +kernel
theorem d_Mo_begin_110 : decode b_Mo_begin 110 = .ok (.iload_n 2, 1) := by decide +kernel
theorem d_Mo_begin_111 : decode b_Mo_begin 111 = .ok (.iaload, 1) := by decide +kernel
theorem d_Mo_begin_112 : decode b_Mo_begin 112 = .ok (.iastore, 1) := by decide +kernel
theorem d_Mo_begin_113 : decode b_Mo_begin 113 = .ok (.iinc 2 1, 3) := by decide +kernel
theorem d_Mo_begin_116 : decode b_Mo_begin 116 = .ok (.goto (-29), 3) := by decide +kernel
theorem d_Mo_begin_119 : decode b_Mo_begin 119 = .ok (.iconst 0, 1) := by decide +kernel
theorem d_Mo_begin_120 : decode b_Mo_begin 120 = .ok (.istore_n 2, 1) := by decide +kernel
theorem d_Mo_begin_121 : decode b_Mo_begin 121 = .ok (.iload_n 2, 1) := by decide +kernel
theorem d_Mo_begin_122 : decode b_Mo_begin 122 = .ok (.aload_n 0, 1) := by decide +kernel
theorem d_Mo_begin_123 : decode b_Mo_begin 123 = .ok (.getfield 67, 3) := by decide +kernel
theorem d_Mo_begin_126 : decode b_Mo_begin 126 = .ok (.if_icmp .ge 29, 3) := by decide +kernel
theorem d_Mo_begin_129 : decode b_Mo_begin 129 = .ok (.iload_n 1, 1) := by decide +kernel
theorem d_Mo_begin_130 : decode b_Mo_begin 130 = .ok (.iconst 1, 1) := by decide +kernel
theorem d_Mo_begin_131 : decode b_Mo_begin 131 = .ok (.if_icmp .ne 24, 3) := by decide +kernel
theorem d_Mo_begin_134 : decode b_Mo_begin 134 = .ok (.aload_n 0, 1) := by decide +kernel
theorem d_Mo_begin_135 : decode b_Mo_begin 135 = .ok (.getfield 41, 3) := by decide +kernel
theorem d_Mo_begin_138 : decode b_Mo_begin 138 = .ok (.bipush 104, 2) := by decide +kernel
theorem d_Mo_begin_140 : decode b_Mo_begin 140 = .ok (.iload_n 2, 1) := by decide +kernel
theorem d_Mo_begin_141 : decode b_Mo_begin 141 = .ok (.iadd, 1) := by decide +kernel
theorem d_Mo_begin_142 : decode b_Mo_begin 142 = .ok (.aload_n 0, 1) := by decide +kernel
theorem d_Mo_begin_143 : decode b_Mo_begin 143 = .ok (.getfield 29, 3) := by decide +kernel
theorem d_Mo_begin_146 : decode b_Mo_begin 146 = .ok (.iload_n 2, 1) := by decide +kernel
theorem d_Mo_begin_147 : decode b_Mo_begin 147 = .ok (.iaload, 1) := by decide +kernel
theorem d_Mo_begin_148 : decode b_Mo_begin 148 = .ok (.iastore, 1) := by decide +kernel
theorem d_Mo_begin_149 : decode b_Mo_begin 149 = .ok (.iinc 2 1, 3) := by decide +kernel
theorem d_Mo_begin_152 : decode b_Mo_begin 152 = .ok (.goto (-31), 3) := by decide +kernel
theorem d_Mo_begin_155 : decode b_Mo_begin 155 = .ok (.aload_n 0, 1) := by decide +kernel
theorem d_Mo_begin_156 : decode b_Mo_begin 156 = .ok (.getfield 44, 3) := by decide +kernel
theorem d_Mo_begin_159 : decode b_Mo_begin 159 = .ok (.iload_n 1, 1) := by decide +kernel
theorem d_Mo_begin_160 : decode b_Mo_begin 160 = .ok (.iconst 0, 1) := by decide +kernel
theorem d_Mo_begin_161 : decode b_Mo_begin 161 = .ok (.iastore, 1) := by decide +kernel
theorem d_Mo_begin_162 : decode b_Mo_begin 162 = .ok (.aload_n 0, 1) := by decide +kernel
theorem d_Mo_begin_163 : decode b_Mo_begin 163 = .ok (.getfield 47, 3) := by decide +kernel
theorem d_Mo_begin_166 : decode b_Mo_begin 166 = .ok (.iload_n 1, 1) := by decide +kernel
theorem d_Mo_begin_167 : decode b_Mo_begin 167 = .ok (.iconst 0, 1) := by decide +kernel
theorem d_Mo_begin_168 : decode b_Mo_begin 168 = .ok (.iastore, 1) := by decide +kernel
theorem d_Mo_begin_169 : decode b_Mo_begin 169 = .ok (.aload_n 0, 1) := by decide +kernel
theorem d_Mo_begin_170 : decode b_Mo_begin 170 = .ok (.getfield 50, 3) := by decide +kernel
theorem d_Mo_begin_173 : decode b_Mo_begin 173 = .ok (.iload_n 1, 1) := by decide +kernel
theorem d_Mo_begin_174 : decode b_Mo_begin 174 = .ok (.iconst 0, 1) := by decide +kernel
theorem d_Mo_begin_175 : decode b_Mo_begin 175 = .ok (.iastore, 1) := by decide +kernel
theorem d_Mo_begin_176 : decode b_Mo_begin 176 = .ok (.aload_n 0, 1) := by decide +kernel
theorem d_Mo_begin_177 : decode b_Mo_begin 177 = .ok (.getfield 53, 3) := by decide +kernel
theorem d_Mo_begin_180 : decode b_Mo_begin 180 = .ok (.iload_n 1, 1) := by decide +kernel
theorem d_Mo_begin_181 : decode b_Mo_begin 181 = .ok (.iconst 0, 1) := by decide +kernel
theorem d_Mo_begin_182 : decode b_Mo_begin 182 = .ok (.iastore, 1) := by decide +kernel
theorem d_Mo_begin_183 : decode b_Mo_begin 183 = .ok (.aload_n 0, 1) := by decide +kernel
theorem d_Mo_begin_184 : decode b_Mo_begin 184 = .ok (.iconst 1, 1) := by decide +kernel
theorem d_Mo_begin_185 : decode b_Mo_begin 185 = .ok (.putfield 118, 3) := by decide +kernel
theorem d_Mo_begin_188 : decode b_Mo_begin 188 = .ok (.return_, 1) := by decide +kernel
theorem d_Mo_begins_0 : decode b_Mo_begins 0 = .ok (.aload_n 0, 1) := by decide +kernel
theorem d_Mo_begins_1 : decode b_Mo_begins 1 = .ok (.aload_n 0, 1) := by decide +kernel
theorem d_Mo_begins_2 : decode b_Mo_begins 2 = .ok (.getfield 73, 3) := by decide +kernel
theorem d_Mo_begins_5 : decode b_Mo_begins 5 = .ok (.ifCond .eq 19, 3) := by decide +kernel
theorem d_Mo_begins_8 : decode b_Mo_begins 8 = .ok (.iload_n 1, 1) := by decide +kernel
theorem d_Mo_begins_9 : decode b_Mo_begins 9 = .ok (.iconst 0, 1) := by decide +kernel
theorem d_Mo_begins_10 : decode b_Mo_begins 10 = .ok (.aload_n 0, 1) := by decide +kernel
theorem d_Mo_begins_11 : decode b_Mo_begins 11 = .ok (.getfield 67, 3) := by decide +kernel
theorem d_Mo_begins_14 : decode b_Mo_begins 14 = .ok (.invokestatic 63, 3) := by decide +kernel
theorem d_Mo_begins_17 : decode b_Mo_begins 17 = .ok (.ifCond .eq 7, 3) := by decide +kernel
theorem d_Mo_begins_20 : decode b_Mo_begins 20 = .ok (.iconst 0, 1) := by decide +kernel
theorem d_Mo_begins_21 : decode b_Mo_begins 21 = .ok (.goto 4, 3) := by decide +kernel
theorem d_Mo_begins_24 : decode b_Mo_begins 24 = .ok (.iconst 1, 1) := by decide +kernel
theorem d_Mo_begins_25 : decode b_Mo_begins 25 = .ok (.putfield 59, 3) := by decide +kernel
theorem d_Mo_begins_28 : decode b_Mo_begins 28 = .ok (.aload_n 0, 1) := by decide +kernel
theorem d_Mo_begins_29 : decode b_Mo_begins 29 = .ok (.getfield 59, 3) := by decide +kernel
theorem d_Mo_begins_32 : decode b_Mo_begins 32 = .ok (.ifCond .le 7, 3) := by decide +kernel
theorem d_Mo_begins_35 : decode b_Mo_begins 35 = .ok (.iconst 0, 1) := by decide +kernel
theorem d_Mo_begins_36 : decode b_Mo_begins 36 = .ok (.goto 9, 3) := by decide +kernel
theorem d_Mo_begins_39 : decode b_Mo_begins 39 = .ok (.aload_n 0, 1) := by decide +kernel
theorem d_Mo_begins_40 : decode b_Mo_begins 40 = .ok (.getfield 29, 3) := by decide +kernel
theorem d_Mo_begins_43 : decode b_Mo_begins 43 = .ok (.iload_n 1, 1) := by decide +kernel
theorem d_Mo_begins_44 : decode b_Mo_begins 44 = .ok (.iaload, 1) := by decide +kernel
theorem d_Mo_begins_45 : decode b_Mo_begins 45 = .ok (.ireturn, 1) := by decide +kernel
theorem d_Mo_branch_0 : decode b_Mo_branch 0 = .ok (.aload_n 0, 1) := by decide +kernel
theorem d_Mo_branch_1 : decode b_Mo_branch 1 = .ok (.getfield 7, 3) := by decide +kernel
theorem d_Mo_branch_4 : decode b_Mo_branch 4 = .ok (.iload_n 1, 1) := by decide +kernel
theorem d_Mo_branch_5 : decode b_Mo_branch 5 = .ok (.iaload, 1) := by decide +kernel
theorem d_Mo_branch_6 : decode b_Mo_branch 6 = .ok (.istore_n 2, 1) := by decide +kernel
theorem d_Mo_branch_7 : decode b_Mo_branch 7 = .ok (.iload_n 2, 1) := by decide +kernel
theorem d_Mo_branch_8 : decode b_Mo_branch 8 = .ok (.invokestatic 80, 3) := by decide +kernel
theorem d_Mo_branch_11 : decode b_Mo_branch 11 = .ok (.ifCond .ne 11, 3) := by decide +kernel
theorem d_Mo_branch_14 : decode b_Mo_branch 14 = .ok (.aload_n 0, 1) := by decide +kernel
theorem d_Mo_branch_15 : decode b_Mo_branch 15 = .ok (.iload_n 1, 1) := by decide +kernel
theorem d_Mo_branch_16 : decode b_Mo_branch 16 = .ok (.invokevirtual 112, 3) := by decide +kernel
theorem d_Mo_branch_19 : decode b_Mo_branch 19 = .ok (.goto 202, 3) := by decide +kernel
theorem d_Mo_branch_22 : decode b_Mo_branch 22 = .ok (.iload_n 2, 1) := by decide +kernel
theorem d_Mo_branch_23 : decode b_Mo_branch 23 = .ok (.bipush 9, 2) := by decide +kernel
theorem d_Mo_branch_25 : decode b_Mo_branch 25 = .ok (.if_icmp .eq 9, 3) := by decide +kernel
theorem d_Mo_branch_28 : decode b_Mo_branch 28 = .ok (.iload_n 2, 1) := by decide +kernel
theorem d_Mo_branch_29 : decode b_Mo_branch 29 = .ok (.bipush 10, 2) := by decide +kernel
theorem d_Mo_branch_31 : decode b_Mo_branch 31 = .ok (.if_icmp .ne 72, 3) := by decide +kernel
theorem d_Mo_branch_34 : decode b_Mo_branch 34 = .ok (.aload_n 0, 1) := by decide +kernel
theorem d_Mo_branch_35 : decode b_Mo_branch 35 = .ok (.aload_n 0, 1) := by decide +kernel
theorem d_Mo_branch_36 : decode b_Mo_branch 36 = .ok (.getfield 13, 3) := by decide +kernel
theorem d_Mo_branch_39 : decode b_Mo_branch 39 = .ok (.iload_n 1, 1) := by decide +kernel
theorem d_Mo_branch_40 : decode b_Mo_branch 40 = .ok (.iaload, 1) := by decide +kernel
theorem d_Mo_branch_41 : decode b_Mo_branch 41 = .ok (.iconst 4, 1) := by decide +kernel
theorem d_Mo_branch_42 : decode b_Mo_branch 42 = .ok (.invokevirtual 99, 3) := by decide +kernel
theorem d_Mo_branch_45 : decode b_Mo_branch 45 = .ok (.istore_n 3, 1) := by decide +kernel
theorem d_Mo_branch_46 : decode b_Mo_branch 46 = .ok (.aload_n 0, 1) := by decide +kernel
theorem d_Mo_branch_47 : decode b_Mo_branch 47 = .ok (.aload_n 0, 1) := by decide +kernel
theorem d_Mo_branch_48 : decode b_Mo_branch 48 = .ok (.getfield 16, 3) := by decide +kernel
theorem d_Mo_branch_51 : decode b_Mo_branch 51 = .ok (.iload_n 1, 1) := by decide +kernel
theorem d_Mo_branch_52 : decode b_Mo_branch 52 = .ok (.iaload, 1) := by decide +kernel
theorem d_Mo_branch_53 : decode b_Mo_branch 53 = .ok (.iconst 5, 1) := by decide +kernel
theorem d_Mo_branch_54 : decode b_Mo_branch 54 = .ok (.invokevirtual 99, 3) := by decide +kernel
theorem d_Mo_branch_57 : decode b_Mo_branch 57 = .ok (.istore 4, 2) := by decide +kernel
theorem d_Mo_branch_59 : decode b_Mo_branch 59 = .ok (.aload_n 0, 1) := by decide +kernel
theorem d_Mo_branch_60 : decode b_Mo_branch 60 = .ok (.iconst 2, 1) := by decide +kernel
theorem d_Mo_branch_61 : decode b_Mo_branch 61 = .ok (.bipush 6, 2) := by decide +kernel
theorem d_Mo_branch_63 : decode b_Mo_branch 63 = .ok (.iload_n 3, 1) := by decide +kernel
theorem d_Mo_branch_64 : decode b_Mo_branch 64 = .ok (.iload 4, 2) := by decide +kernel
theorem d_Mo_branch_66 : decode b_Mo_branch 66 = .ok (.invokevirtual 95, 3) := by decide +kernel
theorem d_Mo_branch_69 : decode b_Mo_branch 69 = .ok (.aload_n 0, 1) := by decide +kernel
theorem d_Mo_branch_70 : decode b_Mo_branch 70 = .ok (.iload_n 1, 1) := by decide +kernel
theorem d_Mo_branch_71 : decode b_Mo_branch 71 = .ok (.iconst 1, 1) := by decide +kernel
theorem d_Mo_branch_72 : decode b_Mo_branch 72 = .ok (.iadd, 1) := by decide +kernel
theorem d_Mo_branch_73 : decode b_Mo_branch 73 = .ok (.invokevirtual 112, 3) := by decide +kernel
theorem d_Mo_branch_76 : decode b_Mo_branch 76 = .ok (.aload_n 0, 1) := by decide +kernel
theorem d_Mo_branch_77 : decode b_Mo_branch 77 = .ok (.iload_n 2, 1) := by decide +kernel
theorem d_Mo_branch_78 : decode b_Mo_branch 78 = .ok (.bipush 6, 2) := by decide +kernel
theorem d_Mo_branch_80 : decode b_Mo_branch 80 = .ok (.iconst 0, 1) := by decide +kernel
theorem d_Mo_branch_81 : decode b_Mo_branch 81 = .ok (.aload_n 0, 1) := by decide +kernel
theorem d_Mo_branch_82 : decode b_Mo_branch 82 = .ok (.iload_n 1, 1) := by decide +kernel
theorem d_Mo_branch_83 : decode b_Mo_branch 83 = .ok (.invokevirtual 84, 3) := by decide +kernel
theorem d_Mo_branch_86 : decode b_Mo_branch 86 = .ok (.invokevirtual 103, 3) := by decide +kernel
theorem d_Mo_branch_89 : decode b_Mo_branch 89 = .ok (.aload_n 0, 1) := by decide +kernel
theorem d_Mo_branch_90 : decode b_Mo_branch 90 = .ok (.bipush 11, 2) := by decide +kernel
theorem d_Mo_branch_92 : decode b_Mo_branch 92 = .ok (.iconst 0, 1) := by decide +kernel
theorem d_Mo_branch_93 : decode b_Mo_branch 93 = .ok (.iconst 0, 1) := by decide +kernel
theorem d_Mo_branch_94 : decode b_Mo_branch 94 = .ok (.iload_n 1, 1) := by decide +kernel
theorem d_Mo_branch_95 : decode b_Mo_branch 95 = .ok (.iconst 2, 1) := by decide +kernel
theorem d_Mo_branch_96 : decode b_Mo_branch 96 = .ok (.iadd, 1) := by decide +kernel
theorem d_Mo_branch_97 : decode b_Mo_branch 97 = .ok (.invokevirtual 103, 3) := by decide +kernel
theorem d_Mo_branch_100 : decode b_Mo_branch 100 = .ok (.goto 121, 3) := by decide +kernel
theorem d_Mo_branch_103 : decode b_Mo_branch 103 = .ok (.iload_n 2, 1) := by decide +kernel
theorem d_Mo_branch_104 : decode b_Mo_branch 104 = .ok (.bipush 13, 2) := by decide +kernel
theorem d_Mo_branch_106 : decode b_Mo_branch 106 = .ok (.if_icmp .ne 78, 3) := by decide +kernel
theorem d_Mo_branch_109 : decode b_Mo_branch 109 = .ok (.aload_n 0, 1) := by decide +kernel
theorem d_Mo_branch_110 : decode b_Mo_branch 110 = .ok (.aload_n 0, 1) := by decide +kernel
theorem d_Mo_branch_111 : decode b_Mo_branch 111 = .ok (.getfield 13, 3) := by decide +kernel
theorem d_Mo_branch_114 : decode b_Mo_branch 114 = .ok (.iload_n 1, 1) := by decide +kernel
theorem d_Mo_branch_115 : decode b_Mo_branch 115 = .ok (.iaload, 1) := by decide +kernel
theorem d_Mo_branch_116 : decode b_Mo_branch 116 = .ok (.iconst 4, 1) := by decide +kernel
theorem d_Mo_branch_117 : decode b_Mo_branch 117 = .ok (.invokevirtual 99, 3) := by decide +kernel
theorem d_Mo_branch_120 : decode b_Mo_branch 120 = .ok (.istore_n 3, 1) := by decide +kernel
theorem d_Mo_branch_121 : decode b_Mo_branch 121 = .ok (.aload_n 0, 1) := by decide +kernel
theorem d_Mo_branch_122 : decode b_Mo_branch 122 = .ok (.iconst 5, 1) := by decide +kernel
theorem d_Mo_branch_123 : decode b_Mo_branch 123 = .ok (.bipush 6, 2) := by decide +kernel
theorem d_Mo_branch_125 : decode b_Mo_branch 125 = .ok (.iload_n 3, 1) := by decide +kernel
theorem d_Mo_branch_126 : decode b_Mo_branch 126 = .ok (.iconst 0, 1) := by decide +kernel
theorem d_Mo_branch_127 : decode b_Mo_branch 127 = .ok (.invokevirtual 95, 3) := by decide +kernel
theorem d_Mo_branch_130 : decode b_Mo_branch 130 = .ok (.aload_n 0, 1) := by decide +kernel
theorem d_Mo_branch_131 : decode b_Mo_branch 131 = .ok (.iload_n 1, 1) := by decide +kernel
theorem d_Mo_branch_132 : decode b_Mo_branch 132 = .ok (.iconst 1, 1) := by decide +kernel
theorem d_Mo_branch_133 : decode b_Mo_branch 133 = .ok (.iadd, 1) := by decide +kernel
theorem d_Mo_branch_134 : decode b_Mo_branch 134 = .ok (.invokevirtual 112, 3) := by decide +kernel
theorem d_Mo_branch_137 : decode b_Mo_branch 137 = .ok (.aload_n 0, 1) := by decide +kernel
theorem d_Mo_branch_138 : decode b_Mo_branch 138 = .ok (.iconst 5, 1) := by decide +kernel
theorem d_Mo_branch_139 : decode b_Mo_branch 139 = .ok (.iconst 4, 1) := by decide +kernel
theorem d_Mo_branch_140 : decode b_Mo_branch 140 = .ok (.iconst 0, 1) := by decide +kernel
theorem d_Mo_branch_141 : decode b_Mo_branch 141 = .ok (.aload_n 0, 1) := by decide +kernel
theorem d_Mo_branch_142 : decode b_Mo_branch 142 = .ok (.getfield 67, 3) := by decide +kernel
theorem d_Mo_branch_145 : decode b_Mo_branch 145 = .ok (.invokevirtual 95, 3) := by decide +kernel
theorem d_Mo_branch_148 : decode b_Mo_branch 148 = .ok (.aload_n 0, 1) := by decide +kernel
theorem d_Mo_branch_149 : decode b_Mo_branch 149 = .ok (.bipush 12, 2) := by decide +kernel
theorem d_Mo_branch_151 : decode b_Mo_branch 151 = .ok (.bipush 6, 2) := by decide +kernel
theorem d_Mo_branch_153 : decode b_Mo_branch 153 = .ok (.iconst 4, 1) := by decide +kernel
theorem d_Mo_branch_154 : decode b_Mo_branch 154 = .ok (.aload_n 0, 1) := by decide +kernel
theorem d_Mo_branch_155 : decode b_Mo_branch 155 = .ok (.getfield 67, 3) := by decide +kernel
theorem d_Mo_branch_158 : decode b_Mo_branch 158 = .ok (.invokevirtual 103, 3) := by decide +kernel
theorem d_Mo_branch_161 : decode b_Mo_branch 161 = .ok (.aload_n 0, 1) := by decide +kernel
theorem d_Mo_branch_162 : decode b_Mo_branch 162 = .ok (.bipush 7, 2) := by decide +kernel
theorem d_Mo_branch_164 : decode b_Mo_branch 164 = .ok (.iconst 4, 1) := by decide +kernel
theorem d_Mo_branch_165 : decode b_Mo_branch 165 = .ok (.bipush 6, 2) := by decide +kernel
theorem d_Mo_branch_167 : decode b_Mo_branch 167 = .ok (.bipush 40, 2) := by decide +kernel
theorem d_Mo_branch_169 : decode b_Mo_branch 169 = .ok (.invokevirtual 95, 3) := by decide +kernel
theorem d_Mo_branch_172 : decode b_Mo_branch 172 = .ok (.aload_n 0, 1) := by decide +kernel
theorem d_Mo_branch_173 : decode b_Mo_branch 173 = .ok (.bipush 13, 2) := by decide +kernel
theorem d_Mo_branch_175 : decode b_Mo_branch 175 = .ok (.iconst 4, 1) := by decide +kernel
theorem d_Mo_branch_176 : decode b_Mo_branch 176 = .ok (.iconst 0, 1) := by decide +kernel
theorem d_Mo_branch_177 : decode b_Mo_branch 177 = .ok (.iconst 0, 1) := by decide +kernel
theorem d_Mo_branch_178 : decode b_Mo_branch 178 = .ok (.invokevirtual 95, 3) := by decide +kernel
theorem d_Mo_branch_181 : decode b_Mo_branch 181 = .ok (.goto 40, 3) := by decide +kernel
theorem d_Mo_branch_184 : decode b_Mo_branch 184 = .ok (.iload_n 2, 1) := by decide +kernel
theorem d_Mo_branch_185 : decode b_Mo_branch 185 = .ok (.bipush 12, 2) := by decide +kernel
theorem d_Mo_branch_187 : decode b_Mo_branch 187 = .ok (.if_icmp .ne 14, 3) := by decide +kernel
theorem d_Mo_branch_190 : decode b_Mo_branch 190 = .ok (.aload_n 0, 1) := by decide +kernel
theorem d_Mo_branch_191 : decode b_Mo_branch 191 = .ok (.iconst 5, 1) := by decide +kernel
theorem d_Mo_branch_192 : decode b_Mo_branch 192 = .ok (.bipush 7, 2) := by decide +kernel
theorem d_Mo_branch_194 : decode b_Mo_branch 194 = .ok (.iconst 0, 1) := by decide +kernel
theorem d_Mo_branch_195 : decode b_Mo_branch 195 = .ok (.iload_n 1, 1) := by decide +kernel
theorem d_Mo_branch_196 : decode b_Mo_branch 196 = .ok (.iconst 2, 1) := by decide +kernel
theorem d_Mo_branch_197 : decode b_Mo_branch 197 = .ok (.iadd, 1) := by decide +kernel
theorem d_Mo_branch_198 : decode b_Mo_branch 198 = .ok (.invokevirtual 106, 3) := by decide +kernel
theorem d_Mo_branch_201 : decode b_Mo_branch 201 = .ok (.aload_n 0, 1) := by decide +kernel
theorem d_Mo_branch_202 : decode b_Mo_branch 202 = .ok (.iload_n 1, 1) := by decide +kernel
theorem d_Mo_branch_203 : decode b_Mo_branch 203 = .ok (.iconst 1, 1) := by decide +kernel
theorem d_Mo_branch_204 : decode b_Mo_branch 204 = .ok (.iadd, 1) := by decide +kernel
theorem d_Mo_branch_205 : decode b_Mo_branch 205 = .ok (.invokevirtual 112, 3) := by decide +kernel
theorem d_Mo_branch_208 : decode b_Mo_branch 208 = .ok (.aload_n 0, 1) := by decide +kernel
theorem d_Mo_branch_209 : decode b_Mo_branch 209 = .ok (.bipush 11, 2) := by decide +kernel
theorem d_Mo_branch_211 : decode b_Mo_branch 211 = .ok (.iconst 0, 1) := by decide +kernel
theorem d_Mo_branch_212 : decode b_Mo_branch 212 = .ok (.iconst 0, 1) := by decide +kernel
theorem d_Mo_branch_213 : decode b_Mo_branch 213 = .ok (.aload_n 0, 1) := by decide +kernel
theorem d_Mo_branch_214 : decode b_Mo_branch 214 = .ok (.iload_n 1, 1) := by decide +kernel
theorem d_Mo_branch_215 : decode b_Mo_branch 215 = .ok (.invokevirtual 84, 3) := by decide +kernel
theorem d_Mo_branch_218 : decode b_Mo_branch 218 = .ok (.invokevirtual 103, 3) := by decide +kernel
theorem d_Mo_branch_221 : decode b_Mo_branch 221 = .ok (.return_, 1) := by decide +kernel
theorem d_Mo_cell_0 : decode b_Mo_cell 0 = .ok (.aload_n 0, 1) := by decide +kernel
theorem d_Mo_cell_1 : decode b_Mo_cell 1 = .ok (.iload_n 1, 1) := by decide +kernel
theorem d_Mo_cell_2 : decode b_Mo_cell 2 = .ok (.iconst 0, 1) := by decide +kernel
theorem d_Mo_cell_3 : decode b_Mo_cell 3 = .ok (.iconst 1, 1) := by decide +kernel
theorem d_Mo_cell_4 : decode b_Mo_cell 4 = .ok (.invokestatic 63, 3) := by decide +kernel
theorem d_Mo_cell_7 : decode b_Mo_cell 7 = .ok (.ifCond .eq 17, 3) := by decide +kernel
theorem d_Mo_cell_10 : decode b_Mo_cell 10 = .ok (.iload_n 2, 1) := by decide +kernel
theorem d_Mo_cell_11 : decode b_Mo_cell 11 = .ok (.iconst 0, 1) := by decide +kernel
theorem d_Mo_cell_12 : decode b_Mo_cell 12 = .ok (.bipush 31, 2) := by decide +kernel
theorem d_Mo_cell_14 : decode b_Mo_cell 14 = .ok (.invokestatic 63, 3) := by decide +kernel
theorem d_Mo_cell_17 : decode b_Mo_cell 17 = .ok (.ifCond .eq 7, 3) := by decide +kernel
theorem d_Mo_cell_20 : decode b_Mo_cell 20 = .ok (.iconst 0, 1) := by decide +kernel
theorem d_Mo_cell_21 : decode b_Mo_cell 21 = .ok (.goto 4, 3) := by decide +kernel
theorem d_Mo_cell_24 : decode b_Mo_cell 24 = .ok (.iconst 1, 1) := by decide +kernel
theorem d_Mo_cell_25 : decode b_Mo_cell 25 = .ok (.putfield 59, 3) := by decide +kernel
theorem d_Mo_cell_28 : decode b_Mo_cell 28 = .ok (.aload_n 0, 1) := by decide +kernel
theorem d_Mo_cell_29 : decode b_Mo_cell 29 = .ok (.getfield 59, 3) := by decide +kernel
theorem d_Mo_cell_32 : decode b_Mo_cell 32 = .ok (.ifCond .le 7, 3) := by decide +kernel
theorem d_Mo_cell_35 : decode b_Mo_cell 35 = .ok (.iconst 0, 1) := by decide +kernel
theorem d_Mo_cell_36 : decode b_Mo_cell 36 = .ok (.goto 14, 3) := by decide +kernel
theorem d_Mo_cell_39 : decode b_Mo_cell 39 = .ok (.aload_n 0, 1) := by decide +kernel
theorem d_Mo_cell_40 : decode b_Mo_cell 40 = .ok (.getfield 41, 3) := by decide +kernel
theorem d_Mo_cell_43 : decode b_Mo_cell 43 = .ok (.bipush 64, 2) := by decide +kernel
theorem d_Mo_cell_45 : decode b_Mo_cell 45 = .ok (.iload_n 1, 1) := by decide +kernel
theorem d_Mo_cell_46 : decode b_Mo_cell 46 = .ok (.imul, 1) := by decide +kernel
theorem d_Mo_cell_47 : decode b_Mo_cell 47 = .ok (.iload_n 2, 1) := by decide +kernel
theorem d_Mo_cell_48 : decode b_Mo_cell 48 = .ok (.iadd, 1) := by decide +kernel
theorem d_Mo_cell_49 : decode b_Mo_cell 49 = .ok (.iaload, 1) := by decide +kernel
theorem d_Mo_cell_50 : decode b_Mo_cell 50 = .ok (.ireturn, 1) := by decide +kernel
theorem d_Mo_clear_0 : decode b_Mo_clear 0 = .ok (.aload_n 0, 1) := by decide +kernel
theorem d_Mo_clear_1 : decode b_Mo_clear 1 = .ok (.iconst 0, 1) := by decide +kernel
theorem d_Mo_clear_2 : decode b_Mo_clear 2 = .ok (.putfield 59, 3) := by decide +kernel
theorem d_Mo_clear_5 : decode b_Mo_clear 5 = .ok (.aload_n 0, 1) := by decide +kernel
theorem d_Mo_clear_6 : decode b_Mo_clear 6 = .ok (.getfield 67, 3) := by decide +kernel
theorem d_Mo_clear_9 : decode b_Mo_clear 9 = .ok (.istore_n 1, 1) := by decide +kernel
theorem d_Mo_clear_10 : decode b_Mo_clear 10 = .ok (.aload_n 0, 1) := by decide +kernel
theorem d_Mo_clear_11 : decode b_Mo_clear 11 = .ok (.iconst 0, 1) := by decide +kernel
theorem d_Mo_clear_12 : decode b_Mo_clear 12 = .ok (.putfield 67, 3) := by decide +kernel
theorem d_Mo_clear_15 : decode b_Mo_clear 15 = .ok (.aload_n 0, 1) := by decide +kernel
theorem d_Mo_clear_16 : decode b_Mo_clear 16 = .ok (.invokevirtual 70, 3) := by decide +kernel
theorem d_Mo_clear_19 : decode b_Mo_clear 19 = .ok (.iload_n 1, 1) := by decide +kernel
theorem d_Mo_clear_20 : decode b_Mo_clear 20 = .ok (.ireturn, 1) := by decide +kernel
theorem d_Mo_code_0 : decode b_Mo_code 0 = .ok (.aload_n 0, 1) := by decide +kernel
theorem d_Mo_code_1 : decode b_Mo_code 1 = .ok (.iload_n 2, 1) := by decide +kernel
theorem d_Mo_code_2 : decode b_Mo_code 2 = .ok (.iconst 0, 1) := by decide +kernel
theorem d_Mo_code_3 : decode b_Mo_code 3 = .ok (.iconst 3, 1) := by decide +kernel
theorem d_Mo_code_4 : decode b_Mo_code 4 = .ok (.invokestatic 63, 3) := by decide +kernel
theorem d_Mo_code_7 : decode b_Mo_code 7 = .ok (.ifCond .ne 7, 3) := by decide +kernel
theorem d_Mo_code_10 : decode b_Mo_code 10 = .ok (.iconst 1, 1) := by decide +kernel
theorem d_Mo_code_11 : decode b_Mo_code 11 = .ok (.goto 22, 3) := by decide +kernel
theorem d_Mo_code_14 : decode b_Mo_code 14 = .ok (.iload_n 1, 1) := by decide +kernel
theorem d_Mo_code_15 : decode b_Mo_code 15 = .ok (.iconst 0, 1) := by decide +kernel
theorem d_Mo_code_16 : decode b_Mo_code 16 = .ok (.aload_n 0, 1) := by decide +kernel
theorem d_Mo_code_17 : decode b_Mo_code 17 = .ok (.getfield 77, 3) := by decide +kernel
theorem d_Mo_code_20 : decode b_Mo_code 20 = .ok (.iconst 1, 1) := by decide +kernel
theorem d_Mo_code_21 : decode b_Mo_code 21 = .ok (.isub, 1) := by decide +kernel
theorem d_Mo_code_22 : decode b_Mo_code 22 = .ok (.invokestatic 63, 3) := by decide +kernel
theorem d_Mo_code_25 : decode b_Mo_code 25 = .ok (.ifCond .ne 7, 3) := by decide +kernel
theorem d_Mo_code_28 : decode b_Mo_code 28 = .ok (.iconst 2, 1) := by decide +kernel
theorem d_Mo_code_29 : decode b_Mo_code 29 = .ok (.goto 4, 3) := by decide +kernel
theorem d_Mo_code_32 : decode b_Mo_code 32 = .ok (.iconst 0, 1) := by decide +kernel
theorem d_Mo_code_33 : decode b_Mo_code 33 = .ok (.putfield 59, 3) := by decide +kernel
theorem d_Mo_code_36 : decode b_Mo_code 36 = .ok (.aload_n 0, 1) := by decide +kernel
theorem d_Mo_code_37 : decode b_Mo_code 37 = .ok (.getfield 59, 3) := by decide +kernel
theorem d_Mo_code_40 : decode b_Mo_code 40 = .ok (.ifCond .le 7, 3) := by decide +kernel
theorem d_Mo_code_43 : decode b_Mo_code 43 = .ok (.iconst 0, 1) := by decide +kernel
theorem d_Mo_code_44 : decode b_Mo_code 44 = .ok (.goto 13, 3) := by decide +kernel
theorem d_Mo_code_47 : decode b_Mo_code 47 = .ok (.aload_n 0, 1) := by decide +kernel
theorem d_Mo_code_48 : decode b_Mo_code 48 = .ok (.getfield 22, 3) := by decide +kernel
theorem d_Mo_code_51 : decode b_Mo_code 51 = .ok (.iconst 4, 1) := by decide +kernel
theorem d_Mo_code_52 : decode b_Mo_code 52 = .ok (.iload_n 1, 1) := by decide +kernel
theorem d_Mo_code_53 : decode b_Mo_code 53 = .ok (.imul, 1) := by decide +kernel
theorem d_Mo_code_54 : decode b_Mo_code 54 = .ok (.iload_n 2, 1) := by decide +kernel
theorem d_Mo_code_55 : decode b_Mo_code 55 = .ok (.iadd, 1) := by decide +kernel
theorem d_Mo_code_56 : decode b_Mo_code 56 = .ok (.iaload, 1) := by decide +kernel
theorem d_Mo_code_57 : decode b_Mo_code 57 = .ok (.ireturn, 1) := by decide +kernel
theorem d_Mo_data_0 : decode b_Mo_data 0 = .ok (.aload_n 0, 1) := by decide +kernel
theorem d_Mo_data_1 : decode b_Mo_data 1 = .ok (.iload_n 1, 1) := by decide +kernel
theorem d_Mo_data_2 : decode b_Mo_data 2 = .ok (.iconst 0, 1) := by decide +kernel
theorem d_Mo_data_3 : decode b_Mo_data 3 = .ok (.bipush 31, 2) := by decide +kernel
theorem d_Mo_data_5 : decode b_Mo_data 5 = .ok (.invokestatic 63, 3) := by decide +kernel
theorem d_Mo_data_8 : decode b_Mo_data 8 = .ok (.ifCond .eq 14, 3) := by decide +kernel
theorem d_Mo_data_11 : decode b_Mo_data 11 = .ok (.iload_n 2, 1) := by decide +kernel
theorem d_Mo_data_12 : decode b_Mo_data 12 = .ok (.invokestatic 115, 3) := by decide +kernel
theorem d_Mo_data_15 : decode b_Mo_data 15 = .ok (.ifCond .eq 7, 3) := by decide +kernel
theorem d_Mo_data_18 : decode b_Mo_data 18 = .ok (.iconst 0, 1) := by decide +kernel
theorem d_Mo_data_19 : decode b_Mo_data 19 = .ok (.goto 4, 3) := by decide +kernel
theorem d_Mo_data_22 : decode b_Mo_data 22 = .ok (.iconst 1, 1) := by decide +kernel
theorem d_Mo_data_23 : decode b_Mo_data 23 = .ok (.putfield 59, 3) := by decide +kernel
theorem d_Mo_data_26 : decode b_Mo_data 26 = .ok (.aload_n 0, 1) := by decide +kernel
theorem d_Mo_data_27 : decode b_Mo_data 27 = .ok (.getfield 59, 3) := by decide +kernel
theorem d_Mo_data_30 : decode b_Mo_data 30 = .ok (.ifCond .ne 10, 3) := by decide +kernel
theorem d_Mo_data_33 : decode b_Mo_data 33 = .ok (.aload_n 0, 1) := by decide +kernel
theorem d_Mo_data_34 : decode b_Mo_data 34 = .ok (.getfield 35, 3) := by decide +kernel
theorem d_Mo_data_37 : decode b_Mo_data 37 = .ok (.iload_n 1, 1) := by decide +kernel
theorem d_Mo_data_38 : decode b_Mo_data 38 = .ok (.iload_n 2, 1) := by decide +kernel
theorem d_Mo_data_39 : decode b_Mo_data 39 = .ok (.iastore, 1) := by decide +kernel
theorem d_Mo_data_40 : decode b_Mo_data 40 = .ok (.return_, 1) := by decide +kernel
theorem d_Mo_forget_0 : decode b_Mo_forget 0 = .ok (.aload_n 0, 1) := by decide +kernel
theorem d_Mo_forget_1 : decode b_Mo_forget 1 = .ok (.iconst 0, 1) := by decide +kernel
theorem d_Mo_forget_2 : decode b_Mo_forget 2 = .ok (.putfield 73, 3) := by decide +kernel
theorem d_Mo_forget_5 : decode b_Mo_forget 5 = .ok (.aload_n 0, 1) := by decide +kernel
theorem d_Mo_forget_6 : decode b_Mo_forget 6 = .ok (.iconst 0, 1) := by decide +kernel
theorem d_Mo_forget_7 : decode b_Mo_forget 7 = .ok (.putfield 77, 3) := by decide +kernel
theorem d_Mo_forget_10 : decode b_Mo_forget 10 = .ok (.return_, 1) := by decide +kernel
theorem d_Mo_goal_0 : decode b_Mo_goal 0 = .ok (.aload_n 0, 1) := by decide +kernel
theorem d_Mo_goal_1 : decode b_Mo_goal 1 = .ok (.getfield 7, 3) := by decide +kernel
theorem d_Mo_goal_4 : decode b_Mo_goal 4 = .ok (.iload_n 1, 1) := by decide +kernel
theorem d_Mo_goal_5 : decode b_Mo_goal 5 = .ok (.iaload, 1) := by decide +kernel
theorem d_Mo_goal_6 : decode b_Mo_goal 6 = .ok (.bipush 9, 2) := by decide +kernel
theorem d_Mo_goal_8 : decode b_Mo_goal 8 = .ok (.if_icmp .eq 14, 3) := by decide +kernel
theorem d_Mo_goal_11 : decode b_Mo_goal 11 = .ok (.aload_n 0, 1) := by decide +kernel
theorem d_Mo_goal_12 : decode b_Mo_goal 12 = .ok (.getfield 7, 3) := by decide +kernel
theorem d_Mo_goal_15 : decode b_Mo_goal 15 = .ok (.iload_n 1, 1) := by decide +kernel
theorem d_Mo_goal_16 : decode b_Mo_goal 16 = .ok (.iaload, 1) := by decide +kernel
theorem d_Mo_goal_17 : decode b_Mo_goal 17 = .ok (.bipush 10, 2) := by decide +kernel
theorem d_Mo_goal_19 : decode b_Mo_goal 19 = .ok (.if_icmp .ne 16, 3) := by decide +kernel
theorem d_Mo_goal_22 : decode b_Mo_goal 22 = .ok (.iload_n 1, 1) := by decide +kernel
theorem d_Mo_goal_23 : decode b_Mo_goal 23 = .ok (.iconst 1, 1) := by decide +kernel
theorem d_Mo_goal_24 : decode b_Mo_goal 24 = .ok (.iadd, 1) := by decide +kernel
theorem d_Mo_goal_25 : decode b_Mo_goal 25 = .ok (.aload_n 0, 1) := by decide +kernel
theorem d_Mo_goal_26 : decode b_Mo_goal 26 = .ok (.getfield 19, 3) := by decide +kernel
theorem d_Mo_goal_29 : decode b_Mo_goal 29 = .ok (.iload_n 1, 1) := by decide +kernel
theorem d_Mo_goal_30 : decode b_Mo_goal 30 = .ok (.iaload, 1) := by decide +kernel
theorem d_Mo_goal_31 : decode b_Mo_goal 31 = .ok (.iadd, 1) := by decide +kernel
theorem d_Mo_goal_32 : decode b_Mo_goal 32 = .ok (.goto 9, 3) := by decide +kernel
theorem d_Mo_goal_35 : decode b_Mo_goal 35 = .ok (.aload_n 0, 1) := by decide +kernel
theorem d_Mo_goal_36 : decode b_Mo_goal 36 = .ok (.getfield 19, 3) := by decide +kernel
theorem d_Mo_goal_39 : decode b_Mo_goal 39 = .ok (.iload_n 1, 1) := by decide +kernel
theorem d_Mo_goal_40 : decode b_Mo_goal 40 = .ok (.iaload, 1) := by decide +kernel
theorem d_Mo_goal_41 : decode b_Mo_goal 41 = .ok (.ireturn, 1) := by decide +kernel
theorem d_Mo_in_0 : decode b_Mo_in 0 = .ok (.iload_n 0, 1) := by decide +kernel
theorem d_Mo_in_1 : decode b_Mo_in 1 = .ok (.iload_n 1, 1) := by decide +kernel
theorem d_Mo_in_2 : decode b_Mo_in 2 = .ok (.if_icmp .lt 12, 3) := by decide +kernel
theorem d_Mo_in_5 : decode b_Mo_in 5 = .ok (.iload_n 0, 1) := by decide +kernel
theorem d_Mo_in_6 : decode b_Mo_in 6 = .ok (.iload_n 2, 1) := by decide +kernel
theorem d_Mo_in_7 : decode b_Mo_in 7 = .ok (.if_icmp .gt 7, 3) := by decide +kernel
theorem d_Mo_in_10 : decode b_Mo_in 10 = .ok (.iconst 1, 1) := by decide +kernel
theorem d_Mo_in_11 : decode b_Mo_in 11 = .ok (.goto 4, 3) := by decide +kernel
theorem d_Mo_in_14 : decode b_Mo_in 14 = .ok (.iconst 0, 1) := by decide +kernel
theorem d_Mo_in_15 : decode b_Mo_in 15 = .ok (.ireturn, 1) := by decide +kernel
theorem d_Mo_init_0 : decode b_Mo_init 0 = .ok (.aload_n 0, 1) := by decide +kernel
theorem d_Mo_init_1 : decode b_Mo_init 1 = .ok (.invokespecial 1, 3) := by decide +kernel
theorem d_Mo_init_4 : decode b_Mo_init 4 = .ok (.aload_n 0, 1) := by decide +kernel
theorem d_Mo_init_5 : decode b_Mo_init 5 = .ok (.bipush 24, 2) := by decide +kernel
theorem d_Mo_init_7 : decode b_Mo_init 7 = .ok (.newarray .int, 2) := by decide +kernel
theorem d_Mo_init_9 : decode b_Mo_init 9 = .ok (.putfield 7, 3) := by decide +kernel
theorem d_Mo_init_12 : decode b_Mo_init 12 = .ok (.aload_n 0, 1) := by decide +kernel
theorem d_Mo_init_13 : decode b_Mo_init 13 = .ok (.bipush 24, 2) := by decide +kernel
theorem d_Mo_init_15 : decode b_Mo_init 15 = .ok (.newarray .int, 2) := by decide +kernel
theorem d_Mo_init_17 : decode b_Mo_init 17 = .ok (.putfield 13, 3) := by decide +kernel
theorem d_Mo_init_20 : decode b_Mo_init 20 = .ok (.aload_n 0, 1) := by decide +kernel
theorem d_Mo_init_21 : decode b_Mo_init 21 = .ok (.bipush 24, 2) := by decide +kernel
theorem d_Mo_init_23 : decode b_Mo_init 23 = .ok (.newarray .int, 2) := by decide +kernel
theorem d_Mo_init_25 : decode b_Mo_init 25 = .ok (.putfield 16, 3) := by decide +kernel
theorem d_Mo_init_28 : decode b_Mo_init 28 = .ok (.aload_n 0, 1) := by decide +kernel
theorem d_Mo_init_29 : decode b_Mo_init 29 = .ok (.bipush 24, 2) := by decide +kernel
theorem d_Mo_init_31 : decode b_Mo_init 31 = .ok (.newarray .int, 2) := by decide +kernel
theorem d_Mo_init_33 : decode b_Mo_init 33 = .ok (.putfield 19, 3) := by decide +kernel
theorem d_Mo_init_36 : decode b_Mo_init 36 = .ok (.aload_n 0, 1) := by decide +kernel
theorem d_Mo_init_37 : decode b_Mo_init 37 = .ok (.sipush 1600, 3) := by decide +kernel
theorem d_Mo_init_40 : decode b_Mo_init 40 = .ok (.newarray .int, 2) := by decide +kernel
theorem d_Mo_init_42 : decode b_Mo_init 42 = .ok (.putfield 22, 3) := by decide +kernel
theorem d_Mo_init_45 : decode b_Mo_init 45 = .ok (.aload_n 0, 1) := by decide +kernel
theorem d_Mo_init_46 : decode b_Mo_init 46 = .ok (.sipush 400, 3) := by decide +kernel
theorem d_Mo_init_49 : decode b_Mo_init 49 = .ok (.newarray .boolean, 2) := by decide +kernel
theorem d_Mo_init_51 : decode b_Mo_init 51 = .ok (.putfield 25, 3) := by decide +kernel
theorem d_Mo_init_54 : decode b_Mo_init 54 = .ok (.aload_n 0, 1) := by decide +kernel
theorem d_Mo_init_55 : decode b_Mo_init 55 = .ok (.bipush 25, 2) := by decide +kernel
theorem d_Mo_init_57 : decode b_Mo_init 57 = .ok (.newarray .int, 2) := by decide +kernel
theorem d_Mo_init_59 : decode b_Mo_init 59 = .ok (.putfield 29, 3) := by decide +kernel
theorem d_Mo_init_62 : decode b_Mo_init 62 = .ok (.aload_n 0, 1) := by decide +kernel
theorem d_Mo_init_63 : decode b_Mo_init 63 = .ok (.bipush 8, 2) := by decide +kernel
theorem d_Mo_init_65 : decode b_Mo_init 65 = .ok (.newarray .int, 2) := by decide +kernel
theorem d_Mo_init_67 : decode b_Mo_init 67 = .ok (.putfield 32, 3) := by decide +kernel
theorem d_Mo_init_70 : decode b_Mo_init 70 = .ok (.aload_n 0, 1) := by decide +kernel
theorem d_Mo_init_71 : decode b_Mo_init 71 = .ok (.bipush 32, 2) := by decide +kernel
theorem d_Mo_init_73 : decode b_Mo_init 73 = .ok (.newarray .int, 2) := by decide +kernel
theorem d_Mo_init_75 : decode b_Mo_init 75 = .ok (.putfield 35, 3) := by decide +kernel
theorem d_Mo_init_78 : decode b_Mo_init 78 = .ok (.aload_n 0, 1) := by decide +kernel
theorem d_Mo_init_79 : decode b_Mo_init 79 = .ok (.bipush 16, 2) := by decide +kernel
theorem d_Mo_init_81 : decode b_Mo_init 81 = .ok (.newarray .int, 2) := by decide +kernel
theorem d_Mo_init_83 : decode b_Mo_init 83 = .ok (.putfield 38, 3) := by decide +kernel
theorem d_Mo_init_86 : decode b_Mo_init 86 = .ok (.aload_n 0, 1) := by decide +kernel
theorem d_Mo_init_87 : decode b_Mo_init 87 = .ok (.sipush 128, 3) := by decide +kernel
theorem d_Mo_init_90 : decode b_Mo_init 90 = .ok (.newarray .int, 2) := by decide +kernel
theorem d_Mo_init_92 : decode b_Mo_init 92 = .ok (.putfield 41, 3) := by decide +kernel
theorem d_Mo_init_95 : decode b_Mo_init 95 = .ok (.aload_n 0, 1) := by decide +kernel
theorem d_Mo_init_96 : decode b_Mo_init 96 = .ok (.iconst 2, 1) := by decide +kernel
theorem d_Mo_init_97 : decode b_Mo_init 97 = .ok (.newarray .int, 2) := by decide +kernel
theorem d_Mo_init_99 : decode b_Mo_init 99 = .ok (.putfield 44, 3) := by decide +kernel
theorem d_Mo_init_102 : decode b_Mo_init 102 = .ok (.aload_n 0, 1) := by decide +kernel
theorem d_Mo_init_103 : decode b_Mo_init 103 = .ok (.iconst 2, 1) := by decide +kernel
theorem d_Mo_init_104 : decode b_Mo_init 104 = .ok (.newarray .int, 2) := by decide +kernel
theorem d_Mo_init_106 : decode b_Mo_init 106 = .ok (.putfield 47, 3) := by decide +kernel
theorem d_Mo_init_109 : decode b_Mo_init 109 = .ok (.aload_n 0, 1) := by decide +kernel
theorem d_Mo_init_110 : decode b_Mo_init 110 = .ok (.iconst 2, 1) := by decide +kernel
theorem d_Mo_init_111 : decode b_Mo_init 111 = .ok (.newarray .int, 2) := by decide +kernel
theorem d_Mo_init_113 : decode b_Mo_init 113 = .ok (.putfield 50, 3) := by decide +kernel
theorem d_Mo_init_116 : decode b_Mo_init 116 = .ok (.aload_n 0, 1) := by decide +kernel
theorem d_Mo_init_117 : decode b_Mo_init 117 = .ok (.iconst 2, 1) := by decide +kernel
theorem d_Mo_init_118 : decode b_Mo_init 118 = .ok (.newarray .int, 2) := by decide +kernel
theorem d_Mo_init_120 : decode b_Mo_init 120 = .ok (.putfield 53, 3) := by decide +kernel
theorem d_Mo_init_123 : decode b_Mo_init 123 = .ok (.aload_n 0, 1) := by decide +kernel
theorem d_Mo_init_124 : decode b_Mo_init 124 = .ok (.sipush 240, 3) := by decide +kernel
theorem d_Mo_init_127 : decode b_Mo_init 127 = .ok (.newarray .int, 2) := by decide +kernel
theorem d_Mo_init_129 : decode b_Mo_init 129 = .ok (.putfield 56, 3) := by decide +kernel
theorem d_Mo_init_132 : decode b_Mo_init 132 = .ok (.return_, 1) := by decide +kernel
theorem d_Mo_into_0 : decode b_Mo_into 0 = .ok (.iload_n 1, 1) := by decide +kernel
theorem d_Mo_into_1 : decode b_Mo_into 1 = .ok (.iconst 4, 1) := by decide +kernel
theorem d_Mo_into_2 : decode b_Mo_into 2 = .ok (.if_icmp .ge 5, 3) := by decide +kernel
theorem d_Mo_into_5 : decode b_Mo_into 5 = .ok (.iload_n 1, 1) := by decide +kernel
theorem d_Mo_into_6 : decode b_Mo_into 6 = .ok (.ireturn, 1) := by decide +kernel
theorem d_Mo_into_7 : decode b_Mo_into 7 = .ok (.aload_n 0, 1) := by decide +kernel
theorem d_Mo_into_8 : decode b_Mo_into 8 = .ok (.bipush 7, 2) := by decide +kernel
theorem d_Mo_into_10 : decode b_Mo_into 10 = .ok (.iload_n 2, 1) := by decide +kernel
theorem d_Mo_into_11 : decode b_Mo_into 11 = .ok (.iconst 0, 1) := by decide +kernel
theorem d_Mo_into_12 : decode b_Mo_into 12 = .ok (.bipush 32, 2) := by decide +kernel
theorem d_Mo_into_14 : decode b_Mo_into 14 = .ok (.iload_n 1, 1) := by decide +kernel
theorem d_Mo_into_15 : decode b_Mo_into 15 = .ok (.iadd, 1) := by decide +kernel
theorem d_Mo_into_16 : decode b_Mo_into 16 = .ok (.invokevirtual 95, 3) := by decide +kernel
theorem d_Mo_into_19 : decode b_Mo_into 19 = .ok (.iload_n 2, 1) := by decide +kernel
theorem d_Mo_into_20 : decode b_Mo_into 20 = .ok (.ireturn, 1) := by decide +kernel
theorem d_Mo_isBranch_0 : decode b_Mo_isBranch 0 = .ok (.iload_n 0, 1) := by decide +kernel
theorem d_Mo_isBranch_1 : decode b_Mo_isBranch 1 = .ok (.bipush 9, 2) := by decide +kernel
theorem d_Mo_isBranch_3 : decode b_Mo_isBranch 3 = .ok (.bipush 13, 2) := by decide +kernel
theorem d_Mo_isBranch_5 : decode b_Mo_isBranch 5 = .ok (.invokestatic 63, 3) := by decide +kernel
theorem d_Mo_isBranch_8 : decode b_Mo_isBranch 8 = .ok (.ireturn, 1) := by decide +kernel
theorem d_Mo_isNumber_0 : decode b_Mo_isNumber 0 = .ok (.iload_n 0, 1) := by decide +kernel
theorem d_Mo_isNumber_1 : decode b_Mo_isNumber 1 = .ok (.sipush (-32768), 3) := by decide +kernel
theorem d_Mo_isNumber_4 : decode b_Mo_isNumber 4 = .ok (.sipush 32767, 3) := by decide +kernel
theorem d_Mo_isNumber_7 : decode b_Mo_isNumber 7 = .ok (.invokestatic 63, 3) := by decide +kernel
theorem d_Mo_isNumber_10 : decode b_Mo_isNumber 10 = .ok (.ireturn, 1) := by decide +kernel
theorem d_Mo_lead_0 : decode b_Mo_lead 0 = .ok (.aload_n 0, 1) := by decide +kernel
theorem d_Mo_lead_1 : decode b_Mo_lead 1 = .ok (.iload_n 1, 1) := by decide +kernel
theorem d_Mo_lead_2 : decode b_Mo_lead 2 = .ok (.iload_n 2, 1) := by decide +kernel
theorem d_Mo_lead_3 : decode b_Mo_lead 3 = .ok (.iload_n 3, 1) := by decide +kernel
theorem d_Mo_lead_4 : decode b_Mo_lead 4 = .ok (.iload 4, 2) := by decide +kernel
theorem d_Mo_lead_6 : decode b_Mo_lead 6 = .ok (.invokevirtual 95, 3) := by decide +kernel
theorem d_Mo_lead_9 : decode b_Mo_lead 9 = .ok (.aload_n 0, 1) := by decide +kernel
theorem d_Mo_lead_10 : decode b_Mo_lead 10 = .ok (.getfield 25, 3) := by decide +kernel
theorem d_Mo_lead_13 : decode b_Mo_lead 13 = .ok (.aload_n 0, 1) := by decide +kernel
theorem d_Mo_lead_14 : decode b_Mo_lead 14 = .ok (.getfield 77, 3) := by decide +kernel
theorem d_Mo_lead_17 : decode b_Mo_lead 17 = .ok (.iconst 1, 1) := by decide +kernel
theorem d_Mo_lead_18 : decode b_Mo_lead 18 = .ok (.isub, 1) := by decide +kernel
theorem d_Mo_lead_19 : decode b_Mo_lead 19 = .ok (.iconst 1, 1) := by decide +kernel
theorem d_Mo_lead_20 : decode b_Mo_lead 20 = .ok (.bastore, 1) := by decide +kernel
theorem d_Mo_lead_21 : decode b_Mo_lead 21 = .ok (.return_, 1) := by decide +kernel
theorem d_Mo_made_0 : decode b_Mo_made 0 = .ok (.iload_n 0, 1) := by decide +kernel
theorem d_Mo_made_1 : decode b_Mo_made 1 = .ok (.iconst 2, 1) := by decide +kernel
theorem d_Mo_made_2 : decode b_Mo_made 2 = .ok (.if_icmp .ne 9, 3) := by decide +kernel
theorem d_Mo_made_5 : decode b_Mo_made 5 = .ok (.iload_n 1, 1) := by decide +kernel
theorem d_Mo_made_6 : decode b_Mo_made 6 = .ok (.iload_n 2, 1) := by decide +kernel
theorem d_Mo_made_7 : decode b_Mo_made 7 = .ok (.isub, 1) := by decide +kernel
theorem d_Mo_made_8 : decode b_Mo_made 8 = .ok (.goto 35, 3) := by decide +kernel
theorem d_Mo_made_11 : decode b_Mo_made 11 = .ok (.iload_n 0, 1) := by decide +kernel
theorem d_Mo_made_12 : decode b_Mo_made 12 = .ok (.iconst 3, 1) := by decide +kernel
theorem d_Mo_made_13 : decode b_Mo_made 13 = .ok (.if_icmp .ne 9, 3) := by decide +kernel
theorem d_Mo_made_16 : decode b_Mo_made 16 = .ok (.iload_n 1, 1) := by decide +kernel
theorem d_Mo_made_17 : decode b_Mo_made 17 = .ok (.iload_n 2, 1) := by decide +kernel
theorem d_Mo_made_18 : decode b_Mo_made 18 = .ok (.iand, 1) := by decide +kernel
theorem d_Mo_made_19 : decode b_Mo_made 19 = .ok (.goto 24, 3) := by decide +kernel
theorem d_Mo_made_22 : decode b_Mo_made 22 = .ok (.iload_n 0, 1) := by decide +kernel
theorem d_Mo_made_23 : decode b_Mo_made 23 = .ok (.iconst 4, 1) := by decide +kernel
theorem d_Mo_made_24 : decode b_Mo_made 24 = .ok (.if_icmp .ne 16, 3) := by decide +kernel
theorem d_Mo_made_27 : decode b_Mo_made 27 = .ok (.iload_n 1, 1) := by decide +kernel
theorem d_Mo_made_28 : decode b_Mo_made 28 = .ok (.iload_n 2, 1) := by decide +kernel
theorem d_Mo_made_29 : decode b_Mo_made 29 = .ok (.if_icmp .ge 7, 3) := by decide +kernel
theorem d_Mo_made_32 : decode b_Mo_made 32 = .ok (.iconst 1, 1) := by decide +kernel
theorem d_Mo_made_33 : decode b_Mo_made 33 = .ok (.goto 10, 3) := by decide +kernel
theorem d_Mo_made_36 : decode b_Mo_made 36 = .ok (.iconst 0, 1) := by decide +kernel
theorem d_Mo_made_37 : decode b_Mo_made 37 = .ok (.goto 6, 3) := by decide +kernel
theorem d_Mo_made_40 : decode b_Mo_made 40 = .ok (.iload_n 1, 1) := by decide +kernel
theorem d_Mo_made_41 : decode b_Mo_made 41 = .ok (.iload_n 2, 1) := by decide +kernel
theorem d_Mo_made_42 : decode b_Mo_made 42 = .ok (.iadd, 1) := by decide +kernel
theorem d_Mo_made_43 : decode b_Mo_made 43 = .ok (.istore_n 3, 1) := by decide +kernel
theorem d_Mo_made_44 : decode b_Mo_made 44 = .ok (.iload_n 3, 1) := by decide +kernel
theorem d_Mo_made_45 : decode b_Mo_made 45 = .ok (.invokestatic 130, 3) := by decide +kernel
theorem d_Mo_made_48 : decode b_Mo_made 48 = .ok (.ireturn, 1) := by decide +kernel
theorem d_Mo_move_0 : decode b_Mo_move 0 = .ok (.iload 4, 2) := by decide +kernel
theorem d_Mo_move_2 : decode b_Mo_move 2 = .ok (.ifCond .eq 28, 3) := by decide +kernel
theorem d_Mo_move_5 : decode b_Mo_move 5 = .ok (.aload_n 0, 1) := by decide +kernel
theorem d_Mo_move_6 : decode b_Mo_move 6 = .ok (.getfield 41, 3) := by decide +kernel
theorem d_Mo_move_9 : decode b_Mo_move 9 = .ok (.bipush 64, 2) := by decide +kernel
theorem d_Mo_move_11 : decode b_Mo_move 11 = .ok (.iload_n 1, 1) := by decide +kernel
theorem d_Mo_move_12 : decode b_Mo_move 12 = .ok (.imul, 1) := by decide +kernel
theorem d_Mo_move_13 : decode b_Mo_move 13 = .ok (.iload_n 3, 1) := by decide +kernel
theorem d_Mo_move_14 : decode b_Mo_move 14 = .ok (.iadd, 1) := by decide +kernel
theorem d_Mo_move_15 : decode b_Mo_move 15 = .ok (.aload_n 0, 1) := by decide +kernel
theorem d_Mo_move_16 : decode b_Mo_move 16 = .ok (.getfield 38, 3) := by decide +kernel
theorem d_Mo_move_19 : decode b_Mo_move 19 = .ok (.bipush 8, 2) := by decide +kernel
theorem d_Mo_move_21 : decode b_Mo_move 21 = .ok (.iload_n 1, 1) := by decide +kernel
theorem d_Mo_move_22 : decode b_Mo_move 22 = .ok (.imul, 1) := by decide +kernel
theorem d_Mo_move_23 : decode b_Mo_move 23 = .ok (.iload_n 2, 1) := by decide +kernel
theorem d_Mo_move_24 : decode b_Mo_move 24 = .ok (.iadd, 1) := by decide +kernel
theorem d_Mo_move_25 : decode b_Mo_move 25 = .ok (.iaload, 1) := by decide +kernel
theorem d_Mo_move_26 : decode b_Mo_move 26 = .ok (.iastore, 1) := by decide +kernel
theorem d_Mo_move_27 : decode b_Mo_move 27 = .ok (.goto 25, 3) := by decide +kernel
theorem d_Mo_move_30 : decode b_Mo_move 30 = .ok (.aload_n 0, 1) := by decide +kernel
theorem d_Mo_move_31 : decode b_Mo_move 31 = .ok (.getfield 38, 3) := by decide +kernel
theorem d_Mo_move_34 : decode b_Mo_move 34 = .ok (.bipush 8, 2) := by decide +kernel
theorem d_Mo_move_36 : decode b_Mo_move 36 = .ok (.iload_n 1, 1) := by decide +kernel
theorem d_Mo_move_37 : decode b_Mo_move 37 = .ok (.imul, 1) := by decide +kernel
theorem d_Mo_move_38 : decode b_Mo_move 38 = .ok (.iload_n 2, 1) := by decide +kernel
theorem d_Mo_move_39 : decode b_Mo_move 39 = .ok (.iadd, 1) := by decide +kernel
theorem d_Mo_move_40 : decode b_Mo_move 40 = .ok (.aload_n 0, 1) := by decide +kernel
theorem d_Mo_move_41 : decode b_Mo_move 41 = .ok (.getfield 41, 3) := by decide +kernel
theorem d_Mo_move_44 : decode b_Mo_move 44 = .ok (.bipush 64, 2) := by decide +kernel
theorem d_Mo_move_46 : decode b_Mo_move 46 = .ok (.iload_n 1, 1) := by decide +kernel
theorem d_Mo_move_47 : decode b_Mo_move 47 = .ok (.imul, 1) := by decide +kernel
theorem d_Mo_move_48 : decode b_Mo_move 48 = .ok (.iload_n 3, 1) := by decide +kernel
theorem d_Mo_move_49 : decode b_Mo_move 49 = .ok (.iadd, 1) := by decide +kernel
theorem d_Mo_move_50 : decode b_Mo_move 50 = .ok (.iaload, 1) := by decide +kernel
theorem d_Mo_move_51 : decode b_Mo_move 51 = .ok (.iastore, 1) := by decide +kernel
theorem d_Mo_move_52 : decode b_Mo_move 52 = .ok (.aload_n 0, 1) := by decide +kernel
theorem d_Mo_move_53 : decode b_Mo_move 53 = .ok (.iload_n 1, 1) := by decide +kernel
theorem d_Mo_move_54 : decode b_Mo_move 54 = .ok (.iload_n 3, 1) := by decide +kernel
theorem d_Mo_move_55 : decode b_Mo_move 55 = .ok (.iload 4, 2) := by decide +kernel
theorem d_Mo_move_57 : decode b_Mo_move 57 = .ok (.ifCond .eq 7, 3) := by decide +kernel
theorem d_Mo_move_60 : decode b_Mo_move 60 = .ok (.iconst 1, 1) := by decide +kernel
theorem d_Mo_move_61 : decode b_Mo_move 61 = .ok (.goto 4, 3) := by decide +kernel
theorem d_Mo_move_64 : decode b_Mo_move 64 = .ok (.iconst 0, 1) := by decide +kernel
theorem d_Mo_move_65 : decode b_Mo_move 65 = .ok (.invokevirtual 133, 3) := by decide +kernel
theorem d_Mo_move_68 : decode b_Mo_move 68 = .ok (.aload_n 0, 1) := by decide +kernel
theorem d_Mo_move_69 : decode b_Mo_move 69 = .ok (.getfield 38, 3) := by decide +kernel
theorem d_Mo_move_72 : decode b_Mo_move 72 = .ok (.bipush 8, 2) := by decide +kernel
theorem d_Mo_move_74 : decode b_Mo_move 74 = .ok (.iload_n 1, 1) := by decide +kernel
theorem d_Mo_move_75 : decode b_Mo_move 75 = .ok (.imul, 1) := by decide +kernel
theorem d_Mo_move_76 : decode b_Mo_move 76 = .ok (.iconst 0, 1) := by decide +kernel
theorem d_Mo_move_77 : decode b_Mo_move 77 = .ok (.iastore, 1) := by decide +kernel
theorem d_Mo_move_78 : decode b_Mo_move 78 = .ok (.return_, 1) := by decide +kernel
theorem d_Mo_note_0 : decode b_Mo_note 0 = .ok (.iload_n 2, 1) := by decide +kernel
theorem d_Mo_note_1 : decode b_Mo_note 1 = .ok (.bipush 31, 2) := by decide +kernel
theorem d_Mo_note_3 : decode b_Mo_note 3 = .ok (.if_icmp .gt 14, 3) := by decide +kernel
theorem d_Mo_note_6 : decode b_Mo_note 6 = .ok (.aload_n 0, 1) := by decide +kernel
theorem d_Mo_note_7 : decode b_Mo_note 7 = .ok (.getfield 53, 3) := by decide +kernel
theorem d_Mo_note_10 : decode b_Mo_note 10 = .ok (.iload_n 1, 1) := by decide +kernel
theorem d_Mo_note_11 : decode b_Mo_note 11 = .ok (.iaload, 1) := by decide +kernel
theorem d_Mo_note_12 : decode b_Mo_note 12 = .ok (.bipush 40, 2) := by decide +kernel
theorem d_Mo_note_14 : decode b_Mo_note 14 = .ok (.if_icmp .ne 4, 3) := by decide +kernel
theorem d_Mo_note_17 : decode b_Mo_note 17 = .ok (.return_, 1) := by decide +kernel
theorem d_Mo_note_18 : decode b_Mo_note 18 = .ok (.bipush 120, 2) := by decide +kernel
theorem d_Mo_note_20 : decode b_Mo_note 20 = .ok (.iload_n 1, 1) := by decide +kernel
theorem d_Mo_note_21 : decode b_Mo_note 21 = .ok (.imul, 1) := by decide +kernel
theorem d_Mo_note_22 : decode b_Mo_note 22 = .ok (.iconst 3, 1) := by decide +kernel
theorem d_Mo_note_23 : decode b_Mo_note 23 = .ok (.aload_n 0, 1) := by decide +kernel
theorem d_Mo_note_24 : decode b_Mo_note 24 = .ok (.getfield 53, 3) := by decide +kernel
theorem d_Mo_note_27 : decode b_Mo_note 27 = .ok (.iload_n 1, 1) := by decide +kernel
theorem d_Mo_note_28 : decode b_Mo_note 28 = .ok (.iaload, 1) := by decide +kernel
theorem d_Mo_note_29 : decode b_Mo_note 29 = .ok (.imul, 1) := by decide +kernel
theorem d_Mo_note_30 : decode b_Mo_note 30 = .ok (.iadd, 1) := by decide +kernel
theorem d_Mo_note_31 : decode b_Mo_note 31 = .ok (.istore 4, 2) := by decide +kernel
theorem d_Mo_note_33 : decode b_Mo_note 33 = .ok (.aload_n 0, 1) := by decide +kernel
theorem d_Mo_note_34 : decode b_Mo_note 34 = .ok (.getfield 56, 3) := by decide +kernel
theorem d_Mo_note_37 : decode b_Mo_note 37 = .ok (.iload 4, 2) := by decide +kernel
theorem d_Mo_note_39 : decode b_Mo_note 39 = .ok (.iload_n 2, 1) := by decide +kernel
theorem d_Mo_note_40 : decode b_Mo_note 40 = .ok (.iastore, 1) := by decide +kernel
theorem d_Mo_note_41 : decode b_Mo_note 41 = .ok (.aload_n 0, 1) := by decide +kernel
theorem d_Mo_note_42 : decode b_Mo_note 42 = .ok (.getfield 56, 3) := by decide +kernel
theorem d_Mo_note_45 : decode b_Mo_note 45 = .ok (.iload 4, 2) := by decide +kernel
theorem d_Mo_note_47 : decode b_Mo_note 47 = .ok (.iconst 1, 1) := by decide +kernel
theorem d_Mo_note_48 : decode b_Mo_note 48 = .ok (.iadd, 1) := by decide +kernel
theorem d_Mo_note_49 : decode b_Mo_note 49 = .ok (.iload_n 3, 1) := by decide +kernel
theorem d_Mo_note_50 : decode b_Mo_note 50 = .ok (.iastore, 1) := by decide +kernel
theorem d_Mo_note_51 : decode b_Mo_note 51 = .ok (.aload_n 0, 1) := by decide +kernel
theorem d_Mo_note_52 : decode b_Mo_note 52 = .ok (.getfield 56, 3) := by decide +kernel
theorem d_Mo_note_55 : decode b_Mo_note 55 = .ok (.iload 4, 2) := by decide +kernel
theorem d_Mo_note_57 : decode b_Mo_note 57 = .ok (.iconst 2, 1) := by decide +kernel
theorem d_Mo_note_58 : decode b_Mo_note 58 = .ok (.iadd, 1) := by decide +kernel
theorem d_Mo_note_59 : decode b_Mo_note 59 = .ok (.aload_n 0, 1) := by decide +kernel
theorem d_Mo_note_60 : decode b_Mo_note 60 = .ok (.getfield 41, 3) := by decide +kernel
theorem d_Mo_note_63 : decode b_Mo_note 63 = .ok (.bipush 64, 2) := by decide +kernel
theorem d_Mo_note_65 : decode b_Mo_note 65 = .ok (.iload_n 1, 1) := by decide +kernel
theorem d_Mo_note_66 : decode b_Mo_note 66 = .ok (.imul, 1) := by decide +kernel
theorem d_Mo_note_67 : decode b_Mo_note 67 = .ok (.iload_n 2, 1) := by decide +kernel
theorem d_Mo_note_68 : decode b_Mo_note 68 = .ok (.iadd, 1) := by decide +kernel
theorem d_Mo_note_69 : decode b_Mo_note 69 = .ok (.iaload, 1) := by decide +kernel
theorem d_Mo_note_70 : decode b_Mo_note 70 = .ok (.iastore, 1) := by decide +kernel
theorem d_Mo_note_71 : decode b_Mo_note 71 = .ok (.aload_n 0, 1) := by decide +kernel
theorem d_Mo_note_72 : decode b_Mo_note 72 = .ok (.getfield 53, 3) := by decide +kernel
theorem d_Mo_note_75 : decode b_Mo_note 75 = .ok (.iload_n 1, 1) := by decide +kernel
theorem d_Mo_note_76 : decode b_Mo_note 76 = .ok (.dup2, 1) := by decide +kernel
theorem d_Mo_note_77 : decode b_Mo_note 77 = .ok (.iaload, 1) := by decide +kernel
theorem d_Mo_note_78 : decode b_Mo_note 78 = .ok (.iconst 1, 1) := by decide +kernel
theorem d_Mo_note_79 : decode b_Mo_note 79 = .ok (.iadd, 1) := by decide +kernel
theorem d_Mo_note_80 : decode b_Mo_note 80 = .ok (.iastore, 1) := by decide +kernel
theorem d_Mo_note_81 : decode b_Mo_note 81 = .ok (.return_, 1) := by decide +kernel
theorem d_Mo_plain_0 : decode b_Mo_plain 0 = .ok (.aload_n 0, 1) := by decide +kernel
theorem d_Mo_plain_1 : decode b_Mo_plain 1 = .ok (.getfield 7, 3) := by decide +kernel
theorem d_Mo_plain_4 : decode b_Mo_plain 4 = .ok (.iload_n 1, 1) := by decide +kernel
theorem d_Mo_plain_5 : decode b_Mo_plain 5 = .ok (.iaload, 1) := by decide +kernel
theorem d_Mo_plain_6 : decode b_Mo_plain 6 = .ok (.istore_n 2, 1) := by decide +kernel
theorem d_Mo_plain_7 : decode b_Mo_plain 7 = .ok (.iload_n 2, 1) := by decide +kernel
theorem d_Mo_plain_8 : decode b_Mo_plain 8 = .ok (.ifCond .ne 14, 3) := by decide +kernel
theorem d_Mo_plain_11 : decode b_Mo_plain 11 = .ok (.aload_n 0, 1) := by decide +kernel
theorem d_Mo_plain_12 : decode b_Mo_plain 12 = .ok (.iconst 0, 1) := by decide +kernel
theorem d_Mo_plain_13 : decode b_Mo_plain 13 = .ok (.iconst 0, 1) := by decide +kernel
theorem d_Mo_plain_14 : decode b_Mo_plain 14 = .ok (.iconst 0, 1) := by decide +kernel
theorem d_Mo_plain_15 : decode b_Mo_plain 15 = .ok (.iconst 0, 1) := by decide +kernel
theorem d_Mo_plain_16 : decode b_Mo_plain 16 = .ok (.invokevirtual 95, 3) := by decide +kernel
theorem d_Mo_plain_19 : decode b_Mo_plain 19 = .ok (.goto 168, 3) := by decide +kernel
theorem d_Mo_plain_22 : decode b_Mo_plain 22 = .ok (.iload_n 2, 1) := by decide +kernel
theorem d_Mo_plain_23 : decode b_Mo_plain 23 = .ok (.iconst 5, 1) := by decide +kernel
theorem d_Mo_plain_24 : decode b_Mo_plain 24 = .ok (.if_icmp .ge 48, 3) := by decide +kernel
theorem d_Mo_plain_27 : decode b_Mo_plain 27 = .ok (.aload_n 0, 1) := by decide +kernel
theorem d_Mo_plain_28 : decode b_Mo_plain 28 = .ok (.aload_n 0, 1) := by decide +kernel
theorem d_Mo_plain_29 : decode b_Mo_plain 29 = .ok (.getfield 16, 3) := by decide +kernel
theorem d_Mo_plain_32 : decode b_Mo_plain 32 = .ok (.iload_n 1, 1) := by decide +kernel
theorem d_Mo_plain_33 : decode b_Mo_plain 33 = .ok (.iaload, 1) := by decide +kernel
theorem d_Mo_plain_34 : decode b_Mo_plain 34 = .ok (.iconst 4, 1) := by decide +kernel
theorem d_Mo_plain_35 : decode b_Mo_plain 35 = .ok (.invokevirtual 99, 3) := by decide +kernel
theorem d_Mo_plain_38 : decode b_Mo_plain 38 = .ok (.istore_n 3, 1) := by decide +kernel
theorem d_Mo_plain_39 : decode b_Mo_plain 39 = .ok (.aload_n 0, 1) := by decide +kernel
theorem d_Mo_plain_40 : decode b_Mo_plain 40 = .ok (.aload_n 0, 1) := by decide +kernel
theorem d_Mo_plain_41 : decode b_Mo_plain 41 = .ok (.getfield 19, 3) := by decide +kernel
theorem d_Mo_plain_44 : decode b_Mo_plain 44 = .ok (.iload_n 1, 1) := by decide +kernel
theorem d_Mo_plain_45 : decode b_Mo_plain 45 = .ok (.iaload, 1) := by decide +kernel
theorem d_Mo_plain_46 : decode b_Mo_plain 46 = .ok (.bipush 7, 2) := by decide +kernel
theorem d_Mo_plain_48 : decode b_Mo_plain 48 = .ok (.iand, 1) := by decide +kernel
theorem d_Mo_plain_49 : decode b_Mo_plain 49 = .ok (.iconst 5, 1) := by decide +kernel
theorem d_Mo_plain_50 : decode b_Mo_plain 50 = .ok (.invokevirtual 99, 3) := by decide +kernel
theorem d_Mo_plain_53 : decode b_Mo_plain 53 = .ok (.istore 4, 2) := by decide +kernel
theorem d_Mo_plain_55 : decode b_Mo_plain 55 = .ok (.aload_n 0, 1) := by decide +kernel
theorem d_Mo_plain_56 : decode b_Mo_plain 56 = .ok (.iload_n 2, 1) := by decide +kernel
theorem d_Mo_plain_57 : decode b_Mo_plain 57 = .ok (.aload_n 0, 1) := by decide +kernel
theorem d_Mo_plain_58 : decode b_Mo_plain 58 = .ok (.getfield 13, 3) := by decide +kernel
theorem d_Mo_plain_61 : decode b_Mo_plain 61 = .ok (.iload_n 1, 1) := by decide +kernel
theorem d_Mo_plain_62 : decode b_Mo_plain 62 = .ok (.iaload, 1) := by decide +kernel
theorem d_Mo_plain_63 : decode b_Mo_plain 63 = .ok (.iload_n 3, 1) := by decide +kernel
theorem d_Mo_plain_64 : decode b_Mo_plain 64 = .ok (.iload 4, 2) := by decide +kernel
theorem d_Mo_plain_66 : decode b_Mo_plain 66 = .ok (.invokevirtual 106, 3) := by decide +kernel
theorem d_Mo_plain_69 : decode b_Mo_plain 69 = .ok (.goto 118, 3) := by decide +kernel
theorem d_Mo_plain_72 : decode b_Mo_plain 72 = .ok (.iload_n 2, 1) := by decide +kernel
theorem d_Mo_plain_73 : decode b_Mo_plain 73 = .ok (.iconst 5, 1) := by decide +kernel
theorem d_Mo_plain_74 : decode b_Mo_plain 74 = .ok (.if_icmp .ne 36, 3) := by decide +kernel
theorem d_Mo_plain_77 : decode b_Mo_plain 77 = .ok (.aload_n 0, 1) := by decide +kernel
theorem d_Mo_plain_78 : decode b_Mo_plain 78 = .ok (.aload_n 0, 1) := by decide +kernel
theorem d_Mo_plain_79 : decode b_Mo_plain 79 = .ok (.getfield 16, 3) := by decide +kernel
theorem d_Mo_plain_82 : decode b_Mo_plain 82 = .ok (.iload_n 1, 1) := by decide +kernel
theorem d_Mo_plain_83 : decode b_Mo_plain 83 = .ok (.iaload, 1) := by decide +kernel
theorem d_Mo_plain_84 : decode b_Mo_plain 84 = .ok (.iconst 4, 1) := by decide +kernel
theorem d_Mo_plain_85 : decode b_Mo_plain 85 = .ok (.invokevirtual 99, 3) := by decide +kernel
theorem d_Mo_plain_88 : decode b_Mo_plain 88 = .ok (.istore_n 3, 1) := by decide +kernel
theorem d_Mo_plain_89 : decode b_Mo_plain 89 = .ok (.aload_n 0, 1) := by decide +kernel
theorem d_Mo_plain_90 : decode b_Mo_plain 90 = .ok (.iconst 5, 1) := by decide +kernel
theorem d_Mo_plain_91 : decode b_Mo_plain 91 = .ok (.aload_n 0, 1) := by decide +kernel
theorem d_Mo_plain_92 : decode b_Mo_plain 92 = .ok (.getfield 13, 3) := by decide +kernel
theorem d_Mo_plain_95 : decode b_Mo_plain 95 = .ok (.iload_n 1, 1) := by decide +kernel
theorem d_Mo_plain_96 : decode b_Mo_plain 96 = .ok (.iaload, 1) := by decide +kernel
theorem d_Mo_plain_97 : decode b_Mo_plain 97 = .ok (.iload_n 3, 1) := by decide +kernel
theorem d_Mo_plain_98 : decode b_Mo_plain 98 = .ok (.aload_n 0, 1) := by decide +kernel
theorem d_Mo_plain_99 : decode b_Mo_plain 99 = .ok (.getfield 19, 3) := by decide +kernel
theorem d_Mo_plain_102 : decode b_Mo_plain 102 = .ok (.iload_n 1, 1) := by decide +kernel
theorem d_Mo_plain_103 : decode b_Mo_plain 103 = .ok (.iaload, 1) := by decide +kernel
theorem d_Mo_plain_104 : decode b_Mo_plain 104 = .ok (.invokevirtual 106, 3) := by decide +kernel
theorem d_Mo_plain_107 : decode b_Mo_plain 107 = .ok (.goto 80, 3) := by decide +kernel
theorem d_Mo_plain_110 : decode b_Mo_plain 110 = .ok (.iload_n 2, 1) := by decide +kernel
theorem d_Mo_plain_111 : decode b_Mo_plain 111 = .ok (.bipush 6, 2) := by decide +kernel
theorem d_Mo_plain_113 : decode b_Mo_plain 113 = .ok (.if_icmp .ne 25, 3) := by decide +kernel
theorem d_Mo_plain_116 : decode b_Mo_plain 116 = .ok (.aload_n 0, 1) := by decide +kernel
theorem d_Mo_plain_117 : decode b_Mo_plain 117 = .ok (.bipush 6, 2) := by decide +kernel
theorem d_Mo_plain_119 : decode b_Mo_plain 119 = .ok (.aload_n 0, 1) := by decide +kernel
theorem d_Mo_plain_120 : decode b_Mo_plain 120 = .ok (.getfield 13, 3) := by decide +kernel
theorem d_Mo_plain_123 : decode b_Mo_plain 123 = .ok (.iload_n 1, 1) := by decide +kernel
theorem d_Mo_plain_124 : decode b_Mo_plain 124 = .ok (.iaload, 1) := by decide +kernel
theorem d_Mo_plain_125 : decode b_Mo_plain 125 = .ok (.iconst 0, 1) := by decide +kernel
theorem d_Mo_plain_126 : decode b_Mo_plain 126 = .ok (.aload_n 0, 1) := by decide +kernel
theorem d_Mo_plain_127 : decode b_Mo_plain 127 = .ok (.getfield 19, 3) := by decide +kernel
theorem d_Mo_plain_130 : decode b_Mo_plain 130 = .ok (.iload_n 1, 1) := by decide +kernel
theorem d_Mo_plain_131 : decode b_Mo_plain 131 = .ok (.iaload, 1) := by decide +kernel
theorem d_Mo_plain_132 : decode b_Mo_plain 132 = .ok (.invokevirtual 106, 3) := by decide +kernel
theorem d_Mo_plain_135 : decode b_Mo_plain 135 = .ok (.goto 52, 3) := by decide +kernel
theorem d_Mo_plain_138 : decode b_Mo_plain 138 = .ok (.aload_n 0, 1) := by decide +kernel
theorem d_Mo_plain_139 : decode b_Mo_plain 139 = .ok (.iload_n 1, 1) := by decide +kernel
theorem d_Mo_plain_140 : decode b_Mo_plain 140 = .ok (.invokevirtual 109, 3) := by decide +kernel
theorem d_Mo_plain_143 : decode b_Mo_plain 143 = .ok (.iload_n 2, 1) := by decide +kernel
theorem d_Mo_plain_144 : decode b_Mo_plain 144 = .ok (.bipush 7, 2) := by decide +kernel
theorem d_Mo_plain_146 : decode b_Mo_plain 146 = .ok (.if_icmp .ne 20, 3) := by decide +kernel
theorem d_Mo_plain_149 : decode b_Mo_plain 149 = .ok (.aload_n 0, 1) := by decide +kernel
theorem d_Mo_plain_150 : decode b_Mo_plain 150 = .ok (.bipush 7, 2) := by decide +kernel
theorem d_Mo_plain_152 : decode b_Mo_plain 152 = .ok (.aload_n 0, 1) := by decide +kernel
theorem d_Mo_plain_153 : decode b_Mo_plain 153 = .ok (.getfield 13, 3) := by decide +kernel
theorem d_Mo_plain_156 : decode b_Mo_plain 156 = .ok (.iload_n 1, 1) := by decide +kernel
theorem d_Mo_plain_157 : decode b_Mo_plain 157 = .ok (.iaload, 1) := by decide +kernel
theorem d_Mo_plain_158 : decode b_Mo_plain 158 = .ok (.iconst 5, 1) := by decide +kernel
theorem d_Mo_plain_159 : decode b_Mo_plain 159 = .ok (.iconst 0, 1) := by decide +kernel
theorem d_Mo_plain_160 : decode b_Mo_plain 160 = .ok (.invokevirtual 106, 3) := by decide +kernel
theorem d_Mo_plain_163 : decode b_Mo_plain 163 = .ok (.goto 24, 3) := by decide +kernel
theorem d_Mo_plain_166 : decode b_Mo_plain 166 = .ok (.aload_n 0, 1) := by decide +kernel
theorem d_Mo_plain_167 : decode b_Mo_plain 167 = .ok (.aload_n 0, 1) := by decide +kernel
theorem d_Mo_plain_168 : decode b_Mo_plain 168 = .ok (.getfield 13, 3) := by decide +kernel
theorem d_Mo_plain_171 : decode b_Mo_plain 171 = .ok (.iload_n 1, 1) := by decide +kernel
theorem d_Mo_plain_172 : decode b_Mo_plain 172 = .ok (.iaload, 1) := by decide +kernel
theorem d_Mo_plain_173 : decode b_Mo_plain 173 = .ok (.iconst 4, 1) := by decide +kernel
theorem d_Mo_plain_174 : decode b_Mo_plain 174 = .ok (.invokevirtual 99, 3) := by decide +kernel
theorem d_Mo_plain_177 : decode b_Mo_plain 177 = .ok (.istore_n 3, 1) := by decide +kernel
theorem d_Mo_plain_178 : decode b_Mo_plain 178 = .ok (.aload_n 0, 1) := by decide +kernel
theorem d_Mo_plain_179 : decode b_Mo_plain 179 = .ok (.bipush 8, 2) := by decide +kernel
theorem d_Mo_plain_181 : decode b_Mo_plain 181 = .ok (.iload_n 3, 1) := by decide +kernel
theorem d_Mo_plain_182 : decode b_Mo_plain 182 = .ok (.iconst 5, 1) := by decide +kernel
theorem d_Mo_plain_183 : decode b_Mo_plain 183 = .ok (.iconst 0, 1) := by decide +kernel
theorem d_Mo_plain_184 : decode b_Mo_plain 184 = .ok (.invokevirtual 95, 3) := by decide +kernel
theorem d_Mo_plain_187 : decode b_Mo_plain 187 = .ok (.return_, 1) := by decide +kernel
theorem d_Mo_put_0 : decode b_Mo_put 0 = .ok (.aload_n 0, 1) := by decide +kernel
theorem d_Mo_put_1 : decode b_Mo_put 1 = .ok (.getfield 22, 3) := by decide +kernel
theorem d_Mo_put_4 : decode b_Mo_put 4 = .ok (.iconst 4, 1) := by decide +kernel
theorem d_Mo_put_5 : decode b_Mo_put 5 = .ok (.aload_n 0, 1) := by decide +kernel
theorem d_Mo_put_6 : decode b_Mo_put 6 = .ok (.getfield 77, 3) := by decide +kernel
theorem d_Mo_put_9 : decode b_Mo_put 9 = .ok (.imul, 1) := by decide +kernel
theorem d_Mo_put_10 : decode b_Mo_put 10 = .ok (.iload_n 1, 1) := by decide +kernel
theorem d_Mo_put_11 : decode b_Mo_put 11 = .ok (.iastore, 1) := by decide +kernel
theorem d_Mo_put_12 : decode b_Mo_put 12 = .ok (.aload_n 0, 1) := by decide +kernel
theorem d_Mo_put_13 : decode b_Mo_put 13 = .ok (.getfield 22, 3) := by decide +kernel
theorem d_Mo_put_16 : decode b_Mo_put 16 = .ok (.iconst 4, 1) := by decide +kernel
theorem d_Mo_put_17 : decode b_Mo_put 17 = .ok (.aload_n 0, 1) := by decide +kernel
theorem d_Mo_put_18 : decode b_Mo_put 18 = .ok (.getfield 77, 3) := by decide +kernel
theorem d_Mo_put_21 : decode b_Mo_put 21 = .ok (.imul, 1) := by decide +kernel
theorem d_Mo_put_22 : decode b_Mo_put 22 = .ok (.iconst 1, 1) := by decide +kernel
theorem d_Mo_put_23 : decode b_Mo_put 23 = .ok (.iadd, 1) := by decide +kernel
theorem d_Mo_put_24 : decode b_Mo_put 24 = .ok (.iload_n 2, 1) := by decide +kernel
theorem d_Mo_put_25 : decode b_Mo_put 25 = .ok (.iastore, 1) := by decide +kernel
theorem d_Mo_put_26 : decode b_Mo_put 26 = .ok (.aload_n 0, 1) := by decide +kernel
theorem d_Mo_put_27 : decode b_Mo_put 27 = .ok (.getfield 22, 3) := by decide +kernel
theorem d_Mo_put_30 : decode b_Mo_put 30 = .ok (.iconst 4, 1) := by decide +kernel
theorem d_Mo_put_31 : decode b_Mo_put 31 = .ok (.aload_n 0, 1) := by decide +kernel
theorem d_Mo_put_32 : decode b_Mo_put 32 = .ok (.getfield 77, 3) := by decide +kernel
theorem d_Mo_put_35 : decode b_Mo_put 35 = .ok (.imul, 1) := by decide +kernel
theorem d_Mo_put_36 : decode b_Mo_put 36 = .ok (.iconst 2, 1) := by decide +kernel
theorem d_Mo_put_37 : decode b_Mo_put 37 = .ok (.iadd, 1) := by decide +kernel
theorem d_Mo_put_38 : decode b_Mo_put 38 = .ok (.iload_n 3, 1) := by decide +kernel
theorem d_Mo_put_39 : decode b_Mo_put 39 = .ok (.iastore, 1) := by decide +kernel
theorem d_Mo_put_40 : decode b_Mo_put 40 = .ok (.aload_n 0, 1) := by decide +kernel
theorem d_Mo_put_41 : decode b_Mo_put 41 = .ok (.getfield 22, 3) := by decide +kernel
theorem d_Mo_put_44 : decode b_Mo_put 44 = .ok (.iconst 4, 1) := by decide +kernel
theorem d_Mo_put_45 : decode b_Mo_put 45 = .ok (.aload_n 0, 1) := by decide +kernel
theorem d_Mo_put_46 : decode b_Mo_put 46 = .ok (.getfield 77, 3) := by decide +kernel
theorem d_Mo_put_49 : decode b_Mo_put 49 = .ok (.imul, 1) := by decide +kernel
theorem d_Mo_put_50 : decode b_Mo_put 50 = .ok (.iconst 3, 1) := by decide +kernel
theorem d_Mo_put_51 : decode b_Mo_put 51 = .ok (.iadd, 1) := by decide +kernel
theorem d_Mo_put_52 : decode b_Mo_put 52 = .ok (.iload 4, 2) := by decide +kernel
theorem d_Mo_put_54 : decode b_Mo_put 54 = .ok (.iastore, 1) := by decide +kernel
theorem d_Mo_put_55 : decode b_Mo_put 55 = .ok (.aload_n 0, 1) := by decide +kernel
theorem d_Mo_put_56 : decode b_Mo_put 56 = .ok (.getfield 25, 3) := by decide +kernel
theorem d_Mo_put_59 : decode b_Mo_put 59 = .ok (.aload_n 0, 1) := by decide +kernel
theorem d_Mo_put_60 : decode b_Mo_put 60 = .ok (.getfield 77, 3) := by decide +kernel
theorem d_Mo_put_63 : decode b_Mo_put 63 = .ok (.iconst 0, 1) := by decide +kernel
theorem d_Mo_put_64 : decode b_Mo_put 64 = .ok (.bastore, 1) := by decide +kernel
theorem d_Mo_put_65 : decode b_Mo_put 65 = .ok (.aload_n 0, 1) := by decide +kernel
theorem d_Mo_put_66 : decode b_Mo_put 66 = .ok (.dup, 1) := by decide +kernel
theorem d_Mo_put_67 : decode b_Mo_put 67 = .ok (.getfield 77, 3) := by decide +kernel
theorem d_Mo_put_70 : decode b_Mo_put 70 = .ok (.iconst 1, 1) := by decide +kernel
theorem d_Mo_put_71 : decode b_Mo_put 71 = .ok (.iadd, 1) := by decide +kernel
theorem d_Mo_put_72 : decode b_Mo_put 72 = .ok (.putfield 77, 3) := by decide +kernel
theorem d_Mo_put_75 : decode b_Mo_put 75 = .ok (.return_, 1) := by decide +kernel
theorem d_Mo_reason_0 : decode b_Mo_reason 0 = .ok (.aload_n 0, 1) := by decide +kernel
theorem d_Mo_reason_1 : decode b_Mo_reason 1 = .ok (.getfield 7, 3) := by decide +kernel
theorem d_Mo_reason_4 : decode b_Mo_reason 4 = .ok (.iload_n 1, 1) := by decide +kernel
theorem d_Mo_reason_5 : decode b_Mo_reason 5 = .ok (.iaload, 1) := by decide +kernel
theorem d_Mo_reason_6 : decode b_Mo_reason 6 = .ok (.istore_n 2, 1) := by decide +kernel
theorem d_Mo_reason_7 : decode b_Mo_reason 7 = .ok (.iload_n 2, 1) := by decide +kernel
theorem d_Mo_reason_8 : decode b_Mo_reason 8 = .ok (.bipush 13, 2) := by decide +kernel
theorem d_Mo_reason_10 : decode b_Mo_reason 10 = .ok (.if_icmp .le 5, 3) := by decide +kernel
theorem d_Mo_reason_13 : decode b_Mo_reason 13 = .ok (.iconst 1, 1) := by decide +kernel
theorem d_Mo_reason_14 : decode b_Mo_reason 14 = .ok (.ireturn, 1) := by decide +kernel
theorem d_Mo_reason_15 : decode b_Mo_reason 15 = .ok (.iload_n 2, 1) := by decide +kernel
theorem d_Mo_reason_16 : decode b_Mo_reason 16 = .ok (.invokestatic 80, 3) := by decide +kernel
theorem d_Mo_reason_19 : decode b_Mo_reason 19 = .ok (.ifCond .ne 5, 3) := by decide +kernel
theorem d_Mo_reason_22 : decode b_Mo_reason 22 = .ok (.iconst 0, 1) := by decide +kernel
theorem d_Mo_reason_23 : decode b_Mo_reason 23 = .ok (.ireturn, 1) := by decide +kernel
theorem d_Mo_reason_24 : decode b_Mo_reason 24 = .ok (.iload_n 1, 1) := by decide +kernel
theorem d_Mo_reason_25 : decode b_Mo_reason 25 = .ok (.iconst 1, 1) := by decide +kernel
theorem d_Mo_reason_26 : decode b_Mo_reason 26 = .ok (.iadd, 1) := by decide +kernel
theorem d_Mo_reason_27 : decode b_Mo_reason 27 = .ok (.aload_n 0, 1) := by decide +kernel
theorem d_Mo_reason_28 : decode b_Mo_reason 28 = .ok (.getfield 67, 3) := by decide +kernel
theorem d_Mo_reason_31 : decode b_Mo_reason 31 = .ok (.if_icmp .eq 28, 3) := by decide +kernel
theorem d_Mo_reason_34 : decode b_Mo_reason 34 = .ok (.aload_n 0, 1) := by decide +kernel
theorem d_Mo_reason_35 : decode b_Mo_reason 35 = .ok (.getfield 7, 3) := by decide +kernel
theorem d_Mo_reason_38 : decode b_Mo_reason 38 = .ok (.iload_n 1, 1) := by decide +kernel
theorem d_Mo_reason_39 : decode b_Mo_reason 39 = .ok (.iconst 1, 1) := by decide +kernel
theorem d_Mo_reason_40 : decode b_Mo_reason 40 = .ok (.iadd, 1) := by decide +kernel
theorem d_Mo_reason_41 : decode b_Mo_reason 41 = .ok (.iaload, 1) := by decide +kernel
theorem d_Mo_reason_42 : decode b_Mo_reason 42 = .ok (.invokestatic 80, 3) := by decide +kernel
theorem d_Mo_reason_45 : decode b_Mo_reason 45 = .ok (.ifCond .ne 14, 3) := by decide +kernel
theorem d_Mo_reason_48 : decode b_Mo_reason 48 = .ok (.aload_n 0, 1) := by decide +kernel
theorem d_Mo_reason_49 : decode b_Mo_reason 49 = .ok (.getfield 7, 3) := by decide +kernel
theorem d_Mo_reason_52 : decode b_Mo_reason 52 = .ok (.iload_n 1, 1) := by decide +kernel
theorem d_Mo_reason_53 : decode b_Mo_reason 53 = .ok (.iconst 1, 1) := by decide +kernel
theorem d_Mo_reason_54 : decode b_Mo_reason 54 = .ok (.iadd, 1) := by decide +kernel
theorem d_Mo_reason_55 : decode b_Mo_reason 55 = .ok (.iaload, 1) := by decide +kernel
theorem d_Mo_reason_56 : decode b_Mo_reason 56 = .ok (.ifCond .ne 5, 3) := by decide +kernel
theorem d_Mo_reason_59 : decode b_Mo_reason 59 = .ok (.iconst 2, 1) := by decide +kernel
theorem d_Mo_reason_60 : decode b_Mo_reason 60 = .ok (.ireturn, 1) := by decide +kernel
theorem d_Mo_reason_61 : decode b_Mo_reason 61 = .ok (.iload_n 2, 1) := by decide +kernel
theorem d_Mo_reason_62 : decode b_Mo_reason 62 = .ok (.bipush 13, 2) := by decide +kernel
theorem d_Mo_reason_64 : decode b_Mo_reason 64 = .ok (.if_icmp .eq 25, 3) := by decide +kernel
theorem d_Mo_reason_67 : decode b_Mo_reason 67 = .ok (.aload_n 0, 1) := by decide +kernel
theorem d_Mo_reason_68 : decode b_Mo_reason 68 = .ok (.iload_n 1, 1) := by decide +kernel
theorem d_Mo_reason_69 : decode b_Mo_reason 69 = .ok (.invokevirtual 84, 3) := by decide +kernel
theorem d_Mo_reason_72 : decode b_Mo_reason 72 = .ok (.iconst 0, 1) := by decide +kernel
theorem d_Mo_reason_73 : decode b_Mo_reason 73 = .ok (.aload_n 0, 1) := by decide +kernel
theorem d_Mo_reason_74 : decode b_Mo_reason 74 = .ok (.getfield 67, 3) := by decide +kernel
theorem d_Mo_reason_77 : decode b_Mo_reason 77 = .ok (.iconst 1, 1) := by decide +kernel
theorem d_Mo_reason_78 : decode b_Mo_reason 78 = .ok (.isub, 1) := by decide +kernel
theorem d_Mo_reason_79 : decode b_Mo_reason 79 = .ok (.invokestatic 63, 3) := by decide +kernel
theorem d_Mo_reason_82 : decode b_Mo_reason 82 = .ok (.ifCond .ne 7, 3) := by decide +kernel
theorem d_Mo_reason_85 : decode b_Mo_reason 85 = .ok (.iconst 3, 1) := by decide +kernel
theorem d_Mo_reason_86 : decode b_Mo_reason 86 = .ok (.goto 4, 3) := by decide +kernel
theorem d_Mo_reason_89 : decode b_Mo_reason 89 = .ok (.iconst 0, 1) := by decide +kernel
theorem d_Mo_reason_90 : decode b_Mo_reason 90 = .ok (.ireturn, 1) := by decide +kernel
theorem d_Mo_register_0 : decode b_Mo_register 0 = .ok (.aload_n 0, 1) := by decide +kernel
theorem d_Mo_register_1 : decode b_Mo_register 1 = .ok (.iload_n 1, 1) := by decide +kernel
theorem d_Mo_register_2 : decode b_Mo_register 2 = .ok (.iconst 1, 1) := by decide +kernel
theorem d_Mo_register_3 : decode b_Mo_register 3 = .ok (.bipush 7, 2) := by decide +kernel
theorem d_Mo_register_5 : decode b_Mo_register 5 = .ok (.invokestatic 63, 3) := by decide +kernel
theorem d_Mo_register_8 : decode b_Mo_register 8 = .ok (.ifCond .eq 14, 3) := by decide +kernel
theorem d_Mo_register_11 : decode b_Mo_register 11 = .ok (.iload_n 2, 1) := by decide +kernel
theorem d_Mo_register_12 : decode b_Mo_register 12 = .ok (.invokestatic 115, 3) := by decide +kernel
theorem d_Mo_register_15 : decode b_Mo_register 15 = .ok (.ifCond .eq 7, 3) := by decide +kernel
theorem d_Mo_register_18 : decode b_Mo_register 18 = .ok (.iconst 0, 1) := by decide +kernel
theorem d_Mo_register_19 : decode b_Mo_register 19 = .ok (.goto 4, 3) := by decide +kernel
theorem d_Mo_register_22 : decode b_Mo_register 22 = .ok (.iconst 1, 1) := by decide +kernel
theorem d_Mo_register_23 : decode b_Mo_register 23 = .ok (.putfield 59, 3) := by decide +kernel
theorem d_Mo_register_26 : decode b_Mo_register 26 = .ok (.aload_n 0, 1) := by decide +kernel
theorem d_Mo_register_27 : decode b_Mo_register 27 = .ok (.getfield 59, 3) := by decide +kernel
theorem d_Mo_register_30 : decode b_Mo_register 30 = .ok (.ifCond .ne 10, 3) := by decide +kernel
theorem d_Mo_register_33 : decode b_Mo_register 33 = .ok (.aload_n 0, 1) := by decide +kernel
theorem d_Mo_register_34 : decode b_Mo_register 34 = .ok (.getfield 32, 3) := by decide +kernel
theorem d_Mo_register_37 : decode b_Mo_register 37 = .ok (.iload_n 1, 1) := by decide +kernel
theorem d_Mo_register_38 : decode b_Mo_register 38 = .ok (.iload_n 2, 1) := by decide +kernel
theorem d_Mo_register_39 : decode b_Mo_register 39 = .ok (.iastore, 1) := by decide +kernel
theorem d_Mo_register_40 : decode b_Mo_register 40 = .ok (.return_, 1) := by decide +kernel
theorem d_Mo_result_0 : decode b_Mo_result 0 = .ok (.aload_n 0, 1) := by decide +kernel
theorem d_Mo_result_1 : decode b_Mo_result 1 = .ok (.iconst 0, 1) := by decide +kernel
theorem d_Mo_result_2 : decode b_Mo_result 2 = .ok (.putfield 59, 3) := by decide +kernel
theorem d_Mo_result_5 : decode b_Mo_result 5 = .ok (.iload_n 1, 1) := by decide +kernel
theorem d_Mo_result_6 : decode b_Mo_result 6 = .ok (.iconst 0, 1) := by decide +kernel
theorem d_Mo_result_7 : decode b_Mo_result 7 = .ok (.iconst 1, 1) := by decide +kernel
theorem d_Mo_result_8 : decode b_Mo_result 8 = .ok (.invokestatic 63, 3) := by decide +kernel
theorem d_Mo_result_11 : decode b_Mo_result 11 = .ok (.ifCond .eq 13, 3) := by decide +kernel
theorem d_Mo_result_14 : decode b_Mo_result 14 = .ok (.iload_n 2, 1) := by decide +kernel
theorem d_Mo_result_15 : decode b_Mo_result 15 = .ok (.iconst 0, 1) := by decide +kernel
theorem d_Mo_result_16 : decode b_Mo_result 16 = .ok (.bipush 11, 2) := by decide +kernel
theorem d_Mo_result_18 : decode b_Mo_result 18 = .ok (.invokestatic 63, 3) := by decide +kernel
theorem d_Mo_result_21 : decode b_Mo_result 21 = .ok (.ifCond .ne 5, 3) := by decide +kernel
theorem d_Mo_result_24 : decode b_Mo_result 24 = .ok (.iconst (-1), 1) := by decide +kernel
theorem d_Mo_result_25 : decode b_Mo_result 25 = .ok (.ireturn, 1) := by decide +kernel
theorem d_Mo_result_26 : decode b_Mo_result 26 = .ok (.iload_n 2, 1) := by decide +kernel
theorem d_Mo_result_27 : decode b_Mo_result 27 = .ok (.bipush 8, 2) := by decide +kernel
theorem d_Mo_result_29 : decode b_Mo_result 29 = .ok (.if_icmp .ge 36, 3) := by decide +kernel
theorem d_Mo_result_32 : decode b_Mo_result 32 = .ok (.iload_n 1, 1) := by decide +kernel
theorem d_Mo_result_33 : decode b_Mo_result 33 = .ok (.ifCond .eq 8, 3) := by decide +kernel
theorem d_Mo_result_36 : decode b_Mo_result 36 = .ok (.iload_n 2, 1) := by decide +kernel
theorem d_Mo_result_37 : decode b_Mo_result 37 = .ok (.iconst 4, 1) := by decide +kernel
theorem d_Mo_result_38 : decode b_Mo_result 38 = .ok (.if_icmp .ge 17, 3) := by decide +kernel
theorem d_Mo_result_41 : decode b_Mo_result 41 = .ok (.aload_n 0, 1) := by decide +kernel
theorem d_Mo_result_42 : decode b_Mo_result 42 = .ok (.getfield 38, 3) := by decide +kernel
theorem d_Mo_result_45 : decode b_Mo_result 45 = .ok (.bipush 8, 2) := by decide +kernel
theorem d_Mo_result_47 : decode b_Mo_result 47 = .ok (.iload_n 1, 1) := by decide +kernel
theorem d_Mo_result_48 : decode b_Mo_result 48 = .ok (.imul, 1) := by decide +kernel
theorem d_Mo_result_49 : decode b_Mo_result 49 = .ok (.iload_n 2, 1) := by decide +kernel
theorem d_Mo_result_50 : decode b_Mo_result 50 = .ok (.iadd, 1) := by decide +kernel
theorem d_Mo_result_51 : decode b_Mo_result 51 = .ok (.iaload, 1) := by decide +kernel
theorem d_Mo_result_52 : decode b_Mo_result 52 = .ok (.goto 12, 3) := by decide +kernel
theorem d_Mo_result_55 : decode b_Mo_result 55 = .ok (.aload_n 0, 1) := by decide +kernel
theorem d_Mo_result_56 : decode b_Mo_result 56 = .ok (.getfield 41, 3) := by decide +kernel
theorem d_Mo_result_59 : decode b_Mo_result 59 = .ok (.bipush 96, 2) := by decide +kernel
theorem d_Mo_result_61 : decode b_Mo_result 61 = .ok (.iload_n 2, 1) := by decide +kernel
theorem d_Mo_result_62 : decode b_Mo_result 62 = .ok (.iadd, 1) := by decide +kernel
theorem d_Mo_result_63 : decode b_Mo_result 63 = .ok (.iaload, 1) := by decide +kernel
theorem d_Mo_result_64 : decode b_Mo_result 64 = .ok (.ireturn, 1) := by decide +kernel
theorem d_Mo_result_65 : decode b_Mo_result 65 = .ok (.iload_n 2, 1) := by decide +kernel
theorem d_Mo_result_66 : decode b_Mo_result 66 = .ok (.bipush 8, 2) := by decide +kernel
theorem d_Mo_result_68 : decode b_Mo_result 68 = .ok (.if_icmp .ne 12, 3) := by decide +kernel
theorem d_Mo_result_71 : decode b_Mo_result 71 = .ok (.aload_n 0, 1) := by decide +kernel
theorem d_Mo_result_72 : decode b_Mo_result 72 = .ok (.getfield 44, 3) := by decide +kernel
theorem d_Mo_result_75 : decode b_Mo_result 75 = .ok (.iload_n 1, 1) := by decide +kernel
theorem d_Mo_result_76 : decode b_Mo_result 76 = .ok (.iaload, 1) := by decide +kernel
theorem d_Mo_result_77 : decode b_Mo_result 77 = .ok (.goto 39, 3) := by decide +kernel
theorem d_Mo_result_80 : decode b_Mo_result 80 = .ok (.iload_n 2, 1) := by decide +kernel
theorem d_Mo_result_81 : decode b_Mo_result 81 = .ok (.bipush 9, 2) := by decide +kernel
theorem d_Mo_result_83 : decode b_Mo_result 83 = .ok (.if_icmp .ne 12, 3) := by decide +kernel
theorem d_Mo_result_86 : decode b_Mo_result 86 = .ok (.aload_n 0, 1) := by decide +kernel
theorem d_Mo_result_87 : decode b_Mo_result 87 = .ok (.getfield 47, 3) := by decide +kernel
theorem d_Mo_result_90 : decode b_Mo_result 90 = .ok (.iload_n 1, 1) := by decide +kernel
theorem d_Mo_result_91 : decode b_Mo_result 91 = .ok (.iaload, 1) := by decide +kernel
theorem d_Mo_result_92 : decode b_Mo_result 92 = .ok (.goto 24, 3) := by decide +kernel
theorem d_Mo_result_95 : decode b_Mo_result 95 = .ok (.iload_n 2, 1) := by decide +kernel
theorem d_Mo_result_96 : decode b_Mo_result 96 = .ok (.bipush 10, 2) := by decide +kernel
theorem d_Mo_result_98 : decode b_Mo_result 98 = .ok (.if_icmp .ne 12, 3) := by decide +kernel
theorem d_Mo_result_101 : decode b_Mo_result 101 = .ok (.aload_n 0, 1) := by decide +kernel
theorem d_Mo_result_102 : decode b_Mo_result 102 = .ok (.getfield 50, 3) := by decide +kernel
theorem d_Mo_result_105 : decode b_Mo_result 105 = .ok (.iload_n 1, 1) := by decide +kernel
theorem d_Mo_result_106 : decode b_Mo_result 106 = .ok (.iaload, 1) := by decide +kernel
theorem d_Mo_result_107 : decode b_Mo_result 107 = .ok (.goto 9, 3) := by decide +kernel
theorem d_Mo_result_110 : decode b_Mo_result 110 = .ok (.aload_n 0, 1) := by decide +kernel
theorem d_Mo_result_111 : decode b_Mo_result 111 = .ok (.getfield 53, 3) := by decide +kernel
theorem d_Mo_result_114 : decode b_Mo_result 114 = .ok (.iload_n 1, 1) := by decide +kernel
theorem d_Mo_result_115 : decode b_Mo_result 115 = .ok (.iaload, 1) := by decide +kernel
theorem d_Mo_result_116 : decode b_Mo_result 116 = .ok (.ireturn, 1) := by decide +kernel
theorem d_Mo_round_0 : decode b_Mo_round 0 = .ok (.iload_n 0, 1) := by decide +kernel
theorem d_Mo_round_1 : decode b_Mo_round 1 = .ok (.i2s, 1) := by decide +kernel
theorem d_Mo_round_2 : decode b_Mo_round 2 = .ok (.ireturn, 1) := by decide +kernel
theorem d_Mo_run_0 : decode b_Mo_run 0 = .ok (.aload_n 0, 1) := by decide +kernel
theorem d_Mo_run_1 : decode b_Mo_run 1 = .ok (.iload_n 1, 1) := by decide +kernel
theorem d_Mo_run_2 : decode b_Mo_run 2 = .ok (.iconst 0, 1) := by decide +kernel
theorem d_Mo_run_3 : decode b_Mo_run 3 = .ok (.iconst 1, 1) := by decide +kernel
theorem d_Mo_run_4 : decode b_Mo_run 4 = .ok (.invokestatic 63, 3) := by decide +kernel
theorem d_Mo_run_7 : decode b_Mo_run 7 = .ok (.ifCond .eq 14, 3) := by decide +kernel
theorem d_Mo_run_10 : decode b_Mo_run 10 = .ok (.iload_n 2, 1) := by decide +kernel
theorem d_Mo_run_11 : decode b_Mo_run 11 = .ok (.iconst 0, 1) := by decide +kernel
theorem d_Mo_run_12 : decode b_Mo_run 12 = .ok (.sipush 2000, 3) := by decide +kernel
theorem d_Mo_run_15 : decode b_Mo_run 15 = .ok (.invokestatic 63, 3) := by decide +kernel
theorem d_Mo_run_18 : decode b_Mo_run 18 = .ok (.ifCond .ne 7, 3) := by decide +kernel
theorem d_Mo_run_21 : decode b_Mo_run 21 = .ok (.iconst 1, 1) := by decide +kernel
theorem d_Mo_run_22 : decode b_Mo_run 22 = .ok (.goto 20, 3) := by decide +kernel
theorem d_Mo_run_25 : decode b_Mo_run 25 = .ok (.iload_n 1, 1) := by decide +kernel
theorem d_Mo_run_26 : decode b_Mo_run 26 = .ok (.iconst 1, 1) := by decide +kernel
theorem d_Mo_run_27 : decode b_Mo_run 27 = .ok (.if_icmp .ne 14, 3) := by decide +kernel
theorem d_Mo_run_30 : decode b_Mo_run 30 = .ok (.aload_n 0, 1) := by decide +kernel
theorem d_Mo_run_31 : decode b_Mo_run 31 = .ok (.getfield 73, 3) := by decide +kernel
theorem d_Mo_run_34 : decode b_Mo_run 34 = .ok (.ifCond .ne 7, 3) := by decide +kernel
theorem d_Mo_run_37 : decode b_Mo_run 37 = .ok (.iconst 2, 1) := by decide +kernel
theorem d_Mo_run_38 : decode b_Mo_run 38 = .ok (.goto 4, 3) := by decide +kernel
theorem d_Mo_run_41 : decode b_Mo_run 41 = .ok (.iconst 0, 1) := by decide +kernel
theorem d_Mo_run_42 : decode b_Mo_run 42 = .ok (.putfield 59, 3) := by decide +kernel
theorem d_Mo_run_45 : decode b_Mo_run 45 = .ok (.aload_n 0, 1) := by decide +kernel
theorem d_Mo_run_46 : decode b_Mo_run 46 = .ok (.getfield 59, 3) := by decide +kernel
theorem d_Mo_run_49 : decode b_Mo_run 49 = .ok (.ifCond .le 5, 3) := by decide +kernel
theorem d_Mo_run_52 : decode b_Mo_run 52 = .ok (.iconst 0, 1) := by decide +kernel
theorem d_Mo_run_53 : decode b_Mo_run 53 = .ok (.ireturn, 1) := by decide +kernel
theorem d_Mo_run_54 : decode b_Mo_run 54 = .ok (.aload_n 0, 1) := by decide +kernel
theorem d_Mo_run_55 : decode b_Mo_run 55 = .ok (.iload_n 1, 1) := by decide +kernel
theorem d_Mo_run_56 : decode b_Mo_run 56 = .ok (.invokevirtual 121, 3) := by decide +kernel
theorem d_Mo_run_59 : decode b_Mo_run 59 = .ok (.aload_n 0, 1) := by decide +kernel
theorem d_Mo_run_60 : decode b_Mo_run 60 = .ok (.getfield 44, 3) := by decide +kernel
theorem d_Mo_run_63 : decode b_Mo_run 63 = .ok (.iload_n 1, 1) := by decide +kernel
theorem d_Mo_run_64 : decode b_Mo_run 64 = .ok (.iaload, 1) := by decide +kernel
theorem d_Mo_run_65 : decode b_Mo_run 65 = .ok (.ifCond .ne 31, 3) := by decide +kernel
theorem d_Mo_run_68 : decode b_Mo_run 68 = .ok (.aload_n 0, 1) := by decide +kernel
theorem d_Mo_run_69 : decode b_Mo_run 69 = .ok (.getfield 50, 3) := by decide +kernel
theorem d_Mo_run_72 : decode b_Mo_run 72 = .ok (.iload_n 1, 1) := by decide +kernel
theorem d_Mo_run_73 : decode b_Mo_run 73 = .ok (.iaload, 1) := by decide +kernel
theorem d_Mo_run_74 : decode b_Mo_run 74 = .ok (.iload_n 2, 1) := by decide +kernel
theorem d_Mo_run_75 : decode b_Mo_run 75 = .ok (.if_icmp .ge 21, 3) := by decide +kernel
theorem d_Mo_run_78 : decode b_Mo_run 78 = .ok (.iload_n 1, 1) := by decide +kernel
theorem d_Mo_run_79 : decode b_Mo_run 79 = .ok (.ifCond .ne 10, 3) := by decide +kernel
theorem d_Mo_run_82 : decode b_Mo_run 82 = .ok (.aload_n 0, 1) := by decide +kernel
theorem d_Mo_run_83 : decode b_Mo_run 83 = .ok (.invokevirtual 124, 3) := by decide +kernel
theorem d_Mo_run_86 : decode b_Mo_run 86 = .ok (.goto (-27), 3) := by decide +kernel
theorem d_Mo_run_89 : decode b_Mo_run 89 = .ok (.aload_n 0, 1) := by decide +kernel
theorem d_Mo_run_90 : decode b_Mo_run 90 = .ok (.invokevirtual 127, 3) := by decide +kernel
theorem d_Mo_run_93 : decode b_Mo_run 93 = .ok (.goto (-34), 3) := by decide +kernel
theorem d_Mo_run_96 : decode b_Mo_run 96 = .ok (.aload_n 0, 1) := by decide +kernel
theorem d_Mo_run_97 : decode b_Mo_run 97 = .ok (.getfield 50, 3) := by decide +kernel
theorem d_Mo_run_100 : decode b_Mo_run 100 = .ok (.iload_n 1, 1) := by decide +kernel
theorem d_Mo_run_101 : decode b_Mo_run 101 = .ok (.iaload, 1) := by decide +kernel
theorem d_Mo_run_102 : decode b_Mo_run 102 = .ok (.ireturn, 1) := by decide +kernel
theorem d_Mo_size_0 : decode b_Mo_size 0 = .ok (.aload_n 0, 1) := by decide +kernel
theorem d_Mo_size_1 : decode b_Mo_size 1 = .ok (.iconst 0, 1) := by decide +kernel
theorem d_Mo_size_2 : decode b_Mo_size 2 = .ok (.putfield 59, 3) := by decide +kernel
theorem d_Mo_size_5 : decode b_Mo_size 5 = .ok (.aload_n 0, 1) := by decide +kernel
theorem d_Mo_size_6 : decode b_Mo_size 6 = .ok (.getfield 77, 3) := by decide +kernel
theorem d_Mo_size_9 : decode b_Mo_size 9 = .ok (.ireturn, 1) := by decide +kernel
theorem d_Mo_source_0 : decode b_Mo_source 0 = .ok (.aload_n 0, 1) := by decide +kernel
theorem d_Mo_source_1 : decode b_Mo_source 1 = .ok (.getfield 47, 3) := by decide +kernel
theorem d_Mo_source_4 : decode b_Mo_source 4 = .ok (.iconst 0, 1) := by decide +kernel
theorem d_Mo_source_5 : decode b_Mo_source 5 = .ok (.iaload, 1) := by decide +kernel
theorem d_Mo_source_6 : decode b_Mo_source 6 = .ok (.istore_n 1, 1) := by decide +kernel
theorem d_Mo_source_7 : decode b_Mo_source 7 = .ok (.iload_n 1, 1) := by decide +kernel
theorem d_Mo_source_8 : decode b_Mo_source 8 = .ok (.iconst 0, 1) := by decide +kernel
theorem d_Mo_source_9 : decode b_Mo_source 9 = .ok (.aload_n 0, 1) := by decide +kernel
theorem d_Mo_source_10 : decode b_Mo_source 10 = .ok (.getfield 67, 3) := by decide +kernel
theorem d_Mo_source_13 : decode b_Mo_source 13 = .ok (.iconst 1, 1) := by decide +kernel
theorem d_Mo_source_14 : decode b_Mo_source 14 = .ok (.isub, 1) := by decide +kernel
theorem d_Mo_source_15 : decode b_Mo_source 15 = .ok (.invokestatic 63, 3) := by decide +kernel
theorem d_Mo_source_18 : decode b_Mo_source 18 = .ok (.ifCond .eq 12, 3) := by decide +kernel
theorem d_Mo_source_21 : decode b_Mo_source 21 = .ok (.aload_n 0, 1) := by decide +kernel
theorem d_Mo_source_22 : decode b_Mo_source 22 = .ok (.getfield 7, 3) := by decide +kernel
theorem d_Mo_source_25 : decode b_Mo_source 25 = .ok (.iload_n 1, 1) := by decide +kernel
theorem d_Mo_source_26 : decode b_Mo_source 26 = .ok (.iaload, 1) := by decide +kernel
theorem d_Mo_source_27 : decode b_Mo_source 27 = .ok (.goto 5, 3) := by decide +kernel
theorem d_Mo_source_30 : decode b_Mo_source 30 = .ok (.bipush 15, 2) := by decide +kernel
theorem d_Mo_source_32 : decode b_Mo_source 32 = .ok (.istore_n 2, 1) := by decide +kernel
theorem d_Mo_source_33 : decode b_Mo_source 33 = .ok (.iload_n 2, 1) := by decide +kernel
theorem d_Mo_source_34 : decode b_Mo_source 34 = .ok (.bipush 13, 2) := by decide +kernel
theorem d_Mo_source_36 : decode b_Mo_source 36 = .ok (.if_icmp .le 7, 3) := by decide +kernel
theorem d_Mo_source_39 : decode b_Mo_source 39 = .ok (.iconst 0, 1) := by decide +kernel
theorem d_Mo_source_40 : decode b_Mo_source 40 = .ok (.goto 14, 3) := by decide +kernel
theorem d_Mo_source_43 : decode b_Mo_source 43 = .ok (.aload_n 0, 1) := by decide +kernel
theorem d_Mo_source_44 : decode b_Mo_source 44 = .ok (.getfield 38, 3) := by decide +kernel
theorem d_Mo_source_47 : decode b_Mo_source 47 = .ok (.aload_n 0, 1) := by decide +kernel
theorem d_Mo_source_48 : decode b_Mo_source 48 = .ok (.getfield 13, 3) := by decide +kernel
theorem d_Mo_source_51 : decode b_Mo_source 51 = .ok (.iload_n 1, 1) := by decide +kernel
theorem d_Mo_source_52 : decode b_Mo_source 52 = .ok (.iaload, 1) := by decide +kernel
theorem d_Mo_source_53 : decode b_Mo_source 53 = .ok (.iaload, 1) := by decide +kernel
theorem d_Mo_source_54 : decode b_Mo_source 54 = .ok (.istore_n 3, 1) := by decide +kernel
theorem d_Mo_source_55 : decode b_Mo_source 55 = .ok (.iload_n 2, 1) := by decide +kernel
theorem d_Mo_source_56 : decode b_Mo_source 56 = .ok (.bipush 13, 2) := by decide +kernel
theorem d_Mo_source_58 : decode b_Mo_source 58 = .ok (.if_icmp .le 7, 3) := by decide +kernel
theorem d_Mo_source_61 : decode b_Mo_source 61 = .ok (.iconst 0, 1) := by decide +kernel
theorem d_Mo_source_62 : decode b_Mo_source 62 = .ok (.goto 14, 3) := by decide +kernel
theorem d_Mo_source_65 : decode b_Mo_source 65 = .ok (.aload_n 0, 1) := by decide +kernel
theorem d_Mo_source_66 : decode b_Mo_source 66 = .ok (.getfield 38, 3) := by decide +kernel
theorem d_Mo_source_69 : decode b_Mo_source 69 = .ok (.aload_n 0, 1) := by decide +kernel
theorem d_Mo_source_70 : decode b_Mo_source 70 = .ok (.getfield 16, 3) := by decide +kernel
theorem d_Mo_source_73 : decode b_Mo_source 73 = .ok (.iload_n 1, 1) := by decide +kernel
theorem d_Mo_source_74 : decode b_Mo_source 74 = .ok (.iaload, 1) := by decide +kernel
theorem d_Mo_source_75 : decode b_Mo_source 75 = .ok (.iaload, 1) := by decide +kernel
theorem d_Mo_source_76 : decode b_Mo_source 76 = .ok (.istore 4, 2) := by decide +kernel
theorem d_Mo_source_78 : decode b_Mo_source 78 = .ok (.iload_n 2, 1) := by decide +kernel
theorem d_Mo_source_79 : decode b_Mo_source 79 = .ok (.bipush 13, 2) := by decide +kernel
theorem d_Mo_source_81 : decode b_Mo_source 81 = .ok (.if_icmp .le 7, 3) := by decide +kernel
theorem d_Mo_source_84 : decode b_Mo_source 84 = .ok (.iconst 0, 1) := by decide +kernel
theorem d_Mo_source_85 : decode b_Mo_source 85 = .ok (.goto 15, 3) := by decide +kernel
theorem d_Mo_source_88 : decode b_Mo_source 88 = .ok (.iload 4, 2) := by decide +kernel
theorem d_Mo_source_90 : decode b_Mo_source 90 = .ok (.aload_n 0, 1) := by decide +kernel
theorem d_Mo_source_91 : decode b_Mo_source 91 = .ok (.getfield 19, 3) := by decide +kernel
theorem d_Mo_source_94 : decode b_Mo_source 94 = .ok (.iload_n 1, 1) := by decide +kernel
theorem d_Mo_source_95 : decode b_Mo_source 95 = .ok (.iaload, 1) := by decide +kernel
theorem d_Mo_source_96 : decode b_Mo_source 96 = .ok (.iadd, 1) := by decide +kernel
theorem d_Mo_source_97 : decode b_Mo_source 97 = .ok (.invokestatic 130, 3) := by decide +kernel
theorem d_Mo_source_100 : decode b_Mo_source 100 = .ok (.istore 5, 2) := by decide +kernel
theorem d_Mo_source_102 : decode b_Mo_source 102 = .ok (.iload_n 2, 1) := by decide +kernel
theorem d_Mo_source_103 : decode b_Mo_source 103 = .ok (.bipush 13, 2) := by decide +kernel
theorem d_Mo_source_105 : decode b_Mo_source 105 = .ok (.if_icmp .gt 26, 3) := by decide +kernel
theorem d_Mo_source_108 : decode b_Mo_source 108 = .ok (.iload_n 2, 1) := by decide +kernel
theorem d_Mo_source_109 : decode b_Mo_source 109 = .ok (.bipush 7, 2) := by decide +kernel
theorem d_Mo_source_111 : decode b_Mo_source 111 = .ok (.if_icmp .eq 9, 3) := by decide +kernel
theorem d_Mo_source_114 : decode b_Mo_source 114 = .ok (.iload_n 2, 1) := by decide +kernel
theorem d_Mo_source_115 : decode b_Mo_source 115 = .ok (.bipush 8, 2) := by decide +kernel
theorem d_Mo_source_117 : decode b_Mo_source 117 = .ok (.if_icmp .ne 22, 3) := by decide +kernel
theorem d_Mo_source_120 : decode b_Mo_source 120 = .ok (.iload 5, 2) := by decide +kernel
theorem d_Mo_source_122 : decode b_Mo_source 122 = .ok (.iconst 0, 1) := by decide +kernel
theorem d_Mo_source_123 : decode b_Mo_source 123 = .ok (.bipush 31, 2) := by decide +kernel
theorem d_Mo_source_125 : decode b_Mo_source 125 = .ok (.invokestatic 63, 3) := by decide +kernel
theorem d_Mo_source_128 : decode b_Mo_source 128 = .ok (.ifCond .ne 11, 3) := by decide +kernel
theorem d_Mo_source_131 : decode b_Mo_source 131 = .ok (.aload_n 0, 1) := by decide +kernel
theorem d_Mo_source_132 : decode b_Mo_source 132 = .ok (.getfield 44, 3) := by decide +kernel
theorem d_Mo_source_135 : decode b_Mo_source 135 = .ok (.iconst 0, 1) := by decide +kernel
theorem d_Mo_source_136 : decode b_Mo_source 136 = .ok (.iconst 2, 1) := by decide +kernel
theorem d_Mo_source_137 : decode b_Mo_source 137 = .ok (.iastore, 1) := by decide +kernel
theorem d_Mo_source_138 : decode b_Mo_source 138 = .ok (.return_, 1) := by decide +kernel
theorem d_Mo_source_139 : decode b_Mo_source 139 = .ok (.aload_n 0, 1) := by decide +kernel
theorem d_Mo_source_140 : decode b_Mo_source 140 = .ok (.getfield 50, 3) := by decide +kernel
theorem d_Mo_source_143 : decode b_Mo_source 143 = .ok (.iconst 0, 1) := by decide +kernel
theorem d_Mo_source_144 : decode b_Mo_source 144 = .ok (.dup2, 1) := by decide +kernel
theorem d_Mo_source_145 : decode b_Mo_source 145 = .ok (.iaload, 1) := by decide +kernel
theorem d_Mo_source_146 : decode b_Mo_source 146 = .ok (.iconst 1, 1) := by decide +kernel
theorem d_Mo_source_147 : decode b_Mo_source 147 = .ok (.iadd, 1) := by decide +kernel
theorem d_Mo_source_148 : decode b_Mo_source 148 = .ok (.iastore, 1) := by decide +kernel
theorem d_Mo_source_149 : decode b_Mo_source 149 = .ok (.iload_n 2, 1) := by decide +kernel
theorem d_Mo_source_150 : decode b_Mo_source 150 = .ok (.ifCond .ne 11, 3) := by decide +kernel
theorem d_Mo_source_153 : decode b_Mo_source 153 = .ok (.aload_n 0, 1) := by decide +kernel
theorem d_Mo_source_154 : decode b_Mo_source 154 = .ok (.getfield 44, 3) := by decide +kernel
theorem d_Mo_source_157 : decode b_Mo_source 157 = .ok (.iconst 0, 1) := by decide +kernel
theorem d_Mo_source_158 : decode b_Mo_source 158 = .ok (.iconst 1, 1) := by decide +kernel
theorem d_Mo_source_159 : decode b_Mo_source 159 = .ok (.iastore, 1) := by decide +kernel
theorem d_Mo_source_160 : decode b_Mo_source 160 = .ok (.return_, 1) := by decide +kernel
theorem d_Mo_source_161 : decode b_Mo_source 161 = .ok (.aload_n 0, 1) := by decide +kernel
theorem d_Mo_source_162 : decode b_Mo_source 162 = .ok (.getfield 118, 3) := by decide +kernel
theorem d_Mo_source_165 : decode b_Mo_source 165 = .ok (.iconst 1, 1) := by decide +kernel
theorem d_Mo_source_166 : decode b_Mo_source 166 = .ok (.iadd, 1) := by decide +kernel
theorem d_Mo_source_167 : decode b_Mo_source 167 = .ok (.istore 6, 2) := by decide +kernel
theorem d_Mo_source_169 : decode b_Mo_source 169 = .ok (.iload_n 2, 1) := by decide +kernel
theorem d_Mo_source_170 : decode b_Mo_source 170 = .ok (.iconst 5, 1) := by decide +kernel
theorem d_Mo_source_171 : decode b_Mo_source 171 = .ok (.if_icmp .gt 51, 3) := by decide +kernel
theorem d_Mo_source_174 : decode b_Mo_source 174 = .ok (.aload_n 0, 1) := by decide +kernel
theorem d_Mo_source_175 : decode b_Mo_source 175 = .ok (.getfield 38, 3) := by decide +kernel
theorem d_Mo_source_178 : decode b_Mo_source 178 = .ok (.aload_n 0, 1) := by decide +kernel
theorem d_Mo_source_179 : decode b_Mo_source 179 = .ok (.getfield 13, 3) := by decide +kernel
theorem d_Mo_source_182 : decode b_Mo_source 182 = .ok (.iload_n 1, 1) := by decide +kernel
theorem d_Mo_source_183 : decode b_Mo_source 183 = .ok (.iaload, 1) := by decide +kernel
theorem d_Mo_source_184 : decode b_Mo_source 184 = .ok (.iload_n 2, 1) := by decide +kernel
theorem d_Mo_source_185 : decode b_Mo_source 185 = .ok (.iload 4, 2) := by decide +kernel
theorem d_Mo_source_187 : decode b_Mo_source 187 = .ok (.iload_n 2, 1) := by decide +kernel
theorem d_Mo_source_188 : decode b_Mo_source 188 = .ok (.iconst 5, 1) := by decide +kernel
theorem d_Mo_source_189 : decode b_Mo_source 189 = .ok (.if_icmp .ne 12, 3) := by decide +kernel
theorem d_Mo_source_192 : decode b_Mo_source 192 = .ok (.aload_n 0, 1) := by decide +kernel
theorem d_Mo_source_193 : decode b_Mo_source 193 = .ok (.getfield 19, 3) := by decide +kernel
theorem d_Mo_source_196 : decode b_Mo_source 196 = .ok (.iload_n 1, 1) := by decide +kernel
theorem d_Mo_source_197 : decode b_Mo_source 197 = .ok (.iaload, 1) := by decide +kernel
theorem d_Mo_source_198 : decode b_Mo_source 198 = .ok (.goto 17, 3) := by decide +kernel
theorem d_Mo_source_201 : decode b_Mo_source 201 = .ok (.aload_n 0, 1) := by decide +kernel
theorem d_Mo_source_202 : decode b_Mo_source 202 = .ok (.getfield 38, 3) := by decide +kernel
theorem d_Mo_source_205 : decode b_Mo_source 205 = .ok (.aload_n 0, 1) := by decide +kernel
theorem d_Mo_source_206 : decode b_Mo_source 206 = .ok (.getfield 19, 3) := by decide +kernel
theorem d_Mo_source_209 : decode b_Mo_source 209 = .ok (.iload_n 1, 1) := by decide +kernel
theorem d_Mo_source_210 : decode b_Mo_source 210 = .ok (.iaload, 1) := by decide +kernel
theorem d_Mo_source_211 : decode b_Mo_source 211 = .ok (.bipush 7, 2) := by decide +kernel
theorem d_Mo_source_213 : decode b_Mo_source 213 = .ok (.iand, 1) := by decide +kernel
theorem d_Mo_source_214 : decode b_Mo_source 214 = .ok (.iaload, 1) := by decide +kernel
theorem d_Mo_source_215 : decode b_Mo_source 215 = .ok (.invokestatic 137, 3) := by decide +kernel
theorem d_Mo_source_218 : decode b_Mo_source 218 = .ok (.iastore, 1) := by decide +kernel
theorem d_Mo_source_219 : decode b_Mo_source 219 = .ok (.goto 131, 3) := by decide +kernel
theorem d_Mo_source_222 : decode b_Mo_source 222 = .ok (.iload_n 2, 1) := by decide +kernel
theorem d_Mo_source_223 : decode b_Mo_source 223 = .ok (.bipush 6, 2) := by decide +kernel
theorem d_Mo_source_225 : decode b_Mo_source 225 = .ok (.if_icmp .ne 30, 3) := by decide +kernel
theorem d_Mo_source_228 : decode b_Mo_source 228 = .ok (.aload_n 0, 1) := by decide +kernel
theorem d_Mo_source_229 : decode b_Mo_source 229 = .ok (.getfield 38, 3) := by decide +kernel
theorem d_Mo_source_232 : decode b_Mo_source 232 = .ok (.aload_n 0, 1) := by decide +kernel
theorem d_Mo_source_233 : decode b_Mo_source 233 = .ok (.getfield 13, 3) := by decide +kernel
theorem d_Mo_source_236 : decode b_Mo_source 236 = .ok (.iload_n 1, 1) := by decide +kernel
theorem d_Mo_source_237 : decode b_Mo_source 237 = .ok (.iaload, 1) := by decide +kernel
theorem d_Mo_source_238 : decode b_Mo_source 238 = .ok (.sipush 256, 3) := by decide +kernel
theorem d_Mo_source_241 : decode b_Mo_source 241 = .ok (.aload_n 0, 1) := by decide +kernel
theorem d_Mo_source_242 : decode b_Mo_source 242 = .ok (.getfield 19, 3) := by decide +kernel
theorem d_Mo_source_245 : decode b_Mo_source 245 = .ok (.iload_n 1, 1) := by decide +kernel
theorem d_Mo_source_246 : decode b_Mo_source 246 = .ok (.iaload, 1) := by decide +kernel
theorem d_Mo_source_247 : decode b_Mo_source 247 = .ok (.imul, 1) := by decide +kernel
theorem d_Mo_source_248 : decode b_Mo_source 248 = .ok (.invokestatic 130, 3) := by decide +kernel
theorem d_Mo_source_251 : decode b_Mo_source 251 = .ok (.iastore, 1) := by decide +kernel
theorem d_Mo_source_252 : decode b_Mo_source 252 = .ok (.goto 98, 3) := by decide +kernel
theorem d_Mo_source_255 : decode b_Mo_source 255 = .ok (.iload_n 2, 1) := by decide +kernel
theorem d_Mo_source_256 : decode b_Mo_source 256 = .ok (.bipush 7, 2) := by decide +kernel
theorem d_Mo_source_258 : decode b_Mo_source 258 = .ok (.if_icmp .eq 9, 3) := by decide +kernel
theorem d_Mo_source_261 : decode b_Mo_source 261 = .ok (.iload_n 2, 1) := by decide +kernel
theorem d_Mo_source_262 : decode b_Mo_source 262 = .ok (.bipush 8, 2) := by decide +kernel
theorem d_Mo_source_264 : decode b_Mo_source 264 = .ok (.if_icmp .ne 30, 3) := by decide +kernel
theorem d_Mo_source_267 : decode b_Mo_source 267 = .ok (.aload_n 0, 1) := by decide +kernel
theorem d_Mo_source_268 : decode b_Mo_source 268 = .ok (.iconst 0, 1) := by decide +kernel
theorem d_Mo_source_269 : decode b_Mo_source 269 = .ok (.aload_n 0, 1) := by decide +kernel
theorem d_Mo_source_270 : decode b_Mo_source 270 = .ok (.getfield 13, 3) := by decide +kernel
theorem d_Mo_source_273 : decode b_Mo_source 273 = .ok (.iload_n 1, 1) := by decide +kernel
theorem d_Mo_source_274 : decode b_Mo_source 274 = .ok (.iaload, 1) := by decide +kernel
theorem d_Mo_source_275 : decode b_Mo_source 275 = .ok (.iload 5, 2) := by decide +kernel
theorem d_Mo_source_277 : decode b_Mo_source 277 = .ok (.iload_n 2, 1) := by decide +kernel
theorem d_Mo_source_278 : decode b_Mo_source 278 = .ok (.bipush 8, 2) := by decide +kernel
theorem d_Mo_source_280 : decode b_Mo_source 280 = .ok (.if_icmp .ne 7, 3) := by decide +kernel
theorem d_Mo_source_283 : decode b_Mo_source 283 = .ok (.iconst 1, 1) := by decide +kernel
theorem d_Mo_source_284 : decode b_Mo_source 284 = .ok (.goto 4, 3) := by decide +kernel
theorem d_Mo_source_287 : decode b_Mo_source 287 = .ok (.iconst 0, 1) := by decide +kernel
theorem d_Mo_source_288 : decode b_Mo_source 288 = .ok (.invokevirtual 141, 3) := by decide +kernel
theorem d_Mo_source_291 : decode b_Mo_source 291 = .ok (.goto 59, 3) := by decide +kernel
theorem d_Mo_source_294 : decode b_Mo_source 294 = .ok (.iload_n 2, 1) := by decide +kernel
theorem d_Mo_source_295 : decode b_Mo_source 295 = .ok (.bipush 13, 2) := by decide +kernel
theorem d_Mo_source_297 : decode b_Mo_source 297 = .ok (.if_icmp .ne 9, 3) := by decide +kernel
theorem d_Mo_source_300 : decode b_Mo_source 300 = .ok (.iload_n 3, 1) := by decide +kernel
theorem d_Mo_source_301 : decode b_Mo_source 301 = .ok (.istore 6, 2) := by decide +kernel
theorem d_Mo_source_303 : decode b_Mo_source 303 = .ok (.goto 47, 3) := by decide +kernel
theorem d_Mo_source_306 : decode b_Mo_source 306 = .ok (.iload_n 2, 1) := by decide +kernel
theorem d_Mo_source_307 : decode b_Mo_source 307 = .ok (.bipush 11, 2) := by decide +kernel
theorem d_Mo_source_309 : decode b_Mo_source 309 = .ok (.if_icmp .eq 34, 3) := by decide +kernel
theorem d_Mo_source_312 : decode b_Mo_source 312 = .ok (.iload_n 2, 1) := by decide +kernel
theorem d_Mo_source_313 : decode b_Mo_source 313 = .ok (.bipush 12, 2) := by decide +kernel
theorem d_Mo_source_315 : decode b_Mo_source 315 = .ok (.if_icmp .eq 28, 3) := by decide +kernel
theorem d_Mo_source_318 : decode b_Mo_source 318 = .ok (.iload_n 3, 1) := by decide +kernel
theorem d_Mo_source_319 : decode b_Mo_source 319 = .ok (.iload 4, 2) := by decide +kernel
theorem d_Mo_source_321 : decode b_Mo_source 321 = .ok (.if_icmp .ne 7, 3) := by decide +kernel
theorem d_Mo_source_324 : decode b_Mo_source 324 = .ok (.iconst 1, 1) := by decide +kernel
theorem d_Mo_source_325 : decode b_Mo_source 325 = .ok (.goto 4, 3) := by decide +kernel
theorem d_Mo_source_328 : decode b_Mo_source 328 = .ok (.iconst 0, 1) := by decide +kernel
theorem d_Mo_source_329 : decode b_Mo_source 329 = .ok (.iload_n 2, 1) := by decide +kernel
theorem d_Mo_source_330 : decode b_Mo_source 330 = .ok (.bipush 9, 2) := by decide +kernel
theorem d_Mo_source_332 : decode b_Mo_source 332 = .ok (.if_icmp .ne 7, 3) := by decide +kernel
theorem d_Mo_source_335 : decode b_Mo_source 335 = .ok (.iconst 1, 1) := by decide +kernel
theorem d_Mo_source_336 : decode b_Mo_source 336 = .ok (.goto 4, 3) := by decide +kernel
theorem d_Mo_source_339 : decode b_Mo_source 339 = .ok (.iconst 0, 1) := by decide +kernel
theorem d_Mo_source_340 : decode b_Mo_source 340 = .ok (.if_icmp .ne 10, 3) := by decide +kernel
theorem d_Mo_source_343 : decode b_Mo_source 343 = .ok (.aload_n 0, 1) := by decide +kernel
theorem d_Mo_source_344 : decode b_Mo_source 344 = .ok (.iload_n 1, 1) := by decide +kernel
theorem d_Mo_source_345 : decode b_Mo_source 345 = .ok (.invokevirtual 84, 3) := by decide +kernel
theorem d_Mo_source_348 : decode b_Mo_source 348 = .ok (.istore 6, 2) := by decide +kernel
theorem d_Mo_source_350 : decode b_Mo_source 350 = .ok (.iload_n 2, 1) := by decide +kernel
theorem d_Mo_source_351 : decode b_Mo_source 351 = .ok (.bipush 12, 2) := by decide +kernel
theorem d_Mo_source_353 : decode b_Mo_source 353 = .ok (.if_icmp .ne 16, 3) := by decide +kernel
theorem d_Mo_source_356 : decode b_Mo_source 356 = .ok (.aload_n 0, 1) := by decide +kernel
theorem d_Mo_source_357 : decode b_Mo_source 357 = .ok (.getfield 38, 3) := by decide +kernel
theorem d_Mo_source_360 : decode b_Mo_source 360 = .ok (.bipush 7, 2) := by decide +kernel
theorem d_Mo_source_362 : decode b_Mo_source 362 = .ok (.iload_n 1, 1) := by decide +kernel
theorem d_Mo_source_363 : decode b_Mo_source 363 = .ok (.iconst 2, 1) := by decide +kernel
theorem d_Mo_source_364 : decode b_Mo_source 364 = .ok (.iadd, 1) := by decide +kernel
theorem d_Mo_source_365 : decode b_Mo_source 365 = .ok (.invokestatic 130, 3) := by decide +kernel
theorem d_Mo_source_368 : decode b_Mo_source 368 = .ok (.iastore, 1) := by decide +kernel
theorem d_Mo_source_369 : decode b_Mo_source 369 = .ok (.aload_n 0, 1) := by decide +kernel
theorem d_Mo_source_370 : decode b_Mo_source 370 = .ok (.getfield 38, 3) := by decide +kernel
theorem d_Mo_source_373 : decode b_Mo_source 373 = .ok (.iconst 0, 1) := by decide +kernel
theorem d_Mo_source_374 : decode b_Mo_source 374 = .ok (.iconst 0, 1) := by decide +kernel
theorem d_Mo_source_375 : decode b_Mo_source 375 = .ok (.iastore, 1) := by decide +kernel
theorem d_Mo_source_376 : decode b_Mo_source 376 = .ok (.aload_n 0, 1) := by decide +kernel
theorem d_Mo_source_377 : decode b_Mo_source 377 = .ok (.getfield 47, 3) := by decide +kernel
theorem d_Mo_source_380 : decode b_Mo_source 380 = .ok (.iconst 0, 1) := by decide +kernel
theorem d_Mo_source_381 : decode b_Mo_source 381 = .ok (.aload_n 0, 1) := by decide +kernel
theorem d_Mo_source_382 : decode b_Mo_source 382 = .ok (.getfield 118, 3) := by decide +kernel
theorem d_Mo_source_385 : decode b_Mo_source 385 = .ok (.iastore, 1) := by decide +kernel
theorem d_Mo_source_386 : decode b_Mo_source 386 = .ok (.aload_n 0, 1) := by decide +kernel
theorem d_Mo_source_387 : decode b_Mo_source 387 = .ok (.iload 6, 2) := by decide +kernel
theorem d_Mo_source_389 : decode b_Mo_source 389 = .ok (.putfield 118, 3) := by decide +kernel
theorem d_Mo_source_392 : decode b_Mo_source 392 = .ok (.return_, 1) := by decide +kernel
theorem d_Mo_target_0 : decode b_Mo_target 0 = .ok (.aload_n 0, 1) := by decide +kernel
theorem d_Mo_target_1 : decode b_Mo_target 1 = .ok (.getfield 47, 3) := by decide +kernel
theorem d_Mo_target_4 : decode b_Mo_target 4 = .ok (.iconst 1, 1) := by decide +kernel
theorem d_Mo_target_5 : decode b_Mo_target 5 = .ok (.iaload, 1) := by decide +kernel
theorem d_Mo_target_6 : decode b_Mo_target 6 = .ok (.istore_n 1, 1) := by decide +kernel
theorem d_Mo_target_7 : decode b_Mo_target 7 = .ok (.aload_n 0, 1) := by decide +kernel
theorem d_Mo_target_8 : decode b_Mo_target 8 = .ok (.getfield 22, 3) := by decide +kernel
theorem d_Mo_target_11 : decode b_Mo_target 11 = .ok (.iconst 4, 1) := by decide +kernel
theorem d_Mo_target_12 : decode b_Mo_target 12 = .ok (.iload_n 1, 1) := by decide +kernel
theorem d_Mo_target_13 : decode b_Mo_target 13 = .ok (.imul, 1) := by decide +kernel
theorem d_Mo_target_14 : decode b_Mo_target 14 = .ok (.iaload, 1) := by decide +kernel
theorem d_Mo_target_15 : decode b_Mo_target 15 = .ok (.istore_n 2, 1) := by decide +kernel
theorem d_Mo_target_16 : decode b_Mo_target 16 = .ok (.aload_n 0, 1) := by decide +kernel
theorem d_Mo_target_17 : decode b_Mo_target 17 = .ok (.getfield 22, 3) := by decide +kernel
theorem d_Mo_target_20 : decode b_Mo_target 20 = .ok (.iconst 4, 1) := by decide +kernel
theorem d_Mo_target_21 : decode b_Mo_target 21 = .ok (.iload_n 1, 1) := by decide +kernel
theorem d_Mo_target_22 : decode b_Mo_target 22 = .ok (.imul, 1) := by decide +kernel
theorem d_Mo_target_23 : decode b_Mo_target 23 = .ok (.iconst 1, 1) := by decide +kernel
theorem d_Mo_target_24 : decode b_Mo_target 24 = .ok (.iadd, 1) := by decide +kernel
theorem d_Mo_target_25 : decode b_Mo_target 25 = .ok (.iaload, 1) := by decide +kernel
theorem d_Mo_target_26 : decode b_Mo_target 26 = .ok (.istore_n 3, 1) := by decide +kernel
theorem d_Mo_target_27 : decode b_Mo_target 27 = .ok (.aload_n 0, 1) := by decide +kernel
theorem d_Mo_target_28 : decode b_Mo_target 28 = .ok (.getfield 22, 3) := by decide +kernel
theorem d_Mo_target_31 : decode b_Mo_target 31 = .ok (.iconst 4, 1) := by decide +kernel
theorem d_Mo_target_32 : decode b_Mo_target 32 = .ok (.iload_n 1, 1) := by decide +kernel
theorem d_Mo_target_33 : decode b_Mo_target 33 = .ok (.imul, 1) := by decide +kernel
theorem d_Mo_target_34 : decode b_Mo_target 34 = .ok (.iconst 2, 1) := by decide +kernel
theorem d_Mo_target_35 : decode b_Mo_target 35 = .ok (.iadd, 1) := by decide +kernel
theorem d_Mo_target_36 : decode b_Mo_target 36 = .ok (.iaload, 1) := by decide +kernel
theorem d_Mo_target_37 : decode b_Mo_target 37 = .ok (.istore 4, 2) := by decide +kernel
theorem d_Mo_target_39 : decode b_Mo_target 39 = .ok (.aload_n 0, 1) := by decide +kernel
theorem d_Mo_target_40 : decode b_Mo_target 40 = .ok (.getfield 22, 3) := by decide +kernel
theorem d_Mo_target_43 : decode b_Mo_target 43 = .ok (.iconst 4, 1) := by decide +kernel
theorem d_Mo_target_44 : decode b_Mo_target 44 = .ok (.iload_n 1, 1) := by decide +kernel
theorem d_Mo_target_45 : decode b_Mo_target 45 = .ok (.imul, 1) := by decide +kernel
theorem d_Mo_target_46 : decode b_Mo_target 46 = .ok (.iconst 3, 1) := by decide +kernel
theorem d_Mo_target_47 : decode b_Mo_target 47 = .ok (.iadd, 1) := by decide +kernel
theorem d_Mo_target_48 : decode b_Mo_target 48 = .ok (.iaload, 1) := by decide +kernel
theorem d_Mo_target_49 : decode b_Mo_target 49 = .ok (.istore 5, 2) := by decide +kernel
theorem d_Mo_target_51 : decode b_Mo_target 51 = .ok (.aload_n 0, 1) := by decide +kernel
theorem d_Mo_target_52 : decode b_Mo_target 52 = .ok (.getfield 38, 3) := by decide +kernel
theorem d_Mo_target_55 : decode b_Mo_target 55 = .ok (.bipush 8, 2) := by decide +kernel
theorem d_Mo_target_57 : decode b_Mo_target 57 = .ok (.iload_n 3, 1) := by decide +kernel
theorem d_Mo_target_58 : decode b_Mo_target 58 = .ok (.iadd, 1) := by decide +kernel
theorem d_Mo_target_59 : decode b_Mo_target 59 = .ok (.iaload, 1) := by decide +kernel
theorem d_Mo_target_60 : decode b_Mo_target 60 = .ok (.istore 6, 2) := by decide +kernel
theorem d_Mo_target_62 : decode b_Mo_target 62 = .ok (.aload_n 0, 1) := by decide +kernel
theorem d_Mo_target_63 : decode b_Mo_target 63 = .ok (.getfield 38, 3) := by decide +kernel
theorem d_Mo_target_66 : decode b_Mo_target 66 = .ok (.bipush 8, 2) := by decide +kernel
theorem d_Mo_target_68 : decode b_Mo_target 68 = .ok (.iload 4, 2) := by decide +kernel
theorem d_Mo_target_70 : decode b_Mo_target 70 = .ok (.iadd, 1) := by decide +kernel
theorem d_Mo_target_71 : decode b_Mo_target 71 = .ok (.iaload, 1) := by decide +kernel
theorem d_Mo_target_72 : decode b_Mo_target 72 = .ok (.istore 7, 2) := by decide +kernel
theorem d_Mo_target_74 : decode b_Mo_target 74 = .ok (.aload_n 0, 1) := by decide +kernel
theorem d_Mo_target_75 : decode b_Mo_target 75 = .ok (.getfield 50, 3) := by decide +kernel
theorem d_Mo_target_78 : decode b_Mo_target 78 = .ok (.iconst 1, 1) := by decide +kernel
theorem d_Mo_target_79 : decode b_Mo_target 79 = .ok (.dup2, 1) := by decide +kernel
theorem d_Mo_target_80 : decode b_Mo_target 80 = .ok (.iaload, 1) := by decide +kernel
theorem d_Mo_target_81 : decode b_Mo_target 81 = .ok (.iconst 1, 1) := by decide +kernel
theorem d_Mo_target_82 : decode b_Mo_target 82 = .ok (.iadd, 1) := by decide +kernel
theorem d_Mo_target_83 : decode b_Mo_target 83 = .ok (.iastore, 1) := by decide +kernel
theorem d_Mo_target_84 : decode b_Mo_target 84 = .ok (.iload_n 2, 1) := by decide +kernel
theorem d_Mo_target_85 : decode b_Mo_target 85 = .ok (.ifCond .ne 20, 3) := by decide +kernel
theorem d_Mo_target_88 : decode b_Mo_target 88 = .ok (.aload_n 0, 1) := by decide +kernel
theorem d_Mo_target_89 : decode b_Mo_target 89 = .ok (.getfield 44, 3) := by decide +kernel
theorem d_Mo_target_92 : decode b_Mo_target 92 = .ok (.iconst 1, 1) := by decide +kernel
theorem d_Mo_target_93 : decode b_Mo_target 93 = .ok (.iload 5, 2) := by decide +kernel
theorem d_Mo_target_95 : decode b_Mo_target 95 = .ok (.ifCond .ne 7, 3) := by decide +kernel
theorem d_Mo_target_98 : decode b_Mo_target 98 = .ok (.iconst 1, 1) := by decide +kernel
theorem d_Mo_target_99 : decode b_Mo_target 99 = .ok (.goto 4, 3) := by decide +kernel
theorem d_Mo_target_102 : decode b_Mo_target 102 = .ok (.iconst 2, 1) := by decide +kernel
theorem d_Mo_target_103 : decode b_Mo_target 103 = .ok (.iastore, 1) := by decide +kernel
theorem d_Mo_target_104 : decode b_Mo_target 104 = .ok (.return_, 1) := by decide +kernel
theorem d_Mo_target_105 : decode b_Mo_target 105 = .ok (.iload_n 2, 1) := by decide +kernel
theorem d_Mo_target_106 : decode b_Mo_target 106 = .ok (.bipush 9, 2) := by decide +kernel
theorem d_Mo_target_108 : decode b_Mo_target 108 = .ok (.if_icmp .ne 10, 3) := by decide +kernel
theorem d_Mo_target_111 : decode b_Mo_target 111 = .ok (.iload 6, 2) := by decide +kernel
theorem d_Mo_target_113 : decode b_Mo_target 113 = .ok (.iload 7, 2) := by decide +kernel
theorem d_Mo_target_115 : decode b_Mo_target 115 = .ok (.if_icmp .eq 41, 3) := by decide +kernel
theorem d_Mo_target_118 : decode b_Mo_target 118 = .ok (.iload_n 2, 1) := by decide +kernel
theorem d_Mo_target_119 : decode b_Mo_target 119 = .ok (.bipush 10, 2) := by decide +kernel
theorem d_Mo_target_121 : decode b_Mo_target 121 = .ok (.if_icmp .ne 10, 3) := by decide +kernel
theorem d_Mo_target_124 : decode b_Mo_target 124 = .ok (.iload 6, 2) := by decide +kernel
theorem d_Mo_target_126 : decode b_Mo_target 126 = .ok (.iload 7, 2) := by decide +kernel
theorem d_Mo_target_128 : decode b_Mo_target 128 = .ok (.if_icmp .ne 28, 3) := by decide +kernel
theorem d_Mo_target_131 : decode b_Mo_target 131 = .ok (.iload_n 2, 1) := by decide +kernel
theorem d_Mo_target_132 : decode b_Mo_target 132 = .ok (.bipush 11, 2) := by decide +kernel
theorem d_Mo_target_134 : decode b_Mo_target 134 = .ok (.if_icmp .eq 22, 3) := by decide +kernel
theorem d_Mo_target_137 : decode b_Mo_target 137 = .ok (.iload_n 2, 1) := by decide +kernel
theorem d_Mo_target_138 : decode b_Mo_target 138 = .ok (.bipush 12, 2) := by decide +kernel
theorem d_Mo_target_140 : decode b_Mo_target 140 = .ok (.if_icmp .ne 20, 3) := by decide +kernel
theorem d_Mo_target_143 : decode b_Mo_target 143 = .ok (.iload 6, 2) := by decide +kernel
theorem d_Mo_target_145 : decode b_Mo_target 145 = .ok (.ldc 145, 2) := by decide +kernel
theorem d_Mo_target_147 : decode b_Mo_target 147 = .ok (.iand, 1) := by decide +kernel
theorem d_Mo_target_148 : decode b_Mo_target 148 = .ok (.iload 7, 2) := by decide +kernel
theorem d_Mo_target_150 : decode b_Mo_target 150 = .ok (.ldc 145, 2) := by decide +kernel
theorem d_Mo_target_152 : decode b_Mo_target 152 = .ok (.iand, 1) := by decide +kernel
theorem d_Mo_target_153 : decode b_Mo_target 153 = .ok (.if_icmp .lt 7, 3) := by decide +kernel
theorem d_Mo_target_156 : decode b_Mo_target 156 = .ok (.iconst 1, 1) := by decide +kernel
theorem d_Mo_target_157 : decode b_Mo_target 157 = .ok (.goto 4, 3) := by decide +kernel
theorem d_Mo_target_160 : decode b_Mo_target 160 = .ok (.iconst 0, 1) := by decide +kernel
theorem d_Mo_target_161 : decode b_Mo_target 161 = .ok (.istore 8, 2) := by decide +kernel
theorem d_Mo_target_163 : decode b_Mo_target 163 = .ok (.aload_n 0, 1) := by decide +kernel
theorem d_Mo_target_164 : decode b_Mo_target 164 = .ok (.getfield 47, 3) := by decide +kernel
theorem d_Mo_target_167 : decode b_Mo_target 167 = .ok (.iconst 1, 1) := by decide +kernel
theorem d_Mo_target_168 : decode b_Mo_target 168 = .ok (.iload 8, 2) := by decide +kernel
theorem d_Mo_target_170 : decode b_Mo_target 170 = .ok (.ifCond .eq 8, 3) := by decide +kernel
theorem d_Mo_target_173 : decode b_Mo_target 173 = .ok (.iload 5, 2) := by decide +kernel
theorem d_Mo_target_175 : decode b_Mo_target 175 = .ok (.goto 17, 3) := by decide +kernel
theorem d_Mo_target_178 : decode b_Mo_target 178 = .ok (.iload_n 2, 1) := by decide +kernel
theorem d_Mo_target_179 : decode b_Mo_target 179 = .ok (.bipush 13, 2) := by decide +kernel
theorem d_Mo_target_181 : decode b_Mo_target 181 = .ok (.if_icmp .ne 8, 3) := by decide +kernel
theorem d_Mo_target_184 : decode b_Mo_target 184 = .ok (.iload 6, 2) := by decide +kernel
theorem d_Mo_target_186 : decode b_Mo_target 186 = .ok (.goto 6, 3) := by decide +kernel
theorem d_Mo_target_189 : decode b_Mo_target 189 = .ok (.iload_n 1, 1) := by decide +kernel
theorem d_Mo_target_190 : decode b_Mo_target 190 = .ok (.iconst 1, 1) := by decide +kernel
theorem d_Mo_target_191 : decode b_Mo_target 191 = .ok (.iadd, 1) := by decide +kernel
theorem d_Mo_target_192 : decode b_Mo_target 192 = .ok (.iastore, 1) := by decide +kernel
theorem d_Mo_target_193 : decode b_Mo_target 193 = .ok (.iload_n 2, 1) := by decide +kernel
theorem d_Mo_target_194 : decode b_Mo_target 194 = .ok (.iconst 5, 1) := by decide +kernel
theorem d_Mo_target_195 : decode b_Mo_target 195 = .ok (.if_icmp .ge 31, 3) := by decide +kernel
theorem d_Mo_target_198 : decode b_Mo_target 198 = .ok (.aload_n 0, 1) := by decide +kernel
theorem d_Mo_target_199 : decode b_Mo_target 199 = .ok (.getfield 38, 3) := by decide +kernel
theorem d_Mo_target_202 : decode b_Mo_target 202 = .ok (.bipush 8, 2) := by decide +kernel
theorem d_Mo_target_204 : decode b_Mo_target 204 = .ok (.iload_n 3, 1) := by decide +kernel
theorem d_Mo_target_205 : decode b_Mo_target 205 = .ok (.iadd, 1) := by decide +kernel
theorem d_Mo_target_206 : decode b_Mo_target 206 = .ok (.iload_n 2, 1) := by decide +kernel
theorem d_Mo_target_207 : decode b_Mo_target 207 = .ok (.iload 7, 2) := by decide +kernel
theorem d_Mo_target_209 : decode b_Mo_target 209 = .ok (.aload_n 0, 1) := by decide +kernel
theorem d_Mo_target_210 : decode b_Mo_target 210 = .ok (.getfield 38, 3) := by decide +kernel
theorem d_Mo_target_213 : decode b_Mo_target 213 = .ok (.bipush 8, 2) := by decide +kernel
theorem d_Mo_target_215 : decode b_Mo_target 215 = .ok (.iload 5, 2) := by decide +kernel
theorem d_Mo_target_217 : decode b_Mo_target 217 = .ok (.iadd, 1) := by decide +kernel
theorem d_Mo_target_218 : decode b_Mo_target 218 = .ok (.iaload, 1) := by decide +kernel
theorem d_Mo_target_219 : decode b_Mo_target 219 = .ok (.invokestatic 137, 3) := by decide +kernel
theorem d_Mo_target_222 : decode b_Mo_target 222 = .ok (.iastore, 1) := by decide +kernel
theorem d_Mo_target_223 : decode b_Mo_target 223 = .ok (.goto 92, 3) := by decide +kernel
theorem d_Mo_target_226 : decode b_Mo_target 226 = .ok (.iload_n 2, 1) := by decide +kernel
theorem d_Mo_target_227 : decode b_Mo_target 227 = .ok (.iconst 5, 1) := by decide +kernel
theorem d_Mo_target_228 : decode b_Mo_target 228 = .ok (.if_icmp .ne 23, 3) := by decide +kernel
theorem d_Mo_target_231 : decode b_Mo_target 231 = .ok (.aload_n 0, 1) := by decide +kernel
theorem d_Mo_target_232 : decode b_Mo_target 232 = .ok (.getfield 38, 3) := by decide +kernel
theorem d_Mo_target_235 : decode b_Mo_target 235 = .ok (.bipush 8, 2) := by decide +kernel
theorem d_Mo_target_237 : decode b_Mo_target 237 = .ok (.iload_n 3, 1) := by decide +kernel
theorem d_Mo_target_238 : decode b_Mo_target 238 = .ok (.iadd, 1) := by decide +kernel
theorem d_Mo_target_239 : decode b_Mo_target 239 = .ok (.iload_n 2, 1) := by decide +kernel
theorem d_Mo_target_240 : decode b_Mo_target 240 = .ok (.iload 7, 2) := by decide +kernel
theorem d_Mo_target_242 : decode b_Mo_target 242 = .ok (.iload 5, 2) := by decide +kernel
theorem d_Mo_target_244 : decode b_Mo_target 244 = .ok (.invokestatic 137, 3) := by decide +kernel
theorem d_Mo_target_247 : decode b_Mo_target 247 = .ok (.iastore, 1) := by decide +kernel
theorem d_Mo_target_248 : decode b_Mo_target 248 = .ok (.goto 67, 3) := by decide +kernel
theorem d_Mo_target_251 : decode b_Mo_target 251 = .ok (.iload_n 2, 1) := by decide +kernel
theorem d_Mo_target_252 : decode b_Mo_target 252 = .ok (.bipush 6, 2) := by decide +kernel
theorem d_Mo_target_254 : decode b_Mo_target 254 = .ok (.if_icmp .ne 24, 3) := by decide +kernel
theorem d_Mo_target_257 : decode b_Mo_target 257 = .ok (.aload_n 0, 1) := by decide +kernel
theorem d_Mo_target_258 : decode b_Mo_target 258 = .ok (.getfield 38, 3) := by decide +kernel
theorem d_Mo_target_261 : decode b_Mo_target 261 = .ok (.bipush 8, 2) := by decide +kernel
theorem d_Mo_target_263 : decode b_Mo_target 263 = .ok (.iload_n 3, 1) := by decide +kernel
theorem d_Mo_target_264 : decode b_Mo_target 264 = .ok (.iadd, 1) := by decide +kernel
theorem d_Mo_target_265 : decode b_Mo_target 265 = .ok (.sipush 256, 3) := by decide +kernel
theorem d_Mo_target_268 : decode b_Mo_target 268 = .ok (.iload 5, 2) := by decide +kernel
theorem d_Mo_target_270 : decode b_Mo_target 270 = .ok (.imul, 1) := by decide +kernel
theorem d_Mo_target_271 : decode b_Mo_target 271 = .ok (.invokestatic 130, 3) := by decide +kernel
theorem d_Mo_target_274 : decode b_Mo_target 274 = .ok (.iastore, 1) := by decide +kernel
theorem d_Mo_target_275 : decode b_Mo_target 275 = .ok (.goto 40, 3) := by decide +kernel
theorem d_Mo_target_278 : decode b_Mo_target 278 = .ok (.iload_n 2, 1) := by decide +kernel
theorem d_Mo_target_279 : decode b_Mo_target 279 = .ok (.bipush 7, 2) := by decide +kernel
theorem d_Mo_target_281 : decode b_Mo_target 281 = .ok (.if_icmp .eq 9, 3) := by decide +kernel
theorem d_Mo_target_284 : decode b_Mo_target 284 = .ok (.iload_n 2, 1) := by decide +kernel
theorem d_Mo_target_285 : decode b_Mo_target 285 = .ok (.bipush 8, 2) := by decide +kernel
theorem d_Mo_target_287 : decode b_Mo_target 287 = .ok (.if_icmp .ne 28, 3) := by decide +kernel
theorem d_Mo_target_290 : decode b_Mo_target 290 = .ok (.aload_n 0, 1) := by decide +kernel
theorem d_Mo_target_291 : decode b_Mo_target 291 = .ok (.iconst 1, 1) := by decide +kernel
theorem d_Mo_target_292 : decode b_Mo_target 292 = .ok (.iload_n 3, 1) := by decide +kernel
theorem d_Mo_target_293 : decode b_Mo_target 293 = .ok (.iload 7, 2) := by decide +kernel
theorem d_Mo_target_295 : decode b_Mo_target 295 = .ok (.iload 5, 2) := by decide +kernel
theorem d_Mo_target_297 : decode b_Mo_target 297 = .ok (.iadd, 1) := by decide +kernel
theorem d_Mo_target_298 : decode b_Mo_target 298 = .ok (.invokestatic 130, 3) := by decide +kernel
theorem d_Mo_target_301 : decode b_Mo_target 301 = .ok (.iload_n 2, 1) := by decide +kernel
theorem d_Mo_target_302 : decode b_Mo_target 302 = .ok (.bipush 8, 2) := by decide +kernel
theorem d_Mo_target_304 : decode b_Mo_target 304 = .ok (.if_icmp .ne 7, 3) := by decide +kernel
theorem d_Mo_target_307 : decode b_Mo_target 307 = .ok (.iconst 1, 1) := by decide +kernel
theorem d_Mo_target_308 : decode b_Mo_target 308 = .ok (.goto 4, 3) := by decide +kernel
theorem d_Mo_target_311 : decode b_Mo_target 311 = .ok (.iconst 0, 1) := by decide +kernel
theorem d_Mo_target_312 : decode b_Mo_target 312 = .ok (.invokevirtual 141, 3) := by decide +kernel
theorem d_Mo_target_315 : decode b_Mo_target 315 = .ok (.aload_n 0, 1) := by decide +kernel
theorem d_Mo_target_316 : decode b_Mo_target 316 = .ok (.getfield 38, 3) := by decide +kernel
theorem d_Mo_target_319 : decode b_Mo_target 319 = .ok (.bipush 8, 2) := by decide +kernel
theorem d_Mo_target_321 : decode b_Mo_target 321 = .ok (.iconst 0, 1) := by decide +kernel
theorem d_Mo_target_322 : decode b_Mo_target 322 = .ok (.iastore, 1) := by decide +kernel
theorem d_Mo_target_323 : decode b_Mo_target 323 = .ok (.return_, 1) := by decide +kernel
theorem d_Mo_thrown_0 : decode b_Mo_thrown 0 = .ok (.aload_n 0, 1) := by decide +kernel
theorem d_Mo_thrown_1 : decode b_Mo_thrown 1 = .ok (.getfield 59, 3) := by decide +kernel
theorem d_Mo_thrown_4 : decode b_Mo_thrown 4 = .ok (.ireturn, 1) := by decide +kernel
theorem d_Mo_translate_0 : decode b_Mo_translate 0 = .ok (.aload_n 0, 1) := by decide +kernel
theorem d_Mo_translate_1 : decode b_Mo_translate 1 = .ok (.iconst 0, 1) := by decide +kernel
theorem d_Mo_translate_2 : decode b_Mo_translate 2 = .ok (.putfield 59, 3) := by decide +kernel
theorem d_Mo_translate_5 : decode b_Mo_translate 5 = .ok (.aload_n 0, 1) := by decide +kernel
theorem d_Mo_translate_6 : decode b_Mo_translate 6 = .ok (.invokevirtual 70, 3) := by decide +kernel
theorem d_Mo_translate_9 : decode b_Mo_translate 9 = .ok (.iconst 0, 1) := by decide +kernel
theorem d_Mo_translate_10 : decode b_Mo_translate 10 = .ok (.istore_n 1, 1) := by decide +kernel
theorem d_Mo_translate_11 : decode b_Mo_translate 11 = .ok (.iload_n 1, 1) := by decide +kernel
theorem d_Mo_translate_12 : decode b_Mo_translate 12 = .ok (.aload_n 0, 1) := by decide +kernel
theorem d_Mo_translate_13 : decode b_Mo_translate 13 = .ok (.getfield 67, 3) := by decide +kernel
theorem d_Mo_translate_16 : decode b_Mo_translate 16 = .ok (.if_icmp .ge 28, 3) := by decide +kernel
theorem d_Mo_translate_19 : decode b_Mo_translate 19 = .ok (.aload_n 0, 1) := by decide +kernel
theorem d_Mo_translate_20 : decode b_Mo_translate 20 = .ok (.iload_n 1, 1) := by decide +kernel
theorem d_Mo_translate_21 : decode b_Mo_translate 21 = .ok (.invokevirtual 88, 3) := by decide +kernel
theorem d_Mo_translate_24 : decode b_Mo_translate 24 = .ok (.ifCond .le 14, 3) := by decide +kernel
theorem d_Mo_translate_27 : decode b_Mo_translate 27 = .ok (.aload_n 0, 1) := by decide +kernel
theorem d_Mo_translate_28 : decode b_Mo_translate 28 = .ok (.iload_n 1, 1) := by decide +kernel
theorem d_Mo_translate_29 : decode b_Mo_translate 29 = .ok (.invokevirtual 88, 3) := by decide +kernel
theorem d_Mo_translate_32 : decode b_Mo_translate 32 = .ok (.bipush 16, 2) := by decide +kernel
theorem d_Mo_translate_34 : decode b_Mo_translate 34 = .ok (.iload_n 1, 1) := by decide +kernel
theorem d_Mo_translate_35 : decode b_Mo_translate 35 = .ok (.imul, 1) := by decide +kernel
theorem d_Mo_translate_36 : decode b_Mo_translate 36 = .ok (.iadd, 1) := by decide +kernel
theorem d_Mo_translate_37 : decode b_Mo_translate 37 = .ok (.ireturn, 1) := by decide +kernel
theorem d_Mo_translate_38 : decode b_Mo_translate 38 = .ok (.iinc 1 1, 3) := by decide +kernel
theorem d_Mo_translate_41 : decode b_Mo_translate 41 = .ok (.goto (-30), 3) := by decide +kernel
theorem d_Mo_translate_44 : decode b_Mo_translate 44 = .ok (.iconst 0, 1) := by decide +kernel
theorem d_Mo_translate_45 : decode b_Mo_translate 45 = .ok (.istore_n 1, 1) := by decide +kernel
theorem d_Mo_translate_46 : decode b_Mo_translate 46 = .ok (.iload_n 1, 1) := by decide +kernel
theorem d_Mo_translate_47 : decode b_Mo_translate 47 = .ok (.aload_n 0, 1) := by decide +kernel
theorem d_Mo_translate_48 : decode b_Mo_translate 48 = .ok (.getfield 67, 3) := by decide +kernel
theorem d_Mo_translate_51 : decode b_Mo_translate 51 = .ok (.if_icmp .ge 24, 3) := by decide +kernel
theorem d_Mo_translate_54 : decode b_Mo_translate 54 = .ok (.aload_n 0, 1) := by decide +kernel
theorem d_Mo_translate_55 : decode b_Mo_translate 55 = .ok (.getfield 29, 3) := by decide +kernel
theorem d_Mo_translate_58 : decode b_Mo_translate 58 = .ok (.iload_n 1, 1) := by decide +kernel
theorem d_Mo_translate_59 : decode b_Mo_translate 59 = .ok (.aload_n 0, 1) := by decide +kernel
theorem d_Mo_translate_60 : decode b_Mo_translate 60 = .ok (.getfield 77, 3) := by decide +kernel
theorem d_Mo_translate_63 : decode b_Mo_translate 63 = .ok (.iastore, 1) := by decide +kernel
theorem d_Mo_translate_64 : decode b_Mo_translate 64 = .ok (.aload_n 0, 1) := by decide +kernel
theorem d_Mo_translate_65 : decode b_Mo_translate 65 = .ok (.iload_n 1, 1) := by decide +kernel
theorem d_Mo_translate_66 : decode b_Mo_translate 66 = .ok (.invokevirtual 91, 3) := by decide +kernel
theorem d_Mo_translate_69 : decode b_Mo_translate 69 = .ok (.iinc 1 1, 3) := by decide +kernel
theorem d_Mo_translate_72 : decode b_Mo_translate 72 = .ok (.goto (-26), 3) := by decide +kernel
theorem d_Mo_translate_75 : decode b_Mo_translate 75 = .ok (.aload_n 0, 1) := by decide +kernel
theorem d_Mo_translate_76 : decode b_Mo_translate 76 = .ok (.getfield 29, 3) := by decide +kernel
theorem d_Mo_translate_79 : decode b_Mo_translate 79 = .ok (.aload_n 0, 1) := by decide +kernel
theorem d_Mo_translate_80 : decode b_Mo_translate 80 = .ok (.getfield 67, 3) := by decide +kernel
theorem d_Mo_translate_83 : decode b_Mo_translate 83 = .ok (.aload_n 0, 1) := by decide +kernel
theorem d_Mo_translate_84 : decode b_Mo_translate 84 = .ok (.getfield 77, 3) := by decide +kernel
theorem d_Mo_translate_87 : decode b_Mo_translate 87 = .ok (.iastore, 1) := by decide +kernel
theorem d_Mo_translate_88 : decode b_Mo_translate 88 = .ok (.aload_n 0, 1) := by decide +kernel
theorem d_Mo_translate_89 : decode b_Mo_translate 89 = .ok (.iconst 0, 1) := by decide +kernel
theorem d_Mo_translate_90 : decode b_Mo_translate 90 = .ok (.iconst 0, 1) := by decide +kernel
theorem d_Mo_translate_91 : decode b_Mo_translate 91 = .ok (.iconst 0, 1) := by decide +kernel
theorem d_Mo_translate_92 : decode b_Mo_translate 92 = .ok (.iconst 1, 1) := by decide +kernel
theorem d_Mo_translate_93 : decode b_Mo_translate 93 = .ok (.invokevirtual 95, 3) := by decide +kernel
theorem d_Mo_translate_96 : decode b_Mo_translate 96 = .ok (.iconst 0, 1) := by decide +kernel
theorem d_Mo_translate_97 : decode b_Mo_translate 97 = .ok (.istore_n 1, 1) := by decide +kernel
theorem d_Mo_translate_98 : decode b_Mo_translate 98 = .ok (.iload_n 1, 1) := by decide +kernel
theorem d_Mo_translate_99 : decode b_Mo_translate 99 = .ok (.aload_n 0, 1) := by decide +kernel
theorem d_Mo_translate_100 : decode b_Mo_translate 100 = .ok (.getfield 77, 3) := by decide +kernel
theorem d_Mo_translate_103 : decode b_Mo_translate 103 = .ok (.if_icmp .ge 43, 3) := by decide +kernel
theorem d_Mo_translate_106 : decode b_Mo_translate 106 = .ok (.aload_n 0, 1) := by decide +kernel
theorem d_Mo_translate_107 : decode b_Mo_translate 107 = .ok (.getfield 25, 3) := by decide +kernel
theorem d_Mo_translate_110 : decode b_Mo_translate 110 = .ok (.iload_n 1, 1) := by decide +kernel
theorem d_Mo_translate_111 : decode b_Mo_translate 111 = .ok (.baload, 1) := by decide +kernel
theorem d_Mo_translate_112 : decode b_Mo_translate 112 = .ok (.ifCond .eq 28, 3) := by decide +kernel
theorem d_Mo_translate_115 : decode b_Mo_translate 115 = .ok (.aload_n 0, 1) := by decide +kernel
theorem d_Mo_translate_116 : decode b_Mo_translate 116 = .ok (.getfield 22, 3) := by decide +kernel
theorem d_Mo_translate_119 : decode b_Mo_translate 119 = .ok (.iconst 4, 1) := by decide +kernel
theorem d_Mo_translate_120 : decode b_Mo_translate 120 = .ok (.iload_n 1, 1) := by decide +kernel
theorem d_Mo_translate_121 : decode b_Mo_translate 121 = .ok (.imul, 1) := by decide +kernel
theorem d_Mo_translate_122 : decode b_Mo_translate 122 = .ok (.iconst 3, 1) := by decide +kernel
theorem d_Mo_translate_123 : decode b_Mo_translate 123 = .ok (.iadd, 1) := by decide +kernel
theorem d_Mo_translate_124 : decode b_Mo_translate 124 = .ok (.aload_n 0, 1) := by decide +kernel
theorem d_Mo_translate_125 : decode b_Mo_translate 125 = .ok (.getfield 29, 3) := by decide +kernel
theorem d_Mo_translate_128 : decode b_Mo_translate 128 = .ok (.aload_n 0, 1) := by decide +kernel
theorem d_Mo_translate_129 : decode b_Mo_translate 129 = .ok (.getfield 22, 3) := by decide +kernel
theorem d_Mo_translate_132 : decode b_Mo_translate 132 = .ok (.iconst 4, 1) := by decide +kernel
theorem d_Mo_translate_133 : decode b_Mo_translate 133 = .ok (.iload_n 1, 1) := by decide +kernel
theorem d_Mo_translate_134 : decode b_Mo_translate 134 = .ok (.imul, 1) := by decide +kernel
theorem d_Mo_translate_135 : decode b_Mo_translate 135 = .ok (.iconst 3, 1) := by decide +kernel
theorem d_Mo_translate_136 : decode b_Mo_translate 136 = .ok (.iadd, 1) := by decide +kernel
theorem d_Mo_translate_137 : decode b_Mo_translate 137 = .ok (.iaload, 1) := by decide +kernel
theorem d_Mo_translate_138 : decode b_Mo_translate 138 = .ok (.iaload, 1) := by decide +kernel
theorem d_Mo_translate_139 : decode b_Mo_translate 139 = .ok (.iastore, 1) := by decide +kernel
theorem d_Mo_translate_140 : decode b_Mo_translate 140 = .ok (.iinc 1 1, 3) := by decide +kernel
theorem d_Mo_translate_143 : decode b_Mo_translate 143 = .ok (.goto (-45), 3) := by decide +kernel
theorem d_Mo_translate_146 : decode b_Mo_translate 146 = .ok (.aload_n 0, 1) := by decide +kernel
theorem d_Mo_translate_147 : decode b_Mo_translate 147 = .ok (.iconst 1, 1) := by decide +kernel
theorem d_Mo_translate_148 : decode b_Mo_translate 148 = .ok (.putfield 73, 3) := by decide +kernel
theorem d_Mo_translate_151 : decode b_Mo_translate 151 = .ok (.iconst 0, 1) := by decide +kernel
theorem d_Mo_translate_152 : decode b_Mo_translate 152 = .ok (.ireturn, 1) := by decide +kernel
theorem d_Mo_writes_0 : decode b_Mo_writes 0 = .ok (.aload_n 0, 1) := by decide +kernel
theorem d_Mo_writes_1 : decode b_Mo_writes 1 = .ok (.iload_n 1, 1) := by decide +kernel
theorem d_Mo_writes_2 : decode b_Mo_writes 2 = .ok (.iload_n 2, 1) := by decide +kernel
theorem d_Mo_writes_3 : decode b_Mo_writes 3 = .ok (.iconst 1, 1) := by decide +kernel
theorem d_Mo_writes_4 : decode b_Mo_writes 4 = .ok (.iconst 3, 1) := by decide +kernel
theorem d_Mo_writes_5 : decode b_Mo_writes 5 = .ok (.invokestatic 63, 3) := by decide +kernel
theorem d_Mo_writes_8 : decode b_Mo_writes 8 = .ok (.ifCond .eq 7, 3) := by decide +kernel
theorem d_Mo_writes_11 : decode b_Mo_writes 11 = .ok (.iload_n 2, 1) := by decide +kernel
theorem d_Mo_writes_12 : decode b_Mo_writes 12 = .ok (.goto 4, 3) := by decide +kernel
theorem d_Mo_writes_15 : decode b_Mo_writes 15 = .ok (.iconst 4, 1) := by decide +kernel
theorem d_Mo_writes_16 : decode b_Mo_writes 16 = .ok (.iload_n 3, 1) := by decide +kernel
theorem d_Mo_writes_17 : decode b_Mo_writes 17 = .ok (.iload 4, 2) := by decide +kernel
theorem d_Mo_writes_19 : decode b_Mo_writes 19 = .ok (.invokevirtual 95, 3) := by decide +kernel
theorem d_Mo_writes_22 : decode b_Mo_writes 22 = .ok (.iload_n 2, 1) := by decide +kernel
theorem d_Mo_writes_23 : decode b_Mo_writes 23 = .ok (.iconst 3, 1) := by decide +kernel
theorem d_Mo_writes_24 : decode b_Mo_writes 24 = .ok (.if_icmp .le 15, 3) := by decide +kernel
theorem d_Mo_writes_27 : decode b_Mo_writes 27 = .ok (.aload_n 0, 1) := by decide +kernel
theorem d_Mo_writes_28 : decode b_Mo_writes 28 = .ok (.bipush 8, 2) := by decide +kernel
theorem d_Mo_writes_30 : decode b_Mo_writes 30 = .ok (.iconst 4, 1) := by decide +kernel
theorem d_Mo_writes_31 : decode b_Mo_writes 31 = .ok (.iconst 0, 1) := by decide +kernel
theorem d_Mo_writes_32 : decode b_Mo_writes 32 = .ok (.bipush 32, 2) := by decide +kernel
theorem d_Mo_writes_34 : decode b_Mo_writes 34 = .ok (.iload_n 2, 1) := by decide +kernel
theorem d_Mo_writes_35 : decode b_Mo_writes 35 = .ok (.iadd, 1) := by decide +kernel
theorem d_Mo_writes_36 : decode b_Mo_writes 36 = .ok (.invokevirtual 95, 3) := by decide +kernel
theorem d_Mo_writes_39 : decode b_Mo_writes 39 = .ok (.return_, 1) := by decide +kernel
