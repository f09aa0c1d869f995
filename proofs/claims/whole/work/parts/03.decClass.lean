/-! DECODE ROWS: printed by wip/whole/gen/words.py -/
theorem d_JA_fill_0 : decode b_JA_fill 0 = .ok (.iconst 0, 1) := by decide +kernel
theorem d_JA_fill_1 : decode b_JA_fill 1 = .ok (.istore_n 2, 1) := by decide +kernel
theorem d_JA_fill_2 : decode b_JA_fill 2 = .ok (.aload_n 0, 1) := by decide +kernel
theorem d_JA_fill_3 : decode b_JA_fill 3 = .ok (.arraylength, 1) := by decide +kernel
theorem d_JA_fill_4 : decode b_JA_fill 4 = .ok (.istore_n 3, 1) := by decide +kernel
theorem d_JA_fill_5 : decode b_JA_fill 5 = .ok (.iload_n 2, 1) := by decide +kernel
theorem d_JA_fill_6 : decode b_JA_fill 6 = .ok (.iload_n 3, 1) := by decide +kernel
theorem d_JA_fill_7 : decode b_JA_fill 7 = .ok (.if_icmp .ge 13, 3) := by decide +kernel
theorem d_JA_fill_10 : decode b_JA_fill 10 = .ok (.aload_n 0, 1) := by decide +kernel
theorem d_JA_fill_11 : decode b_JA_fill 11 = .ok (.iload_n 2, 1) := by decide +kernel
theorem d_JA_fill_12 : decode b_JA_fill 12 = .ok (.iload_n 1, 1) := by decide +kernel
theorem d_JA_fill_13 : decode b_JA_fill 13 = .ok (.iastore, 1) := by decide +kernel
theorem d_JA_fill_14 : decode b_JA_fill 14 = .ok (.iinc 2 1, 3) := by decide +kernel
theorem d_JA_fill_17 : decode b_JA_fill 17 = .ok (.goto (-12), 3) := by decide +kernel
theorem d_JA_fill_20 : decode b_JA_fill 20 = .ok (.return_, 1) := by decide +kernel
theorem d_JM_floorMod_0 : decode b_JM_floorMod 0 = .ok (.iload_n 0, 1) := by decide +kernel
theorem d_JM_floorMod_1 : decode b_JM_floorMod 1 = .ok (.iload_n 1, 1) := by decide +kernel
theorem d_JM_floorMod_2 : decode b_JM_floorMod 2 = .ok (.irem, 1) := by decide +kernel
theorem d_JM_floorMod_3 : decode b_JM_floorMod 3 = .ok (.istore_n 2, 1) := by decide +kernel
theorem d_JM_floorMod_4 : decode b_JM_floorMod 4 = .ok (.iload_n 0, 1) := by decide +kernel
theorem d_JM_floorMod_5 : decode b_JM_floorMod 5 = .ok (.iload_n 1, 1) := by decide +kernel
theorem d_JM_floorMod_6 : decode b_JM_floorMod 6 = .ok (.ixor, 1) := by decide +kernel
theorem d_JM_floorMod_7 : decode b_JM_floorMod 7 = .ok (.ifCond .ge 11, 3) := by decide +kernel
theorem d_JM_floorMod_10 : decode b_JM_floorMod 10 = .ok (.iload_n 2, 1) := by decide +kernel
theorem d_JM_floorMod_11 : decode b_JM_floorMod 11 = .ok (.ifCond .eq 7, 3) := by decide +kernel
theorem d_JM_floorMod_14 : decode b_JM_floorMod 14 = .ok (.iload_n 2, 1) := by decide +kernel
theorem d_JM_floorMod_15 : decode b_JM_floorMod 15 = .ok (.iload_n 1, 1) := by decide +kernel
theorem d_JM_floorMod_16 : decode b_JM_floorMod 16 = .ok (.iadd, 1) := by decide +kernel
theorem d_JM_floorMod_17 : decode b_JM_floorMod 17 = .ok (.ireturn, 1) := by decide +kernel
theorem d_JM_floorMod_18 : decode b_JM_floorMod 18 = .ok (.iload_n 2, 1) := by decide +kernel
theorem d_JM_floorMod_19 : decode b_JM_floorMod 19 = .ok (.ireturn, 1) := by decide +kernel
theorem d_Li_append_0 : decode b_Li_append 0 = .ok (.iconst 4, 1) := by decide +kernel
theorem d_Li_append_1 : decode b_Li_append 1 = .ok (.aload_n 0, 1) := by decide +kernel
theorem d_Li_append_2 : decode b_Li_append 2 = .ok (.getfield 13, 3) := by decide +kernel
theorem d_Li_append_5 : decode b_Li_append 5 = .ok (.imul, 1) := by decide +kernel
theorem d_Li_append_6 : decode b_Li_append 6 = .ok (.istore 5, 2) := by decide +kernel
theorem d_Li_append_8 : decode b_Li_append 8 = .ok (.iload 5, 2) := by decide +kernel
theorem d_Li_append_10 : decode b_Li_append 10 = .ok (.iconst 4, 1) := by decide +kernel
theorem d_Li_append_11 : decode b_Li_append 11 = .ok (.iadd, 1) := by decide +kernel
theorem d_Li_append_12 : decode b_Li_append 12 = .ok (.aload_n 0, 1) := by decide +kernel
theorem d_Li_append_13 : decode b_Li_append 13 = .ok (.getfield 9, 3) := by decide +kernel
theorem d_Li_append_16 : decode b_Li_append 16 = .ok (.arraylength, 1) := by decide +kernel
theorem d_Li_append_17 : decode b_Li_append 17 = .ok (.if_icmp .le 4, 3) := by decide +kernel
theorem d_Li_append_20 : decode b_Li_append 20 = .ok (.return_, 1) := by decide +kernel
theorem d_Li_append_21 : decode b_Li_append 21 = .ok (.aload_n 0, 1) := by decide +kernel
theorem d_Li_append_22 : decode b_Li_append 22 = .ok (.getfield 9, 3) := by decide +kernel
theorem d_Li_append_25 : decode b_Li_append 25 = .ok (.iload 5, 2) := by decide +kernel
theorem d_Li_append_27 : decode b_Li_append 27 = .ok (.iload_n 1, 1) := by decide +kernel
theorem d_Li_append_28 : decode b_Li_append 28 = .ok (.iastore, 1) := by decide +kernel
theorem d_Li_append_29 : decode b_Li_append 29 = .ok (.aload_n 0, 1) := by decide +kernel
theorem d_Li_append_30 : decode b_Li_append 30 = .ok (.getfield 9, 3) := by decide +kernel
theorem d_Li_append_33 : decode b_Li_append 33 = .ok (.iload 5, 2) := by decide +kernel
theorem d_Li_append_35 : decode b_Li_append 35 = .ok (.iconst 1, 1) := by decide +kernel
theorem d_Li_append_36 : decode b_Li_append 36 = .ok (.iadd, 1) := by decide +kernel
theorem d_Li_append_37 : decode b_Li_append 37 = .ok (.iload_n 2, 1) := by decide +kernel
theorem d_Li_append_38 : decode b_Li_append 38 = .ok (.iastore, 1) := by decide +kernel
theorem d_Li_append_39 : decode b_Li_append 39 = .ok (.aload_n 0, 1) := by decide +kernel
theorem d_Li_append_40 : decode b_Li_append 40 = .ok (.getfield 9, 3) := by decide +kernel
theorem d_Li_append_43 : decode b_Li_append 43 = .ok (.iload 5, 2) := by decide +kernel
theorem d_Li_append_45 : decode b_Li_append 45 = .ok (.iconst 2, 1) := by decide +kernel
theorem d_Li_append_46 : decode b_Li_append 46 = .ok (.iadd, 1) := by decide +kernel
theorem d_Li_append_47 : decode b_Li_append 47 = .ok (.iload_n 3, 1) := by decide +kernel
theorem d_Li_append_48 : decode b_Li_append 48 = .ok (.iastore, 1) := by decide +kernel
theorem d_Li_append_49 : decode b_Li_append 49 = .ok (.aload_n 0, 1) := by decide +kernel
theorem d_Li_append_50 : decode b_Li_append 50 = .ok (.getfield 9, 3) := by decide +kernel
theorem d_Li_append_53 : decode b_Li_append 53 = .ok (.iload 5, 2) := by decide +kernel
theorem d_Li_append_55 : decode b_Li_append 55 = .ok (.iconst 3, 1) := by decide +kernel
theorem d_Li_append_56 : decode b_Li_append 56 = .ok (.iadd, 1) := by decide +kernel
theorem d_Li_append_57 : decode b_Li_append 57 = .ok (.iload 4, 2) := by decide +kernel
theorem d_Li_append_59 : decode b_Li_append 59 = .ok (.iastore, 1) := by decide +kernel
theorem d_Li_append_60 : decode b_Li_append 60 = .ok (.aload_n 0, 1) := by decide +kernel
theorem d_Li_append_61 : decode b_Li_append 61 = .ok (.dup, 1) := by decide +kernel
theorem d_Li_append_62 : decode b_Li_append 62 = .ok (.getfield 13, 3) := by decide +kernel
theorem d_Li_append_65 : decode b_Li_append 65 = .ok (.iconst 1, 1) := by decide +kernel
theorem d_Li_append_66 : decode b_Li_append 66 = .ok (.iadd, 1) := by decide +kernel
theorem d_Li_append_67 : decode b_Li_append 67 = .ok (.putfield 13, 3) := by decide +kernel
theorem d_Li_append_70 : decode b_Li_append 70 = .ok (.return_, 1) := by decide +kernel
theorem d_Li_drop_0 : decode b_Li_drop 0 = .ok (.aload_n 0, 1) := by decide +kernel
theorem d_Li_drop_1 : decode b_Li_drop 1 = .ok (.iconst 0, 1) := by decide +kernel
theorem d_Li_drop_2 : decode b_Li_drop 2 = .ok (.putfield 13, 3) := by decide +kernel
theorem d_Li_drop_5 : decode b_Li_drop 5 = .ok (.return_, 1) := by decide +kernel
theorem d_Li_field_0 : decode b_Li_field 0 = .ok (.aload_n 0, 1) := by decide +kernel
theorem d_Li_field_1 : decode b_Li_field 1 = .ok (.getfield 9, 3) := by decide +kernel
theorem d_Li_field_4 : decode b_Li_field 4 = .ok (.iconst 4, 1) := by decide +kernel
theorem d_Li_field_5 : decode b_Li_field 5 = .ok (.iload_n 1, 1) := by decide +kernel
theorem d_Li_field_6 : decode b_Li_field 6 = .ok (.imul, 1) := by decide +kernel
theorem d_Li_field_7 : decode b_Li_field 7 = .ok (.iload_n 2, 1) := by decide +kernel
theorem d_Li_field_8 : decode b_Li_field 8 = .ok (.iadd, 1) := by decide +kernel
theorem d_Li_field_9 : decode b_Li_field 9 = .ok (.iaload, 1) := by decide +kernel
theorem d_Li_field_10 : decode b_Li_field 10 = .ok (.ireturn, 1) := by decide +kernel
theorem d_Li_first_0 : decode b_Li_first 0 = .ok (.aload_n 0, 1) := by decide +kernel
theorem d_Li_first_1 : decode b_Li_first 1 = .ok (.iload_n 1, 1) := by decide +kernel
theorem d_Li_first_2 : decode b_Li_first 2 = .ok (.iconst 1, 1) := by decide +kernel
theorem d_Li_first_3 : decode b_Li_first 3 = .ok (.invokevirtual 17, 3) := by decide +kernel
theorem d_Li_first_6 : decode b_Li_first 6 = .ok (.ireturn, 1) := by decide +kernel
theorem d_Li_has_0 : decode b_Li_has 0 = .ok (.iload_n 1, 1) := by decide +kernel
theorem d_Li_has_1 : decode b_Li_has 1 = .ok (.ifCond .lt 15, 3) := by decide +kernel
theorem d_Li_has_4 : decode b_Li_has 4 = .ok (.iload_n 1, 1) := by decide +kernel
theorem d_Li_has_5 : decode b_Li_has 5 = .ok (.aload_n 0, 1) := by decide +kernel
theorem d_Li_has_6 : decode b_Li_has 6 = .ok (.getfield 13, 3) := by decide +kernel
theorem d_Li_has_9 : decode b_Li_has 9 = .ok (.if_icmp .ge 7, 3) := by decide +kernel
theorem d_Li_has_12 : decode b_Li_has 12 = .ok (.iconst 1, 1) := by decide +kernel
theorem d_Li_has_13 : decode b_Li_has 13 = .ok (.goto 4, 3) := by decide +kernel
theorem d_Li_has_16 : decode b_Li_has 16 = .ok (.iconst 0, 1) := by decide +kernel
theorem d_Li_has_17 : decode b_Li_has 17 = .ok (.ireturn, 1) := by decide +kernel
theorem d_Li_init_0 : decode b_Li_init 0 = .ok (.aload_n 0, 1) := by decide +kernel
theorem d_Li_init_1 : decode b_Li_init 1 = .ok (.invokespecial 1, 3) := by decide +kernel
theorem d_Li_init_4 : decode b_Li_init 4 = .ok (.aload_n 0, 1) := by decide +kernel
theorem d_Li_init_5 : decode b_Li_init 5 = .ok (.iconst 4, 1) := by decide +kernel
theorem d_Li_init_6 : decode b_Li_init 6 = .ok (.iload_n 1, 1) := by decide +kernel
theorem d_Li_init_7 : decode b_Li_init 7 = .ok (.imul, 1) := by decide +kernel
theorem d_Li_init_8 : decode b_Li_init 8 = .ok (.newarray .int, 2) := by decide +kernel
theorem d_Li_init_10 : decode b_Li_init 10 = .ok (.putfield 9, 3) := by decide +kernel
theorem d_Li_init_13 : decode b_Li_init 13 = .ok (.aload_n 0, 1) := by decide +kernel
theorem d_Li_init_14 : decode b_Li_init 14 = .ok (.iconst 0, 1) := by decide +kernel
theorem d_Li_init_15 : decode b_Li_init 15 = .ok (.putfield 13, 3) := by decide +kernel
theorem d_Li_init_18 : decode b_Li_init 18 = .ok (.return_, 1) := by decide +kernel
theorem d_Li_operation_0 : decode b_Li_operation 0 = .ok (.aload_n 0, 1) := by decide +kernel
theorem d_Li_operation_1 : decode b_Li_operation 1 = .ok (.iload_n 1, 1) := by decide +kernel
theorem d_Li_operation_2 : decode b_Li_operation 2 = .ok (.iconst 0, 1) := by decide +kernel
theorem d_Li_operation_3 : decode b_Li_operation 3 = .ok (.invokevirtual 17, 3) := by decide +kernel
theorem d_Li_operation_6 : decode b_Li_operation 6 = .ok (.ireturn, 1) := by decide +kernel
theorem d_Li_second_0 : decode b_Li_second 0 = .ok (.aload_n 0, 1) := by decide +kernel
theorem d_Li_second_1 : decode b_Li_second 1 = .ok (.iload_n 1, 1) := by decide +kernel
theorem d_Li_second_2 : decode b_Li_second 2 = .ok (.iconst 2, 1) := by decide +kernel
theorem d_Li_second_3 : decode b_Li_second 3 = .ok (.invokevirtual 17, 3) := by decide +kernel
theorem d_Li_second_6 : decode b_Li_second 6 = .ok (.ireturn, 1) := by decide +kernel
theorem d_Li_third_0 : decode b_Li_third 0 = .ok (.aload_n 0, 1) := by decide +kernel
theorem d_Li_third_1 : decode b_Li_third 1 = .ok (.iload_n 1, 1) := by decide +kernel
theorem d_Li_third_2 : decode b_Li_third 2 = .ok (.iconst 3, 1) := by decide +kernel
theorem d_Li_third_3 : decode b_Li_third 3 = .ok (.invokevirtual 17, 3) := by decide +kernel
theorem d_Li_third_6 : decode b_Li_third 6 = .ok (.ireturn, 1) := by decide +kernel
theorem d_Ma_beginWithData_0 : decode b_Ma_beginWithData 0 = .ok (.aload_n 0, 1) := by decide +kernel
theorem d_Ma_beginWithData_1 : decode b_Ma_beginWithData 1 = .ok (.getfield 15, 3) := by decide +kernel
theorem d_Ma_beginWithData_4 : decode b_Ma_beginWithData 4 = .ok (.iconst 0, 1) := by decide +kernel
theorem d_Ma_beginWithData_5 : decode b_Ma_beginWithData 5 = .ok (.invokestatic 25, 3) := by decide +kernel
theorem d_Ma_beginWithData_8 : decode b_Ma_beginWithData 8 = .ok (.aload_n 0, 1) := by decide +kernel
theorem d_Ma_beginWithData_9 : decode b_Ma_beginWithData 9 = .ok (.getfield 19, 3) := by decide +kernel
theorem d_Ma_beginWithData_12 : decode b_Ma_beginWithData 12 = .ok (.iconst 0, 1) := by decide +kernel
theorem d_Ma_beginWithData_13 : decode b_Ma_beginWithData 13 = .ok (.invokestatic 25, 3) := by decide +kernel
theorem d_Ma_beginWithData_16 : decode b_Ma_beginWithData 16 = .ok (.aload_n 1, 1) := by decide +kernel
theorem d_Ma_beginWithData_17 : decode b_Ma_beginWithData 17 = .ok (.iconst 0, 1) := by decide +kernel
theorem d_Ma_beginWithData_18 : decode b_Ma_beginWithData 18 = .ok (.aload_n 0, 1) := by decide +kernel
theorem d_Ma_beginWithData_19 : decode b_Ma_beginWithData 19 = .ok (.getfield 19, 3) := by decide +kernel
theorem d_Ma_beginWithData_22 : decode b_Ma_beginWithData 22 = .ok (.iconst 0, 1) := by decide +kernel
theorem d_Ma_beginWithData_23 : decode b_Ma_beginWithData 23 = .ok (.bipush 32, 2) := by decide +kernel
theorem d_Ma_beginWithData_25 : decode b_Ma_beginWithData 25 = .ok (.invokestatic 31, 3) := by decide +kernel
theorem d_Ma_beginWithData_28 : decode b_Ma_beginWithData 28 = .ok (.aload_n 0, 1) := by decide +kernel
theorem d_Ma_beginWithData_29 : decode b_Ma_beginWithData 29 = .ok (.iconst 0, 1) := by decide +kernel
theorem d_Ma_beginWithData_30 : decode b_Ma_beginWithData 30 = .ok (.putfield 37, 3) := by decide +kernel
theorem d_Ma_beginWithData_33 : decode b_Ma_beginWithData 33 = .ok (.aload_n 0, 1) := by decide +kernel
theorem d_Ma_beginWithData_34 : decode b_Ma_beginWithData 34 = .ok (.iconst 0, 1) := by decide +kernel
theorem d_Ma_beginWithData_35 : decode b_Ma_beginWithData 35 = .ok (.putfield 41, 3) := by decide +kernel
theorem d_Ma_beginWithData_38 : decode b_Ma_beginWithData 38 = .ok (.aload_n 0, 1) := by decide +kernel
theorem d_Ma_beginWithData_39 : decode b_Ma_beginWithData 39 = .ok (.iconst 0, 1) := by decide +kernel
theorem d_Ma_beginWithData_40 : decode b_Ma_beginWithData 40 = .ok (.putfield 44, 3) := by decide +kernel
theorem d_Ma_beginWithData_43 : decode b_Ma_beginWithData 43 = .ok (.aload_n 0, 1) := by decide +kernel
theorem d_Ma_beginWithData_44 : decode b_Ma_beginWithData 44 = .ok (.iconst 0, 1) := by decide +kernel
theorem d_Ma_beginWithData_45 : decode b_Ma_beginWithData 45 = .ok (.putfield 47, 3) := by decide +kernel
theorem d_Ma_beginWithData_48 : decode b_Ma_beginWithData 48 = .ok (.return_, 1) := by decide +kernel
theorem d_Ma_calculated_0 : decode b_Ma_calculated 0 = .ok (.iload_n 0, 1) := by decide +kernel
theorem d_Ma_calculated_1 : decode b_Ma_calculated 1 = .ok (.tableswitch 66 2 6 #[35, 42, 46, 66, 57], 35) := by decide +kernel
theorem d_Ma_calculated_36 : decode b_Ma_calculated 36 = .ok (.iload_n 1, 1) := by decide +kernel
theorem d_Ma_calculated_37 : decode b_Ma_calculated 37 = .ok (.iload_n 2, 1) := by decide +kernel
theorem d_Ma_calculated_38 : decode b_Ma_calculated 38 = .ok (.isub, 1) := by decide +kernel
theorem d_Ma_calculated_39 : decode b_Ma_calculated 39 = .ok (.invokestatic 83, 3) := by decide +kernel
theorem d_Ma_calculated_42 : decode b_Ma_calculated 42 = .ok (.ireturn, 1) := by decide +kernel
theorem d_Ma_calculated_43 : decode b_Ma_calculated 43 = .ok (.iload_n 1, 1) := by decide +kernel
theorem d_Ma_calculated_44 : decode b_Ma_calculated 44 = .ok (.iload_n 2, 1) := by decide +kernel
theorem d_Ma_calculated_45 : decode b_Ma_calculated 45 = .ok (.iand, 1) := by decide +kernel
theorem d_Ma_calculated_46 : decode b_Ma_calculated 46 = .ok (.ireturn, 1) := by decide +kernel
theorem d_Ma_calculated_47 : decode b_Ma_calculated 47 = .ok (.iload_n 1, 1) := by decide +kernel
theorem d_Ma_calculated_48 : decode b_Ma_calculated 48 = .ok (.iload_n 2, 1) := by decide +kernel
theorem d_Ma_calculated_49 : decode b_Ma_calculated 49 = .ok (.if_icmp .ge 7, 3) := by decide +kernel
theorem d_Ma_calculated_52 : decode b_Ma_calculated 52 = .ok (.iconst 1, 1) := by decide +kernel
theorem d_Ma_calculated_53 : decode b_Ma_calculated 53 = .ok (.goto 4, 3) := by decide +kernel
theorem d_Ma_calculated_56 : decode b_Ma_calculated 56 = .ok (.iconst 0, 1) := by decide +kernel
theorem d_Ma_calculated_57 : decode b_Ma_calculated 57 = .ok (.ireturn, 1) := by decide +kernel
theorem d_Ma_calculated_58 : decode b_Ma_calculated 58 = .ok (.sipush 256, 3) := by decide +kernel
theorem d_Ma_calculated_61 : decode b_Ma_calculated 61 = .ok (.iload_n 2, 1) := by decide +kernel
theorem d_Ma_calculated_62 : decode b_Ma_calculated 62 = .ok (.imul, 1) := by decide +kernel
theorem d_Ma_calculated_63 : decode b_Ma_calculated 63 = .ok (.invokestatic 83, 3) := by decide +kernel
theorem d_Ma_calculated_66 : decode b_Ma_calculated 66 = .ok (.ireturn, 1) := by decide +kernel
theorem d_Ma_calculated_67 : decode b_Ma_calculated 67 = .ok (.iload_n 1, 1) := by decide +kernel
theorem d_Ma_calculated_68 : decode b_Ma_calculated 68 = .ok (.iload_n 2, 1) := by decide +kernel
theorem d_Ma_calculated_69 : decode b_Ma_calculated 69 = .ok (.iadd, 1) := by decide +kernel
theorem d_Ma_calculated_70 : decode b_Ma_calculated 70 = .ok (.invokestatic 83, 3) := by decide +kernel
theorem d_Ma_calculated_73 : decode b_Ma_calculated 73 = .ok (.ireturn, 1) := by decide +kernel
theorem d_Ma_doSimple_0 : decode b_Ma_doSimple 0 = .ok (.aload_n 0, 1) := by decide +kernel
theorem d_Ma_doSimple_1 : decode b_Ma_doSimple 1 = .ok (.getfield 9, 3) := by decide +kernel
theorem d_Ma_doSimple_4 : decode b_Ma_doSimple 4 = .ok (.aload_n 0, 1) := by decide +kernel
theorem d_Ma_doSimple_5 : decode b_Ma_doSimple 5 = .ok (.getfield 41, 3) := by decide +kernel
theorem d_Ma_doSimple_8 : decode b_Ma_doSimple 8 = .ok (.invokevirtual 74, 3) := by decide +kernel
theorem d_Ma_doSimple_11 : decode b_Ma_doSimple 11 = .ok (.istore_n 2, 1) := by decide +kernel
theorem d_Ma_doSimple_12 : decode b_Ma_doSimple 12 = .ok (.aload_n 0, 1) := by decide +kernel
theorem d_Ma_doSimple_13 : decode b_Ma_doSimple 13 = .ok (.getfield 15, 3) := by decide +kernel
theorem d_Ma_doSimple_16 : decode b_Ma_doSimple 16 = .ok (.aload_n 0, 1) := by decide +kernel
theorem d_Ma_doSimple_17 : decode b_Ma_doSimple 17 = .ok (.getfield 9, 3) := by decide +kernel
theorem d_Ma_doSimple_20 : decode b_Ma_doSimple 20 = .ok (.aload_n 0, 1) := by decide +kernel
theorem d_Ma_doSimple_21 : decode b_Ma_doSimple 21 = .ok (.getfield 41, 3) := by decide +kernel
theorem d_Ma_doSimple_24 : decode b_Ma_doSimple 24 = .ok (.invokevirtual 77, 3) := by decide +kernel
theorem d_Ma_doSimple_27 : decode b_Ma_doSimple 27 = .ok (.iaload, 1) := by decide +kernel
theorem d_Ma_doSimple_28 : decode b_Ma_doSimple 28 = .ok (.istore_n 3, 1) := by decide +kernel
theorem d_Ma_doSimple_29 : decode b_Ma_doSimple 29 = .ok (.aload_n 0, 1) := by decide +kernel
theorem d_Ma_doSimple_30 : decode b_Ma_doSimple 30 = .ok (.getfield 9, 3) := by decide +kernel
theorem d_Ma_doSimple_33 : decode b_Ma_doSimple 33 = .ok (.aload_n 0, 1) := by decide +kernel
theorem d_Ma_doSimple_34 : decode b_Ma_doSimple 34 = .ok (.getfield 41, 3) := by decide +kernel
theorem d_Ma_doSimple_37 : decode b_Ma_doSimple 37 = .ok (.invokevirtual 80, 3) := by decide +kernel
theorem d_Ma_doSimple_40 : decode b_Ma_doSimple 40 = .ok (.istore 4, 2) := by decide +kernel
theorem d_Ma_doSimple_42 : decode b_Ma_doSimple 42 = .ok (.iload_n 1, 1) := by decide +kernel
theorem d_Ma_doSimple_43 : decode b_Ma_doSimple 43 = .ok (.bipush 7, 2) := by decide +kernel
theorem d_Ma_doSimple_45 : decode b_Ma_doSimple 45 = .ok (.if_icmp .lt 17, 3) := by decide +kernel
theorem d_Ma_doSimple_48 : decode b_Ma_doSimple 48 = .ok (.aload_n 0, 1) := by decide +kernel
theorem d_Ma_doSimple_49 : decode b_Ma_doSimple 49 = .ok (.iload_n 1, 1) := by decide +kernel
theorem d_Ma_doSimple_50 : decode b_Ma_doSimple 50 = .ok (.iload_n 2, 1) := by decide +kernel
theorem d_Ma_doSimple_51 : decode b_Ma_doSimple 51 = .ok (.iload_n 3, 1) := by decide +kernel
theorem d_Ma_doSimple_52 : decode b_Ma_doSimple 52 = .ok (.iload 4, 2) := by decide +kernel
theorem d_Ma_doSimple_54 : decode b_Ma_doSimple 54 = .ok (.iadd, 1) := by decide +kernel
theorem d_Ma_doSimple_55 : decode b_Ma_doSimple 55 = .ok (.invokestatic 83, 3) := by decide +kernel
theorem d_Ma_doSimple_58 : decode b_Ma_doSimple 58 = .ok (.invokevirtual 86, 3) := by decide +kernel
theorem d_Ma_doSimple_61 : decode b_Ma_doSimple 61 = .ok (.ireturn, 1) := by decide +kernel
theorem d_Ma_doSimple_62 : decode b_Ma_doSimple 62 = .ok (.iload_n 1, 1) := by decide +kernel
theorem d_Ma_doSimple_63 : decode b_Ma_doSimple 63 = .ok (.iconst 4, 1) := by decide +kernel
theorem d_Ma_doSimple_64 : decode b_Ma_doSimple 64 = .ok (.if_icmp .gt 18, 3) := by decide +kernel
theorem d_Ma_doSimple_67 : decode b_Ma_doSimple 67 = .ok (.aload_n 0, 1) := by decide +kernel
theorem d_Ma_doSimple_68 : decode b_Ma_doSimple 68 = .ok (.getfield 15, 3) := by decide +kernel
theorem d_Ma_doSimple_71 : decode b_Ma_doSimple 71 = .ok (.iload 4, 2) := by decide +kernel
theorem d_Ma_doSimple_73 : decode b_Ma_doSimple 73 = .ok (.bipush 8, 2) := by decide +kernel
theorem d_Ma_doSimple_75 : decode b_Ma_doSimple 75 = .ok (.invokestatic 90, 3) := by decide +kernel
theorem d_Ma_doSimple_78 : decode b_Ma_doSimple 78 = .ok (.iaload, 1) := by decide +kernel
theorem d_Ma_doSimple_79 : decode b_Ma_doSimple 79 = .ok (.goto 5, 3) := by decide +kernel
theorem d_Ma_doSimple_82 : decode b_Ma_doSimple 82 = .ok (.iload 4, 2) := by decide +kernel
theorem d_Ma_doSimple_84 : decode b_Ma_doSimple 84 = .ok (.istore 5, 2) := by decide +kernel
theorem d_Ma_doSimple_86 : decode b_Ma_doSimple 86 = .ok (.aload_n 0, 1) := by decide +kernel
theorem d_Ma_doSimple_87 : decode b_Ma_doSimple 87 = .ok (.iload_n 2, 1) := by decide +kernel
theorem d_Ma_doSimple_88 : decode b_Ma_doSimple 88 = .ok (.iload_n 1, 1) := by decide +kernel
theorem d_Ma_doSimple_89 : decode b_Ma_doSimple 89 = .ok (.iload_n 3, 1) := by decide +kernel
theorem d_Ma_doSimple_90 : decode b_Ma_doSimple 90 = .ok (.iload 5, 2) := by decide +kernel
theorem d_Ma_doSimple_92 : decode b_Ma_doSimple 92 = .ok (.invokestatic 96, 3) := by decide +kernel
theorem d_Ma_doSimple_95 : decode b_Ma_doSimple 95 = .ok (.invokevirtual 100, 3) := by decide +kernel
theorem d_Ma_doSimple_98 : decode b_Ma_doSimple 98 = .ok (.iconst 1, 1) := by decide +kernel
theorem d_Ma_doSimple_99 : decode b_Ma_doSimple 99 = .ok (.ireturn, 1) := by decide +kernel
theorem d_Ma_init_0 : decode b_Ma_init 0 = .ok (.aload_n 0, 1) := by decide +kernel
theorem d_Ma_init_1 : decode b_Ma_init 1 = .ok (.invokespecial 3, 3) := by decide +kernel
theorem d_Ma_init_4 : decode b_Ma_init 4 = .ok (.aload_n 0, 1) := by decide +kernel
theorem d_Ma_init_5 : decode b_Ma_init 5 = .ok (.aload_n 1, 1) := by decide +kernel
theorem d_Ma_init_6 : decode b_Ma_init 6 = .ok (.putfield 9, 3) := by decide +kernel
theorem d_Ma_init_9 : decode b_Ma_init 9 = .ok (.aload_n 0, 1) := by decide +kernel
theorem d_Ma_init_10 : decode b_Ma_init 10 = .ok (.bipush 8, 2) := by decide +kernel
theorem d_Ma_init_12 : decode b_Ma_init 12 = .ok (.newarray .int, 2) := by decide +kernel
theorem d_Ma_init_14 : decode b_Ma_init 14 = .ok (.putfield 15, 3) := by decide +kernel
theorem d_Ma_init_17 : decode b_Ma_init 17 = .ok (.aload_n 0, 1) := by decide +kernel
theorem d_Ma_init_18 : decode b_Ma_init 18 = .ok (.iload_n 2, 1) := by decide +kernel
theorem d_Ma_init_19 : decode b_Ma_init 19 = .ok (.newarray .int, 2) := by decide +kernel
theorem d_Ma_init_21 : decode b_Ma_init 21 = .ok (.putfield 19, 3) := by decide +kernel
theorem d_Ma_init_24 : decode b_Ma_init 24 = .ok (.aload_n 0, 1) := by decide +kernel
theorem d_Ma_init_25 : decode b_Ma_init 25 = .ok (.bipush 120, 2) := by decide +kernel
theorem d_Ma_init_27 : decode b_Ma_init 27 = .ok (.newarray .int, 2) := by decide +kernel
theorem d_Ma_init_29 : decode b_Ma_init 29 = .ok (.putfield 22, 3) := by decide +kernel
theorem d_Ma_init_32 : decode b_Ma_init 32 = .ok (.return_, 1) := by decide +kernel
theorem d_Ma_keepAccess_0 : decode b_Ma_keepAccess 0 = .ok (.aload_n 0, 1) := by decide +kernel
theorem d_Ma_keepAccess_1 : decode b_Ma_keepAccess 1 = .ok (.getfield 37, 3) := by decide +kernel
theorem d_Ma_keepAccess_4 : decode b_Ma_keepAccess 4 = .ok (.bipush 40, 2) := by decide +kernel
theorem d_Ma_keepAccess_6 : decode b_Ma_keepAccess 6 = .ok (.if_icmp .lt 4, 3) := by decide +kernel
theorem d_Ma_keepAccess_9 : decode b_Ma_keepAccess 9 = .ok (.return_, 1) := by decide +kernel
theorem d_Ma_keepAccess_10 : decode b_Ma_keepAccess 10 = .ok (.iconst 3, 1) := by decide +kernel
theorem d_Ma_keepAccess_11 : decode b_Ma_keepAccess 11 = .ok (.aload_n 0, 1) := by decide +kernel
theorem d_Ma_keepAccess_12 : decode b_Ma_keepAccess 12 = .ok (.getfield 37, 3) := by decide +kernel
theorem d_Ma_keepAccess_15 : decode b_Ma_keepAccess 15 = .ok (.imul, 1) := by decide +kernel
theorem d_Ma_keepAccess_16 : decode b_Ma_keepAccess 16 = .ok (.istore 4, 2) := by decide +kernel
theorem d_Ma_keepAccess_18 : decode b_Ma_keepAccess 18 = .ok (.aload_n 0, 1) := by decide +kernel
theorem d_Ma_keepAccess_19 : decode b_Ma_keepAccess 19 = .ok (.getfield 22, 3) := by decide +kernel
theorem d_Ma_keepAccess_22 : decode b_Ma_keepAccess 22 = .ok (.iload 4, 2) := by decide +kernel
theorem d_Ma_keepAccess_24 : decode b_Ma_keepAccess 24 = .ok (.iload_n 1, 1) := by decide +kernel
theorem d_Ma_keepAccess_25 : decode b_Ma_keepAccess 25 = .ok (.iastore, 1) := by decide +kernel
theorem d_Ma_keepAccess_26 : decode b_Ma_keepAccess 26 = .ok (.aload_n 0, 1) := by decide +kernel
theorem d_Ma_keepAccess_27 : decode b_Ma_keepAccess 27 = .ok (.getfield 22, 3) := by decide +kernel
theorem d_Ma_keepAccess_30 : decode b_Ma_keepAccess 30 = .ok (.iload 4, 2) := by decide +kernel
theorem d_Ma_keepAccess_32 : decode b_Ma_keepAccess 32 = .ok (.iconst 1, 1) := by decide +kernel
theorem d_Ma_keepAccess_33 : decode b_Ma_keepAccess 33 = .ok (.iadd, 1) := by decide +kernel
theorem d_Ma_keepAccess_34 : decode b_Ma_keepAccess 34 = .ok (.iload_n 2, 1) := by decide +kernel
theorem d_Ma_keepAccess_35 : decode b_Ma_keepAccess 35 = .ok (.iastore, 1) := by decide +kernel
theorem d_Ma_keepAccess_36 : decode b_Ma_keepAccess 36 = .ok (.aload_n 0, 1) := by decide +kernel
theorem d_Ma_keepAccess_37 : decode b_Ma_keepAccess 37 = .ok (.getfield 22, 3) := by decide +kernel
theorem d_Ma_keepAccess_40 : decode b_Ma_keepAccess 40 = .ok (.iload 4, 2) := by decide +kernel
theorem d_Ma_keepAccess_42 : decode b_Ma_keepAccess 42 = .ok (.iconst 2, 1) := by decide +kernel
theorem d_Ma_keepAccess_43 : decode b_Ma_keepAccess 43 = .ok (.iadd, 1) := by decide +kernel
theorem d_Ma_keepAccess_44 : decode b_Ma_keepAccess 44 = .ok (.iload_n 3, 1) := by decide +kernel
theorem d_Ma_keepAccess_45 : decode b_Ma_keepAccess 45 = .ok (.iastore, 1) := by decide +kernel
theorem d_Ma_keepAccess_46 : decode b_Ma_keepAccess 46 = .ok (.aload_n 0, 1) := by decide +kernel
theorem d_Ma_keepAccess_47 : decode b_Ma_keepAccess 47 = .ok (.dup, 1) := by decide +kernel
theorem d_Ma_keepAccess_48 : decode b_Ma_keepAccess 48 = .ok (.getfield 37, 3) := by decide +kernel
theorem d_Ma_keepAccess_51 : decode b_Ma_keepAccess 51 = .ok (.iconst 1, 1) := by decide +kernel
theorem d_Ma_keepAccess_52 : decode b_Ma_keepAccess 52 = .ok (.iadd, 1) := by decide +kernel
theorem d_Ma_keepAccess_53 : decode b_Ma_keepAccess 53 = .ok (.putfield 37, 3) := by decide +kernel
theorem d_Ma_keepAccess_56 : decode b_Ma_keepAccess 56 = .ok (.return_, 1) := by decide +kernel
theorem d_Ma_reachCell_0 : decode b_Ma_reachCell 0 = .ok (.iload_n 3, 1) := by decide +kernel
theorem d_Ma_reachCell_1 : decode b_Ma_reachCell 1 = .ok (.ifCond .lt 12, 3) := by decide +kernel
theorem d_Ma_reachCell_4 : decode b_Ma_reachCell 4 = .ok (.iload_n 3, 1) := by decide +kernel
theorem d_Ma_reachCell_5 : decode b_Ma_reachCell 5 = .ok (.aload_n 0, 1) := by decide +kernel
theorem d_Ma_reachCell_6 : decode b_Ma_reachCell 6 = .ok (.getfield 19, 3) := by decide +kernel
theorem d_Ma_reachCell_9 : decode b_Ma_reachCell 9 = .ok (.arraylength, 1) := by decide +kernel
theorem d_Ma_reachCell_10 : decode b_Ma_reachCell 10 = .ok (.if_icmp .lt 5, 3) := by decide +kernel
theorem d_Ma_reachCell_13 : decode b_Ma_reachCell 13 = .ok (.iconst 0, 1) := by decide +kernel
theorem d_Ma_reachCell_14 : decode b_Ma_reachCell 14 = .ok (.ireturn, 1) := by decide +kernel
theorem d_Ma_reachCell_15 : decode b_Ma_reachCell 15 = .ok (.iload_n 1, 1) := by decide +kernel
theorem d_Ma_reachCell_16 : decode b_Ma_reachCell 16 = .ok (.bipush 8, 2) := by decide +kernel
theorem d_Ma_reachCell_18 : decode b_Ma_reachCell 18 = .ok (.if_icmp .ne 7, 3) := by decide +kernel
theorem d_Ma_reachCell_21 : decode b_Ma_reachCell 21 = .ok (.iconst 1, 1) := by decide +kernel
theorem d_Ma_reachCell_22 : decode b_Ma_reachCell 22 = .ok (.goto 4, 3) := by decide +kernel
theorem d_Ma_reachCell_25 : decode b_Ma_reachCell 25 = .ok (.iconst 0, 1) := by decide +kernel
theorem d_Ma_reachCell_26 : decode b_Ma_reachCell 26 = .ok (.istore 4, 2) := by decide +kernel
theorem d_Ma_reachCell_28 : decode b_Ma_reachCell 28 = .ok (.iload 4, 2) := by decide +kernel
theorem d_Ma_reachCell_30 : decode b_Ma_reachCell 30 = .ok (.ifCond .eq 18, 3) := by decide +kernel
theorem d_Ma_reachCell_33 : decode b_Ma_reachCell 33 = .ok (.aload_n 0, 1) := by decide +kernel
theorem d_Ma_reachCell_34 : decode b_Ma_reachCell 34 = .ok (.getfield 19, 3) := by decide +kernel
theorem d_Ma_reachCell_37 : decode b_Ma_reachCell 37 = .ok (.iload_n 3, 1) := by decide +kernel
theorem d_Ma_reachCell_38 : decode b_Ma_reachCell 38 = .ok (.aload_n 0, 1) := by decide +kernel
theorem d_Ma_reachCell_39 : decode b_Ma_reachCell 39 = .ok (.getfield 15, 3) := by decide +kernel
theorem d_Ma_reachCell_42 : decode b_Ma_reachCell 42 = .ok (.iload_n 2, 1) := by decide +kernel
theorem d_Ma_reachCell_43 : decode b_Ma_reachCell 43 = .ok (.iaload, 1) := by decide +kernel
theorem d_Ma_reachCell_44 : decode b_Ma_reachCell 44 = .ok (.iastore, 1) := by decide +kernel
theorem d_Ma_reachCell_45 : decode b_Ma_reachCell 45 = .ok (.goto 14, 3) := by decide +kernel
theorem d_Ma_reachCell_48 : decode b_Ma_reachCell 48 = .ok (.aload_n 0, 1) := by decide +kernel
theorem d_Ma_reachCell_49 : decode b_Ma_reachCell 49 = .ok (.iload_n 2, 1) := by decide +kernel
theorem d_Ma_reachCell_50 : decode b_Ma_reachCell 50 = .ok (.aload_n 0, 1) := by decide +kernel
theorem d_Ma_reachCell_51 : decode b_Ma_reachCell 51 = .ok (.getfield 19, 3) := by decide +kernel
theorem d_Ma_reachCell_54 : decode b_Ma_reachCell 54 = .ok (.iload_n 3, 1) := by decide +kernel
theorem d_Ma_reachCell_55 : decode b_Ma_reachCell 55 = .ok (.iaload, 1) := by decide +kernel
theorem d_Ma_reachCell_56 : decode b_Ma_reachCell 56 = .ok (.invokevirtual 100, 3) := by decide +kernel
theorem d_Ma_reachCell_59 : decode b_Ma_reachCell 59 = .ok (.iload_n 3, 1) := by decide +kernel
theorem d_Ma_reachCell_60 : decode b_Ma_reachCell 60 = .ok (.bipush 32, 2) := by decide +kernel
theorem d_Ma_reachCell_62 : decode b_Ma_reachCell 62 = .ok (.if_icmp .ge 24, 3) := by decide +kernel
theorem d_Ma_reachCell_65 : decode b_Ma_reachCell 65 = .ok (.aload_n 0, 1) := by decide +kernel
theorem d_Ma_reachCell_66 : decode b_Ma_reachCell 66 = .ok (.iload_n 3, 1) := by decide +kernel
theorem d_Ma_reachCell_67 : decode b_Ma_reachCell 67 = .ok (.iload 4, 2) := by decide +kernel
theorem d_Ma_reachCell_69 : decode b_Ma_reachCell 69 = .ok (.ifCond .eq 7, 3) := by decide +kernel
theorem d_Ma_reachCell_72 : decode b_Ma_reachCell 72 = .ok (.iconst 1, 1) := by decide +kernel
theorem d_Ma_reachCell_73 : decode b_Ma_reachCell 73 = .ok (.goto 4, 3) := by decide +kernel
theorem d_Ma_reachCell_76 : decode b_Ma_reachCell 76 = .ok (.iconst 0, 1) := by decide +kernel
theorem d_Ma_reachCell_77 : decode b_Ma_reachCell 77 = .ok (.aload_n 0, 1) := by decide +kernel
theorem d_Ma_reachCell_78 : decode b_Ma_reachCell 78 = .ok (.getfield 19, 3) := by decide +kernel
theorem d_Ma_reachCell_81 : decode b_Ma_reachCell 81 = .ok (.iload_n 3, 1) := by decide +kernel
theorem d_Ma_reachCell_82 : decode b_Ma_reachCell 82 = .ok (.iaload, 1) := by decide +kernel
theorem d_Ma_reachCell_83 : decode b_Ma_reachCell 83 = .ok (.invokevirtual 104, 3) := by decide +kernel
theorem d_Ma_reachCell_86 : decode b_Ma_reachCell 86 = .ok (.iconst 1, 1) := by decide +kernel
theorem d_Ma_reachCell_87 : decode b_Ma_reachCell 87 = .ok (.ireturn, 1) := by decide +kernel
theorem d_Ma_setRegister_0 : decode b_Ma_setRegister 0 = .ok (.iload_n 1, 1) := by decide +kernel
theorem d_Ma_setRegister_1 : decode b_Ma_setRegister 1 = .ok (.ifCond .eq 10, 3) := by decide +kernel
theorem d_Ma_setRegister_4 : decode b_Ma_setRegister 4 = .ok (.aload_n 0, 1) := by decide +kernel
theorem d_Ma_setRegister_5 : decode b_Ma_setRegister 5 = .ok (.getfield 15, 3) := by decide +kernel
theorem d_Ma_setRegister_8 : decode b_Ma_setRegister 8 = .ok (.iload_n 1, 1) := by decide +kernel
theorem d_Ma_setRegister_9 : decode b_Ma_setRegister 9 = .ok (.iload_n 2, 1) := by decide +kernel
theorem d_Ma_setRegister_10 : decode b_Ma_setRegister 10 = .ok (.iastore, 1) := by decide +kernel
theorem d_Ma_setRegister_11 : decode b_Ma_setRegister 11 = .ok (.return_, 1) := by decide +kernel
theorem d_Ma_step_0 : decode b_Ma_step 0 = .ok (.iload_n 1, 1) := by decide +kernel
theorem d_Ma_step_1 : decode b_Ma_step 1 = .ok (.iconst 1, 1) := by decide +kernel
theorem d_Ma_step_2 : decode b_Ma_step 2 = .ok (.if_icmp .lt 13, 3) := by decide +kernel
theorem d_Ma_step_5 : decode b_Ma_step 5 = .ok (.iload_n 1, 1) := by decide +kernel
theorem d_Ma_step_6 : decode b_Ma_step 6 = .ok (.bipush 9, 2) := by decide +kernel
theorem d_Ma_step_8 : decode b_Ma_step 8 = .ok (.if_icmp .ge 7, 3) := by decide +kernel
theorem d_Ma_step_11 : decode b_Ma_step 11 = .ok (.iconst 1, 1) := by decide +kernel
theorem d_Ma_step_12 : decode b_Ma_step 12 = .ok (.goto 4, 3) := by decide +kernel
theorem d_Ma_step_15 : decode b_Ma_step 15 = .ok (.iconst 0, 1) := by decide +kernel
theorem d_Ma_step_16 : decode b_Ma_step 16 = .ok (.istore_n 2, 1) := by decide +kernel
theorem d_Ma_step_17 : decode b_Ma_step 17 = .ok (.iload_n 1, 1) := by decide +kernel
theorem d_Ma_step_18 : decode b_Ma_step 18 = .ok (.bipush 13, 2) := by decide +kernel
theorem d_Ma_step_20 : decode b_Ma_step 20 = .ok (.if_icmp .gt 15, 3) := by decide +kernel
theorem d_Ma_step_23 : decode b_Ma_step 23 = .ok (.iload_n 2, 1) := by decide +kernel
theorem d_Ma_step_24 : decode b_Ma_step 24 = .ok (.ifCond .eq 17, 3) := by decide +kernel
theorem d_Ma_step_27 : decode b_Ma_step 27 = .ok (.aload_n 0, 1) := by decide +kernel
theorem d_Ma_step_28 : decode b_Ma_step 28 = .ok (.iload_n 1, 1) := by decide +kernel
theorem d_Ma_step_29 : decode b_Ma_step 29 = .ok (.invokevirtual 64, 3) := by decide +kernel
theorem d_Ma_step_32 : decode b_Ma_step 32 = .ok (.ifCond .ne 9, 3) := by decide +kernel
theorem d_Ma_step_35 : decode b_Ma_step 35 = .ok (.aload_n 0, 1) := by decide +kernel
theorem d_Ma_step_36 : decode b_Ma_step 36 = .ok (.iconst 2, 1) := by decide +kernel
theorem d_Ma_step_37 : decode b_Ma_step 37 = .ok (.putfield 47, 3) := by decide +kernel
theorem d_Ma_step_40 : decode b_Ma_step 40 = .ok (.return_, 1) := by decide +kernel
theorem d_Ma_step_41 : decode b_Ma_step 41 = .ok (.iload_n 1, 1) := by decide +kernel
theorem d_Ma_step_42 : decode b_Ma_step 42 = .ok (.ifCond .ne 14, 3) := by decide +kernel
theorem d_Ma_step_45 : decode b_Ma_step 45 = .ok (.aload_n 0, 1) := by decide +kernel
theorem d_Ma_step_46 : decode b_Ma_step 46 = .ok (.aload_n 0, 1) := by decide +kernel
theorem d_Ma_step_47 : decode b_Ma_step 47 = .ok (.invokevirtual 67, 3) := by decide +kernel
theorem d_Ma_step_50 : decode b_Ma_step 50 = .ok (.putfield 47, 3) := by decide +kernel
theorem d_Ma_step_53 : decode b_Ma_step 53 = .ok (.goto 8, 3) := by decide +kernel
theorem d_Ma_step_56 : decode b_Ma_step 56 = .ok (.aload_n 0, 1) := by decide +kernel
theorem d_Ma_step_57 : decode b_Ma_step 57 = .ok (.iload_n 1, 1) := by decide +kernel
theorem d_Ma_step_58 : decode b_Ma_step 58 = .ok (.invokevirtual 71, 3) := by decide +kernel
theorem d_Ma_step_61 : decode b_Ma_step 61 = .ok (.aload_n 0, 1) := by decide +kernel
theorem d_Ma_step_62 : decode b_Ma_step 62 = .ok (.dup, 1) := by decide +kernel
theorem d_Ma_step_63 : decode b_Ma_step 63 = .ok (.getfield 44, 3) := by decide +kernel
theorem d_Ma_step_66 : decode b_Ma_step 66 = .ok (.iconst 1, 1) := by decide +kernel
theorem d_Ma_step_67 : decode b_Ma_step 67 = .ok (.iadd, 1) := by decide +kernel
theorem d_Ma_step_68 : decode b_Ma_step 68 = .ok (.putfield 44, 3) := by decide +kernel
theorem d_Ma_step_71 : decode b_Ma_step 71 = .ok (.return_, 1) := by decide +kernel
theorem d_Ma_work_0 : decode b_Ma_work 0 = .ok (.iconst 0, 1) := by decide +kernel
theorem d_Ma_work_1 : decode b_Ma_work 1 = .ok (.istore_n 2, 1) := by decide +kernel
theorem d_Ma_work_2 : decode b_Ma_work 2 = .ok (.iload_n 2, 1) := by decide +kernel
theorem d_Ma_work_3 : decode b_Ma_work 3 = .ok (.iload_n 1, 1) := by decide +kernel
theorem d_Ma_work_4 : decode b_Ma_work 4 = .ok (.if_icmp .ge 53, 3) := by decide +kernel
theorem d_Ma_work_7 : decode b_Ma_work 7 = .ok (.aload_n 0, 1) := by decide +kernel
theorem d_Ma_work_8 : decode b_Ma_work 8 = .ok (.getfield 47, 3) := by decide +kernel
theorem d_Ma_work_11 : decode b_Ma_work 11 = .ok (.ifCond .ne 46, 3) := by decide +kernel
theorem d_Ma_work_14 : decode b_Ma_work 14 = .ok (.aload_n 0, 1) := by decide +kernel
theorem d_Ma_work_15 : decode b_Ma_work 15 = .ok (.getfield 9, 3) := by decide +kernel
theorem d_Ma_work_18 : decode b_Ma_work 18 = .ok (.aload_n 0, 1) := by decide +kernel
theorem d_Ma_work_19 : decode b_Ma_work 19 = .ok (.getfield 41, 3) := by decide +kernel
theorem d_Ma_work_22 : decode b_Ma_work 22 = .ok (.invokevirtual 50, 3) := by decide +kernel
theorem d_Ma_work_25 : decode b_Ma_work 25 = .ok (.ifCond .eq 21, 3) := by decide +kernel
theorem d_Ma_work_28 : decode b_Ma_work 28 = .ok (.aload_n 0, 1) := by decide +kernel
theorem d_Ma_work_29 : decode b_Ma_work 29 = .ok (.aload_n 0, 1) := by decide +kernel
theorem d_Ma_work_30 : decode b_Ma_work 30 = .ok (.getfield 9, 3) := by decide +kernel
theorem d_Ma_work_33 : decode b_Ma_work 33 = .ok (.aload_n 0, 1) := by decide +kernel
theorem d_Ma_work_34 : decode b_Ma_work 34 = .ok (.getfield 41, 3) := by decide +kernel
theorem d_Ma_work_37 : decode b_Ma_work 37 = .ok (.invokevirtual 56, 3) := by decide +kernel
theorem d_Ma_work_40 : decode b_Ma_work 40 = .ok (.invokevirtual 60, 3) := by decide +kernel
theorem d_Ma_work_43 : decode b_Ma_work 43 = .ok (.goto 8, 3) := by decide +kernel
theorem d_Ma_work_46 : decode b_Ma_work 46 = .ok (.aload_n 0, 1) := by decide +kernel
theorem d_Ma_work_47 : decode b_Ma_work 47 = .ok (.iconst 2, 1) := by decide +kernel
theorem d_Ma_work_48 : decode b_Ma_work 48 = .ok (.putfield 47, 3) := by decide +kernel
theorem d_Ma_work_51 : decode b_Ma_work 51 = .ok (.iinc 2 1, 3) := by decide +kernel
theorem d_Ma_work_54 : decode b_Ma_work 54 = .ok (.goto (-52), 3) := by decide +kernel
theorem d_Ma_work_57 : decode b_Ma_work 57 = .ok (.return_, 1) := by decide +kernel
theorem d_Ma_wrapped_0 : decode b_Ma_wrapped 0 = .ok (.iload_n 0, 1) := by decide +kernel
theorem d_Ma_wrapped_1 : decode b_Ma_wrapped 1 = .ok (.i2s, 1) := by decide +kernel
theorem d_Ma_wrapped_2 : decode b_Ma_wrapped 2 = .ok (.ireturn, 1) := by decide +kernel
theorem d_So_begin_0 : decode b_So_begin 0 = .ok (.aload_n 0, 1) := by decide +kernel
theorem d_So_begin_1 : decode b_So_begin 1 = .ok (.aload_n 2, 1) := by decide +kernel
theorem d_So_begin_2 : decode b_So_begin 2 = .ok (.invokevirtual 9, 3) := by decide +kernel
theorem d_So_begin_5 : decode b_So_begin 5 = .ok (.aload_n 1, 1) := by decide +kernel
theorem d_So_begin_6 : decode b_So_begin 6 = .ok (.iconst 0, 1) := by decide +kernel
theorem d_So_begin_7 : decode b_So_begin 7 = .ok (.aload_n 0, 1) := by decide +kernel
theorem d_So_begin_8 : decode b_So_begin 8 = .ok (.getfield 15, 3) := by decide +kernel
theorem d_So_begin_11 : decode b_So_begin 11 = .ok (.iconst 0, 1) := by decide +kernel
theorem d_So_begin_12 : decode b_So_begin 12 = .ok (.bipush 8, 2) := by decide +kernel
theorem d_So_begin_14 : decode b_So_begin 14 = .ok (.invokestatic 19, 3) := by decide +kernel
theorem d_So_begin_17 : decode b_So_begin 17 = .ok (.aload_n 0, 1) := by decide +kernel
theorem d_So_begin_18 : decode b_So_begin 18 = .ok (.iconst 1, 1) := by decide +kernel
theorem d_So_begin_19 : decode b_So_begin 19 = .ok (.putfield 25, 3) := by decide +kernel
theorem d_So_begin_22 : decode b_So_begin 22 = .ok (.return_, 1) := by decide +kernel
theorem d_So_branch_0 : decode b_So_branch 0 = .ok (.aload_n 0, 1) := by decide +kernel
theorem d_So_branch_1 : decode b_So_branch 1 = .ok (.getfield 15, 3) := by decide +kernel
theorem d_So_branch_4 : decode b_So_branch 4 = .ok (.aload_n 0, 1) := by decide +kernel
theorem d_So_branch_5 : decode b_So_branch 5 = .ok (.getfield 36, 3) := by decide +kernel
theorem d_So_branch_8 : decode b_So_branch 8 = .ok (.aload_n 0, 1) := by decide +kernel
theorem d_So_branch_9 : decode b_So_branch 9 = .ok (.getfield 33, 3) := by decide +kernel
theorem d_So_branch_12 : decode b_So_branch 12 = .ok (.invokevirtual 40, 3) := by decide +kernel
theorem d_So_branch_15 : decode b_So_branch 15 = .ok (.iaload, 1) := by decide +kernel
theorem d_So_branch_16 : decode b_So_branch 16 = .ok (.istore_n 2, 1) := by decide +kernel
theorem d_So_branch_17 : decode b_So_branch 17 = .ok (.aload_n 0, 1) := by decide +kernel
theorem d_So_branch_18 : decode b_So_branch 18 = .ok (.getfield 15, 3) := by decide +kernel
theorem d_So_branch_21 : decode b_So_branch 21 = .ok (.aload_n 0, 1) := by decide +kernel
theorem d_So_branch_22 : decode b_So_branch 22 = .ok (.getfield 36, 3) := by decide +kernel
theorem d_So_branch_25 : decode b_So_branch 25 = .ok (.aload_n 0, 1) := by decide +kernel
theorem d_So_branch_26 : decode b_So_branch 26 = .ok (.getfield 33, 3) := by decide +kernel
theorem d_So_branch_29 : decode b_So_branch 29 = .ok (.invokevirtual 45, 3) := by decide +kernel
theorem d_So_branch_32 : decode b_So_branch 32 = .ok (.iaload, 1) := by decide +kernel
theorem d_So_branch_33 : decode b_So_branch 33 = .ok (.istore_n 3, 1) := by decide +kernel
theorem d_So_branch_34 : decode b_So_branch 34 = .ok (.aload_n 0, 1) := by decide +kernel
theorem d_So_branch_35 : decode b_So_branch 35 = .ok (.getfield 36, 3) := by decide +kernel
theorem d_So_branch_38 : decode b_So_branch 38 = .ok (.aload_n 0, 1) := by decide +kernel
theorem d_So_branch_39 : decode b_So_branch 39 = .ok (.getfield 33, 3) := by decide +kernel
theorem d_So_branch_42 : decode b_So_branch 42 = .ok (.invokevirtual 48, 3) := by decide +kernel
theorem d_So_branch_45 : decode b_So_branch 45 = .ok (.istore 4, 2) := by decide +kernel
theorem d_So_branch_47 : decode b_So_branch 47 = .ok (.iload_n 1, 1) := by decide +kernel
theorem d_So_branch_48 : decode b_So_branch 48 = .ok (.tableswitch 101 9 13 #[36, 60, 101, 84, 99], 36) := by decide +kernel
theorem d_So_branch_84 : decode b_So_branch 84 = .ok (.iload_n 2, 1) := by decide +kernel
theorem d_So_branch_85 : decode b_So_branch 85 = .ok (.iload_n 3, 1) := by decide +kernel
theorem d_So_branch_86 : decode b_So_branch 86 = .ok (.if_icmp .ne 15, 3) := by decide +kernel
theorem d_So_branch_89 : decode b_So_branch 89 = .ok (.aload_n 0, 1) := by decide +kernel
theorem d_So_branch_90 : decode b_So_branch 90 = .ok (.getfield 33, 3) := by decide +kernel
theorem d_So_branch_93 : decode b_So_branch 93 = .ok (.iconst 1, 1) := by decide +kernel
theorem d_So_branch_94 : decode b_So_branch 94 = .ok (.iadd, 1) := by decide +kernel
theorem d_So_branch_95 : decode b_So_branch 95 = .ok (.iload 4, 2) := by decide +kernel
theorem d_So_branch_97 : decode b_So_branch 97 = .ok (.iadd, 1) := by decide +kernel
theorem d_So_branch_98 : decode b_So_branch 98 = .ok (.goto 9, 3) := by decide +kernel
theorem d_So_branch_101 : decode b_So_branch 101 = .ok (.aload_n 0, 1) := by decide +kernel
theorem d_So_branch_102 : decode b_So_branch 102 = .ok (.getfield 25, 3) := by decide +kernel
theorem d_So_branch_105 : decode b_So_branch 105 = .ok (.iconst 1, 1) := by decide +kernel
theorem d_So_branch_106 : decode b_So_branch 106 = .ok (.iadd, 1) := by decide +kernel
theorem d_So_branch_107 : decode b_So_branch 107 = .ok (.ireturn, 1) := by decide +kernel
theorem d_So_branch_108 : decode b_So_branch 108 = .ok (.iload_n 2, 1) := by decide +kernel
theorem d_So_branch_109 : decode b_So_branch 109 = .ok (.iload_n 3, 1) := by decide +kernel
theorem d_So_branch_110 : decode b_So_branch 110 = .ok (.if_icmp .eq 15, 3) := by decide +kernel
theorem d_So_branch_113 : decode b_So_branch 113 = .ok (.aload_n 0, 1) := by decide +kernel
theorem d_So_branch_114 : decode b_So_branch 114 = .ok (.getfield 33, 3) := by decide +kernel
theorem d_So_branch_117 : decode b_So_branch 117 = .ok (.iconst 1, 1) := by decide +kernel
theorem d_So_branch_118 : decode b_So_branch 118 = .ok (.iadd, 1) := by decide +kernel
theorem d_So_branch_119 : decode b_So_branch 119 = .ok (.iload 4, 2) := by decide +kernel
theorem d_So_branch_121 : decode b_So_branch 121 = .ok (.iadd, 1) := by decide +kernel
theorem d_So_branch_122 : decode b_So_branch 122 = .ok (.goto 9, 3) := by decide +kernel
theorem d_So_branch_125 : decode b_So_branch 125 = .ok (.aload_n 0, 1) := by decide +kernel
theorem d_So_branch_126 : decode b_So_branch 126 = .ok (.getfield 25, 3) := by decide +kernel
theorem d_So_branch_129 : decode b_So_branch 129 = .ok (.iconst 1, 1) := by decide +kernel
theorem d_So_branch_130 : decode b_So_branch 130 = .ok (.iadd, 1) := by decide +kernel
theorem d_So_branch_131 : decode b_So_branch 131 = .ok (.ireturn, 1) := by decide +kernel
theorem d_So_branch_132 : decode b_So_branch 132 = .ok (.aload_n 0, 1) := by decide +kernel
theorem d_So_branch_133 : decode b_So_branch 133 = .ok (.bipush 7, 2) := by decide +kernel
theorem d_So_branch_135 : decode b_So_branch 135 = .ok (.aload_n 0, 1) := by decide +kernel
theorem d_So_branch_136 : decode b_So_branch 136 = .ok (.getfield 33, 3) := by decide +kernel
theorem d_So_branch_139 : decode b_So_branch 139 = .ok (.iconst 2, 1) := by decide +kernel
theorem d_So_branch_140 : decode b_So_branch 140 = .ok (.iadd, 1) := by decide +kernel
theorem d_So_branch_141 : decode b_So_branch 141 = .ok (.invokevirtual 51, 3) := by decide +kernel
theorem d_So_branch_144 : decode b_So_branch 144 = .ok (.iload 4, 2) := by decide +kernel
theorem d_So_branch_146 : decode b_So_branch 146 = .ok (.ireturn, 1) := by decide +kernel
theorem d_So_branch_147 : decode b_So_branch 147 = .ok (.iload_n 2, 1) := by decide +kernel
theorem d_So_branch_148 : decode b_So_branch 148 = .ok (.ireturn, 1) := by decide +kernel
theorem d_So_branch_149 : decode b_So_branch 149 = .ok (.iload 4, 2) := by decide +kernel
theorem d_So_branch_151 : decode b_So_branch 151 = .ok (.ireturn, 1) := by decide +kernel
theorem d_So_goOn_0 : decode b_So_goOn 0 = .ok (.iload_n 1, 1) := by decide +kernel
theorem d_So_goOn_1 : decode b_So_goOn 1 = .ok (.bipush 9, 2) := by decide +kernel
theorem d_So_goOn_3 : decode b_So_goOn 3 = .ok (.if_icmp .ge 12, 3) := by decide +kernel
theorem d_So_goOn_6 : decode b_So_goOn 6 = .ok (.aload_n 0, 1) := by decide +kernel
theorem d_So_goOn_7 : decode b_So_goOn 7 = .ok (.getfield 25, 3) := by decide +kernel
theorem d_So_goOn_10 : decode b_So_goOn 10 = .ok (.iconst 1, 1) := by decide +kernel
theorem d_So_goOn_11 : decode b_So_goOn 11 = .ok (.iadd, 1) := by decide +kernel
theorem d_So_goOn_12 : decode b_So_goOn 12 = .ok (.goto 8, 3) := by decide +kernel
theorem d_So_goOn_15 : decode b_So_goOn 15 = .ok (.aload_n 0, 1) := by decide +kernel
theorem d_So_goOn_16 : decode b_So_goOn 16 = .ok (.iload_n 1, 1) := by decide +kernel
theorem d_So_goOn_17 : decode b_So_goOn 17 = .ok (.invokevirtual 29, 3) := by decide +kernel
theorem d_So_goOn_20 : decode b_So_goOn 20 = .ok (.istore_n 2, 1) := by decide +kernel
theorem d_So_goOn_21 : decode b_So_goOn 21 = .ok (.aload_n 0, 1) := by decide +kernel
theorem d_So_goOn_22 : decode b_So_goOn 22 = .ok (.aload_n 0, 1) := by decide +kernel
theorem d_So_goOn_23 : decode b_So_goOn 23 = .ok (.getfield 25, 3) := by decide +kernel
theorem d_So_goOn_26 : decode b_So_goOn 26 = .ok (.putfield 33, 3) := by decide +kernel
theorem d_So_goOn_29 : decode b_So_goOn 29 = .ok (.aload_n 0, 1) := by decide +kernel
theorem d_So_goOn_30 : decode b_So_goOn 30 = .ok (.iload_n 2, 1) := by decide +kernel
theorem d_So_goOn_31 : decode b_So_goOn 31 = .ok (.putfield 25, 3) := by decide +kernel
theorem d_So_goOn_34 : decode b_So_goOn 34 = .ok (.return_, 1) := by decide +kernel
theorem d_So_howItStops_0 : decode b_So_howItStops 0 = .ok (.iconst 1, 1) := by decide +kernel
theorem d_So_howItStops_1 : decode b_So_howItStops 1 = .ok (.ireturn, 1) := by decide +kernel
theorem d_So_init_0 : decode b_So_init 0 = .ok (.aload_n 0, 1) := by decide +kernel
theorem d_So_init_1 : decode b_So_init 1 = .ok (.aload_n 1, 1) := by decide +kernel
theorem d_So_init_2 : decode b_So_init 2 = .ok (.bipush 32, 2) := by decide +kernel
theorem d_So_init_4 : decode b_So_init 4 = .ok (.invokespecial 3, 3) := by decide +kernel
theorem d_So_init_7 : decode b_So_init 7 = .ok (.return_, 1) := by decide +kernel
theorem d_So_sourceRegister_0 : decode b_So_sourceRegister 0 = .ok (.aload_n 0, 1) := by decide +kernel
theorem d_So_sourceRegister_1 : decode b_So_sourceRegister 1 = .ok (.getfield 15, 3) := by decide +kernel
theorem d_So_sourceRegister_4 : decode b_So_sourceRegister 4 = .ok (.iload_n 1, 1) := by decide +kernel
theorem d_So_sourceRegister_5 : decode b_So_sourceRegister 5 = .ok (.iaload, 1) := by decide +kernel
theorem d_So_sourceRegister_6 : decode b_So_sourceRegister 6 = .ok (.ireturn, 1) := by decide +kernel
theorem d_TM_access_0 : decode b_TM_access 0 = .ok (.iload_n 1, 1) := by decide +kernel
theorem d_TM_access_1 : decode b_TM_access 1 = .ok (.invokestatic 104, 3) := by decide +kernel
theorem d_TM_access_4 : decode b_TM_access 4 = .ok (.ifCond .eq 12, 3) := by decide +kernel
theorem d_TM_access_7 : decode b_TM_access 7 = .ok (.iload_n 3, 1) := by decide +kernel
theorem d_TM_access_8 : decode b_TM_access 8 = .ok (.iconst 0, 1) := by decide +kernel
theorem d_TM_access_9 : decode b_TM_access 9 = .ok (.iconst 2, 1) := by decide +kernel
theorem d_TM_access_10 : decode b_TM_access 10 = .ok (.invokestatic 49, 3) := by decide +kernel
theorem d_TM_access_13 : decode b_TM_access 13 = .ok (.ifCond .ne 11, 3) := by decide +kernel
theorem d_TM_access_16 : decode b_TM_access 16 = .ok (.new 53, 3) := by decide +kernel
theorem d_TM_access_19 : decode b_TM_access 19 = .ok (.dup, 1) := by decide +kernel
theorem d_TM_access_20 : decode b_TM_access 20 = .ok (.invokespecial 55, 3) := by decide +kernel
theorem d_TM_access_23 : decode b_TM_access 23 = .ok (.athrow, 1) := by decide +kernel
theorem d_TM_access_24 : decode b_TM_access 24 = .ok (.aload_n 0, 1) := by decide +kernel
theorem d_TM_access_25 : decode b_TM_access 25 = .ok (.iload_n 1, 1) := by decide +kernel
theorem d_TM_access_26 : decode b_TM_access 26 = .ok (.invokevirtual 107, 3) := by decide +kernel
theorem d_TM_access_29 : decode b_TM_access 29 = .ok (.astore 4, 2) := by decide +kernel
theorem d_TM_access_31 : decode b_TM_access 31 = .ok (.iload_n 2, 1) := by decide +kernel
theorem d_TM_access_32 : decode b_TM_access 32 = .ok (.iconst 0, 1) := by decide +kernel
theorem d_TM_access_33 : decode b_TM_access 33 = .ok (.aload 4, 2) := by decide +kernel
theorem d_TM_access_35 : decode b_TM_access 35 = .ok (.getfield 133, 3) := by decide +kernel
theorem d_TM_access_38 : decode b_TM_access 38 = .ok (.iconst 1, 1) := by decide +kernel
theorem d_TM_access_39 : decode b_TM_access 39 = .ok (.isub, 1) := by decide +kernel
theorem d_TM_access_40 : decode b_TM_access 40 = .ok (.invokestatic 49, 3) := by decide +kernel
theorem d_TM_access_43 : decode b_TM_access 43 = .ok (.ifCond .ne 11, 3) := by decide +kernel
theorem d_TM_access_46 : decode b_TM_access 46 = .ok (.new 84, 3) := by decide +kernel
theorem d_TM_access_49 : decode b_TM_access 49 = .ok (.dup, 1) := by decide +kernel
theorem d_TM_access_50 : decode b_TM_access 50 = .ok (.invokespecial 86, 3) := by decide +kernel
theorem d_TM_access_53 : decode b_TM_access 53 = .ok (.athrow, 1) := by decide +kernel
theorem d_TM_access_54 : decode b_TM_access 54 = .ok (.aload 4, 2) := by decide +kernel
theorem d_TM_access_56 : decode b_TM_access 56 = .ok (.getfield 139, 3) := by decide +kernel
theorem d_TM_access_59 : decode b_TM_access 59 = .ok (.iload_n 2, 1) := by decide +kernel
theorem d_TM_access_60 : decode b_TM_access 60 = .ok (.iconst 3, 1) := by decide +kernel
theorem d_TM_access_61 : decode b_TM_access 61 = .ok (.imul, 1) := by decide +kernel
theorem d_TM_access_62 : decode b_TM_access 62 = .ok (.iload_n 3, 1) := by decide +kernel
theorem d_TM_access_63 : decode b_TM_access 63 = .ok (.iadd, 1) := by decide +kernel
theorem d_TM_access_64 : decode b_TM_access 64 = .ok (.iaload, 1) := by decide +kernel
theorem d_TM_access_65 : decode b_TM_access 65 = .ok (.ireturn, 1) := by decide +kernel
theorem d_TM_add_0 : decode b_TM_add 0 = .ok (.iload_n 1, 1) := by decide +kernel
theorem d_TM_add_1 : decode b_TM_add 1 = .ok (.iconst 0, 1) := by decide +kernel
theorem d_TM_add_2 : decode b_TM_add 2 = .ok (.bipush 15, 2) := by decide +kernel
theorem d_TM_add_4 : decode b_TM_add 4 = .ok (.invokestatic 49, 3) := by decide +kernel
theorem d_TM_add_7 : decode b_TM_add 7 = .ok (.ifCond .eq 39, 3) := by decide +kernel
theorem d_TM_add_10 : decode b_TM_add 10 = .ok (.iload_n 2, 1) := by decide +kernel
theorem d_TM_add_11 : decode b_TM_add 11 = .ok (.iconst 0, 1) := by decide +kernel
theorem d_TM_add_12 : decode b_TM_add 12 = .ok (.bipush 7, 2) := by decide +kernel
theorem d_TM_add_14 : decode b_TM_add 14 = .ok (.invokestatic 49, 3) := by decide +kernel
theorem d_TM_add_17 : decode b_TM_add 17 = .ok (.ifCond .eq 29, 3) := by decide +kernel
theorem d_TM_add_20 : decode b_TM_add 20 = .ok (.iload_n 3, 1) := by decide +kernel
theorem d_TM_add_21 : decode b_TM_add 21 = .ok (.iconst 0, 1) := by decide +kernel
theorem d_TM_add_22 : decode b_TM_add 22 = .ok (.bipush 7, 2) := by decide +kernel
theorem d_TM_add_24 : decode b_TM_add 24 = .ok (.invokestatic 49, 3) := by decide +kernel
theorem d_TM_add_27 : decode b_TM_add 27 = .ok (.ifCond .eq 19, 3) := by decide +kernel
theorem d_TM_add_30 : decode b_TM_add 30 = .ok (.iload 4, 2) := by decide +kernel
theorem d_TM_add_32 : decode b_TM_add 32 = .ok (.bipush (-128), 2) := by decide +kernel
theorem d_TM_add_34 : decode b_TM_add 34 = .ok (.bipush 127, 2) := by decide +kernel
theorem d_TM_add_36 : decode b_TM_add 36 = .ok (.invokestatic 49, 3) := by decide +kernel
theorem d_TM_add_39 : decode b_TM_add 39 = .ok (.ifCond .eq 7, 3) := by decide +kernel
theorem d_TM_add_42 : decode b_TM_add 42 = .ok (.iconst 1, 1) := by decide +kernel
theorem d_TM_add_43 : decode b_TM_add 43 = .ok (.goto 4, 3) := by decide +kernel
theorem d_TM_add_46 : decode b_TM_add 46 = .ok (.iconst 0, 1) := by decide +kernel
theorem d_TM_add_47 : decode b_TM_add 47 = .ok (.istore 5, 2) := by decide +kernel
theorem d_TM_add_49 : decode b_TM_add 49 = .ok (.iload 5, 2) := by decide +kernel
theorem d_TM_add_51 : decode b_TM_add 51 = .ok (.ifCond .ne 11, 3) := by decide +kernel
theorem d_TM_add_54 : decode b_TM_add 54 = .ok (.new 53, 3) := by decide +kernel
theorem d_TM_add_57 : decode b_TM_add 57 = .ok (.dup, 1) := by decide +kernel
theorem d_TM_add_58 : decode b_TM_add 58 = .ok (.invokespecial 55, 3) := by decide +kernel
theorem d_TM_add_61 : decode b_TM_add 61 = .ok (.athrow, 1) := by decide +kernel
theorem d_TM_add_62 : decode b_TM_add 62 = .ok (.aload_n 0, 1) := by decide +kernel
theorem d_TM_add_63 : decode b_TM_add 63 = .ok (.getfield 14, 3) := by decide +kernel
theorem d_TM_add_66 : decode b_TM_add 66 = .ok (.getfield 56, 3) := by decide +kernel
theorem d_TM_add_69 : decode b_TM_add 69 = .ok (.bipush 24, 2) := by decide +kernel
theorem d_TM_add_71 : decode b_TM_add 71 = .ok (.if_icmp .lt 11, 3) := by decide +kernel
theorem d_TM_add_74 : decode b_TM_add 74 = .ok (.new 60, 3) := by decide +kernel
theorem d_TM_add_77 : decode b_TM_add 77 = .ok (.dup, 1) := by decide +kernel
theorem d_TM_add_78 : decode b_TM_add 78 = .ok (.invokespecial 62, 3) := by decide +kernel
theorem d_TM_add_81 : decode b_TM_add 81 = .ok (.athrow, 1) := by decide +kernel
theorem d_TM_add_82 : decode b_TM_add 82 = .ok (.aload_n 0, 1) := by decide +kernel
theorem d_TM_add_83 : decode b_TM_add 83 = .ok (.getfield 14, 3) := by decide +kernel
theorem d_TM_add_86 : decode b_TM_add 86 = .ok (.iload_n 1, 1) := by decide +kernel
theorem d_TM_add_87 : decode b_TM_add 87 = .ok (.iload_n 2, 1) := by decide +kernel
theorem d_TM_add_88 : decode b_TM_add 88 = .ok (.iload_n 3, 1) := by decide +kernel
theorem d_TM_add_89 : decode b_TM_add 89 = .ok (.iload 4, 2) := by decide +kernel
theorem d_TM_add_91 : decode b_TM_add 91 = .ok (.invokevirtual 63, 3) := by decide +kernel
theorem d_TM_add_94 : decode b_TM_add 94 = .ok (.aload_n 0, 1) := by decide +kernel
theorem d_TM_add_95 : decode b_TM_add 95 = .ok (.getfield 23, 3) := by decide +kernel
theorem d_TM_add_98 : decode b_TM_add 98 = .ok (.getfield 67, 3) := by decide +kernel
theorem d_TM_add_101 : decode b_TM_add 101 = .ok (.invokevirtual 70, 3) := by decide +kernel
theorem d_TM_add_104 : decode b_TM_add 104 = .ok (.aload_n 0, 1) := by decide +kernel
theorem d_TM_add_105 : decode b_TM_add 105 = .ok (.getfield 14, 3) := by decide +kernel
theorem d_TM_add_108 : decode b_TM_add 108 = .ok (.getfield 56, 3) := by decide +kernel
theorem d_TM_add_111 : decode b_TM_add 111 = .ok (.iconst 1, 1) := by decide +kernel
theorem d_TM_add_112 : decode b_TM_add 112 = .ok (.isub, 1) := by decide +kernel
theorem d_TM_add_113 : decode b_TM_add 113 = .ok (.ireturn, 1) := by decide +kernel
theorem d_TM_begins_0 : decode b_TM_begins 0 = .ok (.aload_n 0, 1) := by decide +kernel
theorem d_TM_begins_1 : decode b_TM_begins 1 = .ok (.getfield 23, 3) := by decide +kernel
theorem d_TM_begins_4 : decode b_TM_begins 4 = .ok (.invokevirtual 91, 3) := by decide +kernel
theorem d_TM_begins_7 : decode b_TM_begins 7 = .ok (.ifCond .eq 18, 3) := by decide +kernel
theorem d_TM_begins_10 : decode b_TM_begins 10 = .ok (.iload_n 1, 1) := by decide +kernel
theorem d_TM_begins_11 : decode b_TM_begins 11 = .ok (.iconst 0, 1) := by decide +kernel
theorem d_TM_begins_12 : decode b_TM_begins 12 = .ok (.aload_n 0, 1) := by decide +kernel
theorem d_TM_begins_13 : decode b_TM_begins 13 = .ok (.getfield 14, 3) := by decide +kernel
theorem d_TM_begins_16 : decode b_TM_begins 16 = .ok (.getfield 56, 3) := by decide +kernel
theorem d_TM_begins_19 : decode b_TM_begins 19 = .ok (.invokestatic 49, 3) := by decide +kernel
theorem d_TM_begins_22 : decode b_TM_begins 22 = .ok (.ifCond .ne 11, 3) := by decide +kernel
theorem d_TM_begins_25 : decode b_TM_begins 25 = .ok (.new 84, 3) := by decide +kernel
theorem d_TM_begins_28 : decode b_TM_begins 28 = .ok (.dup, 1) := by decide +kernel
theorem d_TM_begins_29 : decode b_TM_begins 29 = .ok (.invokespecial 86, 3) := by decide +kernel
theorem d_TM_begins_32 : decode b_TM_begins 32 = .ok (.athrow, 1) := by decide +kernel
theorem d_TM_begins_33 : decode b_TM_begins 33 = .ok (.aload_n 0, 1) := by decide +kernel
theorem d_TM_begins_34 : decode b_TM_begins 34 = .ok (.getfield 23, 3) := by decide +kernel
theorem d_TM_begins_37 : decode b_TM_begins 37 = .ok (.getfield 95, 3) := by decide +kernel
theorem d_TM_begins_40 : decode b_TM_begins 40 = .ok (.iload_n 1, 1) := by decide +kernel
theorem d_TM_begins_41 : decode b_TM_begins 41 = .ok (.iaload, 1) := by decide +kernel
theorem d_TM_begins_42 : decode b_TM_begins 42 = .ok (.ireturn, 1) := by decide +kernel
theorem d_TM_cell_0 : decode b_TM_cell 0 = .ok (.iload_n 1, 1) := by decide +kernel
theorem d_TM_cell_1 : decode b_TM_cell 1 = .ok (.invokestatic 104, 3) := by decide +kernel
theorem d_TM_cell_4 : decode b_TM_cell 4 = .ok (.ifCond .eq 10, 3) := by decide +kernel
theorem d_TM_cell_7 : decode b_TM_cell 7 = .ok (.iload_n 2, 1) := by decide +kernel
theorem d_TM_cell_8 : decode b_TM_cell 8 = .ok (.invokestatic 101, 3) := by decide +kernel
theorem d_TM_cell_11 : decode b_TM_cell 11 = .ok (.ifCond .ne 11, 3) := by decide +kernel
theorem d_TM_cell_14 : decode b_TM_cell 14 = .ok (.new 53, 3) := by decide +kernel
theorem d_TM_cell_17 : decode b_TM_cell 17 = .ok (.dup, 1) := by decide +kernel
theorem d_TM_cell_18 : decode b_TM_cell 18 = .ok (.invokespecial 55, 3) := by decide +kernel
theorem d_TM_cell_21 : decode b_TM_cell 21 = .ok (.athrow, 1) := by decide +kernel
theorem d_TM_cell_22 : decode b_TM_cell 22 = .ok (.aload_n 0, 1) := by decide +kernel
theorem d_TM_cell_23 : decode b_TM_cell 23 = .ok (.iload_n 1, 1) := by decide +kernel
theorem d_TM_cell_24 : decode b_TM_cell 24 = .ok (.invokevirtual 107, 3) := by decide +kernel
theorem d_TM_cell_27 : decode b_TM_cell 27 = .ok (.getfield 136, 3) := by decide +kernel
theorem d_TM_cell_30 : decode b_TM_cell 30 = .ok (.iload_n 2, 1) := by decide +kernel
theorem d_TM_cell_31 : decode b_TM_cell 31 = .ok (.iaload, 1) := by decide +kernel
theorem d_TM_cell_32 : decode b_TM_cell 32 = .ok (.ireturn, 1) := by decide +kernel
theorem d_TM_clear_0 : decode b_TM_clear 0 = .ok (.aload_n 0, 1) := by decide +kernel
theorem d_TM_clear_1 : decode b_TM_clear 1 = .ok (.getfield 14, 3) := by decide +kernel
theorem d_TM_clear_4 : decode b_TM_clear 4 = .ok (.getfield 56, 3) := by decide +kernel
theorem d_TM_clear_7 : decode b_TM_clear 7 = .ok (.istore_n 1, 1) := by decide +kernel
theorem d_TM_clear_8 : decode b_TM_clear 8 = .ok (.aload_n 0, 1) := by decide +kernel
theorem d_TM_clear_9 : decode b_TM_clear 9 = .ok (.getfield 14, 3) := by decide +kernel
theorem d_TM_clear_12 : decode b_TM_clear 12 = .ok (.invokevirtual 70, 3) := by decide +kernel
theorem d_TM_clear_15 : decode b_TM_clear 15 = .ok (.aload_n 0, 1) := by decide +kernel
theorem d_TM_clear_16 : decode b_TM_clear 16 = .ok (.getfield 23, 3) := by decide +kernel
theorem d_TM_clear_19 : decode b_TM_clear 19 = .ok (.getfield 67, 3) := by decide +kernel
theorem d_TM_clear_22 : decode b_TM_clear 22 = .ok (.invokevirtual 70, 3) := by decide +kernel
theorem d_TM_clear_25 : decode b_TM_clear 25 = .ok (.iload_n 1, 1) := by decide +kernel
theorem d_TM_clear_26 : decode b_TM_clear 26 = .ok (.ireturn, 1) := by decide +kernel
theorem d_TM_code_0 : decode b_TM_code 0 = .ok (.iload_n 2, 1) := by decide +kernel
theorem d_TM_code_1 : decode b_TM_code 1 = .ok (.iconst 0, 1) := by decide +kernel
theorem d_TM_code_2 : decode b_TM_code 2 = .ok (.iconst 3, 1) := by decide +kernel
theorem d_TM_code_3 : decode b_TM_code 3 = .ok (.invokestatic 49, 3) := by decide +kernel
theorem d_TM_code_6 : decode b_TM_code 6 = .ok (.ifCond .ne 11, 3) := by decide +kernel
theorem d_TM_code_9 : decode b_TM_code 9 = .ok (.new 53, 3) := by decide +kernel
theorem d_TM_code_12 : decode b_TM_code 12 = .ok (.dup, 1) := by decide +kernel
theorem d_TM_code_13 : decode b_TM_code 13 = .ok (.invokespecial 55, 3) := by decide +kernel
theorem d_TM_code_16 : decode b_TM_code 16 = .ok (.athrow, 1) := by decide +kernel
theorem d_TM_code_17 : decode b_TM_code 17 = .ok (.aload_n 0, 1) := by decide +kernel
theorem d_TM_code_18 : decode b_TM_code 18 = .ok (.getfield 23, 3) := by decide +kernel
theorem d_TM_code_21 : decode b_TM_code 21 = .ok (.getfield 67, 3) := by decide +kernel
theorem d_TM_code_24 : decode b_TM_code 24 = .ok (.iload_n 1, 1) := by decide +kernel
theorem d_TM_code_25 : decode b_TM_code 25 = .ok (.invokevirtual 80, 3) := by decide +kernel
theorem d_TM_code_28 : decode b_TM_code 28 = .ok (.ifCond .ne 11, 3) := by decide +kernel
theorem d_TM_code_31 : decode b_TM_code 31 = .ok (.new 84, 3) := by decide +kernel
theorem d_TM_code_34 : decode b_TM_code 34 = .ok (.dup, 1) := by decide +kernel
theorem d_TM_code_35 : decode b_TM_code 35 = .ok (.invokespecial 86, 3) := by decide +kernel
theorem d_TM_code_38 : decode b_TM_code 38 = .ok (.athrow, 1) := by decide +kernel
theorem d_TM_code_39 : decode b_TM_code 39 = .ok (.aload_n 0, 1) := by decide +kernel
theorem d_TM_code_40 : decode b_TM_code 40 = .ok (.getfield 23, 3) := by decide +kernel
theorem d_TM_code_43 : decode b_TM_code 43 = .ok (.getfield 67, 3) := by decide +kernel
theorem d_TM_code_46 : decode b_TM_code 46 = .ok (.iload_n 1, 1) := by decide +kernel
theorem d_TM_code_47 : decode b_TM_code 47 = .ok (.iload_n 2, 1) := by decide +kernel
theorem d_TM_code_48 : decode b_TM_code 48 = .ok (.invokevirtual 87, 3) := by decide +kernel
theorem d_TM_code_51 : decode b_TM_code 51 = .ok (.ireturn, 1) := by decide +kernel
theorem d_TM_data_0 : decode b_TM_data 0 = .ok (.iload_n 1, 1) := by decide +kernel
theorem d_TM_data_1 : decode b_TM_data 1 = .ok (.invokestatic 101, 3) := by decide +kernel
theorem d_TM_data_4 : decode b_TM_data 4 = .ok (.ifCond .eq 10, 3) := by decide +kernel
theorem d_TM_data_7 : decode b_TM_data 7 = .ok (.iload_n 2, 1) := by decide +kernel
theorem d_TM_data_8 : decode b_TM_data 8 = .ok (.invokestatic 98, 3) := by decide +kernel
theorem d_TM_data_11 : decode b_TM_data 11 = .ok (.ifCond .ne 11, 3) := by decide +kernel
theorem d_TM_data_14 : decode b_TM_data 14 = .ok (.new 53, 3) := by decide +kernel
theorem d_TM_data_17 : decode b_TM_data 17 = .ok (.dup, 1) := by decide +kernel
theorem d_TM_data_18 : decode b_TM_data 18 = .ok (.invokespecial 55, 3) := by decide +kernel
theorem d_TM_data_21 : decode b_TM_data 21 = .ok (.athrow, 1) := by decide +kernel
theorem d_TM_data_22 : decode b_TM_data 22 = .ok (.aload_n 0, 1) := by decide +kernel
theorem d_TM_data_23 : decode b_TM_data 23 = .ok (.getfield 31, 3) := by decide +kernel
theorem d_TM_data_26 : decode b_TM_data 26 = .ok (.iload_n 1, 1) := by decide +kernel
theorem d_TM_data_27 : decode b_TM_data 27 = .ok (.iload_n 2, 1) := by decide +kernel
theorem d_TM_data_28 : decode b_TM_data 28 = .ok (.iastore, 1) := by decide +kernel
theorem d_TM_data_29 : decode b_TM_data 29 = .ok (.return_, 1) := by decide +kernel
theorem d_TM_init_0 : decode b_TM_init 0 = .ok (.aload_n 0, 1) := by decide +kernel
theorem d_TM_init_1 : decode b_TM_init 1 = .ok (.invokespecial 3, 3) := by decide +kernel
theorem d_TM_init_4 : decode b_TM_init 4 = .ok (.aload_n 0, 1) := by decide +kernel
theorem d_TM_init_5 : decode b_TM_init 5 = .ok (.new 9, 3) := by decide +kernel
theorem d_TM_init_8 : decode b_TM_init 8 = .ok (.dup, 1) := by decide +kernel
theorem d_TM_init_9 : decode b_TM_init 9 = .ok (.bipush 24, 2) := by decide +kernel
theorem d_TM_init_11 : decode b_TM_init 11 = .ok (.invokespecial 11, 3) := by decide +kernel
theorem d_TM_init_14 : decode b_TM_init 14 = .ok (.putfield 14, 3) := by decide +kernel
theorem d_TM_init_17 : decode b_TM_init 17 = .ok (.aload_n 0, 1) := by decide +kernel
theorem d_TM_init_18 : decode b_TM_init 18 = .ok (.new 18, 3) := by decide +kernel
theorem d_TM_init_21 : decode b_TM_init 21 = .ok (.dup, 1) := by decide +kernel
theorem d_TM_init_22 : decode b_TM_init 22 = .ok (.aload_n 0, 1) := by decide +kernel
theorem d_TM_init_23 : decode b_TM_init 23 = .ok (.getfield 14, 3) := by decide +kernel
theorem d_TM_init_26 : decode b_TM_init 26 = .ok (.invokespecial 20, 3) := by decide +kernel
theorem d_TM_init_29 : decode b_TM_init 29 = .ok (.putfield 23, 3) := by decide +kernel
theorem d_TM_init_32 : decode b_TM_init 32 = .ok (.aload_n 0, 1) := by decide +kernel
theorem d_TM_init_33 : decode b_TM_init 33 = .ok (.bipush 8, 2) := by decide +kernel
theorem d_TM_init_35 : decode b_TM_init 35 = .ok (.newarray .int, 2) := by decide +kernel
theorem d_TM_init_37 : decode b_TM_init 37 = .ok (.putfield 27, 3) := by decide +kernel
theorem d_TM_init_40 : decode b_TM_init 40 = .ok (.aload_n 0, 1) := by decide +kernel
theorem d_TM_init_41 : decode b_TM_init 41 = .ok (.bipush 32, 2) := by decide +kernel
theorem d_TM_init_43 : decode b_TM_init 43 = .ok (.newarray .int, 2) := by decide +kernel
theorem d_TM_init_45 : decode b_TM_init 45 = .ok (.putfield 31, 3) := by decide +kernel
theorem d_TM_init_48 : decode b_TM_init 48 = .ok (.aload_n 0, 1) := by decide +kernel
theorem d_TM_init_49 : decode b_TM_init 49 = .ok (.new 34, 3) := by decide +kernel
theorem d_TM_init_52 : decode b_TM_init 52 = .ok (.dup, 1) := by decide +kernel
theorem d_TM_init_53 : decode b_TM_init 53 = .ok (.aload_n 0, 1) := by decide +kernel
theorem d_TM_init_54 : decode b_TM_init 54 = .ok (.getfield 14, 3) := by decide +kernel
theorem d_TM_init_57 : decode b_TM_init 57 = .ok (.invokespecial 36, 3) := by decide +kernel
theorem d_TM_init_60 : decode b_TM_init 60 = .ok (.putfield 37, 3) := by decide +kernel
theorem d_TM_init_63 : decode b_TM_init 63 = .ok (.aload_n 0, 1) := by decide +kernel
theorem d_TM_init_64 : decode b_TM_init 64 = .ok (.new 41, 3) := by decide +kernel
theorem d_TM_init_67 : decode b_TM_init 67 = .ok (.dup, 1) := by decide +kernel
theorem d_TM_init_68 : decode b_TM_init 68 = .ok (.aload_n 0, 1) := by decide +kernel
theorem d_TM_init_69 : decode b_TM_init 69 = .ok (.getfield 23, 3) := by decide +kernel
theorem d_TM_init_72 : decode b_TM_init 72 = .ok (.invokespecial 43, 3) := by decide +kernel
theorem d_TM_init_75 : decode b_TM_init 75 = .ok (.putfield 46, 3) := by decide +kernel
theorem d_TM_init_78 : decode b_TM_init 78 = .ok (.return_, 1) := by decide +kernel
theorem d_TM_isDataCell_0 : decode b_TM_isDataCell 0 = .ok (.iload_n 0, 1) := by decide +kernel
theorem d_TM_isDataCell_1 : decode b_TM_isDataCell 1 = .ok (.iconst 0, 1) := by decide +kernel
theorem d_TM_isDataCell_2 : decode b_TM_isDataCell 2 = .ok (.bipush 31, 2) := by decide +kernel
theorem d_TM_isDataCell_4 : decode b_TM_isDataCell 4 = .ok (.invokestatic 49, 3) := by decide +kernel
theorem d_TM_isDataCell_7 : decode b_TM_isDataCell 7 = .ok (.ireturn, 1) := by decide +kernel
theorem d_TM_isMachine_0 : decode b_TM_isMachine 0 = .ok (.iload_n 0, 1) := by decide +kernel
theorem d_TM_isMachine_1 : decode b_TM_isMachine 1 = .ok (.ifCond .eq 8, 3) := by decide +kernel
theorem d_TM_isMachine_4 : decode b_TM_isMachine 4 = .ok (.iload_n 0, 1) := by decide +kernel
theorem d_TM_isMachine_5 : decode b_TM_isMachine 5 = .ok (.iconst 1, 1) := by decide +kernel
theorem d_TM_isMachine_6 : decode b_TM_isMachine 6 = .ok (.if_icmp .ne 7, 3) := by decide +kernel
theorem d_TM_isMachine_9 : decode b_TM_isMachine 9 = .ok (.iconst 1, 1) := by decide +kernel
theorem d_TM_isMachine_10 : decode b_TM_isMachine 10 = .ok (.goto 4, 3) := by decide +kernel
theorem d_TM_isMachine_13 : decode b_TM_isMachine 13 = .ok (.iconst 0, 1) := by decide +kernel
theorem d_TM_isMachine_14 : decode b_TM_isMachine 14 = .ok (.ireturn, 1) := by decide +kernel
theorem d_TM_isNumber_0 : decode b_TM_isNumber 0 = .ok (.iload_n 0, 1) := by decide +kernel
theorem d_TM_isNumber_1 : decode b_TM_isNumber 1 = .ok (.sipush (-32768), 3) := by decide +kernel
theorem d_TM_isNumber_4 : decode b_TM_isNumber 4 = .ok (.sipush 32767, 3) := by decide +kernel
theorem d_TM_isNumber_7 : decode b_TM_isNumber 7 = .ok (.invokestatic 49, 3) := by decide +kernel
theorem d_TM_isNumber_10 : decode b_TM_isNumber 10 = .ok (.ireturn, 1) := by decide +kernel
theorem d_TM_isWithin_0 : decode b_TM_isWithin 0 = .ok (.iload_n 0, 1) := by decide +kernel
theorem d_TM_isWithin_1 : decode b_TM_isWithin 1 = .ok (.iload_n 1, 1) := by decide +kernel
theorem d_TM_isWithin_2 : decode b_TM_isWithin 2 = .ok (.if_icmp .lt 12, 3) := by decide +kernel
theorem d_TM_isWithin_5 : decode b_TM_isWithin 5 = .ok (.iload_n 0, 1) := by decide +kernel
theorem d_TM_isWithin_6 : decode b_TM_isWithin 6 = .ok (.iload_n 2, 1) := by decide +kernel
theorem d_TM_isWithin_7 : decode b_TM_isWithin 7 = .ok (.if_icmp .gt 7, 3) := by decide +kernel
theorem d_TM_isWithin_10 : decode b_TM_isWithin 10 = .ok (.iconst 1, 1) := by decide +kernel
theorem d_TM_isWithin_11 : decode b_TM_isWithin 11 = .ok (.goto 4, 3) := by decide +kernel
theorem d_TM_isWithin_14 : decode b_TM_isWithin 14 = .ok (.iconst 0, 1) := by decide +kernel
theorem d_TM_isWithin_15 : decode b_TM_isWithin 15 = .ok (.ireturn, 1) := by decide +kernel
theorem d_TM_machineOf_0 : decode b_TM_machineOf 0 = .ok (.iload_n 1, 1) := by decide +kernel
theorem d_TM_machineOf_1 : decode b_TM_machineOf 1 = .ok (.ifCond .ne 10, 3) := by decide +kernel
theorem d_TM_machineOf_4 : decode b_TM_machineOf 4 = .ok (.aload_n 0, 1) := by decide +kernel
theorem d_TM_machineOf_5 : decode b_TM_machineOf 5 = .ok (.getfield 37, 3) := by decide +kernel
theorem d_TM_machineOf_8 : decode b_TM_machineOf 8 = .ok (.goto 7, 3) := by decide +kernel
theorem d_TM_machineOf_11 : decode b_TM_machineOf 11 = .ok (.aload_n 0, 1) := by decide +kernel
theorem d_TM_machineOf_12 : decode b_TM_machineOf 12 = .ok (.getfield 46, 3) := by decide +kernel
theorem d_TM_machineOf_15 : decode b_TM_machineOf 15 = .ok (.areturn, 1) := by decide +kernel
theorem d_TM_register_0 : decode b_TM_register 0 = .ok (.iload_n 1, 1) := by decide +kernel
theorem d_TM_register_1 : decode b_TM_register 1 = .ok (.iconst 1, 1) := by decide +kernel
theorem d_TM_register_2 : decode b_TM_register 2 = .ok (.bipush 7, 2) := by decide +kernel
theorem d_TM_register_4 : decode b_TM_register 4 = .ok (.invokestatic 49, 3) := by decide +kernel
theorem d_TM_register_7 : decode b_TM_register 7 = .ok (.ifCond .eq 10, 3) := by decide +kernel
theorem d_TM_register_10 : decode b_TM_register 10 = .ok (.iload_n 2, 1) := by decide +kernel
theorem d_TM_register_11 : decode b_TM_register 11 = .ok (.invokestatic 98, 3) := by decide +kernel
theorem d_TM_register_14 : decode b_TM_register 14 = .ok (.ifCond .ne 11, 3) := by decide +kernel
theorem d_TM_register_17 : decode b_TM_register 17 = .ok (.new 53, 3) := by decide +kernel
theorem d_TM_register_20 : decode b_TM_register 20 = .ok (.dup, 1) := by decide +kernel
theorem d_TM_register_21 : decode b_TM_register 21 = .ok (.invokespecial 55, 3) := by decide +kernel
theorem d_TM_register_24 : decode b_TM_register 24 = .ok (.athrow, 1) := by decide +kernel
theorem d_TM_register_25 : decode b_TM_register 25 = .ok (.aload_n 0, 1) := by decide +kernel
theorem d_TM_register_26 : decode b_TM_register 26 = .ok (.getfield 27, 3) := by decide +kernel
theorem d_TM_register_29 : decode b_TM_register 29 = .ok (.iload_n 1, 1) := by decide +kernel
theorem d_TM_register_30 : decode b_TM_register 30 = .ok (.iload_n 2, 1) := by decide +kernel
theorem d_TM_register_31 : decode b_TM_register 31 = .ok (.iastore, 1) := by decide +kernel
theorem d_TM_register_32 : decode b_TM_register 32 = .ok (.return_, 1) := by decide +kernel
theorem d_TM_result_0 : decode b_TM_result 0 = .ok (.iload_n 1, 1) := by decide +kernel
theorem d_TM_result_1 : decode b_TM_result 1 = .ok (.invokestatic 104, 3) := by decide +kernel
theorem d_TM_result_4 : decode b_TM_result 4 = .ok (.ifCond .ne 5, 3) := by decide +kernel
theorem d_TM_result_7 : decode b_TM_result 7 = .ok (.iconst (-1), 1) := by decide +kernel
theorem d_TM_result_8 : decode b_TM_result 8 = .ok (.ireturn, 1) := by decide +kernel
theorem d_TM_result_9 : decode b_TM_result 9 = .ok (.aload_n 0, 1) := by decide +kernel
theorem d_TM_result_10 : decode b_TM_result 10 = .ok (.iload_n 1, 1) := by decide +kernel
theorem d_TM_result_11 : decode b_TM_result 11 = .ok (.invokevirtual 107, 3) := by decide +kernel
theorem d_TM_result_14 : decode b_TM_result 14 = .ok (.astore_n 3, 1) := by decide +kernel
theorem d_TM_result_15 : decode b_TM_result 15 = .ok (.iload_n 2, 1) := by decide +kernel
theorem d_TM_result_16 : decode b_TM_result 16 = .ok (.iconst 0, 1) := by decide +kernel
theorem d_TM_result_17 : decode b_TM_result 17 = .ok (.bipush 7, 2) := by decide +kernel
theorem d_TM_result_19 : decode b_TM_result 19 = .ok (.invokestatic 49, 3) := by decide +kernel
theorem d_TM_result_22 : decode b_TM_result 22 = .ok (.ifCond .eq 9, 3) := by decide +kernel
theorem d_TM_result_25 : decode b_TM_result 25 = .ok (.aload_n 3, 1) := by decide +kernel
theorem d_TM_result_26 : decode b_TM_result 26 = .ok (.iload_n 2, 1) := by decide +kernel
theorem d_TM_result_27 : decode b_TM_result 27 = .ok (.invokevirtual 123, 3) := by decide +kernel
theorem d_TM_result_30 : decode b_TM_result 30 = .ok (.ireturn, 1) := by decide +kernel
theorem d_TM_result_31 : decode b_TM_result 31 = .ok (.iload_n 2, 1) := by decide +kernel
theorem d_TM_result_32 : decode b_TM_result 32 = .ok (.tableswitch 52 8 11 #[32, 37, 42, 47], 32) := by decide +kernel
theorem d_TM_result_64 : decode b_TM_result 64 = .ok (.aload_n 3, 1) := by decide +kernel
theorem d_TM_result_65 : decode b_TM_result 65 = .ok (.getfield 127, 3) := by decide +kernel
theorem d_TM_result_68 : decode b_TM_result 68 = .ok (.ireturn, 1) := by decide +kernel
theorem d_TM_result_69 : decode b_TM_result 69 = .ok (.aload_n 3, 1) := by decide +kernel
theorem d_TM_result_70 : decode b_TM_result 70 = .ok (.getfield 130, 3) := by decide +kernel
theorem d_TM_result_73 : decode b_TM_result 73 = .ok (.ireturn, 1) := by decide +kernel
theorem d_TM_result_74 : decode b_TM_result 74 = .ok (.aload_n 3, 1) := by decide +kernel
theorem d_TM_result_75 : decode b_TM_result 75 = .ok (.getfield 120, 3) := by decide +kernel
theorem d_TM_result_78 : decode b_TM_result 78 = .ok (.ireturn, 1) := by decide +kernel
theorem d_TM_result_79 : decode b_TM_result 79 = .ok (.aload_n 3, 1) := by decide +kernel
theorem d_TM_result_80 : decode b_TM_result 80 = .ok (.getfield 133, 3) := by decide +kernel
theorem d_TM_result_83 : decode b_TM_result 83 = .ok (.ireturn, 1) := by decide +kernel
theorem d_TM_result_84 : decode b_TM_result 84 = .ok (.iconst (-1), 1) := by decide +kernel
theorem d_TM_result_85 : decode b_TM_result 85 = .ok (.ireturn, 1) := by decide +kernel
theorem d_TM_run_0 : decode b_TM_run 0 = .ok (.iload_n 1, 1) := by decide +kernel
theorem d_TM_run_1 : decode b_TM_run 1 = .ok (.invokestatic 104, 3) := by decide +kernel
theorem d_TM_run_4 : decode b_TM_run 4 = .ok (.ifCond .eq 14, 3) := by decide +kernel
theorem d_TM_run_7 : decode b_TM_run 7 = .ok (.iload_n 2, 1) := by decide +kernel
theorem d_TM_run_8 : decode b_TM_run 8 = .ok (.iconst 0, 1) := by decide +kernel
theorem d_TM_run_9 : decode b_TM_run 9 = .ok (.sipush 2000, 3) := by decide +kernel
theorem d_TM_run_12 : decode b_TM_run 12 = .ok (.invokestatic 49, 3) := by decide +kernel
theorem d_TM_run_15 : decode b_TM_run 15 = .ok (.ifCond .ne 11, 3) := by decide +kernel
theorem d_TM_run_18 : decode b_TM_run 18 = .ok (.new 53, 3) := by decide +kernel
theorem d_TM_run_21 : decode b_TM_run 21 = .ok (.dup, 1) := by decide +kernel
theorem d_TM_run_22 : decode b_TM_run 22 = .ok (.invokespecial 55, 3) := by decide +kernel
theorem d_TM_run_25 : decode b_TM_run 25 = .ok (.athrow, 1) := by decide +kernel
theorem d_TM_run_26 : decode b_TM_run 26 = .ok (.iload_n 1, 1) := by decide +kernel
theorem d_TM_run_27 : decode b_TM_run 27 = .ok (.iconst 1, 1) := by decide +kernel
theorem d_TM_run_28 : decode b_TM_run 28 = .ok (.if_icmp .ne 21, 3) := by decide +kernel
theorem d_TM_run_31 : decode b_TM_run 31 = .ok (.aload_n 0, 1) := by decide +kernel
theorem d_TM_run_32 : decode b_TM_run 32 = .ok (.getfield 23, 3) := by decide +kernel
theorem d_TM_run_35 : decode b_TM_run 35 = .ok (.invokevirtual 91, 3) := by decide +kernel
theorem d_TM_run_38 : decode b_TM_run 38 = .ok (.ifCond .ne 11, 3) := by decide +kernel
theorem d_TM_run_41 : decode b_TM_run 41 = .ok (.new 60, 3) := by decide +kernel
theorem d_TM_run_44 : decode b_TM_run 44 = .ok (.dup, 1) := by decide +kernel
theorem d_TM_run_45 : decode b_TM_run 45 = .ok (.invokespecial 62, 3) := by decide +kernel
theorem d_TM_run_48 : decode b_TM_run 48 = .ok (.athrow, 1) := by decide +kernel
theorem d_TM_run_49 : decode b_TM_run 49 = .ok (.aload_n 0, 1) := by decide +kernel
theorem d_TM_run_50 : decode b_TM_run 50 = .ok (.iload_n 1, 1) := by decide +kernel
theorem d_TM_run_51 : decode b_TM_run 51 = .ok (.invokevirtual 107, 3) := by decide +kernel
theorem d_TM_run_54 : decode b_TM_run 54 = .ok (.astore_n 3, 1) := by decide +kernel
theorem d_TM_run_55 : decode b_TM_run 55 = .ok (.aload_n 3, 1) := by decide +kernel
theorem d_TM_run_56 : decode b_TM_run 56 = .ok (.aload_n 0, 1) := by decide +kernel
theorem d_TM_run_57 : decode b_TM_run 57 = .ok (.getfield 27, 3) := by decide +kernel
theorem d_TM_run_60 : decode b_TM_run 60 = .ok (.aload_n 0, 1) := by decide +kernel
theorem d_TM_run_61 : decode b_TM_run 61 = .ok (.getfield 31, 3) := by decide +kernel
theorem d_TM_run_64 : decode b_TM_run 64 = .ok (.invokevirtual 111, 3) := by decide +kernel
theorem d_TM_run_67 : decode b_TM_run 67 = .ok (.aload_n 3, 1) := by decide +kernel
theorem d_TM_run_68 : decode b_TM_run 68 = .ok (.iload_n 2, 1) := by decide +kernel
theorem d_TM_run_69 : decode b_TM_run 69 = .ok (.invokevirtual 117, 3) := by decide +kernel
theorem d_TM_run_72 : decode b_TM_run 72 = .ok (.aload_n 3, 1) := by decide +kernel
theorem d_TM_run_73 : decode b_TM_run 73 = .ok (.getfield 120, 3) := by decide +kernel
theorem d_TM_run_76 : decode b_TM_run 76 = .ok (.ireturn, 1) := by decide +kernel
theorem d_TM_size_0 : decode b_TM_size 0 = .ok (.aload_n 0, 1) := by decide +kernel
theorem d_TM_size_1 : decode b_TM_size 1 = .ok (.getfield 23, 3) := by decide +kernel
theorem d_TM_size_4 : decode b_TM_size 4 = .ok (.getfield 67, 3) := by decide +kernel
theorem d_TM_size_7 : decode b_TM_size 7 = .ok (.getfield 56, 3) := by decide +kernel
theorem d_TM_size_10 : decode b_TM_size 10 = .ok (.ireturn, 1) := by decide +kernel
theorem d_TM_translate_0 : decode b_TM_translate 0 = .ok (.aload_n 0, 1) := by decide +kernel
theorem d_TM_translate_1 : decode b_TM_translate 1 = .ok (.getfield 23, 3) := by decide +kernel
theorem d_TM_translate_4 : decode b_TM_translate 4 = .ok (.invokevirtual 73, 3) := by decide +kernel
theorem d_TM_translate_7 : decode b_TM_translate 7 = .ok (.istore_n 1, 1) := by decide +kernel
theorem d_TM_translate_8 : decode b_TM_translate 8 = .ok (.iload_n 1, 1) := by decide +kernel
theorem d_TM_translate_9 : decode b_TM_translate 9 = .ok (.ifCond .eq 16, 3) := by decide +kernel
theorem d_TM_translate_12 : decode b_TM_translate 12 = .ok (.aload_n 0, 1) := by decide +kernel
theorem d_TM_translate_13 : decode b_TM_translate 13 = .ok (.getfield 23, 3) := by decide +kernel
theorem d_TM_translate_16 : decode b_TM_translate 16 = .ok (.getfield 67, 3) := by decide +kernel
theorem d_TM_translate_19 : decode b_TM_translate 19 = .ok (.invokevirtual 70, 3) := by decide +kernel
theorem d_TM_translate_22 : decode b_TM_translate 22 = .ok (.goto 10, 3) := by decide +kernel
theorem d_TM_translate_25 : decode b_TM_translate 25 = .ok (.aload_n 0, 1) := by decide +kernel
theorem d_TM_translate_26 : decode b_TM_translate 26 = .ok (.getfield 23, 3) := by decide +kernel
theorem d_TM_translate_29 : decode b_TM_translate 29 = .ok (.invokevirtual 77, 3) := by decide +kernel
theorem d_TM_translate_32 : decode b_TM_translate 32 = .ok (.iload_n 1, 1) := by decide +kernel
theorem d_TM_translate_33 : decode b_TM_translate 33 = .ok (.ireturn, 1) := by decide +kernel
theorem d_Ta_begin_0 : decode b_Ta_begin 0 = .ok (.aload_n 0, 1) := by decide +kernel
theorem d_Ta_begin_1 : decode b_Ta_begin 1 = .ok (.aload_n 2, 1) := by decide +kernel
theorem d_Ta_begin_2 : decode b_Ta_begin 2 = .ok (.invokevirtual 21, 3) := by decide +kernel
theorem d_Ta_begin_5 : decode b_Ta_begin 5 = .ok (.iconst 1, 1) := by decide +kernel
theorem d_Ta_begin_6 : decode b_Ta_begin 6 = .ok (.istore_n 3, 1) := by decide +kernel
theorem d_Ta_begin_7 : decode b_Ta_begin 7 = .ok (.iload_n 3, 1) := by decide +kernel
theorem d_Ta_begin_8 : decode b_Ta_begin 8 = .ok (.bipush 8, 2) := by decide +kernel
theorem d_Ta_begin_10 : decode b_Ta_begin 10 = .ok (.if_icmp .ge 38, 3) := by decide +kernel
theorem d_Ta_begin_13 : decode b_Ta_begin 13 = .ok (.iload_n 3, 1) := by decide +kernel
theorem d_Ta_begin_14 : decode b_Ta_begin 14 = .ok (.iconst 4, 1) := by decide +kernel
theorem d_Ta_begin_15 : decode b_Ta_begin 15 = .ok (.if_icmp .ge 15, 3) := by decide +kernel
theorem d_Ta_begin_18 : decode b_Ta_begin 18 = .ok (.aload_n 0, 1) := by decide +kernel
theorem d_Ta_begin_19 : decode b_Ta_begin 19 = .ok (.getfield 25, 3) := by decide +kernel
theorem d_Ta_begin_22 : decode b_Ta_begin 22 = .ok (.iload_n 3, 1) := by decide +kernel
theorem d_Ta_begin_23 : decode b_Ta_begin 23 = .ok (.aload_n 1, 1) := by decide +kernel
theorem d_Ta_begin_24 : decode b_Ta_begin 24 = .ok (.iload_n 3, 1) := by decide +kernel
theorem d_Ta_begin_25 : decode b_Ta_begin 25 = .ok (.iaload, 1) := by decide +kernel
theorem d_Ta_begin_26 : decode b_Ta_begin 26 = .ok (.iastore, 1) := by decide +kernel
theorem d_Ta_begin_27 : decode b_Ta_begin 27 = .ok (.goto 15, 3) := by decide +kernel
theorem d_Ta_begin_30 : decode b_Ta_begin 30 = .ok (.aload_n 0, 1) := by decide +kernel
theorem d_Ta_begin_31 : decode b_Ta_begin 31 = .ok (.getfield 29, 3) := by decide +kernel
theorem d_Ta_begin_34 : decode b_Ta_begin 34 = .ok (.bipush 32, 2) := by decide +kernel
theorem d_Ta_begin_36 : decode b_Ta_begin 36 = .ok (.iload_n 3, 1) := by decide +kernel
theorem d_Ta_begin_37 : decode b_Ta_begin 37 = .ok (.iadd, 1) := by decide +kernel
theorem d_Ta_begin_38 : decode b_Ta_begin 38 = .ok (.aload_n 1, 1) := by decide +kernel
theorem d_Ta_begin_39 : decode b_Ta_begin 39 = .ok (.iload_n 3, 1) := by decide +kernel
theorem d_Ta_begin_40 : decode b_Ta_begin 40 = .ok (.iaload, 1) := by decide +kernel
theorem d_Ta_begin_41 : decode b_Ta_begin 41 = .ok (.iastore, 1) := by decide +kernel
theorem d_Ta_begin_42 : decode b_Ta_begin 42 = .ok (.iinc 3 1, 3) := by decide +kernel
theorem d_Ta_begin_45 : decode b_Ta_begin 45 = .ok (.goto (-38), 3) := by decide +kernel
theorem d_Ta_begin_48 : decode b_Ta_begin 48 = .ok (.aload_n 0, 1) := by decide +kernel
theorem d_Ta_begin_49 : decode b_Ta_begin 49 = .ok (.getfield 15, 3) := by decide +kernel
theorem d_Ta_begin_52 : decode b_Ta_begin 52 = .ok (.getfield 32, 3) := by decide +kernel
theorem d_Ta_begin_55 : decode b_Ta_begin 55 = .ok (.iconst 0, 1) := by decide +kernel
theorem d_Ta_begin_56 : decode b_Ta_begin 56 = .ok (.aload_n 0, 1) := by decide +kernel
theorem d_Ta_begin_57 : decode b_Ta_begin 57 = .ok (.getfield 29, 3) := by decide +kernel
theorem d_Ta_begin_60 : decode b_Ta_begin 60 = .ok (.bipush 40, 2) := by decide +kernel
theorem d_Ta_begin_62 : decode b_Ta_begin 62 = .ok (.aload_n 0, 1) := by decide +kernel
theorem d_Ta_begin_63 : decode b_Ta_begin 63 = .ok (.getfield 15, 3) := by decide +kernel
theorem d_Ta_begin_66 : decode b_Ta_begin 66 = .ok (.getfield 35, 3) := by decide +kernel
theorem d_Ta_begin_69 : decode b_Ta_begin 69 = .ok (.getfield 38, 3) := by decide +kernel
theorem d_Ta_begin_72 : decode b_Ta_begin 72 = .ok (.invokestatic 44, 3) := by decide +kernel
theorem d_Ta_begin_75 : decode b_Ta_begin 75 = .ok (.return_, 1) := by decide +kernel
theorem d_Ta_branch_0 : decode b_Ta_branch 0 = .ok (.aload_n 0, 1) := by decide +kernel
theorem d_Ta_branch_1 : decode b_Ta_branch 1 = .ok (.getfield 25, 3) := by decide +kernel
theorem d_Ta_branch_4 : decode b_Ta_branch 4 = .ok (.aload_n 0, 1) := by decide +kernel
theorem d_Ta_branch_5 : decode b_Ta_branch 5 = .ok (.getfield 50, 3) := by decide +kernel
theorem d_Ta_branch_8 : decode b_Ta_branch 8 = .ok (.aload_n 0, 1) := by decide +kernel
theorem d_Ta_branch_9 : decode b_Ta_branch 9 = .ok (.getfield 53, 3) := by decide +kernel
theorem d_Ta_branch_12 : decode b_Ta_branch 12 = .ok (.invokevirtual 63, 3) := by decide +kernel
theorem d_Ta_branch_15 : decode b_Ta_branch 15 = .ok (.iaload, 1) := by decide +kernel
theorem d_Ta_branch_16 : decode b_Ta_branch 16 = .ok (.istore_n 2, 1) := by decide +kernel
theorem d_Ta_branch_17 : decode b_Ta_branch 17 = .ok (.aload_n 0, 1) := by decide +kernel
theorem d_Ta_branch_18 : decode b_Ta_branch 18 = .ok (.getfield 25, 3) := by decide +kernel
theorem d_Ta_branch_21 : decode b_Ta_branch 21 = .ok (.aload_n 0, 1) := by decide +kernel
theorem d_Ta_branch_22 : decode b_Ta_branch 22 = .ok (.getfield 50, 3) := by decide +kernel
theorem d_Ta_branch_25 : decode b_Ta_branch 25 = .ok (.aload_n 0, 1) := by decide +kernel
theorem d_Ta_branch_26 : decode b_Ta_branch 26 = .ok (.getfield 53, 3) := by decide +kernel
theorem d_Ta_branch_29 : decode b_Ta_branch 29 = .ok (.invokevirtual 66, 3) := by decide +kernel
theorem d_Ta_branch_32 : decode b_Ta_branch 32 = .ok (.iaload, 1) := by decide +kernel
theorem d_Ta_branch_33 : decode b_Ta_branch 33 = .ok (.istore_n 3, 1) := by decide +kernel
theorem d_Ta_branch_34 : decode b_Ta_branch 34 = .ok (.aload_n 0, 1) := by decide +kernel
theorem d_Ta_branch_35 : decode b_Ta_branch 35 = .ok (.getfield 50, 3) := by decide +kernel
theorem d_Ta_branch_38 : decode b_Ta_branch 38 = .ok (.aload_n 0, 1) := by decide +kernel
theorem d_Ta_branch_39 : decode b_Ta_branch 39 = .ok (.getfield 53, 3) := by decide +kernel
theorem d_Ta_branch_42 : decode b_Ta_branch 42 = .ok (.invokevirtual 56, 3) := by decide +kernel
theorem d_Ta_branch_45 : decode b_Ta_branch 45 = .ok (.istore 4, 2) := by decide +kernel
theorem d_Ta_branch_47 : decode b_Ta_branch 47 = .ok (.iload_n 1, 1) := by decide +kernel
theorem d_Ta_branch_48 : decode b_Ta_branch 48 = .ok (.tableswitch 95 9 13 #[36, 53, 95, 70, 93], 36) := by decide +kernel
theorem d_Ta_branch_84 : decode b_Ta_branch 84 = .ok (.iload_n 2, 1) := by decide +kernel
theorem d_Ta_branch_85 : decode b_Ta_branch 85 = .ok (.iload_n 3, 1) := by decide +kernel
theorem d_Ta_branch_86 : decode b_Ta_branch 86 = .ok (.if_icmp .ne 8, 3) := by decide +kernel
theorem d_Ta_branch_89 : decode b_Ta_branch 89 = .ok (.iload 4, 2) := by decide +kernel
theorem d_Ta_branch_91 : decode b_Ta_branch 91 = .ok (.goto 9, 3) := by decide +kernel
theorem d_Ta_branch_94 : decode b_Ta_branch 94 = .ok (.aload_n 0, 1) := by decide +kernel
theorem d_Ta_branch_95 : decode b_Ta_branch 95 = .ok (.getfield 53, 3) := by decide +kernel
theorem d_Ta_branch_98 : decode b_Ta_branch 98 = .ok (.iconst 1, 1) := by decide +kernel
theorem d_Ta_branch_99 : decode b_Ta_branch 99 = .ok (.iadd, 1) := by decide +kernel
theorem d_Ta_branch_100 : decode b_Ta_branch 100 = .ok (.ireturn, 1) := by decide +kernel
theorem d_Ta_branch_101 : decode b_Ta_branch 101 = .ok (.iload_n 2, 1) := by decide +kernel
theorem d_Ta_branch_102 : decode b_Ta_branch 102 = .ok (.iload_n 3, 1) := by decide +kernel
theorem d_Ta_branch_103 : decode b_Ta_branch 103 = .ok (.if_icmp .eq 8, 3) := by decide +kernel
theorem d_Ta_branch_106 : decode b_Ta_branch 106 = .ok (.iload 4, 2) := by decide +kernel
theorem d_Ta_branch_108 : decode b_Ta_branch 108 = .ok (.goto 9, 3) := by decide +kernel
theorem d_Ta_branch_111 : decode b_Ta_branch 111 = .ok (.aload_n 0, 1) := by decide +kernel
theorem d_Ta_branch_112 : decode b_Ta_branch 112 = .ok (.getfield 53, 3) := by decide +kernel
theorem d_Ta_branch_115 : decode b_Ta_branch 115 = .ok (.iconst 1, 1) := by decide +kernel
theorem d_Ta_branch_116 : decode b_Ta_branch 116 = .ok (.iadd, 1) := by decide +kernel
theorem d_Ta_branch_117 : decode b_Ta_branch 117 = .ok (.ireturn, 1) := by decide +kernel
theorem d_Ta_branch_118 : decode b_Ta_branch 118 = .ok (.iload_n 2, 1) := by decide +kernel
theorem d_Ta_branch_119 : decode b_Ta_branch 119 = .ok (.invokestatic 69, 3) := by decide +kernel
theorem d_Ta_branch_122 : decode b_Ta_branch 122 = .ok (.iload_n 3, 1) := by decide +kernel
theorem d_Ta_branch_123 : decode b_Ta_branch 123 = .ok (.invokestatic 69, 3) := by decide +kernel
theorem d_Ta_branch_126 : decode b_Ta_branch 126 = .ok (.if_icmp .lt 8, 3) := by decide +kernel
theorem d_Ta_branch_129 : decode b_Ta_branch 129 = .ok (.iload 4, 2) := by decide +kernel
theorem d_Ta_branch_131 : decode b_Ta_branch 131 = .ok (.goto 9, 3) := by decide +kernel
theorem d_Ta_branch_134 : decode b_Ta_branch 134 = .ok (.aload_n 0, 1) := by decide +kernel
theorem d_Ta_branch_135 : decode b_Ta_branch 135 = .ok (.getfield 53, 3) := by decide +kernel
theorem d_Ta_branch_138 : decode b_Ta_branch 138 = .ok (.iconst 1, 1) := by decide +kernel
theorem d_Ta_branch_139 : decode b_Ta_branch 139 = .ok (.iadd, 1) := by decide +kernel
theorem d_Ta_branch_140 : decode b_Ta_branch 140 = .ok (.ireturn, 1) := by decide +kernel
theorem d_Ta_branch_141 : decode b_Ta_branch 141 = .ok (.iload_n 2, 1) := by decide +kernel
theorem d_Ta_branch_142 : decode b_Ta_branch 142 = .ok (.ireturn, 1) := by decide +kernel
theorem d_Ta_branch_143 : decode b_Ta_branch 143 = .ok (.iload 4, 2) := by decide +kernel
theorem d_Ta_branch_145 : decode b_Ta_branch 145 = .ok (.ireturn, 1) := by decide +kernel
theorem d_Ta_goOn_0 : decode b_Ta_goOn 0 = .ok (.aload_n 0, 1) := by decide +kernel
theorem d_Ta_goOn_1 : decode b_Ta_goOn 1 = .ok (.iload_n 1, 1) := by decide +kernel
theorem d_Ta_goOn_2 : decode b_Ta_goOn 2 = .ok (.bipush 9, 2) := by decide +kernel
theorem d_Ta_goOn_4 : decode b_Ta_goOn 4 = .ok (.if_icmp .ge 12, 3) := by decide +kernel
theorem d_Ta_goOn_7 : decode b_Ta_goOn 7 = .ok (.aload_n 0, 1) := by decide +kernel
theorem d_Ta_goOn_8 : decode b_Ta_goOn 8 = .ok (.getfield 53, 3) := by decide +kernel
theorem d_Ta_goOn_11 : decode b_Ta_goOn 11 = .ok (.iconst 1, 1) := by decide +kernel
theorem d_Ta_goOn_12 : decode b_Ta_goOn 12 = .ok (.iadd, 1) := by decide +kernel
theorem d_Ta_goOn_13 : decode b_Ta_goOn 13 = .ok (.goto 8, 3) := by decide +kernel
theorem d_Ta_goOn_16 : decode b_Ta_goOn 16 = .ok (.aload_n 0, 1) := by decide +kernel
theorem d_Ta_goOn_17 : decode b_Ta_goOn 17 = .ok (.iload_n 1, 1) := by decide +kernel
theorem d_Ta_goOn_18 : decode b_Ta_goOn 18 = .ok (.invokevirtual 60, 3) := by decide +kernel
theorem d_Ta_goOn_21 : decode b_Ta_goOn 21 = .ok (.putfield 53, 3) := by decide +kernel
theorem d_Ta_goOn_24 : decode b_Ta_goOn 24 = .ok (.return_, 1) := by decide +kernel
theorem d_Ta_howItStops_0 : decode b_Ta_howItStops 0 = .ok (.aload_n 0, 1) := by decide +kernel
theorem d_Ta_howItStops_1 : decode b_Ta_howItStops 1 = .ok (.getfield 50, 3) := by decide +kernel
theorem d_Ta_howItStops_4 : decode b_Ta_howItStops 4 = .ok (.aload_n 0, 1) := by decide +kernel
theorem d_Ta_howItStops_5 : decode b_Ta_howItStops 5 = .ok (.getfield 53, 3) := by decide +kernel
theorem d_Ta_howItStops_8 : decode b_Ta_howItStops 8 = .ok (.invokevirtual 56, 3) := by decide +kernel
theorem d_Ta_howItStops_11 : decode b_Ta_howItStops 11 = .ok (.ifCond .ne 7, 3) := by decide +kernel
theorem d_Ta_howItStops_14 : decode b_Ta_howItStops 14 = .ok (.iconst 1, 1) := by decide +kernel
theorem d_Ta_howItStops_15 : decode b_Ta_howItStops 15 = .ok (.goto 4, 3) := by decide +kernel
theorem d_Ta_howItStops_18 : decode b_Ta_howItStops 18 = .ok (.iconst 2, 1) := by decide +kernel
theorem d_Ta_howItStops_19 : decode b_Ta_howItStops 19 = .ok (.ireturn, 1) := by decide +kernel
theorem d_Ta_init_0 : decode b_Ta_init 0 = .ok (.aload_n 0, 1) := by decide +kernel
theorem d_Ta_init_1 : decode b_Ta_init 1 = .ok (.aload_n 1, 1) := by decide +kernel
theorem d_Ta_init_2 : decode b_Ta_init 2 = .ok (.getfield 3, 3) := by decide +kernel
theorem d_Ta_init_5 : decode b_Ta_init 5 = .ok (.bipush 64, 2) := by decide +kernel
theorem d_Ta_init_7 : decode b_Ta_init 7 = .ok (.invokespecial 9, 3) := by decide +kernel
theorem d_Ta_init_10 : decode b_Ta_init 10 = .ok (.aload_n 0, 1) := by decide +kernel
theorem d_Ta_init_11 : decode b_Ta_init 11 = .ok (.aload_n 1, 1) := by decide +kernel
theorem d_Ta_init_12 : decode b_Ta_init 12 = .ok (.putfield 15, 3) := by decide +kernel
theorem d_Ta_init_15 : decode b_Ta_init 15 = .ok (.return_, 1) := by decide +kernel
theorem d_Ta_sourceRegister_0 : decode b_Ta_sourceRegister 0 = .ok (.iload_n 1, 1) := by decide +kernel
theorem d_Ta_sourceRegister_1 : decode b_Ta_sourceRegister 1 = .ok (.iconst 4, 1) := by decide +kernel
theorem d_Ta_sourceRegister_2 : decode b_Ta_sourceRegister 2 = .ok (.if_icmp .ge 12, 3) := by decide +kernel
theorem d_Ta_sourceRegister_5 : decode b_Ta_sourceRegister 5 = .ok (.aload_n 0, 1) := by decide +kernel
theorem d_Ta_sourceRegister_6 : decode b_Ta_sourceRegister 6 = .ok (.getfield 25, 3) := by decide +kernel
theorem d_Ta_sourceRegister_9 : decode b_Ta_sourceRegister 9 = .ok (.iload_n 1, 1) := by decide +kernel
theorem d_Ta_sourceRegister_10 : decode b_Ta_sourceRegister 10 = .ok (.iaload, 1) := by decide +kernel
theorem d_Ta_sourceRegister_11 : decode b_Ta_sourceRegister 11 = .ok (.goto 12, 3) := by decide +kernel
theorem d_Ta_sourceRegister_14 : decode b_Ta_sourceRegister 14 = .ok (.aload_n 0, 1) := by decide +kernel
theorem d_Ta_sourceRegister_15 : decode b_Ta_sourceRegister 15 = .ok (.getfield 29, 3) := by decide +kernel
theorem d_Ta_sourceRegister_18 : decode b_Ta_sourceRegister 18 = .ok (.bipush 32, 2) := by decide +kernel
theorem d_Ta_sourceRegister_20 : decode b_Ta_sourceRegister 20 = .ok (.iload_n 1, 1) := by decide +kernel
theorem d_Ta_sourceRegister_21 : decode b_Ta_sourceRegister 21 = .ok (.iadd, 1) := by decide +kernel
theorem d_Ta_sourceRegister_22 : decode b_Ta_sourceRegister 22 = .ok (.iaload, 1) := by decide +kernel
theorem d_Ta_sourceRegister_23 : decode b_Ta_sourceRegister 23 = .ok (.ireturn, 1) := by decide +kernel
theorem d_Ta_unsigned_0 : decode b_Ta_unsigned 0 = .ok (.iload_n 0, 1) := by decide +kernel
theorem d_Ta_unsigned_1 : decode b_Ta_unsigned 1 = .ok (.ldc 72, 2) := by decide +kernel
theorem d_Ta_unsigned_3 : decode b_Ta_unsigned 3 = .ok (.iand, 1) := by decide +kernel
theorem d_Ta_unsigned_4 : decode b_Ta_unsigned 4 = .ok (.ireturn, 1) := by decide +kernel
theorem d_Tr_beginningOf_0 : decode b_Tr_beginningOf 0 = .ok (.aload_n 0, 1) := by decide +kernel
theorem d_Tr_beginningOf_1 : decode b_Tr_beginningOf 1 = .ok (.getfield 9, 3) := by decide +kernel
theorem d_Tr_beginningOf_4 : decode b_Tr_beginningOf 4 = .ok (.iload_n 1, 1) := by decide +kernel
theorem d_Tr_beginningOf_5 : decode b_Tr_beginningOf 5 = .ok (.invokevirtual 45, 3) := by decide +kernel
theorem d_Tr_beginningOf_8 : decode b_Tr_beginningOf 8 = .ok (.ifCond .eq 12, 3) := by decide +kernel
theorem d_Tr_beginningOf_11 : decode b_Tr_beginningOf 11 = .ok (.aload_n 0, 1) := by decide +kernel
theorem d_Tr_beginningOf_12 : decode b_Tr_beginningOf 12 = .ok (.getfield 23, 3) := by decide +kernel
theorem d_Tr_beginningOf_15 : decode b_Tr_beginningOf 15 = .ok (.iload_n 1, 1) := by decide +kernel
theorem d_Tr_beginningOf_16 : decode b_Tr_beginningOf 16 = .ok (.iaload, 1) := by decide +kernel
theorem d_Tr_beginningOf_17 : decode b_Tr_beginningOf 17 = .ok (.goto 7, 3) := by decide +kernel
theorem d_Tr_beginningOf_20 : decode b_Tr_beginningOf 20 = .ok (.aload_n 0, 1) := by decide +kernel
theorem d_Tr_beginningOf_21 : decode b_Tr_beginningOf 21 = .ok (.invokevirtual 89, 3) := by decide +kernel
theorem d_Tr_beginningOf_24 : decode b_Tr_beginningOf 24 = .ok (.ireturn, 1) := by decide +kernel
theorem d_Tr_canBeSlot_0 : decode b_Tr_canBeSlot 0 = .ok (.aload_n 0, 1) := by decide +kernel
theorem d_Tr_canBeSlot_1 : decode b_Tr_canBeSlot 1 = .ok (.getfield 9, 3) := by decide +kernel
theorem d_Tr_canBeSlot_4 : decode b_Tr_canBeSlot 4 = .ok (.iload_n 1, 1) := by decide +kernel
theorem d_Tr_canBeSlot_5 : decode b_Tr_canBeSlot 5 = .ok (.invokevirtual 45, 3) := by decide +kernel
theorem d_Tr_canBeSlot_8 : decode b_Tr_canBeSlot 8 = .ok (.ifCond .ne 5, 3) := by decide +kernel
theorem d_Tr_canBeSlot_11 : decode b_Tr_canBeSlot 11 = .ok (.iconst 0, 1) := by decide +kernel
theorem d_Tr_canBeSlot_12 : decode b_Tr_canBeSlot 12 = .ok (.ireturn, 1) := by decide +kernel
theorem d_Tr_canBeSlot_13 : decode b_Tr_canBeSlot 13 = .ok (.aload_n 0, 1) := by decide +kernel
theorem d_Tr_canBeSlot_14 : decode b_Tr_canBeSlot 14 = .ok (.getfield 9, 3) := by decide +kernel
theorem d_Tr_canBeSlot_17 : decode b_Tr_canBeSlot 17 = .ok (.iload_n 1, 1) := by decide +kernel
theorem d_Tr_canBeSlot_18 : decode b_Tr_canBeSlot 18 = .ok (.invokevirtual 35, 3) := by decide +kernel
theorem d_Tr_canBeSlot_21 : decode b_Tr_canBeSlot 21 = .ok (.istore_n 2, 1) := by decide +kernel
theorem d_Tr_canBeSlot_22 : decode b_Tr_canBeSlot 22 = .ok (.iload_n 2, 1) := by decide +kernel
theorem d_Tr_canBeSlot_23 : decode b_Tr_canBeSlot 23 = .ok (.bipush 9, 2) := by decide +kernel
theorem d_Tr_canBeSlot_25 : decode b_Tr_canBeSlot 25 = .ok (.if_icmp .lt 13, 3) := by decide +kernel
theorem d_Tr_canBeSlot_28 : decode b_Tr_canBeSlot 28 = .ok (.iload_n 2, 1) := by decide +kernel
theorem d_Tr_canBeSlot_29 : decode b_Tr_canBeSlot 29 = .ok (.bipush 13, 2) := by decide +kernel
theorem d_Tr_canBeSlot_31 : decode b_Tr_canBeSlot 31 = .ok (.if_icmp .gt 7, 3) := by decide +kernel
theorem d_Tr_canBeSlot_34 : decode b_Tr_canBeSlot 34 = .ok (.iconst 1, 1) := by decide +kernel
theorem d_Tr_canBeSlot_35 : decode b_Tr_canBeSlot 35 = .ok (.goto 4, 3) := by decide +kernel
theorem d_Tr_canBeSlot_38 : decode b_Tr_canBeSlot 38 = .ok (.iconst 0, 1) := by decide +kernel
theorem d_Tr_canBeSlot_39 : decode b_Tr_canBeSlot 39 = .ok (.istore_n 3, 1) := by decide +kernel
theorem d_Tr_canBeSlot_40 : decode b_Tr_canBeSlot 40 = .ok (.iload_n 2, 1) := by decide +kernel
theorem d_Tr_canBeSlot_41 : decode b_Tr_canBeSlot 41 = .ok (.ifCond .eq 11, 3) := by decide +kernel
theorem d_Tr_canBeSlot_44 : decode b_Tr_canBeSlot 44 = .ok (.iload_n 3, 1) := by decide +kernel
theorem d_Tr_canBeSlot_45 : decode b_Tr_canBeSlot 45 = .ok (.ifCond .ne 7, 3) := by decide +kernel
theorem d_Tr_canBeSlot_48 : decode b_Tr_canBeSlot 48 = .ok (.iconst 1, 1) := by decide +kernel
theorem d_Tr_canBeSlot_49 : decode b_Tr_canBeSlot 49 = .ok (.goto 4, 3) := by decide +kernel
theorem d_Tr_canBeSlot_52 : decode b_Tr_canBeSlot 52 = .ok (.iconst 0, 1) := by decide +kernel
theorem d_Tr_canBeSlot_53 : decode b_Tr_canBeSlot 53 = .ok (.ireturn, 1) := by decide +kernel
theorem d_Tr_end_0 : decode b_Tr_end 0 = .ok (.aload_n 0, 1) := by decide +kernel
theorem d_Tr_end_1 : decode b_Tr_end 1 = .ok (.getfield 23, 3) := by decide +kernel
theorem d_Tr_end_4 : decode b_Tr_end 4 = .ok (.aload_n 0, 1) := by decide +kernel
theorem d_Tr_end_5 : decode b_Tr_end 5 = .ok (.getfield 9, 3) := by decide +kernel
theorem d_Tr_end_8 : decode b_Tr_end 8 = .ok (.getfield 27, 3) := by decide +kernel
theorem d_Tr_end_11 : decode b_Tr_end 11 = .ok (.iaload, 1) := by decide +kernel
theorem d_Tr_end_12 : decode b_Tr_end 12 = .ok (.ireturn, 1) := by decide +kernel
theorem d_Tr_init_0 : decode b_Tr_init 0 = .ok (.aload_n 0, 1) := by decide +kernel
theorem d_Tr_init_1 : decode b_Tr_init 1 = .ok (.invokespecial 3, 3) := by decide +kernel
theorem d_Tr_init_4 : decode b_Tr_init 4 = .ok (.aload_n 0, 1) := by decide +kernel
theorem d_Tr_init_5 : decode b_Tr_init 5 = .ok (.aload_n 1, 1) := by decide +kernel
theorem d_Tr_init_6 : decode b_Tr_init 6 = .ok (.putfield 9, 3) := by decide +kernel
theorem d_Tr_init_9 : decode b_Tr_init 9 = .ok (.aload_n 0, 1) := by decide +kernel
theorem d_Tr_init_10 : decode b_Tr_init 10 = .ok (.new 15, 3) := by decide +kernel
theorem d_Tr_init_13 : decode b_Tr_init 13 = .ok (.dup, 1) := by decide +kernel
theorem d_Tr_init_14 : decode b_Tr_init 14 = .ok (.sipush 217, 3) := by decide +kernel
theorem d_Tr_init_17 : decode b_Tr_init 17 = .ok (.invokespecial 17, 3) := by decide +kernel
theorem d_Tr_init_20 : decode b_Tr_init 20 = .ok (.putfield 20, 3) := by decide +kernel
theorem d_Tr_init_23 : decode b_Tr_init 23 = .ok (.aload_n 0, 1) := by decide +kernel
theorem d_Tr_init_24 : decode b_Tr_init 24 = .ok (.bipush 25, 2) := by decide +kernel
theorem d_Tr_init_26 : decode b_Tr_init 26 = .ok (.newarray .int, 2) := by decide +kernel
theorem d_Tr_init_28 : decode b_Tr_init 28 = .ok (.putfield 23, 3) := by decide +kernel
theorem d_Tr_init_31 : decode b_Tr_init 31 = .ok (.return_, 1) := by decide +kernel
theorem d_Tr_isThere_0 : decode b_Tr_isThere 0 = .ok (.aload_n 0, 1) := by decide +kernel
theorem d_Tr_isThere_1 : decode b_Tr_isThere 1 = .ok (.getfield 20, 3) := by decide +kernel
theorem d_Tr_isThere_4 : decode b_Tr_isThere 4 = .ok (.getfield 27, 3) := by decide +kernel
theorem d_Tr_isThere_7 : decode b_Tr_isThere 7 = .ok (.ifCond .le 7, 3) := by decide +kernel
theorem d_Tr_isThere_10 : decode b_Tr_isThere 10 = .ok (.iconst 1, 1) := by decide +kernel
theorem d_Tr_isThere_11 : decode b_Tr_isThere 11 = .ok (.goto 4, 3) := by decide +kernel
theorem d_Tr_isThere_14 : decode b_Tr_isThere 14 = .ok (.iconst 0, 1) := by decide +kernel
theorem d_Tr_isThere_15 : decode b_Tr_isThere 15 = .ok (.ireturn, 1) := by decide +kernel
theorem d_Tr_leadOf_0 : decode b_Tr_leadOf 0 = .ok (.aload_n 0, 1) := by decide +kernel
theorem d_Tr_leadOf_1 : decode b_Tr_leadOf 1 = .ok (.getfield 9, 3) := by decide +kernel
theorem d_Tr_leadOf_4 : decode b_Tr_leadOf 4 = .ok (.iload_n 1, 1) := by decide +kernel
theorem d_Tr_leadOf_5 : decode b_Tr_leadOf 5 = .ok (.invokevirtual 48, 3) := by decide +kernel
theorem d_Tr_leadOf_8 : decode b_Tr_leadOf 8 = .ok (.istore_n 2, 1) := by decide +kernel
theorem d_Tr_leadOf_9 : decode b_Tr_leadOf 9 = .ok (.aload_n 0, 1) := by decide +kernel
theorem d_Tr_leadOf_10 : decode b_Tr_leadOf 10 = .ok (.getfield 9, 3) := by decide +kernel
theorem d_Tr_leadOf_13 : decode b_Tr_leadOf 13 = .ok (.iload_n 1, 1) := by decide +kernel
theorem d_Tr_leadOf_14 : decode b_Tr_leadOf 14 = .ok (.invokevirtual 35, 3) := by decide +kernel
theorem d_Tr_leadOf_17 : decode b_Tr_leadOf 17 = .ok (.bipush 10, 2) := by decide +kernel
theorem d_Tr_leadOf_19 : decode b_Tr_leadOf 19 = .ok (.if_icmp .gt 11, 3) := by decide +kernel
theorem d_Tr_leadOf_22 : decode b_Tr_leadOf 22 = .ok (.iload_n 1, 1) := by decide +kernel
theorem d_Tr_leadOf_23 : decode b_Tr_leadOf 23 = .ok (.iconst 1, 1) := by decide +kernel
theorem d_Tr_leadOf_24 : decode b_Tr_leadOf 24 = .ok (.iadd, 1) := by decide +kernel
theorem d_Tr_leadOf_25 : decode b_Tr_leadOf 25 = .ok (.iload_n 2, 1) := by decide +kernel
theorem d_Tr_leadOf_26 : decode b_Tr_leadOf 26 = .ok (.iadd, 1) := by decide +kernel
theorem d_Tr_leadOf_27 : decode b_Tr_leadOf 27 = .ok (.goto 4, 3) := by decide +kernel
theorem d_Tr_leadOf_30 : decode b_Tr_leadOf 30 = .ok (.iload_n 2, 1) := by decide +kernel
theorem d_Tr_leadOf_31 : decode b_Tr_leadOf 31 = .ok (.ireturn, 1) := by decide +kernel
theorem d_Tr_readInto_0 : decode b_Tr_readInto 0 = .ok (.iload_n 2, 1) := by decide +kernel
theorem d_Tr_readInto_1 : decode b_Tr_readInto 1 = .ok (.iconst 4, 1) := by decide +kernel
theorem d_Tr_readInto_2 : decode b_Tr_readInto 2 = .ok (.if_icmp .ge 5, 3) := by decide +kernel
theorem d_Tr_readInto_5 : decode b_Tr_readInto 5 = .ok (.iload_n 2, 1) := by decide +kernel
theorem d_Tr_readInto_6 : decode b_Tr_readInto 6 = .ok (.ireturn, 1) := by decide +kernel
theorem d_Tr_readInto_7 : decode b_Tr_readInto 7 = .ok (.aload_n 0, 1) := by decide +kernel
theorem d_Tr_readInto_8 : decode b_Tr_readInto 8 = .ok (.getfield 20, 3) := by decide +kernel
theorem d_Tr_readInto_11 : decode b_Tr_readInto 11 = .ok (.bipush 7, 2) := by decide +kernel
theorem d_Tr_readInto_13 : decode b_Tr_readInto 13 = .ok (.iload_n 1, 1) := by decide +kernel
theorem d_Tr_readInto_14 : decode b_Tr_readInto 14 = .ok (.iconst 0, 1) := by decide +kernel
theorem d_Tr_readInto_15 : decode b_Tr_readInto 15 = .ok (.bipush 32, 2) := by decide +kernel
theorem d_Tr_readInto_17 : decode b_Tr_readInto 17 = .ok (.iload_n 2, 1) := by decide +kernel
theorem d_Tr_readInto_18 : decode b_Tr_readInto 18 = .ok (.iadd, 1) := by decide +kernel
theorem d_Tr_readInto_19 : decode b_Tr_readInto 19 = .ok (.invokevirtual 57, 3) := by decide +kernel
theorem d_Tr_readInto_22 : decode b_Tr_readInto 22 = .ok (.iload_n 1, 1) := by decide +kernel
theorem d_Tr_readInto_23 : decode b_Tr_readInto 23 = .ok (.ireturn, 1) := by decide +kernel
theorem d_Tr_reasonAgainst_0 : decode b_Tr_reasonAgainst 0 = .ok (.aload_n 0, 1) := by decide +kernel
theorem d_Tr_reasonAgainst_1 : decode b_Tr_reasonAgainst 1 = .ok (.getfield 9, 3) := by decide +kernel
theorem d_Tr_reasonAgainst_4 : decode b_Tr_reasonAgainst 4 = .ok (.iload_n 1, 1) := by decide +kernel
theorem d_Tr_reasonAgainst_5 : decode b_Tr_reasonAgainst 5 = .ok (.invokevirtual 35, 3) := by decide +kernel
theorem d_Tr_reasonAgainst_8 : decode b_Tr_reasonAgainst 8 = .ok (.istore_n 2, 1) := by decide +kernel
theorem d_Tr_reasonAgainst_9 : decode b_Tr_reasonAgainst 9 = .ok (.iload_n 2, 1) := by decide +kernel
theorem d_Tr_reasonAgainst_10 : decode b_Tr_reasonAgainst 10 = .ok (.bipush 13, 2) := by decide +kernel
theorem d_Tr_reasonAgainst_12 : decode b_Tr_reasonAgainst 12 = .ok (.if_icmp .le 5, 3) := by decide +kernel
theorem d_Tr_reasonAgainst_15 : decode b_Tr_reasonAgainst 15 = .ok (.iconst 1, 1) := by decide +kernel
theorem d_Tr_reasonAgainst_16 : decode b_Tr_reasonAgainst 16 = .ok (.ireturn, 1) := by decide +kernel
theorem d_Tr_reasonAgainst_17 : decode b_Tr_reasonAgainst 17 = .ok (.iload_n 2, 1) := by decide +kernel
theorem d_Tr_reasonAgainst_18 : decode b_Tr_reasonAgainst 18 = .ok (.bipush 9, 2) := by decide +kernel
theorem d_Tr_reasonAgainst_20 : decode b_Tr_reasonAgainst 20 = .ok (.if_icmp .ge 5, 3) := by decide +kernel
theorem d_Tr_reasonAgainst_23 : decode b_Tr_reasonAgainst 23 = .ok (.iconst 0, 1) := by decide +kernel
theorem d_Tr_reasonAgainst_24 : decode b_Tr_reasonAgainst 24 = .ok (.ireturn, 1) := by decide +kernel
theorem d_Tr_reasonAgainst_25 : decode b_Tr_reasonAgainst 25 = .ok (.aload_n 0, 1) := by decide +kernel
theorem d_Tr_reasonAgainst_26 : decode b_Tr_reasonAgainst 26 = .ok (.iload_n 1, 1) := by decide +kernel
theorem d_Tr_reasonAgainst_27 : decode b_Tr_reasonAgainst 27 = .ok (.iconst 1, 1) := by decide +kernel
theorem d_Tr_reasonAgainst_28 : decode b_Tr_reasonAgainst 28 = .ok (.iadd, 1) := by decide +kernel
theorem d_Tr_reasonAgainst_29 : decode b_Tr_reasonAgainst 29 = .ok (.invokevirtual 38, 3) := by decide +kernel
theorem d_Tr_reasonAgainst_32 : decode b_Tr_reasonAgainst 32 = .ok (.ifCond .ne 5, 3) := by decide +kernel
theorem d_Tr_reasonAgainst_35 : decode b_Tr_reasonAgainst 35 = .ok (.iconst 2, 1) := by decide +kernel
theorem d_Tr_reasonAgainst_36 : decode b_Tr_reasonAgainst 36 = .ok (.ireturn, 1) := by decide +kernel
theorem d_Tr_reasonAgainst_37 : decode b_Tr_reasonAgainst 37 = .ok (.iload_n 2, 1) := by decide +kernel
theorem d_Tr_reasonAgainst_38 : decode b_Tr_reasonAgainst 38 = .ok (.bipush 13, 2) := by decide +kernel
theorem d_Tr_reasonAgainst_40 : decode b_Tr_reasonAgainst 40 = .ok (.if_icmp .eq 20, 3) := by decide +kernel
theorem d_Tr_reasonAgainst_43 : decode b_Tr_reasonAgainst 43 = .ok (.aload_n 0, 1) := by decide +kernel
theorem d_Tr_reasonAgainst_44 : decode b_Tr_reasonAgainst 44 = .ok (.getfield 9, 3) := by decide +kernel
theorem d_Tr_reasonAgainst_47 : decode b_Tr_reasonAgainst 47 = .ok (.aload_n 0, 1) := by decide +kernel
theorem d_Tr_reasonAgainst_48 : decode b_Tr_reasonAgainst 48 = .ok (.iload_n 1, 1) := by decide +kernel
theorem d_Tr_reasonAgainst_49 : decode b_Tr_reasonAgainst 49 = .ok (.invokevirtual 42, 3) := by decide +kernel
theorem d_Tr_reasonAgainst_52 : decode b_Tr_reasonAgainst 52 = .ok (.invokevirtual 45, 3) := by decide +kernel
theorem d_Tr_reasonAgainst_55 : decode b_Tr_reasonAgainst 55 = .ok (.ifCond .ne 5, 3) := by decide +kernel
theorem d_Tr_reasonAgainst_58 : decode b_Tr_reasonAgainst 58 = .ok (.iconst 3, 1) := by decide +kernel
theorem d_Tr_reasonAgainst_59 : decode b_Tr_reasonAgainst 59 = .ok (.ireturn, 1) := by decide +kernel
theorem d_Tr_reasonAgainst_60 : decode b_Tr_reasonAgainst 60 = .ok (.iconst 0, 1) := by decide +kernel
theorem d_Tr_reasonAgainst_61 : decode b_Tr_reasonAgainst 61 = .ok (.ireturn, 1) := by decide +kernel
theorem d_Tr_refusal_0 : decode b_Tr_refusal 0 = .ok (.iconst 0, 1) := by decide +kernel
theorem d_Tr_refusal_1 : decode b_Tr_refusal 1 = .ok (.istore_n 1, 1) := by decide +kernel
theorem d_Tr_refusal_2 : decode b_Tr_refusal 2 = .ok (.iload_n 1, 1) := by decide +kernel
theorem d_Tr_refusal_3 : decode b_Tr_refusal 3 = .ok (.aload_n 0, 1) := by decide +kernel
theorem d_Tr_refusal_4 : decode b_Tr_refusal 4 = .ok (.getfield 9, 3) := by decide +kernel
theorem d_Tr_refusal_7 : decode b_Tr_refusal 7 = .ok (.getfield 27, 3) := by decide +kernel
theorem d_Tr_refusal_10 : decode b_Tr_refusal 10 = .ok (.if_icmp .ge 26, 3) := by decide +kernel
theorem d_Tr_refusal_13 : decode b_Tr_refusal 13 = .ok (.aload_n 0, 1) := by decide +kernel
theorem d_Tr_refusal_14 : decode b_Tr_refusal 14 = .ok (.iload_n 1, 1) := by decide +kernel
theorem d_Tr_refusal_15 : decode b_Tr_refusal 15 = .ok (.invokevirtual 31, 3) := by decide +kernel
theorem d_Tr_refusal_18 : decode b_Tr_refusal 18 = .ok (.istore_n 2, 1) := by decide +kernel
theorem d_Tr_refusal_19 : decode b_Tr_refusal 19 = .ok (.iload_n 2, 1) := by decide +kernel
theorem d_Tr_refusal_20 : decode b_Tr_refusal 20 = .ok (.ifCond .eq 10, 3) := by decide +kernel
theorem d_Tr_refusal_23 : decode b_Tr_refusal 23 = .ok (.iload_n 2, 1) := by decide +kernel
theorem d_Tr_refusal_24 : decode b_Tr_refusal 24 = .ok (.bipush 16, 2) := by decide +kernel
theorem d_Tr_refusal_26 : decode b_Tr_refusal 26 = .ok (.iload_n 1, 1) := by decide +kernel
theorem d_Tr_refusal_27 : decode b_Tr_refusal 27 = .ok (.imul, 1) := by decide +kernel
theorem d_Tr_refusal_28 : decode b_Tr_refusal 28 = .ok (.iadd, 1) := by decide +kernel
theorem d_Tr_refusal_29 : decode b_Tr_refusal 29 = .ok (.ireturn, 1) := by decide +kernel
theorem d_Tr_refusal_30 : decode b_Tr_refusal 30 = .ok (.iinc 1 1, 3) := by decide +kernel
theorem d_Tr_refusal_33 : decode b_Tr_refusal 33 = .ok (.goto (-31), 3) := by decide +kernel
theorem d_Tr_refusal_36 : decode b_Tr_refusal 36 = .ok (.iconst 0, 1) := by decide +kernel
theorem d_Tr_refusal_37 : decode b_Tr_refusal 37 = .ok (.ireturn, 1) := by decide +kernel
theorem d_Tr_writeCode_0 : decode b_Tr_writeCode 0 = .ok (.iconst 0, 1) := by decide +kernel
theorem d_Tr_writeCode_1 : decode b_Tr_writeCode 1 = .ok (.istore_n 1, 1) := by decide +kernel
theorem d_Tr_writeCode_2 : decode b_Tr_writeCode 2 = .ok (.iload_n 1, 1) := by decide +kernel
theorem d_Tr_writeCode_3 : decode b_Tr_writeCode 3 = .ok (.iconst 2, 1) := by decide +kernel
theorem d_Tr_writeCode_4 : decode b_Tr_writeCode 4 = .ok (.if_icmp .ge 83, 3) := by decide +kernel
theorem d_Tr_writeCode_7 : decode b_Tr_writeCode 7 = .ok (.aload_n 0, 1) := by decide +kernel
theorem d_Tr_writeCode_8 : decode b_Tr_writeCode 8 = .ok (.getfield 20, 3) := by decide +kernel
theorem d_Tr_writeCode_11 : decode b_Tr_writeCode 11 = .ok (.invokevirtual 51, 3) := by decide +kernel
theorem d_Tr_writeCode_14 : decode b_Tr_writeCode 14 = .ok (.iconst 0, 1) := by decide +kernel
theorem d_Tr_writeCode_15 : decode b_Tr_writeCode 15 = .ok (.istore_n 2, 1) := by decide +kernel
theorem d_Tr_writeCode_16 : decode b_Tr_writeCode 16 = .ok (.iload_n 2, 1) := by decide +kernel
theorem d_Tr_writeCode_17 : decode b_Tr_writeCode 17 = .ok (.aload_n 0, 1) := by decide +kernel
theorem d_Tr_writeCode_18 : decode b_Tr_writeCode 18 = .ok (.getfield 9, 3) := by decide +kernel
theorem d_Tr_writeCode_21 : decode b_Tr_writeCode 21 = .ok (.getfield 27, 3) := by decide +kernel
theorem d_Tr_writeCode_24 : decode b_Tr_writeCode 24 = .ok (.if_icmp .ge 27, 3) := by decide +kernel
theorem d_Tr_writeCode_27 : decode b_Tr_writeCode 27 = .ok (.aload_n 0, 1) := by decide +kernel
theorem d_Tr_writeCode_28 : decode b_Tr_writeCode 28 = .ok (.getfield 23, 3) := by decide +kernel
theorem d_Tr_writeCode_31 : decode b_Tr_writeCode 31 = .ok (.iload_n 2, 1) := by decide +kernel
theorem d_Tr_writeCode_32 : decode b_Tr_writeCode 32 = .ok (.aload_n 0, 1) := by decide +kernel
theorem d_Tr_writeCode_33 : decode b_Tr_writeCode 33 = .ok (.getfield 20, 3) := by decide +kernel
theorem d_Tr_writeCode_36 : decode b_Tr_writeCode 36 = .ok (.getfield 27, 3) := by decide +kernel
theorem d_Tr_writeCode_39 : decode b_Tr_writeCode 39 = .ok (.iastore, 1) := by decide +kernel
theorem d_Tr_writeCode_40 : decode b_Tr_writeCode 40 = .ok (.aload_n 0, 1) := by decide +kernel
theorem d_Tr_writeCode_41 : decode b_Tr_writeCode 41 = .ok (.iload_n 2, 1) := by decide +kernel
theorem d_Tr_writeCode_42 : decode b_Tr_writeCode 42 = .ok (.invokevirtual 54, 3) := by decide +kernel
theorem d_Tr_writeCode_45 : decode b_Tr_writeCode 45 = .ok (.iinc 2 1, 3) := by decide +kernel
theorem d_Tr_writeCode_48 : decode b_Tr_writeCode 48 = .ok (.goto (-32), 3) := by decide +kernel
theorem d_Tr_writeCode_51 : decode b_Tr_writeCode 51 = .ok (.aload_n 0, 1) := by decide +kernel
theorem d_Tr_writeCode_52 : decode b_Tr_writeCode 52 = .ok (.getfield 23, 3) := by decide +kernel
theorem d_Tr_writeCode_55 : decode b_Tr_writeCode 55 = .ok (.aload_n 0, 1) := by decide +kernel
theorem d_Tr_writeCode_56 : decode b_Tr_writeCode 56 = .ok (.getfield 9, 3) := by decide +kernel
theorem d_Tr_writeCode_59 : decode b_Tr_writeCode 59 = .ok (.getfield 27, 3) := by decide +kernel
theorem d_Tr_writeCode_62 : decode b_Tr_writeCode 62 = .ok (.aload_n 0, 1) := by decide +kernel
theorem d_Tr_writeCode_63 : decode b_Tr_writeCode 63 = .ok (.getfield 20, 3) := by decide +kernel
theorem d_Tr_writeCode_66 : decode b_Tr_writeCode 66 = .ok (.getfield 27, 3) := by decide +kernel
theorem d_Tr_writeCode_69 : decode b_Tr_writeCode 69 = .ok (.iastore, 1) := by decide +kernel
theorem d_Tr_writeCode_70 : decode b_Tr_writeCode 70 = .ok (.aload_n 0, 1) := by decide +kernel
theorem d_Tr_writeCode_71 : decode b_Tr_writeCode 71 = .ok (.getfield 20, 3) := by decide +kernel
theorem d_Tr_writeCode_74 : decode b_Tr_writeCode 74 = .ok (.iconst 0, 1) := by decide +kernel
theorem d_Tr_writeCode_75 : decode b_Tr_writeCode 75 = .ok (.iconst 0, 1) := by decide +kernel
theorem d_Tr_writeCode_76 : decode b_Tr_writeCode 76 = .ok (.iconst 0, 1) := by decide +kernel
theorem d_Tr_writeCode_77 : decode b_Tr_writeCode 77 = .ok (.iconst 1, 1) := by decide +kernel
theorem d_Tr_writeCode_78 : decode b_Tr_writeCode 78 = .ok (.invokevirtual 57, 3) := by decide +kernel
theorem d_Tr_writeCode_81 : decode b_Tr_writeCode 81 = .ok (.iinc 1 1, 3) := by decide +kernel
theorem d_Tr_writeCode_84 : decode b_Tr_writeCode 84 = .ok (.goto (-82), 3) := by decide +kernel
theorem d_Tr_writeCode_87 : decode b_Tr_writeCode 87 = .ok (.return_, 1) := by decide +kernel
theorem d_Tr_writeFork_0 : decode b_Tr_writeFork 0 = .ok (.aload_n 0, 1) := by decide +kernel
theorem d_Tr_writeFork_1 : decode b_Tr_writeFork 1 = .ok (.iconst 4, 1) := by decide +kernel
theorem d_Tr_writeFork_2 : decode b_Tr_writeFork 2 = .ok (.aload_n 0, 1) := by decide +kernel
theorem d_Tr_writeFork_3 : decode b_Tr_writeFork 3 = .ok (.getfield 9, 3) := by decide +kernel
theorem d_Tr_writeFork_6 : decode b_Tr_writeFork 6 = .ok (.iload_n 1, 1) := by decide +kernel
theorem d_Tr_writeFork_7 : decode b_Tr_writeFork 7 = .ok (.invokevirtual 76, 3) := by decide +kernel
theorem d_Tr_writeFork_10 : decode b_Tr_writeFork 10 = .ok (.invokevirtual 79, 3) := by decide +kernel
theorem d_Tr_writeFork_13 : decode b_Tr_writeFork 13 = .ok (.istore_n 2, 1) := by decide +kernel
theorem d_Tr_writeFork_14 : decode b_Tr_writeFork 14 = .ok (.aload_n 0, 1) := by decide +kernel
theorem d_Tr_writeFork_15 : decode b_Tr_writeFork 15 = .ok (.iconst 5, 1) := by decide +kernel
theorem d_Tr_writeFork_16 : decode b_Tr_writeFork 16 = .ok (.aload_n 0, 1) := by decide +kernel
theorem d_Tr_writeFork_17 : decode b_Tr_writeFork 17 = .ok (.getfield 9, 3) := by decide +kernel
theorem d_Tr_writeFork_20 : decode b_Tr_writeFork 20 = .ok (.iload_n 1, 1) := by decide +kernel
theorem d_Tr_writeFork_21 : decode b_Tr_writeFork 21 = .ok (.invokevirtual 83, 3) := by decide +kernel
theorem d_Tr_writeFork_24 : decode b_Tr_writeFork 24 = .ok (.invokevirtual 79, 3) := by decide +kernel
theorem d_Tr_writeFork_27 : decode b_Tr_writeFork 27 = .ok (.istore_n 3, 1) := by decide +kernel
theorem d_Tr_writeFork_28 : decode b_Tr_writeFork 28 = .ok (.aload_n 0, 1) := by decide +kernel
theorem d_Tr_writeFork_29 : decode b_Tr_writeFork 29 = .ok (.getfield 20, 3) := by decide +kernel
theorem d_Tr_writeFork_32 : decode b_Tr_writeFork 32 = .ok (.iconst 2, 1) := by decide +kernel
theorem d_Tr_writeFork_33 : decode b_Tr_writeFork 33 = .ok (.bipush 6, 2) := by decide +kernel
theorem d_Tr_writeFork_35 : decode b_Tr_writeFork 35 = .ok (.iload_n 2, 1) := by decide +kernel
theorem d_Tr_writeFork_36 : decode b_Tr_writeFork 36 = .ok (.iload_n 3, 1) := by decide +kernel
theorem d_Tr_writeFork_37 : decode b_Tr_writeFork 37 = .ok (.invokevirtual 57, 3) := by decide +kernel
theorem d_Tr_writeFork_40 : decode b_Tr_writeFork 40 = .ok (.aload_n 0, 1) := by decide +kernel
theorem d_Tr_writeFork_41 : decode b_Tr_writeFork 41 = .ok (.iload_n 1, 1) := by decide +kernel
theorem d_Tr_writeFork_42 : decode b_Tr_writeFork 42 = .ok (.iconst 1, 1) := by decide +kernel
theorem d_Tr_writeFork_43 : decode b_Tr_writeFork 43 = .ok (.iadd, 1) := by decide +kernel
theorem d_Tr_writeFork_44 : decode b_Tr_writeFork 44 = .ok (.invokevirtual 64, 3) := by decide +kernel
theorem d_Tr_writeFork_47 : decode b_Tr_writeFork 47 = .ok (.aload_n 0, 1) := by decide +kernel
theorem d_Tr_writeFork_48 : decode b_Tr_writeFork 48 = .ok (.getfield 20, 3) := by decide +kernel
theorem d_Tr_writeFork_51 : decode b_Tr_writeFork 51 = .ok (.aload_n 0, 1) := by decide +kernel
theorem d_Tr_writeFork_52 : decode b_Tr_writeFork 52 = .ok (.getfield 9, 3) := by decide +kernel
theorem d_Tr_writeFork_55 : decode b_Tr_writeFork 55 = .ok (.iload_n 1, 1) := by decide +kernel
theorem d_Tr_writeFork_56 : decode b_Tr_writeFork 56 = .ok (.invokevirtual 35, 3) := by decide +kernel
theorem d_Tr_writeFork_59 : decode b_Tr_writeFork 59 = .ok (.bipush 6, 2) := by decide +kernel
theorem d_Tr_writeFork_61 : decode b_Tr_writeFork 61 = .ok (.iconst 0, 1) := by decide +kernel
theorem d_Tr_writeFork_62 : decode b_Tr_writeFork 62 = .ok (.aload_n 0, 1) := by decide +kernel
theorem d_Tr_writeFork_63 : decode b_Tr_writeFork 63 = .ok (.aload_n 0, 1) := by decide +kernel
theorem d_Tr_writeFork_64 : decode b_Tr_writeFork 64 = .ok (.iload_n 1, 1) := by decide +kernel
theorem d_Tr_writeFork_65 : decode b_Tr_writeFork 65 = .ok (.invokevirtual 42, 3) := by decide +kernel
theorem d_Tr_writeFork_68 : decode b_Tr_writeFork 68 = .ok (.invokevirtual 86, 3) := by decide +kernel
theorem d_Tr_writeFork_71 : decode b_Tr_writeFork 71 = .ok (.invokevirtual 57, 3) := by decide +kernel
theorem d_Tr_writeFork_74 : decode b_Tr_writeFork 74 = .ok (.aload_n 0, 1) := by decide +kernel
theorem d_Tr_writeFork_75 : decode b_Tr_writeFork 75 = .ok (.iload_n 1, 1) := by decide +kernel
theorem d_Tr_writeFork_76 : decode b_Tr_writeFork 76 = .ok (.iconst 2, 1) := by decide +kernel
theorem d_Tr_writeFork_77 : decode b_Tr_writeFork 77 = .ok (.iadd, 1) := by decide +kernel
theorem d_Tr_writeFork_78 : decode b_Tr_writeFork 78 = .ok (.invokevirtual 67, 3) := by decide +kernel
theorem d_Tr_writeFork_81 : decode b_Tr_writeFork 81 = .ok (.return_, 1) := by decide +kernel
theorem d_Tr_writeInto_0 : decode b_Tr_writeInto 0 = .ok (.iload_n 1, 1) := by decide +kernel
theorem d_Tr_writeInto_1 : decode b_Tr_writeInto 1 = .ok (.ifCond .le 12, 3) := by decide +kernel
theorem d_Tr_writeInto_4 : decode b_Tr_writeInto 4 = .ok (.iload_n 1, 1) := by decide +kernel
theorem d_Tr_writeInto_5 : decode b_Tr_writeInto 5 = .ok (.iconst 4, 1) := by decide +kernel
theorem d_Tr_writeInto_6 : decode b_Tr_writeInto 6 = .ok (.if_icmp .ge 7, 3) := by decide +kernel
theorem d_Tr_writeInto_9 : decode b_Tr_writeInto 9 = .ok (.iconst 1, 1) := by decide +kernel
theorem d_Tr_writeInto_10 : decode b_Tr_writeInto 10 = .ok (.goto 4, 3) := by decide +kernel
theorem d_Tr_writeInto_13 : decode b_Tr_writeInto 13 = .ok (.iconst 0, 1) := by decide +kernel
theorem d_Tr_writeInto_14 : decode b_Tr_writeInto 14 = .ok (.istore 5, 2) := by decide +kernel
theorem d_Tr_writeInto_16 : decode b_Tr_writeInto 16 = .ok (.aload_n 0, 1) := by decide +kernel
theorem d_Tr_writeInto_17 : decode b_Tr_writeInto 17 = .ok (.getfield 20, 3) := by decide +kernel
theorem d_Tr_writeInto_20 : decode b_Tr_writeInto 20 = .ok (.iload_n 2, 1) := by decide +kernel
theorem d_Tr_writeInto_21 : decode b_Tr_writeInto 21 = .ok (.iload 5, 2) := by decide +kernel
theorem d_Tr_writeInto_23 : decode b_Tr_writeInto 23 = .ok (.ifCond .eq 7, 3) := by decide +kernel
theorem d_Tr_writeInto_26 : decode b_Tr_writeInto 26 = .ok (.iload_n 1, 1) := by decide +kernel
theorem d_Tr_writeInto_27 : decode b_Tr_writeInto 27 = .ok (.goto 4, 3) := by decide +kernel
theorem d_Tr_writeInto_30 : decode b_Tr_writeInto 30 = .ok (.iconst 4, 1) := by decide +kernel
theorem d_Tr_writeInto_31 : decode b_Tr_writeInto 31 = .ok (.iload_n 3, 1) := by decide +kernel
theorem d_Tr_writeInto_32 : decode b_Tr_writeInto 32 = .ok (.iload 4, 2) := by decide +kernel
theorem d_Tr_writeInto_34 : decode b_Tr_writeInto 34 = .ok (.invokevirtual 57, 3) := by decide +kernel
theorem d_Tr_writeInto_37 : decode b_Tr_writeInto 37 = .ok (.iload_n 1, 1) := by decide +kernel
theorem d_Tr_writeInto_38 : decode b_Tr_writeInto 38 = .ok (.iconst 4, 1) := by decide +kernel
theorem d_Tr_writeInto_39 : decode b_Tr_writeInto 39 = .ok (.if_icmp .lt 18, 3) := by decide +kernel
theorem d_Tr_writeInto_42 : decode b_Tr_writeInto 42 = .ok (.aload_n 0, 1) := by decide +kernel
theorem d_Tr_writeInto_43 : decode b_Tr_writeInto 43 = .ok (.getfield 20, 3) := by decide +kernel
theorem d_Tr_writeInto_46 : decode b_Tr_writeInto 46 = .ok (.bipush 8, 2) := by decide +kernel
theorem d_Tr_writeInto_48 : decode b_Tr_writeInto 48 = .ok (.iconst 4, 1) := by decide +kernel
theorem d_Tr_writeInto_49 : decode b_Tr_writeInto 49 = .ok (.iconst 0, 1) := by decide +kernel
theorem d_Tr_writeInto_50 : decode b_Tr_writeInto 50 = .ok (.bipush 32, 2) := by decide +kernel
theorem d_Tr_writeInto_52 : decode b_Tr_writeInto 52 = .ok (.iload_n 1, 1) := by decide +kernel
theorem d_Tr_writeInto_53 : decode b_Tr_writeInto 53 = .ok (.iadd, 1) := by decide +kernel
theorem d_Tr_writeInto_54 : decode b_Tr_writeInto 54 = .ok (.invokevirtual 57, 3) := by decide +kernel
theorem d_Tr_writeInto_57 : decode b_Tr_writeInto 57 = .ok (.return_, 1) := by decide +kernel
theorem d_Tr_writeJump_0 : decode b_Tr_writeJump 0 = .ok (.aload_n 0, 1) := by decide +kernel
theorem d_Tr_writeJump_1 : decode b_Tr_writeJump 1 = .ok (.getfield 20, 3) := by decide +kernel
theorem d_Tr_writeJump_4 : decode b_Tr_writeJump 4 = .ok (.bipush 11, 2) := by decide +kernel
theorem d_Tr_writeJump_6 : decode b_Tr_writeJump 6 = .ok (.iconst 0, 1) := by decide +kernel
theorem d_Tr_writeJump_7 : decode b_Tr_writeJump 7 = .ok (.iconst 0, 1) := by decide +kernel
theorem d_Tr_writeJump_8 : decode b_Tr_writeJump 8 = .ok (.aload_n 0, 1) := by decide +kernel
theorem d_Tr_writeJump_9 : decode b_Tr_writeJump 9 = .ok (.iload_n 1, 1) := by decide +kernel
theorem d_Tr_writeJump_10 : decode b_Tr_writeJump 10 = .ok (.invokevirtual 86, 3) := by decide +kernel
theorem d_Tr_writeJump_13 : decode b_Tr_writeJump 13 = .ok (.invokevirtual 57, 3) := by decide +kernel
theorem d_Tr_writeJump_16 : decode b_Tr_writeJump 16 = .ok (.return_, 1) := by decide +kernel
theorem d_Tr_writePlace_0 : decode b_Tr_writePlace 0 = .ok (.aload_n 0, 1) := by decide +kernel
theorem d_Tr_writePlace_1 : decode b_Tr_writePlace 1 = .ok (.getfield 9, 3) := by decide +kernel
theorem d_Tr_writePlace_4 : decode b_Tr_writePlace 4 = .ok (.iload_n 1, 1) := by decide +kernel
theorem d_Tr_writePlace_5 : decode b_Tr_writePlace 5 = .ok (.invokevirtual 35, 3) := by decide +kernel
theorem d_Tr_writePlace_8 : decode b_Tr_writePlace 8 = .ok (.tableswitch 151 0 13 #[72, 151, 151, 151, 151, 151, 151, 151, 151, 86, 86, 94, 113, 143], 72) := by decide +kernel
theorem d_Tr_writePlace_80 : decode b_Tr_writePlace 80 = .ok (.aload_n 0, 1) := by decide +kernel
theorem d_Tr_writePlace_81 : decode b_Tr_writePlace 81 = .ok (.getfield 20, 3) := by decide +kernel
theorem d_Tr_writePlace_84 : decode b_Tr_writePlace 84 = .ok (.iconst 0, 1) := by decide +kernel
theorem d_Tr_writePlace_85 : decode b_Tr_writePlace 85 = .ok (.iconst 0, 1) := by decide +kernel
theorem d_Tr_writePlace_86 : decode b_Tr_writePlace 86 = .ok (.iconst 0, 1) := by decide +kernel
theorem d_Tr_writePlace_87 : decode b_Tr_writePlace 87 = .ok (.iconst 0, 1) := by decide +kernel
theorem d_Tr_writePlace_88 : decode b_Tr_writePlace 88 = .ok (.invokevirtual 57, 3) := by decide +kernel
theorem d_Tr_writePlace_91 : decode b_Tr_writePlace 91 = .ok (.goto 73, 3) := by decide +kernel
theorem d_Tr_writePlace_94 : decode b_Tr_writePlace 94 = .ok (.aload_n 0, 1) := by decide +kernel
theorem d_Tr_writePlace_95 : decode b_Tr_writePlace 95 = .ok (.iload_n 1, 1) := by decide +kernel
theorem d_Tr_writePlace_96 : decode b_Tr_writePlace 96 = .ok (.invokevirtual 61, 3) := by decide +kernel
theorem d_Tr_writePlace_99 : decode b_Tr_writePlace 99 = .ok (.goto 65, 3) := by decide +kernel
theorem d_Tr_writePlace_102 : decode b_Tr_writePlace 102 = .ok (.aload_n 0, 1) := by decide +kernel
theorem d_Tr_writePlace_103 : decode b_Tr_writePlace 103 = .ok (.iload_n 1, 1) := by decide +kernel
theorem d_Tr_writePlace_104 : decode b_Tr_writePlace 104 = .ok (.iconst 1, 1) := by decide +kernel
theorem d_Tr_writePlace_105 : decode b_Tr_writePlace 105 = .ok (.iadd, 1) := by decide +kernel
theorem d_Tr_writePlace_106 : decode b_Tr_writePlace 106 = .ok (.invokevirtual 64, 3) := by decide +kernel
theorem d_Tr_writePlace_109 : decode b_Tr_writePlace 109 = .ok (.aload_n 0, 1) := by decide +kernel
theorem d_Tr_writePlace_110 : decode b_Tr_writePlace 110 = .ok (.aload_n 0, 1) := by decide +kernel
theorem d_Tr_writePlace_111 : decode b_Tr_writePlace 111 = .ok (.iload_n 1, 1) := by decide +kernel
theorem d_Tr_writePlace_112 : decode b_Tr_writePlace 112 = .ok (.invokevirtual 42, 3) := by decide +kernel
theorem d_Tr_writePlace_115 : decode b_Tr_writePlace 115 = .ok (.invokevirtual 67, 3) := by decide +kernel
theorem d_Tr_writePlace_118 : decode b_Tr_writePlace 118 = .ok (.goto 46, 3) := by decide +kernel
theorem d_Tr_writePlace_121 : decode b_Tr_writePlace 121 = .ok (.aload_n 0, 1) := by decide +kernel
theorem d_Tr_writePlace_122 : decode b_Tr_writePlace 122 = .ok (.bipush 7, 2) := by decide +kernel
theorem d_Tr_writePlace_124 : decode b_Tr_writePlace 124 = .ok (.iconst 5, 1) := by decide +kernel
theorem d_Tr_writePlace_125 : decode b_Tr_writePlace 125 = .ok (.iconst 0, 1) := by decide +kernel
theorem d_Tr_writePlace_126 : decode b_Tr_writePlace 126 = .ok (.iload_n 1, 1) := by decide +kernel
theorem d_Tr_writePlace_127 : decode b_Tr_writePlace 127 = .ok (.iconst 2, 1) := by decide +kernel
theorem d_Tr_writePlace_128 : decode b_Tr_writePlace 128 = .ok (.iadd, 1) := by decide +kernel
theorem d_Tr_writePlace_129 : decode b_Tr_writePlace 129 = .ok (.invokevirtual 70, 3) := by decide +kernel
theorem d_Tr_writePlace_132 : decode b_Tr_writePlace 132 = .ok (.aload_n 0, 1) := by decide +kernel
theorem d_Tr_writePlace_133 : decode b_Tr_writePlace 133 = .ok (.iload_n 1, 1) := by decide +kernel
theorem d_Tr_writePlace_134 : decode b_Tr_writePlace 134 = .ok (.iconst 1, 1) := by decide +kernel
theorem d_Tr_writePlace_135 : decode b_Tr_writePlace 135 = .ok (.iadd, 1) := by decide +kernel
theorem d_Tr_writePlace_136 : decode b_Tr_writePlace 136 = .ok (.invokevirtual 64, 3) := by decide +kernel
theorem d_Tr_writePlace_139 : decode b_Tr_writePlace 139 = .ok (.aload_n 0, 1) := by decide +kernel
theorem d_Tr_writePlace_140 : decode b_Tr_writePlace 140 = .ok (.aload_n 0, 1) := by decide +kernel
theorem d_Tr_writePlace_141 : decode b_Tr_writePlace 141 = .ok (.iload_n 1, 1) := by decide +kernel
theorem d_Tr_writePlace_142 : decode b_Tr_writePlace 142 = .ok (.invokevirtual 42, 3) := by decide +kernel
theorem d_Tr_writePlace_145 : decode b_Tr_writePlace 145 = .ok (.invokevirtual 67, 3) := by decide +kernel
theorem d_Tr_writePlace_148 : decode b_Tr_writePlace 148 = .ok (.goto 16, 3) := by decide +kernel
theorem d_Tr_writePlace_151 : decode b_Tr_writePlace 151 = .ok (.aload_n 0, 1) := by decide +kernel
theorem d_Tr_writePlace_152 : decode b_Tr_writePlace 152 = .ok (.iload_n 1, 1) := by decide +kernel
theorem d_Tr_writePlace_153 : decode b_Tr_writePlace 153 = .ok (.invokevirtual 73, 3) := by decide +kernel
theorem d_Tr_writePlace_156 : decode b_Tr_writePlace 156 = .ok (.goto 8, 3) := by decide +kernel
theorem d_Tr_writePlace_159 : decode b_Tr_writePlace 159 = .ok (.aload_n 0, 1) := by decide +kernel
theorem d_Tr_writePlace_160 : decode b_Tr_writePlace 160 = .ok (.iload_n 1, 1) := by decide +kernel
theorem d_Tr_writePlace_161 : decode b_Tr_writePlace 161 = .ok (.invokevirtual 64, 3) := by decide +kernel
theorem d_Tr_writePlace_164 : decode b_Tr_writePlace 164 = .ok (.return_, 1) := by decide +kernel
theorem d_Tr_writeSimple_0 : decode b_Tr_writeSimple 0 = .ok (.aload_n 0, 1) := by decide +kernel
theorem d_Tr_writeSimple_1 : decode b_Tr_writeSimple 1 = .ok (.getfield 9, 3) := by decide +kernel
theorem d_Tr_writeSimple_4 : decode b_Tr_writeSimple 4 = .ok (.iload_n 1, 1) := by decide +kernel
theorem d_Tr_writeSimple_5 : decode b_Tr_writeSimple 5 = .ok (.invokevirtual 35, 3) := by decide +kernel
theorem d_Tr_writeSimple_8 : decode b_Tr_writeSimple 8 = .ok (.istore_n 2, 1) := by decide +kernel
theorem d_Tr_writeSimple_9 : decode b_Tr_writeSimple 9 = .ok (.aload_n 0, 1) := by decide +kernel
theorem d_Tr_writeSimple_10 : decode b_Tr_writeSimple 10 = .ok (.getfield 9, 3) := by decide +kernel
theorem d_Tr_writeSimple_13 : decode b_Tr_writeSimple 13 = .ok (.iload_n 1, 1) := by decide +kernel
theorem d_Tr_writeSimple_14 : decode b_Tr_writeSimple 14 = .ok (.invokevirtual 76, 3) := by decide +kernel
theorem d_Tr_writeSimple_17 : decode b_Tr_writeSimple 17 = .ok (.istore_n 3, 1) := by decide +kernel
theorem d_Tr_writeSimple_18 : decode b_Tr_writeSimple 18 = .ok (.aload_n 0, 1) := by decide +kernel
theorem d_Tr_writeSimple_19 : decode b_Tr_writeSimple 19 = .ok (.getfield 9, 3) := by decide +kernel
theorem d_Tr_writeSimple_22 : decode b_Tr_writeSimple 22 = .ok (.iload_n 1, 1) := by decide +kernel
theorem d_Tr_writeSimple_23 : decode b_Tr_writeSimple 23 = .ok (.invokevirtual 83, 3) := by decide +kernel
theorem d_Tr_writeSimple_26 : decode b_Tr_writeSimple 26 = .ok (.istore 4, 2) := by decide +kernel
theorem d_Tr_writeSimple_28 : decode b_Tr_writeSimple 28 = .ok (.aload_n 0, 1) := by decide +kernel
theorem d_Tr_writeSimple_29 : decode b_Tr_writeSimple 29 = .ok (.getfield 9, 3) := by decide +kernel
theorem d_Tr_writeSimple_32 : decode b_Tr_writeSimple 32 = .ok (.iload_n 1, 1) := by decide +kernel
theorem d_Tr_writeSimple_33 : decode b_Tr_writeSimple 33 = .ok (.invokevirtual 48, 3) := by decide +kernel
theorem d_Tr_writeSimple_36 : decode b_Tr_writeSimple 36 = .ok (.istore 5, 2) := by decide +kernel
theorem d_Tr_writeSimple_38 : decode b_Tr_writeSimple 38 = .ok (.iload_n 2, 1) := by decide +kernel
theorem d_Tr_writeSimple_39 : decode b_Tr_writeSimple 39 = .ok (.bipush 6, 2) := by decide +kernel
theorem d_Tr_writeSimple_41 : decode b_Tr_writeSimple 41 = .ok (.if_icmp .ne 14, 3) := by decide +kernel
theorem d_Tr_writeSimple_44 : decode b_Tr_writeSimple 44 = .ok (.aload_n 0, 1) := by decide +kernel
theorem d_Tr_writeSimple_45 : decode b_Tr_writeSimple 45 = .ok (.iload_n 3, 1) := by decide +kernel
theorem d_Tr_writeSimple_46 : decode b_Tr_writeSimple 46 = .ok (.bipush 6, 2) := by decide +kernel
theorem d_Tr_writeSimple_48 : decode b_Tr_writeSimple 48 = .ok (.iconst 0, 1) := by decide +kernel
theorem d_Tr_writeSimple_49 : decode b_Tr_writeSimple 49 = .ok (.iload 5, 2) := by decide +kernel
theorem d_Tr_writeSimple_51 : decode b_Tr_writeSimple 51 = .ok (.invokevirtual 70, 3) := by decide +kernel
theorem d_Tr_writeSimple_54 : decode b_Tr_writeSimple 54 = .ok (.return_, 1) := by decide +kernel
theorem d_Tr_writeSimple_55 : decode b_Tr_writeSimple 55 = .ok (.aload_n 0, 1) := by decide +kernel
theorem d_Tr_writeSimple_56 : decode b_Tr_writeSimple 56 = .ok (.iconst 4, 1) := by decide +kernel
theorem d_Tr_writeSimple_57 : decode b_Tr_writeSimple 57 = .ok (.iload 4, 2) := by decide +kernel
theorem d_Tr_writeSimple_59 : decode b_Tr_writeSimple 59 = .ok (.invokevirtual 79, 3) := by decide +kernel
theorem d_Tr_writeSimple_62 : decode b_Tr_writeSimple 62 = .ok (.istore 6, 2) := by decide +kernel
theorem d_Tr_writeSimple_64 : decode b_Tr_writeSimple 64 = .ok (.iload_n 2, 1) := by decide +kernel
theorem d_Tr_writeSimple_65 : decode b_Tr_writeSimple 65 = .ok (.iconst 4, 1) := by decide +kernel
theorem d_Tr_writeSimple_66 : decode b_Tr_writeSimple 66 = .ok (.if_icmp .gt 30, 3) := by decide +kernel
theorem d_Tr_writeSimple_69 : decode b_Tr_writeSimple 69 = .ok (.aload_n 0, 1) := by decide +kernel
theorem d_Tr_writeSimple_70 : decode b_Tr_writeSimple 70 = .ok (.iconst 5, 1) := by decide +kernel
theorem d_Tr_writeSimple_71 : decode b_Tr_writeSimple 71 = .ok (.iload 5, 2) := by decide +kernel
theorem d_Tr_writeSimple_73 : decode b_Tr_writeSimple 73 = .ok (.bipush 8, 2) := by decide +kernel
theorem d_Tr_writeSimple_75 : decode b_Tr_writeSimple 75 = .ok (.invokestatic 93, 3) := by decide +kernel
theorem d_Tr_writeSimple_78 : decode b_Tr_writeSimple 78 = .ok (.invokevirtual 79, 3) := by decide +kernel
theorem d_Tr_writeSimple_81 : decode b_Tr_writeSimple 81 = .ok (.istore 7, 2) := by decide +kernel
theorem d_Tr_writeSimple_83 : decode b_Tr_writeSimple 83 = .ok (.aload_n 0, 1) := by decide +kernel
theorem d_Tr_writeSimple_84 : decode b_Tr_writeSimple 84 = .ok (.iload_n 3, 1) := by decide +kernel
theorem d_Tr_writeSimple_85 : decode b_Tr_writeSimple 85 = .ok (.iload_n 2, 1) := by decide +kernel
theorem d_Tr_writeSimple_86 : decode b_Tr_writeSimple 86 = .ok (.iload 6, 2) := by decide +kernel
theorem d_Tr_writeSimple_88 : decode b_Tr_writeSimple 88 = .ok (.iload 7, 2) := by decide +kernel
theorem d_Tr_writeSimple_90 : decode b_Tr_writeSimple 90 = .ok (.invokevirtual 70, 3) := by decide +kernel
theorem d_Tr_writeSimple_93 : decode b_Tr_writeSimple 93 = .ok (.goto 100, 3) := by decide +kernel
theorem d_Tr_writeSimple_96 : decode b_Tr_writeSimple 96 = .ok (.iload_n 2, 1) := by decide +kernel
theorem d_Tr_writeSimple_97 : decode b_Tr_writeSimple 97 = .ok (.iconst 5, 1) := by decide +kernel
theorem d_Tr_writeSimple_98 : decode b_Tr_writeSimple 98 = .ok (.if_icmp .ne 16, 3) := by decide +kernel
theorem d_Tr_writeSimple_101 : decode b_Tr_writeSimple 101 = .ok (.aload_n 0, 1) := by decide +kernel
theorem d_Tr_writeSimple_102 : decode b_Tr_writeSimple 102 = .ok (.iload_n 3, 1) := by decide +kernel
theorem d_Tr_writeSimple_103 : decode b_Tr_writeSimple 103 = .ok (.iconst 5, 1) := by decide +kernel
theorem d_Tr_writeSimple_104 : decode b_Tr_writeSimple 104 = .ok (.iload 6, 2) := by decide +kernel
theorem d_Tr_writeSimple_106 : decode b_Tr_writeSimple 106 = .ok (.iload 5, 2) := by decide +kernel
theorem d_Tr_writeSimple_108 : decode b_Tr_writeSimple 108 = .ok (.invokevirtual 70, 3) := by decide +kernel
theorem d_Tr_writeSimple_111 : decode b_Tr_writeSimple 111 = .ok (.goto 82, 3) := by decide +kernel
theorem d_Tr_writeSimple_114 : decode b_Tr_writeSimple 114 = .ok (.aload_n 0, 1) := by decide +kernel
theorem d_Tr_writeSimple_115 : decode b_Tr_writeSimple 115 = .ok (.getfield 20, 3) := by decide +kernel
theorem d_Tr_writeSimple_118 : decode b_Tr_writeSimple 118 = .ok (.iconst 5, 1) := by decide +kernel
theorem d_Tr_writeSimple_119 : decode b_Tr_writeSimple 119 = .ok (.iconst 5, 1) := by decide +kernel
theorem d_Tr_writeSimple_120 : decode b_Tr_writeSimple 120 = .ok (.iload 6, 2) := by decide +kernel
theorem d_Tr_writeSimple_122 : decode b_Tr_writeSimple 122 = .ok (.iload 5, 2) := by decide +kernel
theorem d_Tr_writeSimple_124 : decode b_Tr_writeSimple 124 = .ok (.invokevirtual 57, 3) := by decide +kernel
theorem d_Tr_writeSimple_127 : decode b_Tr_writeSimple 127 = .ok (.aload_n 0, 1) := by decide +kernel
theorem d_Tr_writeSimple_128 : decode b_Tr_writeSimple 128 = .ok (.getfield 20, 3) := by decide +kernel
theorem d_Tr_writeSimple_131 : decode b_Tr_writeSimple 131 = .ok (.iconst 5, 1) := by decide +kernel
theorem d_Tr_writeSimple_132 : decode b_Tr_writeSimple 132 = .ok (.iconst 4, 1) := by decide +kernel
theorem d_Tr_writeSimple_133 : decode b_Tr_writeSimple 133 = .ok (.iconst 0, 1) := by decide +kernel
theorem d_Tr_writeSimple_134 : decode b_Tr_writeSimple 134 = .ok (.bipush 32, 2) := by decide +kernel
theorem d_Tr_writeSimple_136 : decode b_Tr_writeSimple 136 = .ok (.invokevirtual 57, 3) := by decide +kernel
theorem d_Tr_writeSimple_139 : decode b_Tr_writeSimple 139 = .ok (.aload_n 0, 1) := by decide +kernel
theorem d_Tr_writeSimple_140 : decode b_Tr_writeSimple 140 = .ok (.getfield 20, 3) := by decide +kernel
theorem d_Tr_writeSimple_143 : decode b_Tr_writeSimple 143 = .ok (.bipush 12, 2) := by decide +kernel
theorem d_Tr_writeSimple_145 : decode b_Tr_writeSimple 145 = .ok (.iconst 5, 1) := by decide +kernel
theorem d_Tr_writeSimple_146 : decode b_Tr_writeSimple 146 = .ok (.iconst 4, 1) := by decide +kernel
theorem d_Tr_writeSimple_147 : decode b_Tr_writeSimple 147 = .ok (.aload_n 0, 1) := by decide +kernel
theorem d_Tr_writeSimple_148 : decode b_Tr_writeSimple 148 = .ok (.invokevirtual 89, 3) := by decide +kernel
theorem d_Tr_writeSimple_151 : decode b_Tr_writeSimple 151 = .ok (.invokevirtual 57, 3) := by decide +kernel
theorem d_Tr_writeSimple_154 : decode b_Tr_writeSimple 154 = .ok (.iload_n 2, 1) := by decide +kernel
theorem d_Tr_writeSimple_155 : decode b_Tr_writeSimple 155 = .ok (.bipush 7, 2) := by decide +kernel
theorem d_Tr_writeSimple_157 : decode b_Tr_writeSimple 157 = .ok (.if_icmp .ne 15, 3) := by decide +kernel
theorem d_Tr_writeSimple_160 : decode b_Tr_writeSimple 160 = .ok (.aload_n 0, 1) := by decide +kernel
theorem d_Tr_writeSimple_161 : decode b_Tr_writeSimple 161 = .ok (.iload_n 3, 1) := by decide +kernel
theorem d_Tr_writeSimple_162 : decode b_Tr_writeSimple 162 = .ok (.bipush 7, 2) := by decide +kernel
theorem d_Tr_writeSimple_164 : decode b_Tr_writeSimple 164 = .ok (.iconst 5, 1) := by decide +kernel
theorem d_Tr_writeSimple_165 : decode b_Tr_writeSimple 165 = .ok (.iconst 0, 1) := by decide +kernel
theorem d_Tr_writeSimple_166 : decode b_Tr_writeSimple 166 = .ok (.invokevirtual 70, 3) := by decide +kernel
theorem d_Tr_writeSimple_169 : decode b_Tr_writeSimple 169 = .ok (.goto 24, 3) := by decide +kernel
theorem d_Tr_writeSimple_172 : decode b_Tr_writeSimple 172 = .ok (.aload_n 0, 1) := by decide +kernel
theorem d_Tr_writeSimple_173 : decode b_Tr_writeSimple 173 = .ok (.iconst 4, 1) := by decide +kernel
theorem d_Tr_writeSimple_174 : decode b_Tr_writeSimple 174 = .ok (.iload_n 3, 1) := by decide +kernel
theorem d_Tr_writeSimple_175 : decode b_Tr_writeSimple 175 = .ok (.invokevirtual 79, 3) := by decide +kernel
theorem d_Tr_writeSimple_178 : decode b_Tr_writeSimple 178 = .ok (.istore 7, 2) := by decide +kernel
theorem d_Tr_writeSimple_180 : decode b_Tr_writeSimple 180 = .ok (.aload_n 0, 1) := by decide +kernel
theorem d_Tr_writeSimple_181 : decode b_Tr_writeSimple 181 = .ok (.getfield 20, 3) := by decide +kernel
theorem d_Tr_writeSimple_184 : decode b_Tr_writeSimple 184 = .ok (.bipush 8, 2) := by decide +kernel
theorem d_Tr_writeSimple_186 : decode b_Tr_writeSimple 186 = .ok (.iload 7, 2) := by decide +kernel
theorem d_Tr_writeSimple_188 : decode b_Tr_writeSimple 188 = .ok (.iconst 5, 1) := by decide +kernel
theorem d_Tr_writeSimple_189 : decode b_Tr_writeSimple 189 = .ok (.iconst 0, 1) := by decide +kernel
theorem d_Tr_writeSimple_190 : decode b_Tr_writeSimple 190 = .ok (.invokevirtual 57, 3) := by decide +kernel
theorem d_Tr_writeSimple_193 : decode b_Tr_writeSimple 193 = .ok (.return_, 1) := by decide +kernel
theorem d_Tr_writeTo_0 : decode b_Tr_writeTo 0 = .ok (.aload_n 0, 1) := by decide +kernel
theorem d_Tr_writeTo_1 : decode b_Tr_writeTo 1 = .ok (.iconst 4, 1) := by decide +kernel
theorem d_Tr_writeTo_2 : decode b_Tr_writeTo 2 = .ok (.aload_n 0, 1) := by decide +kernel
theorem d_Tr_writeTo_3 : decode b_Tr_writeTo 3 = .ok (.getfield 9, 3) := by decide +kernel
theorem d_Tr_writeTo_6 : decode b_Tr_writeTo 6 = .ok (.iload_n 1, 1) := by decide +kernel
theorem d_Tr_writeTo_7 : decode b_Tr_writeTo 7 = .ok (.invokevirtual 76, 3) := by decide +kernel
theorem d_Tr_writeTo_10 : decode b_Tr_writeTo 10 = .ok (.invokevirtual 79, 3) := by decide +kernel
theorem d_Tr_writeTo_13 : decode b_Tr_writeTo 13 = .ok (.istore_n 2, 1) := by decide +kernel
theorem d_Tr_writeTo_14 : decode b_Tr_writeTo 14 = .ok (.aload_n 0, 1) := by decide +kernel
theorem d_Tr_writeTo_15 : decode b_Tr_writeTo 15 = .ok (.getfield 20, 3) := by decide +kernel
theorem d_Tr_writeTo_18 : decode b_Tr_writeTo 18 = .ok (.iconst 5, 1) := by decide +kernel
theorem d_Tr_writeTo_19 : decode b_Tr_writeTo 19 = .ok (.bipush 6, 2) := by decide +kernel
theorem d_Tr_writeTo_21 : decode b_Tr_writeTo 21 = .ok (.iload_n 2, 1) := by decide +kernel
theorem d_Tr_writeTo_22 : decode b_Tr_writeTo 22 = .ok (.iconst 0, 1) := by decide +kernel
theorem d_Tr_writeTo_23 : decode b_Tr_writeTo 23 = .ok (.invokevirtual 57, 3) := by decide +kernel
theorem d_Tr_writeTo_26 : decode b_Tr_writeTo 26 = .ok (.aload_n 0, 1) := by decide +kernel
theorem d_Tr_writeTo_27 : decode b_Tr_writeTo 27 = .ok (.iload_n 1, 1) := by decide +kernel
theorem d_Tr_writeTo_28 : decode b_Tr_writeTo 28 = .ok (.iconst 1, 1) := by decide +kernel
theorem d_Tr_writeTo_29 : decode b_Tr_writeTo 29 = .ok (.iadd, 1) := by decide +kernel
theorem d_Tr_writeTo_30 : decode b_Tr_writeTo 30 = .ok (.invokevirtual 64, 3) := by decide +kernel
theorem d_Tr_writeTo_33 : decode b_Tr_writeTo 33 = .ok (.aload_n 0, 1) := by decide +kernel
theorem d_Tr_writeTo_34 : decode b_Tr_writeTo 34 = .ok (.getfield 20, 3) := by decide +kernel
theorem d_Tr_writeTo_37 : decode b_Tr_writeTo 37 = .ok (.iconst 5, 1) := by decide +kernel
theorem d_Tr_writeTo_38 : decode b_Tr_writeTo 38 = .ok (.iconst 4, 1) := by decide +kernel
theorem d_Tr_writeTo_39 : decode b_Tr_writeTo 39 = .ok (.iconst 0, 1) := by decide +kernel
theorem d_Tr_writeTo_40 : decode b_Tr_writeTo 40 = .ok (.aload_n 0, 1) := by decide +kernel
theorem d_Tr_writeTo_41 : decode b_Tr_writeTo 41 = .ok (.getfield 9, 3) := by decide +kernel
theorem d_Tr_writeTo_44 : decode b_Tr_writeTo 44 = .ok (.getfield 27, 3) := by decide +kernel
theorem d_Tr_writeTo_47 : decode b_Tr_writeTo 47 = .ok (.invokevirtual 57, 3) := by decide +kernel
theorem d_Tr_writeTo_50 : decode b_Tr_writeTo 50 = .ok (.aload_n 0, 1) := by decide +kernel
theorem d_Tr_writeTo_51 : decode b_Tr_writeTo 51 = .ok (.getfield 20, 3) := by decide +kernel
theorem d_Tr_writeTo_54 : decode b_Tr_writeTo 54 = .ok (.bipush 12, 2) := by decide +kernel
theorem d_Tr_writeTo_56 : decode b_Tr_writeTo 56 = .ok (.bipush 6, 2) := by decide +kernel
theorem d_Tr_writeTo_58 : decode b_Tr_writeTo 58 = .ok (.iconst 4, 1) := by decide +kernel
theorem d_Tr_writeTo_59 : decode b_Tr_writeTo 59 = .ok (.aload_n 0, 1) := by decide +kernel
theorem d_Tr_writeTo_60 : decode b_Tr_writeTo 60 = .ok (.invokevirtual 89, 3) := by decide +kernel
theorem d_Tr_writeTo_63 : decode b_Tr_writeTo 63 = .ok (.invokevirtual 57, 3) := by decide +kernel
theorem d_Tr_writeTo_66 : decode b_Tr_writeTo 66 = .ok (.aload_n 0, 1) := by decide +kernel
theorem d_Tr_writeTo_67 : decode b_Tr_writeTo 67 = .ok (.getfield 20, 3) := by decide +kernel
theorem d_Tr_writeTo_70 : decode b_Tr_writeTo 70 = .ok (.bipush 7, 2) := by decide +kernel
theorem d_Tr_writeTo_72 : decode b_Tr_writeTo 72 = .ok (.iconst 4, 1) := by decide +kernel
theorem d_Tr_writeTo_73 : decode b_Tr_writeTo 73 = .ok (.bipush 6, 2) := by decide +kernel
theorem d_Tr_writeTo_75 : decode b_Tr_writeTo 75 = .ok (.bipush 40, 2) := by decide +kernel
theorem d_Tr_writeTo_77 : decode b_Tr_writeTo 77 = .ok (.invokevirtual 57, 3) := by decide +kernel
theorem d_Tr_writeTo_80 : decode b_Tr_writeTo 80 = .ok (.aload_n 0, 1) := by decide +kernel
theorem d_Tr_writeTo_81 : decode b_Tr_writeTo 81 = .ok (.getfield 20, 3) := by decide +kernel
theorem d_Tr_writeTo_84 : decode b_Tr_writeTo 84 = .ok (.bipush 13, 2) := by decide +kernel
theorem d_Tr_writeTo_86 : decode b_Tr_writeTo 86 = .ok (.iconst 4, 1) := by decide +kernel
theorem d_Tr_writeTo_87 : decode b_Tr_writeTo 87 = .ok (.iconst 0, 1) := by decide +kernel
theorem d_Tr_writeTo_88 : decode b_Tr_writeTo 88 = .ok (.iconst 0, 1) := by decide +kernel
theorem d_Tr_writeTo_89 : decode b_Tr_writeTo 89 = .ok (.invokevirtual 57, 3) := by decide +kernel
theorem d_Tr_writeTo_92 : decode b_Tr_writeTo 92 = .ok (.return_, 1) := by decide +kernel
