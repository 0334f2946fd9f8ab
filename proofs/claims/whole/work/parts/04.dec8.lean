theorem dX8_init_0 : decode cX8_init 0 = .ok (.aload_n 0, 1) := by decide +kernel
theorem dX8_init_1 : decode cX8_init 1 = .ok (.invokespecial 1, 3) := by decide +kernel
theorem dX8_init_4 : decode cX8_init 4 = .ok (.aload_n 0, 1) := by decide +kernel
theorem dX8_init_5 : decode cX8_init 5 = .ok (.bipush 8, 2) := by decide +kernel
theorem dX8_init_7 : decode cX8_init 7 = .ok (.anewarray 9, 3) := by decide +kernel
theorem dX8_init_10 : decode cX8_init 10 = .ok (.putfield 11, 3) := by decide +kernel
theorem dX8_init_13 : decode cX8_init 13 = .ok (.aload_n 0, 1) := by decide +kernel
theorem dX8_init_14 : decode cX8_init 14 = .ok (.new 15, 3) := by decide +kernel
theorem dX8_init_17 : decode cX8_init 17 = .ok (.dup, 1) := by decide +kernel
theorem dX8_init_18 : decode cX8_init 18 = .ok (.invokespecial 17, 3) := by decide +kernel
theorem dX8_init_21 : decode cX8_init 21 = .ok (.putfield 18, 3) := by decide +kernel
theorem dX8_init_24 : decode cX8_init 24 = .ok (.aload_n 0, 1) := by decide +kernel
theorem dX8_init_25 : decode cX8_init 25 = .ok (.new 15, 3) := by decide +kernel
theorem dX8_init_28 : decode cX8_init 28 = .ok (.dup, 1) := by decide +kernel
theorem dX8_init_29 : decode cX8_init 29 = .ok (.invokespecial 17, 3) := by decide +kernel
theorem dX8_init_32 : decode cX8_init 32 = .ok (.putfield 22, 3) := by decide +kernel
theorem dX8_init_35 : decode cX8_init 35 = .ok (.aload_n 0, 1) := by decide +kernel
theorem dX8_init_36 : decode cX8_init 36 = .ok (.new 15, 3) := by decide +kernel
theorem dX8_init_39 : decode cX8_init 39 = .ok (.dup, 1) := by decide +kernel
theorem dX8_init_40 : decode cX8_init 40 = .ok (.invokespecial 17, 3) := by decide +kernel
theorem dX8_init_43 : decode cX8_init 43 = .ok (.putfield 25, 3) := by decide +kernel
theorem dX8_init_46 : decode cX8_init 46 = .ok (.aload_n 0, 1) := by decide +kernel
theorem dX8_init_47 : decode cX8_init 47 = .ok (.iconst 0, 1) := by decide +kernel
theorem dX8_init_48 : decode cX8_init 48 = .ok (.putfield 28, 3) := by decide +kernel
theorem dX8_init_51 : decode cX8_init 51 = .ok (.aload_n 0, 1) := by decide +kernel
theorem dX8_init_52 : decode cX8_init 52 = .ok (.bipush 8, 2) := by decide +kernel
theorem dX8_init_54 : decode cX8_init 54 = .ok (.newarray .int, 2) := by decide +kernel
theorem dX8_init_56 : decode cX8_init 56 = .ok (.putfield 32, 3) := by decide +kernel
theorem dX8_init_59 : decode cX8_init 59 = .ok (.aload_n 0, 1) := by decide +kernel
theorem dX8_init_60 : decode cX8_init 60 = .ok (.iconst (-1), 1) := by decide +kernel
theorem dX8_init_61 : decode cX8_init 61 = .ok (.putfield 36, 3) := by decide +kernel
theorem dX8_init_64 : decode cX8_init 64 = .ok (.aload_n 0, 1) := by decide +kernel
theorem dX8_init_65 : decode cX8_init 65 = .ok (.new 40, 3) := by decide +kernel
theorem dX8_init_68 : decode cX8_init 68 = .ok (.dup, 1) := by decide +kernel
theorem dX8_init_69 : decode cX8_init 69 = .ok (.invokespecial 42, 3) := by decide +kernel
theorem dX8_init_72 : decode cX8_init 72 = .ok (.putfield 43, 3) := by decide +kernel
theorem dX8_init_75 : decode cX8_init 75 = .ok (.aload_n 0, 1) := by decide +kernel
theorem dX8_init_76 : decode cX8_init 76 = .ok (.new 47, 3) := by decide +kernel
theorem dX8_init_79 : decode cX8_init 79 = .ok (.dup, 1) := by decide +kernel
theorem dX8_init_80 : decode cX8_init 80 = .ok (.invokespecial 49, 3) := by decide +kernel
theorem dX8_init_83 : decode cX8_init 83 = .ok (.putfield 50, 3) := by decide +kernel
theorem dX8_init_86 : decode cX8_init 86 = .ok (.aload_n 0, 1) := by decide +kernel
theorem dX8_init_87 : decode cX8_init 87 = .ok (.bipush 19, 2) := by decide +kernel
theorem dX8_init_89 : decode cX8_init 89 = .ok (.newarray .long, 2) := by decide +kernel
theorem dX8_init_91 : decode cX8_init 91 = .ok (.putfield 54, 3) := by decide +kernel
theorem dX8_init_94 : decode cX8_init 94 = .ok (.iconst 0, 1) := by decide +kernel
theorem dX8_init_95 : decode cX8_init 95 = .ok (.istore_n 1, 1) := by decide +kernel
theorem dX8_init_96 : decode cX8_init 96 = .ok (.iload_n 1, 1) := by decide +kernel
theorem dX8_init_97 : decode cX8_init 97 = .ok (.bipush 8, 2) := by decide +kernel
theorem dX8_init_99 : decode cX8_init 99 = .ok (.if_icmp .ge 22, 3) := by decide +kernel
theorem dX8_init_102 : decode cX8_init 102 = .ok (.aload_n 0, 1) := by decide +kernel
theorem dX8_init_103 : decode cX8_init 103 = .ok (.getfield 11, 3) := by decide +kernel
theorem dX8_init_106 : decode cX8_init 106 = .ok (.iload_n 1, 1) := by decide +kernel
theorem dX8_init_107 : decode cX8_init 107 = .ok (.new 9, 3) := by decide +kernel
theorem dX8_init_110 : decode cX8_init 110 = .ok (.dup, 1) := by decide +kernel
theorem dX8_init_111 : decode cX8_init 111 = .ok (.invokespecial 58, 3) := by decide +kernel
theorem dX8_init_114 : decode cX8_init 114 = .ok (.aastore, 1) := by decide +kernel
theorem dX8_init_115 : decode cX8_init 115 = .ok (.iinc 1 1, 3) := by decide +kernel
theorem dX8_init_118 : decode cX8_init 118 = .ok (.goto (-22), 3) := by decide +kernel
theorem dX8_init_121 : decode cX8_init 121 = .ok (.return_, 1) := by decide +kernel
theorem dX8_row_0 : decode cX8_row 0 = .ok (.aload_n 0, 1) := by decide +kernel
theorem dX8_row_1 : decode cX8_row 1 = .ok (.iload_n 1, 1) := by decide +kernel
theorem dX8_row_2 : decode cX8_row 2 = .ok (.invokevirtual 59, 3) := by decide +kernel
theorem dX8_row_5 : decode cX8_row 5 = .ok (.astore 4, 2) := by decide +kernel
theorem dX8_row_7 : decode cX8_row 7 = .ok (.aload 4, 2) := by decide +kernel
theorem dX8_row_9 : decode cX8_row 9 = .ok (.ifnonnull 9, 3) := by decide +kernel
theorem dX8_row_12 : decode cX8_row 12 = .ok (.aload_n 0, 1) := by decide +kernel
theorem dX8_row_13 : decode cX8_row 13 = .ok (.iconst (-1), 1) := by decide +kernel
theorem dX8_row_14 : decode cX8_row 14 = .ok (.invokevirtual 63, 3) := by decide +kernel
theorem dX8_row_17 : decode cX8_row 17 = .ok (.ireturn, 1) := by decide +kernel
theorem dX8_row_18 : decode cX8_row 18 = .ok (.iload_n 3, 1) := by decide +kernel
theorem dX8_row_19 : decode cX8_row 19 = .ok (.ifCond .ge 10, 3) := by decide +kernel
theorem dX8_row_22 : decode cX8_row 22 = .ok (.aload_n 0, 1) := by decide +kernel
theorem dX8_row_23 : decode cX8_row 23 = .ok (.bipush (-4), 2) := by decide +kernel
theorem dX8_row_25 : decode cX8_row 25 = .ok (.invokevirtual 63, 3) := by decide +kernel
theorem dX8_row_28 : decode cX8_row 28 = .ok (.ireturn, 1) := by decide +kernel
theorem dX8_row_29 : decode cX8_row 29 = .ok (.iload_n 2, 1) := by decide +kernel
theorem dX8_row_30 : decode cX8_row 30 = .ok (.ifCond .lt 8, 3) := by decide +kernel
theorem dX8_row_33 : decode cX8_row 33 = .ok (.iload_n 2, 1) := by decide +kernel
theorem dX8_row_34 : decode cX8_row 34 = .ok (.iconst 4, 1) := by decide +kernel
theorem dX8_row_35 : decode cX8_row 35 = .ok (.if_icmp .lt 10, 3) := by decide +kernel
theorem dX8_row_38 : decode cX8_row 38 = .ok (.aload_n 0, 1) := by decide +kernel
theorem dX8_row_39 : decode cX8_row 39 = .ok (.bipush (-6), 2) := by decide +kernel
theorem dX8_row_41 : decode cX8_row 41 = .ok (.invokevirtual 63, 3) := by decide +kernel
theorem dX8_row_44 : decode cX8_row 44 = .ok (.ireturn, 1) := by decide +kernel
theorem dX8_row_45 : decode cX8_row 45 = .ok (.iload_n 3, 1) := by decide +kernel
theorem dX8_row_46 : decode cX8_row 46 = .ok (.sipush 160, 3) := by decide +kernel
theorem dX8_row_49 : decode cX8_row 49 = .ok (.if_icmp .le 10, 3) := by decide +kernel
theorem dX8_row_52 : decode cX8_row 52 = .ok (.aload_n 0, 1) := by decide +kernel
theorem dX8_row_53 : decode cX8_row 53 = .ok (.bipush (-7), 2) := by decide +kernel
theorem dX8_row_55 : decode cX8_row 55 = .ok (.invokevirtual 63, 3) := by decide +kernel
theorem dX8_row_58 : decode cX8_row 58 = .ok (.ireturn, 1) := by decide +kernel
theorem dX8_row_59 : decode cX8_row 59 = .ok (.aload 4, 2) := by decide +kernel
theorem dX8_row_61 : decode cX8_row 61 = .ok (.iload_n 2, 1) := by decide +kernel
theorem dX8_row_62 : decode cX8_row 62 = .ok (.iload_n 3, 1) := by decide +kernel
theorem dX8_row_63 : decode cX8_row 63 = .ok (.invokevirtual 67, 3) := by decide +kernel
theorem dX8_row_66 : decode cX8_row 66 = .ok (.iconst 1, 1) := by decide +kernel
theorem dX8_row_67 : decode cX8_row 67 = .ok (.ireturn, 1) := by decide +kernel
theorem dX8_set_0 : decode cX8_set 0 = .ok (.aload_n 0, 1) := by decide +kernel
theorem dX8_set_1 : decode cX8_set 1 = .ok (.iload_n 1, 1) := by decide +kernel
theorem dX8_set_2 : decode cX8_set 2 = .ok (.invokevirtual 59, 3) := by decide +kernel
theorem dX8_set_5 : decode cX8_set 5 = .ok (.astore 5, 2) := by decide +kernel
theorem dX8_set_7 : decode cX8_set 7 = .ok (.aload 5, 2) := by decide +kernel
theorem dX8_set_9 : decode cX8_set 9 = .ok (.invokestatic 71, 3) := by decide +kernel
theorem dX8_set_12 : decode cX8_set 12 = .ok (.istore 6, 2) := by decide +kernel
theorem dX8_set_14 : decode cX8_set 14 = .ok (.aload 5, 2) := by decide +kernel
theorem dX8_set_16 : decode cX8_set 16 = .ok (.ifnull 8, 3) := by decide +kernel
theorem dX8_set_19 : decode cX8_set 19 = .ok (.iload 6, 2) := by decide +kernel
theorem dX8_set_21 : decode cX8_set 21 = .ok (.ifCond .eq 10, 3) := by decide +kernel
theorem dX8_set_24 : decode cX8_set 24 = .ok (.aload_n 0, 1) := by decide +kernel
theorem dX8_set_25 : decode cX8_set 25 = .ok (.iload 6, 2) := by decide +kernel
theorem dX8_set_27 : decode cX8_set 27 = .ok (.invokevirtual 63, 3) := by decide +kernel
theorem dX8_set_30 : decode cX8_set 30 = .ok (.ireturn, 1) := by decide +kernel
theorem dX8_set_31 : decode cX8_set 31 = .ok (.aload 5, 2) := by decide +kernel
theorem dX8_set_33 : decode cX8_set 33 = .ok (.iload_n 2, 1) := by decide +kernel
theorem dX8_set_34 : decode cX8_set 34 = .ok (.iconst 1, 1) := by decide +kernel
theorem dX8_set_35 : decode cX8_set 35 = .ok (.invokevirtual 75, 3) := by decide +kernel
theorem dX8_set_38 : decode cX8_set 38 = .ok (.ifCond .ne 10, 3) := by decide +kernel
theorem dX8_set_41 : decode cX8_set 41 = .ok (.aload_n 0, 1) := by decide +kernel
theorem dX8_set_42 : decode cX8_set 42 = .ok (.bipush (-5), 2) := by decide +kernel
theorem dX8_set_44 : decode cX8_set 44 = .ok (.invokevirtual 63, 3) := by decide +kernel
theorem dX8_set_47 : decode cX8_set 47 = .ok (.ireturn, 1) := by decide +kernel
theorem dX8_set_48 : decode cX8_set 48 = .ok (.aload 5, 2) := by decide +kernel
theorem dX8_set_50 : decode cX8_set 50 = .ok (.iload_n 2, 1) := by decide +kernel
theorem dX8_set_51 : decode cX8_set 51 = .ok (.lload_n 3, 1) := by decide +kernel
theorem dX8_set_52 : decode cX8_set 52 = .ok (.invokevirtual 79, 3) := by decide +kernel
theorem dX8_set_55 : decode cX8_set 55 = .ok (.iconst 1, 1) := by decide +kernel
theorem dX8_set_56 : decode cX8_set 56 = .ok (.ireturn, 1) := by decide +kernel
theorem dX8_copy_0 : decode cX8_copy 0 = .ok (.aload_n 0, 1) := by decide +kernel
theorem dX8_copy_1 : decode cX8_copy 1 = .ok (.iload_n 1, 1) := by decide +kernel
theorem dX8_copy_2 : decode cX8_copy 2 = .ok (.invokevirtual 59, 3) := by decide +kernel
theorem dX8_copy_5 : decode cX8_copy 5 = .ok (.astore 6, 2) := by decide +kernel
theorem dX8_copy_7 : decode cX8_copy 7 = .ok (.aload_n 0, 1) := by decide +kernel
theorem dX8_copy_8 : decode cX8_copy 8 = .ok (.iload_n 2, 1) := by decide +kernel
theorem dX8_copy_9 : decode cX8_copy 9 = .ok (.invokevirtual 59, 3) := by decide +kernel
theorem dX8_copy_12 : decode cX8_copy 12 = .ok (.astore 7, 2) := by decide +kernel
theorem dX8_copy_14 : decode cX8_copy 14 = .ok (.aload 6, 2) := by decide +kernel
theorem dX8_copy_16 : decode cX8_copy 16 = .ok (.aload 7, 2) := by decide +kernel
theorem dX8_copy_18 : decode cX8_copy 18 = .ok (.invokestatic 83, 3) := by decide +kernel
theorem dX8_copy_21 : decode cX8_copy 21 = .ok (.istore 8, 2) := by decide +kernel
theorem dX8_copy_23 : decode cX8_copy 23 = .ok (.aload 6, 2) := by decide +kernel
theorem dX8_copy_25 : decode cX8_copy 25 = .ok (.ifnull 13, 3) := by decide +kernel
theorem dX8_copy_28 : decode cX8_copy 28 = .ok (.aload 7, 2) := by decide +kernel
theorem dX8_copy_30 : decode cX8_copy 30 = .ok (.ifnull 8, 3) := by decide +kernel
theorem dX8_copy_33 : decode cX8_copy 33 = .ok (.iload 8, 2) := by decide +kernel
theorem dX8_copy_35 : decode cX8_copy 35 = .ok (.ifCond .eq 10, 3) := by decide +kernel
theorem dX8_copy_38 : decode cX8_copy 38 = .ok (.aload_n 0, 1) := by decide +kernel
theorem dX8_copy_39 : decode cX8_copy 39 = .ok (.iload 8, 2) := by decide +kernel
theorem dX8_copy_41 : decode cX8_copy 41 = .ok (.invokevirtual 63, 3) := by decide +kernel
theorem dX8_copy_44 : decode cX8_copy 44 = .ok (.ireturn, 1) := by decide +kernel
theorem dX8_copy_45 : decode cX8_copy 45 = .ok (.iload 5, 2) := by decide +kernel
theorem dX8_copy_47 : decode cX8_copy 47 = .ok (.ifCond .ge 10, 3) := by decide +kernel
theorem dX8_copy_50 : decode cX8_copy 50 = .ok (.aload_n 0, 1) := by decide +kernel
theorem dX8_copy_51 : decode cX8_copy 51 = .ok (.bipush (-4), 2) := by decide +kernel
theorem dX8_copy_53 : decode cX8_copy 53 = .ok (.invokevirtual 63, 3) := by decide +kernel
theorem dX8_copy_56 : decode cX8_copy 56 = .ok (.ireturn, 1) := by decide +kernel
theorem dX8_copy_57 : decode cX8_copy 57 = .ok (.aload 6, 2) := by decide +kernel
theorem dX8_copy_59 : decode cX8_copy 59 = .ok (.iload_n 3, 1) := by decide +kernel
theorem dX8_copy_60 : decode cX8_copy 60 = .ok (.iload 5, 2) := by decide +kernel
theorem dX8_copy_62 : decode cX8_copy 62 = .ok (.invokevirtual 75, 3) := by decide +kernel
theorem dX8_copy_65 : decode cX8_copy 65 = .ok (.ifCond .eq 15, 3) := by decide +kernel
theorem dX8_copy_68 : decode cX8_copy 68 = .ok (.aload 7, 2) := by decide +kernel
theorem dX8_copy_70 : decode cX8_copy 70 = .ok (.iload 4, 2) := by decide +kernel
theorem dX8_copy_72 : decode cX8_copy 72 = .ok (.iload 5, 2) := by decide +kernel
theorem dX8_copy_74 : decode cX8_copy 74 = .ok (.invokevirtual 75, 3) := by decide +kernel
theorem dX8_copy_77 : decode cX8_copy 77 = .ok (.ifCond .ne 10, 3) := by decide +kernel
theorem dX8_copy_80 : decode cX8_copy 80 = .ok (.aload_n 0, 1) := by decide +kernel
theorem dX8_copy_81 : decode cX8_copy 81 = .ok (.bipush (-5), 2) := by decide +kernel
theorem dX8_copy_83 : decode cX8_copy 83 = .ok (.invokevirtual 63, 3) := by decide +kernel
theorem dX8_copy_86 : decode cX8_copy 86 = .ok (.ireturn, 1) := by decide +kernel
theorem dX8_copy_87 : decode cX8_copy 87 = .ok (.aload 6, 2) := by decide +kernel
theorem dX8_copy_89 : decode cX8_copy 89 = .ok (.getfield 87, 3) := by decide +kernel
theorem dX8_copy_92 : decode cX8_copy 92 = .ok (.iload_n 3, 1) := by decide +kernel
theorem dX8_copy_93 : decode cX8_copy 93 = .ok (.aload 7, 2) := by decide +kernel
theorem dX8_copy_95 : decode cX8_copy 95 = .ok (.getfield 87, 3) := by decide +kernel
theorem dX8_copy_98 : decode cX8_copy 98 = .ok (.iload 4, 2) := by decide +kernel
theorem dX8_copy_100 : decode cX8_copy 100 = .ok (.iload 5, 2) := by decide +kernel
theorem dX8_copy_102 : decode cX8_copy 102 = .ok (.invokestatic 90, 3) := by decide +kernel
theorem dX8_copy_105 : decode cX8_copy 105 = .ok (.iconst 1, 1) := by decide +kernel
theorem dX8_copy_106 : decode cX8_copy 106 = .ok (.ireturn, 1) := by decide +kernel
theorem dX8_element_0 : decode cX8_element 0 = .ok (.aload_n 0, 1) := by decide +kernel
theorem dX8_element_1 : decode cX8_element 1 = .ok (.iload_n 1, 1) := by decide +kernel
theorem dX8_element_2 : decode cX8_element 2 = .ok (.invokevirtual 59, 3) := by decide +kernel
theorem dX8_element_5 : decode cX8_element 5 = .ok (.astore_n 3, 1) := by decide +kernel
theorem dX8_element_6 : decode cX8_element 6 = .ok (.aload_n 3, 1) := by decide +kernel
theorem dX8_element_7 : decode cX8_element 7 = .ok (.ifnonnull 7, 3) := by decide +kernel
theorem dX8_element_10 : decode cX8_element 10 = .ok (.lconst 0, 1) := by decide +kernel
theorem dX8_element_11 : decode cX8_element 11 = .ok (.goto 8, 3) := by decide +kernel
theorem dX8_element_14 : decode cX8_element 14 = .ok (.aload_n 3, 1) := by decide +kernel
theorem dX8_element_15 : decode cX8_element 15 = .ok (.iload_n 2, 1) := by decide +kernel
theorem dX8_element_16 : decode cX8_element 16 = .ok (.invokevirtual 96, 3) := by decide +kernel
theorem dX8_element_19 : decode cX8_element 19 = .ok (.lreturn, 1) := by decide +kernel
theorem dX8_show_0 : decode cX8_show 0 = .ok (.aload_n 0, 1) := by decide +kernel
theorem dX8_show_1 : decode cX8_show 1 = .ok (.iload_n 1, 1) := by decide +kernel
theorem dX8_show_2 : decode cX8_show 2 = .ok (.invokevirtual 59, 3) := by decide +kernel
theorem dX8_show_5 : decode cX8_show 5 = .ok (.astore_n 3, 1) := by decide +kernel
theorem dX8_show_6 : decode cX8_show 6 = .ok (.aload_n 3, 1) := by decide +kernel
theorem dX8_show_7 : decode cX8_show 7 = .ok (.ifnull 19, 3) := by decide +kernel
theorem dX8_show_10 : decode cX8_show 10 = .ok (.iload_n 2, 1) := by decide +kernel
theorem dX8_show_11 : decode cX8_show 11 = .ok (.iconst (-1), 1) := by decide +kernel
theorem dX8_show_12 : decode cX8_show 12 = .ok (.if_icmp .eq 20, 3) := by decide +kernel
theorem dX8_show_15 : decode cX8_show 15 = .ok (.aload_n 0, 1) := by decide +kernel
theorem dX8_show_16 : decode cX8_show 16 = .ok (.getfield 18, 3) := by decide +kernel
theorem dX8_show_19 : decode cX8_show 19 = .ok (.iload_n 2, 1) := by decide +kernel
theorem dX8_show_20 : decode cX8_show 20 = .ok (.invokevirtual 100, 3) := by decide +kernel
theorem dX8_show_23 : decode cX8_show 23 = .ok (.ifnonnull 9, 3) := by decide +kernel
theorem dX8_show_26 : decode cX8_show 26 = .ok (.aload_n 0, 1) := by decide +kernel
theorem dX8_show_27 : decode cX8_show 27 = .ok (.iconst (-1), 1) := by decide +kernel
theorem dX8_show_28 : decode cX8_show 28 = .ok (.invokevirtual 63, 3) := by decide +kernel
theorem dX8_show_31 : decode cX8_show 31 = .ok (.ireturn, 1) := by decide +kernel
theorem dX8_show_32 : decode cX8_show 32 = .ok (.aload_n 3, 1) := by decide +kernel
theorem dX8_show_33 : decode cX8_show 33 = .ok (.iload_n 2, 1) := by decide +kernel
theorem dX8_show_34 : decode cX8_show 34 = .ok (.invokevirtual 104, 3) := by decide +kernel
theorem dX8_show_37 : decode cX8_show 37 = .ok (.iload_n 2, 1) := by decide +kernel
theorem dX8_show_38 : decode cX8_show 38 = .ok (.iconst (-1), 1) := by decide +kernel
theorem dX8_show_39 : decode cX8_show 39 = .ok (.if_icmp .ne 7, 3) := by decide +kernel
theorem dX8_show_42 : decode cX8_show 42 = .ok (.iconst 0, 1) := by decide +kernel
theorem dX8_show_43 : decode cX8_show 43 = .ok (.goto 4, 3) := by decide +kernel
theorem dX8_show_46 : decode cX8_show 46 = .ok (.iconst 1, 1) := by decide +kernel
theorem dX8_show_47 : decode cX8_show 47 = .ok (.ireturn, 1) := by decide +kernel
theorem dX8_holds_0 : decode cX8_holds 0 = .ok (.aload_n 0, 1) := by decide +kernel
theorem dX8_holds_1 : decode cX8_holds 1 = .ok (.iload_n 1, 1) := by decide +kernel
theorem dX8_holds_2 : decode cX8_holds 2 = .ok (.invokevirtual 59, 3) := by decide +kernel
theorem dX8_holds_5 : decode cX8_holds 5 = .ok (.astore_n 2, 1) := by decide +kernel
theorem dX8_holds_6 : decode cX8_holds 6 = .ok (.aload_n 2, 1) := by decide +kernel
theorem dX8_holds_7 : decode cX8_holds 7 = .ok (.ifnonnull 7, 3) := by decide +kernel
theorem dX8_holds_10 : decode cX8_holds 10 = .ok (.iconst (-1), 1) := by decide +kernel
theorem dX8_holds_11 : decode cX8_holds 11 = .ok (.goto 7, 3) := by decide +kernel
theorem dX8_holds_14 : decode cX8_holds 14 = .ok (.aload_n 2, 1) := by decide +kernel
theorem dX8_holds_15 : decode cX8_holds 15 = .ok (.getfield 108, 3) := by decide +kernel
theorem dX8_holds_18 : decode cX8_holds 18 = .ok (.ireturn, 1) := by decide +kernel
theorem dX8_says_0 : decode cX8_says 0 = .ok (.aload_n 0, 1) := by decide +kernel
theorem dX8_says_1 : decode cX8_says 1 = .ok (.iload_n 1, 1) := by decide +kernel
theorem dX8_says_2 : decode cX8_says 2 = .ok (.invokevirtual 59, 3) := by decide +kernel
theorem dX8_says_5 : decode cX8_says 5 = .ok (.astore_n 3, 1) := by decide +kernel
theorem dX8_says_6 : decode cX8_says 6 = .ok (.aload_n 3, 1) := by decide +kernel
theorem dX8_says_7 : decode cX8_says 7 = .ok (.ifnull 13, 3) := by decide +kernel
theorem dX8_says_10 : decode cX8_says 10 = .ok (.iload_n 2, 1) := by decide +kernel
theorem dX8_says_11 : decode cX8_says 11 = .ok (.ifCond .lt 9, 3) := by decide +kernel
theorem dX8_says_14 : decode cX8_says 14 = .ok (.iload_n 2, 1) := by decide +kernel
theorem dX8_says_15 : decode cX8_says 15 = .ok (.bipush 7, 2) := by decide +kernel
theorem dX8_says_17 : decode cX8_says 17 = .ok (.if_icmp .lt 9, 3) := by decide +kernel
theorem dX8_says_20 : decode cX8_says 20 = .ok (.aload_n 0, 1) := by decide +kernel
theorem dX8_says_21 : decode cX8_says 21 = .ok (.iconst (-1), 1) := by decide +kernel
theorem dX8_says_22 : decode cX8_says 22 = .ok (.invokevirtual 63, 3) := by decide +kernel
theorem dX8_says_25 : decode cX8_says 25 = .ok (.ireturn, 1) := by decide +kernel
theorem dX8_says_26 : decode cX8_says 26 = .ok (.aload_n 3, 1) := by decide +kernel
theorem dX8_says_27 : decode cX8_says 27 = .ok (.getfield 108, 3) := by decide +kernel
theorem dX8_says_30 : decode cX8_says 30 = .ok (.iconst (-1), 1) := by decide +kernel
theorem dX8_says_31 : decode cX8_says 31 = .ok (.if_icmp .ne 10, 3) := by decide +kernel
theorem dX8_says_34 : decode cX8_says 34 = .ok (.aload_n 0, 1) := by decide +kernel
theorem dX8_says_35 : decode cX8_says 35 = .ok (.bipush (-3), 2) := by decide +kernel
theorem dX8_says_37 : decode cX8_says 37 = .ok (.invokevirtual 63, 3) := by decide +kernel
theorem dX8_says_40 : decode cX8_says 40 = .ok (.ireturn, 1) := by decide +kernel
theorem dX8_says_41 : decode cX8_says 41 = .ok (.aload_n 0, 1) := by decide +kernel
theorem dX8_says_42 : decode cX8_says 42 = .ok (.getfield 18, 3) := by decide +kernel
theorem dX8_says_45 : decode cX8_says 45 = .ok (.aload_n 3, 1) := by decide +kernel
theorem dX8_says_46 : decode cX8_says 46 = .ok (.getfield 108, 3) := by decide +kernel
theorem dX8_says_49 : decode cX8_says 49 = .ok (.invokevirtual 100, 3) := by decide +kernel
theorem dX8_says_52 : decode cX8_says 52 = .ok (.astore 4, 2) := by decide +kernel
theorem dX8_says_54 : decode cX8_says 54 = .ok (.aload 4, 2) := by decide +kernel
theorem dX8_says_56 : decode cX8_says 56 = .ok (.ifnull 12, 3) := by decide +kernel
theorem dX8_says_59 : decode cX8_says 59 = .ok (.aload 4, 2) := by decide +kernel
theorem dX8_says_61 : decode cX8_says 61 = .ok (.iload_n 2, 1) := by decide +kernel
theorem dX8_says_62 : decode cX8_says 62 = .ok (.invokevirtual 111, 3) := by decide +kernel
theorem dX8_says_65 : decode cX8_says 65 = .ok (.ifCond .ne 10, 3) := by decide +kernel
theorem dX8_says_68 : decode cX8_says 68 = .ok (.aload_n 0, 1) := by decide +kernel
theorem dX8_says_69 : decode cX8_says 69 = .ok (.bipush (-2), 2) := by decide +kernel
theorem dX8_says_71 : decode cX8_says 71 = .ok (.invokevirtual 63, 3) := by decide +kernel
theorem dX8_says_74 : decode cX8_says 74 = .ok (.ireturn, 1) := by decide +kernel
theorem dX8_says_75 : decode cX8_says 75 = .ok (.aload_n 0, 1) := by decide +kernel
theorem dX8_says_76 : decode cX8_says 76 = .ok (.getfield 18, 3) := by decide +kernel
theorem dX8_says_79 : decode cX8_says 79 = .ok (.aload 4, 2) := by decide +kernel
theorem dX8_says_81 : decode cX8_says 81 = .ok (.iload_n 2, 1) := by decide +kernel
theorem dX8_says_82 : decode cX8_says 82 = .ok (.invokevirtual 117, 3) := by decide +kernel
theorem dX8_says_85 : decode cX8_says 85 = .ok (.ireturn, 1) := by decide +kernel
theorem dX8_street_0 : decode cX8_street 0 = .ok (.iload_n 1, 1) := by decide +kernel
theorem dX8_street_1 : decode cX8_street 1 = .ok (.iconst 2, 1) := by decide +kernel
theorem dX8_street_2 : decode cX8_street 2 = .ok (.if_icmp .lt 9, 3) := by decide +kernel
theorem dX8_street_5 : decode cX8_street 5 = .ok (.iload_n 1, 1) := by decide +kernel
theorem dX8_street_6 : decode cX8_street 6 = .ok (.bipush 24, 2) := by decide +kernel
theorem dX8_street_8 : decode cX8_street 8 = .ok (.if_icmp .le 10, 3) := by decide +kernel
theorem dX8_street_11 : decode cX8_street 11 = .ok (.aload_n 0, 1) := by decide +kernel
theorem dX8_street_12 : decode cX8_street 12 = .ok (.bipush (-6), 2) := by decide +kernel
theorem dX8_street_14 : decode cX8_street 14 = .ok (.invokevirtual 63, 3) := by decide +kernel
theorem dX8_street_17 : decode cX8_street 17 = .ok (.ireturn, 1) := by decide +kernel
theorem dX8_street_18 : decode cX8_street 18 = .ok (.aload_n 0, 1) := by decide +kernel
theorem dX8_street_19 : decode cX8_street 19 = .ok (.getfield 18, 3) := by decide +kernel
theorem dX8_street_22 : decode cX8_street 22 = .ok (.getfield 121, 3) := by decide +kernel
theorem dX8_street_25 : decode cX8_street 25 = .ok (.istore_n 2, 1) := by decide +kernel
theorem dX8_street_26 : decode cX8_street 26 = .ok (.aload_n 0, 1) := by decide +kernel
theorem dX8_street_27 : decode cX8_street 27 = .ok (.getfield 18, 3) := by decide +kernel
theorem dX8_street_30 : decode cX8_street 30 = .ok (.iload_n 1, 1) := by decide +kernel
theorem dX8_street_31 : decode cX8_street 31 = .ok (.invokevirtual 124, 3) := by decide +kernel
theorem dX8_street_34 : decode cX8_street 34 = .ok (.aload_n 0, 1) := by decide +kernel
theorem dX8_street_35 : decode cX8_street 35 = .ok (.iconst 0, 1) := by decide +kernel
theorem dX8_street_36 : decode cX8_street 36 = .ok (.invokevirtual 127, 3) := by decide +kernel
theorem dX8_street_39 : decode cX8_street 39 = .ok (.iload_n 2, 1) := by decide +kernel
theorem dX8_street_40 : decode cX8_street 40 = .ok (.ireturn, 1) := by decide +kernel
theorem dX8_sign_0 : decode cX8_sign 0 = .ok (.iload_n 1, 1) := by decide +kernel
theorem dX8_sign_1 : decode cX8_sign 1 = .ok (.ifCond .lt 20, 3) := by decide +kernel
theorem dX8_sign_4 : decode cX8_sign 4 = .ok (.iload_n 1, 1) := by decide +kernel
theorem dX8_sign_5 : decode cX8_sign 5 = .ok (.bipush 7, 2) := by decide +kernel
theorem dX8_sign_7 : decode cX8_sign 7 = .ok (.if_icmp .ge 14, 3) := by decide +kernel
theorem dX8_sign_10 : decode cX8_sign 10 = .ok (.aload_n 0, 1) := by decide +kernel
theorem dX8_sign_11 : decode cX8_sign 11 = .ok (.getfield 18, 3) := by decide +kernel
theorem dX8_sign_14 : decode cX8_sign 14 = .ok (.iload_n 2, 1) := by decide +kernel
theorem dX8_sign_15 : decode cX8_sign 15 = .ok (.invokevirtual 130, 3) := by decide +kernel
theorem dX8_sign_18 : decode cX8_sign 18 = .ok (.ifCond .ne 9, 3) := by decide +kernel
theorem dX8_sign_21 : decode cX8_sign 21 = .ok (.aload_n 0, 1) := by decide +kernel
theorem dX8_sign_22 : decode cX8_sign 22 = .ok (.iconst (-1), 1) := by decide +kernel
theorem dX8_sign_23 : decode cX8_sign 23 = .ok (.invokevirtual 63, 3) := by decide +kernel
theorem dX8_sign_26 : decode cX8_sign 26 = .ok (.ireturn, 1) := by decide +kernel
theorem dX8_sign_27 : decode cX8_sign 27 = .ok (.iload_n 3, 1) := by decide +kernel
theorem dX8_sign_28 : decode cX8_sign 28 = .ok (.iconst 1, 1) := by decide +kernel
theorem dX8_sign_29 : decode cX8_sign 29 = .ok (.if_icmp .lt 22, 3) := by decide +kernel
theorem dX8_sign_32 : decode cX8_sign 32 = .ok (.iload_n 3, 1) := by decide +kernel
theorem dX8_sign_33 : decode cX8_sign 33 = .ok (.bipush 10, 2) := by decide +kernel
theorem dX8_sign_35 : decode cX8_sign 35 = .ok (.if_icmp .gt 16, 3) := by decide +kernel
theorem dX8_sign_38 : decode cX8_sign 38 = .ok (.iload 4, 2) := by decide +kernel
theorem dX8_sign_40 : decode cX8_sign 40 = .ok (.ifCond .lt 11, 3) := by decide +kernel
theorem dX8_sign_43 : decode cX8_sign 43 = .ok (.iload 4, 2) := by decide +kernel
theorem dX8_sign_45 : decode cX8_sign 45 = .ok (.sipush 255, 3) := by decide +kernel
theorem dX8_sign_48 : decode cX8_sign 48 = .ok (.if_icmp .le 10, 3) := by decide +kernel
theorem dX8_sign_51 : decode cX8_sign 51 = .ok (.aload_n 0, 1) := by decide +kernel
theorem dX8_sign_52 : decode cX8_sign 52 = .ok (.bipush (-6), 2) := by decide +kernel
theorem dX8_sign_54 : decode cX8_sign 54 = .ok (.invokevirtual 63, 3) := by decide +kernel
theorem dX8_sign_57 : decode cX8_sign 57 = .ok (.ireturn, 1) := by decide +kernel
theorem dX8_sign_58 : decode cX8_sign 58 = .ok (.aload_n 0, 1) := by decide +kernel
theorem dX8_sign_59 : decode cX8_sign 59 = .ok (.getfield 18, 3) := by decide +kernel
theorem dX8_sign_62 : decode cX8_sign 62 = .ok (.invokevirtual 133, 3) := by decide +kernel
theorem dX8_sign_65 : decode cX8_sign 65 = .ok (.ifCond .ne 10, 3) := by decide +kernel
theorem dX8_sign_68 : decode cX8_sign 68 = .ok (.aload_n 0, 1) := by decide +kernel
theorem dX8_sign_69 : decode cX8_sign 69 = .ok (.bipush (-7), 2) := by decide +kernel
theorem dX8_sign_71 : decode cX8_sign 71 = .ok (.invokevirtual 63, 3) := by decide +kernel
theorem dX8_sign_74 : decode cX8_sign 74 = .ok (.ireturn, 1) := by decide +kernel
theorem dX8_sign_75 : decode cX8_sign 75 = .ok (.aload_n 0, 1) := by decide +kernel
theorem dX8_sign_76 : decode cX8_sign 76 = .ok (.getfield 18, 3) := by decide +kernel
theorem dX8_sign_79 : decode cX8_sign 79 = .ok (.iload_n 1, 1) := by decide +kernel
theorem dX8_sign_80 : decode cX8_sign 80 = .ok (.iload_n 2, 1) := by decide +kernel
theorem dX8_sign_81 : decode cX8_sign 81 = .ok (.iload_n 3, 1) := by decide +kernel
theorem dX8_sign_82 : decode cX8_sign 82 = .ok (.iload 4, 2) := by decide +kernel
theorem dX8_sign_84 : decode cX8_sign 84 = .ok (.invokevirtual 137, 3) := by decide +kernel
theorem dX8_sign_87 : decode cX8_sign 87 = .ok (.ireturn, 1) := by decide +kernel
theorem dX8_thing_0 : decode cX8_thing 0 = .ok (.aload_n 0, 1) := by decide +kernel
theorem dX8_thing_1 : decode cX8_thing 1 = .ok (.getfield 18, 3) := by decide +kernel
theorem dX8_thing_4 : decode cX8_thing 4 = .ok (.iload_n 1, 1) := by decide +kernel
theorem dX8_thing_5 : decode cX8_thing 5 = .ok (.invokevirtual 130, 3) := by decide +kernel
theorem dX8_thing_8 : decode cX8_thing 8 = .ok (.ifCond .ne 9, 3) := by decide +kernel
theorem dX8_thing_11 : decode cX8_thing 11 = .ok (.aload_n 0, 1) := by decide +kernel
theorem dX8_thing_12 : decode cX8_thing 12 = .ok (.iconst (-1), 1) := by decide +kernel
theorem dX8_thing_13 : decode cX8_thing 13 = .ok (.invokevirtual 63, 3) := by decide +kernel
theorem dX8_thing_16 : decode cX8_thing 16 = .ok (.ireturn, 1) := by decide +kernel
theorem dX8_thing_17 : decode cX8_thing 17 = .ok (.iload_n 3, 1) := by decide +kernel
theorem dX8_thing_18 : decode cX8_thing 18 = .ok (.iconst 1, 1) := by decide +kernel
theorem dX8_thing_19 : decode cX8_thing 19 = .ok (.if_icmp .lt 9, 3) := by decide +kernel
theorem dX8_thing_22 : decode cX8_thing 22 = .ok (.iload_n 3, 1) := by decide +kernel
theorem dX8_thing_23 : decode cX8_thing 23 = .ok (.bipush 10, 2) := by decide +kernel
theorem dX8_thing_25 : decode cX8_thing 25 = .ok (.if_icmp .le 10, 3) := by decide +kernel
theorem dX8_thing_28 : decode cX8_thing 28 = .ok (.aload_n 0, 1) := by decide +kernel
theorem dX8_thing_29 : decode cX8_thing 29 = .ok (.bipush (-6), 2) := by decide +kernel
theorem dX8_thing_31 : decode cX8_thing 31 = .ok (.invokevirtual 63, 3) := by decide +kernel
theorem dX8_thing_34 : decode cX8_thing 34 = .ok (.ireturn, 1) := by decide +kernel
theorem dX8_thing_35 : decode cX8_thing 35 = .ok (.aload_n 0, 1) := by decide +kernel
theorem dX8_thing_36 : decode cX8_thing 36 = .ok (.getfield 18, 3) := by decide +kernel
theorem dX8_thing_39 : decode cX8_thing 39 = .ok (.invokevirtual 141, 3) := by decide +kernel
theorem dX8_thing_42 : decode cX8_thing 42 = .ok (.ifCond .ne 10, 3) := by decide +kernel
theorem dX8_thing_45 : decode cX8_thing 45 = .ok (.aload_n 0, 1) := by decide +kernel
theorem dX8_thing_46 : decode cX8_thing 46 = .ok (.bipush (-7), 2) := by decide +kernel
theorem dX8_thing_48 : decode cX8_thing 48 = .ok (.invokevirtual 63, 3) := by decide +kernel
theorem dX8_thing_51 : decode cX8_thing 51 = .ok (.ireturn, 1) := by decide +kernel
theorem dX8_thing_52 : decode cX8_thing 52 = .ok (.aload_n 0, 1) := by decide +kernel
theorem dX8_thing_53 : decode cX8_thing 53 = .ok (.getfield 18, 3) := by decide +kernel
theorem dX8_thing_56 : decode cX8_thing 56 = .ok (.iload_n 1, 1) := by decide +kernel
theorem dX8_thing_57 : decode cX8_thing 57 = .ok (.iload_n 2, 1) := by decide +kernel
theorem dX8_thing_58 : decode cX8_thing 58 = .ok (.iload_n 3, 1) := by decide +kernel
theorem dX8_thing_59 : decode cX8_thing 59 = .ok (.invokevirtual 144, 3) := by decide +kernel
theorem dX8_thing_62 : decode cX8_thing 62 = .ok (.ireturn, 1) := by decide +kernel
theorem dX8_things_0 : decode cX8_things 0 = .ok (.aload_n 0, 1) := by decide +kernel
theorem dX8_things_1 : decode cX8_things 1 = .ok (.iload_n 1, 1) := by decide +kernel
theorem dX8_things_2 : decode cX8_things 2 = .ok (.invokevirtual 59, 3) := by decide +kernel
theorem dX8_things_5 : decode cX8_things 5 = .ok (.astore 4, 2) := by decide +kernel
theorem dX8_things_7 : decode cX8_things 7 = .ok (.aload 4, 2) := by decide +kernel
theorem dX8_things_9 : decode cX8_things 9 = .ok (.invokestatic 71, 3) := by decide +kernel
theorem dX8_things_12 : decode cX8_things 12 = .ok (.istore 5, 2) := by decide +kernel
theorem dX8_things_14 : decode cX8_things 14 = .ok (.aload 4, 2) := by decide +kernel
theorem dX8_things_16 : decode cX8_things 16 = .ok (.ifnull 8, 3) := by decide +kernel
theorem dX8_things_19 : decode cX8_things 19 = .ok (.iload 5, 2) := by decide +kernel
theorem dX8_things_21 : decode cX8_things 21 = .ok (.ifCond .eq 10, 3) := by decide +kernel
theorem dX8_things_24 : decode cX8_things 24 = .ok (.aload_n 0, 1) := by decide +kernel
theorem dX8_things_25 : decode cX8_things 25 = .ok (.iload 5, 2) := by decide +kernel
theorem dX8_things_27 : decode cX8_things 27 = .ok (.invokevirtual 63, 3) := by decide +kernel
theorem dX8_things_30 : decode cX8_things 30 = .ok (.ireturn, 1) := by decide +kernel
theorem dX8_things_31 : decode cX8_things 31 = .ok (.iload_n 3, 1) := by decide +kernel
theorem dX8_things_32 : decode cX8_things 32 = .ok (.ifCond .ge 10, 3) := by decide +kernel
theorem dX8_things_35 : decode cX8_things 35 = .ok (.aload_n 0, 1) := by decide +kernel
theorem dX8_things_36 : decode cX8_things 36 = .ok (.bipush (-4), 2) := by decide +kernel
theorem dX8_things_38 : decode cX8_things 38 = .ok (.invokevirtual 63, 3) := by decide +kernel
theorem dX8_things_41 : decode cX8_things 41 = .ok (.ireturn, 1) := by decide +kernel
theorem dX8_things_42 : decode cX8_things 42 = .ok (.aload 4, 2) := by decide +kernel
theorem dX8_things_44 : decode cX8_things 44 = .ok (.iload_n 2, 1) := by decide +kernel
theorem dX8_things_45 : decode cX8_things 45 = .ok (.iload_n 3, 1) := by decide +kernel
theorem dX8_things_46 : decode cX8_things 46 = .ok (.invokevirtual 75, 3) := by decide +kernel
theorem dX8_things_49 : decode cX8_things 49 = .ok (.ifCond .ne 10, 3) := by decide +kernel
theorem dX8_things_52 : decode cX8_things 52 = .ok (.aload_n 0, 1) := by decide +kernel
theorem dX8_things_53 : decode cX8_things 53 = .ok (.bipush (-5), 2) := by decide +kernel
theorem dX8_things_55 : decode cX8_things 55 = .ok (.invokevirtual 63, 3) := by decide +kernel
theorem dX8_things_58 : decode cX8_things 58 = .ok (.ireturn, 1) := by decide +kernel
theorem dX8_things_59 : decode cX8_things 59 = .ok (.iload_n 3, 1) := by decide +kernel
theorem dX8_things_60 : decode cX8_things 60 = .ok (.iconst 3, 1) := by decide +kernel
theorem dX8_things_61 : decode cX8_things 61 = .ok (.irem, 1) := by decide +kernel
theorem dX8_things_62 : decode cX8_things 62 = .ok (.ifCond .eq 10, 3) := by decide +kernel
theorem dX8_things_65 : decode cX8_things 65 = .ok (.aload_n 0, 1) := by decide +kernel
theorem dX8_things_66 : decode cX8_things 66 = .ok (.bipush (-6), 2) := by decide +kernel
theorem dX8_things_68 : decode cX8_things 68 = .ok (.invokevirtual 63, 3) := by decide +kernel
theorem dX8_things_71 : decode cX8_things 71 = .ok (.ireturn, 1) := by decide +kernel
theorem dX8_things_72 : decode cX8_things 72 = .ok (.iconst 0, 1) := by decide +kernel
theorem dX8_things_73 : decode cX8_things 73 = .ok (.istore 6, 2) := by decide +kernel
theorem dX8_things_75 : decode cX8_things 75 = .ok (.iload 6, 2) := by decide +kernel
theorem dX8_things_77 : decode cX8_things 77 = .ok (.iload_n 3, 1) := by decide +kernel
theorem dX8_things_78 : decode cX8_things 78 = .ok (.iconst 3, 1) := by decide +kernel
theorem dX8_things_79 : decode cX8_things 79 = .ok (.idiv, 1) := by decide +kernel
theorem dX8_things_80 : decode cX8_things 80 = .ok (.if_icmp .ge 24, 3) := by decide +kernel
theorem dX8_things_83 : decode cX8_things 83 = .ok (.aload_n 0, 1) := by decide +kernel
theorem dX8_things_84 : decode cX8_things 84 = .ok (.aload 4, 2) := by decide +kernel
theorem dX8_things_86 : decode cX8_things 86 = .ok (.iload_n 2, 1) := by decide +kernel
theorem dX8_things_87 : decode cX8_things 87 = .ok (.iconst 3, 1) := by decide +kernel
theorem dX8_things_88 : decode cX8_things 88 = .ok (.iload 6, 2) := by decide +kernel
theorem dX8_things_90 : decode cX8_things 90 = .ok (.imul, 1) := by decide +kernel
theorem dX8_things_91 : decode cX8_things 91 = .ok (.iadd, 1) := by decide +kernel
theorem dX8_things_92 : decode cX8_things 92 = .ok (.invokevirtual 148, 3) := by decide +kernel
theorem dX8_things_95 : decode cX8_things 95 = .ok (.ifCond .eq 9, 3) := by decide +kernel
theorem dX8_things_98 : decode cX8_things 98 = .ok (.iinc 6 1, 3) := by decide +kernel
theorem dX8_things_101 : decode cX8_things 101 = .ok (.goto (-26), 3) := by decide +kernel
theorem dX8_things_104 : decode cX8_things 104 = .ok (.iload 6, 2) := by decide +kernel
theorem dX8_things_106 : decode cX8_things 106 = .ok (.ireturn, 1) := by decide +kernel
theorem dX8_wander_0 : decode cX8_wander 0 = .ok (.iload_n 1, 1) := by decide +kernel
theorem dX8_wander_1 : decode cX8_wander 1 = .ok (.ifCond .lt 21, 3) := by decide +kernel
theorem dX8_wander_4 : decode cX8_wander 4 = .ok (.iload_n 1, 1) := by decide +kernel
theorem dX8_wander_5 : decode cX8_wander 5 = .ok (.bipush 10, 2) := by decide +kernel
theorem dX8_wander_7 : decode cX8_wander 7 = .ok (.if_icmp .gt 15, 3) := by decide +kernel
theorem dX8_wander_10 : decode cX8_wander 10 = .ok (.iload_n 2, 1) := by decide +kernel
theorem dX8_wander_11 : decode cX8_wander 11 = .ok (.ifCond .lt 11, 3) := by decide +kernel
theorem dX8_wander_14 : decode cX8_wander 14 = .ok (.iload_n 2, 1) := by decide +kernel
theorem dX8_wander_15 : decode cX8_wander 15 = .ok (.bipush 10, 2) := by decide +kernel
theorem dX8_wander_17 : decode cX8_wander 17 = .ok (.iload_n 1, 1) := by decide +kernel
theorem dX8_wander_18 : decode cX8_wander 18 = .ok (.isub, 1) := by decide +kernel
theorem dX8_wander_19 : decode cX8_wander 19 = .ok (.if_icmp .le 10, 3) := by decide +kernel
theorem dX8_wander_22 : decode cX8_wander 22 = .ok (.aload_n 0, 1) := by decide +kernel
theorem dX8_wander_23 : decode cX8_wander 23 = .ok (.bipush (-6), 2) := by decide +kernel
theorem dX8_wander_25 : decode cX8_wander 25 = .ok (.invokevirtual 63, 3) := by decide +kernel
theorem dX8_wander_28 : decode cX8_wander 28 = .ok (.ireturn, 1) := by decide +kernel
theorem dX8_wander_29 : decode cX8_wander 29 = .ok (.bipush 100, 2) := by decide +kernel
theorem dX8_wander_31 : decode cX8_wander 31 = .ok (.aload_n 0, 1) := by decide +kernel
theorem dX8_wander_32 : decode cX8_wander 32 = .ok (.getfield 18, 3) := by decide +kernel
theorem dX8_wander_35 : decode cX8_wander 35 = .ok (.getfield 152, 3) := by decide +kernel
theorem dX8_wander_38 : decode cX8_wander 38 = .ok (.imul, 1) := by decide +kernel
theorem dX8_wander_39 : decode cX8_wander 39 = .ok (.aload_n 0, 1) := by decide +kernel
theorem dX8_wander_40 : decode cX8_wander 40 = .ok (.getfield 18, 3) := by decide +kernel
theorem dX8_wander_43 : decode cX8_wander 43 = .ok (.getfield 155, 3) := by decide +kernel
theorem dX8_wander_46 : decode cX8_wander 46 = .ok (.iadd, 1) := by decide +kernel
theorem dX8_wander_47 : decode cX8_wander 47 = .ok (.istore_n 3, 1) := by decide +kernel
theorem dX8_wander_48 : decode cX8_wander 48 = .ok (.aload_n 0, 1) := by decide +kernel
theorem dX8_wander_49 : decode cX8_wander 49 = .ok (.getfield 18, 3) := by decide +kernel
theorem dX8_wander_52 : decode cX8_wander 52 = .ok (.iload_n 1, 1) := by decide +kernel
theorem dX8_wander_53 : decode cX8_wander 53 = .ok (.putfield 152, 3) := by decide +kernel
theorem dX8_wander_56 : decode cX8_wander 56 = .ok (.aload_n 0, 1) := by decide +kernel
theorem dX8_wander_57 : decode cX8_wander 57 = .ok (.getfield 18, 3) := by decide +kernel
theorem dX8_wander_60 : decode cX8_wander 60 = .ok (.iload_n 2, 1) := by decide +kernel
theorem dX8_wander_61 : decode cX8_wander 61 = .ok (.putfield 155, 3) := by decide +kernel
theorem dX8_wander_64 : decode cX8_wander 64 = .ok (.iload_n 3, 1) := by decide +kernel
theorem dX8_wander_65 : decode cX8_wander 65 = .ok (.ireturn, 1) := by decide +kernel
theorem dX8_ask_0 : decode cX8_ask 0 = .ok (.iload_n 1, 1) := by decide +kernel
theorem dX8_ask_1 : decode cX8_ask 1 = .ok (.tableswitch 102 0 2 #[27, 52, 76], 27) := by decide +kernel
theorem dX8_ask_28 : decode cX8_ask 28 = .ok (.iload_n 2, 1) := by decide +kernel
theorem dX8_ask_29 : decode cX8_ask 29 = .ok (.ifCond .lt 9, 3) := by decide +kernel
theorem dX8_ask_32 : decode cX8_ask 32 = .ok (.iload_n 2, 1) := by decide +kernel
theorem dX8_ask_33 : decode cX8_ask 33 = .ok (.bipush 7, 2) := by decide +kernel
theorem dX8_ask_35 : decode cX8_ask 35 = .ok (.if_icmp .le 12, 3) := by decide +kernel
theorem dX8_ask_38 : decode cX8_ask 38 = .ok (.aload_n 0, 1) := by decide +kernel
theorem dX8_ask_39 : decode cX8_ask 39 = .ok (.bipush (-6), 2) := by decide +kernel
theorem dX8_ask_41 : decode cX8_ask 41 = .ok (.invokevirtual 63, 3) := by decide +kernel
theorem dX8_ask_44 : decode cX8_ask 44 = .ok (.goto 8, 3) := by decide +kernel
theorem dX8_ask_47 : decode cX8_ask 47 = .ok (.aload_n 0, 1) := by decide +kernel
theorem dX8_ask_48 : decode cX8_ask 48 = .ok (.iload_n 2, 1) := by decide +kernel
theorem dX8_ask_49 : decode cX8_ask 49 = .ok (.invokevirtual 158, 3) := by decide +kernel
theorem dX8_ask_52 : decode cX8_ask 52 = .ok (.ireturn, 1) := by decide +kernel
theorem dX8_ask_53 : decode cX8_ask 53 = .ok (.iload_n 2, 1) := by decide +kernel
theorem dX8_ask_54 : decode cX8_ask 54 = .ok (.ifCond .lt 8, 3) := by decide +kernel
theorem dX8_ask_57 : decode cX8_ask 57 = .ok (.iload_n 2, 1) := by decide +kernel
theorem dX8_ask_58 : decode cX8_ask 58 = .ok (.iconst 1, 1) := by decide +kernel
theorem dX8_ask_59 : decode cX8_ask 59 = .ok (.if_icmp .le 12, 3) := by decide +kernel
theorem dX8_ask_62 : decode cX8_ask 62 = .ok (.aload_n 0, 1) := by decide +kernel
theorem dX8_ask_63 : decode cX8_ask 63 = .ok (.bipush (-6), 2) := by decide +kernel
theorem dX8_ask_65 : decode cX8_ask 65 = .ok (.invokevirtual 63, 3) := by decide +kernel
theorem dX8_ask_68 : decode cX8_ask 68 = .ok (.goto 8, 3) := by decide +kernel
theorem dX8_ask_71 : decode cX8_ask 71 = .ok (.aload_n 0, 1) := by decide +kernel
theorem dX8_ask_72 : decode cX8_ask 72 = .ok (.iload_n 2, 1) := by decide +kernel
theorem dX8_ask_73 : decode cX8_ask 73 = .ok (.invokevirtual 161, 3) := by decide +kernel
theorem dX8_ask_76 : decode cX8_ask 76 = .ok (.ireturn, 1) := by decide +kernel
theorem dX8_ask_77 : decode cX8_ask 77 = .ok (.iload_n 2, 1) := by decide +kernel
theorem dX8_ask_78 : decode cX8_ask 78 = .ok (.iconst 1, 1) := by decide +kernel
theorem dX8_ask_79 : decode cX8_ask 79 = .ok (.if_icmp .lt 9, 3) := by decide +kernel
theorem dX8_ask_82 : decode cX8_ask 82 = .ok (.iload_n 2, 1) := by decide +kernel
theorem dX8_ask_83 : decode cX8_ask 83 = .ok (.bipush 9, 2) := by decide +kernel
theorem dX8_ask_85 : decode cX8_ask 85 = .ok (.if_icmp .le 12, 3) := by decide +kernel
theorem dX8_ask_88 : decode cX8_ask 88 = .ok (.aload_n 0, 1) := by decide +kernel
theorem dX8_ask_89 : decode cX8_ask 89 = .ok (.bipush (-6), 2) := by decide +kernel
theorem dX8_ask_91 : decode cX8_ask 91 = .ok (.invokevirtual 63, 3) := by decide +kernel
theorem dX8_ask_94 : decode cX8_ask 94 = .ok (.goto 8, 3) := by decide +kernel
theorem dX8_ask_97 : decode cX8_ask 97 = .ok (.aload_n 0, 1) := by decide +kernel
theorem dX8_ask_98 : decode cX8_ask 98 = .ok (.iload_n 2, 1) := by decide +kernel
theorem dX8_ask_99 : decode cX8_ask 99 = .ok (.invokevirtual 164, 3) := by decide +kernel
theorem dX8_ask_102 : decode cX8_ask 102 = .ok (.ireturn, 1) := by decide +kernel
theorem dX8_ask_103 : decode cX8_ask 103 = .ok (.aload_n 0, 1) := by decide +kernel
theorem dX8_ask_104 : decode cX8_ask 104 = .ok (.bipush (-6), 2) := by decide +kernel
theorem dX8_ask_106 : decode cX8_ask 106 = .ok (.invokevirtual 63, 3) := by decide +kernel
theorem dX8_ask_109 : decode cX8_ask 109 = .ok (.ireturn, 1) := by decide +kernel
theorem dX8_signOf_0 : decode cX8_signOf 0 = .ok (.aload_n 0, 1) := by decide +kernel
theorem dX8_signOf_1 : decode cX8_signOf 1 = .ok (.getfield 18, 3) := by decide +kernel
theorem dX8_signOf_4 : decode cX8_signOf 4 = .ok (.iload_n 1, 1) := by decide +kernel
theorem dX8_signOf_5 : decode cX8_signOf 5 = .ok (.invokevirtual 100, 3) := by decide +kernel
theorem dX8_signOf_8 : decode cX8_signOf 8 = .ok (.astore_n 3, 1) := by decide +kernel
theorem dX8_signOf_9 : decode cX8_signOf 9 = .ok (.aload_n 3, 1) := by decide +kernel
theorem dX8_signOf_10 : decode cX8_signOf 10 = .ok (.ifnonnull 10, 3) := by decide +kernel
theorem dX8_signOf_13 : decode cX8_signOf 13 = .ok (.aload_n 0, 1) := by decide +kernel
theorem dX8_signOf_14 : decode cX8_signOf 14 = .ok (.bipush (-5), 2) := by decide +kernel
theorem dX8_signOf_16 : decode cX8_signOf 16 = .ok (.invokevirtual 63, 3) := by decide +kernel
theorem dX8_signOf_19 : decode cX8_signOf 19 = .ok (.ireturn, 1) := by decide +kernel
theorem dX8_signOf_20 : decode cX8_signOf 20 = .ok (.iload_n 2, 1) := by decide +kernel
theorem dX8_signOf_21 : decode cX8_signOf 21 = .ok (.tableswitch 51 0 3 #[31, 36, 41, 46], 31) := by decide +kernel
theorem dX8_signOf_52 : decode cX8_signOf 52 = .ok (.aload_n 3, 1) := by decide +kernel
theorem dX8_signOf_53 : decode cX8_signOf 53 = .ok (.getfield 167, 3) := by decide +kernel
theorem dX8_signOf_56 : decode cX8_signOf 56 = .ok (.ireturn, 1) := by decide +kernel
theorem dX8_signOf_57 : decode cX8_signOf 57 = .ok (.aload_n 3, 1) := by decide +kernel
theorem dX8_signOf_58 : decode cX8_signOf 58 = .ok (.getfield 170, 3) := by decide +kernel
theorem dX8_signOf_61 : decode cX8_signOf 61 = .ok (.ireturn, 1) := by decide +kernel
theorem dX8_signOf_62 : decode cX8_signOf 62 = .ok (.aload_n 3, 1) := by decide +kernel
theorem dX8_signOf_63 : decode cX8_signOf 63 = .ok (.getfield 173, 3) := by decide +kernel
theorem dX8_signOf_66 : decode cX8_signOf 66 = .ok (.ireturn, 1) := by decide +kernel
theorem dX8_signOf_67 : decode cX8_signOf 67 = .ok (.aload_n 3, 1) := by decide +kernel
theorem dX8_signOf_68 : decode cX8_signOf 68 = .ok (.getfield 176, 3) := by decide +kernel
theorem dX8_signOf_71 : decode cX8_signOf 71 = .ok (.ireturn, 1) := by decide +kernel
theorem dX8_signOf_72 : decode cX8_signOf 72 = .ok (.aload_n 0, 1) := by decide +kernel
theorem dX8_signOf_73 : decode cX8_signOf 73 = .ok (.bipush (-5), 2) := by decide +kernel
theorem dX8_signOf_75 : decode cX8_signOf 75 = .ok (.invokevirtual 63, 3) := by decide +kernel
theorem dX8_signOf_78 : decode cX8_signOf 78 = .ok (.ireturn, 1) := by decide +kernel
theorem dX8_thingOf_0 : decode cX8_thingOf 0 = .ok (.aload_n 0, 1) := by decide +kernel
theorem dX8_thingOf_1 : decode cX8_thingOf 1 = .ok (.getfield 18, 3) := by decide +kernel
theorem dX8_thingOf_4 : decode cX8_thingOf 4 = .ok (.iload_n 1, 1) := by decide +kernel
theorem dX8_thingOf_5 : decode cX8_thingOf 5 = .ok (.invokevirtual 179, 3) := by decide +kernel
theorem dX8_thingOf_8 : decode cX8_thingOf 8 = .ok (.astore_n 3, 1) := by decide +kernel
theorem dX8_thingOf_9 : decode cX8_thingOf 9 = .ok (.aload_n 3, 1) := by decide +kernel
theorem dX8_thingOf_10 : decode cX8_thingOf 10 = .ok (.ifnonnull 10, 3) := by decide +kernel
theorem dX8_thingOf_13 : decode cX8_thingOf 13 = .ok (.aload_n 0, 1) := by decide +kernel
theorem dX8_thingOf_14 : decode cX8_thingOf 14 = .ok (.bipush (-5), 2) := by decide +kernel
theorem dX8_thingOf_16 : decode cX8_thingOf 16 = .ok (.invokevirtual 63, 3) := by decide +kernel
theorem dX8_thingOf_19 : decode cX8_thingOf 19 = .ok (.ireturn, 1) := by decide +kernel
theorem dX8_thingOf_20 : decode cX8_thingOf 20 = .ok (.iload_n 2, 1) := by decide +kernel
theorem dX8_thingOf_21 : decode cX8_thingOf 21 = .ok (.tableswitch 50 0 2 #[27, 32, 45], 27) := by decide +kernel
theorem dX8_thingOf_48 : decode cX8_thingOf 48 = .ok (.aload_n 3, 1) := by decide +kernel
theorem dX8_thingOf_49 : decode cX8_thingOf 49 = .ok (.getfield 183, 3) := by decide +kernel
theorem dX8_thingOf_52 : decode cX8_thingOf 52 = .ok (.ireturn, 1) := by decide +kernel
theorem dX8_thingOf_53 : decode cX8_thingOf 53 = .ok (.aload_n 3, 1) := by decide +kernel
theorem dX8_thingOf_54 : decode cX8_thingOf 54 = .ok (.getfield 186, 3) := by decide +kernel
theorem dX8_thingOf_57 : decode cX8_thingOf 57 = .ok (.ifCond .eq 7, 3) := by decide +kernel
theorem dX8_thingOf_60 : decode cX8_thingOf 60 = .ok (.iconst 1, 1) := by decide +kernel
theorem dX8_thingOf_61 : decode cX8_thingOf 61 = .ok (.goto 4, 3) := by decide +kernel
theorem dX8_thingOf_64 : decode cX8_thingOf 64 = .ok (.iconst 0, 1) := by decide +kernel
theorem dX8_thingOf_65 : decode cX8_thingOf 65 = .ok (.ireturn, 1) := by decide +kernel
theorem dX8_thingOf_66 : decode cX8_thingOf 66 = .ok (.aload_n 3, 1) := by decide +kernel
theorem dX8_thingOf_67 : decode cX8_thingOf 67 = .ok (.getfield 189, 3) := by decide +kernel
theorem dX8_thingOf_70 : decode cX8_thingOf 70 = .ok (.ireturn, 1) := by decide +kernel
theorem dX8_thingOf_71 : decode cX8_thingOf 71 = .ok (.aload_n 0, 1) := by decide +kernel
theorem dX8_thingOf_72 : decode cX8_thingOf 72 = .ok (.bipush (-5), 2) := by decide +kernel
theorem dX8_thingOf_74 : decode cX8_thingOf 74 = .ok (.invokevirtual 63, 3) := by decide +kernel
theorem dX8_thingOf_77 : decode cX8_thingOf 77 = .ok (.ireturn, 1) := by decide +kernel
theorem dX8_clear_0 : decode cX8_clear 0 = .ok (.aload_n 0, 1) := by decide +kernel
theorem dX8_clear_1 : decode cX8_clear 1 = .ok (.getfield 18, 3) := by decide +kernel
theorem dX8_clear_4 : decode cX8_clear 4 = .ok (.iload_n 1, 1) := by decide +kernel
theorem dX8_clear_5 : decode cX8_clear 5 = .ok (.invokevirtual 179, 3) := by decide +kernel
theorem dX8_clear_8 : decode cX8_clear 8 = .ok (.ifnonnull 9, 3) := by decide +kernel
theorem dX8_clear_11 : decode cX8_clear 11 = .ok (.aload_n 0, 1) := by decide +kernel
theorem dX8_clear_12 : decode cX8_clear 12 = .ok (.iconst (-1), 1) := by decide +kernel
theorem dX8_clear_13 : decode cX8_clear 13 = .ok (.invokevirtual 63, 3) := by decide +kernel
theorem dX8_clear_16 : decode cX8_clear 16 = .ok (.ireturn, 1) := by decide +kernel
theorem dX8_clear_17 : decode cX8_clear 17 = .ok (.aload_n 0, 1) := by decide +kernel
theorem dX8_clear_18 : decode cX8_clear 18 = .ok (.getfield 18, 3) := by decide +kernel
theorem dX8_clear_21 : decode cX8_clear 21 = .ok (.iload_n 1, 1) := by decide +kernel
theorem dX8_clear_22 : decode cX8_clear 22 = .ok (.invokevirtual 192, 3) := by decide +kernel
theorem dX8_clear_25 : decode cX8_clear 25 = .ok (.aload_n 0, 1) := by decide +kernel
theorem dX8_clear_26 : decode cX8_clear 26 = .ok (.getfield 18, 3) := by decide +kernel
theorem dX8_clear_29 : decode cX8_clear 29 = .ok (.getfield 195, 3) := by decide +kernel
theorem dX8_clear_32 : decode cX8_clear 32 = .ok (.ireturn, 1) := by decide +kernel
theorem dX8_town_0 : decode cX8_town 0 = .ok (.aload_n 0, 1) := by decide +kernel
theorem dX8_town_1 : decode cX8_town 1 = .ok (.iload_n 1, 1) := by decide +kernel
theorem dX8_town_2 : decode cX8_town 2 = .ok (.invokevirtual 59, 3) := by decide +kernel
theorem dX8_town_5 : decode cX8_town 5 = .ok (.astore_n 2, 1) := by decide +kernel
theorem dX8_town_6 : decode cX8_town 6 = .ok (.aload_n 2, 1) := by decide +kernel
theorem dX8_town_7 : decode cX8_town 7 = .ok (.invokestatic 71, 3) := by decide +kernel
theorem dX8_town_10 : decode cX8_town 10 = .ok (.istore_n 3, 1) := by decide +kernel
theorem dX8_town_11 : decode cX8_town 11 = .ok (.aload_n 2, 1) := by decide +kernel
theorem dX8_town_12 : decode cX8_town 12 = .ok (.ifnull 7, 3) := by decide +kernel
theorem dX8_town_15 : decode cX8_town 15 = .ok (.iload_n 3, 1) := by decide +kernel
theorem dX8_town_16 : decode cX8_town 16 = .ok (.ifCond .eq 9, 3) := by decide +kernel
theorem dX8_town_19 : decode cX8_town 19 = .ok (.aload_n 0, 1) := by decide +kernel
theorem dX8_town_20 : decode cX8_town 20 = .ok (.iload_n 3, 1) := by decide +kernel
theorem dX8_town_21 : decode cX8_town 21 = .ok (.invokevirtual 63, 3) := by decide +kernel
theorem dX8_town_24 : decode cX8_town 24 = .ok (.ireturn, 1) := by decide +kernel
theorem dX8_town_25 : decode cX8_town 25 = .ok (.aload_n 0, 1) := by decide +kernel
theorem dX8_town_26 : decode cX8_town 26 = .ok (.getfield 22, 3) := by decide +kernel
theorem dX8_town_29 : decode cX8_town 29 = .ok (.aload_n 0, 1) := by decide +kernel
theorem dX8_town_30 : decode cX8_town 30 = .ok (.getfield 18, 3) := by decide +kernel
theorem dX8_town_33 : decode cX8_town 33 = .ok (.invokevirtual 198, 3) := by decide +kernel
theorem dX8_town_36 : decode cX8_town 36 = .ok (.new 202, 3) := by decide +kernel
theorem dX8_town_39 : decode cX8_town 39 = .ok (.dup, 1) := by decide +kernel
theorem dX8_town_40 : decode cX8_town 40 = .ok (.aload_n 2, 1) := by decide +kernel
theorem dX8_town_41 : decode cX8_town 41 = .ok (.aload_n 0, 1) := by decide +kernel
theorem dX8_town_42 : decode cX8_town 42 = .ok (.getfield 22, 3) := by decide +kernel
theorem dX8_town_45 : decode cX8_town 45 = .ok (.invokespecial 204, 3) := by decide +kernel
theorem dX8_town_48 : decode cX8_town 48 = .ok (.astore 4, 2) := by decide +kernel
theorem dX8_town_50 : decode cX8_town 50 = .ok (.aload 4, 2) := by decide +kernel
theorem dX8_town_52 : decode cX8_town 52 = .ok (.invokevirtual 207, 3) := by decide +kernel
theorem dX8_town_55 : decode cX8_town 55 = .ok (.istore 5, 2) := by decide +kernel
theorem dX8_town_57 : decode cX8_town 57 = .ok (.aload_n 0, 1) := by decide +kernel
theorem dX8_town_58 : decode cX8_town 58 = .ok (.aload 4, 2) := by decide +kernel
theorem dX8_town_60 : decode cX8_town 60 = .ok (.getfield 211, 3) := by decide +kernel
theorem dX8_town_63 : decode cX8_town 63 = .ok (.putfield 36, 3) := by decide +kernel
theorem dX8_town_66 : decode cX8_town 66 = .ok (.aload_n 0, 1) := by decide +kernel
theorem dX8_town_67 : decode cX8_town 67 = .ok (.getfield 36, 3) := by decide +kernel
theorem dX8_town_70 : decode cX8_town 70 = .ok (.iconst (-1), 1) := by decide +kernel
theorem dX8_town_71 : decode cX8_town 71 = .ok (.if_icmp .eq 10, 3) := by decide +kernel
theorem dX8_town_74 : decode cX8_town 74 = .ok (.aload_n 0, 1) := by decide +kernel
theorem dX8_town_75 : decode cX8_town 75 = .ok (.bipush (-6), 2) := by decide +kernel
theorem dX8_town_77 : decode cX8_town 77 = .ok (.invokevirtual 63, 3) := by decide +kernel
theorem dX8_town_80 : decode cX8_town 80 = .ok (.ireturn, 1) := by decide +kernel
theorem dX8_town_81 : decode cX8_town 81 = .ok (.aload_n 0, 1) := by decide +kernel
theorem dX8_town_82 : decode cX8_town 82 = .ok (.getfield 22, 3) := by decide +kernel
theorem dX8_town_85 : decode cX8_town 85 = .ok (.invokevirtual 214, 3) := by decide +kernel
theorem dX8_town_88 : decode cX8_town 88 = .ok (.aload_n 0, 1) := by decide +kernel
theorem dX8_town_89 : decode cX8_town 89 = .ok (.getfield 18, 3) := by decide +kernel
theorem dX8_town_92 : decode cX8_town 92 = .ok (.aload_n 0, 1) := by decide +kernel
theorem dX8_town_93 : decode cX8_town 93 = .ok (.getfield 22, 3) := by decide +kernel
theorem dX8_town_96 : decode cX8_town 96 = .ok (.invokevirtual 198, 3) := by decide +kernel
theorem dX8_town_99 : decode cX8_town 99 = .ok (.aload 4, 2) := by decide +kernel
theorem dX8_town_101 : decode cX8_town 101 = .ok (.getfield 217, 3) := by decide +kernel
theorem dX8_town_104 : decode cX8_town 104 = .ok (.ifCond .eq 8, 3) := by decide +kernel
theorem dX8_town_107 : decode cX8_town 107 = .ok (.aload_n 0, 1) := by decide +kernel
theorem dX8_town_108 : decode cX8_town 108 = .ok (.iconst 0, 1) := by decide +kernel
theorem dX8_town_109 : decode cX8_town 109 = .ok (.invokevirtual 127, 3) := by decide +kernel
theorem dX8_town_112 : decode cX8_town 112 = .ok (.iload 5, 2) := by decide +kernel
theorem dX8_town_114 : decode cX8_town 114 = .ok (.ireturn, 1) := by decide +kernel
theorem dX8_fault_0 : decode cX8_fault 0 = .ok (.aload_n 0, 1) := by decide +kernel
theorem dX8_fault_1 : decode cX8_fault 1 = .ok (.getfield 36, 3) := by decide +kernel
theorem dX8_fault_4 : decode cX8_fault 4 = .ok (.ireturn, 1) := by decide +kernel
theorem dX8_lost_0 : decode cX8_lost 0 = .ok (.iload_n 1, 1) := by decide +kernel
theorem dX8_lost_1 : decode cX8_lost 1 = .ok (.iconst (-1), 1) := by decide +kernel
theorem dX8_lost_2 : decode cX8_lost 2 = .ok (.if_icmp .eq 20, 3) := by decide +kernel
theorem dX8_lost_5 : decode cX8_lost 5 = .ok (.aload_n 0, 1) := by decide +kernel
theorem dX8_lost_6 : decode cX8_lost 6 = .ok (.getfield 18, 3) := by decide +kernel
theorem dX8_lost_9 : decode cX8_lost 9 = .ok (.iload_n 1, 1) := by decide +kernel
theorem dX8_lost_10 : decode cX8_lost 10 = .ok (.invokevirtual 130, 3) := by decide +kernel
theorem dX8_lost_13 : decode cX8_lost 13 = .ok (.ifCond .ne 9, 3) := by decide +kernel
theorem dX8_lost_16 : decode cX8_lost 16 = .ok (.aload_n 0, 1) := by decide +kernel
theorem dX8_lost_17 : decode cX8_lost 17 = .ok (.iconst (-1), 1) := by decide +kernel
theorem dX8_lost_18 : decode cX8_lost 18 = .ok (.invokevirtual 63, 3) := by decide +kernel
theorem dX8_lost_21 : decode cX8_lost 21 = .ok (.ireturn, 1) := by decide +kernel
theorem dX8_lost_22 : decode cX8_lost 22 = .ok (.aload_n 0, 1) := by decide +kernel
theorem dX8_lost_23 : decode cX8_lost 23 = .ok (.getfield 18, 3) := by decide +kernel
theorem dX8_lost_26 : decode cX8_lost 26 = .ok (.getfield 220, 3) := by decide +kernel
theorem dX8_lost_29 : decode cX8_lost 29 = .ok (.istore_n 2, 1) := by decide +kernel
theorem dX8_lost_30 : decode cX8_lost 30 = .ok (.iload_n 1, 1) := by decide +kernel
theorem dX8_lost_31 : decode cX8_lost 31 = .ok (.iconst (-1), 1) := by decide +kernel
theorem dX8_lost_32 : decode cX8_lost 32 = .ok (.if_icmp .ne 13, 3) := by decide +kernel
theorem dX8_lost_35 : decode cX8_lost 35 = .ok (.aload_n 0, 1) := by decide +kernel
theorem dX8_lost_36 : decode cX8_lost 36 = .ok (.getfield 18, 3) := by decide +kernel
theorem dX8_lost_39 : decode cX8_lost 39 = .ok (.invokevirtual 214, 3) := by decide +kernel
theorem dX8_lost_42 : decode cX8_lost 42 = .ok (.goto 11, 3) := by decide +kernel
theorem dX8_lost_45 : decode cX8_lost 45 = .ok (.aload_n 0, 1) := by decide +kernel
theorem dX8_lost_46 : decode cX8_lost 46 = .ok (.getfield 18, 3) := by decide +kernel
theorem dX8_lost_49 : decode cX8_lost 49 = .ok (.iload_n 1, 1) := by decide +kernel
theorem dX8_lost_50 : decode cX8_lost 50 = .ok (.invokevirtual 223, 3) := by decide +kernel
theorem dX8_lost_53 : decode cX8_lost 53 = .ok (.iload_n 2, 1) := by decide +kernel
theorem dX8_lost_54 : decode cX8_lost 54 = .ok (.ireturn, 1) := by decide +kernel
theorem dX8_odds_0 : decode cX8_odds 0 = .ok (.iload_n 1, 1) := by decide +kernel
theorem dX8_odds_1 : decode cX8_odds 1 = .ok (.iconst (-1), 1) := by decide +kernel
theorem dX8_odds_2 : decode cX8_odds 2 = .ok (.if_icmp .ne 14, 3) := by decide +kernel
theorem dX8_odds_5 : decode cX8_odds 5 = .ok (.aload_n 0, 1) := by decide +kernel
theorem dX8_odds_6 : decode cX8_odds 6 = .ok (.getfield 18, 3) := by decide +kernel
theorem dX8_odds_9 : decode cX8_odds 9 = .ok (.getfield 226, 3) := by decide +kernel
theorem dX8_odds_12 : decode cX8_odds 12 = .ok (.invokevirtual 230, 3) := by decide +kernel
theorem dX8_odds_15 : decode cX8_odds 15 = .ok (.lreturn, 1) := by decide +kernel
theorem dX8_odds_16 : decode cX8_odds 16 = .ok (.aload_n 0, 1) := by decide +kernel
theorem dX8_odds_17 : decode cX8_odds 17 = .ok (.getfield 18, 3) := by decide +kernel
theorem dX8_odds_20 : decode cX8_odds 20 = .ok (.iload_n 1, 1) := by decide +kernel
theorem dX8_odds_21 : decode cX8_odds 21 = .ok (.invokevirtual 130, 3) := by decide +kernel
theorem dX8_odds_24 : decode cX8_odds 24 = .ok (.ifCond .eq 17, 3) := by decide +kernel
theorem dX8_odds_27 : decode cX8_odds 27 = .ok (.aload_n 0, 1) := by decide +kernel
theorem dX8_odds_28 : decode cX8_odds 28 = .ok (.getfield 18, 3) := by decide +kernel
theorem dX8_odds_31 : decode cX8_odds 31 = .ok (.getfield 226, 3) := by decide +kernel
theorem dX8_odds_34 : decode cX8_odds 34 = .ok (.iload_n 1, 1) := by decide +kernel
theorem dX8_odds_35 : decode cX8_odds 35 = .ok (.invokevirtual 236, 3) := by decide +kernel
theorem dX8_odds_38 : decode cX8_odds 38 = .ok (.goto 9, 3) := by decide +kernel
theorem dX8_odds_41 : decode cX8_odds 41 = .ok (.aload_n 0, 1) := by decide +kernel
theorem dX8_odds_42 : decode cX8_odds 42 = .ok (.iconst (-1), 1) := by decide +kernel
theorem dX8_odds_43 : decode cX8_odds 43 = .ok (.invokevirtual 63, 3) := by decide +kernel
theorem dX8_odds_46 : decode cX8_odds 46 = .ok (.i2l, 1) := by decide +kernel
theorem dX8_odds_47 : decode cX8_odds 47 = .ok (.lreturn, 1) := by decide +kernel
theorem dX8_strength_0 : decode cX8_strength 0 = .ok (.aload_n 0, 1) := by decide +kernel
theorem dX8_strength_1 : decode cX8_strength 1 = .ok (.getfield 18, 3) := by decide +kernel
theorem dX8_strength_4 : decode cX8_strength 4 = .ok (.iload_n 1, 1) := by decide +kernel
theorem dX8_strength_5 : decode cX8_strength 5 = .ok (.invokevirtual 100, 3) := by decide +kernel
theorem dX8_strength_8 : decode cX8_strength 8 = .ok (.astore_n 3, 1) := by decide +kernel
theorem dX8_strength_9 : decode cX8_strength 9 = .ok (.aload_n 3, 1) := by decide +kernel
theorem dX8_strength_10 : decode cX8_strength 10 = .ok (.ifnull 14, 3) := by decide +kernel
theorem dX8_strength_13 : decode cX8_strength 13 = .ok (.aload_n 0, 1) := by decide +kernel
theorem dX8_strength_14 : decode cX8_strength 14 = .ok (.getfield 18, 3) := by decide +kernel
theorem dX8_strength_17 : decode cX8_strength 17 = .ok (.iload_n 2, 1) := by decide +kernel
theorem dX8_strength_18 : decode cX8_strength 18 = .ok (.invokevirtual 130, 3) := by decide +kernel
theorem dX8_strength_21 : decode cX8_strength 21 = .ok (.ifCond .ne 9, 3) := by decide +kernel
theorem dX8_strength_24 : decode cX8_strength 24 = .ok (.aload_n 0, 1) := by decide +kernel
theorem dX8_strength_25 : decode cX8_strength 25 = .ok (.iconst (-1), 1) := by decide +kernel
theorem dX8_strength_26 : decode cX8_strength 26 = .ok (.invokevirtual 63, 3) := by decide +kernel
theorem dX8_strength_29 : decode cX8_strength 29 = .ok (.ireturn, 1) := by decide +kernel
theorem dX8_strength_30 : decode cX8_strength 30 = .ok (.aload_n 0, 1) := by decide +kernel
theorem dX8_strength_31 : decode cX8_strength 31 = .ok (.getfield 18, 3) := by decide +kernel
theorem dX8_strength_34 : decode cX8_strength 34 = .ok (.aload_n 3, 1) := by decide +kernel
theorem dX8_strength_35 : decode cX8_strength 35 = .ok (.iload_n 2, 1) := by decide +kernel
theorem dX8_strength_36 : decode cX8_strength 36 = .ok (.invokevirtual 239, 3) := by decide +kernel
theorem dX8_strength_39 : decode cX8_strength 39 = .ok (.ireturn, 1) := by decide +kernel
theorem dX8_step_0 : decode cX8_step 0 = .ok (.aload_n 0, 1) := by decide +kernel
theorem dX8_step_1 : decode cX8_step 1 = .ok (.getfield 18, 3) := by decide +kernel
theorem dX8_step_4 : decode cX8_step 4 = .ok (.getfield 220, 3) := by decide +kernel
theorem dX8_step_7 : decode cX8_step 7 = .ok (.bipush 16, 2) := by decide +kernel
theorem dX8_step_9 : decode cX8_step 9 = .ok (.if_icmp .lt 10, 3) := by decide +kernel
theorem dX8_step_12 : decode cX8_step 12 = .ok (.aload_n 0, 1) := by decide +kernel
theorem dX8_step_13 : decode cX8_step 13 = .ok (.bipush (-7), 2) := by decide +kernel
theorem dX8_step_15 : decode cX8_step 15 = .ok (.invokevirtual 63, 3) := by decide +kernel
theorem dX8_step_18 : decode cX8_step 18 = .ok (.ireturn, 1) := by decide +kernel
theorem dX8_step_19 : decode cX8_step 19 = .ok (.aload_n 0, 1) := by decide +kernel
theorem dX8_step_20 : decode cX8_step 20 = .ok (.getfield 18, 3) := by decide +kernel
theorem dX8_step_23 : decode cX8_step 23 = .ok (.iload_n 1, 1) := by decide +kernel
theorem dX8_step_24 : decode cX8_step 24 = .ok (.invokevirtual 242, 3) := by decide +kernel
theorem dX8_step_27 : decode cX8_step 27 = .ok (.aload_n 0, 1) := by decide +kernel
theorem dX8_step_28 : decode cX8_step 28 = .ok (.getfield 18, 3) := by decide +kernel
theorem dX8_step_31 : decode cX8_step 31 = .ok (.getfield 220, 3) := by decide +kernel
theorem dX8_step_34 : decode cX8_step 34 = .ok (.ireturn, 1) := by decide +kernel
theorem dX8_feel_0 : decode cX8_feel 0 = .ok (.aload_n 0, 1) := by decide +kernel
theorem dX8_feel_1 : decode cX8_feel 1 = .ok (.getfield 18, 3) := by decide +kernel
theorem dX8_feel_4 : decode cX8_feel 4 = .ok (.iload_n 1, 1) := by decide +kernel
theorem dX8_feel_5 : decode cX8_feel 5 = .ok (.invokevirtual 100, 3) := by decide +kernel
theorem dX8_feel_8 : decode cX8_feel 8 = .ok (.astore_n 3, 1) := by decide +kernel
theorem dX8_feel_9 : decode cX8_feel 9 = .ok (.aload_n 3, 1) := by decide +kernel
theorem dX8_feel_10 : decode cX8_feel 10 = .ok (.ifnonnull 9, 3) := by decide +kernel
theorem dX8_feel_13 : decode cX8_feel 13 = .ok (.aload_n 0, 1) := by decide +kernel
theorem dX8_feel_14 : decode cX8_feel 14 = .ok (.iconst (-1), 1) := by decide +kernel
theorem dX8_feel_15 : decode cX8_feel 15 = .ok (.invokevirtual 63, 3) := by decide +kernel
theorem dX8_feel_18 : decode cX8_feel 18 = .ok (.ireturn, 1) := by decide +kernel
theorem dX8_feel_19 : decode cX8_feel 19 = .ok (.aload_n 0, 1) := by decide +kernel
theorem dX8_feel_20 : decode cX8_feel 20 = .ok (.getfield 18, 3) := by decide +kernel
theorem dX8_feel_23 : decode cX8_feel 23 = .ok (.aload_n 3, 1) := by decide +kernel
theorem dX8_feel_24 : decode cX8_feel 24 = .ok (.iload_n 2, 1) := by decide +kernel
theorem dX8_feel_25 : decode cX8_feel 25 = .ok (.invokevirtual 246, 3) := by decide +kernel
theorem dX8_feel_28 : decode cX8_feel 28 = .ok (.ifCond .ne 10, 3) := by decide +kernel
theorem dX8_feel_31 : decode cX8_feel 31 = .ok (.aload_n 0, 1) := by decide +kernel
theorem dX8_feel_32 : decode cX8_feel 32 = .ok (.bipush (-6), 2) := by decide +kernel
theorem dX8_feel_34 : decode cX8_feel 34 = .ok (.invokevirtual 63, 3) := by decide +kernel
theorem dX8_feel_37 : decode cX8_feel 37 = .ok (.ireturn, 1) := by decide +kernel
theorem dX8_feel_38 : decode cX8_feel 38 = .ok (.aload_n 0, 1) := by decide +kernel
theorem dX8_feel_39 : decode cX8_feel 39 = .ok (.getfield 18, 3) := by decide +kernel
theorem dX8_feel_42 : decode cX8_feel 42 = .ok (.getfield 220, 3) := by decide +kernel
theorem dX8_feel_45 : decode cX8_feel 45 = .ok (.bipush 16, 2) := by decide +kernel
theorem dX8_feel_47 : decode cX8_feel 47 = .ok (.if_icmp .lt 10, 3) := by decide +kernel
theorem dX8_feel_50 : decode cX8_feel 50 = .ok (.aload_n 0, 1) := by decide +kernel
theorem dX8_feel_51 : decode cX8_feel 51 = .ok (.bipush (-7), 2) := by decide +kernel
theorem dX8_feel_53 : decode cX8_feel 53 = .ok (.invokevirtual 63, 3) := by decide +kernel
theorem dX8_feel_56 : decode cX8_feel 56 = .ok (.ireturn, 1) := by decide +kernel
theorem dX8_feel_57 : decode cX8_feel 57 = .ok (.aload_n 0, 1) := by decide +kernel
theorem dX8_feel_58 : decode cX8_feel 58 = .ok (.getfield 18, 3) := by decide +kernel
theorem dX8_feel_61 : decode cX8_feel 61 = .ok (.aload_n 3, 1) := by decide +kernel
theorem dX8_feel_62 : decode cX8_feel 62 = .ok (.iload_n 2, 1) := by decide +kernel
theorem dX8_feel_63 : decode cX8_feel 63 = .ok (.invokevirtual 250, 3) := by decide +kernel
theorem dX8_feel_66 : decode cX8_feel 66 = .ok (.aload_n 0, 1) := by decide +kernel
theorem dX8_feel_67 : decode cX8_feel 67 = .ok (.getfield 18, 3) := by decide +kernel
theorem dX8_feel_70 : decode cX8_feel 70 = .ok (.getfield 220, 3) := by decide +kernel
theorem dX8_feel_73 : decode cX8_feel 73 = .ok (.ireturn, 1) := by decide +kernel
theorem dX8_where_0 : decode cX8_where 0 = .ok (.aload_n 0, 1) := by decide +kernel
theorem dX8_where_1 : decode cX8_where 1 = .ok (.getfield 18, 3) := by decide +kernel
theorem dX8_where_4 : decode cX8_where 4 = .ok (.getfield 226, 3) := by decide +kernel
theorem dX8_where_7 : decode cX8_where 7 = .ok (.invokevirtual 254, 3) := by decide +kernel
theorem dX8_where_10 : decode cX8_where 10 = .ok (.ireturn, 1) := by decide +kernel
theorem dX8_isLost_0 : decode cX8_isLost 0 = .ok (.aload_n 0, 1) := by decide +kernel
theorem dX8_isLost_1 : decode cX8_isLost 1 = .ok (.getfield 18, 3) := by decide +kernel
theorem dX8_isLost_4 : decode cX8_isLost 4 = .ok (.getfield 226, 3) := by decide +kernel
theorem dX8_isLost_7 : decode cX8_isLost 7 = .ok (.astore_n 1, 1) := by decide +kernel
theorem dX8_isLost_8 : decode cX8_isLost 8 = .ok (.ldc2_w 257, 3) := by decide +kernel
theorem dX8_isLost_11 : decode cX8_isLost 11 = .ok (.aload_n 1, 1) := by decide +kernel
theorem dX8_isLost_12 : decode cX8_isLost 12 = .ok (.aload_n 1, 1) := by decide +kernel
theorem dX8_isLost_13 : decode cX8_isLost 13 = .ok (.invokevirtual 254, 3) := by decide +kernel
theorem dX8_isLost_16 : decode cX8_isLost 16 = .ok (.invokevirtual 236, 3) := by decide +kernel
theorem dX8_isLost_19 : decode cX8_isLost 19 = .ok (.lmul, 1) := by decide +kernel
theorem dX8_isLost_20 : decode cX8_isLost 20 = .ok (.aload_n 1, 1) := by decide +kernel
theorem dX8_isLost_21 : decode cX8_isLost 21 = .ok (.invokevirtual 230, 3) := by decide +kernel
theorem dX8_isLost_24 : decode cX8_isLost 24 = .ok (.lcmp, 1) := by decide +kernel
theorem dX8_isLost_25 : decode cX8_isLost 25 = .ok (.ifCond .ge 7, 3) := by decide +kernel
theorem dX8_isLost_28 : decode cX8_isLost 28 = .ok (.iconst 1, 1) := by decide +kernel
theorem dX8_isLost_29 : decode cX8_isLost 29 = .ok (.goto 4, 3) := by decide +kernel
theorem dX8_isLost_32 : decode cX8_isLost 32 = .ok (.iconst 0, 1) := by decide +kernel
theorem dX8_isLost_33 : decode cX8_isLost 33 = .ok (.ireturn, 1) := by decide +kernel
theorem dX8_judge_0 : decode cX8_judge 0 = .ok (.aload_n 0, 1) := by decide +kernel
theorem dX8_judge_1 : decode cX8_judge 1 = .ok (.iload_n 1, 1) := by decide +kernel
theorem dX8_judge_2 : decode cX8_judge 2 = .ok (.invokevirtual 59, 3) := by decide +kernel
theorem dX8_judge_5 : decode cX8_judge 5 = .ok (.astore_n 3, 1) := by decide +kernel
theorem dX8_judge_6 : decode cX8_judge 6 = .ok (.aload_n 3, 1) := by decide +kernel
theorem dX8_judge_7 : decode cX8_judge 7 = .ok (.iload_n 2, 1) := by decide +kernel
theorem dX8_judge_8 : decode cX8_judge 8 = .ok (.invokestatic 259, 3) := by decide +kernel
theorem dX8_judge_11 : decode cX8_judge 11 = .ok (.istore 4, 2) := by decide +kernel
theorem dX8_judge_13 : decode cX8_judge 13 = .ok (.aload_n 3, 1) := by decide +kernel
theorem dX8_judge_14 : decode cX8_judge 14 = .ok (.ifnull 8, 3) := by decide +kernel
theorem dX8_judge_17 : decode cX8_judge 17 = .ok (.iload 4, 2) := by decide +kernel
theorem dX8_judge_19 : decode cX8_judge 19 = .ok (.ifCond .eq 10, 3) := by decide +kernel
theorem dX8_judge_22 : decode cX8_judge 22 = .ok (.aload_n 0, 1) := by decide +kernel
theorem dX8_judge_23 : decode cX8_judge 23 = .ok (.iload 4, 2) := by decide +kernel
theorem dX8_judge_25 : decode cX8_judge 25 = .ok (.invokevirtual 63, 3) := by decide +kernel
theorem dX8_judge_28 : decode cX8_judge 28 = .ok (.ireturn, 1) := by decide +kernel
theorem dX8_judge_29 : decode cX8_judge 29 = .ok (.aload_n 0, 1) := by decide +kernel
theorem dX8_judge_30 : decode cX8_judge 30 = .ok (.aload_n 3, 1) := by decide +kernel
theorem dX8_judge_31 : decode cX8_judge 31 = .ok (.iload_n 2, 1) := by decide +kernel
theorem dX8_judge_32 : decode cX8_judge 32 = .ok (.invokevirtual 263, 3) := by decide +kernel
theorem dX8_judge_35 : decode cX8_judge 35 = .ok (.ireturn, 1) := by decide +kernel
theorem dX8_told_0 : decode cX8_told 0 = .ok (.aload_n 0, 1) := by decide +kernel
theorem dX8_told_1 : decode cX8_told 1 = .ok (.iload_n 1, 1) := by decide +kernel
theorem dX8_told_2 : decode cX8_told 2 = .ok (.invokevirtual 59, 3) := by decide +kernel
theorem dX8_told_5 : decode cX8_told 5 = .ok (.astore_n 3, 1) := by decide +kernel
theorem dX8_told_6 : decode cX8_told 6 = .ok (.aload_n 3, 1) := by decide +kernel
theorem dX8_told_7 : decode cX8_told 7 = .ok (.iload_n 2, 1) := by decide +kernel
theorem dX8_told_8 : decode cX8_told 8 = .ok (.invokestatic 259, 3) := by decide +kernel
theorem dX8_told_11 : decode cX8_told 11 = .ok (.istore 4, 2) := by decide +kernel
theorem dX8_told_13 : decode cX8_told 13 = .ok (.aload_n 3, 1) := by decide +kernel
theorem dX8_told_14 : decode cX8_told 14 = .ok (.ifnull 8, 3) := by decide +kernel
theorem dX8_told_17 : decode cX8_told 17 = .ok (.iload 4, 2) := by decide +kernel
theorem dX8_told_19 : decode cX8_told 19 = .ok (.ifCond .eq 10, 3) := by decide +kernel
theorem dX8_told_22 : decode cX8_told 22 = .ok (.aload_n 0, 1) := by decide +kernel
theorem dX8_told_23 : decode cX8_told 23 = .ok (.iload 4, 2) := by decide +kernel
theorem dX8_told_25 : decode cX8_told 25 = .ok (.invokevirtual 63, 3) := by decide +kernel
theorem dX8_told_28 : decode cX8_told 28 = .ok (.ireturn, 1) := by decide +kernel
theorem dX8_told_29 : decode cX8_told 29 = .ok (.aload_n 0, 1) := by decide +kernel
theorem dX8_told_30 : decode cX8_told 30 = .ok (.aload_n 3, 1) := by decide +kernel
theorem dX8_told_31 : decode cX8_told 31 = .ok (.iload_n 2, 1) := by decide +kernel
theorem dX8_told_32 : decode cX8_told 32 = .ok (.invokevirtual 263, 3) := by decide +kernel
theorem dX8_told_35 : decode cX8_told 35 = .ok (.iconst (-1), 1) := by decide +kernel
theorem dX8_told_36 : decode cX8_told 36 = .ok (.if_icmp .eq 10, 3) := by decide +kernel
theorem dX8_told_39 : decode cX8_told 39 = .ok (.aload_n 0, 1) := by decide +kernel
theorem dX8_told_40 : decode cX8_told 40 = .ok (.bipush (-6), 2) := by decide +kernel
theorem dX8_told_42 : decode cX8_told 42 = .ok (.invokevirtual 63, 3) := by decide +kernel
theorem dX8_told_45 : decode cX8_told 45 = .ok (.ireturn, 1) := by decide +kernel
theorem dX8_told_46 : decode cX8_told 46 = .ok (.aload_n 0, 1) := by decide +kernel
theorem dX8_told_47 : decode cX8_told 47 = .ok (.getfield 22, 3) := by decide +kernel
theorem dX8_told_50 : decode cX8_told 50 = .ok (.getfield 226, 3) := by decide +kernel
theorem dX8_told_53 : decode cX8_told 53 = .ok (.invokevirtual 254, 3) := by decide +kernel
theorem dX8_told_56 : decode cX8_told 56 = .ok (.ireturn, 1) := by decide +kernel
theorem dX8_worth_0 : decode cX8_worth 0 = .ok (.iload_n 1, 1) := by decide +kernel
theorem dX8_worth_1 : decode cX8_worth 1 = .ok (.ifCond .lt 15, 3) := by decide +kernel
theorem dX8_worth_4 : decode cX8_worth 4 = .ok (.iload_n 1, 1) := by decide +kernel
theorem dX8_worth_5 : decode cX8_worth 5 = .ok (.aload_n 0, 1) := by decide +kernel
theorem dX8_worth_6 : decode cX8_worth 6 = .ok (.getfield 18, 3) := by decide +kernel
theorem dX8_worth_9 : decode cX8_worth 9 = .ok (.getfield 266, 3) := by decide +kernel
theorem dX8_worth_12 : decode cX8_worth 12 = .ok (.ishr, 1) := by decide +kernel
theorem dX8_worth_13 : decode cX8_worth 13 = .ok (.ifCond .eq 10, 3) := by decide +kernel
theorem dX8_worth_16 : decode cX8_worth 16 = .ok (.aload_n 0, 1) := by decide +kernel
theorem dX8_worth_17 : decode cX8_worth 17 = .ok (.iconst (-1), 1) := by decide +kernel
theorem dX8_worth_18 : decode cX8_worth 18 = .ok (.invokevirtual 63, 3) := by decide +kernel
theorem dX8_worth_21 : decode cX8_worth 21 = .ok (.i2l, 1) := by decide +kernel
theorem dX8_worth_22 : decode cX8_worth 22 = .ok (.lreturn, 1) := by decide +kernel
theorem dX8_worth_23 : decode cX8_worth 23 = .ok (.aload_n 0, 1) := by decide +kernel
theorem dX8_worth_24 : decode cX8_worth 24 = .ok (.getfield 18, 3) := by decide +kernel
theorem dX8_worth_27 : decode cX8_worth 27 = .ok (.getfield 220, 3) := by decide +kernel
theorem dX8_worth_30 : decode cX8_worth 30 = .ok (.iload_n 1, 1) := by decide +kernel
theorem dX8_worth_31 : decode cX8_worth 31 = .ok (.invokestatic 269, 3) := by decide +kernel
theorem dX8_worth_34 : decode cX8_worth 34 = .ok (.iadd, 1) := by decide +kernel
theorem dX8_worth_35 : decode cX8_worth 35 = .ok (.bipush 17, 2) := by decide +kernel
theorem dX8_worth_37 : decode cX8_worth 37 = .ok (.if_icmp .le 11, 3) := by decide +kernel
theorem dX8_worth_40 : decode cX8_worth 40 = .ok (.aload_n 0, 1) := by decide +kernel
theorem dX8_worth_41 : decode cX8_worth 41 = .ok (.bipush (-7), 2) := by decide +kernel
theorem dX8_worth_43 : decode cX8_worth 43 = .ok (.invokevirtual 63, 3) := by decide +kernel
theorem dX8_worth_46 : decode cX8_worth 46 = .ok (.i2l, 1) := by decide +kernel
theorem dX8_worth_47 : decode cX8_worth 47 = .ok (.lreturn, 1) := by decide +kernel
theorem dX8_worth_48 : decode cX8_worth 48 = .ok (.aload_n 0, 1) := by decide +kernel
theorem dX8_worth_49 : decode cX8_worth 49 = .ok (.getfield 43, 3) := by decide +kernel
theorem dX8_worth_52 : decode cX8_worth 52 = .ok (.aload_n 0, 1) := by decide +kernel
theorem dX8_worth_53 : decode cX8_worth 53 = .ok (.getfield 18, 3) := by decide +kernel
theorem dX8_worth_56 : decode cX8_worth 56 = .ok (.invokevirtual 274, 3) := by decide +kernel
theorem dX8_worth_59 : decode cX8_worth 59 = .ok (.aload_n 0, 1) := by decide +kernel
theorem dX8_worth_60 : decode cX8_worth 60 = .ok (.getfield 43, 3) := by decide +kernel
theorem dX8_worth_63 : decode cX8_worth 63 = .ok (.iload_n 1, 1) := by decide +kernel
theorem dX8_worth_64 : decode cX8_worth 64 = .ok (.invokevirtual 277, 3) := by decide +kernel
theorem dX8_worth_67 : decode cX8_worth 67 = .ok (.lreturn, 1) := by decide +kernel
theorem dX8_next_0 : decode cX8_next 0 = .ok (.aload_n 0, 1) := by decide +kernel
theorem dX8_next_1 : decode cX8_next 1 = .ok (.getfield 18, 3) := by decide +kernel
theorem dX8_next_4 : decode cX8_next 4 = .ok (.getfield 266, 3) := by decide +kernel
theorem dX8_next_7 : decode cX8_next 7 = .ok (.ifCond .ne 10, 3) := by decide +kernel
theorem dX8_next_10 : decode cX8_next 10 = .ok (.aload_n 0, 1) := by decide +kernel
theorem dX8_next_11 : decode cX8_next 11 = .ok (.bipush (-5), 2) := by decide +kernel
theorem dX8_next_13 : decode cX8_next 13 = .ok (.invokevirtual 63, 3) := by decide +kernel
theorem dX8_next_16 : decode cX8_next 16 = .ok (.ireturn, 1) := by decide +kernel
theorem dX8_next_17 : decode cX8_next 17 = .ok (.aload_n 0, 1) := by decide +kernel
theorem dX8_next_18 : decode cX8_next 18 = .ok (.getfield 18, 3) := by decide +kernel
theorem dX8_next_21 : decode cX8_next 21 = .ok (.getfield 220, 3) := by decide +kernel
theorem dX8_next_24 : decode cX8_next 24 = .ok (.iconst 1, 1) := by decide +kernel
theorem dX8_next_25 : decode cX8_next 25 = .ok (.iadd, 1) := by decide +kernel
theorem dX8_next_26 : decode cX8_next 26 = .ok (.bipush 17, 2) := by decide +kernel
theorem dX8_next_28 : decode cX8_next 28 = .ok (.if_icmp .le 10, 3) := by decide +kernel
theorem dX8_next_31 : decode cX8_next 31 = .ok (.aload_n 0, 1) := by decide +kernel
theorem dX8_next_32 : decode cX8_next 32 = .ok (.bipush (-7), 2) := by decide +kernel
theorem dX8_next_34 : decode cX8_next 34 = .ok (.invokevirtual 63, 3) := by decide +kernel
theorem dX8_next_37 : decode cX8_next 37 = .ok (.ireturn, 1) := by decide +kernel
theorem dX8_next_38 : decode cX8_next 38 = .ok (.aload_n 0, 1) := by decide +kernel
theorem dX8_next_39 : decode cX8_next 39 = .ok (.getfield 43, 3) := by decide +kernel
theorem dX8_next_42 : decode cX8_next 42 = .ok (.aload_n 0, 1) := by decide +kernel
theorem dX8_next_43 : decode cX8_next 43 = .ok (.getfield 18, 3) := by decide +kernel
theorem dX8_next_46 : decode cX8_next 46 = .ok (.invokevirtual 274, 3) := by decide +kernel
theorem dX8_next_49 : decode cX8_next 49 = .ok (.aload_n 0, 1) := by decide +kernel
theorem dX8_next_50 : decode cX8_next 50 = .ok (.getfield 43, 3) := by decide +kernel
theorem dX8_next_53 : decode cX8_next 53 = .ok (.invokevirtual 280, 3) := by decide +kernel
theorem dX8_next_56 : decode cX8_next 56 = .ok (.ireturn, 1) := by decide +kernel
theorem dX8_ahead_0 : decode cX8_ahead 0 = .ok (.aload_n 0, 1) := by decide +kernel
theorem dX8_ahead_1 : decode cX8_ahead 1 = .ok (.getfield 18, 3) := by decide +kernel
theorem dX8_ahead_4 : decode cX8_ahead 4 = .ok (.getfield 266, 3) := by decide +kernel
theorem dX8_ahead_7 : decode cX8_ahead 7 = .ok (.ifCond .ne 10, 3) := by decide +kernel
theorem dX8_ahead_10 : decode cX8_ahead 10 = .ok (.aload_n 0, 1) := by decide +kernel
theorem dX8_ahead_11 : decode cX8_ahead 11 = .ok (.bipush (-5), 2) := by decide +kernel
theorem dX8_ahead_13 : decode cX8_ahead 13 = .ok (.invokevirtual 63, 3) := by decide +kernel
theorem dX8_ahead_16 : decode cX8_ahead 16 = .ok (.ireturn, 1) := by decide +kernel
theorem dX8_ahead_17 : decode cX8_ahead 17 = .ok (.aload_n 0, 1) := by decide +kernel
theorem dX8_ahead_18 : decode cX8_ahead 18 = .ok (.getfield 18, 3) := by decide +kernel
theorem dX8_ahead_21 : decode cX8_ahead 21 = .ok (.getfield 220, 3) := by decide +kernel
theorem dX8_ahead_24 : decode cX8_ahead 24 = .ok (.iconst 2, 1) := by decide +kernel
theorem dX8_ahead_25 : decode cX8_ahead 25 = .ok (.iadd, 1) := by decide +kernel
theorem dX8_ahead_26 : decode cX8_ahead 26 = .ok (.bipush 17, 2) := by decide +kernel
theorem dX8_ahead_28 : decode cX8_ahead 28 = .ok (.if_icmp .le 10, 3) := by decide +kernel
theorem dX8_ahead_31 : decode cX8_ahead 31 = .ok (.aload_n 0, 1) := by decide +kernel
theorem dX8_ahead_32 : decode cX8_ahead 32 = .ok (.bipush (-7), 2) := by decide +kernel
theorem dX8_ahead_34 : decode cX8_ahead 34 = .ok (.invokevirtual 63, 3) := by decide +kernel
theorem dX8_ahead_37 : decode cX8_ahead 37 = .ok (.ireturn, 1) := by decide +kernel
theorem dX8_ahead_38 : decode cX8_ahead 38 = .ok (.aload_n 0, 1) := by decide +kernel
theorem dX8_ahead_39 : decode cX8_ahead 39 = .ok (.getfield 43, 3) := by decide +kernel
theorem dX8_ahead_42 : decode cX8_ahead 42 = .ok (.aload_n 0, 1) := by decide +kernel
theorem dX8_ahead_43 : decode cX8_ahead 43 = .ok (.getfield 18, 3) := by decide +kernel
theorem dX8_ahead_46 : decode cX8_ahead 46 = .ok (.invokevirtual 274, 3) := by decide +kernel
theorem dX8_ahead_49 : decode cX8_ahead 49 = .ok (.aload_n 0, 1) := by decide +kernel
theorem dX8_ahead_50 : decode cX8_ahead 50 = .ok (.getfield 43, 3) := by decide +kernel
theorem dX8_ahead_53 : decode cX8_ahead 53 = .ok (.invokevirtual 283, 3) := by decide +kernel
theorem dX8_ahead_56 : decode cX8_ahead 56 = .ok (.ireturn, 1) := by decide +kernel
theorem dX8_least_0 : decode cX8_least 0 = .ok (.iload_n 1, 1) := by decide +kernel
theorem dX8_least_1 : decode cX8_least 1 = .ok (.ifCond .lt 9, 3) := by decide +kernel
theorem dX8_least_4 : decode cX8_least 4 = .ok (.iload_n 1, 1) := by decide +kernel
theorem dX8_least_5 : decode cX8_least 5 = .ok (.bipush 10, 2) := by decide +kernel
theorem dX8_least_7 : decode cX8_least 7 = .ok (.if_icmp .le 13, 3) := by decide +kernel
theorem dX8_least_10 : decode cX8_least 10 = .ok (.aload_n 0, 1) := by decide +kernel
theorem dX8_least_11 : decode cX8_least 11 = .ok (.bipush (-6), 2) := by decide +kernel
theorem dX8_least_13 : decode cX8_least 13 = .ok (.invokevirtual 63, 3) := by decide +kernel
theorem dX8_least_16 : decode cX8_least 16 = .ok (.bipush (-10), 2) := by decide +kernel
theorem dX8_least_18 : decode cX8_least 18 = .ok (.iadd, 1) := by decide +kernel
theorem dX8_least_19 : decode cX8_least 19 = .ok (.ireturn, 1) := by decide +kernel
theorem dX8_least_20 : decode cX8_least 20 = .ok (.aload_n 0, 1) := by decide +kernel
theorem dX8_least_21 : decode cX8_least 21 = .ok (.getfield 18, 3) := by decide +kernel
theorem dX8_least_24 : decode cX8_least 24 = .ok (.getfield 220, 3) := by decide +kernel
theorem dX8_least_27 : decode cX8_least 27 = .ok (.bipush 9, 2) := by decide +kernel
theorem dX8_least_29 : decode cX8_least 29 = .ok (.if_icmp .le 13, 3) := by decide +kernel
theorem dX8_least_32 : decode cX8_least 32 = .ok (.aload_n 0, 1) := by decide +kernel
theorem dX8_least_33 : decode cX8_least 33 = .ok (.bipush (-7), 2) := by decide +kernel
theorem dX8_least_35 : decode cX8_least 35 = .ok (.invokevirtual 63, 3) := by decide +kernel
theorem dX8_least_38 : decode cX8_least 38 = .ok (.bipush (-10), 2) := by decide +kernel
theorem dX8_least_40 : decode cX8_least 40 = .ok (.iadd, 1) := by decide +kernel
theorem dX8_least_41 : decode cX8_least 41 = .ok (.ireturn, 1) := by decide +kernel
theorem dX8_least_42 : decode cX8_least 42 = .ok (.aload_n 0, 1) := by decide +kernel
theorem dX8_least_43 : decode cX8_least 43 = .ok (.getfield 43, 3) := by decide +kernel
theorem dX8_least_46 : decode cX8_least 46 = .ok (.aload_n 0, 1) := by decide +kernel
theorem dX8_least_47 : decode cX8_least 47 = .ok (.getfield 18, 3) := by decide +kernel
theorem dX8_least_50 : decode cX8_least 50 = .ok (.invokevirtual 274, 3) := by decide +kernel
theorem dX8_least_53 : decode cX8_least 53 = .ok (.aload_n 0, 1) := by decide +kernel
theorem dX8_least_54 : decode cX8_least 54 = .ok (.getfield 43, 3) := by decide +kernel
theorem dX8_least_57 : decode cX8_least 57 = .ok (.iload_n 1, 1) := by decide +kernel
theorem dX8_least_58 : decode cX8_least 58 = .ok (.aload_n 0, 1) := by decide +kernel
theorem dX8_least_59 : decode cX8_least 59 = .ok (.getfield 18, 3) := by decide +kernel
theorem dX8_least_62 : decode cX8_least 62 = .ok (.getfield 226, 3) := by decide +kernel
theorem dX8_least_65 : decode cX8_least 65 = .ok (.invokevirtual 230, 3) := by decide +kernel
theorem dX8_least_68 : decode cX8_least 68 = .ok (.invokevirtual 286, 3) := by decide +kernel
theorem dX8_least_71 : decode cX8_least 71 = .ok (.ireturn, 1) := by decide +kernel
theorem dX8_safe_0 : decode cX8_safe 0 = .ok (.aload_n 0, 1) := by decide +kernel
theorem dX8_safe_1 : decode cX8_safe 1 = .ok (.getfield 18, 3) := by decide +kernel
theorem dX8_safe_4 : decode cX8_safe 4 = .ok (.iload_n 1, 1) := by decide +kernel
theorem dX8_safe_5 : decode cX8_safe 5 = .ok (.invokevirtual 130, 3) := by decide +kernel
theorem dX8_safe_8 : decode cX8_safe 8 = .ok (.ifCond .eq 14, 3) := by decide +kernel
theorem dX8_safe_11 : decode cX8_safe 11 = .ok (.aload_n 0, 1) := by decide +kernel
theorem dX8_safe_12 : decode cX8_safe 12 = .ok (.getfield 18, 3) := by decide +kernel
theorem dX8_safe_15 : decode cX8_safe 15 = .ok (.iload_n 2, 1) := by decide +kernel
theorem dX8_safe_16 : decode cX8_safe 16 = .ok (.invokevirtual 130, 3) := by decide +kernel
theorem dX8_safe_19 : decode cX8_safe 19 = .ok (.ifCond .ne 10, 3) := by decide +kernel
theorem dX8_safe_22 : decode cX8_safe 22 = .ok (.aload_n 0, 1) := by decide +kernel
theorem dX8_safe_23 : decode cX8_safe 23 = .ok (.iconst (-1), 1) := by decide +kernel
theorem dX8_safe_24 : decode cX8_safe 24 = .ok (.invokevirtual 63, 3) := by decide +kernel
theorem dX8_safe_27 : decode cX8_safe 27 = .ok (.i2l, 1) := by decide +kernel
theorem dX8_safe_28 : decode cX8_safe 28 = .ok (.lreturn, 1) := by decide +kernel
theorem dX8_safe_29 : decode cX8_safe 29 = .ok (.aload_n 0, 1) := by decide +kernel
theorem dX8_safe_30 : decode cX8_safe 30 = .ok (.getfield 18, 3) := by decide +kernel
theorem dX8_safe_33 : decode cX8_safe 33 = .ok (.iload_n 1, 1) := by decide +kernel
theorem dX8_safe_34 : decode cX8_safe 34 = .ok (.iload_n 2, 1) := by decide +kernel
theorem dX8_safe_35 : decode cX8_safe 35 = .ok (.iconst 0, 1) := by decide +kernel
theorem dX8_safe_36 : decode cX8_safe 36 = .ok (.invokevirtual 290, 3) := by decide +kernel
theorem dX8_safe_39 : decode cX8_safe 39 = .ok (.lreturn, 1) := by decide +kernel
theorem dX8_first_0 : decode cX8_first 0 = .ok (.aload_n 0, 1) := by decide +kernel
theorem dX8_first_1 : decode cX8_first 1 = .ok (.getfield 18, 3) := by decide +kernel
theorem dX8_first_4 : decode cX8_first 4 = .ok (.iload_n 1, 1) := by decide +kernel
theorem dX8_first_5 : decode cX8_first 5 = .ok (.invokevirtual 130, 3) := by decide +kernel
theorem dX8_first_8 : decode cX8_first 8 = .ok (.ifCond .eq 14, 3) := by decide +kernel
theorem dX8_first_11 : decode cX8_first 11 = .ok (.aload_n 0, 1) := by decide +kernel
theorem dX8_first_12 : decode cX8_first 12 = .ok (.getfield 18, 3) := by decide +kernel
theorem dX8_first_15 : decode cX8_first 15 = .ok (.iload_n 2, 1) := by decide +kernel
theorem dX8_first_16 : decode cX8_first 16 = .ok (.invokevirtual 130, 3) := by decide +kernel
theorem dX8_first_19 : decode cX8_first 19 = .ok (.ifCond .ne 9, 3) := by decide +kernel
theorem dX8_first_22 : decode cX8_first 22 = .ok (.aload_n 0, 1) := by decide +kernel
theorem dX8_first_23 : decode cX8_first 23 = .ok (.iconst (-1), 1) := by decide +kernel
theorem dX8_first_24 : decode cX8_first 24 = .ok (.invokevirtual 63, 3) := by decide +kernel
theorem dX8_first_27 : decode cX8_first 27 = .ok (.ireturn, 1) := by decide +kernel
theorem dX8_first_28 : decode cX8_first 28 = .ok (.aload_n 0, 1) := by decide +kernel
theorem dX8_first_29 : decode cX8_first 29 = .ok (.getfield 18, 3) := by decide +kernel
theorem dX8_first_32 : decode cX8_first 32 = .ok (.iload_n 1, 1) := by decide +kernel
theorem dX8_first_33 : decode cX8_first 33 = .ok (.iload_n 2, 1) := by decide +kernel
theorem dX8_first_34 : decode cX8_first 34 = .ok (.iconst 0, 1) := by decide +kernel
theorem dX8_first_35 : decode cX8_first 35 = .ok (.invokevirtual 294, 3) := by decide +kernel
theorem dX8_first_38 : decode cX8_first 38 = .ok (.istore_n 3, 1) := by decide +kernel
theorem dX8_first_39 : decode cX8_first 39 = .ok (.iload_n 3, 1) := by decide +kernel
theorem dX8_first_40 : decode cX8_first 40 = .ok (.iconst (-1), 1) := by decide +kernel
theorem dX8_first_41 : decode cX8_first 41 = .ok (.if_icmp .ne 12, 3) := by decide +kernel
theorem dX8_first_44 : decode cX8_first 44 = .ok (.aload_n 0, 1) := by decide +kernel
theorem dX8_first_45 : decode cX8_first 45 = .ok (.bipush (-5), 2) := by decide +kernel
theorem dX8_first_47 : decode cX8_first 47 = .ok (.invokevirtual 63, 3) := by decide +kernel
theorem dX8_first_50 : decode cX8_first 50 = .ok (.goto 4, 3) := by decide +kernel
theorem dX8_first_53 : decode cX8_first 53 = .ok (.iload_n 3, 1) := by decide +kernel
theorem dX8_first_54 : decode cX8_first 54 = .ok (.ireturn, 1) := by decide +kernel
theorem dX8_order_0 : decode cX8_order 0 = .ok (.aload_n 0, 1) := by decide +kernel
theorem dX8_order_1 : decode cX8_order 1 = .ok (.getfield 18, 3) := by decide +kernel
theorem dX8_order_4 : decode cX8_order 4 = .ok (.iload_n 1, 1) := by decide +kernel
theorem dX8_order_5 : decode cX8_order 5 = .ok (.invokevirtual 130, 3) := by decide +kernel
theorem dX8_order_8 : decode cX8_order 8 = .ok (.ifCond .eq 14, 3) := by decide +kernel
theorem dX8_order_11 : decode cX8_order 11 = .ok (.aload_n 0, 1) := by decide +kernel
theorem dX8_order_12 : decode cX8_order 12 = .ok (.getfield 18, 3) := by decide +kernel
theorem dX8_order_15 : decode cX8_order 15 = .ok (.iload_n 2, 1) := by decide +kernel
theorem dX8_order_16 : decode cX8_order 16 = .ok (.invokevirtual 130, 3) := by decide +kernel
theorem dX8_order_19 : decode cX8_order 19 = .ok (.ifCond .ne 9, 3) := by decide +kernel
theorem dX8_order_22 : decode cX8_order 22 = .ok (.aload_n 0, 1) := by decide +kernel
theorem dX8_order_23 : decode cX8_order 23 = .ok (.iconst (-1), 1) := by decide +kernel
theorem dX8_order_24 : decode cX8_order 24 = .ok (.invokevirtual 63, 3) := by decide +kernel
theorem dX8_order_27 : decode cX8_order 27 = .ok (.ireturn, 1) := by decide +kernel
theorem dX8_order_28 : decode cX8_order 28 = .ok (.aload_n 0, 1) := by decide +kernel
theorem dX8_order_29 : decode cX8_order 29 = .ok (.getfield 18, 3) := by decide +kernel
theorem dX8_order_32 : decode cX8_order 32 = .ok (.iload_n 1, 1) := by decide +kernel
theorem dX8_order_33 : decode cX8_order 33 = .ok (.iload_n 2, 1) := by decide +kernel
theorem dX8_order_34 : decode cX8_order 34 = .ok (.iload_n 3, 1) := by decide +kernel
theorem dX8_order_35 : decode cX8_order 35 = .ok (.invokevirtual 298, 3) := by decide +kernel
theorem dX8_order_38 : decode cX8_order 38 = .ok (.istore 4, 2) := by decide +kernel
theorem dX8_order_40 : decode cX8_order 40 = .ok (.iload 4, 2) := by decide +kernel
theorem dX8_order_42 : decode cX8_order 42 = .ok (.iconst (-1), 1) := by decide +kernel
theorem dX8_order_43 : decode cX8_order 43 = .ok (.if_icmp .ne 12, 3) := by decide +kernel
theorem dX8_order_46 : decode cX8_order 46 = .ok (.aload_n 0, 1) := by decide +kernel
theorem dX8_order_47 : decode cX8_order 47 = .ok (.bipush (-5), 2) := by decide +kernel
theorem dX8_order_49 : decode cX8_order 49 = .ok (.invokevirtual 63, 3) := by decide +kernel
theorem dX8_order_52 : decode cX8_order 52 = .ok (.goto 5, 3) := by decide +kernel
theorem dX8_order_55 : decode cX8_order 55 = .ok (.iload 4, 2) := by decide +kernel
theorem dX8_order_57 : decode cX8_order 57 = .ok (.ireturn, 1) := by decide +kernel
theorem dX8_over_0 : decode cX8_over 0 = .ok (.iload_n 1, 1) := by decide +kernel
theorem dX8_over_1 : decode cX8_over 1 = .ok (.iconst 1, 1) := by decide +kernel
theorem dX8_over_2 : decode cX8_over 2 = .ok (.if_icmp .lt 44, 3) := by decide +kernel
theorem dX8_over_5 : decode cX8_over 5 = .ok (.iload_n 1, 1) := by decide +kernel
theorem dX8_over_6 : decode cX8_over 6 = .ok (.bipush 9, 2) := by decide +kernel
theorem dX8_over_8 : decode cX8_over 8 = .ok (.if_icmp .gt 38, 3) := by decide +kernel
theorem dX8_over_11 : decode cX8_over 11 = .ok (.iload_n 2, 1) := by decide +kernel
theorem dX8_over_12 : decode cX8_over 12 = .ok (.ifCond .lt 34, 3) := by decide +kernel
theorem dX8_over_15 : decode cX8_over 15 = .ok (.iload_n 2, 1) := by decide +kernel
theorem dX8_over_16 : decode cX8_over 16 = .ok (.bipush 10, 2) := by decide +kernel
theorem dX8_over_18 : decode cX8_over 18 = .ok (.if_icmp .gt 28, 3) := by decide +kernel
theorem dX8_over_21 : decode cX8_over 21 = .ok (.iload_n 3, 1) := by decide +kernel
theorem dX8_over_22 : decode cX8_over 22 = .ok (.ifCond .lt 24, 3) := by decide +kernel
theorem dX8_over_25 : decode cX8_over 25 = .ok (.iload_n 3, 1) := by decide +kernel
theorem dX8_over_26 : decode cX8_over 26 = .ok (.bipush 10, 2) := by decide +kernel
theorem dX8_over_28 : decode cX8_over 28 = .ok (.iload_n 2, 1) := by decide +kernel
theorem dX8_over_29 : decode cX8_over 29 = .ok (.isub, 1) := by decide +kernel
theorem dX8_over_30 : decode cX8_over 30 = .ok (.if_icmp .gt 16, 3) := by decide +kernel
theorem dX8_over_33 : decode cX8_over 33 = .ok (.iload 4, 2) := by decide +kernel
theorem dX8_over_35 : decode cX8_over 35 = .ok (.iload_n 1, 1) := by decide +kernel
theorem dX8_over_36 : decode cX8_over 36 = .ok (.ineg, 1) := by decide +kernel
theorem dX8_over_37 : decode cX8_over 37 = .ok (.if_icmp .lt 9, 3) := by decide +kernel
theorem dX8_over_40 : decode cX8_over 40 = .ok (.iload 4, 2) := by decide +kernel
theorem dX8_over_42 : decode cX8_over 42 = .ok (.iload_n 1, 1) := by decide +kernel
theorem dX8_over_43 : decode cX8_over 43 = .ok (.if_icmp .le 10, 3) := by decide +kernel
theorem dX8_over_46 : decode cX8_over 46 = .ok (.aload_n 0, 1) := by decide +kernel
theorem dX8_over_47 : decode cX8_over 47 = .ok (.bipush (-6), 2) := by decide +kernel
theorem dX8_over_49 : decode cX8_over 49 = .ok (.invokevirtual 63, 3) := by decide +kernel
theorem dX8_over_52 : decode cX8_over 52 = .ok (.ireturn, 1) := by decide +kernel
theorem dX8_over_53 : decode cX8_over 53 = .ok (.aload_n 0, 1) := by decide +kernel
theorem dX8_over_54 : decode cX8_over 54 = .ok (.iload_n 1, 1) := by decide +kernel
theorem dX8_over_55 : decode cX8_over 55 = .ok (.iload_n 2, 1) := by decide +kernel
theorem dX8_over_56 : decode cX8_over 56 = .ok (.iload_n 3, 1) := by decide +kernel
theorem dX8_over_57 : decode cX8_over 57 = .ok (.iload 4, 2) := by decide +kernel
theorem dX8_over_59 : decode cX8_over 59 = .ok (.invokevirtual 301, 3) := by decide +kernel
theorem dX8_over_62 : decode cX8_over 62 = .ok (.l2i, 1) := by decide +kernel
theorem dX8_over_63 : decode cX8_over 63 = .ok (.ireturn, 1) := by decide +kernel
theorem dX8_learnt_0 : decode cX8_learnt 0 = .ok (.iload_n 1, 1) := by decide +kernel
theorem dX8_learnt_1 : decode cX8_learnt 1 = .ok (.ifCond .lt 19, 3) := by decide +kernel
theorem dX8_learnt_4 : decode cX8_learnt 4 = .ok (.iload_n 1, 1) := by decide +kernel
theorem dX8_learnt_5 : decode cX8_learnt 5 = .ok (.bipush 99, 2) := by decide +kernel
theorem dX8_learnt_7 : decode cX8_learnt 7 = .ok (.if_icmp .gt 13, 3) := by decide +kernel
theorem dX8_learnt_10 : decode cX8_learnt 10 = .ok (.iload_n 2, 1) := by decide +kernel
theorem dX8_learnt_11 : decode cX8_learnt 11 = .ok (.ifCond .lt 9, 3) := by decide +kernel
theorem dX8_learnt_14 : decode cX8_learnt 14 = .ok (.iload_n 2, 1) := by decide +kernel
theorem dX8_learnt_15 : decode cX8_learnt 15 = .ok (.bipush 99, 2) := by decide +kernel
theorem dX8_learnt_17 : decode cX8_learnt 17 = .ok (.if_icmp .le 10, 3) := by decide +kernel
theorem dX8_learnt_20 : decode cX8_learnt 20 = .ok (.aload_n 0, 1) := by decide +kernel
theorem dX8_learnt_21 : decode cX8_learnt 21 = .ok (.bipush (-6), 2) := by decide +kernel
theorem dX8_learnt_23 : decode cX8_learnt 23 = .ok (.invokevirtual 63, 3) := by decide +kernel
theorem dX8_learnt_26 : decode cX8_learnt 26 = .ok (.ireturn, 1) := by decide +kernel
theorem dX8_learnt_27 : decode cX8_learnt 27 = .ok (.iload_n 1, 1) := by decide +kernel
theorem dX8_learnt_28 : decode cX8_learnt 28 = .ok (.iload_n 2, 1) := by decide +kernel
theorem dX8_learnt_29 : decode cX8_learnt 29 = .ok (.invokestatic 305, 3) := by decide +kernel
theorem dX8_learnt_32 : decode cX8_learnt 32 = .ok (.ireturn, 1) := by decide +kernel
theorem dX8_goings_0 : decode cX8_goings 0 = .ok (.iload_n 1, 1) := by decide +kernel
theorem dX8_goings_1 : decode cX8_goings 1 = .ok (.ifCond .lt 19, 3) := by decide +kernel
theorem dX8_goings_4 : decode cX8_goings 4 = .ok (.iload_n 1, 1) := by decide +kernel
theorem dX8_goings_5 : decode cX8_goings 5 = .ok (.bipush 100, 2) := by decide +kernel
theorem dX8_goings_7 : decode cX8_goings 7 = .ok (.if_icmp .gt 13, 3) := by decide +kernel
theorem dX8_goings_10 : decode cX8_goings 10 = .ok (.iload_n 2, 1) := by decide +kernel
theorem dX8_goings_11 : decode cX8_goings 11 = .ok (.ifCond .lt 9, 3) := by decide +kernel
theorem dX8_goings_14 : decode cX8_goings 14 = .ok (.iload_n 2, 1) := by decide +kernel
theorem dX8_goings_15 : decode cX8_goings 15 = .ok (.bipush 99, 2) := by decide +kernel
theorem dX8_goings_17 : decode cX8_goings 17 = .ok (.if_icmp .le 13, 3) := by decide +kernel
theorem dX8_goings_20 : decode cX8_goings 20 = .ok (.aload_n 0, 1) := by decide +kernel
theorem dX8_goings_21 : decode cX8_goings 21 = .ok (.bipush (-6), 2) := by decide +kernel
theorem dX8_goings_23 : decode cX8_goings 23 = .ok (.invokevirtual 63, 3) := by decide +kernel
theorem dX8_goings_26 : decode cX8_goings 26 = .ok (.bipush (-10), 2) := by decide +kernel
theorem dX8_goings_28 : decode cX8_goings 28 = .ok (.iadd, 1) := by decide +kernel
theorem dX8_goings_29 : decode cX8_goings 29 = .ok (.ireturn, 1) := by decide +kernel
theorem dX8_goings_30 : decode cX8_goings 30 = .ok (.iconst 0, 1) := by decide +kernel
theorem dX8_goings_31 : decode cX8_goings 31 = .ok (.istore_n 3, 1) := by decide +kernel
theorem dX8_goings_32 : decode cX8_goings 32 = .ok (.iload_n 3, 1) := by decide +kernel
theorem dX8_goings_33 : decode cX8_goings 33 = .ok (.bipush 99, 2) := by decide +kernel
theorem dX8_goings_35 : decode cX8_goings 35 = .ok (.if_icmp .gt 20, 3) := by decide +kernel
theorem dX8_goings_38 : decode cX8_goings 38 = .ok (.iload_n 3, 1) := by decide +kernel
theorem dX8_goings_39 : decode cX8_goings 39 = .ok (.iload_n 2, 1) := by decide +kernel
theorem dX8_goings_40 : decode cX8_goings 40 = .ok (.invokestatic 305, 3) := by decide +kernel
theorem dX8_goings_43 : decode cX8_goings 43 = .ok (.iload_n 1, 1) := by decide +kernel
theorem dX8_goings_44 : decode cX8_goings 44 = .ok (.if_icmp .lt 5, 3) := by decide +kernel
theorem dX8_goings_47 : decode cX8_goings 47 = .ok (.iload_n 3, 1) := by decide +kernel
theorem dX8_goings_48 : decode cX8_goings 48 = .ok (.ireturn, 1) := by decide +kernel
theorem dX8_goings_49 : decode cX8_goings 49 = .ok (.iinc 3 1, 3) := by decide +kernel
theorem dX8_goings_52 : decode cX8_goings 52 = .ok (.goto (-20), 3) := by decide +kernel
theorem dX8_goings_55 : decode cX8_goings 55 = .ok (.iconst (-1), 1) := by decide +kernel
theorem dX8_goings_56 : decode cX8_goings 56 = .ok (.ireturn, 1) := by decide +kernel
theorem dX8_begin_0 : decode cX8_begin 0 = .ok (.aload_n 0, 1) := by decide +kernel
theorem dX8_begin_1 : decode cX8_begin 1 = .ok (.getfield 18, 3) := by decide +kernel
theorem dX8_begin_4 : decode cX8_begin 4 = .ok (.iload_n 1, 1) := by decide +kernel
theorem dX8_begin_5 : decode cX8_begin 5 = .ok (.invokevirtual 130, 3) := by decide +kernel
theorem dX8_begin_8 : decode cX8_begin 8 = .ok (.ifCond .ne 9, 3) := by decide +kernel
theorem dX8_begin_11 : decode cX8_begin 11 = .ok (.aload_n 0, 1) := by decide +kernel
theorem dX8_begin_12 : decode cX8_begin 12 = .ok (.iconst (-1), 1) := by decide +kernel
theorem dX8_begin_13 : decode cX8_begin 13 = .ok (.invokevirtual 63, 3) := by decide +kernel
theorem dX8_begin_16 : decode cX8_begin 16 = .ok (.ireturn, 1) := by decide +kernel
theorem dX8_begin_17 : decode cX8_begin 17 = .ok (.aload_n 0, 1) := by decide +kernel
theorem dX8_begin_18 : decode cX8_begin 18 = .ok (.getfield 18, 3) := by decide +kernel
theorem dX8_begin_21 : decode cX8_begin 21 = .ok (.getfield 309, 3) := by decide +kernel
theorem dX8_begin_24 : decode cX8_begin 24 = .ok (.istore_n 2, 1) := by decide +kernel
theorem dX8_begin_25 : decode cX8_begin 25 = .ok (.aload_n 0, 1) := by decide +kernel
theorem dX8_begin_26 : decode cX8_begin 26 = .ok (.getfield 18, 3) := by decide +kernel
theorem dX8_begin_29 : decode cX8_begin 29 = .ok (.iload_n 1, 1) := by decide +kernel
theorem dX8_begin_30 : decode cX8_begin 30 = .ok (.putfield 309, 3) := by decide +kernel
theorem dX8_begin_33 : decode cX8_begin 33 = .ok (.iload_n 2, 1) := by decide +kernel
theorem dX8_begin_34 : decode cX8_begin 34 = .ok (.ireturn, 1) := by decide +kernel
theorem dX8_goes_0 : decode cX8_goes 0 = .ok (.aload_n 0, 1) := by decide +kernel
theorem dX8_goes_1 : decode cX8_goes 1 = .ok (.getfield 18, 3) := by decide +kernel
theorem dX8_goes_4 : decode cX8_goes 4 = .ok (.getfield 309, 3) := by decide +kernel
theorem dX8_goes_7 : decode cX8_goes 7 = .ok (.iconst (-1), 1) := by decide +kernel
theorem dX8_goes_8 : decode cX8_goes 8 = .ok (.if_icmp .ne 10, 3) := by decide +kernel
theorem dX8_goes_11 : decode cX8_goes 11 = .ok (.aload_n 0, 1) := by decide +kernel
theorem dX8_goes_12 : decode cX8_goes 12 = .ok (.bipush (-6), 2) := by decide +kernel
theorem dX8_goes_14 : decode cX8_goes 14 = .ok (.invokevirtual 63, 3) := by decide +kernel
theorem dX8_goes_17 : decode cX8_goes 17 = .ok (.ireturn, 1) := by decide +kernel
theorem dX8_goes_18 : decode cX8_goes 18 = .ok (.aload_n 0, 1) := by decide +kernel
theorem dX8_goes_19 : decode cX8_goes 19 = .ok (.getfield 18, 3) := by decide +kernel
theorem dX8_goes_22 : decode cX8_goes 22 = .ok (.getfield 220, 3) := by decide +kernel
theorem dX8_goes_25 : decode cX8_goes 25 = .ok (.bipush 16, 2) := by decide +kernel
theorem dX8_goes_27 : decode cX8_goes 27 = .ok (.if_icmp .lt 10, 3) := by decide +kernel
theorem dX8_goes_30 : decode cX8_goes 30 = .ok (.aload_n 0, 1) := by decide +kernel
theorem dX8_goes_31 : decode cX8_goes 31 = .ok (.bipush (-7), 2) := by decide +kernel
theorem dX8_goes_33 : decode cX8_goes 33 = .ok (.invokevirtual 63, 3) := by decide +kernel
theorem dX8_goes_36 : decode cX8_goes 36 = .ok (.ireturn, 1) := by decide +kernel
theorem dX8_goes_37 : decode cX8_goes 37 = .ok (.aload_n 0, 1) := by decide +kernel
theorem dX8_goes_38 : decode cX8_goes 38 = .ok (.getfield 18, 3) := by decide +kernel
theorem dX8_goes_41 : decode cX8_goes 41 = .ok (.aload_n 0, 1) := by decide +kernel
theorem dX8_goes_42 : decode cX8_goes 42 = .ok (.getfield 18, 3) := by decide +kernel
theorem dX8_goes_45 : decode cX8_goes 45 = .ok (.getfield 312, 3) := by decide +kernel
theorem dX8_goes_48 : decode cX8_goes 48 = .ok (.invokestatic 315, 3) := by decide +kernel
theorem dX8_goes_51 : decode cX8_goes 51 = .ok (.putfield 312, 3) := by decide +kernel
theorem dX8_goes_54 : decode cX8_goes 54 = .ok (.aload_n 0, 1) := by decide +kernel
theorem dX8_goes_55 : decode cX8_goes 55 = .ok (.getfield 18, 3) := by decide +kernel
theorem dX8_goes_58 : decode cX8_goes 58 = .ok (.getfield 312, 3) := by decide +kernel
theorem dX8_goes_61 : decode cX8_goes 61 = .ok (.invokestatic 318, 3) := by decide +kernel
theorem dX8_goes_64 : decode cX8_goes 64 = .ok (.istore_n 2, 1) := by decide +kernel
theorem dX8_goes_65 : decode cX8_goes 65 = .ok (.iload_n 2, 1) := by decide +kernel
theorem dX8_goes_66 : decode cX8_goes 66 = .ok (.aload_n 0, 1) := by decide +kernel
theorem dX8_goes_67 : decode cX8_goes 67 = .ok (.getfield 18, 3) := by decide +kernel
theorem dX8_goes_70 : decode cX8_goes 70 = .ok (.getfield 152, 3) := by decide +kernel
theorem dX8_goes_73 : decode cX8_goes 73 = .ok (.if_icmp .ge 7, 3) := by decide +kernel
theorem dX8_goes_76 : decode cX8_goes 76 = .ok (.iconst 0, 1) := by decide +kernel
theorem dX8_goes_77 : decode cX8_goes 77 = .ok (.goto 27, 3) := by decide +kernel
theorem dX8_goes_80 : decode cX8_goes 80 = .ok (.iload_n 2, 1) := by decide +kernel
theorem dX8_goes_81 : decode cX8_goes 81 = .ok (.aload_n 0, 1) := by decide +kernel
theorem dX8_goes_82 : decode cX8_goes 82 = .ok (.getfield 18, 3) := by decide +kernel
theorem dX8_goes_85 : decode cX8_goes 85 = .ok (.getfield 152, 3) := by decide +kernel
theorem dX8_goes_88 : decode cX8_goes 88 = .ok (.aload_n 0, 1) := by decide +kernel
theorem dX8_goes_89 : decode cX8_goes 89 = .ok (.getfield 18, 3) := by decide +kernel
theorem dX8_goes_92 : decode cX8_goes 92 = .ok (.getfield 155, 3) := by decide +kernel
theorem dX8_goes_95 : decode cX8_goes 95 = .ok (.iadd, 1) := by decide +kernel
theorem dX8_goes_96 : decode cX8_goes 96 = .ok (.if_icmp .ge 7, 3) := by decide +kernel
theorem dX8_goes_99 : decode cX8_goes 99 = .ok (.iconst 2, 1) := by decide +kernel
theorem dX8_goes_100 : decode cX8_goes 100 = .ok (.goto 4, 3) := by decide +kernel
theorem dX8_goes_103 : decode cX8_goes 103 = .ok (.iconst 1, 1) := by decide +kernel
theorem dX8_goes_104 : decode cX8_goes 104 = .ok (.istore_n 3, 1) := by decide +kernel
theorem dX8_goes_105 : decode cX8_goes 105 = .ok (.aload_n 0, 1) := by decide +kernel
theorem dX8_goes_106 : decode cX8_goes 106 = .ok (.getfield 18, 3) := by decide +kernel
theorem dX8_goes_109 : decode cX8_goes 109 = .ok (.aload_n 0, 1) := by decide +kernel
theorem dX8_goes_110 : decode cX8_goes 110 = .ok (.getfield 18, 3) := by decide +kernel
theorem dX8_goes_113 : decode cX8_goes 113 = .ok (.aload_n 0, 1) := by decide +kernel
theorem dX8_goes_114 : decode cX8_goes 114 = .ok (.getfield 18, 3) := by decide +kernel
theorem dX8_goes_117 : decode cX8_goes 117 = .ok (.getfield 309, 3) := by decide +kernel
theorem dX8_goes_120 : decode cX8_goes 120 = .ok (.iload_n 1, 1) := by decide +kernel
theorem dX8_goes_121 : decode cX8_goes 121 = .ok (.ifCond .eq 8, 3) := by decide +kernel
theorem dX8_goes_124 : decode cX8_goes 124 = .ok (.iload_n 3, 1) := by decide +kernel
theorem dX8_goes_125 : decode cX8_goes 125 = .ok (.ineg, 1) := by decide +kernel
theorem dX8_goes_126 : decode cX8_goes 126 = .ok (.goto 4, 3) := by decide +kernel
theorem dX8_goes_129 : decode cX8_goes 129 = .ok (.iload_n 3, 1) := by decide +kernel
theorem dX8_goes_130 : decode cX8_goes 130 = .ok (.invokevirtual 321, 3) := by decide +kernel
theorem dX8_goes_133 : decode cX8_goes 133 = .ok (.putfield 309, 3) := by decide +kernel
theorem dX8_goes_136 : decode cX8_goes 136 = .ok (.aload_n 0, 1) := by decide +kernel
theorem dX8_goes_137 : decode cX8_goes 137 = .ok (.getfield 18, 3) := by decide +kernel
theorem dX8_goes_140 : decode cX8_goes 140 = .ok (.iload_n 1, 1) := by decide +kernel
theorem dX8_goes_141 : decode cX8_goes 141 = .ok (.invokevirtual 242, 3) := by decide +kernel
theorem dX8_goes_144 : decode cX8_goes 144 = .ok (.iload_n 3, 1) := by decide +kernel
theorem dX8_goes_145 : decode cX8_goes 145 = .ok (.ireturn, 1) := by decide +kernel
theorem dX8_looks_0 : decode cX8_looks 0 = .ok (.aload_n 0, 1) := by decide +kernel
theorem dX8_looks_1 : decode cX8_looks 1 = .ok (.getfield 18, 3) := by decide +kernel
theorem dX8_looks_4 : decode cX8_looks 4 = .ok (.iload_n 1, 1) := by decide +kernel
theorem dX8_looks_5 : decode cX8_looks 5 = .ok (.invokevirtual 100, 3) := by decide +kernel
theorem dX8_looks_8 : decode cX8_looks 8 = .ok (.astore_n 2, 1) := by decide +kernel
theorem dX8_looks_9 : decode cX8_looks 9 = .ok (.aload_n 2, 1) := by decide +kernel
theorem dX8_looks_10 : decode cX8_looks 10 = .ok (.ifnonnull 9, 3) := by decide +kernel
theorem dX8_looks_13 : decode cX8_looks 13 = .ok (.aload_n 0, 1) := by decide +kernel
theorem dX8_looks_14 : decode cX8_looks 14 = .ok (.iconst (-1), 1) := by decide +kernel
theorem dX8_looks_15 : decode cX8_looks 15 = .ok (.invokevirtual 63, 3) := by decide +kernel
theorem dX8_looks_18 : decode cX8_looks 18 = .ok (.ireturn, 1) := by decide +kernel
theorem dX8_looks_19 : decode cX8_looks 19 = .ok (.aload_n 0, 1) := by decide +kernel
theorem dX8_looks_20 : decode cX8_looks 20 = .ok (.getfield 18, 3) := by decide +kernel
theorem dX8_looks_23 : decode cX8_looks 23 = .ok (.getfield 309, 3) := by decide +kernel
theorem dX8_looks_26 : decode cX8_looks 26 = .ok (.iconst (-1), 1) := by decide +kernel
theorem dX8_looks_27 : decode cX8_looks 27 = .ok (.if_icmp .ne 10, 3) := by decide +kernel
theorem dX8_looks_30 : decode cX8_looks 30 = .ok (.aload_n 0, 1) := by decide +kernel
theorem dX8_looks_31 : decode cX8_looks 31 = .ok (.bipush (-6), 2) := by decide +kernel
theorem dX8_looks_33 : decode cX8_looks 33 = .ok (.invokevirtual 63, 3) := by decide +kernel
theorem dX8_looks_36 : decode cX8_looks 36 = .ok (.ireturn, 1) := by decide +kernel
theorem dX8_looks_37 : decode cX8_looks 37 = .ok (.aload_n 0, 1) := by decide +kernel
theorem dX8_looks_38 : decode cX8_looks 38 = .ok (.getfield 18, 3) := by decide +kernel
theorem dX8_looks_41 : decode cX8_looks 41 = .ok (.getfield 312, 3) := by decide +kernel
theorem dX8_looks_44 : decode cX8_looks 44 = .ok (.invokestatic 315, 3) := by decide +kernel
theorem dX8_looks_47 : decode cX8_looks 47 = .ok (.istore_n 3, 1) := by decide +kernel
theorem dX8_looks_48 : decode cX8_looks 48 = .ok (.iload_n 3, 1) := by decide +kernel
theorem dX8_looks_49 : decode cX8_looks 49 = .ok (.invokestatic 318, 3) := by decide +kernel
theorem dX8_looks_52 : decode cX8_looks 52 = .ok (.aload_n 0, 1) := by decide +kernel
theorem dX8_looks_53 : decode cX8_looks 53 = .ok (.getfield 18, 3) := by decide +kernel
theorem dX8_looks_56 : decode cX8_looks 56 = .ok (.aload_n 2, 1) := by decide +kernel
theorem dX8_looks_57 : decode cX8_looks 57 = .ok (.aload_n 0, 1) := by decide +kernel
theorem dX8_looks_58 : decode cX8_looks 58 = .ok (.getfield 18, 3) := by decide +kernel
theorem dX8_looks_61 : decode cX8_looks 61 = .ok (.getfield 309, 3) := by decide +kernel
theorem dX8_looks_64 : decode cX8_looks 64 = .ok (.invokevirtual 239, 3) := by decide +kernel
theorem dX8_looks_67 : decode cX8_looks 67 = .ok (.if_icmp .ge 7, 3) := by decide +kernel
theorem dX8_looks_70 : decode cX8_looks 70 = .ok (.iconst 1, 1) := by decide +kernel
theorem dX8_looks_71 : decode cX8_looks 71 = .ok (.goto 4, 3) := by decide +kernel
theorem dX8_looks_74 : decode cX8_looks 74 = .ok (.iconst 0, 1) := by decide +kernel
theorem dX8_looks_75 : decode cX8_looks 75 = .ok (.istore 4, 2) := by decide +kernel
theorem dX8_looks_77 : decode cX8_looks 77 = .ok (.aload_n 0, 1) := by decide +kernel
theorem dX8_looks_78 : decode cX8_looks 78 = .ok (.getfield 18, 3) := by decide +kernel
theorem dX8_looks_81 : decode cX8_looks 81 = .ok (.aload_n 2, 1) := by decide +kernel
theorem dX8_looks_82 : decode cX8_looks 82 = .ok (.iload 4, 2) := by decide +kernel
theorem dX8_looks_84 : decode cX8_looks 84 = .ok (.invokevirtual 246, 3) := by decide +kernel
theorem dX8_looks_87 : decode cX8_looks 87 = .ok (.ifCond .ne 10, 3) := by decide +kernel
theorem dX8_looks_90 : decode cX8_looks 90 = .ok (.aload_n 0, 1) := by decide +kernel
theorem dX8_looks_91 : decode cX8_looks 91 = .ok (.bipush (-6), 2) := by decide +kernel
theorem dX8_looks_93 : decode cX8_looks 93 = .ok (.invokevirtual 63, 3) := by decide +kernel
theorem dX8_looks_96 : decode cX8_looks 96 = .ok (.ireturn, 1) := by decide +kernel
theorem dX8_looks_97 : decode cX8_looks 97 = .ok (.aload_n 0, 1) := by decide +kernel
theorem dX8_looks_98 : decode cX8_looks 98 = .ok (.getfield 18, 3) := by decide +kernel
theorem dX8_looks_101 : decode cX8_looks 101 = .ok (.getfield 220, 3) := by decide +kernel
theorem dX8_looks_104 : decode cX8_looks 104 = .ok (.bipush 16, 2) := by decide +kernel
theorem dX8_looks_106 : decode cX8_looks 106 = .ok (.if_icmp .lt 10, 3) := by decide +kernel
theorem dX8_looks_109 : decode cX8_looks 109 = .ok (.aload_n 0, 1) := by decide +kernel
theorem dX8_looks_110 : decode cX8_looks 110 = .ok (.bipush (-7), 2) := by decide +kernel
theorem dX8_looks_112 : decode cX8_looks 112 = .ok (.invokevirtual 63, 3) := by decide +kernel
theorem dX8_looks_115 : decode cX8_looks 115 = .ok (.ireturn, 1) := by decide +kernel
theorem dX8_looks_116 : decode cX8_looks 116 = .ok (.aload_n 0, 1) := by decide +kernel
theorem dX8_looks_117 : decode cX8_looks 117 = .ok (.getfield 18, 3) := by decide +kernel
theorem dX8_looks_120 : decode cX8_looks 120 = .ok (.iload_n 3, 1) := by decide +kernel
theorem dX8_looks_121 : decode cX8_looks 121 = .ok (.putfield 312, 3) := by decide +kernel
theorem dX8_looks_124 : decode cX8_looks 124 = .ok (.aload_n 0, 1) := by decide +kernel
theorem dX8_looks_125 : decode cX8_looks 125 = .ok (.getfield 18, 3) := by decide +kernel
theorem dX8_looks_128 : decode cX8_looks 128 = .ok (.aload_n 2, 1) := by decide +kernel
theorem dX8_looks_129 : decode cX8_looks 129 = .ok (.iload 4, 2) := by decide +kernel
theorem dX8_looks_131 : decode cX8_looks 131 = .ok (.invokevirtual 250, 3) := by decide +kernel
theorem dX8_looks_134 : decode cX8_looks 134 = .ok (.iload 4, 2) := by decide +kernel
theorem dX8_looks_136 : decode cX8_looks 136 = .ok (.ifCond .eq 7, 3) := by decide +kernel
theorem dX8_looks_139 : decode cX8_looks 139 = .ok (.iconst 1, 1) := by decide +kernel
theorem dX8_looks_140 : decode cX8_looks 140 = .ok (.goto 4, 3) := by decide +kernel
theorem dX8_looks_143 : decode cX8_looks 143 = .ok (.iconst 0, 1) := by decide +kernel
theorem dX8_looks_144 : decode cX8_looks 144 = .ok (.ireturn, 1) := by decide +kernel
theorem dX8_right_0 : decode cX8_right 0 = .ok (.aload_n 0, 1) := by decide +kernel
theorem dX8_right_1 : decode cX8_right 1 = .ok (.getfield 18, 3) := by decide +kernel
theorem dX8_right_4 : decode cX8_right 4 = .ok (.getfield 309, 3) := by decide +kernel
theorem dX8_right_7 : decode cX8_right 7 = .ok (.iconst (-1), 1) := by decide +kernel
theorem dX8_right_8 : decode cX8_right 8 = .ok (.if_icmp .ne 10, 3) := by decide +kernel
theorem dX8_right_11 : decode cX8_right 11 = .ok (.aload_n 0, 1) := by decide +kernel
theorem dX8_right_12 : decode cX8_right 12 = .ok (.bipush (-6), 2) := by decide +kernel
theorem dX8_right_14 : decode cX8_right 14 = .ok (.invokevirtual 63, 3) := by decide +kernel
theorem dX8_right_17 : decode cX8_right 17 = .ok (.ireturn, 1) := by decide +kernel
theorem dX8_right_18 : decode cX8_right 18 = .ok (.aload_n 0, 1) := by decide +kernel
theorem dX8_right_19 : decode cX8_right 19 = .ok (.getfield 18, 3) := by decide +kernel
theorem dX8_right_22 : decode cX8_right 22 = .ok (.getfield 309, 3) := by decide +kernel
theorem dX8_right_25 : decode cX8_right 25 = .ok (.aload_n 0, 1) := by decide +kernel
theorem dX8_right_26 : decode cX8_right 26 = .ok (.getfield 18, 3) := by decide +kernel
theorem dX8_right_29 : decode cX8_right 29 = .ok (.getfield 226, 3) := by decide +kernel
theorem dX8_right_32 : decode cX8_right 32 = .ok (.invokevirtual 254, 3) := by decide +kernel
theorem dX8_right_35 : decode cX8_right 35 = .ok (.if_icmp .ne 7, 3) := by decide +kernel
theorem dX8_right_38 : decode cX8_right 38 = .ok (.iconst 1, 1) := by decide +kernel
theorem dX8_right_39 : decode cX8_right 39 = .ok (.goto 4, 3) := by decide +kernel
theorem dX8_right_42 : decode cX8_right 42 = .ok (.iconst 0, 1) := by decide +kernel
theorem dX8_right_43 : decode cX8_right 43 = .ok (.ireturn, 1) := by decide +kernel
theorem dX8_seed_0 : decode cX8_seed 0 = .ok (.aload_n 0, 1) := by decide +kernel
theorem dX8_seed_1 : decode cX8_seed 1 = .ok (.getfield 18, 3) := by decide +kernel
theorem dX8_seed_4 : decode cX8_seed 4 = .ok (.getfield 312, 3) := by decide +kernel
theorem dX8_seed_7 : decode cX8_seed 7 = .ok (.istore_n 2, 1) := by decide +kernel
theorem dX8_seed_8 : decode cX8_seed 8 = .ok (.aload_n 0, 1) := by decide +kernel
theorem dX8_seed_9 : decode cX8_seed 9 = .ok (.getfield 18, 3) := by decide +kernel
theorem dX8_seed_12 : decode cX8_seed 12 = .ok (.iload_n 1, 1) := by decide +kernel
theorem dX8_seed_13 : decode cX8_seed 13 = .ok (.putfield 312, 3) := by decide +kernel
theorem dX8_seed_16 : decode cX8_seed 16 = .ok (.iload_n 2, 1) := by decide +kernel
theorem dX8_seed_17 : decode cX8_seed 17 = .ok (.ireturn, 1) := by decide +kernel
theorem dX8_act_0 : decode cX8_act 0 = .ok (.aload_n 0, 1) := by decide +kernel
theorem dX8_act_1 : decode cX8_act 1 = .ok (.getfield 50, 3) := by decide +kernel
theorem dX8_act_4 : decode cX8_act 4 = .ok (.invokevirtual 324, 3) := by decide +kernel
theorem dX8_act_7 : decode cX8_act 7 = .ok (.aload_n 0, 1) := by decide +kernel
theorem dX8_act_8 : decode cX8_act 8 = .ok (.getfield 18, 3) := by decide +kernel
theorem dX8_act_11 : decode cX8_act 11 = .ok (.iload_n 1, 1) := by decide +kernel
theorem dX8_act_12 : decode cX8_act 12 = .ok (.invokevirtual 100, 3) := by decide +kernel
theorem dX8_act_15 : decode cX8_act 15 = .ok (.astore 4, 2) := by decide +kernel
theorem dX8_act_17 : decode cX8_act 17 = .ok (.aload 4, 2) := by decide +kernel
theorem dX8_act_19 : decode cX8_act 19 = .ok (.ifnull 12, 3) := by decide +kernel
theorem dX8_act_22 : decode cX8_act 22 = .ok (.iload_n 2, 1) := by decide +kernel
theorem dX8_act_23 : decode cX8_act 23 = .ok (.ifCond .lt 8, 3) := by decide +kernel
theorem dX8_act_26 : decode cX8_act 26 = .ok (.iload_n 2, 1) := by decide +kernel
theorem dX8_act_27 : decode cX8_act 27 = .ok (.iconst 3, 1) := by decide +kernel
theorem dX8_act_28 : decode cX8_act 28 = .ok (.if_icmp .lt 5, 3) := by decide +kernel
theorem dX8_act_31 : decode cX8_act 31 = .ok (.iconst 0, 1) := by decide +kernel
theorem dX8_act_32 : decode cX8_act 32 = .ok (.ireturn, 1) := by decide +kernel
theorem dX8_act_33 : decode cX8_act 33 = .ok (.aload 4, 2) := by decide +kernel
theorem dX8_act_35 : decode cX8_act 35 = .ok (.aload 4, 2) := by decide +kernel
theorem dX8_act_37 : decode cX8_act 37 = .ok (.getfield 167, 3) := by decide +kernel
theorem dX8_act_40 : decode cX8_act 40 = .ok (.iload_n 2, 1) := by decide +kernel
theorem dX8_act_41 : decode cX8_act 41 = .ok (.iload_n 3, 1) := by decide +kernel
theorem dX8_act_42 : decode cX8_act 42 = .ok (.aload_n 0, 1) := by decide +kernel
theorem dX8_act_43 : decode cX8_act 43 = .ok (.getfield 50, 3) := by decide +kernel
theorem dX8_act_46 : decode cX8_act 46 = .ok (.iconst 0, 1) := by decide +kernel
theorem dX8_act_47 : decode cX8_act 47 = .ok (.invokestatic 327, 3) := by decide +kernel
theorem dX8_act_50 : decode cX8_act 50 = .ok (.ireturn, 1) := by decide +kernel
theorem dX8_trace_0 : decode cX8_trace 0 = .ok (.aload_n 0, 1) := by decide +kernel
theorem dX8_trace_1 : decode cX8_trace 1 = .ok (.getfield 50, 3) := by decide +kernel
theorem dX8_trace_4 : decode cX8_trace 4 = .ok (.iload_n 1, 1) := by decide +kernel
theorem dX8_trace_5 : decode cX8_trace 5 = .ok (.invokevirtual 331, 3) := by decide +kernel
theorem dX8_trace_8 : decode cX8_trace 8 = .ok (.ireturn, 1) := by decide +kernel
theorem dX8_image_0 : decode cX8_image 0 = .ok (.aload_n 0, 1) := by decide +kernel
theorem dX8_image_1 : decode cX8_image 1 = .ok (.getfield 25, 3) := by decide +kernel
theorem dX8_image_4 : decode cX8_image 4 = .ok (.aload_n 0, 1) := by decide +kernel
theorem dX8_image_5 : decode cX8_image 5 = .ok (.getfield 18, 3) := by decide +kernel
theorem dX8_image_8 : decode cX8_image 8 = .ok (.invokevirtual 198, 3) := by decide +kernel
theorem dX8_image_11 : decode cX8_image 11 = .ok (.aload_n 0, 1) := by decide +kernel
theorem dX8_image_12 : decode cX8_image 12 = .ok (.iconst 1, 1) := by decide +kernel
theorem dX8_image_13 : decode cX8_image 13 = .ok (.putfield 28, 3) := by decide +kernel
theorem dX8_image_16 : decode cX8_image 16 = .ok (.aload_n 0, 1) := by decide +kernel
theorem dX8_image_17 : decode cX8_image 17 = .ok (.getfield 18, 3) := by decide +kernel
theorem dX8_image_20 : decode cX8_image 20 = .ok (.getfield 266, 3) := by decide +kernel
theorem dX8_image_23 : decode cX8_image 23 = .ok (.ireturn, 1) := by decide +kernel
theorem dX8_restore_0 : decode cX8_restore 0 = .ok (.aload_n 0, 1) := by decide +kernel
theorem dX8_restore_1 : decode cX8_restore 1 = .ok (.getfield 28, 3) := by decide +kernel
theorem dX8_restore_4 : decode cX8_restore 4 = .ok (.ifCond .ne 10, 3) := by decide +kernel
theorem dX8_restore_7 : decode cX8_restore 7 = .ok (.aload_n 0, 1) := by decide +kernel
theorem dX8_restore_8 : decode cX8_restore 8 = .ok (.bipush (-6), 2) := by decide +kernel
theorem dX8_restore_10 : decode cX8_restore 10 = .ok (.invokevirtual 63, 3) := by decide +kernel
theorem dX8_restore_13 : decode cX8_restore 13 = .ok (.ireturn, 1) := by decide +kernel
theorem dX8_restore_14 : decode cX8_restore 14 = .ok (.aload_n 0, 1) := by decide +kernel
theorem dX8_restore_15 : decode cX8_restore 15 = .ok (.getfield 18, 3) := by decide +kernel
theorem dX8_restore_18 : decode cX8_restore 18 = .ok (.aload_n 0, 1) := by decide +kernel
theorem dX8_restore_19 : decode cX8_restore 19 = .ok (.getfield 25, 3) := by decide +kernel
theorem dX8_restore_22 : decode cX8_restore 22 = .ok (.invokevirtual 198, 3) := by decide +kernel
theorem dX8_restore_25 : decode cX8_restore 25 = .ok (.aload_n 0, 1) := by decide +kernel
theorem dX8_restore_26 : decode cX8_restore 26 = .ok (.aload_n 0, 1) := by decide +kernel
theorem dX8_restore_27 : decode cX8_restore 27 = .ok (.getfield 18, 3) := by decide +kernel
theorem dX8_restore_30 : decode cX8_restore 30 = .ok (.getfield 266, 3) := by decide +kernel
theorem dX8_restore_33 : decode cX8_restore 33 = .ok (.invokevirtual 127, 3) := by decide +kernel
theorem dX8_restore_36 : decode cX8_restore 36 = .ok (.aload_n 0, 1) := by decide +kernel
theorem dX8_restore_37 : decode cX8_restore 37 = .ok (.getfield 18, 3) := by decide +kernel
theorem dX8_restore_40 : decode cX8_restore 40 = .ok (.getfield 266, 3) := by decide +kernel
theorem dX8_restore_43 : decode cX8_restore 43 = .ok (.ireturn, 1) := by decide +kernel
theorem dX8_status_0 : decode cX8_status 0 = .ok (.iload_n 1, 1) := by decide +kernel
theorem dX8_status_1 : decode cX8_status 1 = .ok (.tableswitch 143 0 9 #[55, 63, 71, 79, 87, 95, 103, 119, 127, 135], 55) := by decide +kernel
theorem dX8_status_56 : decode cX8_status 56 = .ok (.aload_n 0, 1) := by decide +kernel
theorem dX8_status_57 : decode cX8_status 57 = .ok (.getfield 18, 3) := by decide +kernel
theorem dX8_status_60 : decode cX8_status 60 = .ok (.getfield 121, 3) := by decide +kernel
theorem dX8_status_63 : decode cX8_status 63 = .ok (.ireturn, 1) := by decide +kernel
theorem dX8_status_64 : decode cX8_status 64 = .ok (.aload_n 0, 1) := by decide +kernel
theorem dX8_status_65 : decode cX8_status 65 = .ok (.getfield 18, 3) := by decide +kernel
theorem dX8_status_68 : decode cX8_status 68 = .ok (.getfield 266, 3) := by decide +kernel
theorem dX8_status_71 : decode cX8_status 71 = .ok (.ireturn, 1) := by decide +kernel
theorem dX8_status_72 : decode cX8_status 72 = .ok (.aload_n 0, 1) := by decide +kernel
theorem dX8_status_73 : decode cX8_status 73 = .ok (.getfield 18, 3) := by decide +kernel
theorem dX8_status_76 : decode cX8_status 76 = .ok (.getfield 195, 3) := by decide +kernel
theorem dX8_status_79 : decode cX8_status 79 = .ok (.ireturn, 1) := by decide +kernel
theorem dX8_status_80 : decode cX8_status 80 = .ok (.aload_n 0, 1) := by decide +kernel
theorem dX8_status_81 : decode cX8_status 81 = .ok (.getfield 18, 3) := by decide +kernel
theorem dX8_status_84 : decode cX8_status 84 = .ok (.getfield 220, 3) := by decide +kernel
theorem dX8_status_87 : decode cX8_status 87 = .ok (.ireturn, 1) := by decide +kernel
theorem dX8_status_88 : decode cX8_status 88 = .ok (.aload_n 0, 1) := by decide +kernel
theorem dX8_status_89 : decode cX8_status 89 = .ok (.getfield 18, 3) := by decide +kernel
theorem dX8_status_92 : decode cX8_status 92 = .ok (.getfield 334, 3) := by decide +kernel
theorem dX8_status_95 : decode cX8_status 95 = .ok (.ireturn, 1) := by decide +kernel
theorem dX8_status_96 : decode cX8_status 96 = .ok (.aload_n 0, 1) := by decide +kernel
theorem dX8_status_97 : decode cX8_status 97 = .ok (.getfield 18, 3) := by decide +kernel
theorem dX8_status_100 : decode cX8_status 100 = .ok (.getfield 337, 3) := by decide +kernel
theorem dX8_status_103 : decode cX8_status 103 = .ok (.ireturn, 1) := by decide +kernel
theorem dX8_status_104 : decode cX8_status 104 = .ok (.aload_n 0, 1) := by decide +kernel
theorem dX8_status_105 : decode cX8_status 105 = .ok (.getfield 18, 3) := by decide +kernel
theorem dX8_status_108 : decode cX8_status 108 = .ok (.getfield 340, 3) := by decide +kernel
theorem dX8_status_111 : decode cX8_status 111 = .ok (.ifCond .eq 7, 3) := by decide +kernel
theorem dX8_status_114 : decode cX8_status 114 = .ok (.iconst 1, 1) := by decide +kernel
theorem dX8_status_115 : decode cX8_status 115 = .ok (.goto 4, 3) := by decide +kernel
theorem dX8_status_118 : decode cX8_status 118 = .ok (.iconst 0, 1) := by decide +kernel
theorem dX8_status_119 : decode cX8_status 119 = .ok (.ireturn, 1) := by decide +kernel
theorem dX8_status_120 : decode cX8_status 120 = .ok (.aload_n 0, 1) := by decide +kernel
theorem dX8_status_121 : decode cX8_status 121 = .ok (.getfield 18, 3) := by decide +kernel
theorem dX8_status_124 : decode cX8_status 124 = .ok (.getfield 343, 3) := by decide +kernel
theorem dX8_status_127 : decode cX8_status 127 = .ok (.ireturn, 1) := by decide +kernel
theorem dX8_status_128 : decode cX8_status 128 = .ok (.aload_n 0, 1) := by decide +kernel
theorem dX8_status_129 : decode cX8_status 129 = .ok (.getfield 50, 3) := by decide +kernel
theorem dX8_status_132 : decode cX8_status 132 = .ok (.getfield 346, 3) := by decide +kernel
theorem dX8_status_135 : decode cX8_status 135 = .ok (.ireturn, 1) := by decide +kernel
theorem dX8_status_136 : decode cX8_status 136 = .ok (.aload_n 0, 1) := by decide +kernel
theorem dX8_status_137 : decode cX8_status 137 = .ok (.getfield 18, 3) := by decide +kernel
theorem dX8_status_140 : decode cX8_status 140 = .ok (.getfield 312, 3) := by decide +kernel
theorem dX8_status_143 : decode cX8_status 143 = .ok (.ireturn, 1) := by decide +kernel
theorem dX8_status_144 : decode cX8_status 144 = .ok (.aload_n 0, 1) := by decide +kernel
theorem dX8_status_145 : decode cX8_status 145 = .ok (.bipush 10, 2) := by decide +kernel
theorem dX8_status_147 : decode cX8_status 147 = .ok (.iload_n 1, 1) := by decide +kernel
theorem dX8_status_148 : decode cX8_status 148 = .ok (.isub, 1) := by decide +kernel
theorem dX8_status_149 : decode cX8_status 149 = .ok (.invokevirtual 349, 3) := by decide +kernel
theorem dX8_status_152 : decode cX8_status 152 = .ok (.ireturn, 1) := by decide +kernel
theorem dX8_refused_0 : decode cX8_refused 0 = .ok (.iload_n 1, 1) := by decide +kernel
theorem dX8_refused_1 : decode cX8_refused 1 = .ok (.ineg, 1) := by decide +kernel
theorem dX8_refused_2 : decode cX8_refused 2 = .ok (.istore_n 2, 1) := by decide +kernel
theorem dX8_refused_3 : decode cX8_refused 3 = .ok (.iload_n 2, 1) := by decide +kernel
theorem dX8_refused_4 : decode cX8_refused 4 = .ok (.ifCond .le 22, 3) := by decide +kernel
theorem dX8_refused_7 : decode cX8_refused 7 = .ok (.iload_n 2, 1) := by decide +kernel
theorem dX8_refused_8 : decode cX8_refused 8 = .ok (.aload_n 0, 1) := by decide +kernel
theorem dX8_refused_9 : decode cX8_refused 9 = .ok (.getfield 32, 3) := by decide +kernel
theorem dX8_refused_12 : decode cX8_refused 12 = .ok (.arraylength, 1) := by decide +kernel
theorem dX8_refused_13 : decode cX8_refused 13 = .ok (.if_icmp .ge 13, 3) := by decide +kernel
theorem dX8_refused_16 : decode cX8_refused 16 = .ok (.aload_n 0, 1) := by decide +kernel
theorem dX8_refused_17 : decode cX8_refused 17 = .ok (.getfield 32, 3) := by decide +kernel
theorem dX8_refused_20 : decode cX8_refused 20 = .ok (.iload_n 2, 1) := by decide +kernel
theorem dX8_refused_21 : decode cX8_refused 21 = .ok (.dup2, 1) := by decide +kernel
theorem dX8_refused_22 : decode cX8_refused 22 = .ok (.iaload, 1) := by decide +kernel
theorem dX8_refused_23 : decode cX8_refused 23 = .ok (.iconst 1, 1) := by decide +kernel
theorem dX8_refused_24 : decode cX8_refused 24 = .ok (.iadd, 1) := by decide +kernel
theorem dX8_refused_25 : decode cX8_refused 25 = .ok (.iastore, 1) := by decide +kernel
theorem dX8_refused_26 : decode cX8_refused 26 = .ok (.iload_n 1, 1) := by decide +kernel
theorem dX8_refused_27 : decode cX8_refused 27 = .ok (.ireturn, 1) := by decide +kernel
theorem dX8_refusalsOf_0 : decode cX8_refusalsOf 0 = .ok (.iload_n 1, 1) := by decide +kernel
theorem dX8_refusalsOf_1 : decode cX8_refusalsOf 1 = .ok (.ineg, 1) := by decide +kernel
theorem dX8_refusalsOf_2 : decode cX8_refusalsOf 2 = .ok (.istore_n 2, 1) := by decide +kernel
theorem dX8_refusalsOf_3 : decode cX8_refusalsOf 3 = .ok (.iload_n 2, 1) := by decide +kernel
theorem dX8_refusalsOf_4 : decode cX8_refusalsOf 4 = .ok (.ifCond .le 21, 3) := by decide +kernel
theorem dX8_refusalsOf_7 : decode cX8_refusalsOf 7 = .ok (.iload_n 2, 1) := by decide +kernel
theorem dX8_refusalsOf_8 : decode cX8_refusalsOf 8 = .ok (.aload_n 0, 1) := by decide +kernel
theorem dX8_refusalsOf_9 : decode cX8_refusalsOf 9 = .ok (.getfield 32, 3) := by decide +kernel
theorem dX8_refusalsOf_12 : decode cX8_refusalsOf 12 = .ok (.arraylength, 1) := by decide +kernel
theorem dX8_refusalsOf_13 : decode cX8_refusalsOf 13 = .ok (.if_icmp .ge 12, 3) := by decide +kernel
theorem dX8_refusalsOf_16 : decode cX8_refusalsOf 16 = .ok (.aload_n 0, 1) := by decide +kernel
theorem dX8_refusalsOf_17 : decode cX8_refusalsOf 17 = .ok (.getfield 32, 3) := by decide +kernel
theorem dX8_refusalsOf_20 : decode cX8_refusalsOf 20 = .ok (.iload_n 2, 1) := by decide +kernel
theorem dX8_refusalsOf_21 : decode cX8_refusalsOf 21 = .ok (.iaload, 1) := by decide +kernel
theorem dX8_refusalsOf_22 : decode cX8_refusalsOf 22 = .ok (.goto 4, 3) := by decide +kernel
theorem dX8_refusalsOf_25 : decode cX8_refusalsOf 25 = .ok (.iconst (-1), 1) := by decide +kernel
theorem dX8_refusalsOf_26 : decode cX8_refusalsOf 26 = .ok (.ireturn, 1) := by decide +kernel
theorem dX8_rowTrouble_0 : decode cX8_rowTrouble 0 = .ok (.aload_n 0, 1) := by decide +kernel
theorem dX8_rowTrouble_1 : decode cX8_rowTrouble 1 = .ok (.ifnonnull 5, 3) := by decide +kernel
theorem dX8_rowTrouble_4 : decode cX8_rowTrouble 4 = .ok (.iconst (-1), 1) := by decide +kernel
theorem dX8_rowTrouble_5 : decode cX8_rowTrouble 5 = .ok (.ireturn, 1) := by decide +kernel
theorem dX8_rowTrouble_6 : decode cX8_rowTrouble 6 = .ok (.aload_n 0, 1) := by decide +kernel
theorem dX8_rowTrouble_7 : decode cX8_rowTrouble 7 = .ok (.invokevirtual 352, 3) := by decide +kernel
theorem dX8_rowTrouble_10 : decode cX8_rowTrouble 10 = .ok (.ifCond .eq 5, 3) := by decide +kernel
theorem dX8_rowTrouble_13 : decode cX8_rowTrouble 13 = .ok (.iconst 0, 1) := by decide +kernel
theorem dX8_rowTrouble_14 : decode cX8_rowTrouble 14 = .ok (.ireturn, 1) := by decide +kernel
theorem dX8_rowTrouble_15 : decode cX8_rowTrouble 15 = .ok (.aload_n 0, 1) := by decide +kernel
theorem dX8_rowTrouble_16 : decode cX8_rowTrouble 16 = .ok (.getfield 108, 3) := by decide +kernel
theorem dX8_rowTrouble_19 : decode cX8_rowTrouble 19 = .ok (.iconst (-1), 1) := by decide +kernel
theorem dX8_rowTrouble_20 : decode cX8_rowTrouble 20 = .ok (.if_icmp .ne 8, 3) := by decide +kernel
theorem dX8_rowTrouble_23 : decode cX8_rowTrouble 23 = .ok (.bipush (-3), 2) := by decide +kernel
theorem dX8_rowTrouble_25 : decode cX8_rowTrouble 25 = .ok (.goto 5, 3) := by decide +kernel
theorem dX8_rowTrouble_28 : decode cX8_rowTrouble 28 = .ok (.bipush (-2), 2) := by decide +kernel
theorem dX8_rowTrouble_30 : decode cX8_rowTrouble 30 = .ok (.ireturn, 1) := by decide +kernel
theorem dX8_pairTrouble_0 : decode cX8_pairTrouble 0 = .ok (.aload_n 0, 1) := by decide +kernel
theorem dX8_pairTrouble_1 : decode cX8_pairTrouble 1 = .ok (.ifnull 7, 3) := by decide +kernel
theorem dX8_pairTrouble_4 : decode cX8_pairTrouble 4 = .ok (.aload_n 1, 1) := by decide +kernel
theorem dX8_pairTrouble_5 : decode cX8_pairTrouble 5 = .ok (.ifnonnull 5, 3) := by decide +kernel
theorem dX8_pairTrouble_8 : decode cX8_pairTrouble 8 = .ok (.iconst (-1), 1) := by decide +kernel
theorem dX8_pairTrouble_9 : decode cX8_pairTrouble 9 = .ok (.ireturn, 1) := by decide +kernel
theorem dX8_pairTrouble_10 : decode cX8_pairTrouble 10 = .ok (.aload_n 0, 1) := by decide +kernel
theorem dX8_pairTrouble_11 : decode cX8_pairTrouble 11 = .ok (.invokestatic 71, 3) := by decide +kernel
theorem dX8_pairTrouble_14 : decode cX8_pairTrouble 14 = .ok (.istore_n 2, 1) := by decide +kernel
theorem dX8_pairTrouble_15 : decode cX8_pairTrouble 15 = .ok (.aload_n 1, 1) := by decide +kernel
theorem dX8_pairTrouble_16 : decode cX8_pairTrouble 16 = .ok (.invokestatic 71, 3) := by decide +kernel
theorem dX8_pairTrouble_19 : decode cX8_pairTrouble 19 = .ok (.istore_n 3, 1) := by decide +kernel
theorem dX8_pairTrouble_20 : decode cX8_pairTrouble 20 = .ok (.iload_n 2, 1) := by decide +kernel
theorem dX8_pairTrouble_21 : decode cX8_pairTrouble 21 = .ok (.bipush (-2), 2) := by decide +kernel
theorem dX8_pairTrouble_23 : decode cX8_pairTrouble 23 = .ok (.if_icmp .eq 9, 3) := by decide +kernel
theorem dX8_pairTrouble_26 : decode cX8_pairTrouble 26 = .ok (.iload_n 3, 1) := by decide +kernel
theorem dX8_pairTrouble_27 : decode cX8_pairTrouble 27 = .ok (.bipush (-2), 2) := by decide +kernel
theorem dX8_pairTrouble_29 : decode cX8_pairTrouble 29 = .ok (.if_icmp .ne 6, 3) := by decide +kernel
theorem dX8_pairTrouble_32 : decode cX8_pairTrouble 32 = .ok (.bipush (-2), 2) := by decide +kernel
theorem dX8_pairTrouble_34 : decode cX8_pairTrouble 34 = .ok (.ireturn, 1) := by decide +kernel
theorem dX8_pairTrouble_35 : decode cX8_pairTrouble 35 = .ok (.iload_n 2, 1) := by decide +kernel
theorem dX8_pairTrouble_36 : decode cX8_pairTrouble 36 = .ok (.bipush (-3), 2) := by decide +kernel
theorem dX8_pairTrouble_38 : decode cX8_pairTrouble 38 = .ok (.if_icmp .eq 9, 3) := by decide +kernel
theorem dX8_pairTrouble_41 : decode cX8_pairTrouble 41 = .ok (.iload_n 3, 1) := by decide +kernel
theorem dX8_pairTrouble_42 : decode cX8_pairTrouble 42 = .ok (.bipush (-3), 2) := by decide +kernel
theorem dX8_pairTrouble_44 : decode cX8_pairTrouble 44 = .ok (.if_icmp .ne 6, 3) := by decide +kernel
theorem dX8_pairTrouble_47 : decode cX8_pairTrouble 47 = .ok (.bipush (-3), 2) := by decide +kernel
theorem dX8_pairTrouble_49 : decode cX8_pairTrouble 49 = .ok (.ireturn, 1) := by decide +kernel
theorem dX8_pairTrouble_50 : decode cX8_pairTrouble 50 = .ok (.aload_n 0, 1) := by decide +kernel
theorem dX8_pairTrouble_51 : decode cX8_pairTrouble 51 = .ok (.getfield 108, 3) := by decide +kernel
theorem dX8_pairTrouble_54 : decode cX8_pairTrouble 54 = .ok (.aload_n 1, 1) := by decide +kernel
theorem dX8_pairTrouble_55 : decode cX8_pairTrouble 55 = .ok (.getfield 108, 3) := by decide +kernel
theorem dX8_pairTrouble_58 : decode cX8_pairTrouble 58 = .ok (.if_icmp .ne 7, 3) := by decide +kernel
theorem dX8_pairTrouble_61 : decode cX8_pairTrouble 61 = .ok (.iconst 0, 1) := by decide +kernel
theorem dX8_pairTrouble_62 : decode cX8_pairTrouble 62 = .ok (.goto 5, 3) := by decide +kernel
theorem dX8_pairTrouble_65 : decode cX8_pairTrouble 65 = .ok (.bipush (-2), 2) := by decide +kernel
theorem dX8_pairTrouble_67 : decode cX8_pairTrouble 67 = .ok (.ireturn, 1) := by decide +kernel
theorem dX8_newsTrouble_0 : decode cX8_newsTrouble 0 = .ok (.aload_n 0, 1) := by decide +kernel
theorem dX8_newsTrouble_1 : decode cX8_newsTrouble 1 = .ok (.invokestatic 71, 3) := by decide +kernel
theorem dX8_newsTrouble_4 : decode cX8_newsTrouble 4 = .ok (.istore_n 2, 1) := by decide +kernel
theorem dX8_newsTrouble_5 : decode cX8_newsTrouble 5 = .ok (.aload_n 0, 1) := by decide +kernel
theorem dX8_newsTrouble_6 : decode cX8_newsTrouble 6 = .ok (.ifnull 7, 3) := by decide +kernel
theorem dX8_newsTrouble_9 : decode cX8_newsTrouble 9 = .ok (.iload_n 2, 1) := by decide +kernel
theorem dX8_newsTrouble_10 : decode cX8_newsTrouble 10 = .ok (.ifCond .eq 5, 3) := by decide +kernel
theorem dX8_newsTrouble_13 : decode cX8_newsTrouble 13 = .ok (.iload_n 2, 1) := by decide +kernel
theorem dX8_newsTrouble_14 : decode cX8_newsTrouble 14 = .ok (.ireturn, 1) := by decide +kernel
theorem dX8_newsTrouble_15 : decode cX8_newsTrouble 15 = .ok (.iload_n 1, 1) := by decide +kernel
theorem dX8_newsTrouble_16 : decode cX8_newsTrouble 16 = .ok (.ifCond .ge 6, 3) := by decide +kernel
theorem dX8_newsTrouble_19 : decode cX8_newsTrouble 19 = .ok (.bipush (-4), 2) := by decide +kernel
theorem dX8_newsTrouble_21 : decode cX8_newsTrouble 21 = .ok (.ireturn, 1) := by decide +kernel
theorem dX8_newsTrouble_22 : decode cX8_newsTrouble 22 = .ok (.aload_n 0, 1) := by decide +kernel
theorem dX8_newsTrouble_23 : decode cX8_newsTrouble 23 = .ok (.iconst 0, 1) := by decide +kernel
theorem dX8_newsTrouble_24 : decode cX8_newsTrouble 24 = .ok (.iload_n 1, 1) := by decide +kernel
theorem dX8_newsTrouble_25 : decode cX8_newsTrouble 25 = .ok (.invokevirtual 75, 3) := by decide +kernel
theorem dX8_newsTrouble_28 : decode cX8_newsTrouble 28 = .ok (.ifCond .ne 6, 3) := by decide +kernel
theorem dX8_newsTrouble_31 : decode cX8_newsTrouble 31 = .ok (.bipush (-5), 2) := by decide +kernel
theorem dX8_newsTrouble_33 : decode cX8_newsTrouble 33 = .ok (.ireturn, 1) := by decide +kernel
theorem dX8_newsTrouble_34 : decode cX8_newsTrouble 34 = .ok (.iload_n 1, 1) := by decide +kernel
theorem dX8_newsTrouble_35 : decode cX8_newsTrouble 35 = .ok (.bipush 16, 2) := by decide +kernel
theorem dX8_newsTrouble_37 : decode cX8_newsTrouble 37 = .ok (.if_icmp .le 8, 3) := by decide +kernel
theorem dX8_newsTrouble_40 : decode cX8_newsTrouble 40 = .ok (.bipush (-6), 2) := by decide +kernel
theorem dX8_newsTrouble_42 : decode cX8_newsTrouble 42 = .ok (.goto 4, 3) := by decide +kernel
theorem dX8_newsTrouble_45 : decode cX8_newsTrouble 45 = .ok (.iconst 0, 1) := by decide +kernel
theorem dX8_newsTrouble_46 : decode cX8_newsTrouble 46 = .ok (.ireturn, 1) := by decide +kernel
theorem dX8_shelfAt_0 : decode cX8_shelfAt 0 = .ok (.iload_n 1, 1) := by decide +kernel
theorem dX8_shelfAt_1 : decode cX8_shelfAt 1 = .ok (.ifCond .lt 9, 3) := by decide +kernel
theorem dX8_shelfAt_4 : decode cX8_shelfAt 4 = .ok (.iload_n 1, 1) := by decide +kernel
theorem dX8_shelfAt_5 : decode cX8_shelfAt 5 = .ok (.bipush 8, 2) := by decide +kernel
theorem dX8_shelfAt_7 : decode cX8_shelfAt 7 = .ok (.if_icmp .lt 7, 3) := by decide +kernel
theorem dX8_shelfAt_10 : decode cX8_shelfAt 10 = .ok (.aconst_null, 1) := by decide +kernel
theorem dX8_shelfAt_11 : decode cX8_shelfAt 11 = .ok (.goto 9, 3) := by decide +kernel
theorem dX8_shelfAt_14 : decode cX8_shelfAt 14 = .ok (.aload_n 0, 1) := by decide +kernel
theorem dX8_shelfAt_15 : decode cX8_shelfAt 15 = .ok (.getfield 11, 3) := by decide +kernel
theorem dX8_shelfAt_18 : decode cX8_shelfAt 18 = .ok (.iload_n 1, 1) := by decide +kernel
theorem dX8_shelfAt_19 : decode cX8_shelfAt 19 = .ok (.aaload, 1) := by decide +kernel
theorem dX8_shelfAt_20 : decode cX8_shelfAt 20 = .ok (.areturn, 1) := by decide +kernel
theorem dX8_dropSignsFrom_0 : decode cX8_dropSignsFrom 0 = .ok (.iconst 0, 1) := by decide +kernel
theorem dX8_dropSignsFrom_1 : decode cX8_dropSignsFrom 1 = .ok (.istore_n 2, 1) := by decide +kernel
theorem dX8_dropSignsFrom_2 : decode cX8_dropSignsFrom 2 = .ok (.iload_n 2, 1) := by decide +kernel
theorem dX8_dropSignsFrom_3 : decode cX8_dropSignsFrom 3 = .ok (.bipush 8, 2) := by decide +kernel
theorem dX8_dropSignsFrom_5 : decode cX8_dropSignsFrom 5 = .ok (.if_icmp .ge 40, 3) := by decide +kernel
theorem dX8_dropSignsFrom_8 : decode cX8_dropSignsFrom 8 = .ok (.aload_n 0, 1) := by decide +kernel
theorem dX8_dropSignsFrom_9 : decode cX8_dropSignsFrom 9 = .ok (.getfield 11, 3) := by decide +kernel
theorem dX8_dropSignsFrom_12 : decode cX8_dropSignsFrom 12 = .ok (.iload_n 2, 1) := by decide +kernel
theorem dX8_dropSignsFrom_13 : decode cX8_dropSignsFrom 13 = .ok (.aaload, 1) := by decide +kernel
theorem dX8_dropSignsFrom_14 : decode cX8_dropSignsFrom 14 = .ok (.astore_n 3, 1) := by decide +kernel
theorem dX8_dropSignsFrom_15 : decode cX8_dropSignsFrom 15 = .ok (.aload_n 3, 1) := by decide +kernel
theorem dX8_dropSignsFrom_16 : decode cX8_dropSignsFrom 16 = .ok (.ifnull 23, 3) := by decide +kernel
theorem dX8_dropSignsFrom_19 : decode cX8_dropSignsFrom 19 = .ok (.aload_n 3, 1) := by decide +kernel
theorem dX8_dropSignsFrom_20 : decode cX8_dropSignsFrom 20 = .ok (.invokevirtual 352, 3) := by decide +kernel
theorem dX8_dropSignsFrom_23 : decode cX8_dropSignsFrom 23 = .ok (.ifCond .ne 16, 3) := by decide +kernel
theorem dX8_dropSignsFrom_26 : decode cX8_dropSignsFrom 26 = .ok (.aload_n 3, 1) := by decide +kernel
theorem dX8_dropSignsFrom_27 : decode cX8_dropSignsFrom 27 = .ok (.getfield 108, 3) := by decide +kernel
theorem dX8_dropSignsFrom_30 : decode cX8_dropSignsFrom 30 = .ok (.iload_n 1, 1) := by decide +kernel
theorem dX8_dropSignsFrom_31 : decode cX8_dropSignsFrom 31 = .ok (.if_icmp .lt 8, 3) := by decide +kernel
theorem dX8_dropSignsFrom_34 : decode cX8_dropSignsFrom 34 = .ok (.aload_n 3, 1) := by decide +kernel
theorem dX8_dropSignsFrom_35 : decode cX8_dropSignsFrom 35 = .ok (.iconst (-1), 1) := by decide +kernel
theorem dX8_dropSignsFrom_36 : decode cX8_dropSignsFrom 36 = .ok (.invokevirtual 104, 3) := by decide +kernel
theorem dX8_dropSignsFrom_39 : decode cX8_dropSignsFrom 39 = .ok (.iinc 2 1, 3) := by decide +kernel
theorem dX8_dropSignsFrom_42 : decode cX8_dropSignsFrom 42 = .ok (.goto (-40), 3) := by decide +kernel
theorem dX8_dropSignsFrom_45 : decode cX8_dropSignsFrom 45 = .ok (.return_, 1) := by decide +kernel
theorem dX8_addThingFrom_0 : decode cX8_addThingFrom 0 = .ok (.aload_n 1, 1) := by decide +kernel
theorem dX8_addThingFrom_1 : decode cX8_addThingFrom 1 = .ok (.iload_n 2, 1) := by decide +kernel
theorem dX8_addThingFrom_2 : decode cX8_addThingFrom 2 = .ok (.invokevirtual 355, 3) := by decide +kernel
theorem dX8_addThingFrom_5 : decode cX8_addThingFrom 5 = .ok (.istore_n 3, 1) := by decide +kernel
theorem dX8_addThingFrom_6 : decode cX8_addThingFrom 6 = .ok (.aload_n 1, 1) := by decide +kernel
theorem dX8_addThingFrom_7 : decode cX8_addThingFrom 7 = .ok (.iload_n 2, 1) := by decide +kernel
theorem dX8_addThingFrom_8 : decode cX8_addThingFrom 8 = .ok (.iconst 1, 1) := by decide +kernel
theorem dX8_addThingFrom_9 : decode cX8_addThingFrom 9 = .ok (.iadd, 1) := by decide +kernel
theorem dX8_addThingFrom_10 : decode cX8_addThingFrom 10 = .ok (.invokevirtual 355, 3) := by decide +kernel
theorem dX8_addThingFrom_13 : decode cX8_addThingFrom 13 = .ok (.ifCond .eq 7, 3) := by decide +kernel
theorem dX8_addThingFrom_16 : decode cX8_addThingFrom 16 = .ok (.iconst 1, 1) := by decide +kernel
theorem dX8_addThingFrom_17 : decode cX8_addThingFrom 17 = .ok (.goto 4, 3) := by decide +kernel
theorem dX8_addThingFrom_20 : decode cX8_addThingFrom 20 = .ok (.iconst 0, 1) := by decide +kernel
theorem dX8_addThingFrom_21 : decode cX8_addThingFrom 21 = .ok (.istore 4, 2) := by decide +kernel
theorem dX8_addThingFrom_23 : decode cX8_addThingFrom 23 = .ok (.aload_n 1, 1) := by decide +kernel
theorem dX8_addThingFrom_24 : decode cX8_addThingFrom 24 = .ok (.iload_n 2, 1) := by decide +kernel
theorem dX8_addThingFrom_25 : decode cX8_addThingFrom 25 = .ok (.iconst 2, 1) := by decide +kernel
theorem dX8_addThingFrom_26 : decode cX8_addThingFrom 26 = .ok (.iadd, 1) := by decide +kernel
theorem dX8_addThingFrom_27 : decode cX8_addThingFrom 27 = .ok (.invokevirtual 355, 3) := by decide +kernel
theorem dX8_addThingFrom_30 : decode cX8_addThingFrom 30 = .ok (.istore 5, 2) := by decide +kernel
theorem dX8_addThingFrom_32 : decode cX8_addThingFrom 32 = .ok (.aload_n 0, 1) := by decide +kernel
theorem dX8_addThingFrom_33 : decode cX8_addThingFrom 33 = .ok (.getfield 18, 3) := by decide +kernel
theorem dX8_addThingFrom_36 : decode cX8_addThingFrom 36 = .ok (.iload_n 3, 1) := by decide +kernel
theorem dX8_addThingFrom_37 : decode cX8_addThingFrom 37 = .ok (.invokevirtual 130, 3) := by decide +kernel
theorem dX8_addThingFrom_40 : decode cX8_addThingFrom 40 = .ok (.ifCond .eq 26, 3) := by decide +kernel
theorem dX8_addThingFrom_43 : decode cX8_addThingFrom 43 = .ok (.iload 5, 2) := by decide +kernel
theorem dX8_addThingFrom_45 : decode cX8_addThingFrom 45 = .ok (.iconst 1, 1) := by decide +kernel
theorem dX8_addThingFrom_46 : decode cX8_addThingFrom 46 = .ok (.if_icmp .lt 20, 3) := by decide +kernel
theorem dX8_addThingFrom_49 : decode cX8_addThingFrom 49 = .ok (.iload 5, 2) := by decide +kernel
theorem dX8_addThingFrom_51 : decode cX8_addThingFrom 51 = .ok (.bipush 10, 2) := by decide +kernel
theorem dX8_addThingFrom_53 : decode cX8_addThingFrom 53 = .ok (.if_icmp .gt 13, 3) := by decide +kernel
theorem dX8_addThingFrom_56 : decode cX8_addThingFrom 56 = .ok (.aload_n 0, 1) := by decide +kernel
theorem dX8_addThingFrom_57 : decode cX8_addThingFrom 57 = .ok (.getfield 18, 3) := by decide +kernel
theorem dX8_addThingFrom_60 : decode cX8_addThingFrom 60 = .ok (.invokevirtual 141, 3) := by decide +kernel
theorem dX8_addThingFrom_63 : decode cX8_addThingFrom 63 = .ok (.ifCond .ne 5, 3) := by decide +kernel
theorem dX8_addThingFrom_66 : decode cX8_addThingFrom 66 = .ok (.iconst 0, 1) := by decide +kernel
theorem dX8_addThingFrom_67 : decode cX8_addThingFrom 67 = .ok (.ireturn, 1) := by decide +kernel
theorem dX8_addThingFrom_68 : decode cX8_addThingFrom 68 = .ok (.aload_n 0, 1) := by decide +kernel
theorem dX8_addThingFrom_69 : decode cX8_addThingFrom 69 = .ok (.getfield 18, 3) := by decide +kernel
theorem dX8_addThingFrom_72 : decode cX8_addThingFrom 72 = .ok (.iload_n 3, 1) := by decide +kernel
theorem dX8_addThingFrom_73 : decode cX8_addThingFrom 73 = .ok (.iload 4, 2) := by decide +kernel
theorem dX8_addThingFrom_75 : decode cX8_addThingFrom 75 = .ok (.iload 5, 2) := by decide +kernel
theorem dX8_addThingFrom_77 : decode cX8_addThingFrom 77 = .ok (.invokevirtual 144, 3) := by decide +kernel
theorem dX8_addThingFrom_80 : decode cX8_addThingFrom 80 = .ok (.pop, 1) := by decide +kernel
theorem dX8_addThingFrom_81 : decode cX8_addThingFrom 81 = .ok (.iconst 1, 1) := by decide +kernel
theorem dX8_addThingFrom_82 : decode cX8_addThingFrom 82 = .ok (.ireturn, 1) := by decide +kernel
theorem dX8_askHour_0 : decode cX8_askHour 0 = .ok (.aload_n 0, 1) := by decide +kernel
theorem dX8_askHour_1 : decode cX8_askHour 1 = .ok (.getfield 18, 3) := by decide +kernel
theorem dX8_askHour_4 : decode cX8_askHour 4 = .ok (.getfield 337, 3) := by decide +kernel
theorem dX8_askHour_7 : decode cX8_askHour 7 = .ok (.istore_n 2, 1) := by decide +kernel
theorem dX8_askHour_8 : decode cX8_askHour 8 = .ok (.aload_n 0, 1) := by decide +kernel
theorem dX8_askHour_9 : decode cX8_askHour 9 = .ok (.getfield 18, 3) := by decide +kernel
theorem dX8_askHour_12 : decode cX8_askHour 12 = .ok (.iload_n 1, 1) := by decide +kernel
theorem dX8_askHour_13 : decode cX8_askHour 13 = .ok (.putfield 337, 3) := by decide +kernel
theorem dX8_askHour_16 : decode cX8_askHour 16 = .ok (.iload_n 2, 1) := by decide +kernel
theorem dX8_askHour_17 : decode cX8_askHour 17 = .ok (.ireturn, 1) := by decide +kernel
theorem dX8_askSnow_0 : decode cX8_askSnow 0 = .ok (.aload_n 0, 1) := by decide +kernel
theorem dX8_askSnow_1 : decode cX8_askSnow 1 = .ok (.getfield 18, 3) := by decide +kernel
theorem dX8_askSnow_4 : decode cX8_askSnow 4 = .ok (.getfield 340, 3) := by decide +kernel
theorem dX8_askSnow_7 : decode cX8_askSnow 7 = .ok (.ifCond .eq 7, 3) := by decide +kernel
theorem dX8_askSnow_10 : decode cX8_askSnow 10 = .ok (.iconst 1, 1) := by decide +kernel
theorem dX8_askSnow_11 : decode cX8_askSnow 11 = .ok (.goto 4, 3) := by decide +kernel
theorem dX8_askSnow_14 : decode cX8_askSnow 14 = .ok (.iconst 0, 1) := by decide +kernel
theorem dX8_askSnow_15 : decode cX8_askSnow 15 = .ok (.istore_n 2, 1) := by decide +kernel
theorem dX8_askSnow_16 : decode cX8_askSnow 16 = .ok (.aload_n 0, 1) := by decide +kernel
theorem dX8_askSnow_17 : decode cX8_askSnow 17 = .ok (.getfield 18, 3) := by decide +kernel
theorem dX8_askSnow_20 : decode cX8_askSnow 20 = .ok (.iload_n 1, 1) := by decide +kernel
theorem dX8_askSnow_21 : decode cX8_askSnow 21 = .ok (.iconst 1, 1) := by decide +kernel
theorem dX8_askSnow_22 : decode cX8_askSnow 22 = .ok (.if_icmp .ne 7, 3) := by decide +kernel
theorem dX8_askSnow_25 : decode cX8_askSnow 25 = .ok (.iconst 1, 1) := by decide +kernel
theorem dX8_askSnow_26 : decode cX8_askSnow 26 = .ok (.goto 4, 3) := by decide +kernel
theorem dX8_askSnow_29 : decode cX8_askSnow 29 = .ok (.iconst 0, 1) := by decide +kernel
theorem dX8_askSnow_30 : decode cX8_askSnow 30 = .ok (.putfield 340, 3) := by decide +kernel
theorem dX8_askSnow_33 : decode cX8_askSnow 33 = .ok (.iload_n 2, 1) := by decide +kernel
theorem dX8_askSnow_34 : decode cX8_askSnow 34 = .ok (.ireturn, 1) := by decide +kernel
theorem dX8_askArc_0 : decode cX8_askArc 0 = .ok (.aload_n 0, 1) := by decide +kernel
theorem dX8_askArc_1 : decode cX8_askArc 1 = .ok (.getfield 18, 3) := by decide +kernel
theorem dX8_askArc_4 : decode cX8_askArc 4 = .ok (.getfield 343, 3) := by decide +kernel
theorem dX8_askArc_7 : decode cX8_askArc 7 = .ok (.istore_n 2, 1) := by decide +kernel
theorem dX8_askArc_8 : decode cX8_askArc 8 = .ok (.aload_n 0, 1) := by decide +kernel
theorem dX8_askArc_9 : decode cX8_askArc 9 = .ok (.getfield 18, 3) := by decide +kernel
theorem dX8_askArc_12 : decode cX8_askArc 12 = .ok (.iload_n 1, 1) := by decide +kernel
theorem dX8_askArc_13 : decode cX8_askArc 13 = .ok (.putfield 343, 3) := by decide +kernel
theorem dX8_askArc_16 : decode cX8_askArc 16 = .ok (.iload_n 2, 1) := by decide +kernel
theorem dX8_askArc_17 : decode cX8_askArc 17 = .ok (.ireturn, 1) := by decide +kernel
theorem dX8_tryNews_0 : decode cX8_tryNews 0 = .ok (.aload_n 0, 1) := by decide +kernel
theorem dX8_tryNews_1 : decode cX8_tryNews 1 = .ok (.getfield 22, 3) := by decide +kernel
theorem dX8_tryNews_4 : decode cX8_tryNews 4 = .ok (.aload_n 0, 1) := by decide +kernel
theorem dX8_tryNews_5 : decode cX8_tryNews 5 = .ok (.getfield 18, 3) := by decide +kernel
theorem dX8_tryNews_8 : decode cX8_tryNews 8 = .ok (.invokevirtual 198, 3) := by decide +kernel
theorem dX8_tryNews_11 : decode cX8_tryNews 11 = .ok (.iconst 0, 1) := by decide +kernel
theorem dX8_tryNews_12 : decode cX8_tryNews 12 = .ok (.istore_n 3, 1) := by decide +kernel
theorem dX8_tryNews_13 : decode cX8_tryNews 13 = .ok (.iload_n 3, 1) := by decide +kernel
theorem dX8_tryNews_14 : decode cX8_tryNews 14 = .ok (.iload_n 2, 1) := by decide +kernel
theorem dX8_tryNews_15 : decode cX8_tryNews 15 = .ok (.if_icmp .ge 26, 3) := by decide +kernel
theorem dX8_tryNews_18 : decode cX8_tryNews 18 = .ok (.aload_n 0, 1) := by decide +kernel
theorem dX8_tryNews_19 : decode cX8_tryNews 19 = .ok (.getfield 22, 3) := by decide +kernel
theorem dX8_tryNews_22 : decode cX8_tryNews 22 = .ok (.aload_n 1, 1) := by decide +kernel
theorem dX8_tryNews_23 : decode cX8_tryNews 23 = .ok (.iload_n 3, 1) := by decide +kernel
theorem dX8_tryNews_24 : decode cX8_tryNews 24 = .ok (.invokevirtual 355, 3) := by decide +kernel
theorem dX8_tryNews_27 : decode cX8_tryNews 27 = .ok (.invokevirtual 358, 3) := by decide +kernel
theorem dX8_tryNews_30 : decode cX8_tryNews 30 = .ok (.ifCond .ne 5, 3) := by decide +kernel
theorem dX8_tryNews_33 : decode cX8_tryNews 33 = .ok (.iload_n 3, 1) := by decide +kernel
theorem dX8_tryNews_34 : decode cX8_tryNews 34 = .ok (.ireturn, 1) := by decide +kernel
theorem dX8_tryNews_35 : decode cX8_tryNews 35 = .ok (.iinc 3 1, 3) := by decide +kernel
theorem dX8_tryNews_38 : decode cX8_tryNews 38 = .ok (.goto (-25), 3) := by decide +kernel
theorem dX8_tryNews_41 : decode cX8_tryNews 41 = .ok (.iconst (-1), 1) := by decide +kernel
theorem dX8_tryNews_42 : decode cX8_tryNews 42 = .ok (.ireturn, 1) := by decide +kernel
theorem dX8_driftedBy_0 : decode cX8_driftedBy 0 = .ok (.aload_n 0, 1) := by decide +kernel
theorem dX8_driftedBy_1 : decode cX8_driftedBy 1 = .ok (.getfield 54, 3) := by decide +kernel
theorem dX8_driftedBy_4 : decode cX8_driftedBy 4 = .ok (.lconst 0, 1) := by decide +kernel
theorem dX8_driftedBy_5 : decode cX8_driftedBy 5 = .ok (.invokestatic 361, 3) := by decide +kernel
theorem dX8_driftedBy_8 : decode cX8_driftedBy 8 = .ok (.aload_n 0, 1) := by decide +kernel
theorem dX8_driftedBy_9 : decode cX8_driftedBy 9 = .ok (.getfield 54, 3) := by decide +kernel
theorem dX8_driftedBy_12 : decode cX8_driftedBy 12 = .ok (.iconst 0, 1) := by decide +kernel
theorem dX8_driftedBy_13 : decode cX8_driftedBy 13 = .ok (.lconst 1, 1) := by decide +kernel
theorem dX8_driftedBy_14 : decode cX8_driftedBy 14 = .ok (.lastore, 1) := by decide +kernel
theorem dX8_driftedBy_15 : decode cX8_driftedBy 15 = .ok (.bipush 10, 2) := by decide +kernel
theorem dX8_driftedBy_17 : decode cX8_driftedBy 17 = .ok (.iload_n 2, 1) := by decide +kernel
theorem dX8_driftedBy_18 : decode cX8_driftedBy 18 = .ok (.isub, 1) := by decide +kernel
theorem dX8_driftedBy_19 : decode cX8_driftedBy 19 = .ok (.iload_n 3, 1) := by decide +kernel
theorem dX8_driftedBy_20 : decode cX8_driftedBy 20 = .ok (.isub, 1) := by decide +kernel
theorem dX8_driftedBy_21 : decode cX8_driftedBy 21 = .ok (.istore 5, 2) := by decide +kernel
theorem dX8_driftedBy_23 : decode cX8_driftedBy 23 = .ok (.iconst 0, 1) := by decide +kernel
theorem dX8_driftedBy_24 : decode cX8_driftedBy 24 = .ok (.istore 6, 2) := by decide +kernel
theorem dX8_driftedBy_26 : decode cX8_driftedBy 26 = .ok (.iload 6, 2) := by decide +kernel
theorem dX8_driftedBy_28 : decode cX8_driftedBy 28 = .ok (.iload_n 1, 1) := by decide +kernel
theorem dX8_driftedBy_29 : decode cX8_driftedBy 29 = .ok (.if_icmp .ge 70, 3) := by decide +kernel
theorem dX8_driftedBy_32 : decode cX8_driftedBy 32 = .ok (.aload_n 0, 1) := by decide +kernel
theorem dX8_driftedBy_33 : decode cX8_driftedBy 33 = .ok (.getfield 54, 3) := by decide +kernel
theorem dX8_driftedBy_36 : decode cX8_driftedBy 36 = .ok (.arraylength, 1) := by decide +kernel
theorem dX8_driftedBy_37 : decode cX8_driftedBy 37 = .ok (.iconst 1, 1) := by decide +kernel
theorem dX8_driftedBy_38 : decode cX8_driftedBy 38 = .ok (.isub, 1) := by decide +kernel
theorem dX8_driftedBy_39 : decode cX8_driftedBy 39 = .ok (.istore 7, 2) := by decide +kernel
theorem dX8_driftedBy_41 : decode cX8_driftedBy 41 = .ok (.iload 7, 2) := by decide +kernel
theorem dX8_driftedBy_43 : decode cX8_driftedBy 43 = .ok (.ifCond .lt 50, 3) := by decide +kernel
theorem dX8_driftedBy_46 : decode cX8_driftedBy 46 = .ok (.aload_n 0, 1) := by decide +kernel
theorem dX8_driftedBy_47 : decode cX8_driftedBy 47 = .ok (.getfield 54, 3) := by decide +kernel
theorem dX8_driftedBy_50 : decode cX8_driftedBy 50 = .ok (.iload 7, 2) := by decide +kernel
theorem dX8_driftedBy_52 : decode cX8_driftedBy 52 = .ok (.iload_n 2, 1) := by decide +kernel
theorem dX8_driftedBy_53 : decode cX8_driftedBy 53 = .ok (.i2l, 1) := by decide +kernel
theorem dX8_driftedBy_54 : decode cX8_driftedBy 54 = .ok (.aload_n 0, 1) := by decide +kernel
theorem dX8_driftedBy_55 : decode cX8_driftedBy 55 = .ok (.iload 7, 2) := by decide +kernel
theorem dX8_driftedBy_57 : decode cX8_driftedBy 57 = .ok (.invokevirtual 367, 3) := by decide +kernel
theorem dX8_driftedBy_60 : decode cX8_driftedBy 60 = .ok (.lmul, 1) := by decide +kernel
theorem dX8_driftedBy_61 : decode cX8_driftedBy 61 = .ok (.iload 5, 2) := by decide +kernel
theorem dX8_driftedBy_63 : decode cX8_driftedBy 63 = .ok (.i2l, 1) := by decide +kernel
theorem dX8_driftedBy_64 : decode cX8_driftedBy 64 = .ok (.aload_n 0, 1) := by decide +kernel
theorem dX8_driftedBy_65 : decode cX8_driftedBy 65 = .ok (.iload 7, 2) := by decide +kernel
theorem dX8_driftedBy_67 : decode cX8_driftedBy 67 = .ok (.iconst 1, 1) := by decide +kernel
theorem dX8_driftedBy_68 : decode cX8_driftedBy 68 = .ok (.isub, 1) := by decide +kernel
theorem dX8_driftedBy_69 : decode cX8_driftedBy 69 = .ok (.invokevirtual 367, 3) := by decide +kernel
theorem dX8_driftedBy_72 : decode cX8_driftedBy 72 = .ok (.lmul, 1) := by decide +kernel
theorem dX8_driftedBy_73 : decode cX8_driftedBy 73 = .ok (.ladd, 1) := by decide +kernel
theorem dX8_driftedBy_74 : decode cX8_driftedBy 74 = .ok (.iload_n 3, 1) := by decide +kernel
theorem dX8_driftedBy_75 : decode cX8_driftedBy 75 = .ok (.i2l, 1) := by decide +kernel
theorem dX8_driftedBy_76 : decode cX8_driftedBy 76 = .ok (.aload_n 0, 1) := by decide +kernel
theorem dX8_driftedBy_77 : decode cX8_driftedBy 77 = .ok (.iload 7, 2) := by decide +kernel
theorem dX8_driftedBy_79 : decode cX8_driftedBy 79 = .ok (.iconst 2, 1) := by decide +kernel
theorem dX8_driftedBy_80 : decode cX8_driftedBy 80 = .ok (.isub, 1) := by decide +kernel
theorem dX8_driftedBy_81 : decode cX8_driftedBy 81 = .ok (.invokevirtual 367, 3) := by decide +kernel
theorem dX8_driftedBy_84 : decode cX8_driftedBy 84 = .ok (.lmul, 1) := by decide +kernel
theorem dX8_driftedBy_85 : decode cX8_driftedBy 85 = .ok (.ladd, 1) := by decide +kernel
theorem dX8_driftedBy_86 : decode cX8_driftedBy 86 = .ok (.lastore, 1) := by decide +kernel
theorem dX8_driftedBy_87 : decode cX8_driftedBy 87 = .ok (.iinc 7 (-1), 3) := by decide +kernel
theorem dX8_driftedBy_90 : decode cX8_driftedBy 90 = .ok (.goto (-49), 3) := by decide +kernel
theorem dX8_driftedBy_93 : decode cX8_driftedBy 93 = .ok (.iinc 6 1, 3) := by decide +kernel
theorem dX8_driftedBy_96 : decode cX8_driftedBy 96 = .ok (.goto (-70), 3) := by decide +kernel
theorem dX8_driftedBy_99 : decode cX8_driftedBy 99 = .ok (.aload_n 0, 1) := by decide +kernel
theorem dX8_driftedBy_100 : decode cX8_driftedBy 100 = .ok (.iload_n 1, 1) := by decide +kernel
theorem dX8_driftedBy_101 : decode cX8_driftedBy 101 = .ok (.iload 4, 2) := by decide +kernel
theorem dX8_driftedBy_103 : decode cX8_driftedBy 103 = .ok (.iadd, 1) := by decide +kernel
theorem dX8_driftedBy_104 : decode cX8_driftedBy 104 = .ok (.invokevirtual 367, 3) := by decide +kernel
theorem dX8_driftedBy_107 : decode cX8_driftedBy 107 = .ok (.lreturn, 1) := by decide +kernel
theorem dX8_driftAt_0 : decode cX8_driftAt 0 = .ok (.iload_n 1, 1) := by decide +kernel
theorem dX8_driftAt_1 : decode cX8_driftAt 1 = .ok (.ifCond .lt 12, 3) := by decide +kernel
theorem dX8_driftAt_4 : decode cX8_driftAt 4 = .ok (.iload_n 1, 1) := by decide +kernel
theorem dX8_driftAt_5 : decode cX8_driftAt 5 = .ok (.aload_n 0, 1) := by decide +kernel
theorem dX8_driftAt_6 : decode cX8_driftAt 6 = .ok (.getfield 54, 3) := by decide +kernel
theorem dX8_driftAt_9 : decode cX8_driftAt 9 = .ok (.arraylength, 1) := by decide +kernel
theorem dX8_driftAt_10 : decode cX8_driftAt 10 = .ok (.if_icmp .lt 7, 3) := by decide +kernel
theorem dX8_driftAt_13 : decode cX8_driftAt 13 = .ok (.lconst 0, 1) := by decide +kernel
theorem dX8_driftAt_14 : decode cX8_driftAt 14 = .ok (.goto 9, 3) := by decide +kernel
theorem dX8_driftAt_17 : decode cX8_driftAt 17 = .ok (.aload_n 0, 1) := by decide +kernel
theorem dX8_driftAt_18 : decode cX8_driftAt 18 = .ok (.getfield 54, 3) := by decide +kernel
theorem dX8_driftAt_21 : decode cX8_driftAt 21 = .ok (.iload_n 1, 1) := by decide +kernel
theorem dX8_driftAt_22 : decode cX8_driftAt 22 = .ok (.laload, 1) := by decide +kernel
theorem dX8_driftAt_23 : decode cX8_driftAt 23 = .ok (.lreturn, 1) := by decide +kernel
theorem dX8_knownOfHundred_0 : decode cX8_knownOfHundred 0 = .ok (.bipush 100, 2) := by decide +kernel
theorem dX8_knownOfHundred_2 : decode cX8_knownOfHundred 2 = .ok (.istore_n 2, 1) := by decide +kernel
theorem dX8_knownOfHundred_3 : decode cX8_knownOfHundred 3 = .ok (.iconst 0, 1) := by decide +kernel
theorem dX8_knownOfHundred_4 : decode cX8_knownOfHundred 4 = .ok (.istore_n 3, 1) := by decide +kernel
theorem dX8_knownOfHundred_5 : decode cX8_knownOfHundred 5 = .ok (.iload_n 3, 1) := by decide +kernel
theorem dX8_knownOfHundred_6 : decode cX8_knownOfHundred 6 = .ok (.iload_n 0, 1) := by decide +kernel
theorem dX8_knownOfHundred_7 : decode cX8_knownOfHundred 7 = .ok (.if_icmp .ge 19, 3) := by decide +kernel
theorem dX8_knownOfHundred_10 : decode cX8_knownOfHundred 10 = .ok (.iload_n 2, 1) := by decide +kernel
theorem dX8_knownOfHundred_11 : decode cX8_knownOfHundred 11 = .ok (.ifCond .le 15, 3) := by decide +kernel
theorem dX8_knownOfHundred_14 : decode cX8_knownOfHundred 14 = .ok (.iload_n 2, 1) := by decide +kernel
theorem dX8_knownOfHundred_15 : decode cX8_knownOfHundred 15 = .ok (.iconst 3, 1) := by decide +kernel
theorem dX8_knownOfHundred_16 : decode cX8_knownOfHundred 16 = .ok (.imul, 1) := by decide +kernel
theorem dX8_knownOfHundred_17 : decode cX8_knownOfHundred 17 = .ok (.iconst 4, 1) := by decide +kernel
theorem dX8_knownOfHundred_18 : decode cX8_knownOfHundred 18 = .ok (.idiv, 1) := by decide +kernel
theorem dX8_knownOfHundred_19 : decode cX8_knownOfHundred 19 = .ok (.istore_n 2, 1) := by decide +kernel
theorem dX8_knownOfHundred_20 : decode cX8_knownOfHundred 20 = .ok (.iinc 3 1, 3) := by decide +kernel
theorem dX8_knownOfHundred_23 : decode cX8_knownOfHundred 23 = .ok (.goto (-18), 3) := by decide +kernel
theorem dX8_knownOfHundred_26 : decode cX8_knownOfHundred 26 = .ok (.bipush 100, 2) := by decide +kernel
theorem dX8_knownOfHundred_28 : decode cX8_knownOfHundred 28 = .ok (.iload_n 2, 1) := by decide +kernel
theorem dX8_knownOfHundred_29 : decode cX8_knownOfHundred 29 = .ok (.isub, 1) := by decide +kernel
theorem dX8_knownOfHundred_30 : decode cX8_knownOfHundred 30 = .ok (.istore_n 3, 1) := by decide +kernel
theorem dX8_knownOfHundred_31 : decode cX8_knownOfHundred 31 = .ok (.iconst 0, 1) := by decide +kernel
theorem dX8_knownOfHundred_32 : decode cX8_knownOfHundred 32 = .ok (.istore 4, 2) := by decide +kernel
theorem dX8_knownOfHundred_34 : decode cX8_knownOfHundred 34 = .ok (.iload 4, 2) := by decide +kernel
theorem dX8_knownOfHundred_36 : decode cX8_knownOfHundred 36 = .ok (.iload_n 1, 1) := by decide +kernel
theorem dX8_knownOfHundred_37 : decode cX8_knownOfHundred 37 = .ok (.if_icmp .ge 25, 3) := by decide +kernel
theorem dX8_knownOfHundred_40 : decode cX8_knownOfHundred 40 = .ok (.iload_n 3, 1) := by decide +kernel
theorem dX8_knownOfHundred_41 : decode cX8_knownOfHundred 41 = .ok (.ifCond .le 21, 3) := by decide +kernel
theorem dX8_knownOfHundred_44 : decode cX8_knownOfHundred 44 = .ok (.iload_n 3, 1) := by decide +kernel
theorem dX8_knownOfHundred_45 : decode cX8_knownOfHundred 45 = .ok (.iload_n 3, 1) := by decide +kernel
theorem dX8_knownOfHundred_46 : decode cX8_knownOfHundred 46 = .ok (.bipush 10, 2) := by decide +kernel
theorem dX8_knownOfHundred_48 : decode cX8_knownOfHundred 48 = .ok (.iadd, 1) := by decide +kernel
theorem dX8_knownOfHundred_49 : decode cX8_knownOfHundred 49 = .ok (.iconst 1, 1) := by decide +kernel
theorem dX8_knownOfHundred_50 : decode cX8_knownOfHundred 50 = .ok (.isub, 1) := by decide +kernel
theorem dX8_knownOfHundred_51 : decode cX8_knownOfHundred 51 = .ok (.bipush 10, 2) := by decide +kernel
theorem dX8_knownOfHundred_53 : decode cX8_knownOfHundred 53 = .ok (.idiv, 1) := by decide +kernel
theorem dX8_knownOfHundred_54 : decode cX8_knownOfHundred 54 = .ok (.isub, 1) := by decide +kernel
theorem dX8_knownOfHundred_55 : decode cX8_knownOfHundred 55 = .ok (.istore_n 3, 1) := by decide +kernel
theorem dX8_knownOfHundred_56 : decode cX8_knownOfHundred 56 = .ok (.iinc 4 1, 3) := by decide +kernel
theorem dX8_knownOfHundred_59 : decode cX8_knownOfHundred 59 = .ok (.goto (-25), 3) := by decide +kernel
theorem dX8_knownOfHundred_62 : decode cX8_knownOfHundred 62 = .ok (.iload_n 3, 1) := by decide +kernel
theorem dX8_knownOfHundred_63 : decode cX8_knownOfHundred 63 = .ok (.ireturn, 1) := by decide +kernel
theorem dX8_seedBehind_0 : decode cX8_seedBehind 0 = .ok (.iload_n 0, 1) := by decide +kernel
theorem dX8_seedBehind_1 : decode cX8_seedBehind 1 = .ok (.ldc_w 370, 3) := by decide +kernel
theorem dX8_seedBehind_4 : decode cX8_seedBehind 4 = .ok (.imul, 1) := by decide +kernel
theorem dX8_seedBehind_5 : decode cX8_seedBehind 5 = .ok (.sipush 12345, 3) := by decide +kernel
theorem dX8_seedBehind_8 : decode cX8_seedBehind 8 = .ok (.iadd, 1) := by decide +kernel
theorem dX8_seedBehind_9 : decode cX8_seedBehind 9 = .ok (.ireturn, 1) := by decide +kernel
theorem dX8_drawOf_0 : decode cX8_drawOf 0 = .ok (.iload_n 0, 1) := by decide +kernel
theorem dX8_drawOf_1 : decode cX8_drawOf 1 = .ok (.bipush 16, 2) := by decide +kernel
theorem dX8_drawOf_3 : decode cX8_drawOf 3 = .ok (.iushr, 1) := by decide +kernel
theorem dX8_drawOf_4 : decode cX8_drawOf 4 = .ok (.bipush 10, 2) := by decide +kernel
theorem dX8_drawOf_6 : decode cX8_drawOf 6 = .ok (.irem, 1) := by decide +kernel
theorem dX8_drawOf_7 : decode cX8_drawOf 7 = .ok (.ireturn, 1) := by decide +kernel
theorem dX8_kindWithBody_0 : decode cX8_kindWithBody 0 = .ok (.iload_n 0, 1) := by decide +kernel
theorem dX8_kindWithBody_1 : decode cX8_kindWithBody 1 = .ok (.istore_n 2, 1) := by decide +kernel
theorem dX8_kindWithBody_2 : decode cX8_kindWithBody 2 = .ok (.iconst 0, 1) := by decide +kernel
theorem dX8_kindWithBody_3 : decode cX8_kindWithBody 3 = .ok (.istore_n 3, 1) := by decide +kernel
theorem dX8_kindWithBody_4 : decode cX8_kindWithBody 4 = .ok (.iload_n 3, 1) := by decide +kernel
theorem dX8_kindWithBody_5 : decode cX8_kindWithBody 5 = .ok (.bipush 7, 2) := by decide +kernel
theorem dX8_kindWithBody_7 : decode cX8_kindWithBody 7 = .ok (.if_icmp .ge 35, 3) := by decide +kernel
theorem dX8_kindWithBody_10 : decode cX8_kindWithBody 10 = .ok (.iload_n 2, 1) := by decide +kernel
theorem dX8_kindWithBody_11 : decode cX8_kindWithBody 11 = .ok (.ifCond .le 31, 3) := by decide +kernel
theorem dX8_kindWithBody_14 : decode cX8_kindWithBody 14 = .ok (.iload_n 2, 1) := by decide +kernel
theorem dX8_kindWithBody_15 : decode cX8_kindWithBody 15 = .ok (.bipush 7, 2) := by decide +kernel
theorem dX8_kindWithBody_17 : decode cX8_kindWithBody 17 = .ok (.if_icmp .ge 25, 3) := by decide +kernel
theorem dX8_kindWithBody_20 : decode cX8_kindWithBody 20 = .ok (.iload_n 2, 1) := by decide +kernel
theorem dX8_kindWithBody_21 : decode cX8_kindWithBody 21 = .ok (.iload_n 1, 1) := by decide +kernel
theorem dX8_kindWithBody_22 : decode cX8_kindWithBody 22 = .ok (.invokestatic 371, 3) := by decide +kernel
theorem dX8_kindWithBody_25 : decode cX8_kindWithBody 25 = .ok (.ifCond .eq 5, 3) := by decide +kernel
theorem dX8_kindWithBody_28 : decode cX8_kindWithBody 28 = .ok (.iload_n 2, 1) := by decide +kernel
theorem dX8_kindWithBody_29 : decode cX8_kindWithBody 29 = .ok (.ireturn, 1) := by decide +kernel
theorem dX8_kindWithBody_30 : decode cX8_kindWithBody 30 = .ok (.getstatic 374, 3) := by decide +kernel
theorem dX8_kindWithBody_33 : decode cX8_kindWithBody 33 = .ok (.iload_n 2, 1) := by decide +kernel
theorem dX8_kindWithBody_34 : decode cX8_kindWithBody 34 = .ok (.iaload, 1) := by decide +kernel
theorem dX8_kindWithBody_35 : decode cX8_kindWithBody 35 = .ok (.istore_n 2, 1) := by decide +kernel
theorem dX8_kindWithBody_36 : decode cX8_kindWithBody 36 = .ok (.iinc 3 1, 3) := by decide +kernel
theorem dX8_kindWithBody_39 : decode cX8_kindWithBody 39 = .ok (.goto (-35), 3) := by decide +kernel
theorem dX8_kindWithBody_42 : decode cX8_kindWithBody 42 = .ok (.iconst 0, 1) := by decide +kernel
theorem dX8_kindWithBody_43 : decode cX8_kindWithBody 43 = .ok (.ireturn, 1) := by decide +kernel
theorem dX8_bodyOf_0 : decode cX8_bodyOf 0 = .ok (.iload_n 0, 1) := by decide +kernel
theorem dX8_bodyOf_1 : decode cX8_bodyOf 1 = .ok (.iconst 3, 1) := by decide +kernel
theorem dX8_bodyOf_2 : decode cX8_bodyOf 2 = .ok (.imul, 1) := by decide +kernel
theorem dX8_bodyOf_3 : decode cX8_bodyOf 3 = .ok (.iload_n 1, 1) := by decide +kernel
theorem dX8_bodyOf_4 : decode cX8_bodyOf 4 = .ok (.iadd, 1) := by decide +kernel
theorem dX8_bodyOf_5 : decode cX8_bodyOf 5 = .ok (.istore_n 2, 1) := by decide +kernel
theorem dX8_bodyOf_6 : decode cX8_bodyOf 6 = .ok (.iload_n 2, 1) := by decide +kernel
theorem dX8_bodyOf_7 : decode cX8_bodyOf 7 = .ok (.ifCond .lt 11, 3) := by decide +kernel
theorem dX8_bodyOf_10 : decode cX8_bodyOf 10 = .ok (.iload_n 2, 1) := by decide +kernel
theorem dX8_bodyOf_11 : decode cX8_bodyOf 11 = .ok (.getstatic 377, 3) := by decide +kernel
theorem dX8_bodyOf_14 : decode cX8_bodyOf 14 = .ok (.arraylength, 1) := by decide +kernel
theorem dX8_bodyOf_15 : decode cX8_bodyOf 15 = .ok (.if_icmp .lt 7, 3) := by decide +kernel
theorem dX8_bodyOf_18 : decode cX8_bodyOf 18 = .ok (.iconst 0, 1) := by decide +kernel
theorem dX8_bodyOf_19 : decode cX8_bodyOf 19 = .ok (.goto 8, 3) := by decide +kernel
theorem dX8_bodyOf_22 : decode cX8_bodyOf 22 = .ok (.getstatic 377, 3) := by decide +kernel
theorem dX8_bodyOf_25 : decode cX8_bodyOf 25 = .ok (.iload_n 2, 1) := by decide +kernel
theorem dX8_bodyOf_26 : decode cX8_bodyOf 26 = .ok (.iaload, 1) := by decide +kernel
theorem dX8_bodyOf_27 : decode cX8_bodyOf 27 = .ok (.ireturn, 1) := by decide +kernel
theorem dX8_perform_0 : decode cX8_perform 0 = .ok (.iload 5, 2) := by decide +kernel
theorem dX8_perform_2 : decode cX8_perform 2 = .ok (.bipush 21, 2) := by decide +kernel
theorem dX8_perform_4 : decode cX8_perform 4 = .ok (.if_icmp .le 5, 3) := by decide +kernel
theorem dX8_perform_7 : decode cX8_perform 7 = .ok (.iconst 0, 1) := by decide +kernel
theorem dX8_perform_8 : decode cX8_perform 8 = .ok (.ireturn, 1) := by decide +kernel
theorem dX8_perform_9 : decode cX8_perform 9 = .ok (.iload_n 1, 1) := by decide +kernel
theorem dX8_perform_10 : decode cX8_perform 10 = .ok (.iload_n 2, 1) := by decide +kernel
theorem dX8_perform_11 : decode cX8_perform 11 = .ok (.invokestatic 380, 3) := by decide +kernel
theorem dX8_perform_14 : decode cX8_perform 14 = .ok (.istore 6, 2) := by decide +kernel
theorem dX8_perform_16 : decode cX8_perform 16 = .ok (.iload 6, 2) := by decide +kernel
theorem dX8_perform_18 : decode cX8_perform 18 = .ok (.ifCond .le 19, 3) := by decide +kernel
theorem dX8_perform_21 : decode cX8_perform 21 = .ok (.iload 6, 2) := by decide +kernel
theorem dX8_perform_23 : decode cX8_perform 23 = .ok (.bipush 7, 2) := by decide +kernel
theorem dX8_perform_25 : decode cX8_perform 25 = .ok (.if_icmp .ge 12, 3) := by decide +kernel
theorem dX8_perform_28 : decode cX8_perform 28 = .ok (.getstatic 374, 3) := by decide +kernel
theorem dX8_perform_31 : decode cX8_perform 31 = .ok (.iload 6, 2) := by decide +kernel
theorem dX8_perform_33 : decode cX8_perform 33 = .ok (.iaload, 1) := by decide +kernel
theorem dX8_perform_34 : decode cX8_perform 34 = .ok (.goto 4, 3) := by decide +kernel
theorem dX8_perform_37 : decode cX8_perform 37 = .ok (.iconst 0, 1) := by decide +kernel
theorem dX8_perform_38 : decode cX8_perform 38 = .ok (.istore 7, 2) := by decide +kernel
theorem dX8_perform_40 : decode cX8_perform 40 = .ok (.iload 6, 2) := by decide +kernel
theorem dX8_perform_42 : decode cX8_perform 42 = .ok (.iload_n 2, 1) := by decide +kernel
theorem dX8_perform_43 : decode cX8_perform 43 = .ok (.invokestatic 371, 3) := by decide +kernel
theorem dX8_perform_46 : decode cX8_perform 46 = .ok (.istore 8, 2) := by decide +kernel
theorem dX8_perform_48 : decode cX8_perform 48 = .ok (.iload 5, 2) := by decide +kernel
theorem dX8_perform_50 : decode cX8_perform 50 = .ok (.iconst 1, 1) := by decide +kernel
theorem dX8_perform_51 : decode cX8_perform 51 = .ok (.iadd, 1) := by decide +kernel
theorem dX8_perform_52 : decode cX8_perform 52 = .ok (.istore 9, 2) := by decide +kernel
theorem dX8_perform_54 : decode cX8_perform 54 = .ok (.aload 4, 2) := by decide +kernel
theorem dX8_perform_56 : decode cX8_perform 56 = .ok (.iload 8, 2) := by decide +kernel
theorem dX8_perform_58 : decode cX8_perform 58 = .ok (.invokevirtual 383, 3) := by decide +kernel
theorem dX8_perform_61 : decode cX8_perform 61 = .ok (.iload 8, 2) := by decide +kernel
theorem dX8_perform_63 : decode cX8_perform 63 = .ok (.lookupswitch 284 #[(10, 97), (11, 104), (12, 121), (20, 156), (30, 174), (40, 189), (41, 204), (50, 222), (60, 236), (70, 251), (71, 266)], 97) := by decide +kernel
theorem dX8_perform_160 : decode cX8_perform 160 = .ok (.iload_n 3, 1) := by decide +kernel
theorem dX8_perform_161 : decode cX8_perform 161 = .ok (.aload_n 0, 1) := by decide +kernel
theorem dX8_perform_162 : decode cX8_perform 162 = .ok (.getfield 386, 3) := by decide +kernel
theorem dX8_perform_165 : decode cX8_perform 165 = .ok (.iadd, 1) := by decide +kernel
theorem dX8_perform_166 : decode cX8_perform 166 = .ok (.ireturn, 1) := by decide +kernel
theorem dX8_perform_167 : decode cX8_perform 167 = .ok (.aload_n 0, 1) := by decide +kernel
theorem dX8_perform_168 : decode cX8_perform 168 = .ok (.aload_n 0, 1) := by decide +kernel
theorem dX8_perform_169 : decode cX8_perform 169 = .ok (.getfield 167, 3) := by decide +kernel
theorem dX8_perform_172 : decode cX8_perform 172 = .ok (.iconst 0, 1) := by decide +kernel
theorem dX8_perform_173 : decode cX8_perform 173 = .ok (.iload_n 3, 1) := by decide +kernel
theorem dX8_perform_174 : decode cX8_perform 174 = .ok (.aload 4, 2) := by decide +kernel
theorem dX8_perform_176 : decode cX8_perform 176 = .ok (.iload 9, 2) := by decide +kernel
theorem dX8_perform_178 : decode cX8_perform 178 = .ok (.invokestatic 327, 3) := by decide +kernel
theorem dX8_perform_181 : decode cX8_perform 181 = .ok (.iconst 2, 1) := by decide +kernel
theorem dX8_perform_182 : decode cX8_perform 182 = .ok (.imul, 1) := by decide +kernel
theorem dX8_perform_183 : decode cX8_perform 183 = .ok (.ireturn, 1) := by decide +kernel
theorem dX8_perform_184 : decode cX8_perform 184 = .ok (.aload_n 0, 1) := by decide +kernel
theorem dX8_perform_185 : decode cX8_perform 185 = .ok (.aload_n 0, 1) := by decide +kernel
theorem dX8_perform_186 : decode cX8_perform 186 = .ok (.getfield 167, 3) := by decide +kernel
theorem dX8_perform_189 : decode cX8_perform 189 = .ok (.iconst 1, 1) := by decide +kernel
theorem dX8_perform_190 : decode cX8_perform 190 = .ok (.iload_n 3, 1) := by decide +kernel
theorem dX8_perform_191 : decode cX8_perform 191 = .ok (.aload 4, 2) := by decide +kernel
theorem dX8_perform_193 : decode cX8_perform 193 = .ok (.iload 9, 2) := by decide +kernel
theorem dX8_perform_195 : decode cX8_perform 195 = .ok (.invokestatic 327, 3) := by decide +kernel
theorem dX8_perform_198 : decode cX8_perform 198 = .ok (.aload_n 0, 1) := by decide +kernel
theorem dX8_perform_199 : decode cX8_perform 199 = .ok (.aload_n 0, 1) := by decide +kernel
theorem dX8_perform_200 : decode cX8_perform 200 = .ok (.getfield 167, 3) := by decide +kernel
theorem dX8_perform_203 : decode cX8_perform 203 = .ok (.iconst 0, 1) := by decide +kernel
theorem dX8_perform_204 : decode cX8_perform 204 = .ok (.iload_n 3, 1) := by decide +kernel
theorem dX8_perform_205 : decode cX8_perform 205 = .ok (.aload_n 0, 1) := by decide +kernel
theorem dX8_perform_206 : decode cX8_perform 206 = .ok (.getfield 176, 3) := by decide +kernel
theorem dX8_perform_209 : decode cX8_perform 209 = .ok (.isub, 1) := by decide +kernel
theorem dX8_perform_210 : decode cX8_perform 210 = .ok (.aload 4, 2) := by decide +kernel
theorem dX8_perform_212 : decode cX8_perform 212 = .ok (.iload 9, 2) := by decide +kernel
theorem dX8_perform_214 : decode cX8_perform 214 = .ok (.invokestatic 327, 3) := by decide +kernel
theorem dX8_perform_217 : decode cX8_perform 217 = .ok (.ixor, 1) := by decide +kernel
theorem dX8_perform_218 : decode cX8_perform 218 = .ok (.ireturn, 1) := by decide +kernel
theorem dX8_perform_219 : decode cX8_perform 219 = .ok (.aload_n 0, 1) := by decide +kernel
theorem dX8_perform_220 : decode cX8_perform 220 = .ok (.iload 7, 2) := by decide +kernel
theorem dX8_perform_222 : decode cX8_perform 222 = .ok (.iconst 0, 1) := by decide +kernel
theorem dX8_perform_223 : decode cX8_perform 223 = .ok (.iload_n 3, 1) := by decide +kernel
theorem dX8_perform_224 : decode cX8_perform 224 = .ok (.aload 4, 2) := by decide +kernel
theorem dX8_perform_226 : decode cX8_perform 226 = .ok (.iload 9, 2) := by decide +kernel
theorem dX8_perform_228 : decode cX8_perform 228 = .ok (.invokestatic 327, 3) := by decide +kernel
theorem dX8_perform_231 : decode cX8_perform 231 = .ok (.aload_n 0, 1) := by decide +kernel
theorem dX8_perform_232 : decode cX8_perform 232 = .ok (.getfield 176, 3) := by decide +kernel
theorem dX8_perform_235 : decode cX8_perform 235 = .ok (.iadd, 1) := by decide +kernel
theorem dX8_perform_236 : decode cX8_perform 236 = .ok (.ireturn, 1) := by decide +kernel
theorem dX8_perform_237 : decode cX8_perform 237 = .ok (.aload_n 0, 1) := by decide +kernel
theorem dX8_perform_238 : decode cX8_perform 238 = .ok (.iload 7, 2) := by decide +kernel
theorem dX8_perform_240 : decode cX8_perform 240 = .ok (.iconst 1, 1) := by decide +kernel
theorem dX8_perform_241 : decode cX8_perform 241 = .ok (.iload_n 3, 1) := by decide +kernel
theorem dX8_perform_242 : decode cX8_perform 242 = .ok (.aload 4, 2) := by decide +kernel
theorem dX8_perform_244 : decode cX8_perform 244 = .ok (.iload 9, 2) := by decide +kernel
theorem dX8_perform_246 : decode cX8_perform 246 = .ok (.invokestatic 327, 3) := by decide +kernel
theorem dX8_perform_249 : decode cX8_perform 249 = .ok (.iconst 3, 1) := by decide +kernel
theorem dX8_perform_250 : decode cX8_perform 250 = .ok (.imul, 1) := by decide +kernel
theorem dX8_perform_251 : decode cX8_perform 251 = .ok (.ireturn, 1) := by decide +kernel
theorem dX8_perform_252 : decode cX8_perform 252 = .ok (.aload_n 0, 1) := by decide +kernel
theorem dX8_perform_253 : decode cX8_perform 253 = .ok (.iload 7, 2) := by decide +kernel
theorem dX8_perform_255 : decode cX8_perform 255 = .ok (.iconst 1, 1) := by decide +kernel
theorem dX8_perform_256 : decode cX8_perform 256 = .ok (.iload_n 3, 1) := by decide +kernel
theorem dX8_perform_257 : decode cX8_perform 257 = .ok (.iconst 1, 1) := by decide +kernel
theorem dX8_perform_258 : decode cX8_perform 258 = .ok (.iadd, 1) := by decide +kernel
theorem dX8_perform_259 : decode cX8_perform 259 = .ok (.aload 4, 2) := by decide +kernel
theorem dX8_perform_261 : decode cX8_perform 261 = .ok (.iload 9, 2) := by decide +kernel
theorem dX8_perform_263 : decode cX8_perform 263 = .ok (.invokestatic 327, 3) := by decide +kernel
theorem dX8_perform_266 : decode cX8_perform 266 = .ok (.ireturn, 1) := by decide +kernel
theorem dX8_perform_267 : decode cX8_perform 267 = .ok (.aload_n 0, 1) := by decide +kernel
theorem dX8_perform_268 : decode cX8_perform 268 = .ok (.iload 7, 2) := by decide +kernel
theorem dX8_perform_270 : decode cX8_perform 270 = .ok (.iconst 2, 1) := by decide +kernel
theorem dX8_perform_271 : decode cX8_perform 271 = .ok (.iload_n 3, 1) := by decide +kernel
theorem dX8_perform_272 : decode cX8_perform 272 = .ok (.aload 4, 2) := by decide +kernel
theorem dX8_perform_274 : decode cX8_perform 274 = .ok (.iload 9, 2) := by decide +kernel
theorem dX8_perform_276 : decode cX8_perform 276 = .ok (.invokestatic 327, 3) := by decide +kernel
theorem dX8_perform_279 : decode cX8_perform 279 = .ok (.aload_n 0, 1) := by decide +kernel
theorem dX8_perform_280 : decode cX8_perform 280 = .ok (.getfield 386, 3) := by decide +kernel
theorem dX8_perform_283 : decode cX8_perform 283 = .ok (.isub, 1) := by decide +kernel
theorem dX8_perform_284 : decode cX8_perform 284 = .ok (.ireturn, 1) := by decide +kernel
theorem dX8_perform_285 : decode cX8_perform 285 = .ok (.aload_n 0, 1) := by decide +kernel
theorem dX8_perform_286 : decode cX8_perform 286 = .ok (.iload 7, 2) := by decide +kernel
theorem dX8_perform_288 : decode cX8_perform 288 = .ok (.iconst 2, 1) := by decide +kernel
theorem dX8_perform_289 : decode cX8_perform 289 = .ok (.iload_n 3, 1) := by decide +kernel
theorem dX8_perform_290 : decode cX8_perform 290 = .ok (.aload 4, 2) := by decide +kernel
theorem dX8_perform_292 : decode cX8_perform 292 = .ok (.iload 9, 2) := by decide +kernel
theorem dX8_perform_294 : decode cX8_perform 294 = .ok (.invokestatic 327, 3) := by decide +kernel
theorem dX8_perform_297 : decode cX8_perform 297 = .ok (.ineg, 1) := by decide +kernel
theorem dX8_perform_298 : decode cX8_perform 298 = .ok (.ireturn, 1) := by decide +kernel
theorem dX8_perform_299 : decode cX8_perform 299 = .ok (.aload_n 0, 1) := by decide +kernel
theorem dX8_perform_300 : decode cX8_perform 300 = .ok (.iload 7, 2) := by decide +kernel
theorem dX8_perform_302 : decode cX8_perform 302 = .ok (.iconst 2, 1) := by decide +kernel
theorem dX8_perform_303 : decode cX8_perform 303 = .ok (.iload_n 3, 1) := by decide +kernel
theorem dX8_perform_304 : decode cX8_perform 304 = .ok (.aload 4, 2) := by decide +kernel
theorem dX8_perform_306 : decode cX8_perform 306 = .ok (.iload 9, 2) := by decide +kernel
theorem dX8_perform_308 : decode cX8_perform 308 = .ok (.invokestatic 327, 3) := by decide +kernel
theorem dX8_perform_311 : decode cX8_perform 311 = .ok (.iconst 5, 1) := by decide +kernel
theorem dX8_perform_312 : decode cX8_perform 312 = .ok (.ixor, 1) := by decide +kernel
theorem dX8_perform_313 : decode cX8_perform 313 = .ok (.ireturn, 1) := by decide +kernel
theorem dX8_perform_314 : decode cX8_perform 314 = .ok (.aload_n 0, 1) := by decide +kernel
theorem dX8_perform_315 : decode cX8_perform 315 = .ok (.iload 7, 2) := by decide +kernel
theorem dX8_perform_317 : decode cX8_perform 317 = .ok (.iconst 0, 1) := by decide +kernel
theorem dX8_perform_318 : decode cX8_perform 318 = .ok (.iload_n 3, 1) := by decide +kernel
theorem dX8_perform_319 : decode cX8_perform 319 = .ok (.aload 4, 2) := by decide +kernel
theorem dX8_perform_321 : decode cX8_perform 321 = .ok (.iload 9, 2) := by decide +kernel
theorem dX8_perform_323 : decode cX8_perform 323 = .ok (.invokestatic 327, 3) := by decide +kernel
theorem dX8_perform_326 : decode cX8_perform 326 = .ok (.iconst 2, 1) := by decide +kernel
theorem dX8_perform_327 : decode cX8_perform 327 = .ok (.imul, 1) := by decide +kernel
theorem dX8_perform_328 : decode cX8_perform 328 = .ok (.ireturn, 1) := by decide +kernel
theorem dX8_perform_329 : decode cX8_perform 329 = .ok (.aload_n 0, 1) := by decide +kernel
theorem dX8_perform_330 : decode cX8_perform 330 = .ok (.iload 7, 2) := by decide +kernel
theorem dX8_perform_332 : decode cX8_perform 332 = .ok (.iconst 1, 1) := by decide +kernel
theorem dX8_perform_333 : decode cX8_perform 333 = .ok (.iload_n 3, 1) := by decide +kernel
theorem dX8_perform_334 : decode cX8_perform 334 = .ok (.aload_n 0, 1) := by decide +kernel
theorem dX8_perform_335 : decode cX8_perform 335 = .ok (.getfield 176, 3) := by decide +kernel
theorem dX8_perform_338 : decode cX8_perform 338 = .ok (.isub, 1) := by decide +kernel
theorem dX8_perform_339 : decode cX8_perform 339 = .ok (.aload 4, 2) := by decide +kernel
theorem dX8_perform_341 : decode cX8_perform 341 = .ok (.iload 9, 2) := by decide +kernel
theorem dX8_perform_343 : decode cX8_perform 343 = .ok (.invokestatic 327, 3) := by decide +kernel
theorem dX8_perform_346 : decode cX8_perform 346 = .ok (.ireturn, 1) := by decide +kernel
theorem dX8_perform_347 : decode cX8_perform 347 = .ok (.iconst 0, 1) := by decide +kernel
theorem dX8_perform_348 : decode cX8_perform 348 = .ok (.ireturn, 1) := by decide +kernel
