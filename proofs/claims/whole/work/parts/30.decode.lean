/-! THE LISTING, instruction by instruction -/
theorem d_Nu_clear_0 : decode b_Nu_clear 0 = .ok (.aload_n 0, 1) := by decide +kernel
theorem d_Nu_clear_1 : decode b_Nu_clear 1 = .ok (.iconst 0, 1) := by decide +kernel
theorem d_Nu_clear_2 : decode b_Nu_clear 2 = .ok (.putfield 13, 3) := by decide +kernel
theorem d_Nu_clear_5 : decode b_Nu_clear 5 = .ok (.aload_n 0, 1) := by decide +kernel
theorem d_Nu_clear_6 : decode b_Nu_clear 6 = .ok (.iconst 0, 1) := by decide +kernel
theorem d_Nu_clear_7 : decode b_Nu_clear 7 = .ok (.putfield 17, 3) := by decide +kernel
theorem d_Nu_clear_10 : decode b_Nu_clear 10 = .ok (.return_, 1) := by decide +kernel
theorem d_Nu_copy_0 : decode b_Nu_copy 0 = .ok (.aload_n 0, 1) := by decide +kernel
theorem d_Nu_copy_1 : decode b_Nu_copy 1 = .ok (.aload_n 1, 1) := by decide +kernel
theorem d_Nu_copy_2 : decode b_Nu_copy 2 = .ok (.getfield 13, 3) := by decide +kernel
theorem d_Nu_copy_5 : decode b_Nu_copy 5 = .ok (.aload_n 0, 1) := by decide +kernel
theorem d_Nu_copy_6 : decode b_Nu_copy 6 = .ok (.getfield 9, 3) := by decide +kernel
theorem d_Nu_copy_9 : decode b_Nu_copy 9 = .ok (.arraylength, 1) := by decide +kernel
theorem d_Nu_copy_10 : decode b_Nu_copy 10 = .ok (.if_icmp .gt 10, 3) := by decide +kernel
theorem d_Nu_copy_13 : decode b_Nu_copy 13 = .ok (.aload_n 1, 1) := by decide +kernel
theorem d_Nu_copy_14 : decode b_Nu_copy 14 = .ok (.getfield 13, 3) := by decide +kernel
theorem d_Nu_copy_17 : decode b_Nu_copy 17 = .ok (.goto 4, 3) := by decide +kernel
theorem d_Nu_copy_20 : decode b_Nu_copy 20 = .ok (.iconst 0, 1) := by decide +kernel
theorem d_Nu_copy_21 : decode b_Nu_copy 21 = .ok (.putfield 13, 3) := by decide +kernel
theorem d_Nu_copy_24 : decode b_Nu_copy 24 = .ok (.aload_n 0, 1) := by decide +kernel
theorem d_Nu_copy_25 : decode b_Nu_copy 25 = .ok (.aload_n 0, 1) := by decide +kernel
theorem d_Nu_copy_26 : decode b_Nu_copy 26 = .ok (.getfield 13, 3) := by decide +kernel
theorem d_Nu_copy_29 : decode b_Nu_copy 29 = .ok (.ifCond .ne 7, 3) := by decide +kernel
theorem d_Nu_copy_32 : decode b_Nu_copy 32 = .ok (.iconst 0, 1) := by decide +kernel
theorem d_Nu_copy_33 : decode b_Nu_copy 33 = .ok (.goto 7, 3) := by decide +kernel
theorem d_Nu_copy_36 : decode b_Nu_copy 36 = .ok (.aload_n 1, 1) := by decide +kernel
theorem d_Nu_copy_37 : decode b_Nu_copy 37 = .ok (.getfield 17, 3) := by decide +kernel
theorem d_Nu_copy_40 : decode b_Nu_copy 40 = .ok (.putfield 17, 3) := by decide +kernel
theorem d_Nu_copy_43 : decode b_Nu_copy 43 = .ok (.aload_n 1, 1) := by decide +kernel
theorem d_Nu_copy_44 : decode b_Nu_copy 44 = .ok (.getfield 9, 3) := by decide +kernel
theorem d_Nu_copy_47 : decode b_Nu_copy 47 = .ok (.iconst 0, 1) := by decide +kernel
theorem d_Nu_copy_48 : decode b_Nu_copy 48 = .ok (.aload_n 0, 1) := by decide +kernel
theorem d_Nu_copy_49 : decode b_Nu_copy 49 = .ok (.getfield 9, 3) := by decide +kernel
theorem d_Nu_copy_52 : decode b_Nu_copy 52 = .ok (.iconst 0, 1) := by decide +kernel
theorem d_Nu_copy_53 : decode b_Nu_copy 53 = .ok (.aload_n 0, 1) := by decide +kernel
theorem d_Nu_copy_54 : decode b_Nu_copy 54 = .ok (.getfield 13, 3) := by decide +kernel
theorem d_Nu_copy_57 : decode b_Nu_copy 57 = .ok (.invokestatic 20, 3) := by decide +kernel
theorem d_Nu_copy_60 : decode b_Nu_copy 60 = .ok (.return_, 1) := by decide +kernel
theorem d_Nu_bitLength_0 : decode b_Nu_bitLength 0 = .ok (.aload_n 0, 1) := by decide +kernel
theorem d_Nu_bitLength_1 : decode b_Nu_bitLength 1 = .ok (.getfield 13, 3) := by decide +kernel
theorem d_Nu_bitLength_4 : decode b_Nu_bitLength 4 = .ok (.ifCond .ne 7, 3) := by decide +kernel
theorem d_Nu_bitLength_7 : decode b_Nu_bitLength 7 = .ok (.iconst 0, 1) := by decide +kernel
theorem d_Nu_bitLength_8 : decode b_Nu_bitLength 8 = .ok (.goto 27, 3) := by decide +kernel
theorem d_Nu_bitLength_11 : decode b_Nu_bitLength 11 = .ok (.aload_n 0, 1) := by decide +kernel
theorem d_Nu_bitLength_12 : decode b_Nu_bitLength 12 = .ok (.getfield 13, 3) := by decide +kernel
theorem d_Nu_bitLength_15 : decode b_Nu_bitLength 15 = .ok (.bipush 31, 2) := by decide +kernel
theorem d_Nu_bitLength_17 : decode b_Nu_bitLength 17 = .ok (.imul, 1) := by decide +kernel
theorem d_Nu_bitLength_18 : decode b_Nu_bitLength 18 = .ok (.aload_n 0, 1) := by decide +kernel
theorem d_Nu_bitLength_19 : decode b_Nu_bitLength 19 = .ok (.getfield 9, 3) := by decide +kernel
theorem d_Nu_bitLength_22 : decode b_Nu_bitLength 22 = .ok (.aload_n 0, 1) := by decide +kernel
theorem d_Nu_bitLength_23 : decode b_Nu_bitLength 23 = .ok (.getfield 13, 3) := by decide +kernel
theorem d_Nu_bitLength_26 : decode b_Nu_bitLength 26 = .ok (.iconst 1, 1) := by decide +kernel
theorem d_Nu_bitLength_27 : decode b_Nu_bitLength 27 = .ok (.isub, 1) := by decide +kernel
theorem d_Nu_bitLength_28 : decode b_Nu_bitLength 28 = .ok (.iaload, 1) := by decide +kernel
theorem d_Nu_bitLength_29 : decode b_Nu_bitLength 29 = .ok (.invokestatic 34, 3) := by decide +kernel
theorem d_Nu_bitLength_32 : decode b_Nu_bitLength 32 = .ok (.iconst 1, 1) := by decide +kernel
theorem d_Nu_bitLength_33 : decode b_Nu_bitLength 33 = .ok (.isub, 1) := by decide +kernel
theorem d_Nu_bitLength_34 : decode b_Nu_bitLength 34 = .ok (.isub, 1) := by decide +kernel
theorem d_Nu_bitLength_35 : decode b_Nu_bitLength 35 = .ok (.ireturn, 1) := by decide +kernel
theorem d_Nu_compareMagnitude_0 : decode b_Nu_compareMagnitude 0 = .ok (.aload_n 0, 1) := by decide +kernel
theorem d_Nu_compareMagnitude_1 : decode b_Nu_compareMagnitude 1 = .ok (.getfield 13, 3) := by decide +kernel
theorem d_Nu_compareMagnitude_4 : decode b_Nu_compareMagnitude 4 = .ok (.aload_n 1, 1) := by decide +kernel
theorem d_Nu_compareMagnitude_5 : decode b_Nu_compareMagnitude 5 = .ok (.getfield 13, 3) := by decide +kernel
theorem d_Nu_compareMagnitude_8 : decode b_Nu_compareMagnitude 8 = .ok (.if_icmp .eq 20, 3) := by decide +kernel
theorem d_Nu_compareMagnitude_11 : decode b_Nu_compareMagnitude 11 = .ok (.aload_n 0, 1) := by decide +kernel
theorem d_Nu_compareMagnitude_12 : decode b_Nu_compareMagnitude 12 = .ok (.getfield 13, 3) := by decide +kernel
theorem d_Nu_compareMagnitude_15 : decode b_Nu_compareMagnitude 15 = .ok (.aload_n 1, 1) := by decide +kernel
theorem d_Nu_compareMagnitude_16 : decode b_Nu_compareMagnitude 16 = .ok (.getfield 13, 3) := by decide +kernel
theorem d_Nu_compareMagnitude_19 : decode b_Nu_compareMagnitude 19 = .ok (.if_icmp .ge 7, 3) := by decide +kernel
theorem d_Nu_compareMagnitude_22 : decode b_Nu_compareMagnitude 22 = .ok (.iconst (-1), 1) := by decide +kernel
theorem d_Nu_compareMagnitude_23 : decode b_Nu_compareMagnitude 23 = .ok (.goto 4, 3) := by decide +kernel
theorem d_Nu_compareMagnitude_26 : decode b_Nu_compareMagnitude 26 = .ok (.iconst 1, 1) := by decide +kernel
theorem d_Nu_compareMagnitude_27 : decode b_Nu_compareMagnitude 27 = .ok (.ireturn, 1) := by decide +kernel
theorem d_Nu_compareMagnitude_28 : decode b_Nu_compareMagnitude 28 = .ok (.aload_n 0, 1) := by decide +kernel
theorem d_Nu_compareMagnitude_29 : decode b_Nu_compareMagnitude 29 = .ok (.getfield 13, 3) := by decide +kernel
theorem d_Nu_compareMagnitude_32 : decode b_Nu_compareMagnitude 32 = .ok (.iconst 1, 1) := by decide +kernel
theorem d_Nu_compareMagnitude_33 : decode b_Nu_compareMagnitude 33 = .ok (.isub, 1) := by decide +kernel
theorem d_Nu_compareMagnitude_34 : decode b_Nu_compareMagnitude 34 = .ok (.istore_n 2, 1) := by decide +kernel
theorem d_Nu_compareMagnitude_35 : decode b_Nu_compareMagnitude 35 = .ok (.iload_n 2, 1) := by decide +kernel
theorem d_Nu_compareMagnitude_36 : decode b_Nu_compareMagnitude 36 = .ok (.ifCond .lt 45, 3) := by decide +kernel
theorem d_Nu_compareMagnitude_39 : decode b_Nu_compareMagnitude 39 = .ok (.aload_n 0, 1) := by decide +kernel
theorem d_Nu_compareMagnitude_40 : decode b_Nu_compareMagnitude 40 = .ok (.getfield 9, 3) := by decide +kernel
theorem d_Nu_compareMagnitude_43 : decode b_Nu_compareMagnitude 43 = .ok (.iload_n 2, 1) := by decide +kernel
theorem d_Nu_compareMagnitude_44 : decode b_Nu_compareMagnitude 44 = .ok (.iaload, 1) := by decide +kernel
theorem d_Nu_compareMagnitude_45 : decode b_Nu_compareMagnitude 45 = .ok (.aload_n 1, 1) := by decide +kernel
theorem d_Nu_compareMagnitude_46 : decode b_Nu_compareMagnitude 46 = .ok (.getfield 9, 3) := by decide +kernel
theorem d_Nu_compareMagnitude_49 : decode b_Nu_compareMagnitude 49 = .ok (.iload_n 2, 1) := by decide +kernel
theorem d_Nu_compareMagnitude_50 : decode b_Nu_compareMagnitude 50 = .ok (.iaload, 1) := by decide +kernel
theorem d_Nu_compareMagnitude_51 : decode b_Nu_compareMagnitude 51 = .ok (.if_icmp .eq 24, 3) := by decide +kernel
theorem d_Nu_compareMagnitude_54 : decode b_Nu_compareMagnitude 54 = .ok (.aload_n 0, 1) := by decide +kernel
theorem d_Nu_compareMagnitude_55 : decode b_Nu_compareMagnitude 55 = .ok (.getfield 9, 3) := by decide +kernel
theorem d_Nu_compareMagnitude_58 : decode b_Nu_compareMagnitude 58 = .ok (.iload_n 2, 1) := by decide +kernel
theorem d_Nu_compareMagnitude_59 : decode b_Nu_compareMagnitude 59 = .ok (.iaload, 1) := by decide +kernel
theorem d_Nu_compareMagnitude_60 : decode b_Nu_compareMagnitude 60 = .ok (.aload_n 1, 1) := by decide +kernel
theorem d_Nu_compareMagnitude_61 : decode b_Nu_compareMagnitude 61 = .ok (.getfield 9, 3) := by decide +kernel
theorem d_Nu_compareMagnitude_64 : decode b_Nu_compareMagnitude 64 = .ok (.iload_n 2, 1) := by decide +kernel
theorem d_Nu_compareMagnitude_65 : decode b_Nu_compareMagnitude 65 = .ok (.iaload, 1) := by decide +kernel
theorem d_Nu_compareMagnitude_66 : decode b_Nu_compareMagnitude 66 = .ok (.if_icmp .ge 7, 3) := by decide +kernel
theorem d_Nu_compareMagnitude_69 : decode b_Nu_compareMagnitude 69 = .ok (.iconst (-1), 1) := by decide +kernel
theorem d_Nu_compareMagnitude_70 : decode b_Nu_compareMagnitude 70 = .ok (.goto 4, 3) := by decide +kernel
theorem d_Nu_compareMagnitude_73 : decode b_Nu_compareMagnitude 73 = .ok (.iconst 1, 1) := by decide +kernel
theorem d_Nu_compareMagnitude_74 : decode b_Nu_compareMagnitude 74 = .ok (.ireturn, 1) := by decide +kernel
theorem d_Nu_compareMagnitude_75 : decode b_Nu_compareMagnitude 75 = .ok (.iinc 2 (-1), 3) := by decide +kernel
theorem d_Nu_compareMagnitude_78 : decode b_Nu_compareMagnitude 78 = .ok (.goto (-43), 3) := by decide +kernel
theorem d_Nu_compareMagnitude_81 : decode b_Nu_compareMagnitude 81 = .ok (.iconst 0, 1) := by decide +kernel
theorem d_Nu_compareMagnitude_82 : decode b_Nu_compareMagnitude 82 = .ok (.ireturn, 1) := by decide +kernel
theorem d_Nu_same_0 : decode b_Nu_same 0 = .ok (.aload_n 0, 1) := by decide +kernel
theorem d_Nu_same_1 : decode b_Nu_same 1 = .ok (.getfield 17, 3) := by decide +kernel
theorem d_Nu_same_4 : decode b_Nu_same 4 = .ok (.aload_n 1, 1) := by decide +kernel
theorem d_Nu_same_5 : decode b_Nu_same 5 = .ok (.getfield 17, 3) := by decide +kernel
theorem d_Nu_same_8 : decode b_Nu_same 8 = .ok (.if_icmp .ne 15, 3) := by decide +kernel
theorem d_Nu_same_11 : decode b_Nu_same 11 = .ok (.aload_n 0, 1) := by decide +kernel
theorem d_Nu_same_12 : decode b_Nu_same 12 = .ok (.aload_n 1, 1) := by decide +kernel
theorem d_Nu_same_13 : decode b_Nu_same 13 = .ok (.invokevirtual 40, 3) := by decide +kernel
theorem d_Nu_same_16 : decode b_Nu_same 16 = .ok (.ifCond .ne 7, 3) := by decide +kernel
theorem d_Nu_same_19 : decode b_Nu_same 19 = .ok (.iconst 1, 1) := by decide +kernel
theorem d_Nu_same_20 : decode b_Nu_same 20 = .ok (.goto 4, 3) := by decide +kernel
theorem d_Nu_same_23 : decode b_Nu_same 23 = .ok (.iconst 0, 1) := by decide +kernel
theorem d_Nu_same_24 : decode b_Nu_same 24 = .ok (.ireturn, 1) := by decide +kernel
theorem d_Nu_add_0 : decode b_Nu_add 0 = .ok (.aload_n 1, 1) := by decide +kernel
theorem d_Nu_add_1 : decode b_Nu_add 1 = .ok (.getfield 17, 3) := by decide +kernel
theorem d_Nu_add_4 : decode b_Nu_add 4 = .ok (.iload_n 2, 1) := by decide +kernel
theorem d_Nu_add_5 : decode b_Nu_add 5 = .ok (.imul, 1) := by decide +kernel
theorem d_Nu_add_6 : decode b_Nu_add 6 = .ok (.istore_n 3, 1) := by decide +kernel
theorem d_Nu_add_7 : decode b_Nu_add 7 = .ok (.iload_n 3, 1) := by decide +kernel
theorem d_Nu_add_8 : decode b_Nu_add 8 = .ok (.ifCond .ne 4, 3) := by decide +kernel
theorem d_Nu_add_11 : decode b_Nu_add 11 = .ok (.return_, 1) := by decide +kernel
theorem d_Nu_add_12 : decode b_Nu_add 12 = .ok (.aload_n 0, 1) := by decide +kernel
theorem d_Nu_add_13 : decode b_Nu_add 13 = .ok (.getfield 17, 3) := by decide +kernel
theorem d_Nu_add_16 : decode b_Nu_add 16 = .ok (.ifCond .ne 27, 3) := by decide +kernel
theorem d_Nu_add_19 : decode b_Nu_add 19 = .ok (.aload_n 0, 1) := by decide +kernel
theorem d_Nu_add_20 : decode b_Nu_add 20 = .ok (.aload_n 1, 1) := by decide +kernel
theorem d_Nu_add_21 : decode b_Nu_add 21 = .ok (.invokevirtual 44, 3) := by decide +kernel
theorem d_Nu_add_24 : decode b_Nu_add 24 = .ok (.aload_n 0, 1) := by decide +kernel
theorem d_Nu_add_25 : decode b_Nu_add 25 = .ok (.aload_n 0, 1) := by decide +kernel
theorem d_Nu_add_26 : decode b_Nu_add 26 = .ok (.getfield 13, 3) := by decide +kernel
theorem d_Nu_add_29 : decode b_Nu_add 29 = .ok (.ifCond .ne 7, 3) := by decide +kernel
theorem d_Nu_add_32 : decode b_Nu_add 32 = .ok (.iconst 0, 1) := by decide +kernel
theorem d_Nu_add_33 : decode b_Nu_add 33 = .ok (.goto 4, 3) := by decide +kernel
theorem d_Nu_add_36 : decode b_Nu_add 36 = .ok (.iload_n 3, 1) := by decide +kernel
theorem d_Nu_add_37 : decode b_Nu_add 37 = .ok (.putfield 17, 3) := by decide +kernel
theorem d_Nu_add_40 : decode b_Nu_add 40 = .ok (.goto 62, 3) := by decide +kernel
theorem d_Nu_add_43 : decode b_Nu_add 43 = .ok (.aload_n 0, 1) := by decide +kernel
theorem d_Nu_add_44 : decode b_Nu_add 44 = .ok (.getfield 17, 3) := by decide +kernel
theorem d_Nu_add_47 : decode b_Nu_add 47 = .ok (.iload_n 3, 1) := by decide +kernel
theorem d_Nu_add_48 : decode b_Nu_add 48 = .ok (.if_icmp .ne 11, 3) := by decide +kernel
theorem d_Nu_add_51 : decode b_Nu_add 51 = .ok (.aload_n 0, 1) := by decide +kernel
theorem d_Nu_add_52 : decode b_Nu_add 52 = .ok (.aload_n 1, 1) := by decide +kernel
theorem d_Nu_add_53 : decode b_Nu_add 53 = .ok (.invokevirtual 48, 3) := by decide +kernel
theorem d_Nu_add_56 : decode b_Nu_add 56 = .ok (.goto 46, 3) := by decide +kernel
theorem d_Nu_add_59 : decode b_Nu_add 59 = .ok (.aload_n 0, 1) := by decide +kernel
theorem d_Nu_add_60 : decode b_Nu_add 60 = .ok (.aload_n 1, 1) := by decide +kernel
theorem d_Nu_add_61 : decode b_Nu_add 61 = .ok (.invokevirtual 40, 3) := by decide +kernel
theorem d_Nu_add_64 : decode b_Nu_add 64 = .ok (.istore 4, 2) := by decide +kernel
theorem d_Nu_add_66 : decode b_Nu_add 66 = .ok (.iload 4, 2) := by decide +kernel
theorem d_Nu_add_68 : decode b_Nu_add 68 = .ok (.ifCond .ne 10, 3) := by decide +kernel
theorem d_Nu_add_71 : decode b_Nu_add 71 = .ok (.aload_n 0, 1) := by decide +kernel
theorem d_Nu_add_72 : decode b_Nu_add 72 = .ok (.invokevirtual 51, 3) := by decide +kernel
theorem d_Nu_add_75 : decode b_Nu_add 75 = .ok (.goto 27, 3) := by decide +kernel
theorem d_Nu_add_78 : decode b_Nu_add 78 = .ok (.aload_n 0, 1) := by decide +kernel
theorem d_Nu_add_79 : decode b_Nu_add 79 = .ok (.iload 4, 2) := by decide +kernel
theorem d_Nu_add_81 : decode b_Nu_add 81 = .ok (.ifCond .le 10, 3) := by decide +kernel
theorem d_Nu_add_84 : decode b_Nu_add 84 = .ok (.aload_n 0, 1) := by decide +kernel
theorem d_Nu_add_85 : decode b_Nu_add 85 = .ok (.getfield 17, 3) := by decide +kernel
theorem d_Nu_add_88 : decode b_Nu_add 88 = .ok (.goto 4, 3) := by decide +kernel
theorem d_Nu_add_91 : decode b_Nu_add 91 = .ok (.iload_n 3, 1) := by decide +kernel
theorem d_Nu_add_92 : decode b_Nu_add 92 = .ok (.putfield 17, 3) := by decide +kernel
theorem d_Nu_add_95 : decode b_Nu_add 95 = .ok (.aload_n 0, 1) := by decide +kernel
theorem d_Nu_add_96 : decode b_Nu_add 96 = .ok (.aload_n 1, 1) := by decide +kernel
theorem d_Nu_add_97 : decode b_Nu_add 97 = .ok (.iload 4, 2) := by decide +kernel
theorem d_Nu_add_99 : decode b_Nu_add 99 = .ok (.invokevirtual 54, 3) := by decide +kernel
theorem d_Nu_add_102 : decode b_Nu_add 102 = .ok (.return_, 1) := by decide +kernel
theorem d_Nu_addMagnitude_0 : decode b_Nu_addMagnitude 0 = .ok (.aload_n 0, 1) := by decide +kernel
theorem d_Nu_addMagnitude_1 : decode b_Nu_addMagnitude 1 = .ok (.getfield 13, 3) := by decide +kernel
theorem d_Nu_addMagnitude_4 : decode b_Nu_addMagnitude 4 = .ok (.aload_n 1, 1) := by decide +kernel
theorem d_Nu_addMagnitude_5 : decode b_Nu_addMagnitude 5 = .ok (.getfield 13, 3) := by decide +kernel
theorem d_Nu_addMagnitude_8 : decode b_Nu_addMagnitude 8 = .ok (.invokestatic 58, 3) := by decide +kernel
theorem d_Nu_addMagnitude_11 : decode b_Nu_addMagnitude 11 = .ok (.istore_n 2, 1) := by decide +kernel
theorem d_Nu_addMagnitude_12 : decode b_Nu_addMagnitude 12 = .ok (.iload_n 2, 1) := by decide +kernel
theorem d_Nu_addMagnitude_13 : decode b_Nu_addMagnitude 13 = .ok (.aload_n 0, 1) := by decide +kernel
theorem d_Nu_addMagnitude_14 : decode b_Nu_addMagnitude 14 = .ok (.getfield 9, 3) := by decide +kernel
theorem d_Nu_addMagnitude_17 : decode b_Nu_addMagnitude 17 = .ok (.arraylength, 1) := by decide +kernel
theorem d_Nu_addMagnitude_18 : decode b_Nu_addMagnitude 18 = .ok (.if_icmp .lt 8, 3) := by decide +kernel
theorem d_Nu_addMagnitude_21 : decode b_Nu_addMagnitude 21 = .ok (.aload_n 0, 1) := by decide +kernel
theorem d_Nu_addMagnitude_22 : decode b_Nu_addMagnitude 22 = .ok (.invokevirtual 51, 3) := by decide +kernel
theorem d_Nu_addMagnitude_25 : decode b_Nu_addMagnitude 25 = .ok (.return_, 1) := by decide +kernel
theorem d_Nu_addMagnitude_26 : decode b_Nu_addMagnitude 26 = .ok (.iconst 0, 1) := by decide +kernel
theorem d_Nu_addMagnitude_27 : decode b_Nu_addMagnitude 27 = .ok (.istore_n 3, 1) := by decide +kernel
theorem d_Nu_addMagnitude_28 : decode b_Nu_addMagnitude 28 = .ok (.iconst 0, 1) := by decide +kernel
theorem d_Nu_addMagnitude_29 : decode b_Nu_addMagnitude 29 = .ok (.istore 4, 2) := by decide +kernel
theorem d_Nu_addMagnitude_31 : decode b_Nu_addMagnitude 31 = .ok (.iload 4, 2) := by decide +kernel
theorem d_Nu_addMagnitude_33 : decode b_Nu_addMagnitude 33 = .ok (.iload_n 2, 1) := by decide +kernel
theorem d_Nu_addMagnitude_34 : decode b_Nu_addMagnitude 34 = .ok (.if_icmp .ge 78, 3) := by decide +kernel
theorem d_Nu_addMagnitude_37 : decode b_Nu_addMagnitude 37 = .ok (.iload_n 3, 1) := by decide +kernel
theorem d_Nu_addMagnitude_38 : decode b_Nu_addMagnitude 38 = .ok (.i2l, 1) := by decide +kernel
theorem d_Nu_addMagnitude_39 : decode b_Nu_addMagnitude 39 = .ok (.iload 4, 2) := by decide +kernel
theorem d_Nu_addMagnitude_41 : decode b_Nu_addMagnitude 41 = .ok (.aload_n 0, 1) := by decide +kernel
theorem d_Nu_addMagnitude_42 : decode b_Nu_addMagnitude 42 = .ok (.getfield 13, 3) := by decide +kernel
theorem d_Nu_addMagnitude_45 : decode b_Nu_addMagnitude 45 = .ok (.if_icmp .ge 13, 3) := by decide +kernel
theorem d_Nu_addMagnitude_48 : decode b_Nu_addMagnitude 48 = .ok (.aload_n 0, 1) := by decide +kernel
theorem d_Nu_addMagnitude_49 : decode b_Nu_addMagnitude 49 = .ok (.getfield 9, 3) := by decide +kernel
theorem d_Nu_addMagnitude_52 : decode b_Nu_addMagnitude 52 = .ok (.iload 4, 2) := by decide +kernel
theorem d_Nu_addMagnitude_54 : decode b_Nu_addMagnitude 54 = .ok (.iaload, 1) := by decide +kernel
theorem d_Nu_addMagnitude_55 : decode b_Nu_addMagnitude 55 = .ok (.goto 4, 3) := by decide +kernel
theorem d_Nu_addMagnitude_58 : decode b_Nu_addMagnitude 58 = .ok (.iconst 0, 1) := by decide +kernel
theorem d_Nu_addMagnitude_59 : decode b_Nu_addMagnitude 59 = .ok (.i2l, 1) := by decide +kernel
theorem d_Nu_addMagnitude_60 : decode b_Nu_addMagnitude 60 = .ok (.ladd, 1) := by decide +kernel
theorem d_Nu_addMagnitude_61 : decode b_Nu_addMagnitude 61 = .ok (.iload 4, 2) := by decide +kernel
theorem d_Nu_addMagnitude_63 : decode b_Nu_addMagnitude 63 = .ok (.aload_n 1, 1) := by decide +kernel
theorem d_Nu_addMagnitude_64 : decode b_Nu_addMagnitude 64 = .ok (.getfield 13, 3) := by decide +kernel
theorem d_Nu_addMagnitude_67 : decode b_Nu_addMagnitude 67 = .ok (.if_icmp .ge 13, 3) := by decide +kernel
theorem d_Nu_addMagnitude_70 : decode b_Nu_addMagnitude 70 = .ok (.aload_n 1, 1) := by decide +kernel
theorem d_Nu_addMagnitude_71 : decode b_Nu_addMagnitude 71 = .ok (.getfield 9, 3) := by decide +kernel
theorem d_Nu_addMagnitude_74 : decode b_Nu_addMagnitude 74 = .ok (.iload 4, 2) := by decide +kernel
theorem d_Nu_addMagnitude_76 : decode b_Nu_addMagnitude 76 = .ok (.iaload, 1) := by decide +kernel
theorem d_Nu_addMagnitude_77 : decode b_Nu_addMagnitude 77 = .ok (.goto 4, 3) := by decide +kernel
theorem d_Nu_addMagnitude_80 : decode b_Nu_addMagnitude 80 = .ok (.iconst 0, 1) := by decide +kernel
theorem d_Nu_addMagnitude_81 : decode b_Nu_addMagnitude 81 = .ok (.i2l, 1) := by decide +kernel
theorem d_Nu_addMagnitude_82 : decode b_Nu_addMagnitude 82 = .ok (.ladd, 1) := by decide +kernel
theorem d_Nu_addMagnitude_83 : decode b_Nu_addMagnitude 83 = .ok (.lstore 5, 2) := by decide +kernel
theorem d_Nu_addMagnitude_85 : decode b_Nu_addMagnitude 85 = .ok (.aload_n 0, 1) := by decide +kernel
theorem d_Nu_addMagnitude_86 : decode b_Nu_addMagnitude 86 = .ok (.getfield 9, 3) := by decide +kernel
theorem d_Nu_addMagnitude_89 : decode b_Nu_addMagnitude 89 = .ok (.iload 4, 2) := by decide +kernel
theorem d_Nu_addMagnitude_91 : decode b_Nu_addMagnitude 91 = .ok (.lload 5, 2) := by decide +kernel
theorem d_Nu_addMagnitude_93 : decode b_Nu_addMagnitude 93 = .ok (.ldc2_w 26, 3) := by decide +kernel
theorem d_Nu_addMagnitude_96 : decode b_Nu_addMagnitude 96 = .ok (.land, 1) := by decide +kernel
theorem d_Nu_addMagnitude_97 : decode b_Nu_addMagnitude 97 = .ok (.l2i, 1) := by decide +kernel
theorem d_Nu_addMagnitude_98 : decode b_Nu_addMagnitude 98 = .ok (.iastore, 1) := by decide +kernel
theorem d_Nu_addMagnitude_99 : decode b_Nu_addMagnitude 99 = .ok (.lload 5, 2) := by decide +kernel
theorem d_Nu_addMagnitude_101 : decode b_Nu_addMagnitude 101 = .ok (.bipush 31, 2) := by decide +kernel
theorem d_Nu_addMagnitude_103 : decode b_Nu_addMagnitude 103 = .ok (.lushr, 1) := by decide +kernel
theorem d_Nu_addMagnitude_104 : decode b_Nu_addMagnitude 104 = .ok (.l2i, 1) := by decide +kernel
theorem d_Nu_addMagnitude_105 : decode b_Nu_addMagnitude 105 = .ok (.istore_n 3, 1) := by decide +kernel
theorem d_Nu_addMagnitude_106 : decode b_Nu_addMagnitude 106 = .ok (.iinc 4 1, 3) := by decide +kernel
theorem d_Nu_addMagnitude_109 : decode b_Nu_addMagnitude 109 = .ok (.goto (-78), 3) := by decide +kernel
theorem d_Nu_addMagnitude_112 : decode b_Nu_addMagnitude 112 = .ok (.aload_n 0, 1) := by decide +kernel
theorem d_Nu_addMagnitude_113 : decode b_Nu_addMagnitude 113 = .ok (.iload_n 2, 1) := by decide +kernel
theorem d_Nu_addMagnitude_114 : decode b_Nu_addMagnitude 114 = .ok (.putfield 13, 3) := by decide +kernel
theorem d_Nu_addMagnitude_117 : decode b_Nu_addMagnitude 117 = .ok (.iload_n 3, 1) := by decide +kernel
theorem d_Nu_addMagnitude_118 : decode b_Nu_addMagnitude 118 = .ok (.ifCond .eq 23, 3) := by decide +kernel
theorem d_Nu_addMagnitude_121 : decode b_Nu_addMagnitude 121 = .ok (.aload_n 0, 1) := by decide +kernel
theorem d_Nu_addMagnitude_122 : decode b_Nu_addMagnitude 122 = .ok (.getfield 9, 3) := by decide +kernel
theorem d_Nu_addMagnitude_125 : decode b_Nu_addMagnitude 125 = .ok (.aload_n 0, 1) := by decide +kernel
theorem d_Nu_addMagnitude_126 : decode b_Nu_addMagnitude 126 = .ok (.getfield 13, 3) := by decide +kernel
theorem d_Nu_addMagnitude_129 : decode b_Nu_addMagnitude 129 = .ok (.iload_n 3, 1) := by decide +kernel
theorem d_Nu_addMagnitude_130 : decode b_Nu_addMagnitude 130 = .ok (.iastore, 1) := by decide +kernel
theorem d_Nu_addMagnitude_131 : decode b_Nu_addMagnitude 131 = .ok (.aload_n 0, 1) := by decide +kernel
theorem d_Nu_addMagnitude_132 : decode b_Nu_addMagnitude 132 = .ok (.dup, 1) := by decide +kernel
theorem d_Nu_addMagnitude_133 : decode b_Nu_addMagnitude 133 = .ok (.getfield 13, 3) := by decide +kernel
theorem d_Nu_addMagnitude_136 : decode b_Nu_addMagnitude 136 = .ok (.iconst 1, 1) := by decide +kernel
theorem d_Nu_addMagnitude_137 : decode b_Nu_addMagnitude 137 = .ok (.iadd, 1) := by decide +kernel
theorem d_Nu_addMagnitude_138 : decode b_Nu_addMagnitude 138 = .ok (.putfield 13, 3) := by decide +kernel
theorem d_Nu_addMagnitude_141 : decode b_Nu_addMagnitude 141 = .ok (.return_, 1) := by decide +kernel
theorem d_Nu_subtractMagnitude_0 : decode b_Nu_subtractMagnitude 0 = .ok (.aload_n 0, 1) := by decide +kernel
theorem d_Nu_subtractMagnitude_1 : decode b_Nu_subtractMagnitude 1 = .ok (.getfield 13, 3) := by decide +kernel
theorem d_Nu_subtractMagnitude_4 : decode b_Nu_subtractMagnitude 4 = .ok (.aload_n 1, 1) := by decide +kernel
theorem d_Nu_subtractMagnitude_5 : decode b_Nu_subtractMagnitude 5 = .ok (.getfield 13, 3) := by decide +kernel
theorem d_Nu_subtractMagnitude_8 : decode b_Nu_subtractMagnitude 8 = .ok (.invokestatic 58, 3) := by decide +kernel
theorem d_Nu_subtractMagnitude_11 : decode b_Nu_subtractMagnitude 11 = .ok (.istore_n 3, 1) := by decide +kernel
theorem d_Nu_subtractMagnitude_12 : decode b_Nu_subtractMagnitude 12 = .ok (.iload_n 3, 1) := by decide +kernel
theorem d_Nu_subtractMagnitude_13 : decode b_Nu_subtractMagnitude 13 = .ok (.aload_n 0, 1) := by decide +kernel
theorem d_Nu_subtractMagnitude_14 : decode b_Nu_subtractMagnitude 14 = .ok (.getfield 9, 3) := by decide +kernel
theorem d_Nu_subtractMagnitude_17 : decode b_Nu_subtractMagnitude 17 = .ok (.arraylength, 1) := by decide +kernel
theorem d_Nu_subtractMagnitude_18 : decode b_Nu_subtractMagnitude 18 = .ok (.if_icmp .le 8, 3) := by decide +kernel
theorem d_Nu_subtractMagnitude_21 : decode b_Nu_subtractMagnitude 21 = .ok (.aload_n 0, 1) := by decide +kernel
theorem d_Nu_subtractMagnitude_22 : decode b_Nu_subtractMagnitude 22 = .ok (.invokevirtual 51, 3) := by decide +kernel
theorem d_Nu_subtractMagnitude_25 : decode b_Nu_subtractMagnitude 25 = .ok (.return_, 1) := by decide +kernel
theorem d_Nu_subtractMagnitude_26 : decode b_Nu_subtractMagnitude 26 = .ok (.iconst 0, 1) := by decide +kernel
theorem d_Nu_subtractMagnitude_27 : decode b_Nu_subtractMagnitude 27 = .ok (.istore 4, 2) := by decide +kernel
theorem d_Nu_subtractMagnitude_29 : decode b_Nu_subtractMagnitude 29 = .ok (.iconst 0, 1) := by decide +kernel
theorem d_Nu_subtractMagnitude_30 : decode b_Nu_subtractMagnitude 30 = .ok (.istore 5, 2) := by decide +kernel
theorem d_Nu_subtractMagnitude_32 : decode b_Nu_subtractMagnitude 32 = .ok (.iload 5, 2) := by decide +kernel
theorem d_Nu_subtractMagnitude_34 : decode b_Nu_subtractMagnitude 34 = .ok (.iload_n 3, 1) := by decide +kernel
theorem d_Nu_subtractMagnitude_35 : decode b_Nu_subtractMagnitude 35 = .ok (.if_icmp .ge 112, 3) := by decide +kernel
theorem d_Nu_subtractMagnitude_38 : decode b_Nu_subtractMagnitude 38 = .ok (.iload 5, 2) := by decide +kernel
theorem d_Nu_subtractMagnitude_40 : decode b_Nu_subtractMagnitude 40 = .ok (.aload_n 0, 1) := by decide +kernel
theorem d_Nu_subtractMagnitude_41 : decode b_Nu_subtractMagnitude 41 = .ok (.getfield 13, 3) := by decide +kernel
theorem d_Nu_subtractMagnitude_44 : decode b_Nu_subtractMagnitude 44 = .ok (.if_icmp .ge 13, 3) := by decide +kernel
theorem d_Nu_subtractMagnitude_47 : decode b_Nu_subtractMagnitude 47 = .ok (.aload_n 0, 1) := by decide +kernel
theorem d_Nu_subtractMagnitude_48 : decode b_Nu_subtractMagnitude 48 = .ok (.getfield 9, 3) := by decide +kernel
theorem d_Nu_subtractMagnitude_51 : decode b_Nu_subtractMagnitude 51 = .ok (.iload 5, 2) := by decide +kernel
theorem d_Nu_subtractMagnitude_53 : decode b_Nu_subtractMagnitude 53 = .ok (.iaload, 1) := by decide +kernel
theorem d_Nu_subtractMagnitude_54 : decode b_Nu_subtractMagnitude 54 = .ok (.goto 4, 3) := by decide +kernel
theorem d_Nu_subtractMagnitude_57 : decode b_Nu_subtractMagnitude 57 = .ok (.iconst 0, 1) := by decide +kernel
theorem d_Nu_subtractMagnitude_58 : decode b_Nu_subtractMagnitude 58 = .ok (.istore 6, 2) := by decide +kernel
theorem d_Nu_subtractMagnitude_60 : decode b_Nu_subtractMagnitude 60 = .ok (.iload 5, 2) := by decide +kernel
theorem d_Nu_subtractMagnitude_62 : decode b_Nu_subtractMagnitude 62 = .ok (.aload_n 1, 1) := by decide +kernel
theorem d_Nu_subtractMagnitude_63 : decode b_Nu_subtractMagnitude 63 = .ok (.getfield 13, 3) := by decide +kernel
theorem d_Nu_subtractMagnitude_66 : decode b_Nu_subtractMagnitude 66 = .ok (.if_icmp .ge 13, 3) := by decide +kernel
theorem d_Nu_subtractMagnitude_69 : decode b_Nu_subtractMagnitude 69 = .ok (.aload_n 1, 1) := by decide +kernel
theorem d_Nu_subtractMagnitude_70 : decode b_Nu_subtractMagnitude 70 = .ok (.getfield 9, 3) := by decide +kernel
theorem d_Nu_subtractMagnitude_73 : decode b_Nu_subtractMagnitude 73 = .ok (.iload 5, 2) := by decide +kernel
theorem d_Nu_subtractMagnitude_75 : decode b_Nu_subtractMagnitude 75 = .ok (.iaload, 1) := by decide +kernel
theorem d_Nu_subtractMagnitude_76 : decode b_Nu_subtractMagnitude 76 = .ok (.goto 4, 3) := by decide +kernel
theorem d_Nu_subtractMagnitude_79 : decode b_Nu_subtractMagnitude 79 = .ok (.iconst 0, 1) := by decide +kernel
theorem d_Nu_subtractMagnitude_80 : decode b_Nu_subtractMagnitude 80 = .ok (.istore 7, 2) := by decide +kernel
theorem d_Nu_subtractMagnitude_82 : decode b_Nu_subtractMagnitude 82 = .ok (.iload_n 2, 1) := by decide +kernel
theorem d_Nu_subtractMagnitude_83 : decode b_Nu_subtractMagnitude 83 = .ok (.ifCond .le 17, 3) := by decide +kernel
theorem d_Nu_subtractMagnitude_86 : decode b_Nu_subtractMagnitude 86 = .ok (.iload 6, 2) := by decide +kernel
theorem d_Nu_subtractMagnitude_88 : decode b_Nu_subtractMagnitude 88 = .ok (.i2l, 1) := by decide +kernel
theorem d_Nu_subtractMagnitude_89 : decode b_Nu_subtractMagnitude 89 = .ok (.iload 7, 2) := by decide +kernel
theorem d_Nu_subtractMagnitude_91 : decode b_Nu_subtractMagnitude 91 = .ok (.i2l, 1) := by decide +kernel
theorem d_Nu_subtractMagnitude_92 : decode b_Nu_subtractMagnitude 92 = .ok (.lsub, 1) := by decide +kernel
theorem d_Nu_subtractMagnitude_93 : decode b_Nu_subtractMagnitude 93 = .ok (.iload 4, 2) := by decide +kernel
theorem d_Nu_subtractMagnitude_95 : decode b_Nu_subtractMagnitude 95 = .ok (.i2l, 1) := by decide +kernel
theorem d_Nu_subtractMagnitude_96 : decode b_Nu_subtractMagnitude 96 = .ok (.lsub, 1) := by decide +kernel
theorem d_Nu_subtractMagnitude_97 : decode b_Nu_subtractMagnitude 97 = .ok (.goto 14, 3) := by decide +kernel
theorem d_Nu_subtractMagnitude_100 : decode b_Nu_subtractMagnitude 100 = .ok (.iload 7, 2) := by decide +kernel
theorem d_Nu_subtractMagnitude_102 : decode b_Nu_subtractMagnitude 102 = .ok (.i2l, 1) := by decide +kernel
theorem d_Nu_subtractMagnitude_103 : decode b_Nu_subtractMagnitude 103 = .ok (.iload 6, 2) := by decide +kernel
theorem d_Nu_subtractMagnitude_105 : decode b_Nu_subtractMagnitude 105 = .ok (.i2l, 1) := by decide +kernel
theorem d_Nu_subtractMagnitude_106 : decode b_Nu_subtractMagnitude 106 = .ok (.lsub, 1) := by decide +kernel
theorem d_Nu_subtractMagnitude_107 : decode b_Nu_subtractMagnitude 107 = .ok (.iload 4, 2) := by decide +kernel
theorem d_Nu_subtractMagnitude_109 : decode b_Nu_subtractMagnitude 109 = .ok (.i2l, 1) := by decide +kernel
theorem d_Nu_subtractMagnitude_110 : decode b_Nu_subtractMagnitude 110 = .ok (.lsub, 1) := by decide +kernel
theorem d_Nu_subtractMagnitude_111 : decode b_Nu_subtractMagnitude 111 = .ok (.lstore 8, 2) := by decide +kernel
theorem d_Nu_subtractMagnitude_113 : decode b_Nu_subtractMagnitude 113 = .ok (.lload 8, 2) := by decide +kernel
theorem d_Nu_subtractMagnitude_115 : decode b_Nu_subtractMagnitude 115 = .ok (.lconst 0, 1) := by decide +kernel
theorem d_Nu_subtractMagnitude_116 : decode b_Nu_subtractMagnitude 116 = .ok (.lcmp, 1) := by decide +kernel
theorem d_Nu_subtractMagnitude_117 : decode b_Nu_subtractMagnitude 117 = .ok (.ifCond .ge 7, 3) := by decide +kernel
theorem d_Nu_subtractMagnitude_120 : decode b_Nu_subtractMagnitude 120 = .ok (.iconst 1, 1) := by decide +kernel
theorem d_Nu_subtractMagnitude_121 : decode b_Nu_subtractMagnitude 121 = .ok (.goto 4, 3) := by decide +kernel
theorem d_Nu_subtractMagnitude_124 : decode b_Nu_subtractMagnitude 124 = .ok (.iconst 0, 1) := by decide +kernel
theorem d_Nu_subtractMagnitude_125 : decode b_Nu_subtractMagnitude 125 = .ok (.istore 4, 2) := by decide +kernel
theorem d_Nu_subtractMagnitude_127 : decode b_Nu_subtractMagnitude 127 = .ok (.aload_n 0, 1) := by decide +kernel
theorem d_Nu_subtractMagnitude_128 : decode b_Nu_subtractMagnitude 128 = .ok (.getfield 9, 3) := by decide +kernel
theorem d_Nu_subtractMagnitude_131 : decode b_Nu_subtractMagnitude 131 = .ok (.iload 5, 2) := by decide +kernel
theorem d_Nu_subtractMagnitude_133 : decode b_Nu_subtractMagnitude 133 = .ok (.lload 8, 2) := by decide +kernel
theorem d_Nu_subtractMagnitude_135 : decode b_Nu_subtractMagnitude 135 = .ok (.ldc2_w 26, 3) := by decide +kernel
theorem d_Nu_subtractMagnitude_138 : decode b_Nu_subtractMagnitude 138 = .ok (.land, 1) := by decide +kernel
theorem d_Nu_subtractMagnitude_139 : decode b_Nu_subtractMagnitude 139 = .ok (.l2i, 1) := by decide +kernel
theorem d_Nu_subtractMagnitude_140 : decode b_Nu_subtractMagnitude 140 = .ok (.iastore, 1) := by decide +kernel
theorem d_Nu_subtractMagnitude_141 : decode b_Nu_subtractMagnitude 141 = .ok (.iinc 5 1, 3) := by decide +kernel
theorem d_Nu_subtractMagnitude_144 : decode b_Nu_subtractMagnitude 144 = .ok (.goto (-112), 3) := by decide +kernel
theorem d_Nu_subtractMagnitude_147 : decode b_Nu_subtractMagnitude 147 = .ok (.aload_n 0, 1) := by decide +kernel
theorem d_Nu_subtractMagnitude_148 : decode b_Nu_subtractMagnitude 148 = .ok (.iload_n 3, 1) := by decide +kernel
theorem d_Nu_subtractMagnitude_149 : decode b_Nu_subtractMagnitude 149 = .ok (.putfield 13, 3) := by decide +kernel
theorem d_Nu_subtractMagnitude_152 : decode b_Nu_subtractMagnitude 152 = .ok (.aload_n 0, 1) := by decide +kernel
theorem d_Nu_subtractMagnitude_153 : decode b_Nu_subtractMagnitude 153 = .ok (.invokevirtual 64, 3) := by decide +kernel
theorem d_Nu_subtractMagnitude_156 : decode b_Nu_subtractMagnitude 156 = .ok (.return_, 1) := by decide +kernel
theorem d_Nu_trim_0 : decode b_Nu_trim 0 = .ok (.aload_n 0, 1) := by decide +kernel
theorem d_Nu_trim_1 : decode b_Nu_trim 1 = .ok (.getfield 13, 3) := by decide +kernel
theorem d_Nu_trim_4 : decode b_Nu_trim 4 = .ok (.ifCond .le 30, 3) := by decide +kernel
theorem d_Nu_trim_7 : decode b_Nu_trim 7 = .ok (.aload_n 0, 1) := by decide +kernel
theorem d_Nu_trim_8 : decode b_Nu_trim 8 = .ok (.getfield 9, 3) := by decide +kernel
theorem d_Nu_trim_11 : decode b_Nu_trim 11 = .ok (.aload_n 0, 1) := by decide +kernel
theorem d_Nu_trim_12 : decode b_Nu_trim 12 = .ok (.getfield 13, 3) := by decide +kernel
theorem d_Nu_trim_15 : decode b_Nu_trim 15 = .ok (.iconst 1, 1) := by decide +kernel
theorem d_Nu_trim_16 : decode b_Nu_trim 16 = .ok (.isub, 1) := by decide +kernel
theorem d_Nu_trim_17 : decode b_Nu_trim 17 = .ok (.iaload, 1) := by decide +kernel
theorem d_Nu_trim_18 : decode b_Nu_trim 18 = .ok (.ifCond .ne 16, 3) := by decide +kernel
theorem d_Nu_trim_21 : decode b_Nu_trim 21 = .ok (.aload_n 0, 1) := by decide +kernel
theorem d_Nu_trim_22 : decode b_Nu_trim 22 = .ok (.dup, 1) := by decide +kernel
theorem d_Nu_trim_23 : decode b_Nu_trim 23 = .ok (.getfield 13, 3) := by decide +kernel
theorem d_Nu_trim_26 : decode b_Nu_trim 26 = .ok (.iconst 1, 1) := by decide +kernel
theorem d_Nu_trim_27 : decode b_Nu_trim 27 = .ok (.isub, 1) := by decide +kernel
theorem d_Nu_trim_28 : decode b_Nu_trim 28 = .ok (.putfield 13, 3) := by decide +kernel
theorem d_Nu_trim_31 : decode b_Nu_trim 31 = .ok (.goto (-31), 3) := by decide +kernel
theorem d_Nu_trim_34 : decode b_Nu_trim 34 = .ok (.aload_n 0, 1) := by decide +kernel
theorem d_Nu_trim_35 : decode b_Nu_trim 35 = .ok (.getfield 13, 3) := by decide +kernel
theorem d_Nu_trim_38 : decode b_Nu_trim 38 = .ok (.ifCond .ne 8, 3) := by decide +kernel
theorem d_Nu_trim_41 : decode b_Nu_trim 41 = .ok (.aload_n 0, 1) := by decide +kernel
theorem d_Nu_trim_42 : decode b_Nu_trim 42 = .ok (.iconst 0, 1) := by decide +kernel
theorem d_Nu_trim_43 : decode b_Nu_trim 43 = .ok (.putfield 17, 3) := by decide +kernel
theorem d_Nu_trim_46 : decode b_Nu_trim 46 = .ok (.return_, 1) := by decide +kernel
theorem d_Nu_step_0 : decode b_Nu_step 0 = .ok (.aload_n 0, 1) := by decide +kernel
theorem d_Nu_step_1 : decode b_Nu_step 1 = .ok (.getfield 17, 3) := by decide +kernel
theorem d_Nu_step_4 : decode b_Nu_step 4 = .ok (.ifCond .ne 10, 3) := by decide +kernel
theorem d_Nu_step_7 : decode b_Nu_step 7 = .ok (.aload_n 0, 1) := by decide +kernel
theorem d_Nu_step_8 : decode b_Nu_step 8 = .ok (.iload_n 1, 1) := by decide +kernel
theorem d_Nu_step_9 : decode b_Nu_step 9 = .ok (.i2l, 1) := by decide +kernel
theorem d_Nu_step_10 : decode b_Nu_step 10 = .ok (.invokevirtual 67, 3) := by decide +kernel
theorem d_Nu_step_13 : decode b_Nu_step 13 = .ok (.return_, 1) := by decide +kernel
theorem d_Nu_step_14 : decode b_Nu_step 14 = .ok (.aload_n 0, 1) := by decide +kernel
theorem d_Nu_step_15 : decode b_Nu_step 15 = .ok (.getfield 17, 3) := by decide +kernel
theorem d_Nu_step_18 : decode b_Nu_step 18 = .ok (.iload_n 1, 1) := by decide +kernel
theorem d_Nu_step_19 : decode b_Nu_step 19 = .ok (.if_icmp .ne 7, 3) := by decide +kernel
theorem d_Nu_step_22 : decode b_Nu_step 22 = .ok (.iconst 1, 1) := by decide +kernel
theorem d_Nu_step_23 : decode b_Nu_step 23 = .ok (.goto 4, 3) := by decide +kernel
theorem d_Nu_step_26 : decode b_Nu_step 26 = .ok (.iconst 0, 1) := by decide +kernel
theorem d_Nu_step_27 : decode b_Nu_step 27 = .ok (.istore_n 2, 1) := by decide +kernel
theorem d_Nu_step_28 : decode b_Nu_step 28 = .ok (.iconst 1, 1) := by decide +kernel
theorem d_Nu_step_29 : decode b_Nu_step 29 = .ok (.istore_n 3, 1) := by decide +kernel
theorem d_Nu_step_30 : decode b_Nu_step 30 = .ok (.iconst 0, 1) := by decide +kernel
theorem d_Nu_step_31 : decode b_Nu_step 31 = .ok (.istore 4, 2) := by decide +kernel
theorem d_Nu_step_33 : decode b_Nu_step 33 = .ok (.iload 4, 2) := by decide +kernel
theorem d_Nu_step_35 : decode b_Nu_step 35 = .ok (.aload_n 0, 1) := by decide +kernel
theorem d_Nu_step_36 : decode b_Nu_step 36 = .ok (.getfield 13, 3) := by decide +kernel
theorem d_Nu_step_39 : decode b_Nu_step 39 = .ok (.if_icmp .ge 66, 3) := by decide +kernel
theorem d_Nu_step_42 : decode b_Nu_step 42 = .ok (.iload_n 3, 1) := by decide +kernel
theorem d_Nu_step_43 : decode b_Nu_step 43 = .ok (.ifCond .eq 62, 3) := by decide +kernel
theorem d_Nu_step_46 : decode b_Nu_step 46 = .ok (.aload_n 0, 1) := by decide +kernel
theorem d_Nu_step_47 : decode b_Nu_step 47 = .ok (.getfield 9, 3) := by decide +kernel
theorem d_Nu_step_50 : decode b_Nu_step 50 = .ok (.iload 4, 2) := by decide +kernel
theorem d_Nu_step_52 : decode b_Nu_step 52 = .ok (.iaload, 1) := by decide +kernel
theorem d_Nu_step_53 : decode b_Nu_step 53 = .ok (.iload_n 2, 1) := by decide +kernel
theorem d_Nu_step_54 : decode b_Nu_step 54 = .ok (.ifCond .eq 8, 3) := by decide +kernel
theorem d_Nu_step_57 : decode b_Nu_step 57 = .ok (.ldc 71, 2) := by decide +kernel
theorem d_Nu_step_59 : decode b_Nu_step 59 = .ok (.goto 4, 3) := by decide +kernel
theorem d_Nu_step_62 : decode b_Nu_step 62 = .ok (.iconst 0, 1) := by decide +kernel
theorem d_Nu_step_63 : decode b_Nu_step 63 = .ok (.if_icmp .ne 7, 3) := by decide +kernel
theorem d_Nu_step_66 : decode b_Nu_step 66 = .ok (.iconst 1, 1) := by decide +kernel
theorem d_Nu_step_67 : decode b_Nu_step 67 = .ok (.goto 4, 3) := by decide +kernel
theorem d_Nu_step_70 : decode b_Nu_step 70 = .ok (.iconst 0, 1) := by decide +kernel
theorem d_Nu_step_71 : decode b_Nu_step 71 = .ok (.istore_n 3, 1) := by decide +kernel
theorem d_Nu_step_72 : decode b_Nu_step 72 = .ok (.aload_n 0, 1) := by decide +kernel
theorem d_Nu_step_73 : decode b_Nu_step 73 = .ok (.getfield 9, 3) := by decide +kernel
theorem d_Nu_step_76 : decode b_Nu_step 76 = .ok (.iload 4, 2) := by decide +kernel
theorem d_Nu_step_78 : decode b_Nu_step 78 = .ok (.aload_n 0, 1) := by decide +kernel
theorem d_Nu_step_79 : decode b_Nu_step 79 = .ok (.getfield 9, 3) := by decide +kernel
theorem d_Nu_step_82 : decode b_Nu_step 82 = .ok (.iload 4, 2) := by decide +kernel
theorem d_Nu_step_84 : decode b_Nu_step 84 = .ok (.iaload, 1) := by decide +kernel
theorem d_Nu_step_85 : decode b_Nu_step 85 = .ok (.iload_n 2, 1) := by decide +kernel
theorem d_Nu_step_86 : decode b_Nu_step 86 = .ok (.ifCond .eq 7, 3) := by decide +kernel
theorem d_Nu_step_89 : decode b_Nu_step 89 = .ok (.iconst 1, 1) := by decide +kernel
theorem d_Nu_step_90 : decode b_Nu_step 90 = .ok (.goto 4, 3) := by decide +kernel
theorem d_Nu_step_93 : decode b_Nu_step 93 = .ok (.iconst (-1), 1) := by decide +kernel
theorem d_Nu_step_94 : decode b_Nu_step 94 = .ok (.iadd, 1) := by decide +kernel
theorem d_Nu_step_95 : decode b_Nu_step 95 = .ok (.ldc 71, 2) := by decide +kernel
theorem d_Nu_step_97 : decode b_Nu_step 97 = .ok (.iand, 1) := by decide +kernel
theorem d_Nu_step_98 : decode b_Nu_step 98 = .ok (.iastore, 1) := by decide +kernel
theorem d_Nu_step_99 : decode b_Nu_step 99 = .ok (.iinc 4 1, 3) := by decide +kernel
theorem d_Nu_step_102 : decode b_Nu_step 102 = .ok (.goto (-69), 3) := by decide +kernel
theorem d_Nu_step_105 : decode b_Nu_step 105 = .ok (.iload_n 2, 1) := by decide +kernel
theorem d_Nu_step_106 : decode b_Nu_step 106 = .ok (.ifCond .eq 39, 3) := by decide +kernel
theorem d_Nu_step_109 : decode b_Nu_step 109 = .ok (.iload_n 3, 1) := by decide +kernel
theorem d_Nu_step_110 : decode b_Nu_step 110 = .ok (.ifCond .eq 35, 3) := by decide +kernel
theorem d_Nu_step_113 : decode b_Nu_step 113 = .ok (.aload_n 0, 1) := by decide +kernel
theorem d_Nu_step_114 : decode b_Nu_step 114 = .ok (.getfield 13, 3) := by decide +kernel
theorem d_Nu_step_117 : decode b_Nu_step 117 = .ok (.aload_n 0, 1) := by decide +kernel
theorem d_Nu_step_118 : decode b_Nu_step 118 = .ok (.getfield 9, 3) := by decide +kernel
theorem d_Nu_step_121 : decode b_Nu_step 121 = .ok (.arraylength, 1) := by decide +kernel
theorem d_Nu_step_122 : decode b_Nu_step 122 = .ok (.if_icmp .ge 23, 3) := by decide +kernel
theorem d_Nu_step_125 : decode b_Nu_step 125 = .ok (.aload_n 0, 1) := by decide +kernel
theorem d_Nu_step_126 : decode b_Nu_step 126 = .ok (.getfield 9, 3) := by decide +kernel
theorem d_Nu_step_129 : decode b_Nu_step 129 = .ok (.aload_n 0, 1) := by decide +kernel
theorem d_Nu_step_130 : decode b_Nu_step 130 = .ok (.getfield 13, 3) := by decide +kernel
theorem d_Nu_step_133 : decode b_Nu_step 133 = .ok (.iconst 1, 1) := by decide +kernel
theorem d_Nu_step_134 : decode b_Nu_step 134 = .ok (.iastore, 1) := by decide +kernel
theorem d_Nu_step_135 : decode b_Nu_step 135 = .ok (.aload_n 0, 1) := by decide +kernel
theorem d_Nu_step_136 : decode b_Nu_step 136 = .ok (.dup, 1) := by decide +kernel
theorem d_Nu_step_137 : decode b_Nu_step 137 = .ok (.getfield 13, 3) := by decide +kernel
theorem d_Nu_step_140 : decode b_Nu_step 140 = .ok (.iconst 1, 1) := by decide +kernel
theorem d_Nu_step_141 : decode b_Nu_step 141 = .ok (.iadd, 1) := by decide +kernel
theorem d_Nu_step_142 : decode b_Nu_step 142 = .ok (.putfield 13, 3) := by decide +kernel
theorem d_Nu_step_145 : decode b_Nu_step 145 = .ok (.aload_n 0, 1) := by decide +kernel
theorem d_Nu_step_146 : decode b_Nu_step 146 = .ok (.invokevirtual 64, 3) := by decide +kernel
theorem d_Nu_step_149 : decode b_Nu_step 149 = .ok (.return_, 1) := by decide +kernel
theorem d_Nu_move_0 : decode b_Nu_move 0 = .ok (.aload_n 0, 1) := by decide +kernel
theorem d_Nu_move_1 : decode b_Nu_move 1 = .ok (.getfield 17, 3) := by decide +kernel
theorem d_Nu_move_4 : decode b_Nu_move 4 = .ok (.ifCond .ge 7, 3) := by decide +kernel
theorem d_Nu_move_7 : decode b_Nu_move 7 = .ok (.iconst 1, 1) := by decide +kernel
theorem d_Nu_move_8 : decode b_Nu_move 8 = .ok (.goto 4, 3) := by decide +kernel
theorem d_Nu_move_11 : decode b_Nu_move 11 = .ok (.iconst 0, 1) := by decide +kernel
theorem d_Nu_move_12 : decode b_Nu_move 12 = .ok (.istore_n 2, 1) := by decide +kernel
theorem d_Nu_move_13 : decode b_Nu_move 13 = .ok (.iload_n 1, 1) := by decide +kernel
theorem d_Nu_move_14 : decode b_Nu_move 14 = .ok (.ifCond .lt 11, 3) := by decide +kernel
theorem d_Nu_move_17 : decode b_Nu_move 17 = .ok (.aload_n 0, 1) := by decide +kernel
theorem d_Nu_move_18 : decode b_Nu_move 18 = .ok (.iload_n 1, 1) := by decide +kernel
theorem d_Nu_move_19 : decode b_Nu_move 19 = .ok (.invokevirtual 72, 3) := by decide +kernel
theorem d_Nu_move_22 : decode b_Nu_move 22 = .ok (.goto 21, 3) := by decide +kernel
theorem d_Nu_move_25 : decode b_Nu_move 25 = .ok (.aload_n 0, 1) := by decide +kernel
theorem d_Nu_move_26 : decode b_Nu_move 26 = .ok (.iload_n 1, 1) := by decide +kernel
theorem d_Nu_move_27 : decode b_Nu_move 27 = .ok (.ineg, 1) := by decide +kernel
theorem d_Nu_move_28 : decode b_Nu_move 28 = .ok (.invokevirtual 76, 3) := by decide +kernel
theorem d_Nu_move_31 : decode b_Nu_move 31 = .ok (.ifCond .eq 12, 3) := by decide +kernel
theorem d_Nu_move_34 : decode b_Nu_move 34 = .ok (.iload_n 2, 1) := by decide +kernel
theorem d_Nu_move_35 : decode b_Nu_move 35 = .ok (.ifCond .eq 8, 3) := by decide +kernel
theorem d_Nu_move_38 : decode b_Nu_move 38 = .ok (.aload_n 0, 1) := by decide +kernel
theorem d_Nu_move_39 : decode b_Nu_move 39 = .ok (.iconst (-1), 1) := by decide +kernel
theorem d_Nu_move_40 : decode b_Nu_move 40 = .ok (.invokevirtual 80, 3) := by decide +kernel
theorem d_Nu_move_43 : decode b_Nu_move 43 = .ok (.return_, 1) := by decide +kernel
theorem d_Nu_shiftUp_0 : decode b_Nu_shiftUp 0 = .ok (.aload_n 0, 1) := by decide +kernel
theorem d_Nu_shiftUp_1 : decode b_Nu_shiftUp 1 = .ok (.getfield 13, 3) := by decide +kernel
theorem d_Nu_shiftUp_4 : decode b_Nu_shiftUp 4 = .ok (.ifCond .eq 7, 3) := by decide +kernel
theorem d_Nu_shiftUp_7 : decode b_Nu_shiftUp 7 = .ok (.iload_n 1, 1) := by decide +kernel
theorem d_Nu_shiftUp_8 : decode b_Nu_shiftUp 8 = .ok (.ifCond .gt 4, 3) := by decide +kernel
theorem d_Nu_shiftUp_11 : decode b_Nu_shiftUp 11 = .ok (.return_, 1) := by decide +kernel
theorem d_Nu_shiftUp_12 : decode b_Nu_shiftUp 12 = .ok (.iload_n 1, 1) := by decide +kernel
theorem d_Nu_shiftUp_13 : decode b_Nu_shiftUp 13 = .ok (.bipush 31, 2) := by decide +kernel
theorem d_Nu_shiftUp_15 : decode b_Nu_shiftUp 15 = .ok (.idiv, 1) := by decide +kernel
theorem d_Nu_shiftUp_16 : decode b_Nu_shiftUp 16 = .ok (.istore_n 2, 1) := by decide +kernel
theorem d_Nu_shiftUp_17 : decode b_Nu_shiftUp 17 = .ok (.iload_n 1, 1) := by decide +kernel
theorem d_Nu_shiftUp_18 : decode b_Nu_shiftUp 18 = .ok (.bipush 31, 2) := by decide +kernel
theorem d_Nu_shiftUp_20 : decode b_Nu_shiftUp 20 = .ok (.irem, 1) := by decide +kernel
theorem d_Nu_shiftUp_21 : decode b_Nu_shiftUp 21 = .ok (.istore_n 3, 1) := by decide +kernel
theorem d_Nu_shiftUp_22 : decode b_Nu_shiftUp 22 = .ok (.aload_n 0, 1) := by decide +kernel
theorem d_Nu_shiftUp_23 : decode b_Nu_shiftUp 23 = .ok (.getfield 13, 3) := by decide +kernel
theorem d_Nu_shiftUp_26 : decode b_Nu_shiftUp 26 = .ok (.iload_n 2, 1) := by decide +kernel
theorem d_Nu_shiftUp_27 : decode b_Nu_shiftUp 27 = .ok (.iadd, 1) := by decide +kernel
theorem d_Nu_shiftUp_28 : decode b_Nu_shiftUp 28 = .ok (.iconst 1, 1) := by decide +kernel
theorem d_Nu_shiftUp_29 : decode b_Nu_shiftUp 29 = .ok (.iadd, 1) := by decide +kernel
theorem d_Nu_shiftUp_30 : decode b_Nu_shiftUp 30 = .ok (.aload_n 0, 1) := by decide +kernel
theorem d_Nu_shiftUp_31 : decode b_Nu_shiftUp 31 = .ok (.getfield 9, 3) := by decide +kernel
theorem d_Nu_shiftUp_34 : decode b_Nu_shiftUp 34 = .ok (.arraylength, 1) := by decide +kernel
theorem d_Nu_shiftUp_35 : decode b_Nu_shiftUp 35 = .ok (.if_icmp .le 8, 3) := by decide +kernel
theorem d_Nu_shiftUp_38 : decode b_Nu_shiftUp 38 = .ok (.aload_n 0, 1) := by decide +kernel
theorem d_Nu_shiftUp_39 : decode b_Nu_shiftUp 39 = .ok (.invokevirtual 51, 3) := by decide +kernel
theorem d_Nu_shiftUp_42 : decode b_Nu_shiftUp 42 = .ok (.return_, 1) := by decide +kernel
theorem d_Nu_shiftUp_43 : decode b_Nu_shiftUp 43 = .ok (.aload_n 0, 1) := by decide +kernel
theorem d_Nu_shiftUp_44 : decode b_Nu_shiftUp 44 = .ok (.getfield 9, 3) := by decide +kernel
theorem d_Nu_shiftUp_47 : decode b_Nu_shiftUp 47 = .ok (.aload_n 0, 1) := by decide +kernel
theorem d_Nu_shiftUp_48 : decode b_Nu_shiftUp 48 = .ok (.getfield 13, 3) := by decide +kernel
theorem d_Nu_shiftUp_51 : decode b_Nu_shiftUp 51 = .ok (.iload_n 2, 1) := by decide +kernel
theorem d_Nu_shiftUp_52 : decode b_Nu_shiftUp 52 = .ok (.iadd, 1) := by decide +kernel
theorem d_Nu_shiftUp_53 : decode b_Nu_shiftUp 53 = .ok (.iconst 0, 1) := by decide +kernel
theorem d_Nu_shiftUp_54 : decode b_Nu_shiftUp 54 = .ok (.iastore, 1) := by decide +kernel
theorem d_Nu_shiftUp_55 : decode b_Nu_shiftUp 55 = .ok (.aload_n 0, 1) := by decide +kernel
theorem d_Nu_shiftUp_56 : decode b_Nu_shiftUp 56 = .ok (.getfield 13, 3) := by decide +kernel
theorem d_Nu_shiftUp_59 : decode b_Nu_shiftUp 59 = .ok (.iconst 1, 1) := by decide +kernel
theorem d_Nu_shiftUp_60 : decode b_Nu_shiftUp 60 = .ok (.isub, 1) := by decide +kernel
theorem d_Nu_shiftUp_61 : decode b_Nu_shiftUp 61 = .ok (.istore 4, 2) := by decide +kernel
theorem d_Nu_shiftUp_63 : decode b_Nu_shiftUp 63 = .ok (.iload 4, 2) := by decide +kernel
theorem d_Nu_shiftUp_65 : decode b_Nu_shiftUp 65 = .ok (.ifCond .lt 66, 3) := by decide +kernel
theorem d_Nu_shiftUp_68 : decode b_Nu_shiftUp 68 = .ok (.aload_n 0, 1) := by decide +kernel
theorem d_Nu_shiftUp_69 : decode b_Nu_shiftUp 69 = .ok (.getfield 9, 3) := by decide +kernel
theorem d_Nu_shiftUp_72 : decode b_Nu_shiftUp 72 = .ok (.iload 4, 2) := by decide +kernel
theorem d_Nu_shiftUp_74 : decode b_Nu_shiftUp 74 = .ok (.iaload, 1) := by decide +kernel
theorem d_Nu_shiftUp_75 : decode b_Nu_shiftUp 75 = .ok (.i2l, 1) := by decide +kernel
theorem d_Nu_shiftUp_76 : decode b_Nu_shiftUp 76 = .ok (.iload_n 3, 1) := by decide +kernel
theorem d_Nu_shiftUp_77 : decode b_Nu_shiftUp 77 = .ok (.lshl, 1) := by decide +kernel
theorem d_Nu_shiftUp_78 : decode b_Nu_shiftUp 78 = .ok (.lstore 5, 2) := by decide +kernel
theorem d_Nu_shiftUp_80 : decode b_Nu_shiftUp 80 = .ok (.aload_n 0, 1) := by decide +kernel
theorem d_Nu_shiftUp_81 : decode b_Nu_shiftUp 81 = .ok (.getfield 9, 3) := by decide +kernel
theorem d_Nu_shiftUp_84 : decode b_Nu_shiftUp 84 = .ok (.iload 4, 2) := by decide +kernel
theorem d_Nu_shiftUp_86 : decode b_Nu_shiftUp 86 = .ok (.iload_n 2, 1) := by decide +kernel
theorem d_Nu_shiftUp_87 : decode b_Nu_shiftUp 87 = .ok (.iadd, 1) := by decide +kernel
theorem d_Nu_shiftUp_88 : decode b_Nu_shiftUp 88 = .ok (.iconst 1, 1) := by decide +kernel
theorem d_Nu_shiftUp_89 : decode b_Nu_shiftUp 89 = .ok (.iadd, 1) := by decide +kernel
theorem d_Nu_shiftUp_90 : decode b_Nu_shiftUp 90 = .ok (.aload_n 0, 1) := by decide +kernel
theorem d_Nu_shiftUp_91 : decode b_Nu_shiftUp 91 = .ok (.getfield 9, 3) := by decide +kernel
theorem d_Nu_shiftUp_94 : decode b_Nu_shiftUp 94 = .ok (.iload 4, 2) := by decide +kernel
theorem d_Nu_shiftUp_96 : decode b_Nu_shiftUp 96 = .ok (.iload_n 2, 1) := by decide +kernel
theorem d_Nu_shiftUp_97 : decode b_Nu_shiftUp 97 = .ok (.iadd, 1) := by decide +kernel
theorem d_Nu_shiftUp_98 : decode b_Nu_shiftUp 98 = .ok (.iconst 1, 1) := by decide +kernel
theorem d_Nu_shiftUp_99 : decode b_Nu_shiftUp 99 = .ok (.iadd, 1) := by decide +kernel
theorem d_Nu_shiftUp_100 : decode b_Nu_shiftUp 100 = .ok (.iaload, 1) := by decide +kernel
theorem d_Nu_shiftUp_101 : decode b_Nu_shiftUp 101 = .ok (.lload 5, 2) := by decide +kernel
theorem d_Nu_shiftUp_103 : decode b_Nu_shiftUp 103 = .ok (.bipush 31, 2) := by decide +kernel
theorem d_Nu_shiftUp_105 : decode b_Nu_shiftUp 105 = .ok (.lushr, 1) := by decide +kernel
theorem d_Nu_shiftUp_106 : decode b_Nu_shiftUp 106 = .ok (.l2i, 1) := by decide +kernel
theorem d_Nu_shiftUp_107 : decode b_Nu_shiftUp 107 = .ok (.ior, 1) := by decide +kernel
theorem d_Nu_shiftUp_108 : decode b_Nu_shiftUp 108 = .ok (.iastore, 1) := by decide +kernel
theorem d_Nu_shiftUp_109 : decode b_Nu_shiftUp 109 = .ok (.aload_n 0, 1) := by decide +kernel
theorem d_Nu_shiftUp_110 : decode b_Nu_shiftUp 110 = .ok (.getfield 9, 3) := by decide +kernel
theorem d_Nu_shiftUp_113 : decode b_Nu_shiftUp 113 = .ok (.iload 4, 2) := by decide +kernel
theorem d_Nu_shiftUp_115 : decode b_Nu_shiftUp 115 = .ok (.iload_n 2, 1) := by decide +kernel
theorem d_Nu_shiftUp_116 : decode b_Nu_shiftUp 116 = .ok (.iadd, 1) := by decide +kernel
theorem d_Nu_shiftUp_117 : decode b_Nu_shiftUp 117 = .ok (.lload 5, 2) := by decide +kernel
theorem d_Nu_shiftUp_119 : decode b_Nu_shiftUp 119 = .ok (.ldc2_w 26, 3) := by decide +kernel
theorem d_Nu_shiftUp_122 : decode b_Nu_shiftUp 122 = .ok (.land, 1) := by decide +kernel
theorem d_Nu_shiftUp_123 : decode b_Nu_shiftUp 123 = .ok (.l2i, 1) := by decide +kernel
theorem d_Nu_shiftUp_124 : decode b_Nu_shiftUp 124 = .ok (.iastore, 1) := by decide +kernel
theorem d_Nu_shiftUp_125 : decode b_Nu_shiftUp 125 = .ok (.iinc 4 (-1), 3) := by decide +kernel
theorem d_Nu_shiftUp_128 : decode b_Nu_shiftUp 128 = .ok (.goto (-65), 3) := by decide +kernel
theorem d_Nu_shiftUp_131 : decode b_Nu_shiftUp 131 = .ok (.aload_n 0, 1) := by decide +kernel
theorem d_Nu_shiftUp_132 : decode b_Nu_shiftUp 132 = .ok (.getfield 9, 3) := by decide +kernel
theorem d_Nu_shiftUp_135 : decode b_Nu_shiftUp 135 = .ok (.iconst 0, 1) := by decide +kernel
theorem d_Nu_shiftUp_136 : decode b_Nu_shiftUp 136 = .ok (.iload_n 2, 1) := by decide +kernel
theorem d_Nu_shiftUp_137 : decode b_Nu_shiftUp 137 = .ok (.iconst 0, 1) := by decide +kernel
theorem d_Nu_shiftUp_138 : decode b_Nu_shiftUp 138 = .ok (.invokestatic 83, 3) := by decide +kernel
theorem d_Nu_shiftUp_141 : decode b_Nu_shiftUp 141 = .ok (.aload_n 0, 1) := by decide +kernel
theorem d_Nu_shiftUp_142 : decode b_Nu_shiftUp 142 = .ok (.aload_n 0, 1) := by decide +kernel
theorem d_Nu_shiftUp_143 : decode b_Nu_shiftUp 143 = .ok (.getfield 13, 3) := by decide +kernel
theorem d_Nu_shiftUp_146 : decode b_Nu_shiftUp 146 = .ok (.iload_n 2, 1) := by decide +kernel
theorem d_Nu_shiftUp_147 : decode b_Nu_shiftUp 147 = .ok (.iadd, 1) := by decide +kernel
theorem d_Nu_shiftUp_148 : decode b_Nu_shiftUp 148 = .ok (.iconst 1, 1) := by decide +kernel
theorem d_Nu_shiftUp_149 : decode b_Nu_shiftUp 149 = .ok (.iadd, 1) := by decide +kernel
theorem d_Nu_shiftUp_150 : decode b_Nu_shiftUp 150 = .ok (.putfield 13, 3) := by decide +kernel
theorem d_Nu_shiftUp_153 : decode b_Nu_shiftUp 153 = .ok (.aload_n 0, 1) := by decide +kernel
theorem d_Nu_shiftUp_154 : decode b_Nu_shiftUp 154 = .ok (.invokevirtual 64, 3) := by decide +kernel
theorem d_Nu_shiftUp_157 : decode b_Nu_shiftUp 157 = .ok (.return_, 1) := by decide +kernel
theorem d_Nu_shiftDown_0 : decode b_Nu_shiftDown 0 = .ok (.aload_n 0, 1) := by decide +kernel
theorem d_Nu_shiftDown_1 : decode b_Nu_shiftDown 1 = .ok (.getfield 13, 3) := by decide +kernel
theorem d_Nu_shiftDown_4 : decode b_Nu_shiftDown 4 = .ok (.ifCond .eq 7, 3) := by decide +kernel
theorem d_Nu_shiftDown_7 : decode b_Nu_shiftDown 7 = .ok (.iload_n 1, 1) := by decide +kernel
theorem d_Nu_shiftDown_8 : decode b_Nu_shiftDown 8 = .ok (.ifCond .gt 5, 3) := by decide +kernel
theorem d_Nu_shiftDown_11 : decode b_Nu_shiftDown 11 = .ok (.iconst 0, 1) := by decide +kernel
theorem d_Nu_shiftDown_12 : decode b_Nu_shiftDown 12 = .ok (.ireturn, 1) := by decide +kernel
theorem d_Nu_shiftDown_13 : decode b_Nu_shiftDown 13 = .ok (.iload_n 1, 1) := by decide +kernel
theorem d_Nu_shiftDown_14 : decode b_Nu_shiftDown 14 = .ok (.bipush 31, 2) := by decide +kernel
theorem d_Nu_shiftDown_16 : decode b_Nu_shiftDown 16 = .ok (.idiv, 1) := by decide +kernel
theorem d_Nu_shiftDown_17 : decode b_Nu_shiftDown 17 = .ok (.aload_n 0, 1) := by decide +kernel
theorem d_Nu_shiftDown_18 : decode b_Nu_shiftDown 18 = .ok (.getfield 13, 3) := by decide +kernel
theorem d_Nu_shiftDown_21 : decode b_Nu_shiftDown 21 = .ok (.invokestatic 89, 3) := by decide +kernel
theorem d_Nu_shiftDown_24 : decode b_Nu_shiftDown 24 = .ok (.istore_n 2, 1) := by decide +kernel
theorem d_Nu_shiftDown_25 : decode b_Nu_shiftDown 25 = .ok (.iload_n 1, 1) := by decide +kernel
theorem d_Nu_shiftDown_26 : decode b_Nu_shiftDown 26 = .ok (.bipush 31, 2) := by decide +kernel
theorem d_Nu_shiftDown_28 : decode b_Nu_shiftDown 28 = .ok (.irem, 1) := by decide +kernel
theorem d_Nu_shiftDown_29 : decode b_Nu_shiftDown 29 = .ok (.istore_n 3, 1) := by decide +kernel
theorem d_Nu_shiftDown_30 : decode b_Nu_shiftDown 30 = .ok (.iconst 0, 1) := by decide +kernel
theorem d_Nu_shiftDown_31 : decode b_Nu_shiftDown 31 = .ok (.istore 4, 2) := by decide +kernel
theorem d_Nu_shiftDown_33 : decode b_Nu_shiftDown 33 = .ok (.iconst 0, 1) := by decide +kernel
theorem d_Nu_shiftDown_34 : decode b_Nu_shiftDown 34 = .ok (.istore 5, 2) := by decide +kernel
theorem d_Nu_shiftDown_36 : decode b_Nu_shiftDown 36 = .ok (.iload 5, 2) := by decide +kernel
theorem d_Nu_shiftDown_38 : decode b_Nu_shiftDown 38 = .ok (.iload_n 2, 1) := by decide +kernel
theorem d_Nu_shiftDown_39 : decode b_Nu_shiftDown 39 = .ok (.if_icmp .ge 31, 3) := by decide +kernel
theorem d_Nu_shiftDown_42 : decode b_Nu_shiftDown 42 = .ok (.iload 4, 2) := by decide +kernel
theorem d_Nu_shiftDown_44 : decode b_Nu_shiftDown 44 = .ok (.ifCond .ne 26, 3) := by decide +kernel
theorem d_Nu_shiftDown_47 : decode b_Nu_shiftDown 47 = .ok (.aload_n 0, 1) := by decide +kernel
theorem d_Nu_shiftDown_48 : decode b_Nu_shiftDown 48 = .ok (.getfield 9, 3) := by decide +kernel
theorem d_Nu_shiftDown_51 : decode b_Nu_shiftDown 51 = .ok (.iload 5, 2) := by decide +kernel
theorem d_Nu_shiftDown_53 : decode b_Nu_shiftDown 53 = .ok (.iaload, 1) := by decide +kernel
theorem d_Nu_shiftDown_54 : decode b_Nu_shiftDown 54 = .ok (.ifCond .eq 7, 3) := by decide +kernel
theorem d_Nu_shiftDown_57 : decode b_Nu_shiftDown 57 = .ok (.iconst 1, 1) := by decide +kernel
theorem d_Nu_shiftDown_58 : decode b_Nu_shiftDown 58 = .ok (.goto 4, 3) := by decide +kernel
theorem d_Nu_shiftDown_61 : decode b_Nu_shiftDown 61 = .ok (.iconst 0, 1) := by decide +kernel
theorem d_Nu_shiftDown_62 : decode b_Nu_shiftDown 62 = .ok (.istore 4, 2) := by decide +kernel
theorem d_Nu_shiftDown_64 : decode b_Nu_shiftDown 64 = .ok (.iinc 5 1, 3) := by decide +kernel
theorem d_Nu_shiftDown_67 : decode b_Nu_shiftDown 67 = .ok (.goto (-31), 3) := by decide +kernel
theorem d_Nu_shiftDown_70 : decode b_Nu_shiftDown 70 = .ok (.iload_n 2, 1) := by decide +kernel
theorem d_Nu_shiftDown_71 : decode b_Nu_shiftDown 71 = .ok (.aload_n 0, 1) := by decide +kernel
theorem d_Nu_shiftDown_72 : decode b_Nu_shiftDown 72 = .ok (.getfield 13, 3) := by decide +kernel
theorem d_Nu_shiftDown_75 : decode b_Nu_shiftDown 75 = .ok (.if_icmp .ge 30, 3) := by decide +kernel
theorem d_Nu_shiftDown_78 : decode b_Nu_shiftDown 78 = .ok (.iload 4, 2) := by decide +kernel
theorem d_Nu_shiftDown_80 : decode b_Nu_shiftDown 80 = .ok (.ifCond .ne 18, 3) := by decide +kernel
theorem d_Nu_shiftDown_83 : decode b_Nu_shiftDown 83 = .ok (.aload_n 0, 1) := by decide +kernel
theorem d_Nu_shiftDown_84 : decode b_Nu_shiftDown 84 = .ok (.getfield 9, 3) := by decide +kernel
theorem d_Nu_shiftDown_87 : decode b_Nu_shiftDown 87 = .ok (.iload_n 2, 1) := by decide +kernel
theorem d_Nu_shiftDown_88 : decode b_Nu_shiftDown 88 = .ok (.iaload, 1) := by decide +kernel
theorem d_Nu_shiftDown_89 : decode b_Nu_shiftDown 89 = .ok (.iconst 1, 1) := by decide +kernel
theorem d_Nu_shiftDown_90 : decode b_Nu_shiftDown 90 = .ok (.iload_n 3, 1) := by decide +kernel
theorem d_Nu_shiftDown_91 : decode b_Nu_shiftDown 91 = .ok (.ishl, 1) := by decide +kernel
theorem d_Nu_shiftDown_92 : decode b_Nu_shiftDown 92 = .ok (.iconst 1, 1) := by decide +kernel
theorem d_Nu_shiftDown_93 : decode b_Nu_shiftDown 93 = .ok (.isub, 1) := by decide +kernel
theorem d_Nu_shiftDown_94 : decode b_Nu_shiftDown 94 = .ok (.iand, 1) := by decide +kernel
theorem d_Nu_shiftDown_95 : decode b_Nu_shiftDown 95 = .ok (.ifCond .eq 7, 3) := by decide +kernel
theorem d_Nu_shiftDown_98 : decode b_Nu_shiftDown 98 = .ok (.iconst 1, 1) := by decide +kernel
theorem d_Nu_shiftDown_99 : decode b_Nu_shiftDown 99 = .ok (.goto 4, 3) := by decide +kernel
theorem d_Nu_shiftDown_102 : decode b_Nu_shiftDown 102 = .ok (.iconst 0, 1) := by decide +kernel
theorem d_Nu_shiftDown_103 : decode b_Nu_shiftDown 103 = .ok (.istore 4, 2) := by decide +kernel
theorem d_Nu_shiftDown_105 : decode b_Nu_shiftDown 105 = .ok (.iload_n 2, 1) := by decide +kernel
theorem d_Nu_shiftDown_106 : decode b_Nu_shiftDown 106 = .ok (.istore 5, 2) := by decide +kernel
theorem d_Nu_shiftDown_108 : decode b_Nu_shiftDown 108 = .ok (.iload 5, 2) := by decide +kernel
theorem d_Nu_shiftDown_110 : decode b_Nu_shiftDown 110 = .ok (.aload_n 0, 1) := by decide +kernel
theorem d_Nu_shiftDown_111 : decode b_Nu_shiftDown 111 = .ok (.getfield 13, 3) := by decide +kernel
theorem d_Nu_shiftDown_114 : decode b_Nu_shiftDown 114 = .ok (.if_icmp .ge 70, 3) := by decide +kernel
theorem d_Nu_shiftDown_117 : decode b_Nu_shiftDown 117 = .ok (.iload 5, 2) := by decide +kernel
theorem d_Nu_shiftDown_119 : decode b_Nu_shiftDown 119 = .ok (.iconst 1, 1) := by decide +kernel
theorem d_Nu_shiftDown_120 : decode b_Nu_shiftDown 120 = .ok (.iadd, 1) := by decide +kernel
theorem d_Nu_shiftDown_121 : decode b_Nu_shiftDown 121 = .ok (.aload_n 0, 1) := by decide +kernel
theorem d_Nu_shiftDown_122 : decode b_Nu_shiftDown 122 = .ok (.getfield 13, 3) := by decide +kernel
theorem d_Nu_shiftDown_125 : decode b_Nu_shiftDown 125 = .ok (.if_icmp .ge 16, 3) := by decide +kernel
theorem d_Nu_shiftDown_128 : decode b_Nu_shiftDown 128 = .ok (.aload_n 0, 1) := by decide +kernel
theorem d_Nu_shiftDown_129 : decode b_Nu_shiftDown 129 = .ok (.getfield 9, 3) := by decide +kernel
theorem d_Nu_shiftDown_132 : decode b_Nu_shiftDown 132 = .ok (.iload 5, 2) := by decide +kernel
theorem d_Nu_shiftDown_134 : decode b_Nu_shiftDown 134 = .ok (.iconst 1, 1) := by decide +kernel
theorem d_Nu_shiftDown_135 : decode b_Nu_shiftDown 135 = .ok (.iadd, 1) := by decide +kernel
theorem d_Nu_shiftDown_136 : decode b_Nu_shiftDown 136 = .ok (.iaload, 1) := by decide +kernel
theorem d_Nu_shiftDown_137 : decode b_Nu_shiftDown 137 = .ok (.i2l, 1) := by decide +kernel
theorem d_Nu_shiftDown_138 : decode b_Nu_shiftDown 138 = .ok (.goto 4, 3) := by decide +kernel
theorem d_Nu_shiftDown_141 : decode b_Nu_shiftDown 141 = .ok (.lconst 0, 1) := by decide +kernel
theorem d_Nu_shiftDown_142 : decode b_Nu_shiftDown 142 = .ok (.lstore 6, 2) := by decide +kernel
theorem d_Nu_shiftDown_144 : decode b_Nu_shiftDown 144 = .ok (.lload 6, 2) := by decide +kernel
theorem d_Nu_shiftDown_146 : decode b_Nu_shiftDown 146 = .ok (.bipush 31, 2) := by decide +kernel
theorem d_Nu_shiftDown_148 : decode b_Nu_shiftDown 148 = .ok (.lshl, 1) := by decide +kernel
theorem d_Nu_shiftDown_149 : decode b_Nu_shiftDown 149 = .ok (.aload_n 0, 1) := by decide +kernel
theorem d_Nu_shiftDown_150 : decode b_Nu_shiftDown 150 = .ok (.getfield 9, 3) := by decide +kernel
theorem d_Nu_shiftDown_153 : decode b_Nu_shiftDown 153 = .ok (.iload 5, 2) := by decide +kernel
theorem d_Nu_shiftDown_155 : decode b_Nu_shiftDown 155 = .ok (.iaload, 1) := by decide +kernel
theorem d_Nu_shiftDown_156 : decode b_Nu_shiftDown 156 = .ok (.i2l, 1) := by decide +kernel
theorem d_Nu_shiftDown_157 : decode b_Nu_shiftDown 157 = .ok (.lor, 1) := by decide +kernel
theorem d_Nu_shiftDown_158 : decode b_Nu_shiftDown 158 = .ok (.lstore 8, 2) := by decide +kernel
theorem d_Nu_shiftDown_160 : decode b_Nu_shiftDown 160 = .ok (.aload_n 0, 1) := by decide +kernel
theorem d_Nu_shiftDown_161 : decode b_Nu_shiftDown 161 = .ok (.getfield 9, 3) := by decide +kernel
theorem d_Nu_shiftDown_164 : decode b_Nu_shiftDown 164 = .ok (.iload 5, 2) := by decide +kernel
theorem d_Nu_shiftDown_166 : decode b_Nu_shiftDown 166 = .ok (.iload_n 2, 1) := by decide +kernel
theorem d_Nu_shiftDown_167 : decode b_Nu_shiftDown 167 = .ok (.isub, 1) := by decide +kernel
theorem d_Nu_shiftDown_168 : decode b_Nu_shiftDown 168 = .ok (.lload 8, 2) := by decide +kernel
theorem d_Nu_shiftDown_170 : decode b_Nu_shiftDown 170 = .ok (.iload_n 3, 1) := by decide +kernel
theorem d_Nu_shiftDown_171 : decode b_Nu_shiftDown 171 = .ok (.lushr, 1) := by decide +kernel
theorem d_Nu_shiftDown_172 : decode b_Nu_shiftDown 172 = .ok (.ldc2_w 26, 3) := by decide +kernel
theorem d_Nu_shiftDown_175 : decode b_Nu_shiftDown 175 = .ok (.land, 1) := by decide +kernel
theorem d_Nu_shiftDown_176 : decode b_Nu_shiftDown 176 = .ok (.l2i, 1) := by decide +kernel
theorem d_Nu_shiftDown_177 : decode b_Nu_shiftDown 177 = .ok (.iastore, 1) := by decide +kernel
theorem d_Nu_shiftDown_178 : decode b_Nu_shiftDown 178 = .ok (.iinc 5 1, 3) := by decide +kernel
theorem d_Nu_shiftDown_181 : decode b_Nu_shiftDown 181 = .ok (.goto (-73), 3) := by decide +kernel
theorem d_Nu_shiftDown_184 : decode b_Nu_shiftDown 184 = .ok (.aload_n 0, 1) := by decide +kernel
theorem d_Nu_shiftDown_185 : decode b_Nu_shiftDown 185 = .ok (.aload_n 0, 1) := by decide +kernel
theorem d_Nu_shiftDown_186 : decode b_Nu_shiftDown 186 = .ok (.getfield 13, 3) := by decide +kernel
theorem d_Nu_shiftDown_189 : decode b_Nu_shiftDown 189 = .ok (.iload_n 2, 1) := by decide +kernel
theorem d_Nu_shiftDown_190 : decode b_Nu_shiftDown 190 = .ok (.isub, 1) := by decide +kernel
theorem d_Nu_shiftDown_191 : decode b_Nu_shiftDown 191 = .ok (.putfield 13, 3) := by decide +kernel
theorem d_Nu_shiftDown_194 : decode b_Nu_shiftDown 194 = .ok (.aload_n 0, 1) := by decide +kernel
theorem d_Nu_shiftDown_195 : decode b_Nu_shiftDown 195 = .ok (.invokevirtual 64, 3) := by decide +kernel
theorem d_Nu_shiftDown_198 : decode b_Nu_shiftDown 198 = .ok (.iload 4, 2) := by decide +kernel
theorem d_Nu_shiftDown_200 : decode b_Nu_shiftDown 200 = .ok (.ireturn, 1) := by decide +kernel
theorem d_Nu_setProduct_0 : decode b_Nu_setProduct 0 = .ok (.aload_n 1, 1) := by decide +kernel
theorem d_Nu_setProduct_1 : decode b_Nu_setProduct 1 = .ok (.getfield 13, 3) := by decide +kernel
theorem d_Nu_setProduct_4 : decode b_Nu_setProduct 4 = .ok (.ifCond .eq 27, 3) := by decide +kernel
theorem d_Nu_setProduct_7 : decode b_Nu_setProduct 7 = .ok (.aload_n 2, 1) := by decide +kernel
theorem d_Nu_setProduct_8 : decode b_Nu_setProduct 8 = .ok (.getfield 13, 3) := by decide +kernel
theorem d_Nu_setProduct_11 : decode b_Nu_setProduct 11 = .ok (.ifCond .eq 20, 3) := by decide +kernel
theorem d_Nu_setProduct_14 : decode b_Nu_setProduct 14 = .ok (.aload_n 1, 1) := by decide +kernel
theorem d_Nu_setProduct_15 : decode b_Nu_setProduct 15 = .ok (.getfield 13, 3) := by decide +kernel
theorem d_Nu_setProduct_18 : decode b_Nu_setProduct 18 = .ok (.aload_n 2, 1) := by decide +kernel
theorem d_Nu_setProduct_19 : decode b_Nu_setProduct 19 = .ok (.getfield 13, 3) := by decide +kernel
theorem d_Nu_setProduct_22 : decode b_Nu_setProduct 22 = .ok (.iadd, 1) := by decide +kernel
theorem d_Nu_setProduct_23 : decode b_Nu_setProduct 23 = .ok (.aload_n 0, 1) := by decide +kernel
theorem d_Nu_setProduct_24 : decode b_Nu_setProduct 24 = .ok (.getfield 9, 3) := by decide +kernel
theorem d_Nu_setProduct_27 : decode b_Nu_setProduct 27 = .ok (.arraylength, 1) := by decide +kernel
theorem d_Nu_setProduct_28 : decode b_Nu_setProduct 28 = .ok (.if_icmp .le 8, 3) := by decide +kernel
theorem d_Nu_setProduct_31 : decode b_Nu_setProduct 31 = .ok (.aload_n 0, 1) := by decide +kernel
theorem d_Nu_setProduct_32 : decode b_Nu_setProduct 32 = .ok (.invokevirtual 51, 3) := by decide +kernel
theorem d_Nu_setProduct_35 : decode b_Nu_setProduct 35 = .ok (.return_, 1) := by decide +kernel
theorem d_Nu_setProduct_36 : decode b_Nu_setProduct 36 = .ok (.aload_n 0, 1) := by decide +kernel
theorem d_Nu_setProduct_37 : decode b_Nu_setProduct 37 = .ok (.aload_n 1, 1) := by decide +kernel
theorem d_Nu_setProduct_38 : decode b_Nu_setProduct 38 = .ok (.getfield 13, 3) := by decide +kernel
theorem d_Nu_setProduct_41 : decode b_Nu_setProduct 41 = .ok (.aload_n 2, 1) := by decide +kernel
theorem d_Nu_setProduct_42 : decode b_Nu_setProduct 42 = .ok (.getfield 13, 3) := by decide +kernel
theorem d_Nu_setProduct_45 : decode b_Nu_setProduct 45 = .ok (.iadd, 1) := by decide +kernel
theorem d_Nu_setProduct_46 : decode b_Nu_setProduct 46 = .ok (.putfield 13, 3) := by decide +kernel
theorem d_Nu_setProduct_49 : decode b_Nu_setProduct 49 = .ok (.aload_n 0, 1) := by decide +kernel
theorem d_Nu_setProduct_50 : decode b_Nu_setProduct 50 = .ok (.getfield 9, 3) := by decide +kernel
theorem d_Nu_setProduct_53 : decode b_Nu_setProduct 53 = .ok (.iconst 0, 1) := by decide +kernel
theorem d_Nu_setProduct_54 : decode b_Nu_setProduct 54 = .ok (.aload_n 0, 1) := by decide +kernel
theorem d_Nu_setProduct_55 : decode b_Nu_setProduct 55 = .ok (.getfield 13, 3) := by decide +kernel
theorem d_Nu_setProduct_58 : decode b_Nu_setProduct 58 = .ok (.iconst 0, 1) := by decide +kernel
theorem d_Nu_setProduct_59 : decode b_Nu_setProduct 59 = .ok (.invokestatic 83, 3) := by decide +kernel
theorem d_Nu_setProduct_62 : decode b_Nu_setProduct 62 = .ok (.iconst 0, 1) := by decide +kernel
theorem d_Nu_setProduct_63 : decode b_Nu_setProduct 63 = .ok (.istore_n 3, 1) := by decide +kernel
theorem d_Nu_setProduct_64 : decode b_Nu_setProduct 64 = .ok (.iload_n 3, 1) := by decide +kernel
theorem d_Nu_setProduct_65 : decode b_Nu_setProduct 65 = .ok (.aload_n 1, 1) := by decide +kernel
theorem d_Nu_setProduct_66 : decode b_Nu_setProduct 66 = .ok (.getfield 13, 3) := by decide +kernel
theorem d_Nu_setProduct_69 : decode b_Nu_setProduct 69 = .ok (.if_icmp .ge 103, 3) := by decide +kernel
theorem d_Nu_setProduct_72 : decode b_Nu_setProduct 72 = .ok (.aload_n 1, 1) := by decide +kernel
theorem d_Nu_setProduct_73 : decode b_Nu_setProduct 73 = .ok (.getfield 9, 3) := by decide +kernel
theorem d_Nu_setProduct_76 : decode b_Nu_setProduct 76 = .ok (.iload_n 3, 1) := by decide +kernel
theorem d_Nu_setProduct_77 : decode b_Nu_setProduct 77 = .ok (.iaload, 1) := by decide +kernel
theorem d_Nu_setProduct_78 : decode b_Nu_setProduct 78 = .ok (.i2l, 1) := by decide +kernel
theorem d_Nu_setProduct_79 : decode b_Nu_setProduct 79 = .ok (.lstore 4, 2) := by decide +kernel
theorem d_Nu_setProduct_81 : decode b_Nu_setProduct 81 = .ok (.lconst 0, 1) := by decide +kernel
theorem d_Nu_setProduct_82 : decode b_Nu_setProduct 82 = .ok (.lstore 6, 2) := by decide +kernel
theorem d_Nu_setProduct_84 : decode b_Nu_setProduct 84 = .ok (.iconst 0, 1) := by decide +kernel
theorem d_Nu_setProduct_85 : decode b_Nu_setProduct 85 = .ok (.istore 8, 2) := by decide +kernel
theorem d_Nu_setProduct_87 : decode b_Nu_setProduct 87 = .ok (.iload 8, 2) := by decide +kernel
theorem d_Nu_setProduct_89 : decode b_Nu_setProduct 89 = .ok (.aload_n 2, 1) := by decide +kernel
theorem d_Nu_setProduct_90 : decode b_Nu_setProduct 90 = .ok (.getfield 13, 3) := by decide +kernel
theorem d_Nu_setProduct_93 : decode b_Nu_setProduct 93 = .ok (.if_icmp .ge 59, 3) := by decide +kernel
theorem d_Nu_setProduct_96 : decode b_Nu_setProduct 96 = .ok (.lload 4, 2) := by decide +kernel
theorem d_Nu_setProduct_98 : decode b_Nu_setProduct 98 = .ok (.aload_n 2, 1) := by decide +kernel
theorem d_Nu_setProduct_99 : decode b_Nu_setProduct 99 = .ok (.getfield 9, 3) := by decide +kernel
theorem d_Nu_setProduct_102 : decode b_Nu_setProduct 102 = .ok (.iload 8, 2) := by decide +kernel
theorem d_Nu_setProduct_104 : decode b_Nu_setProduct 104 = .ok (.iaload, 1) := by decide +kernel
theorem d_Nu_setProduct_105 : decode b_Nu_setProduct 105 = .ok (.i2l, 1) := by decide +kernel
theorem d_Nu_setProduct_106 : decode b_Nu_setProduct 106 = .ok (.lmul, 1) := by decide +kernel
theorem d_Nu_setProduct_107 : decode b_Nu_setProduct 107 = .ok (.aload_n 0, 1) := by decide +kernel
theorem d_Nu_setProduct_108 : decode b_Nu_setProduct 108 = .ok (.getfield 9, 3) := by decide +kernel
theorem d_Nu_setProduct_111 : decode b_Nu_setProduct 111 = .ok (.iload_n 3, 1) := by decide +kernel
theorem d_Nu_setProduct_112 : decode b_Nu_setProduct 112 = .ok (.iload 8, 2) := by decide +kernel
theorem d_Nu_setProduct_114 : decode b_Nu_setProduct 114 = .ok (.iadd, 1) := by decide +kernel
theorem d_Nu_setProduct_115 : decode b_Nu_setProduct 115 = .ok (.iaload, 1) := by decide +kernel
theorem d_Nu_setProduct_116 : decode b_Nu_setProduct 116 = .ok (.i2l, 1) := by decide +kernel
theorem d_Nu_setProduct_117 : decode b_Nu_setProduct 117 = .ok (.ladd, 1) := by decide +kernel
theorem d_Nu_setProduct_118 : decode b_Nu_setProduct 118 = .ok (.lload 6, 2) := by decide +kernel
theorem d_Nu_setProduct_120 : decode b_Nu_setProduct 120 = .ok (.ladd, 1) := by decide +kernel
theorem d_Nu_setProduct_121 : decode b_Nu_setProduct 121 = .ok (.lstore 9, 2) := by decide +kernel
theorem d_Nu_setProduct_123 : decode b_Nu_setProduct 123 = .ok (.aload_n 0, 1) := by decide +kernel
theorem d_Nu_setProduct_124 : decode b_Nu_setProduct 124 = .ok (.getfield 9, 3) := by decide +kernel
theorem d_Nu_setProduct_127 : decode b_Nu_setProduct 127 = .ok (.iload_n 3, 1) := by decide +kernel
theorem d_Nu_setProduct_128 : decode b_Nu_setProduct 128 = .ok (.iload 8, 2) := by decide +kernel
theorem d_Nu_setProduct_130 : decode b_Nu_setProduct 130 = .ok (.iadd, 1) := by decide +kernel
theorem d_Nu_setProduct_131 : decode b_Nu_setProduct 131 = .ok (.lload 9, 2) := by decide +kernel
theorem d_Nu_setProduct_133 : decode b_Nu_setProduct 133 = .ok (.ldc2_w 26, 3) := by decide +kernel
theorem d_Nu_setProduct_136 : decode b_Nu_setProduct 136 = .ok (.land, 1) := by decide +kernel
theorem d_Nu_setProduct_137 : decode b_Nu_setProduct 137 = .ok (.l2i, 1) := by decide +kernel
theorem d_Nu_setProduct_138 : decode b_Nu_setProduct 138 = .ok (.iastore, 1) := by decide +kernel
theorem d_Nu_setProduct_139 : decode b_Nu_setProduct 139 = .ok (.lload 9, 2) := by decide +kernel
theorem d_Nu_setProduct_141 : decode b_Nu_setProduct 141 = .ok (.bipush 31, 2) := by decide +kernel
theorem d_Nu_setProduct_143 : decode b_Nu_setProduct 143 = .ok (.lushr, 1) := by decide +kernel
theorem d_Nu_setProduct_144 : decode b_Nu_setProduct 144 = .ok (.lstore 6, 2) := by decide +kernel
theorem d_Nu_setProduct_146 : decode b_Nu_setProduct 146 = .ok (.iinc 8 1, 3) := by decide +kernel
theorem d_Nu_setProduct_149 : decode b_Nu_setProduct 149 = .ok (.goto (-62), 3) := by decide +kernel
theorem d_Nu_setProduct_152 : decode b_Nu_setProduct 152 = .ok (.aload_n 0, 1) := by decide +kernel
theorem d_Nu_setProduct_153 : decode b_Nu_setProduct 153 = .ok (.getfield 9, 3) := by decide +kernel
theorem d_Nu_setProduct_156 : decode b_Nu_setProduct 156 = .ok (.iload_n 3, 1) := by decide +kernel
theorem d_Nu_setProduct_157 : decode b_Nu_setProduct 157 = .ok (.aload_n 2, 1) := by decide +kernel
theorem d_Nu_setProduct_158 : decode b_Nu_setProduct 158 = .ok (.getfield 13, 3) := by decide +kernel
theorem d_Nu_setProduct_161 : decode b_Nu_setProduct 161 = .ok (.iadd, 1) := by decide +kernel
theorem d_Nu_setProduct_162 : decode b_Nu_setProduct 162 = .ok (.lload 6, 2) := by decide +kernel
theorem d_Nu_setProduct_164 : decode b_Nu_setProduct 164 = .ok (.l2i, 1) := by decide +kernel
theorem d_Nu_setProduct_165 : decode b_Nu_setProduct 165 = .ok (.iastore, 1) := by decide +kernel
theorem d_Nu_setProduct_166 : decode b_Nu_setProduct 166 = .ok (.iinc 3 1, 3) := by decide +kernel
theorem d_Nu_setProduct_169 : decode b_Nu_setProduct 169 = .ok (.goto (-105), 3) := by decide +kernel
theorem d_Nu_setProduct_172 : decode b_Nu_setProduct 172 = .ok (.aload_n 0, 1) := by decide +kernel
theorem d_Nu_setProduct_173 : decode b_Nu_setProduct 173 = .ok (.aload_n 1, 1) := by decide +kernel
theorem d_Nu_setProduct_174 : decode b_Nu_setProduct 174 = .ok (.getfield 17, 3) := by decide +kernel
theorem d_Nu_setProduct_177 : decode b_Nu_setProduct 177 = .ok (.aload_n 2, 1) := by decide +kernel
theorem d_Nu_setProduct_178 : decode b_Nu_setProduct 178 = .ok (.getfield 17, 3) := by decide +kernel
theorem d_Nu_setProduct_181 : decode b_Nu_setProduct 181 = .ok (.imul, 1) := by decide +kernel
theorem d_Nu_setProduct_182 : decode b_Nu_setProduct 182 = .ok (.putfield 17, 3) := by decide +kernel
theorem d_Nu_setProduct_185 : decode b_Nu_setProduct 185 = .ok (.aload_n 0, 1) := by decide +kernel
theorem d_Nu_setProduct_186 : decode b_Nu_setProduct 186 = .ok (.invokevirtual 64, 3) := by decide +kernel
theorem d_Nu_setProduct_189 : decode b_Nu_setProduct 189 = .ok (.return_, 1) := by decide +kernel
theorem d_Nu_times_0 : decode b_Nu_times 0 = .ok (.aload_n 0, 1) := by decide +kernel
theorem d_Nu_times_1 : decode b_Nu_times 1 = .ok (.getfield 13, 3) := by decide +kernel
theorem d_Nu_times_4 : decode b_Nu_times 4 = .ok (.aload_n 0, 1) := by decide +kernel
theorem d_Nu_times_5 : decode b_Nu_times 5 = .ok (.getfield 9, 3) := by decide +kernel
theorem d_Nu_times_8 : decode b_Nu_times 8 = .ok (.arraylength, 1) := by decide +kernel
theorem d_Nu_times_9 : decode b_Nu_times 9 = .ok (.if_icmp .lt 8, 3) := by decide +kernel
theorem d_Nu_times_12 : decode b_Nu_times 12 = .ok (.aload_n 0, 1) := by decide +kernel
theorem d_Nu_times_13 : decode b_Nu_times 13 = .ok (.invokevirtual 51, 3) := by decide +kernel
theorem d_Nu_times_16 : decode b_Nu_times 16 = .ok (.return_, 1) := by decide +kernel
theorem d_Nu_times_17 : decode b_Nu_times 17 = .ok (.lconst 0, 1) := by decide +kernel
theorem d_Nu_times_18 : decode b_Nu_times 18 = .ok (.lstore_n 2, 1) := by decide +kernel
theorem d_Nu_times_19 : decode b_Nu_times 19 = .ok (.iconst 0, 1) := by decide +kernel
theorem d_Nu_times_20 : decode b_Nu_times 20 = .ok (.istore 4, 2) := by decide +kernel
theorem d_Nu_times_22 : decode b_Nu_times 22 = .ok (.iload 4, 2) := by decide +kernel
theorem d_Nu_times_24 : decode b_Nu_times 24 = .ok (.aload_n 0, 1) := by decide +kernel
theorem d_Nu_times_25 : decode b_Nu_times 25 = .ok (.getfield 13, 3) := by decide +kernel
theorem d_Nu_times_28 : decode b_Nu_times 28 = .ok (.if_icmp .ge 44, 3) := by decide +kernel
theorem d_Nu_times_31 : decode b_Nu_times 31 = .ok (.aload_n 0, 1) := by decide +kernel
theorem d_Nu_times_32 : decode b_Nu_times 32 = .ok (.getfield 9, 3) := by decide +kernel
theorem d_Nu_times_35 : decode b_Nu_times 35 = .ok (.iload 4, 2) := by decide +kernel
theorem d_Nu_times_37 : decode b_Nu_times 37 = .ok (.iaload, 1) := by decide +kernel
theorem d_Nu_times_38 : decode b_Nu_times 38 = .ok (.i2l, 1) := by decide +kernel
theorem d_Nu_times_39 : decode b_Nu_times 39 = .ok (.iload_n 1, 1) := by decide +kernel
theorem d_Nu_times_40 : decode b_Nu_times 40 = .ok (.i2l, 1) := by decide +kernel
theorem d_Nu_times_41 : decode b_Nu_times 41 = .ok (.lmul, 1) := by decide +kernel
theorem d_Nu_times_42 : decode b_Nu_times 42 = .ok (.lload_n 2, 1) := by decide +kernel
theorem d_Nu_times_43 : decode b_Nu_times 43 = .ok (.ladd, 1) := by decide +kernel
theorem d_Nu_times_44 : decode b_Nu_times 44 = .ok (.lstore 5, 2) := by decide +kernel
theorem d_Nu_times_46 : decode b_Nu_times 46 = .ok (.aload_n 0, 1) := by decide +kernel
theorem d_Nu_times_47 : decode b_Nu_times 47 = .ok (.getfield 9, 3) := by decide +kernel
theorem d_Nu_times_50 : decode b_Nu_times 50 = .ok (.iload 4, 2) := by decide +kernel
theorem d_Nu_times_52 : decode b_Nu_times 52 = .ok (.lload 5, 2) := by decide +kernel
theorem d_Nu_times_54 : decode b_Nu_times 54 = .ok (.ldc2_w 26, 3) := by decide +kernel
theorem d_Nu_times_57 : decode b_Nu_times 57 = .ok (.land, 1) := by decide +kernel
theorem d_Nu_times_58 : decode b_Nu_times 58 = .ok (.l2i, 1) := by decide +kernel
theorem d_Nu_times_59 : decode b_Nu_times 59 = .ok (.iastore, 1) := by decide +kernel
theorem d_Nu_times_60 : decode b_Nu_times 60 = .ok (.lload 5, 2) := by decide +kernel
theorem d_Nu_times_62 : decode b_Nu_times 62 = .ok (.bipush 31, 2) := by decide +kernel
theorem d_Nu_times_64 : decode b_Nu_times 64 = .ok (.lushr, 1) := by decide +kernel
theorem d_Nu_times_65 : decode b_Nu_times 65 = .ok (.lstore_n 2, 1) := by decide +kernel
theorem d_Nu_times_66 : decode b_Nu_times 66 = .ok (.iinc 4 1, 3) := by decide +kernel
theorem d_Nu_times_69 : decode b_Nu_times 69 = .ok (.goto (-47), 3) := by decide +kernel
theorem d_Nu_times_72 : decode b_Nu_times 72 = .ok (.aload_n 0, 1) := by decide +kernel
theorem d_Nu_times_73 : decode b_Nu_times 73 = .ok (.getfield 9, 3) := by decide +kernel
theorem d_Nu_times_76 : decode b_Nu_times 76 = .ok (.aload_n 0, 1) := by decide +kernel
theorem d_Nu_times_77 : decode b_Nu_times 77 = .ok (.getfield 13, 3) := by decide +kernel
theorem d_Nu_times_80 : decode b_Nu_times 80 = .ok (.lload_n 2, 1) := by decide +kernel
theorem d_Nu_times_81 : decode b_Nu_times 81 = .ok (.l2i, 1) := by decide +kernel
theorem d_Nu_times_82 : decode b_Nu_times 82 = .ok (.iastore, 1) := by decide +kernel
theorem d_Nu_times_83 : decode b_Nu_times 83 = .ok (.aload_n 0, 1) := by decide +kernel
theorem d_Nu_times_84 : decode b_Nu_times 84 = .ok (.dup, 1) := by decide +kernel
theorem d_Nu_times_85 : decode b_Nu_times 85 = .ok (.getfield 13, 3) := by decide +kernel
theorem d_Nu_times_88 : decode b_Nu_times 88 = .ok (.iconst 1, 1) := by decide +kernel
theorem d_Nu_times_89 : decode b_Nu_times 89 = .ok (.iadd, 1) := by decide +kernel
theorem d_Nu_times_90 : decode b_Nu_times 90 = .ok (.putfield 13, 3) := by decide +kernel
theorem d_Nu_times_93 : decode b_Nu_times 93 = .ok (.aload_n 0, 1) := by decide +kernel
theorem d_Nu_times_94 : decode b_Nu_times 94 = .ok (.invokevirtual 64, 3) := by decide +kernel
theorem d_Nu_times_97 : decode b_Nu_times 97 = .ok (.return_, 1) := by decide +kernel
theorem d_Nu_divideSmall_0 : decode b_Nu_divideSmall 0 = .ok (.iload_n 1, 1) := by decide +kernel
theorem d_Nu_divideSmall_1 : decode b_Nu_divideSmall 1 = .ok (.ifCond .gt 5, 3) := by decide +kernel
theorem d_Nu_divideSmall_4 : decode b_Nu_divideSmall 4 = .ok (.iconst 0, 1) := by decide +kernel
theorem d_Nu_divideSmall_5 : decode b_Nu_divideSmall 5 = .ok (.ireturn, 1) := by decide +kernel
theorem d_Nu_divideSmall_6 : decode b_Nu_divideSmall 6 = .ok (.lconst 0, 1) := by decide +kernel
theorem d_Nu_divideSmall_7 : decode b_Nu_divideSmall 7 = .ok (.lstore_n 2, 1) := by decide +kernel
theorem d_Nu_divideSmall_8 : decode b_Nu_divideSmall 8 = .ok (.aload_n 0, 1) := by decide +kernel
theorem d_Nu_divideSmall_9 : decode b_Nu_divideSmall 9 = .ok (.getfield 13, 3) := by decide +kernel
theorem d_Nu_divideSmall_12 : decode b_Nu_divideSmall 12 = .ok (.iconst 1, 1) := by decide +kernel
theorem d_Nu_divideSmall_13 : decode b_Nu_divideSmall 13 = .ok (.isub, 1) := by decide +kernel
theorem d_Nu_divideSmall_14 : decode b_Nu_divideSmall 14 = .ok (.istore 4, 2) := by decide +kernel
theorem d_Nu_divideSmall_16 : decode b_Nu_divideSmall 16 = .ok (.iload 4, 2) := by decide +kernel
theorem d_Nu_divideSmall_18 : decode b_Nu_divideSmall 18 = .ok (.ifCond .lt 43, 3) := by decide +kernel
theorem d_Nu_divideSmall_21 : decode b_Nu_divideSmall 21 = .ok (.lload_n 2, 1) := by decide +kernel
theorem d_Nu_divideSmall_22 : decode b_Nu_divideSmall 22 = .ok (.bipush 31, 2) := by decide +kernel
theorem d_Nu_divideSmall_24 : decode b_Nu_divideSmall 24 = .ok (.lshl, 1) := by decide +kernel
theorem d_Nu_divideSmall_25 : decode b_Nu_divideSmall 25 = .ok (.aload_n 0, 1) := by decide +kernel
theorem d_Nu_divideSmall_26 : decode b_Nu_divideSmall 26 = .ok (.getfield 9, 3) := by decide +kernel
theorem d_Nu_divideSmall_29 : decode b_Nu_divideSmall 29 = .ok (.iload 4, 2) := by decide +kernel
theorem d_Nu_divideSmall_31 : decode b_Nu_divideSmall 31 = .ok (.iaload, 1) := by decide +kernel
theorem d_Nu_divideSmall_32 : decode b_Nu_divideSmall 32 = .ok (.i2l, 1) := by decide +kernel
theorem d_Nu_divideSmall_33 : decode b_Nu_divideSmall 33 = .ok (.lor, 1) := by decide +kernel
theorem d_Nu_divideSmall_34 : decode b_Nu_divideSmall 34 = .ok (.lstore 5, 2) := by decide +kernel
theorem d_Nu_divideSmall_36 : decode b_Nu_divideSmall 36 = .ok (.aload_n 0, 1) := by decide +kernel
theorem d_Nu_divideSmall_37 : decode b_Nu_divideSmall 37 = .ok (.getfield 9, 3) := by decide +kernel
theorem d_Nu_divideSmall_40 : decode b_Nu_divideSmall 40 = .ok (.iload 4, 2) := by decide +kernel
theorem d_Nu_divideSmall_42 : decode b_Nu_divideSmall 42 = .ok (.lload 5, 2) := by decide +kernel
theorem d_Nu_divideSmall_44 : decode b_Nu_divideSmall 44 = .ok (.iload_n 1, 1) := by decide +kernel
theorem d_Nu_divideSmall_45 : decode b_Nu_divideSmall 45 = .ok (.i2l, 1) := by decide +kernel
theorem d_Nu_divideSmall_46 : decode b_Nu_divideSmall 46 = .ok (.ldiv, 1) := by decide +kernel
theorem d_Nu_divideSmall_47 : decode b_Nu_divideSmall 47 = .ok (.l2i, 1) := by decide +kernel
theorem d_Nu_divideSmall_48 : decode b_Nu_divideSmall 48 = .ok (.iastore, 1) := by decide +kernel
theorem d_Nu_divideSmall_49 : decode b_Nu_divideSmall 49 = .ok (.lload 5, 2) := by decide +kernel
theorem d_Nu_divideSmall_51 : decode b_Nu_divideSmall 51 = .ok (.iload_n 1, 1) := by decide +kernel
theorem d_Nu_divideSmall_52 : decode b_Nu_divideSmall 52 = .ok (.i2l, 1) := by decide +kernel
theorem d_Nu_divideSmall_53 : decode b_Nu_divideSmall 53 = .ok (.lrem, 1) := by decide +kernel
theorem d_Nu_divideSmall_54 : decode b_Nu_divideSmall 54 = .ok (.lstore_n 2, 1) := by decide +kernel
theorem d_Nu_divideSmall_55 : decode b_Nu_divideSmall 55 = .ok (.iinc 4 (-1), 3) := by decide +kernel
theorem d_Nu_divideSmall_58 : decode b_Nu_divideSmall 58 = .ok (.goto (-42), 3) := by decide +kernel
theorem d_Nu_divideSmall_61 : decode b_Nu_divideSmall 61 = .ok (.aload_n 0, 1) := by decide +kernel
theorem d_Nu_divideSmall_62 : decode b_Nu_divideSmall 62 = .ok (.invokevirtual 64, 3) := by decide +kernel
theorem d_Nu_divideSmall_65 : decode b_Nu_divideSmall 65 = .ok (.lload_n 2, 1) := by decide +kernel
theorem d_Nu_divideSmall_66 : decode b_Nu_divideSmall 66 = .ok (.l2i, 1) := by decide +kernel
theorem d_Nu_divideSmall_67 : decode b_Nu_divideSmall 67 = .ok (.ireturn, 1) := by decide +kernel
theorem d_Di_divide_0 : decode b_Di_divide 0 = .ok (.aload_n 0, 1) := by decide +kernel
theorem d_Di_divide_1 : decode b_Di_divide 1 = .ok (.getfield 12, 3) := by decide +kernel
theorem d_Di_divide_4 : decode b_Di_divide 4 = .ok (.invokevirtual 27, 3) := by decide +kernel
theorem d_Di_divide_7 : decode b_Di_divide 7 = .ok (.aload_n 2, 1) := by decide +kernel
theorem d_Di_divide_8 : decode b_Di_divide 8 = .ok (.getfield 30, 3) := by decide +kernel
theorem d_Di_divide_11 : decode b_Di_divide 11 = .ok (.ifCond .ne 11, 3) := by decide +kernel
theorem d_Di_divide_14 : decode b_Di_divide 14 = .ok (.aload_n 0, 1) := by decide +kernel
theorem d_Di_divide_15 : decode b_Di_divide 15 = .ok (.getfield 18, 3) := by decide +kernel
theorem d_Di_divide_18 : decode b_Di_divide 18 = .ok (.invokevirtual 27, 3) := by decide +kernel
theorem d_Di_divide_21 : decode b_Di_divide 21 = .ok (.return_, 1) := by decide +kernel
theorem d_Di_divide_22 : decode b_Di_divide 22 = .ok (.aload_n 0, 1) := by decide +kernel
theorem d_Di_divide_23 : decode b_Di_divide 23 = .ok (.getfield 18, 3) := by decide +kernel
theorem d_Di_divide_26 : decode b_Di_divide 26 = .ok (.aload_n 1, 1) := by decide +kernel
theorem d_Di_divide_27 : decode b_Di_divide 27 = .ok (.invokevirtual 34, 3) := by decide +kernel
theorem d_Di_divide_30 : decode b_Di_divide 30 = .ok (.aload_n 1, 1) := by decide +kernel
theorem d_Di_divide_31 : decode b_Di_divide 31 = .ok (.aload_n 2, 1) := by decide +kernel
theorem d_Di_divide_32 : decode b_Di_divide 32 = .ok (.invokevirtual 38, 3) := by decide +kernel
theorem d_Di_divide_35 : decode b_Di_divide 35 = .ok (.ifCond .ge 4, 3) := by decide +kernel
theorem d_Di_divide_38 : decode b_Di_divide 38 = .ok (.return_, 1) := by decide +kernel
theorem d_Di_divide_39 : decode b_Di_divide 39 = .ok (.aload_n 2, 1) := by decide +kernel
theorem d_Di_divide_40 : decode b_Di_divide 40 = .ok (.getfield 30, 3) := by decide +kernel
theorem d_Di_divide_43 : decode b_Di_divide 43 = .ok (.iconst 1, 1) := by decide +kernel
theorem d_Di_divide_44 : decode b_Di_divide 44 = .ok (.if_icmp .ne 67, 3) := by decide +kernel
theorem d_Di_divide_47 : decode b_Di_divide 47 = .ok (.aload_n 0, 1) := by decide +kernel
theorem d_Di_divide_48 : decode b_Di_divide 48 = .ok (.getfield 12, 3) := by decide +kernel
theorem d_Di_divide_51 : decode b_Di_divide 51 = .ok (.aload_n 1, 1) := by decide +kernel
theorem d_Di_divide_52 : decode b_Di_divide 52 = .ok (.invokevirtual 34, 3) := by decide +kernel
theorem d_Di_divide_55 : decode b_Di_divide 55 = .ok (.aload_n 0, 1) := by decide +kernel
theorem d_Di_divide_56 : decode b_Di_divide 56 = .ok (.getfield 12, 3) := by decide +kernel
theorem d_Di_divide_59 : decode b_Di_divide 59 = .ok (.aload_n 2, 1) := by decide +kernel
theorem d_Di_divide_60 : decode b_Di_divide 60 = .ok (.getfield 42, 3) := by decide +kernel
theorem d_Di_divide_63 : decode b_Di_divide 63 = .ok (.iconst 0, 1) := by decide +kernel
theorem d_Di_divide_64 : decode b_Di_divide 64 = .ok (.iaload, 1) := by decide +kernel
theorem d_Di_divide_65 : decode b_Di_divide 65 = .ok (.invokevirtual 46, 3) := by decide +kernel
theorem d_Di_divide_68 : decode b_Di_divide 68 = .ok (.istore_n 3, 1) := by decide +kernel
theorem d_Di_divide_69 : decode b_Di_divide 69 = .ok (.aload_n 0, 1) := by decide +kernel
theorem d_Di_divide_70 : decode b_Di_divide 70 = .ok (.getfield 12, 3) := by decide +kernel
theorem d_Di_divide_73 : decode b_Di_divide 73 = .ok (.aload_n 0, 1) := by decide +kernel
theorem d_Di_divide_74 : decode b_Di_divide 74 = .ok (.getfield 12, 3) := by decide +kernel
theorem d_Di_divide_77 : decode b_Di_divide 77 = .ok (.getfield 50, 3) := by decide +kernel
theorem d_Di_divide_80 : decode b_Di_divide 80 = .ok (.aload_n 2, 1) := by decide +kernel
theorem d_Di_divide_81 : decode b_Di_divide 81 = .ok (.getfield 50, 3) := by decide +kernel
theorem d_Di_divide_84 : decode b_Di_divide 84 = .ok (.imul, 1) := by decide +kernel
theorem d_Di_divide_85 : decode b_Di_divide 85 = .ok (.putfield 50, 3) := by decide +kernel
theorem d_Di_divide_88 : decode b_Di_divide 88 = .ok (.aload_n 0, 1) := by decide +kernel
theorem d_Di_divide_89 : decode b_Di_divide 89 = .ok (.getfield 18, 3) := by decide +kernel
theorem d_Di_divide_92 : decode b_Di_divide 92 = .ok (.aload_n 1, 1) := by decide +kernel
theorem d_Di_divide_93 : decode b_Di_divide 93 = .ok (.getfield 50, 3) := by decide +kernel
theorem d_Di_divide_96 : decode b_Di_divide 96 = .ok (.ifCond .ge 9, 3) := by decide +kernel
theorem d_Di_divide_99 : decode b_Di_divide 99 = .ok (.iload_n 3, 1) := by decide +kernel
theorem d_Di_divide_100 : decode b_Di_divide 100 = .ok (.i2l, 1) := by decide +kernel
theorem d_Di_divide_101 : decode b_Di_divide 101 = .ok (.lneg, 1) := by decide +kernel
theorem d_Di_divide_102 : decode b_Di_divide 102 = .ok (.goto 5, 3) := by decide +kernel
theorem d_Di_divide_105 : decode b_Di_divide 105 = .ok (.iload_n 3, 1) := by decide +kernel
theorem d_Di_divide_106 : decode b_Di_divide 106 = .ok (.i2l, 1) := by decide +kernel
theorem d_Di_divide_107 : decode b_Di_divide 107 = .ok (.invokevirtual 53, 3) := by decide +kernel
theorem d_Di_divide_110 : decode b_Di_divide 110 = .ok (.return_, 1) := by decide +kernel
theorem d_Di_divide_111 : decode b_Di_divide 111 = .ok (.bipush 31, 2) := by decide +kernel
theorem d_Di_divide_113 : decode b_Di_divide 113 = .ok (.aload_n 2, 1) := by decide +kernel
theorem d_Di_divide_114 : decode b_Di_divide 114 = .ok (.getfield 30, 3) := by decide +kernel
theorem d_Di_divide_117 : decode b_Di_divide 117 = .ok (.imul, 1) := by decide +kernel
theorem d_Di_divide_118 : decode b_Di_divide 118 = .ok (.aload_n 2, 1) := by decide +kernel
theorem d_Di_divide_119 : decode b_Di_divide 119 = .ok (.invokevirtual 57, 3) := by decide +kernel
theorem d_Di_divide_122 : decode b_Di_divide 122 = .ok (.isub, 1) := by decide +kernel
theorem d_Di_divide_123 : decode b_Di_divide 123 = .ok (.istore_n 3, 1) := by decide +kernel
theorem d_Di_divide_124 : decode b_Di_divide 124 = .ok (.aload_n 0, 1) := by decide +kernel
theorem d_Di_divide_125 : decode b_Di_divide 125 = .ok (.getfield 21, 3) := by decide +kernel
theorem d_Di_divide_128 : decode b_Di_divide 128 = .ok (.aload_n 2, 1) := by decide +kernel
theorem d_Di_divide_129 : decode b_Di_divide 129 = .ok (.invokevirtual 34, 3) := by decide +kernel
theorem d_Di_divide_132 : decode b_Di_divide 132 = .ok (.aload_n 0, 1) := by decide +kernel
theorem d_Di_divide_133 : decode b_Di_divide 133 = .ok (.getfield 21, 3) := by decide +kernel
theorem d_Di_divide_136 : decode b_Di_divide 136 = .ok (.iload_n 3, 1) := by decide +kernel
theorem d_Di_divide_137 : decode b_Di_divide 137 = .ok (.invokevirtual 61, 3) := by decide +kernel
theorem d_Di_divide_140 : decode b_Di_divide 140 = .ok (.aload_n 0, 1) := by decide +kernel
theorem d_Di_divide_141 : decode b_Di_divide 141 = .ok (.getfield 18, 3) := by decide +kernel
theorem d_Di_divide_144 : decode b_Di_divide 144 = .ok (.iload_n 3, 1) := by decide +kernel
theorem d_Di_divide_145 : decode b_Di_divide 145 = .ok (.invokevirtual 61, 3) := by decide +kernel
theorem d_Di_divide_148 : decode b_Di_divide 148 = .ok (.aload_n 0, 1) := by decide +kernel
theorem d_Di_divide_149 : decode b_Di_divide 149 = .ok (.getfield 21, 3) := by decide +kernel
theorem d_Di_divide_152 : decode b_Di_divide 152 = .ok (.getfield 30, 3) := by decide +kernel
theorem d_Di_divide_155 : decode b_Di_divide 155 = .ok (.iconst 2, 1) := by decide +kernel
theorem d_Di_divide_156 : decode b_Di_divide 156 = .ok (.if_icmp .lt 33, 3) := by decide +kernel
theorem d_Di_divide_159 : decode b_Di_divide 159 = .ok (.aload_n 0, 1) := by decide +kernel
theorem d_Di_divide_160 : decode b_Di_divide 160 = .ok (.getfield 18, 3) := by decide +kernel
theorem d_Di_divide_163 : decode b_Di_divide 163 = .ok (.getfield 30, 3) := by decide +kernel
theorem d_Di_divide_166 : decode b_Di_divide 166 = .ok (.aload_n 0, 1) := by decide +kernel
theorem d_Di_divide_167 : decode b_Di_divide 167 = .ok (.getfield 21, 3) := by decide +kernel
theorem d_Di_divide_170 : decode b_Di_divide 170 = .ok (.getfield 30, 3) := by decide +kernel
theorem d_Di_divide_173 : decode b_Di_divide 173 = .ok (.if_icmp .lt 16, 3) := by decide +kernel
theorem d_Di_divide_176 : decode b_Di_divide 176 = .ok (.aload_n 0, 1) := by decide +kernel
theorem d_Di_divide_177 : decode b_Di_divide 177 = .ok (.getfield 18, 3) := by decide +kernel
theorem d_Di_divide_180 : decode b_Di_divide 180 = .ok (.getfield 30, 3) := by decide +kernel
theorem d_Di_divide_183 : decode b_Di_divide 183 = .ok (.sipush 160, 3) := by decide +kernel
theorem d_Di_divide_186 : decode b_Di_divide 186 = .ok (.if_icmp .lt 4, 3) := by decide +kernel
theorem d_Di_divide_189 : decode b_Di_divide 189 = .ok (.return_, 1) := by decide +kernel
theorem d_Di_divide_190 : decode b_Di_divide 190 = .ok (.aload_n 0, 1) := by decide +kernel
theorem d_Di_divide_191 : decode b_Di_divide 191 = .ok (.getfield 18, 3) := by decide +kernel
theorem d_Di_divide_194 : decode b_Di_divide 194 = .ok (.getfield 42, 3) := by decide +kernel
theorem d_Di_divide_197 : decode b_Di_divide 197 = .ok (.aload_n 0, 1) := by decide +kernel
theorem d_Di_divide_198 : decode b_Di_divide 198 = .ok (.getfield 18, 3) := by decide +kernel
theorem d_Di_divide_201 : decode b_Di_divide 201 = .ok (.getfield 30, 3) := by decide +kernel
theorem d_Di_divide_204 : decode b_Di_divide 204 = .ok (.iconst 0, 1) := by decide +kernel
theorem d_Di_divide_205 : decode b_Di_divide 205 = .ok (.iastore, 1) := by decide +kernel
theorem d_Di_divide_206 : decode b_Di_divide 206 = .ok (.aload_n 0, 1) := by decide +kernel
theorem d_Di_divide_207 : decode b_Di_divide 207 = .ok (.getfield 18, 3) := by decide +kernel
theorem d_Di_divide_210 : decode b_Di_divide 210 = .ok (.getfield 30, 3) := by decide +kernel
theorem d_Di_divide_213 : decode b_Di_divide 213 = .ok (.aload_n 0, 1) := by decide +kernel
theorem d_Di_divide_214 : decode b_Di_divide 214 = .ok (.getfield 21, 3) := by decide +kernel
theorem d_Di_divide_217 : decode b_Di_divide 217 = .ok (.getfield 30, 3) := by decide +kernel
theorem d_Di_divide_220 : decode b_Di_divide 220 = .ok (.isub, 1) := by decide +kernel
theorem d_Di_divide_221 : decode b_Di_divide 221 = .ok (.istore 4, 2) := by decide +kernel
theorem d_Di_divide_223 : decode b_Di_divide 223 = .ok (.aload_n 0, 1) := by decide +kernel
theorem d_Di_divide_224 : decode b_Di_divide 224 = .ok (.getfield 12, 3) := by decide +kernel
theorem d_Di_divide_227 : decode b_Di_divide 227 = .ok (.iload 4, 2) := by decide +kernel
theorem d_Di_divide_229 : decode b_Di_divide 229 = .ok (.iconst 1, 1) := by decide +kernel
theorem d_Di_divide_230 : decode b_Di_divide 230 = .ok (.iadd, 1) := by decide +kernel
theorem d_Di_divide_231 : decode b_Di_divide 231 = .ok (.putfield 30, 3) := by decide +kernel
theorem d_Di_divide_234 : decode b_Di_divide 234 = .ok (.iload 4, 2) := by decide +kernel
theorem d_Di_divide_236 : decode b_Di_divide 236 = .ok (.istore 5, 2) := by decide +kernel
theorem d_Di_divide_238 : decode b_Di_divide 238 = .ok (.iload 5, 2) := by decide +kernel
theorem d_Di_divide_240 : decode b_Di_divide 240 = .ok (.ifCond .lt 25, 3) := by decide +kernel
theorem d_Di_divide_243 : decode b_Di_divide 243 = .ok (.aload_n 0, 1) := by decide +kernel
theorem d_Di_divide_244 : decode b_Di_divide 244 = .ok (.getfield 12, 3) := by decide +kernel
theorem d_Di_divide_247 : decode b_Di_divide 247 = .ok (.getfield 42, 3) := by decide +kernel
theorem d_Di_divide_250 : decode b_Di_divide 250 = .ok (.iload 5, 2) := by decide +kernel
theorem d_Di_divide_252 : decode b_Di_divide 252 = .ok (.aload_n 0, 1) := by decide +kernel
theorem d_Di_divide_253 : decode b_Di_divide 253 = .ok (.iload 5, 2) := by decide +kernel
theorem d_Di_divide_255 : decode b_Di_divide 255 = .ok (.invokevirtual 65, 3) := by decide +kernel
theorem d_Di_divide_258 : decode b_Di_divide 258 = .ok (.iastore, 1) := by decide +kernel
theorem d_Di_divide_259 : decode b_Di_divide 259 = .ok (.iinc 5 (-1), 3) := by decide +kernel
theorem d_Di_divide_262 : decode b_Di_divide 262 = .ok (.goto (-24), 3) := by decide +kernel
theorem d_Di_divide_265 : decode b_Di_divide 265 = .ok (.aload_n 0, 1) := by decide +kernel
theorem d_Di_divide_266 : decode b_Di_divide 266 = .ok (.getfield 12, 3) := by decide +kernel
theorem d_Di_divide_269 : decode b_Di_divide 269 = .ok (.aload_n 1, 1) := by decide +kernel
theorem d_Di_divide_270 : decode b_Di_divide 270 = .ok (.getfield 50, 3) := by decide +kernel
theorem d_Di_divide_273 : decode b_Di_divide 273 = .ok (.aload_n 2, 1) := by decide +kernel
theorem d_Di_divide_274 : decode b_Di_divide 274 = .ok (.getfield 50, 3) := by decide +kernel
theorem d_Di_divide_277 : decode b_Di_divide 277 = .ok (.imul, 1) := by decide +kernel
theorem d_Di_divide_278 : decode b_Di_divide 278 = .ok (.putfield 50, 3) := by decide +kernel
theorem d_Di_divide_281 : decode b_Di_divide 281 = .ok (.aload_n 0, 1) := by decide +kernel
theorem d_Di_divide_282 : decode b_Di_divide 282 = .ok (.getfield 12, 3) := by decide +kernel
theorem d_Di_divide_285 : decode b_Di_divide 285 = .ok (.invokevirtual 68, 3) := by decide +kernel
theorem d_Di_divide_288 : decode b_Di_divide 288 = .ok (.aload_n 0, 1) := by decide +kernel
theorem d_Di_divide_289 : decode b_Di_divide 289 = .ok (.getfield 18, 3) := by decide +kernel
theorem d_Di_divide_292 : decode b_Di_divide 292 = .ok (.aload_n 0, 1) := by decide +kernel
theorem d_Di_divide_293 : decode b_Di_divide 293 = .ok (.getfield 21, 3) := by decide +kernel
theorem d_Di_divide_296 : decode b_Di_divide 296 = .ok (.getfield 30, 3) := by decide +kernel
theorem d_Di_divide_299 : decode b_Di_divide 299 = .ok (.putfield 30, 3) := by decide +kernel
theorem d_Di_divide_302 : decode b_Di_divide 302 = .ok (.aload_n 0, 1) := by decide +kernel
theorem d_Di_divide_303 : decode b_Di_divide 303 = .ok (.getfield 18, 3) := by decide +kernel
theorem d_Di_divide_306 : decode b_Di_divide 306 = .ok (.invokevirtual 68, 3) := by decide +kernel
theorem d_Di_divide_309 : decode b_Di_divide 309 = .ok (.aload_n 0, 1) := by decide +kernel
theorem d_Di_divide_310 : decode b_Di_divide 310 = .ok (.getfield 18, 3) := by decide +kernel
theorem d_Di_divide_313 : decode b_Di_divide 313 = .ok (.iload_n 3, 1) := by decide +kernel
theorem d_Di_divide_314 : decode b_Di_divide 314 = .ok (.invokevirtual 71, 3) := by decide +kernel
theorem d_Di_divide_317 : decode b_Di_divide 317 = .ok (.pop, 1) := by decide +kernel
theorem d_Di_divide_318 : decode b_Di_divide 318 = .ok (.return_, 1) := by decide +kernel
theorem d_Di_takeDigit_0 : decode b_Di_takeDigit 0 = .ok (.aload_n 0, 1) := by decide +kernel
theorem d_Di_takeDigit_1 : decode b_Di_takeDigit 1 = .ok (.getfield 21, 3) := by decide +kernel
theorem d_Di_takeDigit_4 : decode b_Di_takeDigit 4 = .ok (.getfield 30, 3) := by decide +kernel
theorem d_Di_takeDigit_7 : decode b_Di_takeDigit 7 = .ok (.istore_n 2, 1) := by decide +kernel
theorem d_Di_takeDigit_8 : decode b_Di_takeDigit 8 = .ok (.aload_n 0, 1) := by decide +kernel
theorem d_Di_takeDigit_9 : decode b_Di_takeDigit 9 = .ok (.getfield 21, 3) := by decide +kernel
theorem d_Di_takeDigit_12 : decode b_Di_takeDigit 12 = .ok (.getfield 42, 3) := by decide +kernel
theorem d_Di_takeDigit_15 : decode b_Di_takeDigit 15 = .ok (.iload_n 2, 1) := by decide +kernel
theorem d_Di_takeDigit_16 : decode b_Di_takeDigit 16 = .ok (.iconst 1, 1) := by decide +kernel
theorem d_Di_takeDigit_17 : decode b_Di_takeDigit 17 = .ok (.isub, 1) := by decide +kernel
theorem d_Di_takeDigit_18 : decode b_Di_takeDigit 18 = .ok (.iaload, 1) := by decide +kernel
theorem d_Di_takeDigit_19 : decode b_Di_takeDigit 19 = .ok (.i2l, 1) := by decide +kernel
theorem d_Di_takeDigit_20 : decode b_Di_takeDigit 20 = .ok (.lstore_n 3, 1) := by decide +kernel
theorem d_Di_takeDigit_21 : decode b_Di_takeDigit 21 = .ok (.aload_n 0, 1) := by decide +kernel
theorem d_Di_takeDigit_22 : decode b_Di_takeDigit 22 = .ok (.getfield 21, 3) := by decide +kernel
theorem d_Di_takeDigit_25 : decode b_Di_takeDigit 25 = .ok (.getfield 42, 3) := by decide +kernel
theorem d_Di_takeDigit_28 : decode b_Di_takeDigit 28 = .ok (.iload_n 2, 1) := by decide +kernel
theorem d_Di_takeDigit_29 : decode b_Di_takeDigit 29 = .ok (.iconst 2, 1) := by decide +kernel
theorem d_Di_takeDigit_30 : decode b_Di_takeDigit 30 = .ok (.isub, 1) := by decide +kernel
theorem d_Di_takeDigit_31 : decode b_Di_takeDigit 31 = .ok (.iaload, 1) := by decide +kernel
theorem d_Di_takeDigit_32 : decode b_Di_takeDigit 32 = .ok (.i2l, 1) := by decide +kernel
theorem d_Di_takeDigit_33 : decode b_Di_takeDigit 33 = .ok (.lstore 5, 2) := by decide +kernel
theorem d_Di_takeDigit_35 : decode b_Di_takeDigit 35 = .ok (.lload_n 3, 1) := by decide +kernel
theorem d_Di_takeDigit_36 : decode b_Di_takeDigit 36 = .ok (.lconst 0, 1) := by decide +kernel
theorem d_Di_takeDigit_37 : decode b_Di_takeDigit 37 = .ok (.lcmp, 1) := by decide +kernel
theorem d_Di_takeDigit_38 : decode b_Di_takeDigit 38 = .ok (.ifCond .ne 5, 3) := by decide +kernel
theorem d_Di_takeDigit_41 : decode b_Di_takeDigit 41 = .ok (.iconst 0, 1) := by decide +kernel
theorem d_Di_takeDigit_42 : decode b_Di_takeDigit 42 = .ok (.ireturn, 1) := by decide +kernel
theorem d_Di_takeDigit_43 : decode b_Di_takeDigit 43 = .ok (.aload_n 0, 1) := by decide +kernel
theorem d_Di_takeDigit_44 : decode b_Di_takeDigit 44 = .ok (.getfield 18, 3) := by decide +kernel
theorem d_Di_takeDigit_47 : decode b_Di_takeDigit 47 = .ok (.getfield 42, 3) := by decide +kernel
theorem d_Di_takeDigit_50 : decode b_Di_takeDigit 50 = .ok (.iload_n 1, 1) := by decide +kernel
theorem d_Di_takeDigit_51 : decode b_Di_takeDigit 51 = .ok (.iload_n 2, 1) := by decide +kernel
theorem d_Di_takeDigit_52 : decode b_Di_takeDigit 52 = .ok (.iadd, 1) := by decide +kernel
theorem d_Di_takeDigit_53 : decode b_Di_takeDigit 53 = .ok (.iaload, 1) := by decide +kernel
theorem d_Di_takeDigit_54 : decode b_Di_takeDigit 54 = .ok (.i2l, 1) := by decide +kernel
theorem d_Di_takeDigit_55 : decode b_Di_takeDigit 55 = .ok (.bipush 31, 2) := by decide +kernel
theorem d_Di_takeDigit_57 : decode b_Di_takeDigit 57 = .ok (.lshl, 1) := by decide +kernel
theorem d_Di_takeDigit_58 : decode b_Di_takeDigit 58 = .ok (.aload_n 0, 1) := by decide +kernel
theorem d_Di_takeDigit_59 : decode b_Di_takeDigit 59 = .ok (.getfield 18, 3) := by decide +kernel
theorem d_Di_takeDigit_62 : decode b_Di_takeDigit 62 = .ok (.getfield 42, 3) := by decide +kernel
theorem d_Di_takeDigit_65 : decode b_Di_takeDigit 65 = .ok (.iload_n 1, 1) := by decide +kernel
theorem d_Di_takeDigit_66 : decode b_Di_takeDigit 66 = .ok (.iload_n 2, 1) := by decide +kernel
theorem d_Di_takeDigit_67 : decode b_Di_takeDigit 67 = .ok (.iadd, 1) := by decide +kernel
theorem d_Di_takeDigit_68 : decode b_Di_takeDigit 68 = .ok (.iconst 1, 1) := by decide +kernel
theorem d_Di_takeDigit_69 : decode b_Di_takeDigit 69 = .ok (.isub, 1) := by decide +kernel
theorem d_Di_takeDigit_70 : decode b_Di_takeDigit 70 = .ok (.iaload, 1) := by decide +kernel
theorem d_Di_takeDigit_71 : decode b_Di_takeDigit 71 = .ok (.i2l, 1) := by decide +kernel
theorem d_Di_takeDigit_72 : decode b_Di_takeDigit 72 = .ok (.lor, 1) := by decide +kernel
theorem d_Di_takeDigit_73 : decode b_Di_takeDigit 73 = .ok (.lstore 7, 2) := by decide +kernel
theorem d_Di_takeDigit_75 : decode b_Di_takeDigit 75 = .ok (.lload 7, 2) := by decide +kernel
theorem d_Di_takeDigit_77 : decode b_Di_takeDigit 77 = .ok (.lload_n 3, 1) := by decide +kernel
theorem d_Di_takeDigit_78 : decode b_Di_takeDigit 78 = .ok (.ldiv, 1) := by decide +kernel
theorem d_Di_takeDigit_79 : decode b_Di_takeDigit 79 = .ok (.lstore 9, 2) := by decide +kernel
theorem d_Di_takeDigit_81 : decode b_Di_takeDigit 81 = .ok (.lload 7, 2) := by decide +kernel
theorem d_Di_takeDigit_83 : decode b_Di_takeDigit 83 = .ok (.lload_n 3, 1) := by decide +kernel
theorem d_Di_takeDigit_84 : decode b_Di_takeDigit 84 = .ok (.lrem, 1) := by decide +kernel
theorem d_Di_takeDigit_85 : decode b_Di_takeDigit 85 = .ok (.lstore 11, 2) := by decide +kernel
theorem d_Di_takeDigit_87 : decode b_Di_takeDigit 87 = .ok (.iconst 0, 1) := by decide +kernel
theorem d_Di_takeDigit_88 : decode b_Di_takeDigit 88 = .ok (.istore 13, 2) := by decide +kernel
theorem d_Di_takeDigit_90 : decode b_Di_takeDigit 90 = .ok (.iload 13, 2) := by decide +kernel
theorem d_Di_takeDigit_92 : decode b_Di_takeDigit 92 = .ok (.iconst 3, 1) := by decide +kernel
theorem d_Di_takeDigit_93 : decode b_Di_takeDigit 93 = .ok (.if_icmp .ge 83, 3) := by decide +kernel
theorem d_Di_takeDigit_96 : decode b_Di_takeDigit 96 = .ok (.lload 9, 2) := by decide +kernel
theorem d_Di_takeDigit_98 : decode b_Di_takeDigit 98 = .ok (.ldc2_w 75, 3) := by decide +kernel
theorem d_Di_takeDigit_101 : decode b_Di_takeDigit 101 = .ok (.lcmp, 1) := by decide +kernel
theorem d_Di_takeDigit_102 : decode b_Di_takeDigit 102 = .ok (.ifCond .gt 32, 3) := by decide +kernel
theorem d_Di_takeDigit_105 : decode b_Di_takeDigit 105 = .ok (.lload 9, 2) := by decide +kernel
theorem d_Di_takeDigit_107 : decode b_Di_takeDigit 107 = .ok (.lload 5, 2) := by decide +kernel
theorem d_Di_takeDigit_109 : decode b_Di_takeDigit 109 = .ok (.lmul, 1) := by decide +kernel
theorem d_Di_takeDigit_110 : decode b_Di_takeDigit 110 = .ok (.lload 11, 2) := by decide +kernel
theorem d_Di_takeDigit_112 : decode b_Di_takeDigit 112 = .ok (.bipush 31, 2) := by decide +kernel
theorem d_Di_takeDigit_114 : decode b_Di_takeDigit 114 = .ok (.lshl, 1) := by decide +kernel
theorem d_Di_takeDigit_115 : decode b_Di_takeDigit 115 = .ok (.aload_n 0, 1) := by decide +kernel
theorem d_Di_takeDigit_116 : decode b_Di_takeDigit 116 = .ok (.getfield 18, 3) := by decide +kernel
theorem d_Di_takeDigit_119 : decode b_Di_takeDigit 119 = .ok (.getfield 42, 3) := by decide +kernel
theorem d_Di_takeDigit_122 : decode b_Di_takeDigit 122 = .ok (.iload_n 1, 1) := by decide +kernel
theorem d_Di_takeDigit_123 : decode b_Di_takeDigit 123 = .ok (.iload_n 2, 1) := by decide +kernel
theorem d_Di_takeDigit_124 : decode b_Di_takeDigit 124 = .ok (.iadd, 1) := by decide +kernel
theorem d_Di_takeDigit_125 : decode b_Di_takeDigit 125 = .ok (.iconst 2, 1) := by decide +kernel
theorem d_Di_takeDigit_126 : decode b_Di_takeDigit 126 = .ok (.isub, 1) := by decide +kernel
theorem d_Di_takeDigit_127 : decode b_Di_takeDigit 127 = .ok (.iaload, 1) := by decide +kernel
theorem d_Di_takeDigit_128 : decode b_Di_takeDigit 128 = .ok (.i2l, 1) := by decide +kernel
theorem d_Di_takeDigit_129 : decode b_Di_takeDigit 129 = .ok (.lor, 1) := by decide +kernel
theorem d_Di_takeDigit_130 : decode b_Di_takeDigit 130 = .ok (.lcmp, 1) := by decide +kernel
theorem d_Di_takeDigit_131 : decode b_Di_takeDigit 131 = .ok (.ifCond .le 7, 3) := by decide +kernel
theorem d_Di_takeDigit_134 : decode b_Di_takeDigit 134 = .ok (.iconst 1, 1) := by decide +kernel
theorem d_Di_takeDigit_135 : decode b_Di_takeDigit 135 = .ok (.goto 4, 3) := by decide +kernel
theorem d_Di_takeDigit_138 : decode b_Di_takeDigit 138 = .ok (.iconst 0, 1) := by decide +kernel
theorem d_Di_takeDigit_139 : decode b_Di_takeDigit 139 = .ok (.istore 14, 2) := by decide +kernel
theorem d_Di_takeDigit_141 : decode b_Di_takeDigit 141 = .ok (.iload 14, 2) := by decide +kernel
theorem d_Di_takeDigit_143 : decode b_Di_takeDigit 143 = .ok (.ifCond .eq 33, 3) := by decide +kernel
theorem d_Di_takeDigit_146 : decode b_Di_takeDigit 146 = .ok (.lload 11, 2) := by decide +kernel
theorem d_Di_takeDigit_148 : decode b_Di_takeDigit 148 = .ok (.ldc2_w 75, 3) := by decide +kernel
theorem d_Di_takeDigit_151 : decode b_Di_takeDigit 151 = .ok (.lcmp, 1) := by decide +kernel
theorem d_Di_takeDigit_152 : decode b_Di_takeDigit 152 = .ok (.ifCond .le 6, 3) := by decide +kernel
theorem d_Di_takeDigit_155 : decode b_Di_takeDigit 155 = .ok (.goto 21, 3) := by decide +kernel
theorem d_Di_takeDigit_158 : decode b_Di_takeDigit 158 = .ok (.lload 9, 2) := by decide +kernel
theorem d_Di_takeDigit_160 : decode b_Di_takeDigit 160 = .ok (.lconst 1, 1) := by decide +kernel
theorem d_Di_takeDigit_161 : decode b_Di_takeDigit 161 = .ok (.lsub, 1) := by decide +kernel
theorem d_Di_takeDigit_162 : decode b_Di_takeDigit 162 = .ok (.lstore 9, 2) := by decide +kernel
theorem d_Di_takeDigit_164 : decode b_Di_takeDigit 164 = .ok (.lload 11, 2) := by decide +kernel
theorem d_Di_takeDigit_166 : decode b_Di_takeDigit 166 = .ok (.lload_n 3, 1) := by decide +kernel
theorem d_Di_takeDigit_167 : decode b_Di_takeDigit 167 = .ok (.ladd, 1) := by decide +kernel
theorem d_Di_takeDigit_168 : decode b_Di_takeDigit 168 = .ok (.lstore 11, 2) := by decide +kernel
theorem d_Di_takeDigit_170 : decode b_Di_takeDigit 170 = .ok (.iinc 13 1, 3) := by decide +kernel
theorem d_Di_takeDigit_173 : decode b_Di_takeDigit 173 = .ok (.goto (-83), 3) := by decide +kernel
theorem d_Di_takeDigit_176 : decode b_Di_takeDigit 176 = .ok (.aload_n 0, 1) := by decide +kernel
theorem d_Di_takeDigit_177 : decode b_Di_takeDigit 177 = .ok (.iload_n 1, 1) := by decide +kernel
theorem d_Di_takeDigit_178 : decode b_Di_takeDigit 178 = .ok (.lload 9, 2) := by decide +kernel
theorem d_Di_takeDigit_180 : decode b_Di_takeDigit 180 = .ok (.invokevirtual 77, 3) := by decide +kernel
theorem d_Di_takeDigit_183 : decode b_Di_takeDigit 183 = .ok (.ifCond .eq 14, 3) := by decide +kernel
theorem d_Di_takeDigit_186 : decode b_Di_takeDigit 186 = .ok (.aload_n 0, 1) := by decide +kernel
theorem d_Di_takeDigit_187 : decode b_Di_takeDigit 187 = .ok (.iload_n 1, 1) := by decide +kernel
theorem d_Di_takeDigit_188 : decode b_Di_takeDigit 188 = .ok (.invokevirtual 81, 3) := by decide +kernel
theorem d_Di_takeDigit_191 : decode b_Di_takeDigit 191 = .ok (.lload 9, 2) := by decide +kernel
theorem d_Di_takeDigit_193 : decode b_Di_takeDigit 193 = .ok (.lconst 1, 1) := by decide +kernel
theorem d_Di_takeDigit_194 : decode b_Di_takeDigit 194 = .ok (.lsub, 1) := by decide +kernel
theorem d_Di_takeDigit_195 : decode b_Di_takeDigit 195 = .ok (.lstore 9, 2) := by decide +kernel
theorem d_Di_takeDigit_197 : decode b_Di_takeDigit 197 = .ok (.lload 9, 2) := by decide +kernel
theorem d_Di_takeDigit_199 : decode b_Di_takeDigit 199 = .ok (.l2i, 1) := by decide +kernel
theorem d_Di_takeDigit_200 : decode b_Di_takeDigit 200 = .ok (.ireturn, 1) := by decide +kernel
theorem d_Di_subtractDigit_0 : decode b_Di_subtractDigit 0 = .ok (.aload_n 0, 1) := by decide +kernel
theorem d_Di_subtractDigit_1 : decode b_Di_subtractDigit 1 = .ok (.getfield 21, 3) := by decide +kernel
theorem d_Di_subtractDigit_4 : decode b_Di_subtractDigit 4 = .ok (.getfield 30, 3) := by decide +kernel
theorem d_Di_subtractDigit_7 : decode b_Di_subtractDigit 7 = .ok (.istore 4, 2) := by decide +kernel
theorem d_Di_subtractDigit_9 : decode b_Di_subtractDigit 9 = .ok (.lconst 0, 1) := by decide +kernel
theorem d_Di_subtractDigit_10 : decode b_Di_subtractDigit 10 = .ok (.lstore 5, 2) := by decide +kernel
theorem d_Di_subtractDigit_12 : decode b_Di_subtractDigit 12 = .ok (.iconst 0, 1) := by decide +kernel
theorem d_Di_subtractDigit_13 : decode b_Di_subtractDigit 13 = .ok (.istore 7, 2) := by decide +kernel
theorem d_Di_subtractDigit_15 : decode b_Di_subtractDigit 15 = .ok (.iload 7, 2) := by decide +kernel
theorem d_Di_subtractDigit_17 : decode b_Di_subtractDigit 17 = .ok (.iload 4, 2) := by decide +kernel
theorem d_Di_subtractDigit_19 : decode b_Di_subtractDigit 19 = .ok (.if_icmp .ge 89, 3) := by decide +kernel
theorem d_Di_subtractDigit_22 : decode b_Di_subtractDigit 22 = .ok (.lload_n 2, 1) := by decide +kernel
theorem d_Di_subtractDigit_23 : decode b_Di_subtractDigit 23 = .ok (.aload_n 0, 1) := by decide +kernel
theorem d_Di_subtractDigit_24 : decode b_Di_subtractDigit 24 = .ok (.getfield 21, 3) := by decide +kernel
theorem d_Di_subtractDigit_27 : decode b_Di_subtractDigit 27 = .ok (.getfield 42, 3) := by decide +kernel
theorem d_Di_subtractDigit_30 : decode b_Di_subtractDigit 30 = .ok (.iload 7, 2) := by decide +kernel
theorem d_Di_subtractDigit_32 : decode b_Di_subtractDigit 32 = .ok (.iaload, 1) := by decide +kernel
theorem d_Di_subtractDigit_33 : decode b_Di_subtractDigit 33 = .ok (.i2l, 1) := by decide +kernel
theorem d_Di_subtractDigit_34 : decode b_Di_subtractDigit 34 = .ok (.lmul, 1) := by decide +kernel
theorem d_Di_subtractDigit_35 : decode b_Di_subtractDigit 35 = .ok (.lload 5, 2) := by decide +kernel
theorem d_Di_subtractDigit_37 : decode b_Di_subtractDigit 37 = .ok (.ladd, 1) := by decide +kernel
theorem d_Di_subtractDigit_38 : decode b_Di_subtractDigit 38 = .ok (.lstore 8, 2) := by decide +kernel
theorem d_Di_subtractDigit_40 : decode b_Di_subtractDigit 40 = .ok (.aload_n 0, 1) := by decide +kernel
theorem d_Di_subtractDigit_41 : decode b_Di_subtractDigit 41 = .ok (.getfield 18, 3) := by decide +kernel
theorem d_Di_subtractDigit_44 : decode b_Di_subtractDigit 44 = .ok (.getfield 42, 3) := by decide +kernel
theorem d_Di_subtractDigit_47 : decode b_Di_subtractDigit 47 = .ok (.iload_n 1, 1) := by decide +kernel
theorem d_Di_subtractDigit_48 : decode b_Di_subtractDigit 48 = .ok (.iload 7, 2) := by decide +kernel
theorem d_Di_subtractDigit_50 : decode b_Di_subtractDigit 50 = .ok (.iadd, 1) := by decide +kernel
theorem d_Di_subtractDigit_51 : decode b_Di_subtractDigit 51 = .ok (.iaload, 1) := by decide +kernel
theorem d_Di_subtractDigit_52 : decode b_Di_subtractDigit 52 = .ok (.i2l, 1) := by decide +kernel
theorem d_Di_subtractDigit_53 : decode b_Di_subtractDigit 53 = .ok (.lload 8, 2) := by decide +kernel
theorem d_Di_subtractDigit_55 : decode b_Di_subtractDigit 55 = .ok (.ldc2_w 75, 3) := by decide +kernel
theorem d_Di_subtractDigit_58 : decode b_Di_subtractDigit 58 = .ok (.land, 1) := by decide +kernel
theorem d_Di_subtractDigit_59 : decode b_Di_subtractDigit 59 = .ok (.lsub, 1) := by decide +kernel
theorem d_Di_subtractDigit_60 : decode b_Di_subtractDigit 60 = .ok (.lstore 10, 2) := by decide +kernel
theorem d_Di_subtractDigit_62 : decode b_Di_subtractDigit 62 = .ok (.lload 8, 2) := by decide +kernel
theorem d_Di_subtractDigit_64 : decode b_Di_subtractDigit 64 = .ok (.bipush 31, 2) := by decide +kernel
theorem d_Di_subtractDigit_66 : decode b_Di_subtractDigit 66 = .ok (.lushr, 1) := by decide +kernel
theorem d_Di_subtractDigit_67 : decode b_Di_subtractDigit 67 = .ok (.lload 10, 2) := by decide +kernel
theorem d_Di_subtractDigit_69 : decode b_Di_subtractDigit 69 = .ok (.lconst 0, 1) := by decide +kernel
theorem d_Di_subtractDigit_70 : decode b_Di_subtractDigit 70 = .ok (.lcmp, 1) := by decide +kernel
theorem d_Di_subtractDigit_71 : decode b_Di_subtractDigit 71 = .ok (.ifCond .ge 7, 3) := by decide +kernel
theorem d_Di_subtractDigit_74 : decode b_Di_subtractDigit 74 = .ok (.iconst 1, 1) := by decide +kernel
theorem d_Di_subtractDigit_75 : decode b_Di_subtractDigit 75 = .ok (.goto 4, 3) := by decide +kernel
theorem d_Di_subtractDigit_78 : decode b_Di_subtractDigit 78 = .ok (.iconst 0, 1) := by decide +kernel
theorem d_Di_subtractDigit_79 : decode b_Di_subtractDigit 79 = .ok (.i2l, 1) := by decide +kernel
theorem d_Di_subtractDigit_80 : decode b_Di_subtractDigit 80 = .ok (.ladd, 1) := by decide +kernel
theorem d_Di_subtractDigit_81 : decode b_Di_subtractDigit 81 = .ok (.lstore 5, 2) := by decide +kernel
theorem d_Di_subtractDigit_83 : decode b_Di_subtractDigit 83 = .ok (.aload_n 0, 1) := by decide +kernel
theorem d_Di_subtractDigit_84 : decode b_Di_subtractDigit 84 = .ok (.getfield 18, 3) := by decide +kernel
theorem d_Di_subtractDigit_87 : decode b_Di_subtractDigit 87 = .ok (.getfield 42, 3) := by decide +kernel
theorem d_Di_subtractDigit_90 : decode b_Di_subtractDigit 90 = .ok (.iload_n 1, 1) := by decide +kernel
theorem d_Di_subtractDigit_91 : decode b_Di_subtractDigit 91 = .ok (.iload 7, 2) := by decide +kernel
theorem d_Di_subtractDigit_93 : decode b_Di_subtractDigit 93 = .ok (.iadd, 1) := by decide +kernel
theorem d_Di_subtractDigit_94 : decode b_Di_subtractDigit 94 = .ok (.lload 10, 2) := by decide +kernel
theorem d_Di_subtractDigit_96 : decode b_Di_subtractDigit 96 = .ok (.ldc2_w 75, 3) := by decide +kernel
theorem d_Di_subtractDigit_99 : decode b_Di_subtractDigit 99 = .ok (.land, 1) := by decide +kernel
theorem d_Di_subtractDigit_100 : decode b_Di_subtractDigit 100 = .ok (.l2i, 1) := by decide +kernel
theorem d_Di_subtractDigit_101 : decode b_Di_subtractDigit 101 = .ok (.iastore, 1) := by decide +kernel
theorem d_Di_subtractDigit_102 : decode b_Di_subtractDigit 102 = .ok (.iinc 7 1, 3) := by decide +kernel
theorem d_Di_subtractDigit_105 : decode b_Di_subtractDigit 105 = .ok (.goto (-90), 3) := by decide +kernel
theorem d_Di_subtractDigit_108 : decode b_Di_subtractDigit 108 = .ok (.aload_n 0, 1) := by decide +kernel
theorem d_Di_subtractDigit_109 : decode b_Di_subtractDigit 109 = .ok (.getfield 18, 3) := by decide +kernel
theorem d_Di_subtractDigit_112 : decode b_Di_subtractDigit 112 = .ok (.getfield 42, 3) := by decide +kernel
theorem d_Di_subtractDigit_115 : decode b_Di_subtractDigit 115 = .ok (.iload_n 1, 1) := by decide +kernel
theorem d_Di_subtractDigit_116 : decode b_Di_subtractDigit 116 = .ok (.iload 4, 2) := by decide +kernel
theorem d_Di_subtractDigit_118 : decode b_Di_subtractDigit 118 = .ok (.iadd, 1) := by decide +kernel
theorem d_Di_subtractDigit_119 : decode b_Di_subtractDigit 119 = .ok (.iaload, 1) := by decide +kernel
theorem d_Di_subtractDigit_120 : decode b_Di_subtractDigit 120 = .ok (.i2l, 1) := by decide +kernel
theorem d_Di_subtractDigit_121 : decode b_Di_subtractDigit 121 = .ok (.lload 5, 2) := by decide +kernel
theorem d_Di_subtractDigit_123 : decode b_Di_subtractDigit 123 = .ok (.lsub, 1) := by decide +kernel
theorem d_Di_subtractDigit_124 : decode b_Di_subtractDigit 124 = .ok (.lstore 7, 2) := by decide +kernel
theorem d_Di_subtractDigit_126 : decode b_Di_subtractDigit 126 = .ok (.aload_n 0, 1) := by decide +kernel
theorem d_Di_subtractDigit_127 : decode b_Di_subtractDigit 127 = .ok (.getfield 18, 3) := by decide +kernel
theorem d_Di_subtractDigit_130 : decode b_Di_subtractDigit 130 = .ok (.getfield 42, 3) := by decide +kernel
theorem d_Di_subtractDigit_133 : decode b_Di_subtractDigit 133 = .ok (.iload_n 1, 1) := by decide +kernel
theorem d_Di_subtractDigit_134 : decode b_Di_subtractDigit 134 = .ok (.iload 4, 2) := by decide +kernel
theorem d_Di_subtractDigit_136 : decode b_Di_subtractDigit 136 = .ok (.iadd, 1) := by decide +kernel
theorem d_Di_subtractDigit_137 : decode b_Di_subtractDigit 137 = .ok (.lload 7, 2) := by decide +kernel
theorem d_Di_subtractDigit_139 : decode b_Di_subtractDigit 139 = .ok (.ldc2_w 75, 3) := by decide +kernel
theorem d_Di_subtractDigit_142 : decode b_Di_subtractDigit 142 = .ok (.land, 1) := by decide +kernel
theorem d_Di_subtractDigit_143 : decode b_Di_subtractDigit 143 = .ok (.l2i, 1) := by decide +kernel
theorem d_Di_subtractDigit_144 : decode b_Di_subtractDigit 144 = .ok (.iastore, 1) := by decide +kernel
theorem d_Di_subtractDigit_145 : decode b_Di_subtractDigit 145 = .ok (.lload 7, 2) := by decide +kernel
theorem d_Di_subtractDigit_147 : decode b_Di_subtractDigit 147 = .ok (.lconst 0, 1) := by decide +kernel
theorem d_Di_subtractDigit_148 : decode b_Di_subtractDigit 148 = .ok (.lcmp, 1) := by decide +kernel
theorem d_Di_subtractDigit_149 : decode b_Di_subtractDigit 149 = .ok (.ifCond .ge 7, 3) := by decide +kernel
theorem d_Di_subtractDigit_152 : decode b_Di_subtractDigit 152 = .ok (.iconst 1, 1) := by decide +kernel
theorem d_Di_subtractDigit_153 : decode b_Di_subtractDigit 153 = .ok (.goto 4, 3) := by decide +kernel
theorem d_Di_subtractDigit_156 : decode b_Di_subtractDigit 156 = .ok (.iconst 0, 1) := by decide +kernel
theorem d_Di_subtractDigit_157 : decode b_Di_subtractDigit 157 = .ok (.ireturn, 1) := by decide +kernel
theorem d_Di_addBack_0 : decode b_Di_addBack 0 = .ok (.aload_n 0, 1) := by decide +kernel
theorem d_Di_addBack_1 : decode b_Di_addBack 1 = .ok (.getfield 21, 3) := by decide +kernel
theorem d_Di_addBack_4 : decode b_Di_addBack 4 = .ok (.getfield 30, 3) := by decide +kernel
theorem d_Di_addBack_7 : decode b_Di_addBack 7 = .ok (.istore_n 2, 1) := by decide +kernel
theorem d_Di_addBack_8 : decode b_Di_addBack 8 = .ok (.lconst 0, 1) := by decide +kernel
theorem d_Di_addBack_9 : decode b_Di_addBack 9 = .ok (.lstore_n 3, 1) := by decide +kernel
theorem d_Di_addBack_10 : decode b_Di_addBack 10 = .ok (.iconst 0, 1) := by decide +kernel
theorem d_Di_addBack_11 : decode b_Di_addBack 11 = .ok (.istore 5, 2) := by decide +kernel
theorem d_Di_addBack_13 : decode b_Di_addBack 13 = .ok (.iload 5, 2) := by decide +kernel
theorem d_Di_addBack_15 : decode b_Di_addBack 15 = .ok (.iload_n 2, 1) := by decide +kernel
theorem d_Di_addBack_16 : decode b_Di_addBack 16 = .ok (.if_icmp .ge 63, 3) := by decide +kernel
theorem d_Di_addBack_19 : decode b_Di_addBack 19 = .ok (.aload_n 0, 1) := by decide +kernel
theorem d_Di_addBack_20 : decode b_Di_addBack 20 = .ok (.getfield 18, 3) := by decide +kernel
theorem d_Di_addBack_23 : decode b_Di_addBack 23 = .ok (.getfield 42, 3) := by decide +kernel
theorem d_Di_addBack_26 : decode b_Di_addBack 26 = .ok (.iload_n 1, 1) := by decide +kernel
theorem d_Di_addBack_27 : decode b_Di_addBack 27 = .ok (.iload 5, 2) := by decide +kernel
theorem d_Di_addBack_29 : decode b_Di_addBack 29 = .ok (.iadd, 1) := by decide +kernel
theorem d_Di_addBack_30 : decode b_Di_addBack 30 = .ok (.iaload, 1) := by decide +kernel
theorem d_Di_addBack_31 : decode b_Di_addBack 31 = .ok (.i2l, 1) := by decide +kernel
theorem d_Di_addBack_32 : decode b_Di_addBack 32 = .ok (.aload_n 0, 1) := by decide +kernel
theorem d_Di_addBack_33 : decode b_Di_addBack 33 = .ok (.getfield 21, 3) := by decide +kernel
theorem d_Di_addBack_36 : decode b_Di_addBack 36 = .ok (.getfield 42, 3) := by decide +kernel
theorem d_Di_addBack_39 : decode b_Di_addBack 39 = .ok (.iload 5, 2) := by decide +kernel
theorem d_Di_addBack_41 : decode b_Di_addBack 41 = .ok (.iaload, 1) := by decide +kernel
theorem d_Di_addBack_42 : decode b_Di_addBack 42 = .ok (.i2l, 1) := by decide +kernel
theorem d_Di_addBack_43 : decode b_Di_addBack 43 = .ok (.ladd, 1) := by decide +kernel
theorem d_Di_addBack_44 : decode b_Di_addBack 44 = .ok (.lload_n 3, 1) := by decide +kernel
theorem d_Di_addBack_45 : decode b_Di_addBack 45 = .ok (.ladd, 1) := by decide +kernel
theorem d_Di_addBack_46 : decode b_Di_addBack 46 = .ok (.lstore 6, 2) := by decide +kernel
theorem d_Di_addBack_48 : decode b_Di_addBack 48 = .ok (.aload_n 0, 1) := by decide +kernel
theorem d_Di_addBack_49 : decode b_Di_addBack 49 = .ok (.getfield 18, 3) := by decide +kernel
theorem d_Di_addBack_52 : decode b_Di_addBack 52 = .ok (.getfield 42, 3) := by decide +kernel
theorem d_Di_addBack_55 : decode b_Di_addBack 55 = .ok (.iload_n 1, 1) := by decide +kernel
theorem d_Di_addBack_56 : decode b_Di_addBack 56 = .ok (.iload 5, 2) := by decide +kernel
theorem d_Di_addBack_58 : decode b_Di_addBack 58 = .ok (.iadd, 1) := by decide +kernel
theorem d_Di_addBack_59 : decode b_Di_addBack 59 = .ok (.lload 6, 2) := by decide +kernel
theorem d_Di_addBack_61 : decode b_Di_addBack 61 = .ok (.ldc2_w 75, 3) := by decide +kernel
theorem d_Di_addBack_64 : decode b_Di_addBack 64 = .ok (.land, 1) := by decide +kernel
theorem d_Di_addBack_65 : decode b_Di_addBack 65 = .ok (.l2i, 1) := by decide +kernel
theorem d_Di_addBack_66 : decode b_Di_addBack 66 = .ok (.iastore, 1) := by decide +kernel
theorem d_Di_addBack_67 : decode b_Di_addBack 67 = .ok (.lload 6, 2) := by decide +kernel
theorem d_Di_addBack_69 : decode b_Di_addBack 69 = .ok (.bipush 31, 2) := by decide +kernel
theorem d_Di_addBack_71 : decode b_Di_addBack 71 = .ok (.lushr, 1) := by decide +kernel
theorem d_Di_addBack_72 : decode b_Di_addBack 72 = .ok (.lstore_n 3, 1) := by decide +kernel
theorem d_Di_addBack_73 : decode b_Di_addBack 73 = .ok (.iinc 5 1, 3) := by decide +kernel
theorem d_Di_addBack_76 : decode b_Di_addBack 76 = .ok (.goto (-63), 3) := by decide +kernel
theorem d_Di_addBack_79 : decode b_Di_addBack 79 = .ok (.aload_n 0, 1) := by decide +kernel
theorem d_Di_addBack_80 : decode b_Di_addBack 80 = .ok (.getfield 18, 3) := by decide +kernel
theorem d_Di_addBack_83 : decode b_Di_addBack 83 = .ok (.getfield 42, 3) := by decide +kernel
theorem d_Di_addBack_86 : decode b_Di_addBack 86 = .ok (.iload_n 1, 1) := by decide +kernel
theorem d_Di_addBack_87 : decode b_Di_addBack 87 = .ok (.iload_n 2, 1) := by decide +kernel
theorem d_Di_addBack_88 : decode b_Di_addBack 88 = .ok (.iadd, 1) := by decide +kernel
theorem d_Di_addBack_89 : decode b_Di_addBack 89 = .ok (.aload_n 0, 1) := by decide +kernel
theorem d_Di_addBack_90 : decode b_Di_addBack 90 = .ok (.getfield 18, 3) := by decide +kernel
theorem d_Di_addBack_93 : decode b_Di_addBack 93 = .ok (.getfield 42, 3) := by decide +kernel
theorem d_Di_addBack_96 : decode b_Di_addBack 96 = .ok (.iload_n 1, 1) := by decide +kernel
theorem d_Di_addBack_97 : decode b_Di_addBack 97 = .ok (.iload_n 2, 1) := by decide +kernel
theorem d_Di_addBack_98 : decode b_Di_addBack 98 = .ok (.iadd, 1) := by decide +kernel
theorem d_Di_addBack_99 : decode b_Di_addBack 99 = .ok (.iaload, 1) := by decide +kernel
theorem d_Di_addBack_100 : decode b_Di_addBack 100 = .ok (.i2l, 1) := by decide +kernel
theorem d_Di_addBack_101 : decode b_Di_addBack 101 = .ok (.lload_n 3, 1) := by decide +kernel
theorem d_Di_addBack_102 : decode b_Di_addBack 102 = .ok (.ladd, 1) := by decide +kernel
theorem d_Di_addBack_103 : decode b_Di_addBack 103 = .ok (.ldc2_w 75, 3) := by decide +kernel
theorem d_Di_addBack_106 : decode b_Di_addBack 106 = .ok (.land, 1) := by decide +kernel
theorem d_Di_addBack_107 : decode b_Di_addBack 107 = .ok (.l2i, 1) := by decide +kernel
theorem d_Di_addBack_108 : decode b_Di_addBack 108 = .ok (.iastore, 1) := by decide +kernel
theorem d_Di_addBack_109 : decode b_Di_addBack 109 = .ok (.return_, 1) := by decide +kernel
theorem d_Di_reduceToCommon_0 : decode b_Di_reduceToCommon 0 = .ok (.aload_n 0, 1) := by decide +kernel
theorem d_Di_reduceToCommon_1 : decode b_Di_reduceToCommon 1 = .ok (.getfield 24, 3) := by decide +kernel
theorem d_Di_reduceToCommon_4 : decode b_Di_reduceToCommon 4 = .ok (.aload_n 2, 1) := by decide +kernel
theorem d_Di_reduceToCommon_5 : decode b_Di_reduceToCommon 5 = .ok (.invokevirtual 34, 3) := by decide +kernel
theorem d_Di_reduceToCommon_8 : decode b_Di_reduceToCommon 8 = .ok (.iconst 0, 1) := by decide +kernel
theorem d_Di_reduceToCommon_9 : decode b_Di_reduceToCommon 9 = .ok (.istore_n 3, 1) := by decide +kernel
theorem d_Di_reduceToCommon_10 : decode b_Di_reduceToCommon 10 = .ok (.iload_n 3, 1) := by decide +kernel
theorem d_Di_reduceToCommon_11 : decode b_Di_reduceToCommon 11 = .ok (.ldc 84, 2) := by decide +kernel
theorem d_Di_reduceToCommon_13 : decode b_Di_reduceToCommon 13 = .ok (.if_icmp .ge 47, 3) := by decide +kernel
theorem d_Di_reduceToCommon_16 : decode b_Di_reduceToCommon 16 = .ok (.aload_n 0, 1) := by decide +kernel
theorem d_Di_reduceToCommon_17 : decode b_Di_reduceToCommon 17 = .ok (.getfield 24, 3) := by decide +kernel
theorem d_Di_reduceToCommon_20 : decode b_Di_reduceToCommon 20 = .ok (.getfield 50, 3) := by decide +kernel
theorem d_Di_reduceToCommon_23 : decode b_Di_reduceToCommon 23 = .ok (.ifCond .eq 37, 3) := by decide +kernel
theorem d_Di_reduceToCommon_26 : decode b_Di_reduceToCommon 26 = .ok (.aload_n 0, 1) := by decide +kernel
theorem d_Di_reduceToCommon_27 : decode b_Di_reduceToCommon 27 = .ok (.aload_n 1, 1) := by decide +kernel
theorem d_Di_reduceToCommon_28 : decode b_Di_reduceToCommon 28 = .ok (.aload_n 0, 1) := by decide +kernel
theorem d_Di_reduceToCommon_29 : decode b_Di_reduceToCommon 29 = .ok (.getfield 24, 3) := by decide +kernel
theorem d_Di_reduceToCommon_32 : decode b_Di_reduceToCommon 32 = .ok (.invokevirtual 85, 3) := by decide +kernel
theorem d_Di_reduceToCommon_35 : decode b_Di_reduceToCommon 35 = .ok (.aload_n 1, 1) := by decide +kernel
theorem d_Di_reduceToCommon_36 : decode b_Di_reduceToCommon 36 = .ok (.aload_n 0, 1) := by decide +kernel
theorem d_Di_reduceToCommon_37 : decode b_Di_reduceToCommon 37 = .ok (.getfield 24, 3) := by decide +kernel
theorem d_Di_reduceToCommon_40 : decode b_Di_reduceToCommon 40 = .ok (.invokevirtual 34, 3) := by decide +kernel
theorem d_Di_reduceToCommon_43 : decode b_Di_reduceToCommon 43 = .ok (.aload_n 0, 1) := by decide +kernel
theorem d_Di_reduceToCommon_44 : decode b_Di_reduceToCommon 44 = .ok (.getfield 24, 3) := by decide +kernel
theorem d_Di_reduceToCommon_47 : decode b_Di_reduceToCommon 47 = .ok (.aload_n 0, 1) := by decide +kernel
theorem d_Di_reduceToCommon_48 : decode b_Di_reduceToCommon 48 = .ok (.getfield 18, 3) := by decide +kernel
theorem d_Di_reduceToCommon_51 : decode b_Di_reduceToCommon 51 = .ok (.invokevirtual 34, 3) := by decide +kernel
theorem d_Di_reduceToCommon_54 : decode b_Di_reduceToCommon 54 = .ok (.iinc 3 1, 3) := by decide +kernel
theorem d_Di_reduceToCommon_57 : decode b_Di_reduceToCommon 57 = .ok (.goto (-47), 3) := by decide +kernel
theorem d_Di_reduceToCommon_60 : decode b_Di_reduceToCommon 60 = .ok (.aload_n 1, 1) := by decide +kernel
theorem d_Di_reduceToCommon_61 : decode b_Di_reduceToCommon 61 = .ok (.aload_n 1, 1) := by decide +kernel
theorem d_Di_reduceToCommon_62 : decode b_Di_reduceToCommon 62 = .ok (.getfield 50, 3) := by decide +kernel
theorem d_Di_reduceToCommon_65 : decode b_Di_reduceToCommon 65 = .ok (.invokestatic 89, 3) := by decide +kernel
theorem d_Di_reduceToCommon_68 : decode b_Di_reduceToCommon 68 = .ok (.putfield 50, 3) := by decide +kernel
theorem d_Di_reduceToCommon_71 : decode b_Di_reduceToCommon 71 = .ok (.return_, 1) := by decide +kernel
theorem d_Py_copy_0 : decode b_Py_copy 0 = .ok (.aload_n 0, 1) := by decide +kernel
theorem d_Py_copy_1 : decode b_Py_copy 1 = .ok (.aload_n 1, 1) := by decide +kernel
theorem d_Py_copy_2 : decode b_Py_copy 2 = .ok (.getfield 18, 3) := by decide +kernel
theorem d_Py_copy_5 : decode b_Py_copy 5 = .ok (.aload_n 0, 1) := by decide +kernel
theorem d_Py_copy_6 : decode b_Py_copy 6 = .ok (.getfield 9, 3) := by decide +kernel
theorem d_Py_copy_9 : decode b_Py_copy 9 = .ok (.arraylength, 1) := by decide +kernel
theorem d_Py_copy_10 : decode b_Py_copy 10 = .ok (.iconst 1, 1) := by decide +kernel
theorem d_Py_copy_11 : decode b_Py_copy 11 = .ok (.isub, 1) := by decide +kernel
theorem d_Py_copy_12 : decode b_Py_copy 12 = .ok (.invokestatic 22, 3) := by decide +kernel
theorem d_Py_copy_15 : decode b_Py_copy 15 = .ok (.putfield 18, 3) := by decide +kernel
theorem d_Py_copy_18 : decode b_Py_copy 18 = .ok (.iconst 0, 1) := by decide +kernel
theorem d_Py_copy_19 : decode b_Py_copy 19 = .ok (.istore_n 2, 1) := by decide +kernel
theorem d_Py_copy_20 : decode b_Py_copy 20 = .ok (.iload_n 2, 1) := by decide +kernel
theorem d_Py_copy_21 : decode b_Py_copy 21 = .ok (.aload_n 0, 1) := by decide +kernel
theorem d_Py_copy_22 : decode b_Py_copy 22 = .ok (.getfield 18, 3) := by decide +kernel
theorem d_Py_copy_25 : decode b_Py_copy 25 = .ok (.if_icmp .gt 24, 3) := by decide +kernel
theorem d_Py_copy_28 : decode b_Py_copy 28 = .ok (.aload_n 0, 1) := by decide +kernel
theorem d_Py_copy_29 : decode b_Py_copy 29 = .ok (.getfield 9, 3) := by decide +kernel
theorem d_Py_copy_32 : decode b_Py_copy 32 = .ok (.iload_n 2, 1) := by decide +kernel
theorem d_Py_copy_33 : decode b_Py_copy 33 = .ok (.aaload, 1) := by decide +kernel
theorem d_Py_copy_34 : decode b_Py_copy 34 = .ok (.aload_n 1, 1) := by decide +kernel
theorem d_Py_copy_35 : decode b_Py_copy 35 = .ok (.getfield 9, 3) := by decide +kernel
theorem d_Py_copy_38 : decode b_Py_copy 38 = .ok (.iload_n 2, 1) := by decide +kernel
theorem d_Py_copy_39 : decode b_Py_copy 39 = .ok (.aaload, 1) := by decide +kernel
theorem d_Py_copy_40 : decode b_Py_copy 40 = .ok (.invokevirtual 28, 3) := by decide +kernel
theorem d_Py_copy_43 : decode b_Py_copy 43 = .ok (.iinc 2 1, 3) := by decide +kernel
theorem d_Py_copy_46 : decode b_Py_copy 46 = .ok (.goto (-26), 3) := by decide +kernel
theorem d_Py_copy_49 : decode b_Py_copy 49 = .ok (.aload_n 0, 1) := by decide +kernel
theorem d_Py_copy_50 : decode b_Py_copy 50 = .ok (.aload_n 0, 1) := by decide +kernel
theorem d_Py_copy_51 : decode b_Py_copy 51 = .ok (.getfield 18, 3) := by decide +kernel
theorem d_Py_copy_54 : decode b_Py_copy 54 = .ok (.invokevirtual 32, 3) := by decide +kernel
theorem d_Py_copy_57 : decode b_Py_copy 57 = .ok (.return_, 1) := by decide +kernel
theorem d_Py_derive_0 : decode b_Py_derive 0 = .ok (.iconst 1, 1) := by decide +kernel
theorem d_Py_derive_1 : decode b_Py_derive 1 = .ok (.istore_n 1, 1) := by decide +kernel
theorem d_Py_derive_2 : decode b_Py_derive 2 = .ok (.iload_n 1, 1) := by decide +kernel
theorem d_Py_derive_3 : decode b_Py_derive 3 = .ok (.aload_n 0, 1) := by decide +kernel
theorem d_Py_derive_4 : decode b_Py_derive 4 = .ok (.getfield 18, 3) := by decide +kernel
theorem d_Py_derive_7 : decode b_Py_derive 7 = .ok (.if_icmp .gt 38, 3) := by decide +kernel
theorem d_Py_derive_10 : decode b_Py_derive 10 = .ok (.aload_n 0, 1) := by decide +kernel
theorem d_Py_derive_11 : decode b_Py_derive 11 = .ok (.getfield 9, 3) := by decide +kernel
theorem d_Py_derive_14 : decode b_Py_derive 14 = .ok (.iload_n 1, 1) := by decide +kernel
theorem d_Py_derive_15 : decode b_Py_derive 15 = .ok (.iconst 1, 1) := by decide +kernel
theorem d_Py_derive_16 : decode b_Py_derive 16 = .ok (.isub, 1) := by decide +kernel
theorem d_Py_derive_17 : decode b_Py_derive 17 = .ok (.aaload, 1) := by decide +kernel
theorem d_Py_derive_18 : decode b_Py_derive 18 = .ok (.aload_n 0, 1) := by decide +kernel
theorem d_Py_derive_19 : decode b_Py_derive 19 = .ok (.getfield 9, 3) := by decide +kernel
theorem d_Py_derive_22 : decode b_Py_derive 22 = .ok (.iload_n 1, 1) := by decide +kernel
theorem d_Py_derive_23 : decode b_Py_derive 23 = .ok (.aaload, 1) := by decide +kernel
theorem d_Py_derive_24 : decode b_Py_derive 24 = .ok (.invokevirtual 28, 3) := by decide +kernel
theorem d_Py_derive_27 : decode b_Py_derive 27 = .ok (.aload_n 0, 1) := by decide +kernel
theorem d_Py_derive_28 : decode b_Py_derive 28 = .ok (.getfield 9, 3) := by decide +kernel
theorem d_Py_derive_31 : decode b_Py_derive 31 = .ok (.iload_n 1, 1) := by decide +kernel
theorem d_Py_derive_32 : decode b_Py_derive 32 = .ok (.iconst 1, 1) := by decide +kernel
theorem d_Py_derive_33 : decode b_Py_derive 33 = .ok (.isub, 1) := by decide +kernel
theorem d_Py_derive_34 : decode b_Py_derive 34 = .ok (.aaload, 1) := by decide +kernel
theorem d_Py_derive_35 : decode b_Py_derive 35 = .ok (.iload_n 1, 1) := by decide +kernel
theorem d_Py_derive_36 : decode b_Py_derive 36 = .ok (.invokevirtual 39, 3) := by decide +kernel
theorem d_Py_derive_39 : decode b_Py_derive 39 = .ok (.iinc 1 1, 3) := by decide +kernel
theorem d_Py_derive_42 : decode b_Py_derive 42 = .ok (.goto (-40), 3) := by decide +kernel
theorem d_Py_derive_45 : decode b_Py_derive 45 = .ok (.aload_n 0, 1) := by decide +kernel
theorem d_Py_derive_46 : decode b_Py_derive 46 = .ok (.aload_n 0, 1) := by decide +kernel
theorem d_Py_derive_47 : decode b_Py_derive 47 = .ok (.getfield 18, 3) := by decide +kernel
theorem d_Py_derive_50 : decode b_Py_derive 50 = .ok (.iconst 1, 1) := by decide +kernel
theorem d_Py_derive_51 : decode b_Py_derive 51 = .ok (.isub, 1) := by decide +kernel
theorem d_Py_derive_52 : decode b_Py_derive 52 = .ok (.invokevirtual 32, 3) := by decide +kernel
theorem d_Py_derive_55 : decode b_Py_derive 55 = .ok (.return_, 1) := by decide +kernel
theorem d_Py_leadSign_0 : decode b_Py_leadSign 0 = .ok (.aload_n 0, 1) := by decide +kernel
theorem d_Py_leadSign_1 : decode b_Py_leadSign 1 = .ok (.getfield 18, 3) := by decide +kernel
theorem d_Py_leadSign_4 : decode b_Py_leadSign 4 = .ok (.ifCond .ge 7, 3) := by decide +kernel
theorem d_Py_leadSign_7 : decode b_Py_leadSign 7 = .ok (.iconst 0, 1) := by decide +kernel
theorem d_Py_leadSign_8 : decode b_Py_leadSign 8 = .ok (.goto 15, 3) := by decide +kernel
theorem d_Py_leadSign_11 : decode b_Py_leadSign 11 = .ok (.aload_n 0, 1) := by decide +kernel
theorem d_Py_leadSign_12 : decode b_Py_leadSign 12 = .ok (.getfield 9, 3) := by decide +kernel
theorem d_Py_leadSign_15 : decode b_Py_leadSign 15 = .ok (.aload_n 0, 1) := by decide +kernel
theorem d_Py_leadSign_16 : decode b_Py_leadSign 16 = .ok (.getfield 18, 3) := by decide +kernel
theorem d_Py_leadSign_19 : decode b_Py_leadSign 19 = .ok (.aaload, 1) := by decide +kernel
theorem d_Py_leadSign_20 : decode b_Py_leadSign 20 = .ok (.getfield 36, 3) := by decide +kernel
theorem d_Py_leadSign_23 : decode b_Py_leadSign 23 = .ok (.ireturn, 1) := by decide +kernel
theorem d_Pt_placeLong_0 : decode b_Pt_placeLong 0 = .ok (.aload_n 0, 1) := by decide +kernel
theorem d_Pt_placeLong_1 : decode b_Pt_placeLong 1 = .ok (.getfield 12, 3) := by decide +kernel
theorem d_Pt_placeLong_4 : decode b_Pt_placeLong 4 = .ok (.lload_n 1, 1) := by decide +kernel
theorem d_Pt_placeLong_5 : decode b_Pt_placeLong 5 = .ok (.invokevirtual 18, 3) := by decide +kernel
theorem d_Pt_placeLong_8 : decode b_Pt_placeLong 8 = .ok (.aload_n 0, 1) := by decide +kernel
theorem d_Pt_placeLong_9 : decode b_Pt_placeLong 9 = .ok (.iload_n 3, 1) := by decide +kernel
theorem d_Pt_placeLong_10 : decode b_Pt_placeLong 10 = .ok (.putfield 22, 3) := by decide +kernel
theorem d_Pt_placeLong_13 : decode b_Pt_placeLong 13 = .ok (.return_, 1) := by decide +kernel
theorem d_Pt_place_0 : decode b_Pt_place 0 = .ok (.aload_n 0, 1) := by decide +kernel
theorem d_Pt_place_1 : decode b_Pt_place 1 = .ok (.getfield 12, 3) := by decide +kernel
theorem d_Pt_place_4 : decode b_Pt_place 4 = .ok (.aload_n 1, 1) := by decide +kernel
theorem d_Pt_place_5 : decode b_Pt_place 5 = .ok (.invokevirtual 26, 3) := by decide +kernel
theorem d_Pt_place_8 : decode b_Pt_place 8 = .ok (.aload_n 0, 1) := by decide +kernel
theorem d_Pt_place_9 : decode b_Pt_place 9 = .ok (.iconst 0, 1) := by decide +kernel
theorem d_Pt_place_10 : decode b_Pt_place 10 = .ok (.iload_n 2, 1) := by decide +kernel
theorem d_Pt_place_11 : decode b_Pt_place 11 = .ok (.invokestatic 30, 3) := by decide +kernel
theorem d_Pt_place_14 : decode b_Pt_place 14 = .ok (.putfield 22, 3) := by decide +kernel
theorem d_Pt_place_17 : decode b_Pt_place 17 = .ok (.iload_n 2, 1) := by decide +kernel
theorem d_Pt_place_18 : decode b_Pt_place 18 = .ok (.ifCond .ge 12, 3) := by decide +kernel
theorem d_Pt_place_21 : decode b_Pt_place 21 = .ok (.aload_n 0, 1) := by decide +kernel
theorem d_Pt_place_22 : decode b_Pt_place 22 = .ok (.getfield 12, 3) := by decide +kernel
theorem d_Pt_place_25 : decode b_Pt_place 25 = .ok (.iload_n 2, 1) := by decide +kernel
theorem d_Pt_place_26 : decode b_Pt_place 26 = .ok (.ineg, 1) := by decide +kernel
theorem d_Pt_place_27 : decode b_Pt_place 27 = .ok (.invokevirtual 36, 3) := by decide +kernel
theorem d_Pt_place_30 : decode b_Pt_place 30 = .ok (.return_, 1) := by decide +kernel
theorem d_Be_valueAt_0 : decode b_Be_valueAt 0 = .ok (.aload_n 0, 1) := by decide +kernel
theorem d_Be_valueAt_1 : decode b_Be_valueAt 1 = .ok (.getfield 14, 3) := by decide +kernel
theorem d_Be_valueAt_4 : decode b_Be_valueAt 4 = .ok (.astore_n 3, 1) := by decide +kernel
theorem d_Be_valueAt_5 : decode b_Be_valueAt 5 = .ok (.aload_n 0, 1) := by decide +kernel
theorem d_Be_valueAt_6 : decode b_Be_valueAt 6 = .ok (.getfield 20, 3) := by decide +kernel
theorem d_Be_valueAt_9 : decode b_Be_valueAt 9 = .ok (.astore 4, 2) := by decide +kernel
theorem d_Be_valueAt_11 : decode b_Be_valueAt 11 = .ok (.aload_n 3, 1) := by decide +kernel
theorem d_Be_valueAt_12 : decode b_Be_valueAt 12 = .ok (.invokevirtual 81, 3) := by decide +kernel
theorem d_Be_valueAt_15 : decode b_Be_valueAt 15 = .ok (.aload_n 1, 1) := by decide +kernel
theorem d_Be_valueAt_16 : decode b_Be_valueAt 16 = .ok (.getfield 84, 3) := by decide +kernel
theorem d_Be_valueAt_19 : decode b_Be_valueAt 19 = .ok (.istore 5, 2) := by decide +kernel
theorem d_Be_valueAt_21 : decode b_Be_valueAt 21 = .ok (.iload 5, 2) := by decide +kernel
theorem d_Be_valueAt_23 : decode b_Be_valueAt 23 = .ok (.ifCond .lt 72, 3) := by decide +kernel
theorem d_Be_valueAt_26 : decode b_Be_valueAt 26 = .ok (.aload 4, 2) := by decide +kernel
theorem d_Be_valueAt_28 : decode b_Be_valueAt 28 = .ok (.aload_n 3, 1) := by decide +kernel
theorem d_Be_valueAt_29 : decode b_Be_valueAt 29 = .ok (.aload_n 2, 1) := by decide +kernel
theorem d_Be_valueAt_30 : decode b_Be_valueAt 30 = .ok (.getfield 88, 3) := by decide +kernel
theorem d_Be_valueAt_33 : decode b_Be_valueAt 33 = .ok (.invokevirtual 91, 3) := by decide +kernel
theorem d_Be_valueAt_36 : decode b_Be_valueAt 36 = .ok (.aload_n 0, 1) := by decide +kernel
theorem d_Be_valueAt_37 : decode b_Be_valueAt 37 = .ok (.getfield 23, 3) := by decide +kernel
theorem d_Be_valueAt_40 : decode b_Be_valueAt 40 = .ok (.aload_n 1, 1) := by decide +kernel
theorem d_Be_valueAt_41 : decode b_Be_valueAt 41 = .ok (.getfield 95, 3) := by decide +kernel
theorem d_Be_valueAt_44 : decode b_Be_valueAt 44 = .ok (.iload 5, 2) := by decide +kernel
theorem d_Be_valueAt_46 : decode b_Be_valueAt 46 = .ok (.aaload, 1) := by decide +kernel
theorem d_Be_valueAt_47 : decode b_Be_valueAt 47 = .ok (.invokevirtual 99, 3) := by decide +kernel
theorem d_Be_valueAt_50 : decode b_Be_valueAt 50 = .ok (.aload_n 0, 1) := by decide +kernel
theorem d_Be_valueAt_51 : decode b_Be_valueAt 51 = .ok (.getfield 23, 3) := by decide +kernel
theorem d_Be_valueAt_54 : decode b_Be_valueAt 54 = .ok (.aload_n 2, 1) := by decide +kernel
theorem d_Be_valueAt_55 : decode b_Be_valueAt 55 = .ok (.getfield 103, 3) := by decide +kernel
theorem d_Be_valueAt_58 : decode b_Be_valueAt 58 = .ok (.aload_n 1, 1) := by decide +kernel
theorem d_Be_valueAt_59 : decode b_Be_valueAt 59 = .ok (.getfield 84, 3) := by decide +kernel
theorem d_Be_valueAt_62 : decode b_Be_valueAt 62 = .ok (.iload 5, 2) := by decide +kernel
theorem d_Be_valueAt_64 : decode b_Be_valueAt 64 = .ok (.isub, 1) := by decide +kernel
theorem d_Be_valueAt_65 : decode b_Be_valueAt 65 = .ok (.imul, 1) := by decide +kernel
theorem d_Be_valueAt_66 : decode b_Be_valueAt 66 = .ok (.invokevirtual 106, 3) := by decide +kernel
theorem d_Be_valueAt_69 : decode b_Be_valueAt 69 = .ok (.aload 4, 2) := by decide +kernel
theorem d_Be_valueAt_71 : decode b_Be_valueAt 71 = .ok (.aload_n 0, 1) := by decide +kernel
theorem d_Be_valueAt_72 : decode b_Be_valueAt 72 = .ok (.getfield 23, 3) := by decide +kernel
theorem d_Be_valueAt_75 : decode b_Be_valueAt 75 = .ok (.iconst 1, 1) := by decide +kernel
theorem d_Be_valueAt_76 : decode b_Be_valueAt 76 = .ok (.invokevirtual 110, 3) := by decide +kernel
theorem d_Be_valueAt_79 : decode b_Be_valueAt 79 = .ok (.aload_n 3, 1) := by decide +kernel
theorem d_Be_valueAt_80 : decode b_Be_valueAt 80 = .ok (.astore 6, 2) := by decide +kernel
theorem d_Be_valueAt_82 : decode b_Be_valueAt 82 = .ok (.aload 4, 2) := by decide +kernel
theorem d_Be_valueAt_84 : decode b_Be_valueAt 84 = .ok (.astore_n 3, 1) := by decide +kernel
theorem d_Be_valueAt_85 : decode b_Be_valueAt 85 = .ok (.aload 6, 2) := by decide +kernel
theorem d_Be_valueAt_87 : decode b_Be_valueAt 87 = .ok (.astore 4, 2) := by decide +kernel
theorem d_Be_valueAt_89 : decode b_Be_valueAt 89 = .ok (.iinc 5 (-1), 3) := by decide +kernel
theorem d_Be_valueAt_92 : decode b_Be_valueAt 92 = .ok (.goto (-71), 3) := by decide +kernel
theorem d_Be_valueAt_95 : decode b_Be_valueAt 95 = .ok (.aload_n 3, 1) := by decide +kernel
theorem d_Be_valueAt_96 : decode b_Be_valueAt 96 = .ok (.areturn, 1) := by decide +kernel
theorem d_Be_signAtFraction_0 : decode b_Be_signAtFraction 0 = .ok (.aload_n 0, 1) := by decide +kernel
theorem d_Be_signAtFraction_1 : decode b_Be_signAtFraction 1 = .ok (.getfield 14, 3) := by decide +kernel
theorem d_Be_signAtFraction_4 : decode b_Be_signAtFraction 4 = .ok (.astore 4, 2) := by decide +kernel
theorem d_Be_signAtFraction_6 : decode b_Be_signAtFraction 6 = .ok (.aload_n 0, 1) := by decide +kernel
theorem d_Be_signAtFraction_7 : decode b_Be_signAtFraction 7 = .ok (.getfield 20, 3) := by decide +kernel
theorem d_Be_signAtFraction_10 : decode b_Be_signAtFraction 10 = .ok (.astore 5, 2) := by decide +kernel
theorem d_Be_signAtFraction_12 : decode b_Be_signAtFraction 12 = .ok (.aload 4, 2) := by decide +kernel
theorem d_Be_signAtFraction_14 : decode b_Be_signAtFraction 14 = .ok (.invokevirtual 81, 3) := by decide +kernel
theorem d_Be_signAtFraction_17 : decode b_Be_signAtFraction 17 = .ok (.aload_n 0, 1) := by decide +kernel
theorem d_Be_signAtFraction_18 : decode b_Be_signAtFraction 18 = .ok (.getfield 26, 3) := by decide +kernel
theorem d_Be_signAtFraction_21 : decode b_Be_signAtFraction 21 = .ok (.lconst 1, 1) := by decide +kernel
theorem d_Be_signAtFraction_22 : decode b_Be_signAtFraction 22 = .ok (.invokevirtual 114, 3) := by decide +kernel
theorem d_Be_signAtFraction_25 : decode b_Be_signAtFraction 25 = .ok (.aload_n 1, 1) := by decide +kernel
theorem d_Be_signAtFraction_26 : decode b_Be_signAtFraction 26 = .ok (.getfield 84, 3) := by decide +kernel
theorem d_Be_signAtFraction_29 : decode b_Be_signAtFraction 29 = .ok (.istore 6, 2) := by decide +kernel
theorem d_Be_signAtFraction_31 : decode b_Be_signAtFraction 31 = .ok (.iload 6, 2) := by decide +kernel
theorem d_Be_signAtFraction_33 : decode b_Be_signAtFraction 33 = .ok (.ifCond .lt 80, 3) := by decide +kernel
theorem d_Be_signAtFraction_36 : decode b_Be_signAtFraction 36 = .ok (.aload 5, 2) := by decide +kernel
theorem d_Be_signAtFraction_38 : decode b_Be_signAtFraction 38 = .ok (.aload 4, 2) := by decide +kernel
theorem d_Be_signAtFraction_40 : decode b_Be_signAtFraction 40 = .ok (.aload_n 2, 1) := by decide +kernel
theorem d_Be_signAtFraction_41 : decode b_Be_signAtFraction 41 = .ok (.invokevirtual 91, 3) := by decide +kernel
theorem d_Be_signAtFraction_44 : decode b_Be_signAtFraction 44 = .ok (.aload_n 0, 1) := by decide +kernel
theorem d_Be_signAtFraction_45 : decode b_Be_signAtFraction 45 = .ok (.getfield 23, 3) := by decide +kernel
theorem d_Be_signAtFraction_48 : decode b_Be_signAtFraction 48 = .ok (.aload_n 1, 1) := by decide +kernel
theorem d_Be_signAtFraction_49 : decode b_Be_signAtFraction 49 = .ok (.getfield 95, 3) := by decide +kernel
theorem d_Be_signAtFraction_52 : decode b_Be_signAtFraction 52 = .ok (.iload 6, 2) := by decide +kernel
theorem d_Be_signAtFraction_54 : decode b_Be_signAtFraction 54 = .ok (.aaload, 1) := by decide +kernel
theorem d_Be_signAtFraction_55 : decode b_Be_signAtFraction 55 = .ok (.aload_n 0, 1) := by decide +kernel
theorem d_Be_signAtFraction_56 : decode b_Be_signAtFraction 56 = .ok (.getfield 26, 3) := by decide +kernel
theorem d_Be_signAtFraction_59 : decode b_Be_signAtFraction 59 = .ok (.invokevirtual 91, 3) := by decide +kernel
theorem d_Be_signAtFraction_62 : decode b_Be_signAtFraction 62 = .ok (.aload 5, 2) := by decide +kernel
theorem d_Be_signAtFraction_64 : decode b_Be_signAtFraction 64 = .ok (.aload_n 0, 1) := by decide +kernel
theorem d_Be_signAtFraction_65 : decode b_Be_signAtFraction 65 = .ok (.getfield 23, 3) := by decide +kernel
theorem d_Be_signAtFraction_68 : decode b_Be_signAtFraction 68 = .ok (.iconst 1, 1) := by decide +kernel
theorem d_Be_signAtFraction_69 : decode b_Be_signAtFraction 69 = .ok (.invokevirtual 110, 3) := by decide +kernel
theorem d_Be_signAtFraction_72 : decode b_Be_signAtFraction 72 = .ok (.aload_n 0, 1) := by decide +kernel
theorem d_Be_signAtFraction_73 : decode b_Be_signAtFraction 73 = .ok (.getfield 23, 3) := by decide +kernel
theorem d_Be_signAtFraction_76 : decode b_Be_signAtFraction 76 = .ok (.aload_n 0, 1) := by decide +kernel
theorem d_Be_signAtFraction_77 : decode b_Be_signAtFraction 77 = .ok (.getfield 26, 3) := by decide +kernel
theorem d_Be_signAtFraction_80 : decode b_Be_signAtFraction 80 = .ok (.aload_n 3, 1) := by decide +kernel
theorem d_Be_signAtFraction_81 : decode b_Be_signAtFraction 81 = .ok (.invokevirtual 91, 3) := by decide +kernel
theorem d_Be_signAtFraction_84 : decode b_Be_signAtFraction 84 = .ok (.aload_n 0, 1) := by decide +kernel
theorem d_Be_signAtFraction_85 : decode b_Be_signAtFraction 85 = .ok (.getfield 26, 3) := by decide +kernel
theorem d_Be_signAtFraction_88 : decode b_Be_signAtFraction 88 = .ok (.aload_n 0, 1) := by decide +kernel
theorem d_Be_signAtFraction_89 : decode b_Be_signAtFraction 89 = .ok (.getfield 23, 3) := by decide +kernel
theorem d_Be_signAtFraction_92 : decode b_Be_signAtFraction 92 = .ok (.invokevirtual 99, 3) := by decide +kernel
theorem d_Be_signAtFraction_95 : decode b_Be_signAtFraction 95 = .ok (.aload 4, 2) := by decide +kernel
theorem d_Be_signAtFraction_97 : decode b_Be_signAtFraction 97 = .ok (.astore 7, 2) := by decide +kernel
theorem d_Be_signAtFraction_99 : decode b_Be_signAtFraction 99 = .ok (.aload 5, 2) := by decide +kernel
theorem d_Be_signAtFraction_101 : decode b_Be_signAtFraction 101 = .ok (.astore 4, 2) := by decide +kernel
theorem d_Be_signAtFraction_103 : decode b_Be_signAtFraction 103 = .ok (.aload 7, 2) := by decide +kernel
theorem d_Be_signAtFraction_105 : decode b_Be_signAtFraction 105 = .ok (.astore 5, 2) := by decide +kernel
theorem d_Be_signAtFraction_107 : decode b_Be_signAtFraction 107 = .ok (.iinc 6 (-1), 3) := by decide +kernel
theorem d_Be_signAtFraction_110 : decode b_Be_signAtFraction 110 = .ok (.goto (-79), 3) := by decide +kernel
theorem d_Be_signAtFraction_113 : decode b_Be_signAtFraction 113 = .ok (.aload 4, 2) := by decide +kernel
theorem d_Be_signAtFraction_115 : decode b_Be_signAtFraction 115 = .ok (.getfield 118, 3) := by decide +kernel
theorem d_Be_signAtFraction_118 : decode b_Be_signAtFraction 118 = .ok (.ireturn, 1) := by decide +kernel
theorem d_Be_setDivisor_0 : decode b_Be_setDivisor 0 = .ok (.aload_n 0, 1) := by decide +kernel
theorem d_Be_setDivisor_1 : decode b_Be_setDivisor 1 = .ok (.getfield 78, 3) := by decide +kernel
theorem d_Be_setDivisor_4 : decode b_Be_setDivisor 4 = .ok (.aload_n 1, 1) := by decide +kernel
theorem d_Be_setDivisor_5 : decode b_Be_setDivisor 5 = .ok (.invokevirtual 121, 3) := by decide +kernel
theorem d_Be_setDivisor_8 : decode b_Be_setDivisor 8 = .ok (.aload_n 0, 1) := by decide +kernel
theorem d_Be_setDivisor_9 : decode b_Be_setDivisor 9 = .ok (.getfield 14, 3) := by decide +kernel
theorem d_Be_setDivisor_12 : decode b_Be_setDivisor 12 = .ok (.invokevirtual 81, 3) := by decide +kernel
theorem d_Be_setDivisor_15 : decode b_Be_setDivisor 15 = .ok (.iconst 0, 1) := by decide +kernel
theorem d_Be_setDivisor_16 : decode b_Be_setDivisor 16 = .ok (.istore_n 2, 1) := by decide +kernel
theorem d_Be_setDivisor_17 : decode b_Be_setDivisor 17 = .ok (.iload_n 2, 1) := by decide +kernel
theorem d_Be_setDivisor_18 : decode b_Be_setDivisor 18 = .ok (.aload_n 0, 1) := by decide +kernel
theorem d_Be_setDivisor_19 : decode b_Be_setDivisor 19 = .ok (.getfield 78, 3) := by decide +kernel
theorem d_Be_setDivisor_22 : decode b_Be_setDivisor 22 = .ok (.getfield 84, 3) := by decide +kernel
theorem d_Be_setDivisor_25 : decode b_Be_setDivisor 25 = .ok (.if_icmp .gt 29, 3) := by decide +kernel
theorem d_Be_setDivisor_28 : decode b_Be_setDivisor 28 = .ok (.aload_n 0, 1) := by decide +kernel
theorem d_Be_setDivisor_29 : decode b_Be_setDivisor 29 = .ok (.getfield 63, 3) := by decide +kernel
theorem d_Be_setDivisor_32 : decode b_Be_setDivisor 32 = .ok (.aload_n 0, 1) := by decide +kernel
theorem d_Be_setDivisor_33 : decode b_Be_setDivisor 33 = .ok (.getfield 14, 3) := by decide +kernel
theorem d_Be_setDivisor_36 : decode b_Be_setDivisor 36 = .ok (.aload_n 0, 1) := by decide +kernel
theorem d_Be_setDivisor_37 : decode b_Be_setDivisor 37 = .ok (.getfield 78, 3) := by decide +kernel
theorem d_Be_setDivisor_40 : decode b_Be_setDivisor 40 = .ok (.getfield 95, 3) := by decide +kernel
theorem d_Be_setDivisor_43 : decode b_Be_setDivisor 43 = .ok (.iload_n 2, 1) := by decide +kernel
theorem d_Be_setDivisor_44 : decode b_Be_setDivisor 44 = .ok (.aaload, 1) := by decide +kernel
theorem d_Be_setDivisor_45 : decode b_Be_setDivisor 45 = .ok (.invokevirtual 124, 3) := by decide +kernel
theorem d_Be_setDivisor_48 : decode b_Be_setDivisor 48 = .ok (.iinc 2 1, 3) := by decide +kernel
theorem d_Be_setDivisor_51 : decode b_Be_setDivisor 51 = .ok (.goto (-34), 3) := by decide +kernel
theorem d_Be_setDivisor_54 : decode b_Be_setDivisor 54 = .ok (.iconst 0, 1) := by decide +kernel
theorem d_Be_setDivisor_55 : decode b_Be_setDivisor 55 = .ok (.istore_n 2, 1) := by decide +kernel
theorem d_Be_setDivisor_56 : decode b_Be_setDivisor 56 = .ok (.iload_n 2, 1) := by decide +kernel
theorem d_Be_setDivisor_57 : decode b_Be_setDivisor 57 = .ok (.aload_n 0, 1) := by decide +kernel
theorem d_Be_setDivisor_58 : decode b_Be_setDivisor 58 = .ok (.getfield 78, 3) := by decide +kernel
theorem d_Be_setDivisor_61 : decode b_Be_setDivisor 61 = .ok (.getfield 84, 3) := by decide +kernel
theorem d_Be_setDivisor_64 : decode b_Be_setDivisor 64 = .ok (.if_icmp .gt 48, 3) := by decide +kernel
theorem d_Be_setDivisor_67 : decode b_Be_setDivisor 67 = .ok (.aload_n 0, 1) := by decide +kernel
theorem d_Be_setDivisor_68 : decode b_Be_setDivisor 68 = .ok (.getfield 63, 3) := by decide +kernel
theorem d_Be_setDivisor_71 : decode b_Be_setDivisor 71 = .ok (.aload_n 0, 1) := by decide +kernel
theorem d_Be_setDivisor_72 : decode b_Be_setDivisor 72 = .ok (.getfield 78, 3) := by decide +kernel
theorem d_Be_setDivisor_75 : decode b_Be_setDivisor 75 = .ok (.getfield 95, 3) := by decide +kernel
theorem d_Be_setDivisor_78 : decode b_Be_setDivisor 78 = .ok (.iload_n 2, 1) := by decide +kernel
theorem d_Be_setDivisor_79 : decode b_Be_setDivisor 79 = .ok (.aaload, 1) := by decide +kernel
theorem d_Be_setDivisor_80 : decode b_Be_setDivisor 80 = .ok (.aload_n 0, 1) := by decide +kernel
theorem d_Be_setDivisor_81 : decode b_Be_setDivisor 81 = .ok (.getfield 14, 3) := by decide +kernel
theorem d_Be_setDivisor_84 : decode b_Be_setDivisor 84 = .ok (.invokevirtual 127, 3) := by decide +kernel
theorem d_Be_setDivisor_87 : decode b_Be_setDivisor 87 = .ok (.aload_n 0, 1) := by decide +kernel
theorem d_Be_setDivisor_88 : decode b_Be_setDivisor 88 = .ok (.getfield 78, 3) := by decide +kernel
theorem d_Be_setDivisor_91 : decode b_Be_setDivisor 91 = .ok (.getfield 95, 3) := by decide +kernel
theorem d_Be_setDivisor_94 : decode b_Be_setDivisor 94 = .ok (.iload_n 2, 1) := by decide +kernel
theorem d_Be_setDivisor_95 : decode b_Be_setDivisor 95 = .ok (.aaload, 1) := by decide +kernel
theorem d_Be_setDivisor_96 : decode b_Be_setDivisor 96 = .ok (.aload_n 0, 1) := by decide +kernel
theorem d_Be_setDivisor_97 : decode b_Be_setDivisor 97 = .ok (.getfield 63, 3) := by decide +kernel
theorem d_Be_setDivisor_100 : decode b_Be_setDivisor 100 = .ok (.getfield 130, 3) := by decide +kernel
theorem d_Be_setDivisor_103 : decode b_Be_setDivisor 103 = .ok (.invokevirtual 99, 3) := by decide +kernel
theorem d_Be_setDivisor_106 : decode b_Be_setDivisor 106 = .ok (.iinc 2 1, 3) := by decide +kernel
theorem d_Be_setDivisor_109 : decode b_Be_setDivisor 109 = .ok (.goto (-53), 3) := by decide +kernel
theorem d_Be_setDivisor_112 : decode b_Be_setDivisor 112 = .ok (.return_, 1) := by decide +kernel
theorem d_Be_divideByDivisor_0 : decode b_Be_divideByDivisor 0 = .ok (.aload_n 1, 1) := by decide +kernel
theorem d_Be_divideByDivisor_1 : decode b_Be_divideByDivisor 1 = .ok (.getfield 84, 3) := by decide +kernel
theorem d_Be_divideByDivisor_4 : decode b_Be_divideByDivisor 4 = .ok (.aload_n 0, 1) := by decide +kernel
theorem d_Be_divideByDivisor_5 : decode b_Be_divideByDivisor 5 = .ok (.getfield 78, 3) := by decide +kernel
theorem d_Be_divideByDivisor_8 : decode b_Be_divideByDivisor 8 = .ok (.getfield 84, 3) := by decide +kernel
theorem d_Be_divideByDivisor_11 : decode b_Be_divideByDivisor 11 = .ok (.isub, 1) := by decide +kernel
theorem d_Be_divideByDivisor_12 : decode b_Be_divideByDivisor 12 = .ok (.istore_n 3, 1) := by decide +kernel
theorem d_Be_divideByDivisor_13 : decode b_Be_divideByDivisor 13 = .ok (.iload_n 3, 1) := by decide +kernel
theorem d_Be_divideByDivisor_14 : decode b_Be_divideByDivisor 14 = .ok (.ifCond .lt 22, 3) := by decide +kernel
theorem d_Be_divideByDivisor_17 : decode b_Be_divideByDivisor 17 = .ok (.iload_n 3, 1) := by decide +kernel
theorem d_Be_divideByDivisor_18 : decode b_Be_divideByDivisor 18 = .ok (.aload_n 2, 1) := by decide +kernel
theorem d_Be_divideByDivisor_19 : decode b_Be_divideByDivisor 19 = .ok (.getfield 95, 3) := by decide +kernel
theorem d_Be_divideByDivisor_22 : decode b_Be_divideByDivisor 22 = .ok (.arraylength, 1) := by decide +kernel
theorem d_Be_divideByDivisor_23 : decode b_Be_divideByDivisor 23 = .ok (.if_icmp .ge 13, 3) := by decide +kernel
theorem d_Be_divideByDivisor_26 : decode b_Be_divideByDivisor 26 = .ok (.aload_n 0, 1) := by decide +kernel
theorem d_Be_divideByDivisor_27 : decode b_Be_divideByDivisor 27 = .ok (.getfield 78, 3) := by decide +kernel
theorem d_Be_divideByDivisor_30 : decode b_Be_divideByDivisor 30 = .ok (.getfield 84, 3) := by decide +kernel
theorem d_Be_divideByDivisor_33 : decode b_Be_divideByDivisor 33 = .ok (.ifCond .ge 4, 3) := by decide +kernel
theorem d_Be_divideByDivisor_36 : decode b_Be_divideByDivisor 36 = .ok (.return_, 1) := by decide +kernel
theorem d_Be_divideByDivisor_37 : decode b_Be_divideByDivisor 37 = .ok (.aload_n 0, 1) := by decide +kernel
theorem d_Be_divideByDivisor_38 : decode b_Be_divideByDivisor 38 = .ok (.getfield 74, 3) := by decide +kernel
theorem d_Be_divideByDivisor_41 : decode b_Be_divideByDivisor 41 = .ok (.aload_n 1, 1) := by decide +kernel
theorem d_Be_divideByDivisor_42 : decode b_Be_divideByDivisor 42 = .ok (.invokevirtual 121, 3) := by decide +kernel
theorem d_Be_divideByDivisor_45 : decode b_Be_divideByDivisor 45 = .ok (.iload_n 3, 1) := by decide +kernel
theorem d_Be_divideByDivisor_46 : decode b_Be_divideByDivisor 46 = .ok (.istore 4, 2) := by decide +kernel
theorem d_Be_divideByDivisor_48 : decode b_Be_divideByDivisor 48 = .ok (.iload 4, 2) := by decide +kernel
theorem d_Be_divideByDivisor_50 : decode b_Be_divideByDivisor 50 = .ok (.ifCond .lt 132, 3) := by decide +kernel
theorem d_Be_divideByDivisor_53 : decode b_Be_divideByDivisor 53 = .ok (.aload_n 0, 1) := by decide +kernel
theorem d_Be_divideByDivisor_54 : decode b_Be_divideByDivisor 54 = .ok (.getfield 63, 3) := by decide +kernel
theorem d_Be_divideByDivisor_57 : decode b_Be_divideByDivisor 57 = .ok (.aload_n 0, 1) := by decide +kernel
theorem d_Be_divideByDivisor_58 : decode b_Be_divideByDivisor 58 = .ok (.getfield 74, 3) := by decide +kernel
theorem d_Be_divideByDivisor_61 : decode b_Be_divideByDivisor 61 = .ok (.getfield 95, 3) := by decide +kernel
theorem d_Be_divideByDivisor_64 : decode b_Be_divideByDivisor 64 = .ok (.iload 4, 2) := by decide +kernel
theorem d_Be_divideByDivisor_66 : decode b_Be_divideByDivisor 66 = .ok (.aload_n 0, 1) := by decide +kernel
theorem d_Be_divideByDivisor_67 : decode b_Be_divideByDivisor 67 = .ok (.getfield 78, 3) := by decide +kernel
theorem d_Be_divideByDivisor_70 : decode b_Be_divideByDivisor 70 = .ok (.getfield 84, 3) := by decide +kernel
theorem d_Be_divideByDivisor_73 : decode b_Be_divideByDivisor 73 = .ok (.iadd, 1) := by decide +kernel
theorem d_Be_divideByDivisor_74 : decode b_Be_divideByDivisor 74 = .ok (.aaload, 1) := by decide +kernel
theorem d_Be_divideByDivisor_75 : decode b_Be_divideByDivisor 75 = .ok (.aload_n 0, 1) := by decide +kernel
theorem d_Be_divideByDivisor_76 : decode b_Be_divideByDivisor 76 = .ok (.getfield 78, 3) := by decide +kernel
theorem d_Be_divideByDivisor_79 : decode b_Be_divideByDivisor 79 = .ok (.getfield 95, 3) := by decide +kernel
theorem d_Be_divideByDivisor_82 : decode b_Be_divideByDivisor 82 = .ok (.aload_n 0, 1) := by decide +kernel
theorem d_Be_divideByDivisor_83 : decode b_Be_divideByDivisor 83 = .ok (.getfield 78, 3) := by decide +kernel
theorem d_Be_divideByDivisor_86 : decode b_Be_divideByDivisor 86 = .ok (.getfield 84, 3) := by decide +kernel
theorem d_Be_divideByDivisor_89 : decode b_Be_divideByDivisor 89 = .ok (.aaload, 1) := by decide +kernel
theorem d_Be_divideByDivisor_90 : decode b_Be_divideByDivisor 90 = .ok (.invokevirtual 127, 3) := by decide +kernel
theorem d_Be_divideByDivisor_93 : decode b_Be_divideByDivisor 93 = .ok (.aload_n 2, 1) := by decide +kernel
theorem d_Be_divideByDivisor_94 : decode b_Be_divideByDivisor 94 = .ok (.getfield 95, 3) := by decide +kernel
theorem d_Be_divideByDivisor_97 : decode b_Be_divideByDivisor 97 = .ok (.iload 4, 2) := by decide +kernel
theorem d_Be_divideByDivisor_99 : decode b_Be_divideByDivisor 99 = .ok (.aaload, 1) := by decide +kernel
theorem d_Be_divideByDivisor_100 : decode b_Be_divideByDivisor 100 = .ok (.aload_n 0, 1) := by decide +kernel
theorem d_Be_divideByDivisor_101 : decode b_Be_divideByDivisor 101 = .ok (.getfield 63, 3) := by decide +kernel
theorem d_Be_divideByDivisor_104 : decode b_Be_divideByDivisor 104 = .ok (.getfield 130, 3) := by decide +kernel
theorem d_Be_divideByDivisor_107 : decode b_Be_divideByDivisor 107 = .ok (.invokevirtual 99, 3) := by decide +kernel
theorem d_Be_divideByDivisor_110 : decode b_Be_divideByDivisor 110 = .ok (.iconst 0, 1) := by decide +kernel
theorem d_Be_divideByDivisor_111 : decode b_Be_divideByDivisor 111 = .ok (.istore 5, 2) := by decide +kernel
theorem d_Be_divideByDivisor_113 : decode b_Be_divideByDivisor 113 = .ok (.iload 5, 2) := by decide +kernel
theorem d_Be_divideByDivisor_115 : decode b_Be_divideByDivisor 115 = .ok (.aload_n 0, 1) := by decide +kernel
theorem d_Be_divideByDivisor_116 : decode b_Be_divideByDivisor 116 = .ok (.getfield 78, 3) := by decide +kernel
theorem d_Be_divideByDivisor_119 : decode b_Be_divideByDivisor 119 = .ok (.getfield 84, 3) := by decide +kernel
theorem d_Be_divideByDivisor_122 : decode b_Be_divideByDivisor 122 = .ok (.if_icmp .gt 54, 3) := by decide +kernel
theorem d_Be_divideByDivisor_125 : decode b_Be_divideByDivisor 125 = .ok (.aload_n 0, 1) := by decide +kernel
theorem d_Be_divideByDivisor_126 : decode b_Be_divideByDivisor 126 = .ok (.getfield 23, 3) := by decide +kernel
theorem d_Be_divideByDivisor_129 : decode b_Be_divideByDivisor 129 = .ok (.aload_n 2, 1) := by decide +kernel
theorem d_Be_divideByDivisor_130 : decode b_Be_divideByDivisor 130 = .ok (.getfield 95, 3) := by decide +kernel
theorem d_Be_divideByDivisor_133 : decode b_Be_divideByDivisor 133 = .ok (.iload 4, 2) := by decide +kernel
theorem d_Be_divideByDivisor_135 : decode b_Be_divideByDivisor 135 = .ok (.aaload, 1) := by decide +kernel
theorem d_Be_divideByDivisor_136 : decode b_Be_divideByDivisor 136 = .ok (.aload_n 0, 1) := by decide +kernel
theorem d_Be_divideByDivisor_137 : decode b_Be_divideByDivisor 137 = .ok (.getfield 78, 3) := by decide +kernel
theorem d_Be_divideByDivisor_140 : decode b_Be_divideByDivisor 140 = .ok (.getfield 95, 3) := by decide +kernel
theorem d_Be_divideByDivisor_143 : decode b_Be_divideByDivisor 143 = .ok (.iload 5, 2) := by decide +kernel
theorem d_Be_divideByDivisor_145 : decode b_Be_divideByDivisor 145 = .ok (.aaload, 1) := by decide +kernel
theorem d_Be_divideByDivisor_146 : decode b_Be_divideByDivisor 146 = .ok (.invokevirtual 91, 3) := by decide +kernel
theorem d_Be_divideByDivisor_149 : decode b_Be_divideByDivisor 149 = .ok (.aload_n 0, 1) := by decide +kernel
theorem d_Be_divideByDivisor_150 : decode b_Be_divideByDivisor 150 = .ok (.getfield 74, 3) := by decide +kernel
theorem d_Be_divideByDivisor_153 : decode b_Be_divideByDivisor 153 = .ok (.getfield 95, 3) := by decide +kernel
theorem d_Be_divideByDivisor_156 : decode b_Be_divideByDivisor 156 = .ok (.iload 4, 2) := by decide +kernel
theorem d_Be_divideByDivisor_158 : decode b_Be_divideByDivisor 158 = .ok (.iload 5, 2) := by decide +kernel
theorem d_Be_divideByDivisor_160 : decode b_Be_divideByDivisor 160 = .ok (.iadd, 1) := by decide +kernel
theorem d_Be_divideByDivisor_161 : decode b_Be_divideByDivisor 161 = .ok (.aaload, 1) := by decide +kernel
theorem d_Be_divideByDivisor_162 : decode b_Be_divideByDivisor 162 = .ok (.aload_n 0, 1) := by decide +kernel
theorem d_Be_divideByDivisor_163 : decode b_Be_divideByDivisor 163 = .ok (.getfield 23, 3) := by decide +kernel
theorem d_Be_divideByDivisor_166 : decode b_Be_divideByDivisor 166 = .ok (.iconst (-1), 1) := by decide +kernel
theorem d_Be_divideByDivisor_167 : decode b_Be_divideByDivisor 167 = .ok (.invokevirtual 110, 3) := by decide +kernel
theorem d_Be_divideByDivisor_170 : decode b_Be_divideByDivisor 170 = .ok (.iinc 5 1, 3) := by decide +kernel
theorem d_Be_divideByDivisor_173 : decode b_Be_divideByDivisor 173 = .ok (.goto (-60), 3) := by decide +kernel
theorem d_Be_divideByDivisor_176 : decode b_Be_divideByDivisor 176 = .ok (.iinc 4 (-1), 3) := by decide +kernel
theorem d_Be_divideByDivisor_179 : decode b_Be_divideByDivisor 179 = .ok (.goto (-131), 3) := by decide +kernel
theorem d_Be_divideByDivisor_182 : decode b_Be_divideByDivisor 182 = .ok (.aload_n 2, 1) := by decide +kernel
theorem d_Be_divideByDivisor_183 : decode b_Be_divideByDivisor 183 = .ok (.iload_n 3, 1) := by decide +kernel
theorem d_Be_divideByDivisor_184 : decode b_Be_divideByDivisor 184 = .ok (.invokevirtual 133, 3) := by decide +kernel
theorem d_Be_divideByDivisor_187 : decode b_Be_divideByDivisor 187 = .ok (.return_, 1) := by decide +kernel
theorem d_Be_setTens_0 : decode b_Be_setTens 0 = .ok (.aload_n 0, 1) := by decide +kernel
theorem d_Be_setTens_1 : decode b_Be_setTens 1 = .ok (.getfield 38, 3) := by decide +kernel
theorem d_Be_setTens_4 : decode b_Be_setTens 4 = .ok (.lconst 1, 1) := by decide +kernel
theorem d_Be_setTens_5 : decode b_Be_setTens 5 = .ok (.invokevirtual 114, 3) := by decide +kernel
theorem d_Be_setTens_8 : decode b_Be_setTens 8 = .ok (.iconst 0, 1) := by decide +kernel
theorem d_Be_setTens_9 : decode b_Be_setTens 9 = .ok (.istore_n 2, 1) := by decide +kernel
theorem d_Be_setTens_10 : decode b_Be_setTens 10 = .ok (.iload_n 2, 1) := by decide +kernel
theorem d_Be_setTens_11 : decode b_Be_setTens 11 = .ok (.iload_n 1, 1) := by decide +kernel
theorem d_Be_setTens_12 : decode b_Be_setTens 12 = .ok (.if_icmp .ge 18, 3) := by decide +kernel
theorem d_Be_setTens_15 : decode b_Be_setTens 15 = .ok (.aload_n 0, 1) := by decide +kernel
theorem d_Be_setTens_16 : decode b_Be_setTens 16 = .ok (.getfield 38, 3) := by decide +kernel
theorem d_Be_setTens_19 : decode b_Be_setTens 19 = .ok (.bipush 10, 2) := by decide +kernel
theorem d_Be_setTens_21 : decode b_Be_setTens 21 = .ok (.invokevirtual 135, 3) := by decide +kernel
theorem d_Be_setTens_24 : decode b_Be_setTens 24 = .ok (.iinc 2 1, 3) := by decide +kernel
theorem d_Be_setTens_27 : decode b_Be_setTens 27 = .ok (.goto (-17), 3) := by decide +kernel
theorem d_Be_setTens_30 : decode b_Be_setTens 30 = .ok (.return_, 1) := by decide +kernel
theorem d_Ch_last_0 : decode b_Ch_last 0 = .ok (.aload_n 0, 1) := by decide +kernel
theorem d_Ch_last_1 : decode b_Ch_last 1 = .ok (.getfield 11, 3) := by decide +kernel
theorem d_Ch_last_4 : decode b_Ch_last 4 = .ok (.iconst 0, 1) := by decide +kernel
theorem d_Ch_last_5 : decode b_Ch_last 5 = .ok (.aload_n 0, 1) := by decide +kernel
theorem d_Ch_last_6 : decode b_Ch_last 6 = .ok (.getfield 18, 3) := by decide +kernel
theorem d_Ch_last_9 : decode b_Ch_last 9 = .ok (.iconst 1, 1) := by decide +kernel
theorem d_Ch_last_10 : decode b_Ch_last 10 = .ok (.isub, 1) := by decide +kernel
theorem d_Ch_last_11 : decode b_Ch_last 11 = .ok (.invokestatic 22, 3) := by decide +kernel
theorem d_Ch_last_14 : decode b_Ch_last 14 = .ok (.aaload, 1) := by decide +kernel
theorem d_Ch_last_15 : decode b_Ch_last 15 = .ok (.areturn, 1) := by decide +kernel
theorem d_Ch_deriveHead_0 : decode b_Ch_deriveHead 0 = .ok (.aload_n 0, 1) := by decide +kernel
theorem d_Ch_deriveHead_1 : decode b_Ch_deriveHead 1 = .ok (.getfield 11, 3) := by decide +kernel
theorem d_Ch_deriveHead_4 : decode b_Ch_deriveHead 4 = .ok (.iconst 1, 1) := by decide +kernel
theorem d_Ch_deriveHead_5 : decode b_Ch_deriveHead 5 = .ok (.aaload, 1) := by decide +kernel
theorem d_Ch_deriveHead_6 : decode b_Ch_deriveHead 6 = .ok (.aload_n 0, 1) := by decide +kernel
theorem d_Ch_deriveHead_7 : decode b_Ch_deriveHead 7 = .ok (.getfield 11, 3) := by decide +kernel
theorem d_Ch_deriveHead_10 : decode b_Ch_deriveHead 10 = .ok (.iconst 0, 1) := by decide +kernel
theorem d_Ch_deriveHead_11 : decode b_Ch_deriveHead 11 = .ok (.aaload, 1) := by decide +kernel
theorem d_Ch_deriveHead_12 : decode b_Ch_deriveHead 12 = .ok (.invokevirtual 28, 3) := by decide +kernel
theorem d_Ch_deriveHead_15 : decode b_Ch_deriveHead 15 = .ok (.aload_n 0, 1) := by decide +kernel
theorem d_Ch_deriveHead_16 : decode b_Ch_deriveHead 16 = .ok (.getfield 11, 3) := by decide +kernel
theorem d_Ch_deriveHead_19 : decode b_Ch_deriveHead 19 = .ok (.iconst 1, 1) := by decide +kernel
theorem d_Ch_deriveHead_20 : decode b_Ch_deriveHead 20 = .ok (.aaload, 1) := by decide +kernel
theorem d_Ch_deriveHead_21 : decode b_Ch_deriveHead 21 = .ok (.invokevirtual 32, 3) := by decide +kernel
theorem d_Ch_deriveHead_24 : decode b_Ch_deriveHead 24 = .ok (.return_, 1) := by decide +kernel
theorem d_Ch_build_0 : decode b_Ch_build 0 = .ok (.aload_n 0, 1) := by decide +kernel
theorem d_Ch_build_1 : decode b_Ch_build 1 = .ok (.aload_n 0, 1) := by decide +kernel
theorem d_Ch_build_2 : decode b_Ch_build 2 = .ok (.getfield 11, 3) := by decide +kernel
theorem d_Ch_build_5 : decode b_Ch_build 5 = .ok (.iconst 1, 1) := by decide +kernel
theorem d_Ch_build_6 : decode b_Ch_build 6 = .ok (.aaload, 1) := by decide +kernel
theorem d_Ch_build_7 : decode b_Ch_build 7 = .ok (.getfield 35, 3) := by decide +kernel
theorem d_Ch_build_10 : decode b_Ch_build 10 = .ok (.ifCond .ge 7, 3) := by decide +kernel
theorem d_Ch_build_13 : decode b_Ch_build 13 = .ok (.iconst 1, 1) := by decide +kernel
theorem d_Ch_build_14 : decode b_Ch_build 14 = .ok (.goto 4, 3) := by decide +kernel
theorem d_Ch_build_17 : decode b_Ch_build 17 = .ok (.iconst 2, 1) := by decide +kernel
theorem d_Ch_build_18 : decode b_Ch_build 18 = .ok (.putfield 18, 3) := by decide +kernel
theorem d_Ch_build_21 : decode b_Ch_build 21 = .ok (.aload_n 1, 1) := by decide +kernel
theorem d_Ch_build_22 : decode b_Ch_build 22 = .ok (.getfield 38, 3) := by decide +kernel
theorem d_Ch_build_25 : decode b_Ch_build 25 = .ok (.lconst 1, 1) := by decide +kernel
theorem d_Ch_build_26 : decode b_Ch_build 26 = .ok (.invokevirtual 44, 3) := by decide +kernel
theorem d_Ch_build_29 : decode b_Ch_build 29 = .ok (.aload_n 1, 1) := by decide +kernel
theorem d_Ch_build_30 : decode b_Ch_build 30 = .ok (.getfield 50, 3) := by decide +kernel
theorem d_Ch_build_33 : decode b_Ch_build 33 = .ok (.lconst 1, 1) := by decide +kernel
theorem d_Ch_build_34 : decode b_Ch_build 34 = .ok (.invokevirtual 44, 3) := by decide +kernel
theorem d_Ch_build_37 : decode b_Ch_build 37 = .ok (.aload_n 0, 1) := by decide +kernel
theorem d_Ch_build_38 : decode b_Ch_build 38 = .ok (.getfield 18, 3) := by decide +kernel
theorem d_Ch_build_41 : decode b_Ch_build 41 = .ok (.iconst 1, 1) := by decide +kernel
theorem d_Ch_build_42 : decode b_Ch_build 42 = .ok (.if_icmp .le 156, 3) := by decide +kernel
theorem d_Ch_build_45 : decode b_Ch_build 45 = .ok (.aload_n 0, 1) := by decide +kernel
theorem d_Ch_build_46 : decode b_Ch_build 46 = .ok (.getfield 18, 3) := by decide +kernel
theorem d_Ch_build_49 : decode b_Ch_build 49 = .ok (.bipush 10, 2) := by decide +kernel
theorem d_Ch_build_51 : decode b_Ch_build 51 = .ok (.if_icmp .ge 147, 3) := by decide +kernel
theorem d_Ch_build_54 : decode b_Ch_build 54 = .ok (.aload_n 0, 1) := by decide +kernel
theorem d_Ch_build_55 : decode b_Ch_build 55 = .ok (.getfield 11, 3) := by decide +kernel
theorem d_Ch_build_58 : decode b_Ch_build 58 = .ok (.aload_n 0, 1) := by decide +kernel
theorem d_Ch_build_59 : decode b_Ch_build 59 = .ok (.getfield 18, 3) := by decide +kernel
theorem d_Ch_build_62 : decode b_Ch_build 62 = .ok (.iconst 1, 1) := by decide +kernel
theorem d_Ch_build_63 : decode b_Ch_build 63 = .ok (.isub, 1) := by decide +kernel
theorem d_Ch_build_64 : decode b_Ch_build 64 = .ok (.aaload, 1) := by decide +kernel
theorem d_Ch_build_65 : decode b_Ch_build 65 = .ok (.getfield 35, 3) := by decide +kernel
theorem d_Ch_build_68 : decode b_Ch_build 68 = .ok (.ifCond .le 130, 3) := by decide +kernel
theorem d_Ch_build_71 : decode b_Ch_build 71 = .ok (.aload_n 0, 1) := by decide +kernel
theorem d_Ch_build_72 : decode b_Ch_build 72 = .ok (.getfield 11, 3) := by decide +kernel
theorem d_Ch_build_75 : decode b_Ch_build 75 = .ok (.aload_n 0, 1) := by decide +kernel
theorem d_Ch_build_76 : decode b_Ch_build 76 = .ok (.getfield 18, 3) := by decide +kernel
theorem d_Ch_build_79 : decode b_Ch_build 79 = .ok (.iconst 2, 1) := by decide +kernel
theorem d_Ch_build_80 : decode b_Ch_build 80 = .ok (.isub, 1) := by decide +kernel
theorem d_Ch_build_81 : decode b_Ch_build 81 = .ok (.aaload, 1) := by decide +kernel
theorem d_Ch_build_82 : decode b_Ch_build 82 = .ok (.astore_n 2, 1) := by decide +kernel
theorem d_Ch_build_83 : decode b_Ch_build 83 = .ok (.aload_n 0, 1) := by decide +kernel
theorem d_Ch_build_84 : decode b_Ch_build 84 = .ok (.getfield 11, 3) := by decide +kernel
theorem d_Ch_build_87 : decode b_Ch_build 87 = .ok (.aload_n 0, 1) := by decide +kernel
theorem d_Ch_build_88 : decode b_Ch_build 88 = .ok (.getfield 18, 3) := by decide +kernel
theorem d_Ch_build_91 : decode b_Ch_build 91 = .ok (.iconst 1, 1) := by decide +kernel
theorem d_Ch_build_92 : decode b_Ch_build 92 = .ok (.isub, 1) := by decide +kernel
theorem d_Ch_build_93 : decode b_Ch_build 93 = .ok (.aaload, 1) := by decide +kernel
theorem d_Ch_build_94 : decode b_Ch_build 94 = .ok (.astore_n 3, 1) := by decide +kernel
theorem d_Ch_build_95 : decode b_Ch_build 95 = .ok (.aload_n 2, 1) := by decide +kernel
theorem d_Ch_build_96 : decode b_Ch_build 96 = .ok (.getfield 35, 3) := by decide +kernel
theorem d_Ch_build_99 : decode b_Ch_build 99 = .ok (.aload_n 3, 1) := by decide +kernel
theorem d_Ch_build_100 : decode b_Ch_build 100 = .ok (.getfield 35, 3) := by decide +kernel
theorem d_Ch_build_103 : decode b_Ch_build 103 = .ok (.isub, 1) := by decide +kernel
theorem d_Ch_build_104 : decode b_Ch_build 104 = .ok (.istore 4, 2) := by decide +kernel
theorem d_Ch_build_106 : decode b_Ch_build 106 = .ok (.aload_n 0, 1) := by decide +kernel
theorem d_Ch_build_107 : decode b_Ch_build 107 = .ok (.aload_n 2, 1) := by decide +kernel
theorem d_Ch_build_108 : decode b_Ch_build 108 = .ok (.aload_n 3, 1) := by decide +kernel
theorem d_Ch_build_109 : decode b_Ch_build 109 = .ok (.aload_n 1, 1) := by decide +kernel
theorem d_Ch_build_110 : decode b_Ch_build 110 = .ok (.invokevirtual 53, 3) := by decide +kernel
theorem d_Ch_build_113 : decode b_Ch_build 113 = .ok (.iload 4, 2) := by decide +kernel
theorem d_Ch_build_115 : decode b_Ch_build 115 = .ok (.ifCond .lt 13, 3) := by decide +kernel
theorem d_Ch_build_118 : decode b_Ch_build 118 = .ok (.aload_n 1, 1) := by decide +kernel
theorem d_Ch_build_119 : decode b_Ch_build 119 = .ok (.getfield 57, 3) := by decide +kernel
theorem d_Ch_build_122 : decode b_Ch_build 122 = .ok (.getfield 35, 3) := by decide +kernel
theorem d_Ch_build_125 : decode b_Ch_build 125 = .ok (.ifCond .ge 4, 3) := by decide +kernel
theorem d_Ch_build_128 : decode b_Ch_build 128 = .ok (.return_, 1) := by decide +kernel
theorem d_Ch_build_129 : decode b_Ch_build 129 = .ok (.aload_n 0, 1) := by decide +kernel
theorem d_Ch_build_130 : decode b_Ch_build 130 = .ok (.aload_n 0, 1) := by decide +kernel
theorem d_Ch_build_131 : decode b_Ch_build 131 = .ok (.getfield 11, 3) := by decide +kernel
theorem d_Ch_build_134 : decode b_Ch_build 134 = .ok (.aload_n 0, 1) := by decide +kernel
theorem d_Ch_build_135 : decode b_Ch_build 135 = .ok (.getfield 18, 3) := by decide +kernel
theorem d_Ch_build_138 : decode b_Ch_build 138 = .ok (.aaload, 1) := by decide +kernel
theorem d_Ch_build_139 : decode b_Ch_build 139 = .ok (.iload 4, 2) := by decide +kernel
theorem d_Ch_build_141 : decode b_Ch_build 141 = .ok (.aload_n 1, 1) := by decide +kernel
theorem d_Ch_build_142 : decode b_Ch_build 142 = .ok (.invokevirtual 61, 3) := by decide +kernel
theorem d_Ch_build_145 : decode b_Ch_build 145 = .ok (.aload_n 0, 1) := by decide +kernel
theorem d_Ch_build_146 : decode b_Ch_build 146 = .ok (.dup, 1) := by decide +kernel
theorem d_Ch_build_147 : decode b_Ch_build 147 = .ok (.getfield 18, 3) := by decide +kernel
theorem d_Ch_build_150 : decode b_Ch_build 150 = .ok (.iconst 1, 1) := by decide +kernel
theorem d_Ch_build_151 : decode b_Ch_build 151 = .ok (.iadd, 1) := by decide +kernel
theorem d_Ch_build_152 : decode b_Ch_build 152 = .ok (.putfield 18, 3) := by decide +kernel
theorem d_Ch_build_155 : decode b_Ch_build 155 = .ok (.aload_n 1, 1) := by decide +kernel
theorem d_Ch_build_156 : decode b_Ch_build 156 = .ok (.getfield 38, 3) := by decide +kernel
theorem d_Ch_build_159 : decode b_Ch_build 159 = .ok (.aload_n 3, 1) := by decide +kernel
theorem d_Ch_build_160 : decode b_Ch_build 160 = .ok (.getfield 65, 3) := by decide +kernel
theorem d_Ch_build_163 : decode b_Ch_build 163 = .ok (.aload_n 3, 1) := by decide +kernel
theorem d_Ch_build_164 : decode b_Ch_build 164 = .ok (.getfield 35, 3) := by decide +kernel
theorem d_Ch_build_167 : decode b_Ch_build 167 = .ok (.aaload, 1) := by decide +kernel
theorem d_Ch_build_168 : decode b_Ch_build 168 = .ok (.invokevirtual 69, 3) := by decide +kernel
theorem d_Ch_build_171 : decode b_Ch_build 171 = .ok (.aload_n 1, 1) := by decide +kernel
theorem d_Ch_build_172 : decode b_Ch_build 172 = .ok (.getfield 38, 3) := by decide +kernel
theorem d_Ch_build_175 : decode b_Ch_build 175 = .ok (.aload_n 1, 1) := by decide +kernel
theorem d_Ch_build_176 : decode b_Ch_build 176 = .ok (.getfield 38, 3) := by decide +kernel
theorem d_Ch_build_179 : decode b_Ch_build 179 = .ok (.getfield 72, 3) := by decide +kernel
theorem d_Ch_build_182 : decode b_Ch_build 182 = .ok (.invokestatic 75, 3) := by decide +kernel
theorem d_Ch_build_185 : decode b_Ch_build 185 = .ok (.putfield 72, 3) := by decide +kernel
theorem d_Ch_build_188 : decode b_Ch_build 188 = .ok (.aload_n 0, 1) := by decide +kernel
theorem d_Ch_build_189 : decode b_Ch_build 189 = .ok (.iload 4, 2) := by decide +kernel
theorem d_Ch_build_191 : decode b_Ch_build 191 = .ok (.aload_n 1, 1) := by decide +kernel
theorem d_Ch_build_192 : decode b_Ch_build 192 = .ok (.invokevirtual 79, 3) := by decide +kernel
theorem d_Ch_build_195 : decode b_Ch_build 195 = .ok (.goto (-158), 3) := by decide +kernel
theorem d_Ch_build_198 : decode b_Ch_build 198 = .ok (.return_, 1) := by decide +kernel
theorem d_Ch_leaveRest_0 : decode b_Ch_leaveRest 0 = .ok (.aload_n 3, 1) := by decide +kernel
theorem d_Ch_leaveRest_1 : decode b_Ch_leaveRest 1 = .ok (.getfield 57, 3) := by decide +kernel
theorem d_Ch_leaveRest_4 : decode b_Ch_leaveRest 4 = .ok (.astore 4, 2) := by decide +kernel
theorem d_Ch_leaveRest_6 : decode b_Ch_leaveRest 6 = .ok (.aload 4, 2) := by decide +kernel
theorem d_Ch_leaveRest_8 : decode b_Ch_leaveRest 8 = .ok (.aload_n 1, 1) := by decide +kernel
theorem d_Ch_leaveRest_9 : decode b_Ch_leaveRest 9 = .ok (.invokevirtual 28, 3) := by decide +kernel
theorem d_Ch_leaveRest_12 : decode b_Ch_leaveRest 12 = .ok (.aload_n 2, 1) := by decide +kernel
theorem d_Ch_leaveRest_13 : decode b_Ch_leaveRest 13 = .ok (.getfield 65, 3) := by decide +kernel
theorem d_Ch_leaveRest_16 : decode b_Ch_leaveRest 16 = .ok (.aload_n 2, 1) := by decide +kernel
theorem d_Ch_leaveRest_17 : decode b_Ch_leaveRest 17 = .ok (.getfield 35, 3) := by decide +kernel
theorem d_Ch_leaveRest_20 : decode b_Ch_leaveRest 20 = .ok (.aaload, 1) := by decide +kernel
theorem d_Ch_leaveRest_21 : decode b_Ch_leaveRest 21 = .ok (.astore 5, 2) := by decide +kernel
theorem d_Ch_leaveRest_23 : decode b_Ch_leaveRest 23 = .ok (.aload_n 1, 1) := by decide +kernel
theorem d_Ch_leaveRest_24 : decode b_Ch_leaveRest 24 = .ok (.getfield 35, 3) := by decide +kernel
theorem d_Ch_leaveRest_27 : decode b_Ch_leaveRest 27 = .ok (.aload_n 2, 1) := by decide +kernel
theorem d_Ch_leaveRest_28 : decode b_Ch_leaveRest 28 = .ok (.getfield 35, 3) := by decide +kernel
theorem d_Ch_leaveRest_31 : decode b_Ch_leaveRest 31 = .ok (.isub, 1) := by decide +kernel
theorem d_Ch_leaveRest_32 : decode b_Ch_leaveRest 32 = .ok (.istore 6, 2) := by decide +kernel
theorem d_Ch_leaveRest_34 : decode b_Ch_leaveRest 34 = .ok (.iload 6, 2) := by decide +kernel
theorem d_Ch_leaveRest_36 : decode b_Ch_leaveRest 36 = .ok (.ifCond .lt 147, 3) := by decide +kernel
theorem d_Ch_leaveRest_39 : decode b_Ch_leaveRest 39 = .ok (.aload_n 3, 1) := by decide +kernel
theorem d_Ch_leaveRest_40 : decode b_Ch_leaveRest 40 = .ok (.getfield 83, 3) := by decide +kernel
theorem d_Ch_leaveRest_43 : decode b_Ch_leaveRest 43 = .ok (.astore 7, 2) := by decide +kernel
theorem d_Ch_leaveRest_45 : decode b_Ch_leaveRest 45 = .ok (.aload 7, 2) := by decide +kernel
theorem d_Ch_leaveRest_47 : decode b_Ch_leaveRest 47 = .ok (.aload 4, 2) := by decide +kernel
theorem d_Ch_leaveRest_49 : decode b_Ch_leaveRest 49 = .ok (.getfield 65, 3) := by decide +kernel
theorem d_Ch_leaveRest_52 : decode b_Ch_leaveRest 52 = .ok (.iload 6, 2) := by decide +kernel
theorem d_Ch_leaveRest_54 : decode b_Ch_leaveRest 54 = .ok (.aload_n 2, 1) := by decide +kernel
theorem d_Ch_leaveRest_55 : decode b_Ch_leaveRest 55 = .ok (.getfield 35, 3) := by decide +kernel
theorem d_Ch_leaveRest_58 : decode b_Ch_leaveRest 58 = .ok (.iadd, 1) := by decide +kernel
theorem d_Ch_leaveRest_59 : decode b_Ch_leaveRest 59 = .ok (.aaload, 1) := by decide +kernel
theorem d_Ch_leaveRest_60 : decode b_Ch_leaveRest 60 = .ok (.invokevirtual 69, 3) := by decide +kernel
theorem d_Ch_leaveRest_63 : decode b_Ch_leaveRest 63 = .ok (.iload 6, 2) := by decide +kernel
theorem d_Ch_leaveRest_65 : decode b_Ch_leaveRest 65 = .ok (.aload_n 2, 1) := by decide +kernel
theorem d_Ch_leaveRest_66 : decode b_Ch_leaveRest 66 = .ok (.getfield 35, 3) := by decide +kernel
theorem d_Ch_leaveRest_69 : decode b_Ch_leaveRest 69 = .ok (.iadd, 1) := by decide +kernel
theorem d_Ch_leaveRest_70 : decode b_Ch_leaveRest 70 = .ok (.istore 8, 2) := by decide +kernel
theorem d_Ch_leaveRest_72 : decode b_Ch_leaveRest 72 = .ok (.iload 8, 2) := by decide +kernel
theorem d_Ch_leaveRest_74 : decode b_Ch_leaveRest 74 = .ok (.ifCond .lt 103, 3) := by decide +kernel
theorem d_Ch_leaveRest_77 : decode b_Ch_leaveRest 77 = .ok (.aload_n 3, 1) := by decide +kernel
theorem d_Ch_leaveRest_78 : decode b_Ch_leaveRest 78 = .ok (.getfield 86, 3) := by decide +kernel
theorem d_Ch_leaveRest_81 : decode b_Ch_leaveRest 81 = .ok (.aload 4, 2) := by decide +kernel
theorem d_Ch_leaveRest_83 : decode b_Ch_leaveRest 83 = .ok (.getfield 65, 3) := by decide +kernel
theorem d_Ch_leaveRest_86 : decode b_Ch_leaveRest 86 = .ok (.iload 8, 2) := by decide +kernel
theorem d_Ch_leaveRest_88 : decode b_Ch_leaveRest 88 = .ok (.aaload, 1) := by decide +kernel
theorem d_Ch_leaveRest_89 : decode b_Ch_leaveRest 89 = .ok (.aload 5, 2) := by decide +kernel
theorem d_Ch_leaveRest_91 : decode b_Ch_leaveRest 91 = .ok (.invokevirtual 89, 3) := by decide +kernel
theorem d_Ch_leaveRest_94 : decode b_Ch_leaveRest 94 = .ok (.iload 8, 2) := by decide +kernel
theorem d_Ch_leaveRest_96 : decode b_Ch_leaveRest 96 = .ok (.iload 6, 2) := by decide +kernel
theorem d_Ch_leaveRest_98 : decode b_Ch_leaveRest 98 = .ok (.if_icmp .lt 34, 3) := by decide +kernel
theorem d_Ch_leaveRest_101 : decode b_Ch_leaveRest 101 = .ok (.aload_n 3, 1) := by decide +kernel
theorem d_Ch_leaveRest_102 : decode b_Ch_leaveRest 102 = .ok (.getfield 93, 3) := by decide +kernel
theorem d_Ch_leaveRest_105 : decode b_Ch_leaveRest 105 = .ok (.aload 7, 2) := by decide +kernel
theorem d_Ch_leaveRest_107 : decode b_Ch_leaveRest 107 = .ok (.aload_n 2, 1) := by decide +kernel
theorem d_Ch_leaveRest_108 : decode b_Ch_leaveRest 108 = .ok (.getfield 65, 3) := by decide +kernel
theorem d_Ch_leaveRest_111 : decode b_Ch_leaveRest 111 = .ok (.iload 8, 2) := by decide +kernel
theorem d_Ch_leaveRest_113 : decode b_Ch_leaveRest 113 = .ok (.iload 6, 2) := by decide +kernel
theorem d_Ch_leaveRest_115 : decode b_Ch_leaveRest 115 = .ok (.isub, 1) := by decide +kernel
theorem d_Ch_leaveRest_116 : decode b_Ch_leaveRest 116 = .ok (.aaload, 1) := by decide +kernel
theorem d_Ch_leaveRest_117 : decode b_Ch_leaveRest 117 = .ok (.invokevirtual 89, 3) := by decide +kernel
theorem d_Ch_leaveRest_120 : decode b_Ch_leaveRest 120 = .ok (.aload_n 3, 1) := by decide +kernel
theorem d_Ch_leaveRest_121 : decode b_Ch_leaveRest 121 = .ok (.getfield 86, 3) := by decide +kernel
theorem d_Ch_leaveRest_124 : decode b_Ch_leaveRest 124 = .ok (.aload_n 3, 1) := by decide +kernel
theorem d_Ch_leaveRest_125 : decode b_Ch_leaveRest 125 = .ok (.getfield 93, 3) := by decide +kernel
theorem d_Ch_leaveRest_128 : decode b_Ch_leaveRest 128 = .ok (.iconst (-1), 1) := by decide +kernel
theorem d_Ch_leaveRest_129 : decode b_Ch_leaveRest 129 = .ok (.invokevirtual 96, 3) := by decide +kernel
theorem d_Ch_leaveRest_132 : decode b_Ch_leaveRest 132 = .ok (.aload 4, 2) := by decide +kernel
theorem d_Ch_leaveRest_134 : decode b_Ch_leaveRest 134 = .ok (.getfield 65, 3) := by decide +kernel
theorem d_Ch_leaveRest_137 : decode b_Ch_leaveRest 137 = .ok (.iload 8, 2) := by decide +kernel
theorem d_Ch_leaveRest_139 : decode b_Ch_leaveRest 139 = .ok (.aaload, 1) := by decide +kernel
theorem d_Ch_leaveRest_140 : decode b_Ch_leaveRest 140 = .ok (.aload_n 3, 1) := by decide +kernel
theorem d_Ch_leaveRest_141 : decode b_Ch_leaveRest 141 = .ok (.getfield 86, 3) := by decide +kernel
theorem d_Ch_leaveRest_144 : decode b_Ch_leaveRest 144 = .ok (.invokevirtual 69, 3) := by decide +kernel
theorem d_Ch_leaveRest_147 : decode b_Ch_leaveRest 147 = .ok (.aload 4, 2) := by decide +kernel
theorem d_Ch_leaveRest_149 : decode b_Ch_leaveRest 149 = .ok (.getfield 65, 3) := by decide +kernel
theorem d_Ch_leaveRest_152 : decode b_Ch_leaveRest 152 = .ok (.iload 8, 2) := by decide +kernel
theorem d_Ch_leaveRest_154 : decode b_Ch_leaveRest 154 = .ok (.aaload, 1) := by decide +kernel
theorem d_Ch_leaveRest_155 : decode b_Ch_leaveRest 155 = .ok (.aload_n 3, 1) := by decide +kernel
theorem d_Ch_leaveRest_156 : decode b_Ch_leaveRest 156 = .ok (.getfield 86, 3) := by decide +kernel
theorem d_Ch_leaveRest_159 : decode b_Ch_leaveRest 159 = .ok (.getfield 72, 3) := by decide +kernel
theorem d_Ch_leaveRest_162 : decode b_Ch_leaveRest 162 = .ok (.aload 5, 2) := by decide +kernel
theorem d_Ch_leaveRest_164 : decode b_Ch_leaveRest 164 = .ok (.getfield 72, 3) := by decide +kernel
theorem d_Ch_leaveRest_167 : decode b_Ch_leaveRest 167 = .ok (.imul, 1) := by decide +kernel
theorem d_Ch_leaveRest_168 : decode b_Ch_leaveRest 168 = .ok (.putfield 72, 3) := by decide +kernel
theorem d_Ch_leaveRest_171 : decode b_Ch_leaveRest 171 = .ok (.iinc 8 (-1), 3) := by decide +kernel
theorem d_Ch_leaveRest_174 : decode b_Ch_leaveRest 174 = .ok (.goto (-102), 3) := by decide +kernel
theorem d_Ch_leaveRest_177 : decode b_Ch_leaveRest 177 = .ok (.iinc 6 (-1), 3) := by decide +kernel
theorem d_Ch_leaveRest_180 : decode b_Ch_leaveRest 180 = .ok (.goto (-146), 3) := by decide +kernel
theorem d_Ch_leaveRest_183 : decode b_Ch_leaveRest 183 = .ok (.aload 4, 2) := by decide +kernel
theorem d_Ch_leaveRest_185 : decode b_Ch_leaveRest 185 = .ok (.aload_n 2, 1) := by decide +kernel
theorem d_Ch_leaveRest_186 : decode b_Ch_leaveRest 186 = .ok (.getfield 35, 3) := by decide +kernel
theorem d_Ch_leaveRest_189 : decode b_Ch_leaveRest 189 = .ok (.iconst 1, 1) := by decide +kernel
theorem d_Ch_leaveRest_190 : decode b_Ch_leaveRest 190 = .ok (.isub, 1) := by decide +kernel
theorem d_Ch_leaveRest_191 : decode b_Ch_leaveRest 191 = .ok (.invokevirtual 100, 3) := by decide +kernel
theorem d_Ch_leaveRest_194 : decode b_Ch_leaveRest 194 = .ok (.return_, 1) := by decide +kernel
theorem d_Ch_keepRest_0 : decode b_Ch_keepRest 0 = .ok (.aload_n 3, 1) := by decide +kernel
theorem d_Ch_keepRest_1 : decode b_Ch_keepRest 1 = .ok (.getfield 103, 3) := by decide +kernel
theorem d_Ch_keepRest_4 : decode b_Ch_keepRest 4 = .ok (.aload_n 3, 1) := by decide +kernel
theorem d_Ch_keepRest_5 : decode b_Ch_keepRest 5 = .ok (.getfield 38, 3) := by decide +kernel
theorem d_Ch_keepRest_8 : decode b_Ch_keepRest 8 = .ok (.invokevirtual 69, 3) := by decide +kernel
theorem d_Ch_keepRest_11 : decode b_Ch_keepRest 11 = .ok (.iconst 0, 1) := by decide +kernel
theorem d_Ch_keepRest_12 : decode b_Ch_keepRest 12 = .ok (.istore 4, 2) := by decide +kernel
theorem d_Ch_keepRest_14 : decode b_Ch_keepRest 14 = .ok (.iload 4, 2) := by decide +kernel
theorem d_Ch_keepRest_16 : decode b_Ch_keepRest 16 = .ok (.iload_n 2, 1) := by decide +kernel
theorem d_Ch_keepRest_17 : decode b_Ch_keepRest 17 = .ok (.if_icmp .ge 35, 3) := by decide +kernel
theorem d_Ch_keepRest_20 : decode b_Ch_keepRest 20 = .ok (.aload_n 3, 1) := by decide +kernel
theorem d_Ch_keepRest_21 : decode b_Ch_keepRest 21 = .ok (.getfield 106, 3) := by decide +kernel
theorem d_Ch_keepRest_24 : decode b_Ch_keepRest 24 = .ok (.aload_n 3, 1) := by decide +kernel
theorem d_Ch_keepRest_25 : decode b_Ch_keepRest 25 = .ok (.getfield 103, 3) := by decide +kernel
theorem d_Ch_keepRest_28 : decode b_Ch_keepRest 28 = .ok (.aload_n 3, 1) := by decide +kernel
theorem d_Ch_keepRest_29 : decode b_Ch_keepRest 29 = .ok (.getfield 50, 3) := by decide +kernel
theorem d_Ch_keepRest_32 : decode b_Ch_keepRest 32 = .ok (.invokevirtual 89, 3) := by decide +kernel
theorem d_Ch_keepRest_35 : decode b_Ch_keepRest 35 = .ok (.aload_n 3, 1) := by decide +kernel
theorem d_Ch_keepRest_36 : decode b_Ch_keepRest 36 = .ok (.getfield 103, 3) := by decide +kernel
theorem d_Ch_keepRest_39 : decode b_Ch_keepRest 39 = .ok (.aload_n 3, 1) := by decide +kernel
theorem d_Ch_keepRest_40 : decode b_Ch_keepRest 40 = .ok (.getfield 106, 3) := by decide +kernel
theorem d_Ch_keepRest_43 : decode b_Ch_keepRest 43 = .ok (.invokevirtual 69, 3) := by decide +kernel
theorem d_Ch_keepRest_46 : decode b_Ch_keepRest 46 = .ok (.iinc 4 1, 3) := by decide +kernel
theorem d_Ch_keepRest_49 : decode b_Ch_keepRest 49 = .ok (.goto (-35), 3) := by decide +kernel
theorem d_Ch_keepRest_52 : decode b_Ch_keepRest 52 = .ok (.iconst 0, 1) := by decide +kernel
theorem d_Ch_keepRest_53 : decode b_Ch_keepRest 53 = .ok (.istore 4, 2) := by decide +kernel
theorem d_Ch_keepRest_55 : decode b_Ch_keepRest 55 = .ok (.iload 4, 2) := by decide +kernel
theorem d_Ch_keepRest_57 : decode b_Ch_keepRest 57 = .ok (.aload_n 3, 1) := by decide +kernel
theorem d_Ch_keepRest_58 : decode b_Ch_keepRest 58 = .ok (.getfield 57, 3) := by decide +kernel
theorem d_Ch_keepRest_61 : decode b_Ch_keepRest 61 = .ok (.getfield 35, 3) := by decide +kernel
theorem d_Ch_keepRest_64 : decode b_Ch_keepRest 64 = .ok (.if_icmp .gt 78, 3) := by decide +kernel
theorem d_Ch_keepRest_67 : decode b_Ch_keepRest 67 = .ok (.iload 4, 2) := by decide +kernel
theorem d_Ch_keepRest_69 : decode b_Ch_keepRest 69 = .ok (.aload_n 1, 1) := by decide +kernel
theorem d_Ch_keepRest_70 : decode b_Ch_keepRest 70 = .ok (.getfield 65, 3) := by decide +kernel
theorem d_Ch_keepRest_73 : decode b_Ch_keepRest 73 = .ok (.arraylength, 1) := by decide +kernel
theorem d_Ch_keepRest_74 : decode b_Ch_keepRest 74 = .ok (.if_icmp .ge 68, 3) := by decide +kernel
theorem d_Ch_keepRest_77 : decode b_Ch_keepRest 77 = .ok (.aload_n 3, 1) := by decide +kernel
theorem d_Ch_keepRest_78 : decode b_Ch_keepRest 78 = .ok (.getfield 109, 3) := by decide +kernel
theorem d_Ch_keepRest_81 : decode b_Ch_keepRest 81 = .ok (.aload_n 3, 1) := by decide +kernel
theorem d_Ch_keepRest_82 : decode b_Ch_keepRest 82 = .ok (.getfield 57, 3) := by decide +kernel
theorem d_Ch_keepRest_85 : decode b_Ch_keepRest 85 = .ok (.getfield 65, 3) := by decide +kernel
theorem d_Ch_keepRest_88 : decode b_Ch_keepRest 88 = .ok (.iload 4, 2) := by decide +kernel
theorem d_Ch_keepRest_90 : decode b_Ch_keepRest 90 = .ok (.aaload, 1) := by decide +kernel
theorem d_Ch_keepRest_91 : decode b_Ch_keepRest 91 = .ok (.aload_n 3, 1) := by decide +kernel
theorem d_Ch_keepRest_92 : decode b_Ch_keepRest 92 = .ok (.getfield 103, 3) := by decide +kernel
theorem d_Ch_keepRest_95 : decode b_Ch_keepRest 95 = .ok (.invokevirtual 113, 3) := by decide +kernel
theorem d_Ch_keepRest_98 : decode b_Ch_keepRest 98 = .ok (.aload_n 1, 1) := by decide +kernel
theorem d_Ch_keepRest_99 : decode b_Ch_keepRest 99 = .ok (.getfield 65, 3) := by decide +kernel
theorem d_Ch_keepRest_102 : decode b_Ch_keepRest 102 = .ok (.iload 4, 2) := by decide +kernel
theorem d_Ch_keepRest_104 : decode b_Ch_keepRest 104 = .ok (.aaload, 1) := by decide +kernel
theorem d_Ch_keepRest_105 : decode b_Ch_keepRest 105 = .ok (.aload_n 3, 1) := by decide +kernel
theorem d_Ch_keepRest_106 : decode b_Ch_keepRest 106 = .ok (.getfield 109, 3) := by decide +kernel
theorem d_Ch_keepRest_109 : decode b_Ch_keepRest 109 = .ok (.getfield 118, 3) := by decide +kernel
theorem d_Ch_keepRest_112 : decode b_Ch_keepRest 112 = .ok (.invokevirtual 69, 3) := by decide +kernel
theorem d_Ch_keepRest_115 : decode b_Ch_keepRest 115 = .ok (.aload_n 1, 1) := by decide +kernel
theorem d_Ch_keepRest_116 : decode b_Ch_keepRest 116 = .ok (.getfield 65, 3) := by decide +kernel
theorem d_Ch_keepRest_119 : decode b_Ch_keepRest 119 = .ok (.iload 4, 2) := by decide +kernel
theorem d_Ch_keepRest_121 : decode b_Ch_keepRest 121 = .ok (.aaload, 1) := by decide +kernel
theorem d_Ch_keepRest_122 : decode b_Ch_keepRest 122 = .ok (.aload_n 1, 1) := by decide +kernel
theorem d_Ch_keepRest_123 : decode b_Ch_keepRest 123 = .ok (.getfield 65, 3) := by decide +kernel
theorem d_Ch_keepRest_126 : decode b_Ch_keepRest 126 = .ok (.iload 4, 2) := by decide +kernel
theorem d_Ch_keepRest_128 : decode b_Ch_keepRest 128 = .ok (.aaload, 1) := by decide +kernel
theorem d_Ch_keepRest_129 : decode b_Ch_keepRest 129 = .ok (.getfield 72, 3) := by decide +kernel
theorem d_Ch_keepRest_132 : decode b_Ch_keepRest 132 = .ok (.ineg, 1) := by decide +kernel
theorem d_Ch_keepRest_133 : decode b_Ch_keepRest 133 = .ok (.putfield 72, 3) := by decide +kernel
theorem d_Ch_keepRest_136 : decode b_Ch_keepRest 136 = .ok (.iinc 4 1, 3) := by decide +kernel
theorem d_Ch_keepRest_139 : decode b_Ch_keepRest 139 = .ok (.goto (-84), 3) := by decide +kernel
theorem d_Ch_keepRest_142 : decode b_Ch_keepRest 142 = .ok (.aload_n 1, 1) := by decide +kernel
theorem d_Ch_keepRest_143 : decode b_Ch_keepRest 143 = .ok (.aload_n 3, 1) := by decide +kernel
theorem d_Ch_keepRest_144 : decode b_Ch_keepRest 144 = .ok (.getfield 57, 3) := by decide +kernel
theorem d_Ch_keepRest_147 : decode b_Ch_keepRest 147 = .ok (.getfield 35, 3) := by decide +kernel
theorem d_Ch_keepRest_150 : decode b_Ch_keepRest 150 = .ok (.invokevirtual 100, 3) := by decide +kernel
theorem d_Ch_keepRest_153 : decode b_Ch_keepRest 153 = .ok (.return_, 1) := by decide +kernel
theorem d_Ch_raiseHeight_0 : decode b_Ch_raiseHeight 0 = .ok (.iload_n 1, 1) := by decide +kernel
theorem d_Ch_raiseHeight_1 : decode b_Ch_raiseHeight 1 = .ok (.ifCond .ne 4, 3) := by decide +kernel
theorem d_Ch_raiseHeight_4 : decode b_Ch_raiseHeight 4 = .ok (.return_, 1) := by decide +kernel
theorem d_Ch_raiseHeight_5 : decode b_Ch_raiseHeight 5 = .ok (.aload_n 2, 1) := by decide +kernel
theorem d_Ch_raiseHeight_6 : decode b_Ch_raiseHeight 6 = .ok (.getfield 103, 3) := by decide +kernel
theorem d_Ch_raiseHeight_9 : decode b_Ch_raiseHeight 9 = .ok (.aload_n 2, 1) := by decide +kernel
theorem d_Ch_raiseHeight_10 : decode b_Ch_raiseHeight 10 = .ok (.getfield 38, 3) := by decide +kernel
theorem d_Ch_raiseHeight_13 : decode b_Ch_raiseHeight 13 = .ok (.invokevirtual 69, 3) := by decide +kernel
theorem d_Ch_raiseHeight_16 : decode b_Ch_raiseHeight 16 = .ok (.iconst 1, 1) := by decide +kernel
theorem d_Ch_raiseHeight_17 : decode b_Ch_raiseHeight 17 = .ok (.istore_n 3, 1) := by decide +kernel
theorem d_Ch_raiseHeight_18 : decode b_Ch_raiseHeight 18 = .ok (.iload_n 3, 1) := by decide +kernel
theorem d_Ch_raiseHeight_19 : decode b_Ch_raiseHeight 19 = .ok (.iload_n 1, 1) := by decide +kernel
theorem d_Ch_raiseHeight_20 : decode b_Ch_raiseHeight 20 = .ok (.if_icmp .ge 53, 3) := by decide +kernel
theorem d_Ch_raiseHeight_23 : decode b_Ch_raiseHeight 23 = .ok (.aload_n 2, 1) := by decide +kernel
theorem d_Ch_raiseHeight_24 : decode b_Ch_raiseHeight 24 = .ok (.getfield 106, 3) := by decide +kernel
theorem d_Ch_raiseHeight_27 : decode b_Ch_raiseHeight 27 = .ok (.aload_n 2, 1) := by decide +kernel
theorem d_Ch_raiseHeight_28 : decode b_Ch_raiseHeight 28 = .ok (.getfield 103, 3) := by decide +kernel
theorem d_Ch_raiseHeight_31 : decode b_Ch_raiseHeight 31 = .ok (.aload_n 2, 1) := by decide +kernel
theorem d_Ch_raiseHeight_32 : decode b_Ch_raiseHeight 32 = .ok (.getfield 38, 3) := by decide +kernel
theorem d_Ch_raiseHeight_35 : decode b_Ch_raiseHeight 35 = .ok (.invokevirtual 89, 3) := by decide +kernel
theorem d_Ch_raiseHeight_38 : decode b_Ch_raiseHeight 38 = .ok (.aload_n 2, 1) := by decide +kernel
theorem d_Ch_raiseHeight_39 : decode b_Ch_raiseHeight 39 = .ok (.getfield 109, 3) := by decide +kernel
theorem d_Ch_raiseHeight_42 : decode b_Ch_raiseHeight 42 = .ok (.aload_n 2, 1) := by decide +kernel
theorem d_Ch_raiseHeight_43 : decode b_Ch_raiseHeight 43 = .ok (.getfield 106, 3) := by decide +kernel
theorem d_Ch_raiseHeight_46 : decode b_Ch_raiseHeight 46 = .ok (.aload_n 2, 1) := by decide +kernel
theorem d_Ch_raiseHeight_47 : decode b_Ch_raiseHeight 47 = .ok (.getfield 50, 3) := by decide +kernel
theorem d_Ch_raiseHeight_50 : decode b_Ch_raiseHeight 50 = .ok (.invokevirtual 113, 3) := by decide +kernel
theorem d_Ch_raiseHeight_53 : decode b_Ch_raiseHeight 53 = .ok (.aload_n 2, 1) := by decide +kernel
theorem d_Ch_raiseHeight_54 : decode b_Ch_raiseHeight 54 = .ok (.getfield 103, 3) := by decide +kernel
theorem d_Ch_raiseHeight_57 : decode b_Ch_raiseHeight 57 = .ok (.aload_n 2, 1) := by decide +kernel
theorem d_Ch_raiseHeight_58 : decode b_Ch_raiseHeight 58 = .ok (.getfield 109, 3) := by decide +kernel
theorem d_Ch_raiseHeight_61 : decode b_Ch_raiseHeight 61 = .ok (.getfield 118, 3) := by decide +kernel
theorem d_Ch_raiseHeight_64 : decode b_Ch_raiseHeight 64 = .ok (.invokevirtual 69, 3) := by decide +kernel
theorem d_Ch_raiseHeight_67 : decode b_Ch_raiseHeight 67 = .ok (.iinc 3 1, 3) := by decide +kernel
theorem d_Ch_raiseHeight_70 : decode b_Ch_raiseHeight 70 = .ok (.goto (-52), 3) := by decide +kernel
theorem d_Ch_raiseHeight_73 : decode b_Ch_raiseHeight 73 = .ok (.aload_n 2, 1) := by decide +kernel
theorem d_Ch_raiseHeight_74 : decode b_Ch_raiseHeight 74 = .ok (.getfield 50, 3) := by decide +kernel
theorem d_Ch_raiseHeight_77 : decode b_Ch_raiseHeight 77 = .ok (.aload_n 2, 1) := by decide +kernel
theorem d_Ch_raiseHeight_78 : decode b_Ch_raiseHeight 78 = .ok (.getfield 103, 3) := by decide +kernel
theorem d_Ch_raiseHeight_81 : decode b_Ch_raiseHeight 81 = .ok (.invokevirtual 69, 3) := by decide +kernel
theorem d_Ch_raiseHeight_84 : decode b_Ch_raiseHeight 84 = .ok (.return_, 1) := by decide +kernel
theorem d_Ch_changesAt_0 : decode b_Ch_changesAt 0 = .ok (.iconst 0, 1) := by decide +kernel
theorem d_Ch_changesAt_1 : decode b_Ch_changesAt 1 = .ok (.istore_n 3, 1) := by decide +kernel
theorem d_Ch_changesAt_2 : decode b_Ch_changesAt 2 = .ok (.iconst 0, 1) := by decide +kernel
theorem d_Ch_changesAt_3 : decode b_Ch_changesAt 3 = .ok (.istore 4, 2) := by decide +kernel
theorem d_Ch_changesAt_5 : decode b_Ch_changesAt 5 = .ok (.iconst 0, 1) := by decide +kernel
theorem d_Ch_changesAt_6 : decode b_Ch_changesAt 6 = .ok (.istore 5, 2) := by decide +kernel
theorem d_Ch_changesAt_8 : decode b_Ch_changesAt 8 = .ok (.iload 5, 2) := by decide +kernel
theorem d_Ch_changesAt_10 : decode b_Ch_changesAt 10 = .ok (.aload_n 0, 1) := by decide +kernel
theorem d_Ch_changesAt_11 : decode b_Ch_changesAt 11 = .ok (.getfield 18, 3) := by decide +kernel
theorem d_Ch_changesAt_14 : decode b_Ch_changesAt 14 = .ok (.if_icmp .ge 62, 3) := by decide +kernel
theorem d_Ch_changesAt_17 : decode b_Ch_changesAt 17 = .ok (.aload_n 2, 1) := by decide +kernel
theorem d_Ch_changesAt_18 : decode b_Ch_changesAt 18 = .ok (.aload_n 0, 1) := by decide +kernel
theorem d_Ch_changesAt_19 : decode b_Ch_changesAt 19 = .ok (.getfield 11, 3) := by decide +kernel
theorem d_Ch_changesAt_22 : decode b_Ch_changesAt 22 = .ok (.iload 5, 2) := by decide +kernel
theorem d_Ch_changesAt_24 : decode b_Ch_changesAt 24 = .ok (.aaload, 1) := by decide +kernel
theorem d_Ch_changesAt_25 : decode b_Ch_changesAt 25 = .ok (.aload_n 1, 1) := by decide +kernel
theorem d_Ch_changesAt_26 : decode b_Ch_changesAt 26 = .ok (.invokevirtual 121, 3) := by decide +kernel
theorem d_Ch_changesAt_29 : decode b_Ch_changesAt 29 = .ok (.getfield 72, 3) := by decide +kernel
theorem d_Ch_changesAt_32 : decode b_Ch_changesAt 32 = .ok (.istore 6, 2) := by decide +kernel
theorem d_Ch_changesAt_34 : decode b_Ch_changesAt 34 = .ok (.iload 5, 2) := by decide +kernel
theorem d_Ch_changesAt_36 : decode b_Ch_changesAt 36 = .ok (.ifCond .ne 9, 3) := by decide +kernel
theorem d_Ch_changesAt_39 : decode b_Ch_changesAt 39 = .ok (.aload_n 0, 1) := by decide +kernel
theorem d_Ch_changesAt_40 : decode b_Ch_changesAt 40 = .ok (.iload 6, 2) := by decide +kernel
theorem d_Ch_changesAt_42 : decode b_Ch_changesAt 42 = .ok (.putfield 125, 3) := by decide +kernel
theorem d_Ch_changesAt_45 : decode b_Ch_changesAt 45 = .ok (.iload 6, 2) := by decide +kernel
theorem d_Ch_changesAt_47 : decode b_Ch_changesAt 47 = .ok (.ifCond .eq 23, 3) := by decide +kernel
theorem d_Ch_changesAt_50 : decode b_Ch_changesAt 50 = .ok (.iload_n 3, 1) := by decide +kernel
theorem d_Ch_changesAt_51 : decode b_Ch_changesAt 51 = .ok (.iload 4, 2) := by decide +kernel
theorem d_Ch_changesAt_53 : decode b_Ch_changesAt 53 = .ok (.iload 6, 2) := by decide +kernel
theorem d_Ch_changesAt_55 : decode b_Ch_changesAt 55 = .ok (.ineg, 1) := by decide +kernel
theorem d_Ch_changesAt_56 : decode b_Ch_changesAt 56 = .ok (.if_icmp .ne 7, 3) := by decide +kernel
theorem d_Ch_changesAt_59 : decode b_Ch_changesAt 59 = .ok (.iconst 1, 1) := by decide +kernel
theorem d_Ch_changesAt_60 : decode b_Ch_changesAt 60 = .ok (.goto 4, 3) := by decide +kernel
theorem d_Ch_changesAt_63 : decode b_Ch_changesAt 63 = .ok (.iconst 0, 1) := by decide +kernel
theorem d_Ch_changesAt_64 : decode b_Ch_changesAt 64 = .ok (.iadd, 1) := by decide +kernel
theorem d_Ch_changesAt_65 : decode b_Ch_changesAt 65 = .ok (.istore_n 3, 1) := by decide +kernel
theorem d_Ch_changesAt_66 : decode b_Ch_changesAt 66 = .ok (.iload 6, 2) := by decide +kernel
theorem d_Ch_changesAt_68 : decode b_Ch_changesAt 68 = .ok (.istore 4, 2) := by decide +kernel
theorem d_Ch_changesAt_70 : decode b_Ch_changesAt 70 = .ok (.iinc 5 1, 3) := by decide +kernel
theorem d_Ch_changesAt_73 : decode b_Ch_changesAt 73 = .ok (.goto (-65), 3) := by decide +kernel
theorem d_Ch_changesAt_76 : decode b_Ch_changesAt 76 = .ok (.iload_n 3, 1) := by decide +kernel
theorem d_Ch_changesAt_77 : decode b_Ch_changesAt 77 = .ok (.ireturn, 1) := by decide +kernel
theorem d_Ch_turnedChangesAt_0 : decode b_Ch_turnedChangesAt 0 = .ok (.iconst 0, 1) := by decide +kernel
theorem d_Ch_turnedChangesAt_1 : decode b_Ch_turnedChangesAt 1 = .ok (.istore_n 3, 1) := by decide +kernel
theorem d_Ch_turnedChangesAt_2 : decode b_Ch_turnedChangesAt 2 = .ok (.iconst 0, 1) := by decide +kernel
theorem d_Ch_turnedChangesAt_3 : decode b_Ch_turnedChangesAt 3 = .ok (.istore 4, 2) := by decide +kernel
theorem d_Ch_turnedChangesAt_5 : decode b_Ch_turnedChangesAt 5 = .ok (.iconst 1, 1) := by decide +kernel
theorem d_Ch_turnedChangesAt_6 : decode b_Ch_turnedChangesAt 6 = .ok (.istore 5, 2) := by decide +kernel
theorem d_Ch_turnedChangesAt_8 : decode b_Ch_turnedChangesAt 8 = .ok (.iconst 1, 1) := by decide +kernel
theorem d_Ch_turnedChangesAt_9 : decode b_Ch_turnedChangesAt 9 = .ok (.istore 6, 2) := by decide +kernel
theorem d_Ch_turnedChangesAt_11 : decode b_Ch_turnedChangesAt 11 = .ok (.iload 6, 2) := by decide +kernel
theorem d_Ch_turnedChangesAt_13 : decode b_Ch_turnedChangesAt 13 = .ok (.aload_n 0, 1) := by decide +kernel
theorem d_Ch_turnedChangesAt_14 : decode b_Ch_turnedChangesAt 14 = .ok (.getfield 18, 3) := by decide +kernel
theorem d_Ch_turnedChangesAt_17 : decode b_Ch_turnedChangesAt 17 = .ok (.if_icmp .ge 59, 3) := by decide +kernel
theorem d_Ch_turnedChangesAt_20 : decode b_Ch_turnedChangesAt 20 = .ok (.aload_n 2, 1) := by decide +kernel
theorem d_Ch_turnedChangesAt_21 : decode b_Ch_turnedChangesAt 21 = .ok (.aload_n 0, 1) := by decide +kernel
theorem d_Ch_turnedChangesAt_22 : decode b_Ch_turnedChangesAt 22 = .ok (.getfield 11, 3) := by decide +kernel
theorem d_Ch_turnedChangesAt_25 : decode b_Ch_turnedChangesAt 25 = .ok (.iload 6, 2) := by decide +kernel
theorem d_Ch_turnedChangesAt_27 : decode b_Ch_turnedChangesAt 27 = .ok (.aaload, 1) := by decide +kernel
theorem d_Ch_turnedChangesAt_28 : decode b_Ch_turnedChangesAt 28 = .ok (.aload_n 1, 1) := by decide +kernel
theorem d_Ch_turnedChangesAt_29 : decode b_Ch_turnedChangesAt 29 = .ok (.invokevirtual 121, 3) := by decide +kernel
theorem d_Ch_turnedChangesAt_32 : decode b_Ch_turnedChangesAt 32 = .ok (.getfield 72, 3) := by decide +kernel
theorem d_Ch_turnedChangesAt_35 : decode b_Ch_turnedChangesAt 35 = .ok (.iload 5, 2) := by decide +kernel
theorem d_Ch_turnedChangesAt_37 : decode b_Ch_turnedChangesAt 37 = .ok (.imul, 1) := by decide +kernel
theorem d_Ch_turnedChangesAt_38 : decode b_Ch_turnedChangesAt 38 = .ok (.istore 7, 2) := by decide +kernel
theorem d_Ch_turnedChangesAt_40 : decode b_Ch_turnedChangesAt 40 = .ok (.iload 7, 2) := by decide +kernel
theorem d_Ch_turnedChangesAt_42 : decode b_Ch_turnedChangesAt 42 = .ok (.ifCond .eq 23, 3) := by decide +kernel
theorem d_Ch_turnedChangesAt_45 : decode b_Ch_turnedChangesAt 45 = .ok (.iload_n 3, 1) := by decide +kernel
theorem d_Ch_turnedChangesAt_46 : decode b_Ch_turnedChangesAt 46 = .ok (.iload 4, 2) := by decide +kernel
theorem d_Ch_turnedChangesAt_48 : decode b_Ch_turnedChangesAt 48 = .ok (.iload 7, 2) := by decide +kernel
theorem d_Ch_turnedChangesAt_50 : decode b_Ch_turnedChangesAt 50 = .ok (.ineg, 1) := by decide +kernel
theorem d_Ch_turnedChangesAt_51 : decode b_Ch_turnedChangesAt 51 = .ok (.if_icmp .ne 7, 3) := by decide +kernel
theorem d_Ch_turnedChangesAt_54 : decode b_Ch_turnedChangesAt 54 = .ok (.iconst 1, 1) := by decide +kernel
theorem d_Ch_turnedChangesAt_55 : decode b_Ch_turnedChangesAt 55 = .ok (.goto 4, 3) := by decide +kernel
theorem d_Ch_turnedChangesAt_58 : decode b_Ch_turnedChangesAt 58 = .ok (.iconst 0, 1) := by decide +kernel
theorem d_Ch_turnedChangesAt_59 : decode b_Ch_turnedChangesAt 59 = .ok (.iadd, 1) := by decide +kernel
theorem d_Ch_turnedChangesAt_60 : decode b_Ch_turnedChangesAt 60 = .ok (.istore_n 3, 1) := by decide +kernel
theorem d_Ch_turnedChangesAt_61 : decode b_Ch_turnedChangesAt 61 = .ok (.iload 7, 2) := by decide +kernel
theorem d_Ch_turnedChangesAt_63 : decode b_Ch_turnedChangesAt 63 = .ok (.istore 4, 2) := by decide +kernel
theorem d_Ch_turnedChangesAt_65 : decode b_Ch_turnedChangesAt 65 = .ok (.iload 5, 2) := by decide +kernel
theorem d_Ch_turnedChangesAt_67 : decode b_Ch_turnedChangesAt 67 = .ok (.ineg, 1) := by decide +kernel
theorem d_Ch_turnedChangesAt_68 : decode b_Ch_turnedChangesAt 68 = .ok (.istore 5, 2) := by decide +kernel
theorem d_Ch_turnedChangesAt_70 : decode b_Ch_turnedChangesAt 70 = .ok (.iinc 6 1, 3) := by decide +kernel
theorem d_Ch_turnedChangesAt_73 : decode b_Ch_turnedChangesAt 73 = .ok (.goto (-62), 3) := by decide +kernel
theorem d_Ch_turnedChangesAt_76 : decode b_Ch_turnedChangesAt 76 = .ok (.iload_n 3, 1) := by decide +kernel
theorem d_Ch_turnedChangesAt_77 : decode b_Ch_turnedChangesAt 77 = .ok (.ireturn, 1) := by decide +kernel
theorem d_Ch_changesFar_0 : decode b_Ch_changesFar 0 = .ok (.iconst 0, 1) := by decide +kernel
theorem d_Ch_changesFar_1 : decode b_Ch_changesFar 1 = .ok (.istore_n 2, 1) := by decide +kernel
theorem d_Ch_changesFar_2 : decode b_Ch_changesFar 2 = .ok (.iconst 0, 1) := by decide +kernel
theorem d_Ch_changesFar_3 : decode b_Ch_changesFar 3 = .ok (.istore_n 3, 1) := by decide +kernel
theorem d_Ch_changesFar_4 : decode b_Ch_changesFar 4 = .ok (.iconst 0, 1) := by decide +kernel
theorem d_Ch_changesFar_5 : decode b_Ch_changesFar 5 = .ok (.istore 4, 2) := by decide +kernel
theorem d_Ch_changesFar_7 : decode b_Ch_changesFar 7 = .ok (.iload 4, 2) := by decide +kernel
theorem d_Ch_changesFar_9 : decode b_Ch_changesFar 9 = .ok (.aload_n 0, 1) := by decide +kernel
theorem d_Ch_changesFar_10 : decode b_Ch_changesFar 10 = .ok (.getfield 18, 3) := by decide +kernel
theorem d_Ch_changesFar_13 : decode b_Ch_changesFar 13 = .ok (.if_icmp .ge 68, 3) := by decide +kernel
theorem d_Ch_changesFar_16 : decode b_Ch_changesFar 16 = .ok (.aload_n 0, 1) := by decide +kernel
theorem d_Ch_changesFar_17 : decode b_Ch_changesFar 17 = .ok (.getfield 11, 3) := by decide +kernel
theorem d_Ch_changesFar_20 : decode b_Ch_changesFar 20 = .ok (.iload 4, 2) := by decide +kernel
theorem d_Ch_changesFar_22 : decode b_Ch_changesFar 22 = .ok (.aaload, 1) := by decide +kernel
theorem d_Ch_changesFar_23 : decode b_Ch_changesFar 23 = .ok (.invokevirtual 128, 3) := by decide +kernel
theorem d_Ch_changesFar_26 : decode b_Ch_changesFar 26 = .ok (.istore 5, 2) := by decide +kernel
theorem d_Ch_changesFar_28 : decode b_Ch_changesFar 28 = .ok (.iload_n 1, 1) := by decide +kernel
theorem d_Ch_changesFar_29 : decode b_Ch_changesFar 29 = .ok (.ifCond .ge 23, 3) := by decide +kernel
theorem d_Ch_changesFar_32 : decode b_Ch_changesFar 32 = .ok (.aload_n 0, 1) := by decide +kernel
theorem d_Ch_changesFar_33 : decode b_Ch_changesFar 33 = .ok (.getfield 11, 3) := by decide +kernel
theorem d_Ch_changesFar_36 : decode b_Ch_changesFar 36 = .ok (.iload 4, 2) := by decide +kernel
theorem d_Ch_changesFar_38 : decode b_Ch_changesFar 38 = .ok (.aaload, 1) := by decide +kernel
theorem d_Ch_changesFar_39 : decode b_Ch_changesFar 39 = .ok (.getfield 35, 3) := by decide +kernel
theorem d_Ch_changesFar_42 : decode b_Ch_changesFar 42 = .ok (.iconst 2, 1) := by decide +kernel
theorem d_Ch_changesFar_43 : decode b_Ch_changesFar 43 = .ok (.irem, 1) := by decide +kernel
theorem d_Ch_changesFar_44 : decode b_Ch_changesFar 44 = .ok (.ifCond .eq 8, 3) := by decide +kernel
theorem d_Ch_changesFar_47 : decode b_Ch_changesFar 47 = .ok (.iload 5, 2) := by decide +kernel
theorem d_Ch_changesFar_49 : decode b_Ch_changesFar 49 = .ok (.ineg, 1) := by decide +kernel
theorem d_Ch_changesFar_50 : decode b_Ch_changesFar 50 = .ok (.istore 5, 2) := by decide +kernel
theorem d_Ch_changesFar_52 : decode b_Ch_changesFar 52 = .ok (.iload 5, 2) := by decide +kernel
theorem d_Ch_changesFar_54 : decode b_Ch_changesFar 54 = .ok (.ifCond .eq 21, 3) := by decide +kernel
theorem d_Ch_changesFar_57 : decode b_Ch_changesFar 57 = .ok (.iload_n 2, 1) := by decide +kernel
theorem d_Ch_changesFar_58 : decode b_Ch_changesFar 58 = .ok (.iload_n 3, 1) := by decide +kernel
theorem d_Ch_changesFar_59 : decode b_Ch_changesFar 59 = .ok (.iload 5, 2) := by decide +kernel
theorem d_Ch_changesFar_61 : decode b_Ch_changesFar 61 = .ok (.ineg, 1) := by decide +kernel
theorem d_Ch_changesFar_62 : decode b_Ch_changesFar 62 = .ok (.if_icmp .ne 7, 3) := by decide +kernel
theorem d_Ch_changesFar_65 : decode b_Ch_changesFar 65 = .ok (.iconst 1, 1) := by decide +kernel
theorem d_Ch_changesFar_66 : decode b_Ch_changesFar 66 = .ok (.goto 4, 3) := by decide +kernel
theorem d_Ch_changesFar_69 : decode b_Ch_changesFar 69 = .ok (.iconst 0, 1) := by decide +kernel
theorem d_Ch_changesFar_70 : decode b_Ch_changesFar 70 = .ok (.iadd, 1) := by decide +kernel
theorem d_Ch_changesFar_71 : decode b_Ch_changesFar 71 = .ok (.istore_n 2, 1) := by decide +kernel
theorem d_Ch_changesFar_72 : decode b_Ch_changesFar 72 = .ok (.iload 5, 2) := by decide +kernel
theorem d_Ch_changesFar_74 : decode b_Ch_changesFar 74 = .ok (.istore_n 3, 1) := by decide +kernel
theorem d_Ch_changesFar_75 : decode b_Ch_changesFar 75 = .ok (.iinc 4 1, 3) := by decide +kernel
theorem d_Ch_changesFar_78 : decode b_Ch_changesFar 78 = .ok (.goto (-71), 3) := by decide +kernel
theorem d_Ch_changesFar_81 : decode b_Ch_changesFar 81 = .ok (.iload_n 2, 1) := by decide +kernel
theorem d_Ch_changesFar_82 : decode b_Ch_changesFar 82 = .ok (.ireturn, 1) := by decide +kernel
theorem d_Ch_realRoots_0 : decode b_Ch_realRoots 0 = .ok (.aload_n 0, 1) := by decide +kernel
theorem d_Ch_realRoots_1 : decode b_Ch_realRoots 1 = .ok (.iconst (-1), 1) := by decide +kernel
theorem d_Ch_realRoots_2 : decode b_Ch_realRoots 2 = .ok (.invokevirtual 132, 3) := by decide +kernel
theorem d_Ch_realRoots_5 : decode b_Ch_realRoots 5 = .ok (.aload_n 0, 1) := by decide +kernel
theorem d_Ch_realRoots_6 : decode b_Ch_realRoots 6 = .ok (.iconst 1, 1) := by decide +kernel
theorem d_Ch_realRoots_7 : decode b_Ch_realRoots 7 = .ok (.invokevirtual 132, 3) := by decide +kernel
theorem d_Ch_realRoots_10 : decode b_Ch_realRoots 10 = .ok (.isub, 1) := by decide +kernel
theorem d_Ch_realRoots_11 : decode b_Ch_realRoots 11 = .ok (.ireturn, 1) := by decide +kernel
theorem d_Ro_toLow_0 : decode b_Ro_toLow 0 = .ok (.aload_n 1, 1) := by decide +kernel
theorem d_Ro_toLow_1 : decode b_Ro_toLow 1 = .ok (.aload_n 0, 1) := by decide +kernel
theorem d_Ro_toLow_2 : decode b_Ro_toLow 2 = .ok (.getfield 12, 3) := by decide +kernel
theorem d_Ro_toLow_5 : decode b_Ro_toLow 5 = .ok (.aload_n 0, 1) := by decide +kernel
theorem d_Ro_toLow_6 : decode b_Ro_toLow 6 = .ok (.getfield 18, 3) := by decide +kernel
theorem d_Ro_toLow_9 : decode b_Ro_toLow 9 = .ok (.invokevirtual 22, 3) := by decide +kernel
theorem d_Ro_toLow_12 : decode b_Ro_toLow 12 = .ok (.return_, 1) := by decide +kernel
theorem d_Ro_toHigh_0 : decode b_Ro_toHigh 0 = .ok (.aload_n 0, 1) := by decide +kernel
theorem d_Ro_toHigh_1 : decode b_Ro_toHigh 1 = .ok (.getfield 12, 3) := by decide +kernel
theorem d_Ro_toHigh_4 : decode b_Ro_toHigh 4 = .ok (.iconst 1, 1) := by decide +kernel
theorem d_Ro_toHigh_5 : decode b_Ro_toHigh 5 = .ok (.invokevirtual 28, 3) := by decide +kernel
theorem d_Ro_toHigh_8 : decode b_Ro_toHigh 8 = .ok (.aload_n 1, 1) := by decide +kernel
theorem d_Ro_toHigh_9 : decode b_Ro_toHigh 9 = .ok (.aload_n 0, 1) := by decide +kernel
theorem d_Ro_toHigh_10 : decode b_Ro_toHigh 10 = .ok (.getfield 12, 3) := by decide +kernel
theorem d_Ro_toHigh_13 : decode b_Ro_toHigh 13 = .ok (.aload_n 0, 1) := by decide +kernel
theorem d_Ro_toHigh_14 : decode b_Ro_toHigh 14 = .ok (.getfield 18, 3) := by decide +kernel
theorem d_Ro_toHigh_17 : decode b_Ro_toHigh 17 = .ok (.invokevirtual 22, 3) := by decide +kernel
theorem d_Ro_toHigh_20 : decode b_Ro_toHigh 20 = .ok (.aload_n 0, 1) := by decide +kernel
theorem d_Ro_toHigh_21 : decode b_Ro_toHigh 21 = .ok (.getfield 12, 3) := by decide +kernel
theorem d_Ro_toHigh_24 : decode b_Ro_toHigh 24 = .ok (.iconst (-1), 1) := by decide +kernel
theorem d_Ro_toHigh_25 : decode b_Ro_toHigh 25 = .ok (.invokevirtual 28, 3) := by decide +kernel
theorem d_Ro_toHigh_28 : decode b_Ro_toHigh 28 = .ok (.return_, 1) := by decide +kernel
theorem d_Ro_toMiddle_0 : decode b_Ro_toMiddle 0 = .ok (.aload_n 0, 1) := by decide +kernel
theorem d_Ro_toMiddle_1 : decode b_Ro_toMiddle 1 = .ok (.getfield 12, 3) := by decide +kernel
theorem d_Ro_toMiddle_4 : decode b_Ro_toMiddle 4 = .ok (.iconst 1, 1) := by decide +kernel
theorem d_Ro_toMiddle_5 : decode b_Ro_toMiddle 5 = .ok (.invokevirtual 32, 3) := by decide +kernel
theorem d_Ro_toMiddle_8 : decode b_Ro_toMiddle 8 = .ok (.aload_n 0, 1) := by decide +kernel
theorem d_Ro_toMiddle_9 : decode b_Ro_toMiddle 9 = .ok (.getfield 12, 3) := by decide +kernel
theorem d_Ro_toMiddle_12 : decode b_Ro_toMiddle 12 = .ok (.iconst 1, 1) := by decide +kernel
theorem d_Ro_toMiddle_13 : decode b_Ro_toMiddle 13 = .ok (.invokevirtual 28, 3) := by decide +kernel
theorem d_Ro_toMiddle_16 : decode b_Ro_toMiddle 16 = .ok (.aload_n 1, 1) := by decide +kernel
theorem d_Ro_toMiddle_17 : decode b_Ro_toMiddle 17 = .ok (.aload_n 0, 1) := by decide +kernel
theorem d_Ro_toMiddle_18 : decode b_Ro_toMiddle 18 = .ok (.getfield 12, 3) := by decide +kernel
theorem d_Ro_toMiddle_21 : decode b_Ro_toMiddle 21 = .ok (.aload_n 0, 1) := by decide +kernel
theorem d_Ro_toMiddle_22 : decode b_Ro_toMiddle 22 = .ok (.getfield 18, 3) := by decide +kernel
theorem d_Ro_toMiddle_25 : decode b_Ro_toMiddle 25 = .ok (.iconst 1, 1) := by decide +kernel
theorem d_Ro_toMiddle_26 : decode b_Ro_toMiddle 26 = .ok (.iadd, 1) := by decide +kernel
theorem d_Ro_toMiddle_27 : decode b_Ro_toMiddle 27 = .ok (.invokevirtual 22, 3) := by decide +kernel
theorem d_Ro_toMiddle_30 : decode b_Ro_toMiddle 30 = .ok (.aload_n 0, 1) := by decide +kernel
theorem d_Ro_toMiddle_31 : decode b_Ro_toMiddle 31 = .ok (.getfield 12, 3) := by decide +kernel
theorem d_Ro_toMiddle_34 : decode b_Ro_toMiddle 34 = .ok (.iconst (-1), 1) := by decide +kernel
theorem d_Ro_toMiddle_35 : decode b_Ro_toMiddle 35 = .ok (.invokevirtual 28, 3) := by decide +kernel
theorem d_Ro_toMiddle_38 : decode b_Ro_toMiddle 38 = .ok (.aload_n 0, 1) := by decide +kernel
theorem d_Ro_toMiddle_39 : decode b_Ro_toMiddle 39 = .ok (.getfield 12, 3) := by decide +kernel
theorem d_Ro_toMiddle_42 : decode b_Ro_toMiddle 42 = .ok (.iconst 1, 1) := by decide +kernel
theorem d_Ro_toMiddle_43 : decode b_Ro_toMiddle 43 = .ok (.invokevirtual 35, 3) := by decide +kernel
theorem d_Ro_toMiddle_46 : decode b_Ro_toMiddle 46 = .ok (.pop, 1) := by decide +kernel
theorem d_Ro_toMiddle_47 : decode b_Ro_toMiddle 47 = .ok (.return_, 1) := by decide +kernel
theorem d_Ro_halve_0 : decode b_Ro_halve 0 = .ok (.aload_n 0, 1) := by decide +kernel
theorem d_Ro_halve_1 : decode b_Ro_halve 1 = .ok (.getfield 12, 3) := by decide +kernel
theorem d_Ro_halve_4 : decode b_Ro_halve 4 = .ok (.iconst 1, 1) := by decide +kernel
theorem d_Ro_halve_5 : decode b_Ro_halve 5 = .ok (.invokevirtual 32, 3) := by decide +kernel
theorem d_Ro_halve_8 : decode b_Ro_halve 8 = .ok (.iload_n 1, 1) := by decide +kernel
theorem d_Ro_halve_9 : decode b_Ro_halve 9 = .ok (.ifCond .eq 11, 3) := by decide +kernel
theorem d_Ro_halve_12 : decode b_Ro_halve 12 = .ok (.aload_n 0, 1) := by decide +kernel
theorem d_Ro_halve_13 : decode b_Ro_halve 13 = .ok (.getfield 12, 3) := by decide +kernel
theorem d_Ro_halve_16 : decode b_Ro_halve 16 = .ok (.iconst 1, 1) := by decide +kernel
theorem d_Ro_halve_17 : decode b_Ro_halve 17 = .ok (.invokevirtual 28, 3) := by decide +kernel
theorem d_Ro_halve_20 : decode b_Ro_halve 20 = .ok (.aload_n 0, 1) := by decide +kernel
theorem d_Ro_halve_21 : decode b_Ro_halve 21 = .ok (.dup, 1) := by decide +kernel
theorem d_Ro_halve_22 : decode b_Ro_halve 22 = .ok (.getfield 18, 3) := by decide +kernel
theorem d_Ro_halve_25 : decode b_Ro_halve 25 = .ok (.iconst 1, 1) := by decide +kernel
theorem d_Ro_halve_26 : decode b_Ro_halve 26 = .ok (.iadd, 1) := by decide +kernel
theorem d_Ro_halve_27 : decode b_Ro_halve 27 = .ok (.putfield 18, 3) := by decide +kernel
theorem d_Ro_halve_30 : decode b_Ro_halve 30 = .ok (.return_, 1) := by decide +kernel
theorem d_He_prepare_0 : decode b_He_prepare 0 = .ok (.aload_n 0, 1) := by decide +kernel
theorem d_He_prepare_1 : decode b_He_prepare 1 = .ok (.getfield 53, 3) := by decide +kernel
theorem d_He_prepare_4 : decode b_He_prepare 4 = .ok (.ifCond .eq 4, 3) := by decide +kernel
theorem d_He_prepare_7 : decode b_He_prepare 7 = .ok (.return_, 1) := by decide +kernel
theorem d_He_prepare_8 : decode b_He_prepare 8 = .ok (.aload_n 0, 1) := by decide +kernel
theorem d_He_prepare_9 : decode b_He_prepare 9 = .ok (.getfield 29, 3) := by decide +kernel
theorem d_He_prepare_12 : decode b_He_prepare 12 = .ok (.getfield 57, 3) := by decide +kernel
theorem d_He_prepare_15 : decode b_He_prepare 15 = .ok (.iconst 0, 1) := by decide +kernel
theorem d_He_prepare_16 : decode b_He_prepare 16 = .ok (.aaload, 1) := by decide +kernel
theorem d_He_prepare_17 : decode b_He_prepare 17 = .ok (.aload_n 0, 1) := by decide +kernel
theorem d_He_prepare_18 : decode b_He_prepare 18 = .ok (.getfield 20, 3) := by decide +kernel
theorem d_He_prepare_21 : decode b_He_prepare 21 = .ok (.invokevirtual 61, 3) := by decide +kernel
theorem d_He_prepare_24 : decode b_He_prepare 24 = .ok (.aload_n 0, 1) := by decide +kernel
theorem d_He_prepare_25 : decode b_He_prepare 25 = .ok (.getfield 29, 3) := by decide +kernel
theorem d_He_prepare_28 : decode b_He_prepare 28 = .ok (.invokevirtual 65, 3) := by decide +kernel
theorem d_He_prepare_31 : decode b_He_prepare 31 = .ok (.aload_n 0, 1) := by decide +kernel
theorem d_He_prepare_32 : decode b_He_prepare 32 = .ok (.getfield 29, 3) := by decide +kernel
theorem d_He_prepare_35 : decode b_He_prepare 35 = .ok (.aload_n 1, 1) := by decide +kernel
theorem d_He_prepare_36 : decode b_He_prepare 36 = .ok (.invokevirtual 68, 3) := by decide +kernel
theorem d_He_prepare_39 : decode b_He_prepare 39 = .ok (.aload_n 0, 1) := by decide +kernel
theorem d_He_prepare_40 : decode b_He_prepare 40 = .ok (.iconst 0, 1) := by decide +kernel
theorem d_He_prepare_41 : decode b_He_prepare 41 = .ok (.aload_n 0, 1) := by decide +kernel
theorem d_He_prepare_42 : decode b_He_prepare 42 = .ok (.getfield 29, 3) := by decide +kernel
theorem d_He_prepare_45 : decode b_He_prepare 45 = .ok (.invokevirtual 72, 3) := by decide +kernel
theorem d_He_prepare_48 : decode b_He_prepare 48 = .ok (.getfield 76, 3) := by decide +kernel
theorem d_He_prepare_51 : decode b_He_prepare 51 = .ok (.invokestatic 80, 3) := by decide +kernel
theorem d_He_prepare_54 : decode b_He_prepare 54 = .ok (.putfield 86, 3) := by decide +kernel
theorem d_He_prepare_57 : decode b_He_prepare 57 = .ok (.aload_n 0, 1) := by decide +kernel
theorem d_He_prepare_58 : decode b_He_prepare 58 = .ok (.getfield 86, 3) := by decide +kernel
theorem d_He_prepare_61 : decode b_He_prepare 61 = .ok (.ifCond .le 46, 3) := by decide +kernel
theorem d_He_prepare_64 : decode b_He_prepare 64 = .ok (.aload_n 1, 1) := by decide +kernel
theorem d_He_prepare_65 : decode b_He_prepare 65 = .ok (.aload_n 0, 1) := by decide +kernel
theorem d_He_prepare_66 : decode b_He_prepare 66 = .ok (.getfield 29, 3) := by decide +kernel
theorem d_He_prepare_69 : decode b_He_prepare 69 = .ok (.invokevirtual 72, 3) := by decide +kernel
theorem d_He_prepare_72 : decode b_He_prepare 72 = .ok (.invokevirtual 89, 3) := by decide +kernel
theorem d_He_prepare_75 : decode b_He_prepare 75 = .ok (.aload_n 1, 1) := by decide +kernel
theorem d_He_prepare_76 : decode b_He_prepare 76 = .ok (.aload_n 0, 1) := by decide +kernel
theorem d_He_prepare_77 : decode b_He_prepare 77 = .ok (.getfield 20, 3) := by decide +kernel
theorem d_He_prepare_80 : decode b_He_prepare 80 = .ok (.aload_n 0, 1) := by decide +kernel
theorem d_He_prepare_81 : decode b_He_prepare 81 = .ok (.getfield 29, 3) := by decide +kernel
theorem d_He_prepare_84 : decode b_He_prepare 84 = .ok (.getfield 57, 3) := by decide +kernel
theorem d_He_prepare_87 : decode b_He_prepare 87 = .ok (.iconst 0, 1) := by decide +kernel
theorem d_He_prepare_88 : decode b_He_prepare 88 = .ok (.aaload, 1) := by decide +kernel
theorem d_He_prepare_89 : decode b_He_prepare 89 = .ok (.invokevirtual 94, 3) := by decide +kernel
theorem d_He_prepare_92 : decode b_He_prepare 92 = .ok (.aload_n 0, 1) := by decide +kernel
theorem d_He_prepare_93 : decode b_He_prepare 93 = .ok (.getfield 29, 3) := by decide +kernel
theorem d_He_prepare_96 : decode b_He_prepare 96 = .ok (.invokevirtual 65, 3) := by decide +kernel
theorem d_He_prepare_99 : decode b_He_prepare 99 = .ok (.aload_n 0, 1) := by decide +kernel
theorem d_He_prepare_100 : decode b_He_prepare 100 = .ok (.getfield 29, 3) := by decide +kernel
theorem d_He_prepare_103 : decode b_He_prepare 103 = .ok (.aload_n 1, 1) := by decide +kernel
theorem d_He_prepare_104 : decode b_He_prepare 104 = .ok (.invokevirtual 68, 3) := by decide +kernel
theorem d_He_prepare_107 : decode b_He_prepare 107 = .ok (.aload_n 0, 1) := by decide +kernel
theorem d_He_prepare_108 : decode b_He_prepare 108 = .ok (.aload_n 0, 1) := by decide +kernel
theorem d_He_prepare_109 : decode b_He_prepare 109 = .ok (.getfield 29, 3) := by decide +kernel
theorem d_He_prepare_112 : decode b_He_prepare 112 = .ok (.iconst (-1), 1) := by decide +kernel
theorem d_He_prepare_113 : decode b_He_prepare 113 = .ok (.invokevirtual 98, 3) := by decide +kernel
theorem d_He_prepare_116 : decode b_He_prepare 116 = .ok (.putfield 102, 3) := by decide +kernel
theorem d_He_prepare_119 : decode b_He_prepare 119 = .ok (.aload_n 0, 1) := by decide +kernel
theorem d_He_prepare_120 : decode b_He_prepare 120 = .ok (.aload_n 0, 1) := by decide +kernel
theorem d_He_prepare_121 : decode b_He_prepare 121 = .ok (.getfield 29, 3) := by decide +kernel
theorem d_He_prepare_124 : decode b_He_prepare 124 = .ok (.invokevirtual 105, 3) := by decide +kernel
theorem d_He_prepare_127 : decode b_He_prepare 127 = .ok (.bipush 8, 2) := by decide +kernel
theorem d_He_prepare_129 : decode b_He_prepare 129 = .ok (.invokestatic 109, 3) := by decide +kernel
theorem d_He_prepare_132 : decode b_He_prepare 132 = .ok (.putfield 112, 3) := by decide +kernel
theorem d_He_prepare_135 : decode b_He_prepare 135 = .ok (.iconst 0, 1) := by decide +kernel
theorem d_He_prepare_136 : decode b_He_prepare 136 = .ok (.istore_n 2, 1) := by decide +kernel
theorem d_He_prepare_137 : decode b_He_prepare 137 = .ok (.iload_n 2, 1) := by decide +kernel
theorem d_He_prepare_138 : decode b_He_prepare 138 = .ok (.bipush 8, 2) := by decide +kernel
theorem d_He_prepare_140 : decode b_He_prepare 140 = .ok (.if_icmp .ge 19, 3) := by decide +kernel
theorem d_He_prepare_143 : decode b_He_prepare 143 = .ok (.aload_n 0, 1) := by decide +kernel
theorem d_He_prepare_144 : decode b_He_prepare 144 = .ok (.getfield 35, 3) := by decide +kernel
theorem d_He_prepare_147 : decode b_He_prepare 147 = .ok (.iload_n 2, 1) := by decide +kernel
theorem d_He_prepare_148 : decode b_He_prepare 148 = .ok (.aaload, 1) := by decide +kernel
theorem d_He_prepare_149 : decode b_He_prepare 149 = .ok (.iconst 0, 1) := by decide +kernel
theorem d_He_prepare_150 : decode b_He_prepare 150 = .ok (.putfield 115, 3) := by decide +kernel
theorem d_He_prepare_153 : decode b_He_prepare 153 = .ok (.iinc 2 1, 3) := by decide +kernel
theorem d_He_prepare_156 : decode b_He_prepare 156 = .ok (.goto (-19), 3) := by decide +kernel
theorem d_He_prepare_159 : decode b_He_prepare 159 = .ok (.aload_n 0, 1) := by decide +kernel
theorem d_He_prepare_160 : decode b_He_prepare 160 = .ok (.aload_n 0, 1) := by decide +kernel
theorem d_He_prepare_161 : decode b_He_prepare 161 = .ok (.invokevirtual 118, 3) := by decide +kernel
theorem d_He_prepare_164 : decode b_He_prepare 164 = .ok (.putfield 121, 3) := by decide +kernel
theorem d_He_prepare_167 : decode b_He_prepare 167 = .ok (.aload_n 0, 1) := by decide +kernel
theorem d_He_prepare_168 : decode b_He_prepare 168 = .ok (.iconst 1, 1) := by decide +kernel
theorem d_He_prepare_169 : decode b_He_prepare 169 = .ok (.putfield 53, 3) := by decide +kernel
theorem d_He_prepare_172 : decode b_He_prepare 172 = .ok (.return_, 1) := by decide +kernel
theorem d_He_reachOfRoots_0 : decode b_He_reachOfRoots 0 = .ok (.aload_n 0, 1) := by decide +kernel
theorem d_He_reachOfRoots_1 : decode b_He_reachOfRoots 1 = .ok (.getfield 29, 3) := by decide +kernel
theorem d_He_reachOfRoots_4 : decode b_He_reachOfRoots 4 = .ok (.getfield 57, 3) := by decide +kernel
theorem d_He_reachOfRoots_7 : decode b_He_reachOfRoots 7 = .ok (.iconst 0, 1) := by decide +kernel
theorem d_He_reachOfRoots_8 : decode b_He_reachOfRoots 8 = .ok (.aaload, 1) := by decide +kernel
theorem d_He_reachOfRoots_9 : decode b_He_reachOfRoots 9 = .ok (.astore_n 1, 1) := by decide +kernel
theorem d_He_reachOfRoots_10 : decode b_He_reachOfRoots 10 = .ok (.iconst 0, 1) := by decide +kernel
theorem d_He_reachOfRoots_11 : decode b_He_reachOfRoots 11 = .ok (.istore_n 2, 1) := by decide +kernel
theorem d_He_reachOfRoots_12 : decode b_He_reachOfRoots 12 = .ok (.iconst 1, 1) := by decide +kernel
theorem d_He_reachOfRoots_13 : decode b_He_reachOfRoots 13 = .ok (.istore_n 3, 1) := by decide +kernel
theorem d_He_reachOfRoots_14 : decode b_He_reachOfRoots 14 = .ok (.iload_n 3, 1) := by decide +kernel
theorem d_He_reachOfRoots_15 : decode b_He_reachOfRoots 15 = .ok (.aload_n 1, 1) := by decide +kernel
theorem d_He_reachOfRoots_16 : decode b_He_reachOfRoots 16 = .ok (.getfield 76, 3) := by decide +kernel
theorem d_He_reachOfRoots_19 : decode b_He_reachOfRoots 19 = .ok (.if_icmp .gt 66, 3) := by decide +kernel
theorem d_He_reachOfRoots_22 : decode b_He_reachOfRoots 22 = .ok (.aload_n 1, 1) := by decide +kernel
theorem d_He_reachOfRoots_23 : decode b_He_reachOfRoots 23 = .ok (.getfield 40, 3) := by decide +kernel
theorem d_He_reachOfRoots_26 : decode b_He_reachOfRoots 26 = .ok (.aload_n 1, 1) := by decide +kernel
theorem d_He_reachOfRoots_27 : decode b_He_reachOfRoots 27 = .ok (.getfield 76, 3) := by decide +kernel
theorem d_He_reachOfRoots_30 : decode b_He_reachOfRoots 30 = .ok (.iload_n 3, 1) := by decide +kernel
theorem d_He_reachOfRoots_31 : decode b_He_reachOfRoots 31 = .ok (.isub, 1) := by decide +kernel
theorem d_He_reachOfRoots_32 : decode b_He_reachOfRoots 32 = .ok (.aaload, 1) := by decide +kernel
theorem d_He_reachOfRoots_33 : decode b_He_reachOfRoots 33 = .ok (.astore 4, 2) := by decide +kernel
theorem d_He_reachOfRoots_35 : decode b_He_reachOfRoots 35 = .ok (.aload 4, 2) := by decide +kernel
theorem d_He_reachOfRoots_37 : decode b_He_reachOfRoots 37 = .ok (.getfield 124, 3) := by decide +kernel
theorem d_He_reachOfRoots_40 : decode b_He_reachOfRoots 40 = .ok (.ifCond .eq 39, 3) := by decide +kernel
theorem d_He_reachOfRoots_43 : decode b_He_reachOfRoots 43 = .ok (.aload 4, 2) := by decide +kernel
theorem d_He_reachOfRoots_45 : decode b_He_reachOfRoots 45 = .ok (.invokevirtual 127, 3) := by decide +kernel
theorem d_He_reachOfRoots_48 : decode b_He_reachOfRoots 48 = .ok (.aload_n 1, 1) := by decide +kernel
theorem d_He_reachOfRoots_49 : decode b_He_reachOfRoots 49 = .ok (.getfield 40, 3) := by decide +kernel
theorem d_He_reachOfRoots_52 : decode b_He_reachOfRoots 52 = .ok (.aload_n 1, 1) := by decide +kernel
theorem d_He_reachOfRoots_53 : decode b_He_reachOfRoots 53 = .ok (.getfield 76, 3) := by decide +kernel
theorem d_He_reachOfRoots_56 : decode b_He_reachOfRoots 56 = .ok (.aaload, 1) := by decide +kernel
theorem d_He_reachOfRoots_57 : decode b_He_reachOfRoots 57 = .ok (.invokevirtual 127, 3) := by decide +kernel
theorem d_He_reachOfRoots_60 : decode b_He_reachOfRoots 60 = .ok (.isub, 1) := by decide +kernel
theorem d_He_reachOfRoots_61 : decode b_He_reachOfRoots 61 = .ok (.iconst 1, 1) := by decide +kernel
theorem d_He_reachOfRoots_62 : decode b_He_reachOfRoots 62 = .ok (.iadd, 1) := by decide +kernel
theorem d_He_reachOfRoots_63 : decode b_He_reachOfRoots 63 = .ok (.istore 5, 2) := by decide +kernel
theorem d_He_reachOfRoots_65 : decode b_He_reachOfRoots 65 = .ok (.iload_n 2, 1) := by decide +kernel
theorem d_He_reachOfRoots_66 : decode b_He_reachOfRoots 66 = .ok (.iconst 1, 1) := by decide +kernel
theorem d_He_reachOfRoots_67 : decode b_He_reachOfRoots 67 = .ok (.iload 5, 2) := by decide +kernel
theorem d_He_reachOfRoots_69 : decode b_He_reachOfRoots 69 = .ok (.ineg, 1) := by decide +kernel
theorem d_He_reachOfRoots_70 : decode b_He_reachOfRoots 70 = .ok (.iload_n 3, 1) := by decide +kernel
theorem d_He_reachOfRoots_71 : decode b_He_reachOfRoots 71 = .ok (.invokestatic 130, 3) := by decide +kernel
theorem d_He_reachOfRoots_74 : decode b_He_reachOfRoots 74 = .ok (.isub, 1) := by decide +kernel
theorem d_He_reachOfRoots_75 : decode b_He_reachOfRoots 75 = .ok (.invokestatic 80, 3) := by decide +kernel
theorem d_He_reachOfRoots_78 : decode b_He_reachOfRoots 78 = .ok (.istore_n 2, 1) := by decide +kernel
theorem d_He_reachOfRoots_79 : decode b_He_reachOfRoots 79 = .ok (.iinc 3 1, 3) := by decide +kernel
theorem d_He_reachOfRoots_82 : decode b_He_reachOfRoots 82 = .ok (.goto (-68), 3) := by decide +kernel
theorem d_He_reachOfRoots_85 : decode b_He_reachOfRoots 85 = .ok (.iload_n 2, 1) := by decide +kernel
theorem d_He_reachOfRoots_86 : decode b_He_reachOfRoots 86 = .ok (.bipush 32, 2) := by decide +kernel
theorem d_He_reachOfRoots_88 : decode b_He_reachOfRoots 88 = .ok (.invokestatic 109, 3) := by decide +kernel
theorem d_He_reachOfRoots_91 : decode b_He_reachOfRoots 91 = .ok (.ireturn, 1) := by decide +kernel
theorem d_He_countUpTo_0 : decode b_He_countUpTo 0 = .ok (.aload_n 0, 1) := by decide +kernel
theorem d_He_countUpTo_1 : decode b_He_countUpTo 1 = .ok (.getfield 102, 3) := by decide +kernel
theorem d_He_countUpTo_4 : decode b_He_countUpTo 4 = .ok (.aload_n 0, 1) := by decide +kernel
theorem d_He_countUpTo_5 : decode b_He_countUpTo 5 = .ok (.getfield 29, 3) := by decide +kernel
theorem d_He_countUpTo_8 : decode b_He_countUpTo 8 = .ok (.aload_n 1, 1) := by decide +kernel
theorem d_He_countUpTo_9 : decode b_He_countUpTo 9 = .ok (.aload_n 2, 1) := by decide +kernel
theorem d_He_countUpTo_10 : decode b_He_countUpTo 10 = .ok (.invokevirtual 133, 3) := by decide +kernel
theorem d_He_countUpTo_13 : decode b_He_countUpTo 13 = .ok (.isub, 1) := by decide +kernel
theorem d_He_countUpTo_14 : decode b_He_countUpTo 14 = .ok (.ireturn, 1) := by decide +kernel
theorem d_He_sideOf_0 : decode b_He_sideOf 0 = .ok (.aload_n 0, 1) := by decide +kernel
theorem d_He_sideOf_1 : decode b_He_sideOf 1 = .ok (.getfield 102, 3) := by decide +kernel
theorem d_He_sideOf_4 : decode b_He_sideOf 4 = .ok (.aload_n 0, 1) := by decide +kernel
theorem d_He_sideOf_5 : decode b_He_sideOf 5 = .ok (.getfield 29, 3) := by decide +kernel
theorem d_He_sideOf_8 : decode b_He_sideOf 8 = .ok (.aload_n 2, 1) := by decide +kernel
theorem d_He_sideOf_9 : decode b_He_sideOf 9 = .ok (.aload_n 3, 1) := by decide +kernel
theorem d_He_sideOf_10 : decode b_He_sideOf 10 = .ok (.invokevirtual 133, 3) := by decide +kernel
theorem d_He_sideOf_13 : decode b_He_sideOf 13 = .ok (.isub, 1) := by decide +kernel
theorem d_He_sideOf_14 : decode b_He_sideOf 14 = .ok (.istore 4, 2) := by decide +kernel
theorem d_He_sideOf_16 : decode b_He_sideOf 16 = .ok (.aload_n 0, 1) := by decide +kernel
theorem d_He_sideOf_17 : decode b_He_sideOf 17 = .ok (.getfield 29, 3) := by decide +kernel
theorem d_He_sideOf_20 : decode b_He_sideOf 20 = .ok (.getfield 137, 3) := by decide +kernel
theorem d_He_sideOf_23 : decode b_He_sideOf 23 = .ok (.ifCond .ne 10, 3) := by decide +kernel
theorem d_He_sideOf_26 : decode b_He_sideOf 26 = .ok (.iload 4, 2) := by decide +kernel
theorem d_He_sideOf_28 : decode b_He_sideOf 28 = .ok (.iconst 1, 1) := by decide +kernel
theorem d_He_sideOf_29 : decode b_He_sideOf 29 = .ok (.isub, 1) := by decide +kernel
theorem d_He_sideOf_30 : decode b_He_sideOf 30 = .ok (.goto 5, 3) := by decide +kernel
theorem d_He_sideOf_33 : decode b_He_sideOf 33 = .ok (.iload 4, 2) := by decide +kernel
theorem d_He_sideOf_35 : decode b_He_sideOf 35 = .ok (.istore 5, 2) := by decide +kernel
theorem d_He_sideOf_37 : decode b_He_sideOf 37 = .ok (.iload_n 1, 1) := by decide +kernel
theorem d_He_sideOf_38 : decode b_He_sideOf 38 = .ok (.iload 5, 2) := by decide +kernel
theorem d_He_sideOf_40 : decode b_He_sideOf 40 = .ok (.if_icmp .ge 5, 3) := by decide +kernel
theorem d_He_sideOf_43 : decode b_He_sideOf 43 = .ok (.iconst (-1), 1) := by decide +kernel
theorem d_He_sideOf_44 : decode b_He_sideOf 44 = .ok (.ireturn, 1) := by decide +kernel
theorem d_He_sideOf_45 : decode b_He_sideOf 45 = .ok (.iload_n 1, 1) := by decide +kernel
theorem d_He_sideOf_46 : decode b_He_sideOf 46 = .ok (.iload 4, 2) := by decide +kernel
theorem d_He_sideOf_48 : decode b_He_sideOf 48 = .ok (.if_icmp .ge 7, 3) := by decide +kernel
theorem d_He_sideOf_51 : decode b_He_sideOf 51 = .ok (.iconst 0, 1) := by decide +kernel
theorem d_He_sideOf_52 : decode b_He_sideOf 52 = .ok (.goto 4, 3) := by decide +kernel
theorem d_He_sideOf_55 : decode b_He_sideOf 55 = .ok (.iconst 1, 1) := by decide +kernel
theorem d_He_sideOf_56 : decode b_He_sideOf 56 = .ok (.ireturn, 1) := by decide +kernel
theorem d_He_isolate_0 : decode b_He_isolate 0 = .ok (.aload_n 0, 1) := by decide +kernel
theorem d_He_isolate_1 : decode b_He_isolate 1 = .ok (.getfield 35, 3) := by decide +kernel
theorem d_He_isolate_4 : decode b_He_isolate 4 = .ok (.iload_n 1, 1) := by decide +kernel
theorem d_He_isolate_5 : decode b_He_isolate 5 = .ok (.aaload, 1) := by decide +kernel
theorem d_He_isolate_6 : decode b_He_isolate 6 = .ok (.astore_n 3, 1) := by decide +kernel
theorem d_He_isolate_7 : decode b_He_isolate 7 = .ok (.aload_n 3, 1) := by decide +kernel
theorem d_He_isolate_8 : decode b_He_isolate 8 = .ok (.getfield 115, 3) := by decide +kernel
theorem d_He_isolate_11 : decode b_He_isolate 11 = .ok (.ifCond .eq 4, 3) := by decide +kernel
theorem d_He_isolate_14 : decode b_He_isolate 14 = .ok (.return_, 1) := by decide +kernel
theorem d_He_isolate_15 : decode b_He_isolate 15 = .ok (.aload_n 2, 1) := by decide +kernel
theorem d_He_isolate_16 : decode b_He_isolate 16 = .ok (.getfield 140, 3) := by decide +kernel
theorem d_He_isolate_19 : decode b_He_isolate 19 = .ok (.astore 4, 2) := by decide +kernel
theorem d_He_isolate_21 : decode b_He_isolate 21 = .ok (.aload 4, 2) := by decide +kernel
theorem d_He_isolate_23 : decode b_He_isolate 23 = .ok (.lconst 0, 1) := by decide +kernel
theorem d_He_isolate_24 : decode b_He_isolate 24 = .ok (.iconst 0, 1) := by decide +kernel
theorem d_He_isolate_25 : decode b_He_isolate 25 = .ok (.invokevirtual 144, 3) := by decide +kernel
theorem d_He_isolate_28 : decode b_He_isolate 28 = .ok (.aload_n 0, 1) := by decide +kernel
theorem d_He_isolate_29 : decode b_He_isolate 29 = .ok (.getfield 102, 3) := by decide +kernel
theorem d_He_isolate_32 : decode b_He_isolate 32 = .ok (.aload_n 0, 1) := by decide +kernel
theorem d_He_isolate_33 : decode b_He_isolate 33 = .ok (.getfield 29, 3) := by decide +kernel
theorem d_He_isolate_36 : decode b_He_isolate 36 = .ok (.aload 4, 2) := by decide +kernel
theorem d_He_isolate_38 : decode b_He_isolate 38 = .ok (.aload_n 2, 1) := by decide +kernel
theorem d_He_isolate_39 : decode b_He_isolate 39 = .ok (.invokevirtual 133, 3) := by decide +kernel
theorem d_He_isolate_42 : decode b_He_isolate 42 = .ok (.isub, 1) := by decide +kernel
theorem d_He_isolate_43 : decode b_He_isolate 43 = .ok (.istore 5, 2) := by decide +kernel
theorem d_He_isolate_45 : decode b_He_isolate 45 = .ok (.aload_n 0, 1) := by decide +kernel
theorem d_He_isolate_46 : decode b_He_isolate 46 = .ok (.getfield 29, 3) := by decide +kernel
theorem d_He_isolate_49 : decode b_He_isolate 49 = .ok (.getfield 137, 3) := by decide +kernel
theorem d_He_isolate_52 : decode b_He_isolate 52 = .ok (.ifCond .ne 10, 3) := by decide +kernel
theorem d_He_isolate_55 : decode b_He_isolate 55 = .ok (.iload 5, 2) := by decide +kernel
theorem d_He_isolate_57 : decode b_He_isolate 57 = .ok (.iconst 1, 1) := by decide +kernel
theorem d_He_isolate_58 : decode b_He_isolate 58 = .ok (.isub, 1) := by decide +kernel
theorem d_He_isolate_59 : decode b_He_isolate 59 = .ok (.goto 5, 3) := by decide +kernel
theorem d_He_isolate_62 : decode b_He_isolate 62 = .ok (.iload 5, 2) := by decide +kernel
theorem d_He_isolate_64 : decode b_He_isolate 64 = .ok (.istore 6, 2) := by decide +kernel
theorem d_He_isolate_66 : decode b_He_isolate 66 = .ok (.aload_n 3, 1) := by decide +kernel
theorem d_He_isolate_67 : decode b_He_isolate 67 = .ok (.getfield 150, 3) := by decide +kernel
theorem d_He_isolate_70 : decode b_He_isolate 70 = .ok (.iload_n 1, 1) := by decide +kernel
theorem d_He_isolate_71 : decode b_He_isolate 71 = .ok (.iload 6, 2) := by decide +kernel
theorem d_He_isolate_73 : decode b_He_isolate 73 = .ok (.if_icmp .ge 9, 3) := by decide +kernel
theorem d_He_isolate_76 : decode b_He_isolate 76 = .ok (.ldc2_w 154, 3) := by decide +kernel
theorem d_He_isolate_79 : decode b_He_isolate 79 = .ok (.goto 4, 3) := by decide +kernel
theorem d_He_isolate_82 : decode b_He_isolate 82 = .ok (.lconst 0, 1) := by decide +kernel
theorem d_He_isolate_83 : decode b_He_isolate 83 = .ok (.invokevirtual 44, 3) := by decide +kernel
theorem d_He_isolate_86 : decode b_He_isolate 86 = .ok (.aload_n 3, 1) := by decide +kernel
theorem d_He_isolate_87 : decode b_He_isolate 87 = .ok (.aload_n 0, 1) := by decide +kernel
theorem d_He_isolate_88 : decode b_He_isolate 88 = .ok (.getfield 121, 3) := by decide +kernel
theorem d_He_isolate_91 : decode b_He_isolate 91 = .ok (.ineg, 1) := by decide +kernel
theorem d_He_isolate_92 : decode b_He_isolate 92 = .ok (.putfield 156, 3) := by decide +kernel
theorem d_He_isolate_95 : decode b_He_isolate 95 = .ok (.iload_n 1, 1) := by decide +kernel
theorem d_He_isolate_96 : decode b_He_isolate 96 = .ok (.iload 6, 2) := by decide +kernel
theorem d_He_isolate_98 : decode b_He_isolate 98 = .ok (.if_icmp .ge 7, 3) := by decide +kernel
theorem d_He_isolate_101 : decode b_He_isolate 101 = .ok (.iconst 0, 1) := by decide +kernel
theorem d_He_isolate_102 : decode b_He_isolate 102 = .ok (.goto 5, 3) := by decide +kernel
theorem d_He_isolate_105 : decode b_He_isolate 105 = .ok (.iload 6, 2) := by decide +kernel
theorem d_He_isolate_107 : decode b_He_isolate 107 = .ok (.istore 7, 2) := by decide +kernel
theorem d_He_isolate_109 : decode b_He_isolate 109 = .ok (.iload_n 1, 1) := by decide +kernel
theorem d_He_isolate_110 : decode b_He_isolate 110 = .ok (.iload 6, 2) := by decide +kernel
theorem d_He_isolate_112 : decode b_He_isolate 112 = .ok (.if_icmp .ge 8, 3) := by decide +kernel
theorem d_He_isolate_115 : decode b_He_isolate 115 = .ok (.iload 5, 2) := by decide +kernel
theorem d_He_isolate_117 : decode b_He_isolate 117 = .ok (.goto 7, 3) := by decide +kernel
theorem d_He_isolate_120 : decode b_He_isolate 120 = .ok (.aload_n 0, 1) := by decide +kernel
theorem d_He_isolate_121 : decode b_He_isolate 121 = .ok (.getfield 112, 3) := by decide +kernel
theorem d_He_isolate_124 : decode b_He_isolate 124 = .ok (.istore 8, 2) := by decide +kernel
theorem d_He_isolate_126 : decode b_He_isolate 126 = .ok (.iconst 0, 1) := by decide +kernel
theorem d_He_isolate_127 : decode b_He_isolate 127 = .ok (.istore 9, 2) := by decide +kernel
theorem d_He_isolate_129 : decode b_He_isolate 129 = .ok (.iload 9, 2) := by decide +kernel
theorem d_He_isolate_131 : decode b_He_isolate 131 = .ok (.sipush 2000, 3) := by decide +kernel
theorem d_He_isolate_134 : decode b_He_isolate 134 = .ok (.if_icmp .ge 94, 3) := by decide +kernel
theorem d_He_isolate_137 : decode b_He_isolate 137 = .ok (.iload 8, 2) := by decide +kernel
theorem d_He_isolate_139 : decode b_He_isolate 139 = .ok (.iload 7, 2) := by decide +kernel
theorem d_He_isolate_141 : decode b_He_isolate 141 = .ok (.isub, 1) := by decide +kernel
theorem d_He_isolate_142 : decode b_He_isolate 142 = .ok (.iconst 1, 1) := by decide +kernel
theorem d_He_isolate_143 : decode b_He_isolate 143 = .ok (.if_icmp .le 85, 3) := by decide +kernel
theorem d_He_isolate_146 : decode b_He_isolate 146 = .ok (.aload_n 3, 1) := by decide +kernel
theorem d_He_isolate_147 : decode b_He_isolate 147 = .ok (.aload 4, 2) := by decide +kernel
theorem d_He_isolate_149 : decode b_He_isolate 149 = .ok (.invokevirtual 159, 3) := by decide +kernel
theorem d_He_isolate_152 : decode b_He_isolate 152 = .ok (.aload_n 0, 1) := by decide +kernel
theorem d_He_isolate_153 : decode b_He_isolate 153 = .ok (.getfield 102, 3) := by decide +kernel
theorem d_He_isolate_156 : decode b_He_isolate 156 = .ok (.aload_n 0, 1) := by decide +kernel
theorem d_He_isolate_157 : decode b_He_isolate 157 = .ok (.getfield 29, 3) := by decide +kernel
theorem d_He_isolate_160 : decode b_He_isolate 160 = .ok (.aload 4, 2) := by decide +kernel
theorem d_He_isolate_162 : decode b_He_isolate 162 = .ok (.aload_n 2, 1) := by decide +kernel
theorem d_He_isolate_163 : decode b_He_isolate 163 = .ok (.invokevirtual 133, 3) := by decide +kernel
theorem d_He_isolate_166 : decode b_He_isolate 166 = .ok (.isub, 1) := by decide +kernel
theorem d_He_isolate_167 : decode b_He_isolate 167 = .ok (.istore 5, 2) := by decide +kernel
theorem d_He_isolate_169 : decode b_He_isolate 169 = .ok (.aload_n 0, 1) := by decide +kernel
theorem d_He_isolate_170 : decode b_He_isolate 170 = .ok (.getfield 29, 3) := by decide +kernel
theorem d_He_isolate_173 : decode b_He_isolate 173 = .ok (.getfield 137, 3) := by decide +kernel
theorem d_He_isolate_176 : decode b_He_isolate 176 = .ok (.ifCond .ne 10, 3) := by decide +kernel
theorem d_He_isolate_179 : decode b_He_isolate 179 = .ok (.iload 5, 2) := by decide +kernel
theorem d_He_isolate_181 : decode b_He_isolate 181 = .ok (.iconst 1, 1) := by decide +kernel
theorem d_He_isolate_182 : decode b_He_isolate 182 = .ok (.isub, 1) := by decide +kernel
theorem d_He_isolate_183 : decode b_He_isolate 183 = .ok (.goto 5, 3) := by decide +kernel
theorem d_He_isolate_186 : decode b_He_isolate 186 = .ok (.iload 5, 2) := by decide +kernel
theorem d_He_isolate_188 : decode b_He_isolate 188 = .ok (.istore 6, 2) := by decide +kernel
theorem d_He_isolate_190 : decode b_He_isolate 190 = .ok (.aload_n 3, 1) := by decide +kernel
theorem d_He_isolate_191 : decode b_He_isolate 191 = .ok (.iload_n 1, 1) := by decide +kernel
theorem d_He_isolate_192 : decode b_He_isolate 192 = .ok (.iload 6, 2) := by decide +kernel
theorem d_He_isolate_194 : decode b_He_isolate 194 = .ok (.if_icmp .lt 7, 3) := by decide +kernel
theorem d_He_isolate_197 : decode b_He_isolate 197 = .ok (.iconst 1, 1) := by decide +kernel
theorem d_He_isolate_198 : decode b_He_isolate 198 = .ok (.goto 4, 3) := by decide +kernel
theorem d_He_isolate_201 : decode b_He_isolate 201 = .ok (.iconst 0, 1) := by decide +kernel
theorem d_He_isolate_202 : decode b_He_isolate 202 = .ok (.invokevirtual 163, 3) := by decide +kernel
theorem d_He_isolate_205 : decode b_He_isolate 205 = .ok (.iload_n 1, 1) := by decide +kernel
theorem d_He_isolate_206 : decode b_He_isolate 206 = .ok (.iload 6, 2) := by decide +kernel
theorem d_He_isolate_208 : decode b_He_isolate 208 = .ok (.if_icmp .ge 10, 3) := by decide +kernel
theorem d_He_isolate_211 : decode b_He_isolate 211 = .ok (.iload 5, 2) := by decide +kernel
theorem d_He_isolate_213 : decode b_He_isolate 213 = .ok (.istore 8, 2) := by decide +kernel
theorem d_He_isolate_215 : decode b_He_isolate 215 = .ok (.goto 7, 3) := by decide +kernel
theorem d_He_isolate_218 : decode b_He_isolate 218 = .ok (.iload 6, 2) := by decide +kernel
theorem d_He_isolate_220 : decode b_He_isolate 220 = .ok (.istore 7, 2) := by decide +kernel
theorem d_He_isolate_222 : decode b_He_isolate 222 = .ok (.iinc 9 1, 3) := by decide +kernel
theorem d_He_isolate_225 : decode b_He_isolate 225 = .ok (.goto (-96), 3) := by decide +kernel
theorem d_He_isolate_228 : decode b_He_isolate 228 = .ok (.aload_n 3, 1) := by decide +kernel
theorem d_He_isolate_229 : decode b_He_isolate 229 = .ok (.aload 4, 2) := by decide +kernel
theorem d_He_isolate_231 : decode b_He_isolate 231 = .ok (.invokevirtual 167, 3) := by decide +kernel
theorem d_He_isolate_234 : decode b_He_isolate 234 = .ok (.aload_n 3, 1) := by decide +kernel
theorem d_He_isolate_235 : decode b_He_isolate 235 = .ok (.aload_n 2, 1) := by decide +kernel
theorem d_He_isolate_236 : decode b_He_isolate 236 = .ok (.aload_n 0, 1) := by decide +kernel
theorem d_He_isolate_237 : decode b_He_isolate 237 = .ok (.getfield 29, 3) := by decide +kernel
theorem d_He_isolate_240 : decode b_He_isolate 240 = .ok (.getfield 57, 3) := by decide +kernel
theorem d_He_isolate_243 : decode b_He_isolate 243 = .ok (.iconst 0, 1) := by decide +kernel
theorem d_He_isolate_244 : decode b_He_isolate 244 = .ok (.aaload, 1) := by decide +kernel
theorem d_He_isolate_245 : decode b_He_isolate 245 = .ok (.aload 4, 2) := by decide +kernel
theorem d_He_isolate_247 : decode b_He_isolate 247 = .ok (.invokevirtual 170, 3) := by decide +kernel
theorem d_He_isolate_250 : decode b_He_isolate 250 = .ok (.getfield 124, 3) := by decide +kernel
theorem d_He_isolate_253 : decode b_He_isolate 253 = .ok (.putfield 174, 3) := by decide +kernel
theorem d_He_isolate_256 : decode b_He_isolate 256 = .ok (.aload_n 3, 1) := by decide +kernel
theorem d_He_isolate_257 : decode b_He_isolate 257 = .ok (.aload_n 3, 1) := by decide +kernel
theorem d_He_isolate_258 : decode b_He_isolate 258 = .ok (.getfield 174, 3) := by decide +kernel
theorem d_He_isolate_261 : decode b_He_isolate 261 = .ok (.ifCond .ne 7, 3) := by decide +kernel
theorem d_He_isolate_264 : decode b_He_isolate 264 = .ok (.iconst 1, 1) := by decide +kernel
theorem d_He_isolate_265 : decode b_He_isolate 265 = .ok (.goto 4, 3) := by decide +kernel
theorem d_He_isolate_268 : decode b_He_isolate 268 = .ok (.iconst 0, 1) := by decide +kernel
theorem d_He_isolate_269 : decode b_He_isolate 269 = .ok (.putfield 177, 3) := by decide +kernel
theorem d_He_isolate_272 : decode b_He_isolate 272 = .ok (.aload_n 3, 1) := by decide +kernel
theorem d_He_isolate_273 : decode b_He_isolate 273 = .ok (.iconst 1, 1) := by decide +kernel
theorem d_He_isolate_274 : decode b_He_isolate 274 = .ok (.putfield 115, 3) := by decide +kernel
theorem d_He_isolate_277 : decode b_He_isolate 277 = .ok (.return_, 1) := by decide +kernel
theorem d_He_refine_0 : decode b_He_refine 0 = .ok (.aload_n 0, 1) := by decide +kernel
theorem d_He_refine_1 : decode b_He_refine 1 = .ok (.getfield 35, 3) := by decide +kernel
theorem d_He_refine_4 : decode b_He_refine 4 = .ok (.iload_n 1, 1) := by decide +kernel
theorem d_He_refine_5 : decode b_He_refine 5 = .ok (.aaload, 1) := by decide +kernel
theorem d_He_refine_6 : decode b_He_refine 6 = .ok (.astore 4, 2) := by decide +kernel
theorem d_He_refine_8 : decode b_He_refine 8 = .ok (.iconst 1, 1) := by decide +kernel
theorem d_He_refine_9 : decode b_He_refine 9 = .ok (.istore 5, 2) := by decide +kernel
theorem d_He_refine_11 : decode b_He_refine 11 = .ok (.iconst 0, 1) := by decide +kernel
theorem d_He_refine_12 : decode b_He_refine 12 = .ok (.istore 6, 2) := by decide +kernel
theorem d_He_refine_14 : decode b_He_refine 14 = .ok (.iload 6, 2) := by decide +kernel
theorem d_He_refine_16 : decode b_He_refine 16 = .ok (.sipush 2000, 3) := by decide +kernel
theorem d_He_refine_19 : decode b_He_refine 19 = .ok (.if_icmp .ge 91, 3) := by decide +kernel
theorem d_He_refine_22 : decode b_He_refine 22 = .ok (.aload 4, 2) := by decide +kernel
theorem d_He_refine_24 : decode b_He_refine 24 = .ok (.getfield 177, 3) := by decide +kernel
theorem d_He_refine_27 : decode b_He_refine 27 = .ok (.ifCond .ne 83, 3) := by decide +kernel
theorem d_He_refine_30 : decode b_He_refine 30 = .ok (.aload 4, 2) := by decide +kernel
theorem d_He_refine_32 : decode b_He_refine 32 = .ok (.getfield 156, 3) := by decide +kernel
theorem d_He_refine_35 : decode b_He_refine 35 = .ok (.iload_n 2, 1) := by decide +kernel
theorem d_He_refine_36 : decode b_He_refine 36 = .ok (.if_icmp .ge 74, 3) := by decide +kernel
theorem d_He_refine_39 : decode b_He_refine 39 = .ok (.iload 5, 2) := by decide +kernel
theorem d_He_refine_41 : decode b_He_refine 41 = .ok (.iload_n 2, 1) := by decide +kernel
theorem d_He_refine_42 : decode b_He_refine 42 = .ok (.aload 4, 2) := by decide +kernel
theorem d_He_refine_44 : decode b_He_refine 44 = .ok (.getfield 156, 3) := by decide +kernel
theorem d_He_refine_47 : decode b_He_refine 47 = .ok (.isub, 1) := by decide +kernel
theorem d_He_refine_48 : decode b_He_refine 48 = .ok (.invokestatic 109, 3) := by decide +kernel
theorem d_He_refine_51 : decode b_He_refine 51 = .ok (.istore 7, 2) := by decide +kernel
theorem d_He_refine_53 : decode b_He_refine 53 = .ok (.iload 7, 2) := by decide +kernel
theorem d_He_refine_55 : decode b_He_refine 55 = .ok (.iconst 1, 1) := by decide +kernel
theorem d_He_refine_56 : decode b_He_refine 56 = .ok (.if_icmp .ne 21, 3) := by decide +kernel
theorem d_He_refine_59 : decode b_He_refine 59 = .ok (.aload_n 0, 1) := by decide +kernel
theorem d_He_refine_60 : decode b_He_refine 60 = .ok (.aload 4, 2) := by decide +kernel
theorem d_He_refine_62 : decode b_He_refine 62 = .ok (.aload_n 3, 1) := by decide +kernel
theorem d_He_refine_63 : decode b_He_refine 63 = .ok (.invokevirtual 180, 3) := by decide +kernel
theorem d_He_refine_66 : decode b_He_refine 66 = .ok (.iload 5, 2) := by decide +kernel
theorem d_He_refine_68 : decode b_He_refine 68 = .ok (.iconst 2, 1) := by decide +kernel
theorem d_He_refine_69 : decode b_He_refine 69 = .ok (.invokestatic 80, 3) := by decide +kernel
theorem d_He_refine_72 : decode b_He_refine 72 = .ok (.istore 5, 2) := by decide +kernel
theorem d_He_refine_74 : decode b_He_refine 74 = .ok (.goto 30, 3) := by decide +kernel
theorem d_He_refine_77 : decode b_He_refine 77 = .ok (.aload_n 0, 1) := by decide +kernel
theorem d_He_refine_78 : decode b_He_refine 78 = .ok (.aload 4, 2) := by decide +kernel
theorem d_He_refine_80 : decode b_He_refine 80 = .ok (.iload 7, 2) := by decide +kernel
theorem d_He_refine_82 : decode b_He_refine 82 = .ok (.aload_n 3, 1) := by decide +kernel
theorem d_He_refine_83 : decode b_He_refine 83 = .ok (.invokevirtual 184, 3) := by decide +kernel
theorem d_He_refine_86 : decode b_He_refine 86 = .ok (.ifCond .eq 12, 3) := by decide +kernel
theorem d_He_refine_89 : decode b_He_refine 89 = .ok (.iload 7, 2) := by decide +kernel
theorem d_He_refine_91 : decode b_He_refine 91 = .ok (.iconst 2, 1) := by decide +kernel
theorem d_He_refine_92 : decode b_He_refine 92 = .ok (.imul, 1) := by decide +kernel
theorem d_He_refine_93 : decode b_He_refine 93 = .ok (.istore 5, 2) := by decide +kernel
theorem d_He_refine_95 : decode b_He_refine 95 = .ok (.goto 9, 3) := by decide +kernel
theorem d_He_refine_98 : decode b_He_refine 98 = .ok (.iload 7, 2) := by decide +kernel
theorem d_He_refine_100 : decode b_He_refine 100 = .ok (.iconst 2, 1) := by decide +kernel
theorem d_He_refine_101 : decode b_He_refine 101 = .ok (.idiv, 1) := by decide +kernel
theorem d_He_refine_102 : decode b_He_refine 102 = .ok (.istore 5, 2) := by decide +kernel
theorem d_He_refine_104 : decode b_He_refine 104 = .ok (.iinc 6 1, 3) := by decide +kernel
theorem d_He_refine_107 : decode b_He_refine 107 = .ok (.goto (-93), 3) := by decide +kernel
theorem d_He_refine_110 : decode b_He_refine 110 = .ok (.return_, 1) := by decide +kernel
theorem d_He_halveAtMiddle_0 : decode b_He_halveAtMiddle 0 = .ok (.aload_n 2, 1) := by decide +kernel
theorem d_He_halveAtMiddle_1 : decode b_He_halveAtMiddle 1 = .ok (.getfield 140, 3) := by decide +kernel
theorem d_He_halveAtMiddle_4 : decode b_He_halveAtMiddle 4 = .ok (.astore_n 3, 1) := by decide +kernel
theorem d_He_halveAtMiddle_5 : decode b_He_halveAtMiddle 5 = .ok (.aload_n 1, 1) := by decide +kernel
theorem d_He_halveAtMiddle_6 : decode b_He_halveAtMiddle 6 = .ok (.aload_n 3, 1) := by decide +kernel
theorem d_He_halveAtMiddle_7 : decode b_He_halveAtMiddle 7 = .ok (.invokevirtual 159, 3) := by decide +kernel
theorem d_He_halveAtMiddle_10 : decode b_He_halveAtMiddle 10 = .ok (.aload_n 2, 1) := by decide +kernel
theorem d_He_halveAtMiddle_11 : decode b_He_halveAtMiddle 11 = .ok (.aload_n 0, 1) := by decide +kernel
theorem d_He_halveAtMiddle_12 : decode b_He_halveAtMiddle 12 = .ok (.getfield 29, 3) := by decide +kernel
theorem d_He_halveAtMiddle_15 : decode b_He_halveAtMiddle 15 = .ok (.getfield 57, 3) := by decide +kernel
theorem d_He_halveAtMiddle_18 : decode b_He_halveAtMiddle 18 = .ok (.iconst 0, 1) := by decide +kernel
theorem d_He_halveAtMiddle_19 : decode b_He_halveAtMiddle 19 = .ok (.aaload, 1) := by decide +kernel
theorem d_He_halveAtMiddle_20 : decode b_He_halveAtMiddle 20 = .ok (.aload_n 3, 1) := by decide +kernel
theorem d_He_halveAtMiddle_21 : decode b_He_halveAtMiddle 21 = .ok (.invokevirtual 170, 3) := by decide +kernel
theorem d_He_halveAtMiddle_24 : decode b_He_halveAtMiddle 24 = .ok (.getfield 124, 3) := by decide +kernel
theorem d_He_halveAtMiddle_27 : decode b_He_halveAtMiddle 27 = .ok (.istore 4, 2) := by decide +kernel
theorem d_He_halveAtMiddle_29 : decode b_He_halveAtMiddle 29 = .ok (.aload_n 1, 1) := by decide +kernel
theorem d_He_halveAtMiddle_30 : decode b_He_halveAtMiddle 30 = .ok (.iload 4, 2) := by decide +kernel
theorem d_He_halveAtMiddle_32 : decode b_He_halveAtMiddle 32 = .ok (.ifCond .eq 12, 3) := by decide +kernel
theorem d_He_halveAtMiddle_35 : decode b_He_halveAtMiddle 35 = .ok (.iload 4, 2) := by decide +kernel
theorem d_He_halveAtMiddle_37 : decode b_He_halveAtMiddle 37 = .ok (.aload_n 1, 1) := by decide +kernel
theorem d_He_halveAtMiddle_38 : decode b_He_halveAtMiddle 38 = .ok (.getfield 174, 3) := by decide +kernel
theorem d_He_halveAtMiddle_41 : decode b_He_halveAtMiddle 41 = .ok (.if_icmp .ne 7, 3) := by decide +kernel
theorem d_He_halveAtMiddle_44 : decode b_He_halveAtMiddle 44 = .ok (.iconst 1, 1) := by decide +kernel
theorem d_He_halveAtMiddle_45 : decode b_He_halveAtMiddle 45 = .ok (.goto 4, 3) := by decide +kernel
theorem d_He_halveAtMiddle_48 : decode b_He_halveAtMiddle 48 = .ok (.iconst 0, 1) := by decide +kernel
theorem d_He_halveAtMiddle_49 : decode b_He_halveAtMiddle 49 = .ok (.invokevirtual 163, 3) := by decide +kernel
theorem d_He_halveAtMiddle_52 : decode b_He_halveAtMiddle 52 = .ok (.aload_n 1, 1) := by decide +kernel
theorem d_He_halveAtMiddle_53 : decode b_He_halveAtMiddle 53 = .ok (.iload 4, 2) := by decide +kernel
theorem d_He_halveAtMiddle_55 : decode b_He_halveAtMiddle 55 = .ok (.ifCond .ne 7, 3) := by decide +kernel
theorem d_He_halveAtMiddle_58 : decode b_He_halveAtMiddle 58 = .ok (.iconst 1, 1) := by decide +kernel
theorem d_He_halveAtMiddle_59 : decode b_He_halveAtMiddle 59 = .ok (.goto 4, 3) := by decide +kernel
theorem d_He_halveAtMiddle_62 : decode b_He_halveAtMiddle 62 = .ok (.iconst 0, 1) := by decide +kernel
theorem d_He_halveAtMiddle_63 : decode b_He_halveAtMiddle 63 = .ok (.putfield 177, 3) := by decide +kernel
theorem d_He_halveAtMiddle_66 : decode b_He_halveAtMiddle 66 = .ok (.return_, 1) := by decide +kernel
theorem d_He_leap_0 : decode b_He_leap 0 = .ok (.aload_n 0, 1) := by decide +kernel
theorem d_He_leap_1 : decode b_He_leap 1 = .ok (.getfield 29, 3) := by decide +kernel
theorem d_He_leap_4 : decode b_He_leap 4 = .ok (.getfield 57, 3) := by decide +kernel
theorem d_He_leap_7 : decode b_He_leap 7 = .ok (.iconst 0, 1) := by decide +kernel
theorem d_He_leap_8 : decode b_He_leap 8 = .ok (.aaload, 1) := by decide +kernel
theorem d_He_leap_9 : decode b_He_leap 9 = .ok (.astore 4, 2) := by decide +kernel
theorem d_He_leap_11 : decode b_He_leap 11 = .ok (.aload_n 3, 1) := by decide +kernel
theorem d_He_leap_12 : decode b_He_leap 12 = .ok (.getfield 140, 3) := by decide +kernel
theorem d_He_leap_15 : decode b_He_leap 15 = .ok (.astore 5, 2) := by decide +kernel
theorem d_He_leap_17 : decode b_He_leap 17 = .ok (.aload_n 0, 1) := by decide +kernel
theorem d_He_leap_18 : decode b_He_leap 18 = .ok (.aload_n 1, 1) := by decide +kernel
theorem d_He_leap_19 : decode b_He_leap 19 = .ok (.iload_n 2, 1) := by decide +kernel
theorem d_He_leap_20 : decode b_He_leap 20 = .ok (.aload_n 3, 1) := by decide +kernel
theorem d_He_leap_21 : decode b_He_leap 21 = .ok (.invokevirtual 188, 3) := by decide +kernel
theorem d_He_leap_24 : decode b_He_leap 24 = .ok (.aload_n 3, 1) := by decide +kernel
theorem d_He_leap_25 : decode b_He_leap 25 = .ok (.getfield 192, 3) := by decide +kernel
theorem d_He_leap_28 : decode b_He_leap 28 = .ok (.astore 6, 2) := by decide +kernel
theorem d_He_leap_30 : decode b_He_leap 30 = .ok (.aload_n 1, 1) := by decide +kernel
theorem d_He_leap_31 : decode b_He_leap 31 = .ok (.getfield 156, 3) := by decide +kernel
theorem d_He_leap_34 : decode b_He_leap 34 = .ok (.iload_n 2, 1) := by decide +kernel
theorem d_He_leap_35 : decode b_He_leap 35 = .ok (.iadd, 1) := by decide +kernel
theorem d_He_leap_36 : decode b_He_leap 36 = .ok (.istore 7, 2) := by decide +kernel
theorem d_He_leap_38 : decode b_He_leap 38 = .ok (.aload 5, 2) := by decide +kernel
theorem d_He_leap_40 : decode b_He_leap 40 = .ok (.aload 6, 2) := by decide +kernel
theorem d_He_leap_42 : decode b_He_leap 42 = .ok (.iload 7, 2) := by decide +kernel
theorem d_He_leap_44 : decode b_He_leap 44 = .ok (.invokevirtual 195, 3) := by decide +kernel
theorem d_He_leap_47 : decode b_He_leap 47 = .ok (.aload_n 3, 1) := by decide +kernel
theorem d_He_leap_48 : decode b_He_leap 48 = .ok (.aload 4, 2) := by decide +kernel
theorem d_He_leap_50 : decode b_He_leap 50 = .ok (.aload 5, 2) := by decide +kernel
theorem d_He_leap_52 : decode b_He_leap 52 = .ok (.invokevirtual 170, 3) := by decide +kernel
theorem d_He_leap_55 : decode b_He_leap 55 = .ok (.getfield 124, 3) := by decide +kernel
theorem d_He_leap_58 : decode b_He_leap 58 = .ok (.istore 8, 2) := by decide +kernel
theorem d_He_leap_60 : decode b_He_leap 60 = .ok (.iconst 0, 1) := by decide +kernel
theorem d_He_leap_61 : decode b_He_leap 61 = .ok (.istore 9, 2) := by decide +kernel
theorem d_He_leap_63 : decode b_He_leap 63 = .ok (.iload 8, 2) := by decide +kernel
theorem d_He_leap_65 : decode b_He_leap 65 = .ok (.ifCond .eq 44, 3) := by decide +kernel
theorem d_He_leap_68 : decode b_He_leap 68 = .ok (.aload 6, 2) := by decide +kernel
theorem d_He_leap_70 : decode b_He_leap 70 = .ok (.iload 8, 2) := by decide +kernel
theorem d_He_leap_72 : decode b_He_leap 72 = .ok (.aload_n 1, 1) := by decide +kernel
theorem d_He_leap_73 : decode b_He_leap 73 = .ok (.getfield 174, 3) := by decide +kernel
theorem d_He_leap_76 : decode b_He_leap 76 = .ok (.if_icmp .ne 7, 3) := by decide +kernel
theorem d_He_leap_79 : decode b_He_leap 79 = .ok (.iconst 1, 1) := by decide +kernel
theorem d_He_leap_80 : decode b_He_leap 80 = .ok (.goto 4, 3) := by decide +kernel
theorem d_He_leap_83 : decode b_He_leap 83 = .ok (.iconst (-1), 1) := by decide +kernel
theorem d_He_leap_84 : decode b_He_leap 84 = .ok (.invokevirtual 199, 3) := by decide +kernel
theorem d_He_leap_87 : decode b_He_leap 87 = .ok (.aload 5, 2) := by decide +kernel
theorem d_He_leap_89 : decode b_He_leap 89 = .ok (.aload 6, 2) := by decide +kernel
theorem d_He_leap_91 : decode b_He_leap 91 = .ok (.iload 7, 2) := by decide +kernel
theorem d_He_leap_93 : decode b_He_leap 93 = .ok (.invokevirtual 195, 3) := by decide +kernel
theorem d_He_leap_96 : decode b_He_leap 96 = .ok (.aload_n 3, 1) := by decide +kernel
theorem d_He_leap_97 : decode b_He_leap 97 = .ok (.aload 4, 2) := by decide +kernel
theorem d_He_leap_99 : decode b_He_leap 99 = .ok (.aload 5, 2) := by decide +kernel
theorem d_He_leap_101 : decode b_He_leap 101 = .ok (.invokevirtual 170, 3) := by decide +kernel
theorem d_He_leap_104 : decode b_He_leap 104 = .ok (.getfield 124, 3) := by decide +kernel
theorem d_He_leap_107 : decode b_He_leap 107 = .ok (.istore 9, 2) := by decide +kernel
theorem d_He_leap_109 : decode b_He_leap 109 = .ok (.iload 8, 2) := by decide +kernel
theorem d_He_leap_111 : decode b_He_leap 111 = .ok (.ifCond .eq 12, 3) := by decide +kernel
theorem d_He_leap_114 : decode b_He_leap 114 = .ok (.iload 9, 2) := by decide +kernel
theorem d_He_leap_116 : decode b_He_leap 116 = .ok (.iload 8, 2) := by decide +kernel
theorem d_He_leap_118 : decode b_He_leap 118 = .ok (.if_icmp .ne 5, 3) := by decide +kernel
theorem d_He_leap_121 : decode b_He_leap 121 = .ok (.iconst 0, 1) := by decide +kernel
theorem d_He_leap_122 : decode b_He_leap 122 = .ok (.ireturn, 1) := by decide +kernel
theorem d_He_leap_123 : decode b_He_leap 123 = .ok (.iload 9, 2) := by decide +kernel
theorem d_He_leap_125 : decode b_He_leap 125 = .ok (.ifCond .eq 18, 3) := by decide +kernel
theorem d_He_leap_128 : decode b_He_leap 128 = .ok (.iload 8, 2) := by decide +kernel
theorem d_He_leap_130 : decode b_He_leap 130 = .ok (.aload_n 1, 1) := by decide +kernel
theorem d_He_leap_131 : decode b_He_leap 131 = .ok (.getfield 174, 3) := by decide +kernel
theorem d_He_leap_134 : decode b_He_leap 134 = .ok (.if_icmp .ne 9, 3) := by decide +kernel
theorem d_He_leap_137 : decode b_He_leap 137 = .ok (.aload 6, 2) := by decide +kernel
theorem d_He_leap_139 : decode b_He_leap 139 = .ok (.iconst (-1), 1) := by decide +kernel
theorem d_He_leap_140 : decode b_He_leap 140 = .ok (.invokevirtual 199, 3) := by decide +kernel
theorem d_He_leap_143 : decode b_He_leap 143 = .ok (.aload_n 1, 1) := by decide +kernel
theorem d_He_leap_144 : decode b_He_leap 144 = .ok (.getfield 150, 3) := by decide +kernel
theorem d_He_leap_147 : decode b_He_leap 147 = .ok (.aload 6, 2) := by decide +kernel
theorem d_He_leap_149 : decode b_He_leap 149 = .ok (.invokevirtual 202, 3) := by decide +kernel
theorem d_He_leap_152 : decode b_He_leap 152 = .ok (.aload_n 1, 1) := by decide +kernel
theorem d_He_leap_153 : decode b_He_leap 153 = .ok (.iload 7, 2) := by decide +kernel
theorem d_He_leap_155 : decode b_He_leap 155 = .ok (.putfield 156, 3) := by decide +kernel
theorem d_He_leap_158 : decode b_He_leap 158 = .ok (.aload_n 1, 1) := by decide +kernel
theorem d_He_leap_159 : decode b_He_leap 159 = .ok (.iload 9, 2) := by decide +kernel
theorem d_He_leap_161 : decode b_He_leap 161 = .ok (.ifCond .ne 7, 3) := by decide +kernel
theorem d_He_leap_164 : decode b_He_leap 164 = .ok (.iconst 1, 1) := by decide +kernel
theorem d_He_leap_165 : decode b_He_leap 165 = .ok (.goto 4, 3) := by decide +kernel
theorem d_He_leap_168 : decode b_He_leap 168 = .ok (.iconst 0, 1) := by decide +kernel
theorem d_He_leap_169 : decode b_He_leap 169 = .ok (.putfield 177, 3) := by decide +kernel
theorem d_He_leap_172 : decode b_He_leap 172 = .ok (.iconst 1, 1) := by decide +kernel
theorem d_He_leap_173 : decode b_He_leap 173 = .ok (.ireturn, 1) := by decide +kernel
theorem d_He_guessOnLine_0 : decode b_He_guessOnLine 0 = .ok (.aload_n 3, 1) := by decide +kernel
theorem d_He_guessOnLine_1 : decode b_He_guessOnLine 1 = .ok (.getfield 140, 3) := by decide +kernel
theorem d_He_guessOnLine_4 : decode b_He_guessOnLine 4 = .ok (.astore 4, 2) := by decide +kernel
theorem d_He_guessOnLine_6 : decode b_He_guessOnLine 6 = .ok (.aload_n 1, 1) := by decide +kernel
theorem d_He_guessOnLine_7 : decode b_He_guessOnLine 7 = .ok (.aload 4, 2) := by decide +kernel
theorem d_He_guessOnLine_9 : decode b_He_guessOnLine 9 = .ok (.invokevirtual 167, 3) := by decide +kernel
theorem d_He_guessOnLine_12 : decode b_He_guessOnLine 12 = .ok (.aload_n 3, 1) := by decide +kernel
theorem d_He_guessOnLine_13 : decode b_He_guessOnLine 13 = .ok (.getfield 205, 3) := by decide +kernel
theorem d_He_guessOnLine_16 : decode b_He_guessOnLine 16 = .ok (.aload_n 3, 1) := by decide +kernel
theorem d_He_guessOnLine_17 : decode b_He_guessOnLine 17 = .ok (.aload_n 0, 1) := by decide +kernel
theorem d_He_guessOnLine_18 : decode b_He_guessOnLine 18 = .ok (.getfield 29, 3) := by decide +kernel
theorem d_He_guessOnLine_21 : decode b_He_guessOnLine 21 = .ok (.getfield 57, 3) := by decide +kernel
theorem d_He_guessOnLine_24 : decode b_He_guessOnLine 24 = .ok (.iconst 0, 1) := by decide +kernel
theorem d_He_guessOnLine_25 : decode b_He_guessOnLine 25 = .ok (.aaload, 1) := by decide +kernel
theorem d_He_guessOnLine_26 : decode b_He_guessOnLine 26 = .ok (.aload 4, 2) := by decide +kernel
theorem d_He_guessOnLine_28 : decode b_He_guessOnLine 28 = .ok (.invokevirtual 170, 3) := by decide +kernel
theorem d_He_guessOnLine_31 : decode b_He_guessOnLine 31 = .ok (.invokevirtual 202, 3) := by decide +kernel
theorem d_He_guessOnLine_34 : decode b_He_guessOnLine 34 = .ok (.aload_n 1, 1) := by decide +kernel
theorem d_He_guessOnLine_35 : decode b_He_guessOnLine 35 = .ok (.aload 4, 2) := by decide +kernel
theorem d_He_guessOnLine_37 : decode b_He_guessOnLine 37 = .ok (.invokevirtual 207, 3) := by decide +kernel
theorem d_He_guessOnLine_40 : decode b_He_guessOnLine 40 = .ok (.aload_n 3, 1) := by decide +kernel
theorem d_He_guessOnLine_41 : decode b_He_guessOnLine 41 = .ok (.getfield 210, 3) := by decide +kernel
theorem d_He_guessOnLine_44 : decode b_He_guessOnLine 44 = .ok (.aload_n 3, 1) := by decide +kernel
theorem d_He_guessOnLine_45 : decode b_He_guessOnLine 45 = .ok (.aload_n 0, 1) := by decide +kernel
theorem d_He_guessOnLine_46 : decode b_He_guessOnLine 46 = .ok (.getfield 29, 3) := by decide +kernel
theorem d_He_guessOnLine_49 : decode b_He_guessOnLine 49 = .ok (.getfield 57, 3) := by decide +kernel
theorem d_He_guessOnLine_52 : decode b_He_guessOnLine 52 = .ok (.iconst 0, 1) := by decide +kernel
theorem d_He_guessOnLine_53 : decode b_He_guessOnLine 53 = .ok (.aaload, 1) := by decide +kernel
theorem d_He_guessOnLine_54 : decode b_He_guessOnLine 54 = .ok (.aload 4, 2) := by decide +kernel
theorem d_He_guessOnLine_56 : decode b_He_guessOnLine 56 = .ok (.invokevirtual 170, 3) := by decide +kernel
theorem d_He_guessOnLine_59 : decode b_He_guessOnLine 59 = .ok (.invokevirtual 202, 3) := by decide +kernel
theorem d_He_guessOnLine_62 : decode b_He_guessOnLine 62 = .ok (.aload_n 3, 1) := by decide +kernel
theorem d_He_guessOnLine_63 : decode b_He_guessOnLine 63 = .ok (.getfield 210, 3) := by decide +kernel
theorem d_He_guessOnLine_66 : decode b_He_guessOnLine 66 = .ok (.aload_n 3, 1) := by decide +kernel
theorem d_He_guessOnLine_67 : decode b_He_guessOnLine 67 = .ok (.getfield 205, 3) := by decide +kernel
theorem d_He_guessOnLine_70 : decode b_He_guessOnLine 70 = .ok (.iconst (-1), 1) := by decide +kernel
theorem d_He_guessOnLine_71 : decode b_He_guessOnLine 71 = .ok (.invokevirtual 213, 3) := by decide +kernel
theorem d_He_guessOnLine_74 : decode b_He_guessOnLine 74 = .ok (.aload_n 3, 1) := by decide +kernel
theorem d_He_guessOnLine_75 : decode b_He_guessOnLine 75 = .ok (.getfield 210, 3) := by decide +kernel
theorem d_He_guessOnLine_78 : decode b_He_guessOnLine 78 = .ok (.aload_n 3, 1) := by decide +kernel
theorem d_He_guessOnLine_79 : decode b_He_guessOnLine 79 = .ok (.getfield 210, 3) := by decide +kernel
theorem d_He_guessOnLine_82 : decode b_He_guessOnLine 82 = .ok (.getfield 124, 3) := by decide +kernel
theorem d_He_guessOnLine_85 : decode b_He_guessOnLine 85 = .ok (.invokestatic 216, 3) := by decide +kernel
theorem d_He_guessOnLine_88 : decode b_He_guessOnLine 88 = .ok (.putfield 124, 3) := by decide +kernel
theorem d_He_guessOnLine_91 : decode b_He_guessOnLine 91 = .ok (.aload_n 3, 1) := by decide +kernel
theorem d_He_guessOnLine_92 : decode b_He_guessOnLine 92 = .ok (.getfield 205, 3) := by decide +kernel
theorem d_He_guessOnLine_95 : decode b_He_guessOnLine 95 = .ok (.aload_n 3, 1) := by decide +kernel
theorem d_He_guessOnLine_96 : decode b_He_guessOnLine 96 = .ok (.getfield 205, 3) := by decide +kernel
theorem d_He_guessOnLine_99 : decode b_He_guessOnLine 99 = .ok (.getfield 124, 3) := by decide +kernel
theorem d_He_guessOnLine_102 : decode b_He_guessOnLine 102 = .ok (.invokestatic 216, 3) := by decide +kernel
theorem d_He_guessOnLine_105 : decode b_He_guessOnLine 105 = .ok (.putfield 124, 3) := by decide +kernel
theorem d_He_guessOnLine_108 : decode b_He_guessOnLine 108 = .ok (.aload_n 3, 1) := by decide +kernel
theorem d_He_guessOnLine_109 : decode b_He_guessOnLine 109 = .ok (.getfield 205, 3) := by decide +kernel
theorem d_He_guessOnLine_112 : decode b_He_guessOnLine 112 = .ok (.iload_n 2, 1) := by decide +kernel
theorem d_He_guessOnLine_113 : decode b_He_guessOnLine 113 = .ok (.iconst 1, 1) := by decide +kernel
theorem d_He_guessOnLine_114 : decode b_He_guessOnLine 114 = .ok (.iadd, 1) := by decide +kernel
theorem d_He_guessOnLine_115 : decode b_He_guessOnLine 115 = .ok (.invokevirtual 219, 3) := by decide +kernel
theorem d_He_guessOnLine_118 : decode b_He_guessOnLine 118 = .ok (.aload_n 3, 1) := by decide +kernel
theorem d_He_guessOnLine_119 : decode b_He_guessOnLine 119 = .ok (.getfield 205, 3) := by decide +kernel
theorem d_He_guessOnLine_122 : decode b_He_guessOnLine 122 = .ok (.aload_n 3, 1) := by decide +kernel
theorem d_He_guessOnLine_123 : decode b_He_guessOnLine 123 = .ok (.getfield 210, 3) := by decide +kernel
theorem d_He_guessOnLine_126 : decode b_He_guessOnLine 126 = .ok (.iconst 1, 1) := by decide +kernel
theorem d_He_guessOnLine_127 : decode b_He_guessOnLine 127 = .ok (.invokevirtual 213, 3) := by decide +kernel
theorem d_He_guessOnLine_130 : decode b_He_guessOnLine 130 = .ok (.aload_n 3, 1) := by decide +kernel
theorem d_He_guessOnLine_131 : decode b_He_guessOnLine 131 = .ok (.getfield 210, 3) := by decide +kernel
theorem d_He_guessOnLine_134 : decode b_He_guessOnLine 134 = .ok (.iconst 1, 1) := by decide +kernel
theorem d_He_guessOnLine_135 : decode b_He_guessOnLine 135 = .ok (.invokevirtual 219, 3) := by decide +kernel
theorem d_He_guessOnLine_138 : decode b_He_guessOnLine 138 = .ok (.aload_n 3, 1) := by decide +kernel
theorem d_He_guessOnLine_139 : decode b_He_guessOnLine 139 = .ok (.getfield 222, 3) := by decide +kernel
theorem d_He_guessOnLine_142 : decode b_He_guessOnLine 142 = .ok (.aload_n 3, 1) := by decide +kernel
theorem d_He_guessOnLine_143 : decode b_He_guessOnLine 143 = .ok (.getfield 205, 3) := by decide +kernel
theorem d_He_guessOnLine_146 : decode b_He_guessOnLine 146 = .ok (.aload_n 3, 1) := by decide +kernel
theorem d_He_guessOnLine_147 : decode b_He_guessOnLine 147 = .ok (.getfield 210, 3) := by decide +kernel
theorem d_He_guessOnLine_150 : decode b_He_guessOnLine 150 = .ok (.invokevirtual 226, 3) := by decide +kernel
theorem d_He_guessOnLine_153 : decode b_He_guessOnLine 153 = .ok (.aload_n 3, 1) := by decide +kernel
theorem d_He_guessOnLine_154 : decode b_He_guessOnLine 154 = .ok (.getfield 192, 3) := by decide +kernel
theorem d_He_guessOnLine_157 : decode b_He_guessOnLine 157 = .ok (.aload_n 1, 1) := by decide +kernel
theorem d_He_guessOnLine_158 : decode b_He_guessOnLine 158 = .ok (.getfield 150, 3) := by decide +kernel
theorem d_He_guessOnLine_161 : decode b_He_guessOnLine 161 = .ok (.invokevirtual 202, 3) := by decide +kernel
theorem d_He_guessOnLine_164 : decode b_He_guessOnLine 164 = .ok (.aload_n 3, 1) := by decide +kernel
theorem d_He_guessOnLine_165 : decode b_He_guessOnLine 165 = .ok (.getfield 192, 3) := by decide +kernel
theorem d_He_guessOnLine_168 : decode b_He_guessOnLine 168 = .ok (.iload_n 2, 1) := by decide +kernel
theorem d_He_guessOnLine_169 : decode b_He_guessOnLine 169 = .ok (.invokevirtual 219, 3) := by decide +kernel
theorem d_He_guessOnLine_172 : decode b_He_guessOnLine 172 = .ok (.aload_n 3, 1) := by decide +kernel
theorem d_He_guessOnLine_173 : decode b_He_guessOnLine 173 = .ok (.getfield 192, 3) := by decide +kernel
theorem d_He_guessOnLine_176 : decode b_He_guessOnLine 176 = .ok (.aload_n 3, 1) := by decide +kernel
theorem d_He_guessOnLine_177 : decode b_He_guessOnLine 177 = .ok (.getfield 222, 3) := by decide +kernel
theorem d_He_guessOnLine_180 : decode b_He_guessOnLine 180 = .ok (.getfield 232, 3) := by decide +kernel
theorem d_He_guessOnLine_183 : decode b_He_guessOnLine 183 = .ok (.iconst 1, 1) := by decide +kernel
theorem d_He_guessOnLine_184 : decode b_He_guessOnLine 184 = .ok (.invokevirtual 213, 3) := by decide +kernel
theorem d_He_guessOnLine_187 : decode b_He_guessOnLine 187 = .ok (.return_, 1) := by decide +kernel
theorem d_He_floorTwo_0 : decode b_He_floorTwo 0 = .ok (.aload_n 0, 1) := by decide +kernel
theorem d_He_floorTwo_1 : decode b_He_floorTwo 1 = .ok (.getfield 35, 3) := by decide +kernel
theorem d_He_floorTwo_4 : decode b_He_floorTwo 4 = .ok (.iload_n 1, 1) := by decide +kernel
theorem d_He_floorTwo_5 : decode b_He_floorTwo 5 = .ok (.aaload, 1) := by decide +kernel
theorem d_He_floorTwo_6 : decode b_He_floorTwo 6 = .ok (.astore 4, 2) := by decide +kernel
theorem d_He_floorTwo_8 : decode b_He_floorTwo 8 = .ok (.aload_n 3, 1) := by decide +kernel
theorem d_He_floorTwo_9 : decode b_He_floorTwo 9 = .ok (.getfield 205, 3) := by decide +kernel
theorem d_He_floorTwo_12 : decode b_He_floorTwo 12 = .ok (.aload 4, 2) := by decide +kernel
theorem d_He_floorTwo_14 : decode b_He_floorTwo 14 = .ok (.getfield 150, 3) := by decide +kernel
theorem d_He_floorTwo_17 : decode b_He_floorTwo 17 = .ok (.invokevirtual 202, 3) := by decide +kernel
theorem d_He_floorTwo_20 : decode b_He_floorTwo 20 = .ok (.aload_n 3, 1) := by decide +kernel
theorem d_He_floorTwo_21 : decode b_He_floorTwo 21 = .ok (.getfield 205, 3) := by decide +kernel
theorem d_He_floorTwo_24 : decode b_He_floorTwo 24 = .ok (.iload_n 2, 1) := by decide +kernel
theorem d_He_floorTwo_25 : decode b_He_floorTwo 25 = .ok (.aload 4, 2) := by decide +kernel
theorem d_He_floorTwo_27 : decode b_He_floorTwo 27 = .ok (.getfield 156, 3) := by decide +kernel
theorem d_He_floorTwo_30 : decode b_He_floorTwo 30 = .ok (.isub, 1) := by decide +kernel
theorem d_He_floorTwo_31 : decode b_He_floorTwo 31 = .ok (.invokevirtual 235, 3) := by decide +kernel
theorem d_He_floorTwo_34 : decode b_He_floorTwo 34 = .ok (.aload_n 3, 1) := by decide +kernel
theorem d_He_floorTwo_35 : decode b_He_floorTwo 35 = .ok (.getfield 205, 3) := by decide +kernel
theorem d_He_floorTwo_38 : decode b_He_floorTwo 38 = .ok (.areturn, 1) := by decide +kernel
theorem d_He_floorTen_0 : decode b_He_floorTen 0 = .ok (.aload_n 0, 1) := by decide +kernel
theorem d_He_floorTen_1 : decode b_He_floorTen 1 = .ok (.getfield 35, 3) := by decide +kernel
theorem d_He_floorTen_4 : decode b_He_floorTen 4 = .ok (.iload_n 1, 1) := by decide +kernel
theorem d_He_floorTen_5 : decode b_He_floorTen 5 = .ok (.aaload, 1) := by decide +kernel
theorem d_He_floorTen_6 : decode b_He_floorTen 6 = .ok (.astore 4, 2) := by decide +kernel
theorem d_He_floorTen_8 : decode b_He_floorTen 8 = .ok (.aload_n 3, 1) := by decide +kernel
theorem d_He_floorTen_9 : decode b_He_floorTen 9 = .ok (.iload_n 2, 1) := by decide +kernel
theorem d_He_floorTen_10 : decode b_He_floorTen 10 = .ok (.invokevirtual 238, 3) := by decide +kernel
theorem d_He_floorTen_13 : decode b_He_floorTen 13 = .ok (.aload_n 3, 1) := by decide +kernel
theorem d_He_floorTen_14 : decode b_He_floorTen 14 = .ok (.getfield 205, 3) := by decide +kernel
theorem d_He_floorTen_17 : decode b_He_floorTen 17 = .ok (.aload 4, 2) := by decide +kernel
theorem d_He_floorTen_19 : decode b_He_floorTen 19 = .ok (.getfield 150, 3) := by decide +kernel
theorem d_He_floorTen_22 : decode b_He_floorTen 22 = .ok (.aload_n 3, 1) := by decide +kernel
theorem d_He_floorTen_23 : decode b_He_floorTen 23 = .ok (.getfield 241, 3) := by decide +kernel
theorem d_He_floorTen_26 : decode b_He_floorTen 26 = .ok (.invokevirtual 244, 3) := by decide +kernel
theorem d_He_floorTen_29 : decode b_He_floorTen 29 = .ok (.aload_n 3, 1) := by decide +kernel
theorem d_He_floorTen_30 : decode b_He_floorTen 30 = .ok (.getfield 210, 3) := by decide +kernel
theorem d_He_floorTen_33 : decode b_He_floorTen 33 = .ok (.aload_n 3, 1) := by decide +kernel
theorem d_He_floorTen_34 : decode b_He_floorTen 34 = .ok (.getfield 205, 3) := by decide +kernel
theorem d_He_floorTen_37 : decode b_He_floorTen 37 = .ok (.invokevirtual 202, 3) := by decide +kernel
theorem d_He_floorTen_40 : decode b_He_floorTen 40 = .ok (.aload_n 3, 1) := by decide +kernel
theorem d_He_floorTen_41 : decode b_He_floorTen 41 = .ok (.getfield 210, 3) := by decide +kernel
theorem d_He_floorTen_44 : decode b_He_floorTen 44 = .ok (.aload_n 3, 1) := by decide +kernel
theorem d_He_floorTen_45 : decode b_He_floorTen 45 = .ok (.getfield 241, 3) := by decide +kernel
theorem d_He_floorTen_48 : decode b_He_floorTen 48 = .ok (.iconst 1, 1) := by decide +kernel
theorem d_He_floorTen_49 : decode b_He_floorTen 49 = .ok (.invokevirtual 213, 3) := by decide +kernel
theorem d_He_floorTen_52 : decode b_He_floorTen 52 = .ok (.aload_n 3, 1) := by decide +kernel
theorem d_He_floorTen_53 : decode b_He_floorTen 53 = .ok (.getfield 210, 3) := by decide +kernel
theorem d_He_floorTen_56 : decode b_He_floorTen 56 = .ok (.iconst (-1), 1) := by decide +kernel
theorem d_He_floorTen_57 : decode b_He_floorTen 57 = .ok (.invokevirtual 199, 3) := by decide +kernel
theorem d_He_floorTen_60 : decode b_He_floorTen 60 = .ok (.aload_n 3, 1) := by decide +kernel
theorem d_He_floorTen_61 : decode b_He_floorTen 61 = .ok (.getfield 205, 3) := by decide +kernel
theorem d_He_floorTen_64 : decode b_He_floorTen 64 = .ok (.aload 4, 2) := by decide +kernel
theorem d_He_floorTen_66 : decode b_He_floorTen 66 = .ok (.getfield 156, 3) := by decide +kernel
theorem d_He_floorTen_69 : decode b_He_floorTen 69 = .ok (.ineg, 1) := by decide +kernel
theorem d_He_floorTen_70 : decode b_He_floorTen 70 = .ok (.invokevirtual 235, 3) := by decide +kernel
theorem d_He_floorTen_73 : decode b_He_floorTen 73 = .ok (.aload_n 3, 1) := by decide +kernel
theorem d_He_floorTen_74 : decode b_He_floorTen 74 = .ok (.getfield 210, 3) := by decide +kernel
theorem d_He_floorTen_77 : decode b_He_floorTen 77 = .ok (.aload 4, 2) := by decide +kernel
theorem d_He_floorTen_79 : decode b_He_floorTen 79 = .ok (.getfield 156, 3) := by decide +kernel
theorem d_He_floorTen_82 : decode b_He_floorTen 82 = .ok (.ineg, 1) := by decide +kernel
theorem d_He_floorTen_83 : decode b_He_floorTen 83 = .ok (.invokevirtual 235, 3) := by decide +kernel
theorem d_He_floorTen_86 : decode b_He_floorTen 86 = .ok (.aload 4, 2) := by decide +kernel
theorem d_He_floorTen_88 : decode b_He_floorTen 88 = .ok (.getfield 177, 3) := by decide +kernel
theorem d_He_floorTen_91 : decode b_He_floorTen 91 = .ok (.ifCond .ne 17, 3) := by decide +kernel
theorem d_He_floorTen_94 : decode b_He_floorTen 94 = .ok (.aload_n 3, 1) := by decide +kernel
theorem d_He_floorTen_95 : decode b_He_floorTen 95 = .ok (.getfield 205, 3) := by decide +kernel
theorem d_He_floorTen_98 : decode b_He_floorTen 98 = .ok (.aload_n 3, 1) := by decide +kernel
theorem d_He_floorTen_99 : decode b_He_floorTen 99 = .ok (.getfield 210, 3) := by decide +kernel
theorem d_He_floorTen_102 : decode b_He_floorTen 102 = .ok (.invokevirtual 247, 3) := by decide +kernel
theorem d_He_floorTen_105 : decode b_He_floorTen 105 = .ok (.ifCond .eq 8, 3) := by decide +kernel
theorem d_He_floorTen_108 : decode b_He_floorTen 108 = .ok (.aload_n 3, 1) := by decide +kernel
theorem d_He_floorTen_109 : decode b_He_floorTen 109 = .ok (.getfield 205, 3) := by decide +kernel
theorem d_He_floorTen_112 : decode b_He_floorTen 112 = .ok (.areturn, 1) := by decide +kernel
theorem d_He_floorTen_113 : decode b_He_floorTen 113 = .ok (.aload_n 3, 1) := by decide +kernel
theorem d_He_floorTen_114 : decode b_He_floorTen 114 = .ok (.aload_n 0, 1) := by decide +kernel
theorem d_He_floorTen_115 : decode b_He_floorTen 115 = .ok (.getfield 29, 3) := by decide +kernel
theorem d_He_floorTen_118 : decode b_He_floorTen 118 = .ok (.getfield 57, 3) := by decide +kernel
theorem d_He_floorTen_121 : decode b_He_floorTen 121 = .ok (.iconst 0, 1) := by decide +kernel
theorem d_He_floorTen_122 : decode b_He_floorTen 122 = .ok (.aaload, 1) := by decide +kernel
theorem d_He_floorTen_123 : decode b_He_floorTen 123 = .ok (.aload_n 3, 1) := by decide +kernel
theorem d_He_floorTen_124 : decode b_He_floorTen 124 = .ok (.getfield 210, 3) := by decide +kernel
theorem d_He_floorTen_127 : decode b_He_floorTen 127 = .ok (.aload_n 3, 1) := by decide +kernel
theorem d_He_floorTen_128 : decode b_He_floorTen 128 = .ok (.getfield 241, 3) := by decide +kernel
theorem d_He_floorTen_131 : decode b_He_floorTen 131 = .ok (.invokevirtual 251, 3) := by decide +kernel
theorem d_He_floorTen_134 : decode b_He_floorTen 134 = .ok (.istore 5, 2) := by decide +kernel
theorem d_He_floorTen_136 : decode b_He_floorTen 136 = .ok (.iload 5, 2) := by decide +kernel
theorem d_He_floorTen_138 : decode b_He_floorTen 138 = .ok (.ifCond .eq 13, 3) := by decide +kernel
theorem d_He_floorTen_141 : decode b_He_floorTen 141 = .ok (.iload 5, 2) := by decide +kernel
theorem d_He_floorTen_143 : decode b_He_floorTen 143 = .ok (.aload 4, 2) := by decide +kernel
theorem d_He_floorTen_145 : decode b_He_floorTen 145 = .ok (.getfield 174, 3) := by decide +kernel
theorem d_He_floorTen_148 : decode b_He_floorTen 148 = .ok (.if_icmp .ne 10, 3) := by decide +kernel
theorem d_He_floorTen_151 : decode b_He_floorTen 151 = .ok (.aload_n 3, 1) := by decide +kernel
theorem d_He_floorTen_152 : decode b_He_floorTen 152 = .ok (.getfield 210, 3) := by decide +kernel
theorem d_He_floorTen_155 : decode b_He_floorTen 155 = .ok (.goto 7, 3) := by decide +kernel
theorem d_He_floorTen_158 : decode b_He_floorTen 158 = .ok (.aload_n 3, 1) := by decide +kernel
theorem d_He_floorTen_159 : decode b_He_floorTen 159 = .ok (.getfield 205, 3) := by decide +kernel
theorem d_He_floorTen_162 : decode b_He_floorTen 162 = .ok (.areturn, 1) := by decide +kernel
theorem d_He_firstLevelApart_0 : decode b_He_firstLevelApart 0 = .ok (.aload_n 0, 1) := by decide +kernel
theorem d_He_firstLevelApart_1 : decode b_He_firstLevelApart 1 = .ok (.getfield 35, 3) := by decide +kernel
theorem d_He_firstLevelApart_4 : decode b_He_firstLevelApart 4 = .ok (.iload_n 1, 1) := by decide +kernel
theorem d_He_firstLevelApart_5 : decode b_He_firstLevelApart 5 = .ok (.aaload, 1) := by decide +kernel
theorem d_He_firstLevelApart_6 : decode b_He_firstLevelApart 6 = .ok (.astore_n 3, 1) := by decide +kernel
theorem d_He_firstLevelApart_7 : decode b_He_firstLevelApart 7 = .ok (.aload_n 0, 1) := by decide +kernel
theorem d_He_firstLevelApart_8 : decode b_He_firstLevelApart 8 = .ok (.getfield 35, 3) := by decide +kernel
theorem d_He_firstLevelApart_11 : decode b_He_firstLevelApart 11 = .ok (.iload_n 1, 1) := by decide +kernel
theorem d_He_firstLevelApart_12 : decode b_He_firstLevelApart 12 = .ok (.iconst 1, 1) := by decide +kernel
theorem d_He_firstLevelApart_13 : decode b_He_firstLevelApart 13 = .ok (.iadd, 1) := by decide +kernel
theorem d_He_firstLevelApart_14 : decode b_He_firstLevelApart 14 = .ok (.aaload, 1) := by decide +kernel
theorem d_He_firstLevelApart_15 : decode b_He_firstLevelApart 15 = .ok (.astore 4, 2) := by decide +kernel
theorem d_He_firstLevelApart_17 : decode b_He_firstLevelApart 17 = .ok (.aload_n 3, 1) := by decide +kernel
theorem d_He_firstLevelApart_18 : decode b_He_firstLevelApart 18 = .ok (.getfield 156, 3) := by decide +kernel
theorem d_He_firstLevelApart_21 : decode b_He_firstLevelApart 21 = .ok (.aload 4, 2) := by decide +kernel
theorem d_He_firstLevelApart_23 : decode b_He_firstLevelApart 23 = .ok (.getfield 156, 3) := by decide +kernel
theorem d_He_firstLevelApart_26 : decode b_He_firstLevelApart 26 = .ok (.invokestatic 109, 3) := by decide +kernel
theorem d_He_firstLevelApart_29 : decode b_He_firstLevelApart 29 = .ok (.istore 5, 2) := by decide +kernel
theorem d_He_firstLevelApart_31 : decode b_He_firstLevelApart 31 = .ok (.aload_n 2, 1) := by decide +kernel
theorem d_He_firstLevelApart_32 : decode b_He_firstLevelApart 32 = .ok (.getfield 205, 3) := by decide +kernel
theorem d_He_firstLevelApart_35 : decode b_He_firstLevelApart 35 = .ok (.aload_n 3, 1) := by decide +kernel
theorem d_He_firstLevelApart_36 : decode b_He_firstLevelApart 36 = .ok (.getfield 150, 3) := by decide +kernel
theorem d_He_firstLevelApart_39 : decode b_He_firstLevelApart 39 = .ok (.invokevirtual 202, 3) := by decide +kernel
theorem d_He_firstLevelApart_42 : decode b_He_firstLevelApart 42 = .ok (.aload_n 2, 1) := by decide +kernel
theorem d_He_firstLevelApart_43 : decode b_He_firstLevelApart 43 = .ok (.getfield 210, 3) := by decide +kernel
theorem d_He_firstLevelApart_46 : decode b_He_firstLevelApart 46 = .ok (.aload 4, 2) := by decide +kernel
theorem d_He_firstLevelApart_48 : decode b_He_firstLevelApart 48 = .ok (.getfield 150, 3) := by decide +kernel
theorem d_He_firstLevelApart_51 : decode b_He_firstLevelApart 51 = .ok (.invokevirtual 202, 3) := by decide +kernel
theorem d_He_firstLevelApart_54 : decode b_He_firstLevelApart 54 = .ok (.aload_n 2, 1) := by decide +kernel
theorem d_He_firstLevelApart_55 : decode b_He_firstLevelApart 55 = .ok (.getfield 205, 3) := by decide +kernel
theorem d_He_firstLevelApart_58 : decode b_He_firstLevelApart 58 = .ok (.iload 5, 2) := by decide +kernel
theorem d_He_firstLevelApart_60 : decode b_He_firstLevelApart 60 = .ok (.aload_n 3, 1) := by decide +kernel
theorem d_He_firstLevelApart_61 : decode b_He_firstLevelApart 61 = .ok (.getfield 156, 3) := by decide +kernel
theorem d_He_firstLevelApart_64 : decode b_He_firstLevelApart 64 = .ok (.isub, 1) := by decide +kernel
theorem d_He_firstLevelApart_65 : decode b_He_firstLevelApart 65 = .ok (.invokevirtual 235, 3) := by decide +kernel
theorem d_He_firstLevelApart_68 : decode b_He_firstLevelApart 68 = .ok (.aload_n 2, 1) := by decide +kernel
theorem d_He_firstLevelApart_69 : decode b_He_firstLevelApart 69 = .ok (.getfield 210, 3) := by decide +kernel
theorem d_He_firstLevelApart_72 : decode b_He_firstLevelApart 72 = .ok (.iload 5, 2) := by decide +kernel
theorem d_He_firstLevelApart_74 : decode b_He_firstLevelApart 74 = .ok (.aload 4, 2) := by decide +kernel
theorem d_He_firstLevelApart_76 : decode b_He_firstLevelApart 76 = .ok (.getfield 156, 3) := by decide +kernel
theorem d_He_firstLevelApart_79 : decode b_He_firstLevelApart 79 = .ok (.isub, 1) := by decide +kernel
theorem d_He_firstLevelApart_80 : decode b_He_firstLevelApart 80 = .ok (.invokevirtual 235, 3) := by decide +kernel
theorem d_He_firstLevelApart_83 : decode b_He_firstLevelApart 83 = .ok (.iload 5, 2) := by decide +kernel
theorem d_He_firstLevelApart_85 : decode b_He_firstLevelApart 85 = .ok (.istore 6, 2) := by decide +kernel
theorem d_He_firstLevelApart_87 : decode b_He_firstLevelApart 87 = .ok (.iload 6, 2) := by decide +kernel
theorem d_He_firstLevelApart_89 : decode b_He_firstLevelApart 89 = .ok (.ifCond .lt 39, 3) := by decide +kernel
theorem d_He_firstLevelApart_92 : decode b_He_firstLevelApart 92 = .ok (.aload_n 2, 1) := by decide +kernel
theorem d_He_firstLevelApart_93 : decode b_He_firstLevelApart 93 = .ok (.getfield 205, 3) := by decide +kernel
theorem d_He_firstLevelApart_96 : decode b_He_firstLevelApart 96 = .ok (.aload_n 2, 1) := by decide +kernel
theorem d_He_firstLevelApart_97 : decode b_He_firstLevelApart 97 = .ok (.getfield 210, 3) := by decide +kernel
theorem d_He_firstLevelApart_100 : decode b_He_firstLevelApart 100 = .ok (.invokevirtual 247, 3) := by decide +kernel
theorem d_He_firstLevelApart_103 : decode b_He_firstLevelApart 103 = .ok (.ifCond .ne 25, 3) := by decide +kernel
theorem d_He_firstLevelApart_106 : decode b_He_firstLevelApart 106 = .ok (.aload_n 2, 1) := by decide +kernel
theorem d_He_firstLevelApart_107 : decode b_He_firstLevelApart 107 = .ok (.getfield 205, 3) := by decide +kernel
theorem d_He_firstLevelApart_110 : decode b_He_firstLevelApart 110 = .ok (.iconst (-1), 1) := by decide +kernel
theorem d_He_firstLevelApart_111 : decode b_He_firstLevelApart 111 = .ok (.invokevirtual 235, 3) := by decide +kernel
theorem d_He_firstLevelApart_114 : decode b_He_firstLevelApart 114 = .ok (.aload_n 2, 1) := by decide +kernel
theorem d_He_firstLevelApart_115 : decode b_He_firstLevelApart 115 = .ok (.getfield 210, 3) := by decide +kernel
theorem d_He_firstLevelApart_118 : decode b_He_firstLevelApart 118 = .ok (.iconst (-1), 1) := by decide +kernel
theorem d_He_firstLevelApart_119 : decode b_He_firstLevelApart 119 = .ok (.invokevirtual 235, 3) := by decide +kernel
theorem d_He_firstLevelApart_122 : decode b_He_firstLevelApart 122 = .ok (.iinc 6 (-1), 3) := by decide +kernel
theorem d_He_firstLevelApart_125 : decode b_He_firstLevelApart 125 = .ok (.goto (-38), 3) := by decide +kernel
theorem d_He_firstLevelApart_128 : decode b_He_firstLevelApart 128 = .ok (.iconst 0, 1) := by decide +kernel
theorem d_He_firstLevelApart_129 : decode b_He_firstLevelApart 129 = .ok (.iload 6, 2) := by decide +kernel
theorem d_He_firstLevelApart_131 : decode b_He_firstLevelApart 131 = .ok (.iconst 1, 1) := by decide +kernel
theorem d_He_firstLevelApart_132 : decode b_He_firstLevelApart 132 = .ok (.iadd, 1) := by decide +kernel
theorem d_He_firstLevelApart_133 : decode b_He_firstLevelApart 133 = .ok (.invokestatic 80, 3) := by decide +kernel
theorem d_He_firstLevelApart_136 : decode b_He_firstLevelApart 136 = .ok (.ireturn, 1) := by decide +kernel
theorem d_Qu_signOn_0 : decode b_Qu_signOn 0 = .ok (.aload_n 3, 1) := by decide +kernel
theorem d_Qu_signOn_1 : decode b_Qu_signOn 1 = .ok (.getfield 29, 3) := by decide +kernel
theorem d_Qu_signOn_4 : decode b_Qu_signOn 4 = .ok (.ifCond .gt 8, 3) := by decide +kernel
theorem d_Qu_signOn_7 : decode b_Qu_signOn 7 = .ok (.aload_n 3, 1) := by decide +kernel
theorem d_Qu_signOn_8 : decode b_Qu_signOn 8 = .ok (.invokevirtual 33, 3) := by decide +kernel
theorem d_Qu_signOn_11 : decode b_Qu_signOn 11 = .ok (.ireturn, 1) := by decide +kernel
theorem d_Qu_signOn_12 : decode b_Qu_signOn 12 = .ok (.aload 4, 2) := by decide +kernel
theorem d_Qu_signOn_14 : decode b_Qu_signOn 14 = .ok (.getfield 37, 3) := by decide +kernel
theorem d_Qu_signOn_17 : decode b_Qu_signOn 17 = .ok (.astore 5, 2) := by decide +kernel
theorem d_Qu_signOn_19 : decode b_Qu_signOn 19 = .ok (.aload_n 2, 1) := by decide +kernel
theorem d_Qu_signOn_20 : decode b_Qu_signOn 20 = .ok (.aload 5, 2) := by decide +kernel
theorem d_Qu_signOn_22 : decode b_Qu_signOn 22 = .ok (.invokevirtual 43, 3) := by decide +kernel
theorem d_Qu_signOn_25 : decode b_Qu_signOn 25 = .ok (.aload_n 2, 1) := by decide +kernel
theorem d_Qu_signOn_26 : decode b_Qu_signOn 26 = .ok (.getfield 49, 3) := by decide +kernel
theorem d_Qu_signOn_29 : decode b_Qu_signOn 29 = .ok (.ifCond .eq 15, 3) := by decide +kernel
theorem d_Qu_signOn_32 : decode b_Qu_signOn 32 = .ok (.aload 4, 2) := by decide +kernel
theorem d_Qu_signOn_34 : decode b_Qu_signOn 34 = .ok (.aload_n 3, 1) := by decide +kernel
theorem d_Qu_signOn_35 : decode b_Qu_signOn 35 = .ok (.aload 5, 2) := by decide +kernel
theorem d_Qu_signOn_37 : decode b_Qu_signOn 37 = .ok (.invokevirtual 53, 3) := by decide +kernel
theorem d_Qu_signOn_40 : decode b_Qu_signOn 40 = .ok (.getfield 57, 3) := by decide +kernel
theorem d_Qu_signOn_43 : decode b_Qu_signOn 43 = .ok (.ireturn, 1) := by decide +kernel
theorem d_Qu_signOn_44 : decode b_Qu_signOn 44 = .ok (.aload_n 0, 1) := by decide +kernel
theorem d_Qu_signOn_45 : decode b_Qu_signOn 45 = .ok (.aload_n 1, 1) := by decide +kernel
theorem d_Qu_signOn_46 : decode b_Qu_signOn 46 = .ok (.getfield 62, 3) := by decide +kernel
theorem d_Qu_signOn_49 : decode b_Qu_signOn 49 = .ok (.getfield 65, 3) := by decide +kernel
theorem d_Qu_signOn_52 : decode b_Qu_signOn 52 = .ok (.iconst 1, 1) := by decide +kernel
theorem d_Qu_signOn_53 : decode b_Qu_signOn 53 = .ok (.aaload, 1) := by decide +kernel
theorem d_Qu_signOn_54 : decode b_Qu_signOn 54 = .ok (.aload_n 3, 1) := by decide +kernel
theorem d_Qu_signOn_55 : decode b_Qu_signOn 55 = .ok (.aload 4, 2) := by decide +kernel
theorem d_Qu_signOn_57 : decode b_Qu_signOn 57 = .ok (.invokevirtual 69, 3) := by decide +kernel
theorem d_Qu_signOn_60 : decode b_Qu_signOn 60 = .ok (.aload_n 0, 1) := by decide +kernel
theorem d_Qu_signOn_61 : decode b_Qu_signOn 61 = .ok (.getfield 14, 3) := by decide +kernel
theorem d_Qu_signOn_64 : decode b_Qu_signOn 64 = .ok (.getfield 65, 3) := by decide +kernel
theorem d_Qu_signOn_67 : decode b_Qu_signOn 67 = .ok (.iconst 1, 1) := by decide +kernel
theorem d_Qu_signOn_68 : decode b_Qu_signOn 68 = .ok (.aaload, 1) := by decide +kernel
theorem d_Qu_signOn_69 : decode b_Qu_signOn 69 = .ok (.aload_n 1, 1) := by decide +kernel
theorem d_Qu_signOn_70 : decode b_Qu_signOn 70 = .ok (.getfield 62, 3) := by decide +kernel
theorem d_Qu_signOn_73 : decode b_Qu_signOn 73 = .ok (.getfield 65, 3) := by decide +kernel
theorem d_Qu_signOn_76 : decode b_Qu_signOn 76 = .ok (.iconst 0, 1) := by decide +kernel
theorem d_Qu_signOn_77 : decode b_Qu_signOn 77 = .ok (.aaload, 1) := by decide +kernel
theorem d_Qu_signOn_78 : decode b_Qu_signOn 78 = .ok (.invokevirtual 73, 3) := by decide +kernel
theorem d_Qu_signOn_81 : decode b_Qu_signOn 81 = .ok (.aload_n 0, 1) := by decide +kernel
theorem d_Qu_signOn_82 : decode b_Qu_signOn 82 = .ok (.getfield 14, 3) := by decide +kernel
theorem d_Qu_signOn_85 : decode b_Qu_signOn 85 = .ok (.aload 4, 2) := by decide +kernel
theorem d_Qu_signOn_87 : decode b_Qu_signOn 87 = .ok (.invokevirtual 77, 3) := by decide +kernel
theorem d_Qu_signOn_90 : decode b_Qu_signOn 90 = .ok (.aload_n 0, 1) := by decide +kernel
theorem d_Qu_signOn_91 : decode b_Qu_signOn 91 = .ok (.getfield 14, 3) := by decide +kernel
theorem d_Qu_signOn_94 : decode b_Qu_signOn 94 = .ok (.aload 5, 2) := by decide +kernel
theorem d_Qu_signOn_96 : decode b_Qu_signOn 96 = .ok (.aload 4, 2) := by decide +kernel
theorem d_Qu_signOn_98 : decode b_Qu_signOn 98 = .ok (.invokevirtual 81, 3) := by decide +kernel
theorem d_Qu_signOn_101 : decode b_Qu_signOn 101 = .ok (.istore 6, 2) := by decide +kernel
theorem d_Qu_signOn_103 : decode b_Qu_signOn 103 = .ok (.aload_n 2, 1) := by decide +kernel
theorem d_Qu_signOn_104 : decode b_Qu_signOn 104 = .ok (.aload 5, 2) := by decide +kernel
theorem d_Qu_signOn_106 : decode b_Qu_signOn 106 = .ok (.invokevirtual 85, 3) := by decide +kernel
theorem d_Qu_signOn_109 : decode b_Qu_signOn 109 = .ok (.iload 6, 2) := by decide +kernel
theorem d_Qu_signOn_111 : decode b_Qu_signOn 111 = .ok (.aload_n 0, 1) := by decide +kernel
theorem d_Qu_signOn_112 : decode b_Qu_signOn 112 = .ok (.getfield 14, 3) := by decide +kernel
theorem d_Qu_signOn_115 : decode b_Qu_signOn 115 = .ok (.aload 5, 2) := by decide +kernel
theorem d_Qu_signOn_117 : decode b_Qu_signOn 117 = .ok (.aload 4, 2) := by decide +kernel
theorem d_Qu_signOn_119 : decode b_Qu_signOn 119 = .ok (.invokevirtual 81, 3) := by decide +kernel
theorem d_Qu_signOn_122 : decode b_Qu_signOn 122 = .ok (.isub, 1) := by decide +kernel
theorem d_Qu_signOn_123 : decode b_Qu_signOn 123 = .ok (.ireturn, 1) := by decide +kernel
theorem d_Qu_multiply_0 : decode b_Qu_multiply 0 = .ok (.aload_n 0, 1) := by decide +kernel
theorem d_Qu_multiply_1 : decode b_Qu_multiply 1 = .ok (.getfield 14, 3) := by decide +kernel
theorem d_Qu_multiply_4 : decode b_Qu_multiply 4 = .ok (.getfield 65, 3) := by decide +kernel
theorem d_Qu_multiply_7 : decode b_Qu_multiply 7 = .ok (.iconst 0, 1) := by decide +kernel
theorem d_Qu_multiply_8 : decode b_Qu_multiply 8 = .ok (.aaload, 1) := by decide +kernel
theorem d_Qu_multiply_9 : decode b_Qu_multiply 9 = .ok (.astore 4, 2) := by decide +kernel
theorem d_Qu_multiply_11 : decode b_Qu_multiply 11 = .ok (.aload_n 1, 1) := by decide +kernel
theorem d_Qu_multiply_12 : decode b_Qu_multiply 12 = .ok (.getfield 29, 3) := by decide +kernel
theorem d_Qu_multiply_15 : decode b_Qu_multiply 15 = .ok (.aload_n 2, 1) := by decide +kernel
theorem d_Qu_multiply_16 : decode b_Qu_multiply 16 = .ok (.getfield 29, 3) := by decide +kernel
theorem d_Qu_multiply_19 : decode b_Qu_multiply 19 = .ok (.iadd, 1) := by decide +kernel
theorem d_Qu_multiply_20 : decode b_Qu_multiply 20 = .ok (.istore 5, 2) := by decide +kernel
theorem d_Qu_multiply_22 : decode b_Qu_multiply 22 = .ok (.iload 5, 2) := by decide +kernel
theorem d_Qu_multiply_24 : decode b_Qu_multiply 24 = .ok (.aload 4, 2) := by decide +kernel
theorem d_Qu_multiply_26 : decode b_Qu_multiply 26 = .ok (.getfield 88, 3) := by decide +kernel
theorem d_Qu_multiply_29 : decode b_Qu_multiply 29 = .ok (.arraylength, 1) := by decide +kernel
theorem d_Qu_multiply_30 : decode b_Qu_multiply 30 = .ok (.if_icmp .lt 4, 3) := by decide +kernel
theorem d_Qu_multiply_33 : decode b_Qu_multiply 33 = .ok (.return_, 1) := by decide +kernel
theorem d_Qu_multiply_34 : decode b_Qu_multiply 34 = .ok (.iconst 0, 1) := by decide +kernel
theorem d_Qu_multiply_35 : decode b_Qu_multiply 35 = .ok (.istore 6, 2) := by decide +kernel
theorem d_Qu_multiply_37 : decode b_Qu_multiply 37 = .ok (.iload 6, 2) := by decide +kernel
theorem d_Qu_multiply_39 : decode b_Qu_multiply 39 = .ok (.iload 5, 2) := by decide +kernel
theorem d_Qu_multiply_41 : decode b_Qu_multiply 41 = .ok (.if_icmp .gt 93, 3) := by decide +kernel
theorem d_Qu_multiply_44 : decode b_Qu_multiply 44 = .ok (.aload 4, 2) := by decide +kernel
theorem d_Qu_multiply_46 : decode b_Qu_multiply 46 = .ok (.getfield 88, 3) := by decide +kernel
theorem d_Qu_multiply_49 : decode b_Qu_multiply 49 = .ok (.iload 6, 2) := by decide +kernel
theorem d_Qu_multiply_51 : decode b_Qu_multiply 51 = .ok (.aaload, 1) := by decide +kernel
theorem d_Qu_multiply_52 : decode b_Qu_multiply 52 = .ok (.invokevirtual 92, 3) := by decide +kernel
theorem d_Qu_multiply_55 : decode b_Qu_multiply 55 = .ok (.iconst 0, 1) := by decide +kernel
theorem d_Qu_multiply_56 : decode b_Qu_multiply 56 = .ok (.iload 6, 2) := by decide +kernel
theorem d_Qu_multiply_58 : decode b_Qu_multiply 58 = .ok (.aload_n 2, 1) := by decide +kernel
theorem d_Qu_multiply_59 : decode b_Qu_multiply 59 = .ok (.getfield 29, 3) := by decide +kernel
theorem d_Qu_multiply_62 : decode b_Qu_multiply 62 = .ok (.isub, 1) := by decide +kernel
theorem d_Qu_multiply_63 : decode b_Qu_multiply 63 = .ok (.invokestatic 95, 3) := by decide +kernel
theorem d_Qu_multiply_66 : decode b_Qu_multiply 66 = .ok (.istore 7, 2) := by decide +kernel
theorem d_Qu_multiply_68 : decode b_Qu_multiply 68 = .ok (.iload 7, 2) := by decide +kernel
theorem d_Qu_multiply_70 : decode b_Qu_multiply 70 = .ok (.iload 6, 2) := by decide +kernel
theorem d_Qu_multiply_72 : decode b_Qu_multiply 72 = .ok (.aload_n 1, 1) := by decide +kernel
theorem d_Qu_multiply_73 : decode b_Qu_multiply 73 = .ok (.getfield 29, 3) := by decide +kernel
theorem d_Qu_multiply_76 : decode b_Qu_multiply 76 = .ok (.invokestatic 101, 3) := by decide +kernel
theorem d_Qu_multiply_79 : decode b_Qu_multiply 79 = .ok (.if_icmp .gt 49, 3) := by decide +kernel
theorem d_Qu_multiply_82 : decode b_Qu_multiply 82 = .ok (.aload_n 3, 1) := by decide +kernel
theorem d_Qu_multiply_83 : decode b_Qu_multiply 83 = .ok (.getfield 104, 3) := by decide +kernel
theorem d_Qu_multiply_86 : decode b_Qu_multiply 86 = .ok (.aload_n 1, 1) := by decide +kernel
theorem d_Qu_multiply_87 : decode b_Qu_multiply 87 = .ok (.getfield 88, 3) := by decide +kernel
theorem d_Qu_multiply_90 : decode b_Qu_multiply 90 = .ok (.iload 7, 2) := by decide +kernel
theorem d_Qu_multiply_92 : decode b_Qu_multiply 92 = .ok (.aaload, 1) := by decide +kernel
theorem d_Qu_multiply_93 : decode b_Qu_multiply 93 = .ok (.aload_n 2, 1) := by decide +kernel
theorem d_Qu_multiply_94 : decode b_Qu_multiply 94 = .ok (.getfield 88, 3) := by decide +kernel
theorem d_Qu_multiply_97 : decode b_Qu_multiply 97 = .ok (.iload 6, 2) := by decide +kernel
theorem d_Qu_multiply_99 : decode b_Qu_multiply 99 = .ok (.iload 7, 2) := by decide +kernel
theorem d_Qu_multiply_101 : decode b_Qu_multiply 101 = .ok (.isub, 1) := by decide +kernel
theorem d_Qu_multiply_102 : decode b_Qu_multiply 102 = .ok (.aaload, 1) := by decide +kernel
theorem d_Qu_multiply_103 : decode b_Qu_multiply 103 = .ok (.invokevirtual 108, 3) := by decide +kernel
theorem d_Qu_multiply_106 : decode b_Qu_multiply 106 = .ok (.aload 4, 2) := by decide +kernel
theorem d_Qu_multiply_108 : decode b_Qu_multiply 108 = .ok (.getfield 88, 3) := by decide +kernel
theorem d_Qu_multiply_111 : decode b_Qu_multiply 111 = .ok (.iload 6, 2) := by decide +kernel
theorem d_Qu_multiply_113 : decode b_Qu_multiply 113 = .ok (.aaload, 1) := by decide +kernel
theorem d_Qu_multiply_114 : decode b_Qu_multiply 114 = .ok (.aload_n 3, 1) := by decide +kernel
theorem d_Qu_multiply_115 : decode b_Qu_multiply 115 = .ok (.getfield 104, 3) := by decide +kernel
theorem d_Qu_multiply_118 : decode b_Qu_multiply 118 = .ok (.iconst 1, 1) := by decide +kernel
theorem d_Qu_multiply_119 : decode b_Qu_multiply 119 = .ok (.invokevirtual 112, 3) := by decide +kernel
theorem d_Qu_multiply_122 : decode b_Qu_multiply 122 = .ok (.iinc 7 1, 3) := by decide +kernel
theorem d_Qu_multiply_125 : decode b_Qu_multiply 125 = .ok (.goto (-57), 3) := by decide +kernel
theorem d_Qu_multiply_128 : decode b_Qu_multiply 128 = .ok (.iinc 6 1, 3) := by decide +kernel
theorem d_Qu_multiply_131 : decode b_Qu_multiply 131 = .ok (.goto (-94), 3) := by decide +kernel
theorem d_Qu_multiply_134 : decode b_Qu_multiply 134 = .ok (.aload 4, 2) := by decide +kernel
theorem d_Qu_multiply_136 : decode b_Qu_multiply 136 = .ok (.iload 5, 2) := by decide +kernel
theorem d_Qu_multiply_138 : decode b_Qu_multiply 138 = .ok (.invokevirtual 116, 3) := by decide +kernel
theorem d_Qu_multiply_141 : decode b_Qu_multiply 141 = .ok (.return_, 1) := by decide +kernel
theorem d_Qu_multiplicity_0 : decode b_Qu_multiplicity 0 = .ok (.aload_n 0, 1) := by decide +kernel
theorem d_Qu_multiplicity_1 : decode b_Qu_multiplicity 1 = .ok (.getfield 25, 3) := by decide +kernel
theorem d_Qu_multiplicity_4 : decode b_Qu_multiplicity 4 = .ok (.aload_n 1, 1) := by decide +kernel
theorem d_Qu_multiplicity_5 : decode b_Qu_multiplicity 5 = .ok (.getfield 119, 3) := by decide +kernel
theorem d_Qu_multiplicity_8 : decode b_Qu_multiplicity 8 = .ok (.invokevirtual 73, 3) := by decide +kernel
theorem d_Qu_multiplicity_11 : decode b_Qu_multiplicity 11 = .ok (.iconst 1, 1) := by decide +kernel
theorem d_Qu_multiplicity_12 : decode b_Qu_multiplicity 12 = .ok (.istore 4, 2) := by decide +kernel
theorem d_Qu_multiplicity_14 : decode b_Qu_multiplicity 14 = .ok (.iload 4, 2) := by decide +kernel
theorem d_Qu_multiplicity_16 : decode b_Qu_multiplicity 16 = .ok (.aload_n 1, 1) := by decide +kernel
theorem d_Qu_multiplicity_17 : decode b_Qu_multiplicity 17 = .ok (.getfield 122, 3) := by decide +kernel
theorem d_Qu_multiplicity_20 : decode b_Qu_multiplicity 20 = .ok (.if_icmp .gt 33, 3) := by decide +kernel
theorem d_Qu_multiplicity_23 : decode b_Qu_multiplicity 23 = .ok (.aload_n 0, 1) := by decide +kernel
theorem d_Qu_multiplicity_24 : decode b_Qu_multiplicity 24 = .ok (.getfield 25, 3) := by decide +kernel
theorem d_Qu_multiplicity_27 : decode b_Qu_multiplicity 27 = .ok (.invokevirtual 125, 3) := by decide +kernel
theorem d_Qu_multiplicity_30 : decode b_Qu_multiplicity 30 = .ok (.aload_n 0, 1) := by decide +kernel
theorem d_Qu_multiplicity_31 : decode b_Qu_multiplicity 31 = .ok (.aload_n 1, 1) := by decide +kernel
theorem d_Qu_multiplicity_32 : decode b_Qu_multiplicity 32 = .ok (.aload_n 2, 1) := by decide +kernel
theorem d_Qu_multiplicity_33 : decode b_Qu_multiplicity 33 = .ok (.aload_n 0, 1) := by decide +kernel
theorem d_Qu_multiplicity_34 : decode b_Qu_multiplicity 34 = .ok (.getfield 25, 3) := by decide +kernel
theorem d_Qu_multiplicity_37 : decode b_Qu_multiplicity 37 = .ok (.aload_n 3, 1) := by decide +kernel
theorem d_Qu_multiplicity_38 : decode b_Qu_multiplicity 38 = .ok (.invokevirtual 128, 3) := by decide +kernel
theorem d_Qu_multiplicity_41 : decode b_Qu_multiplicity 41 = .ok (.ifCond .eq 6, 3) := by decide +kernel
theorem d_Qu_multiplicity_44 : decode b_Qu_multiplicity 44 = .ok (.iload 4, 2) := by decide +kernel
theorem d_Qu_multiplicity_46 : decode b_Qu_multiplicity 46 = .ok (.ireturn, 1) := by decide +kernel
theorem d_Qu_multiplicity_47 : decode b_Qu_multiplicity 47 = .ok (.iinc 4 1, 3) := by decide +kernel
theorem d_Qu_multiplicity_50 : decode b_Qu_multiplicity 50 = .ok (.goto (-36), 3) := by decide +kernel
theorem d_Qu_multiplicity_53 : decode b_Qu_multiplicity 53 = .ok (.aload_n 1, 1) := by decide +kernel
theorem d_Qu_multiplicity_54 : decode b_Qu_multiplicity 54 = .ok (.getfield 122, 3) := by decide +kernel
theorem d_Qu_multiplicity_57 : decode b_Qu_multiplicity 57 = .ok (.iconst 1, 1) := by decide +kernel
theorem d_Qu_multiplicity_58 : decode b_Qu_multiplicity 58 = .ok (.iadd, 1) := by decide +kernel
theorem d_Qu_multiplicity_59 : decode b_Qu_multiplicity 59 = .ok (.ireturn, 1) := by decide +kernel
theorem d_Qu_compare_0 : decode b_Qu_compare 0 = .ok (.aload_n 1, 1) := by decide +kernel
theorem d_Qu_compare_1 : decode b_Qu_compare 1 = .ok (.getfield 132, 3) := by decide +kernel
theorem d_Qu_compare_4 : decode b_Qu_compare 4 = .ok (.iload_n 2, 1) := by decide +kernel
theorem d_Qu_compare_5 : decode b_Qu_compare 5 = .ok (.aaload, 1) := by decide +kernel
theorem d_Qu_compare_6 : decode b_Qu_compare 6 = .ok (.astore 6, 2) := by decide +kernel
theorem d_Qu_compare_8 : decode b_Qu_compare 8 = .ok (.aload_n 3, 1) := by decide +kernel
theorem d_Qu_compare_9 : decode b_Qu_compare 9 = .ok (.getfield 132, 3) := by decide +kernel
theorem d_Qu_compare_12 : decode b_Qu_compare 12 = .ok (.iload 4, 2) := by decide +kernel
theorem d_Qu_compare_14 : decode b_Qu_compare 14 = .ok (.aaload, 1) := by decide +kernel
theorem d_Qu_compare_15 : decode b_Qu_compare 15 = .ok (.astore 7, 2) := by decide +kernel
theorem d_Qu_compare_17 : decode b_Qu_compare 17 = .ok (.aload 5, 2) := by decide +kernel
theorem d_Qu_compare_19 : decode b_Qu_compare 19 = .ok (.getfield 37, 3) := by decide +kernel
theorem d_Qu_compare_22 : decode b_Qu_compare 22 = .ok (.astore 8, 2) := by decide +kernel
theorem d_Qu_compare_24 : decode b_Qu_compare 24 = .ok (.aload 6, 2) := by decide +kernel
theorem d_Qu_compare_26 : decode b_Qu_compare 26 = .ok (.getfield 49, 3) := by decide +kernel
theorem d_Qu_compare_29 : decode b_Qu_compare 29 = .ok (.ifCond .eq 22, 3) := by decide +kernel
theorem d_Qu_compare_32 : decode b_Qu_compare 32 = .ok (.aload 6, 2) := by decide +kernel
theorem d_Qu_compare_34 : decode b_Qu_compare 34 = .ok (.aload 8, 2) := by decide +kernel
theorem d_Qu_compare_36 : decode b_Qu_compare 36 = .ok (.invokevirtual 43, 3) := by decide +kernel
theorem d_Qu_compare_39 : decode b_Qu_compare 39 = .ok (.aload_n 3, 1) := by decide +kernel
theorem d_Qu_compare_40 : decode b_Qu_compare 40 = .ok (.iload 4, 2) := by decide +kernel
theorem d_Qu_compare_42 : decode b_Qu_compare 42 = .ok (.aload 8, 2) := by decide +kernel
theorem d_Qu_compare_44 : decode b_Qu_compare 44 = .ok (.aload 5, 2) := by decide +kernel
theorem d_Qu_compare_46 : decode b_Qu_compare 46 = .ok (.invokevirtual 136, 3) := by decide +kernel
theorem d_Qu_compare_49 : decode b_Qu_compare 49 = .ok (.ineg, 1) := by decide +kernel
theorem d_Qu_compare_50 : decode b_Qu_compare 50 = .ok (.ireturn, 1) := by decide +kernel
theorem d_Qu_compare_51 : decode b_Qu_compare 51 = .ok (.aload 7, 2) := by decide +kernel
theorem d_Qu_compare_53 : decode b_Qu_compare 53 = .ok (.aload 8, 2) := by decide +kernel
theorem d_Qu_compare_55 : decode b_Qu_compare 55 = .ok (.invokevirtual 43, 3) := by decide +kernel
theorem d_Qu_compare_58 : decode b_Qu_compare 58 = .ok (.aload_n 1, 1) := by decide +kernel
theorem d_Qu_compare_59 : decode b_Qu_compare 59 = .ok (.iload_n 2, 1) := by decide +kernel
theorem d_Qu_compare_60 : decode b_Qu_compare 60 = .ok (.aload 8, 2) := by decide +kernel
theorem d_Qu_compare_62 : decode b_Qu_compare 62 = .ok (.aload 5, 2) := by decide +kernel
theorem d_Qu_compare_64 : decode b_Qu_compare 64 = .ok (.invokevirtual 136, 3) := by decide +kernel
theorem d_Qu_compare_67 : decode b_Qu_compare 67 = .ok (.istore 9, 2) := by decide +kernel
theorem d_Qu_compare_69 : decode b_Qu_compare 69 = .ok (.aload 7, 2) := by decide +kernel
theorem d_Qu_compare_71 : decode b_Qu_compare 71 = .ok (.getfield 49, 3) := by decide +kernel
theorem d_Qu_compare_74 : decode b_Qu_compare 74 = .ok (.ifCond .ne 8, 3) := by decide +kernel
theorem d_Qu_compare_77 : decode b_Qu_compare 77 = .ok (.iload 9, 2) := by decide +kernel
theorem d_Qu_compare_79 : decode b_Qu_compare 79 = .ok (.ifCond .gt 18, 3) := by decide +kernel
theorem d_Qu_compare_82 : decode b_Qu_compare 82 = .ok (.aload 7, 2) := by decide +kernel
theorem d_Qu_compare_84 : decode b_Qu_compare 84 = .ok (.getfield 49, 3) := by decide +kernel
theorem d_Qu_compare_87 : decode b_Qu_compare 87 = .ok (.ifCond .eq 8, 3) := by decide +kernel
theorem d_Qu_compare_90 : decode b_Qu_compare 90 = .ok (.iload 9, 2) := by decide +kernel
theorem d_Qu_compare_92 : decode b_Qu_compare 92 = .ok (.goto 4, 3) := by decide +kernel
theorem d_Qu_compare_95 : decode b_Qu_compare 95 = .ok (.iconst (-1), 1) := by decide +kernel
theorem d_Qu_compare_96 : decode b_Qu_compare 96 = .ok (.ireturn, 1) := by decide +kernel
theorem d_Qu_compare_97 : decode b_Qu_compare 97 = .ok (.aload 7, 2) := by decide +kernel
theorem d_Qu_compare_99 : decode b_Qu_compare 99 = .ok (.aload 8, 2) := by decide +kernel
theorem d_Qu_compare_101 : decode b_Qu_compare 101 = .ok (.invokevirtual 85, 3) := by decide +kernel
theorem d_Qu_compare_104 : decode b_Qu_compare 104 = .ok (.aload_n 1, 1) := by decide +kernel
theorem d_Qu_compare_105 : decode b_Qu_compare 105 = .ok (.iload_n 2, 1) := by decide +kernel
theorem d_Qu_compare_106 : decode b_Qu_compare 106 = .ok (.aload 8, 2) := by decide +kernel
theorem d_Qu_compare_108 : decode b_Qu_compare 108 = .ok (.aload 5, 2) := by decide +kernel
theorem d_Qu_compare_110 : decode b_Qu_compare 110 = .ok (.invokevirtual 136, 3) := by decide +kernel
theorem d_Qu_compare_113 : decode b_Qu_compare 113 = .ok (.ifCond .lt 5, 3) := by decide +kernel
theorem d_Qu_compare_116 : decode b_Qu_compare 116 = .ok (.iconst 1, 1) := by decide +kernel
theorem d_Qu_compare_117 : decode b_Qu_compare 117 = .ok (.ireturn, 1) := by decide +kernel
theorem d_Qu_compare_118 : decode b_Qu_compare 118 = .ok (.aload_n 0, 1) := by decide +kernel
theorem d_Qu_compare_119 : decode b_Qu_compare 119 = .ok (.aload_n 1, 1) := by decide +kernel
theorem d_Qu_compare_120 : decode b_Qu_compare 120 = .ok (.aload 6, 2) := by decide +kernel
theorem d_Qu_compare_122 : decode b_Qu_compare 122 = .ok (.aload_n 3, 1) := by decide +kernel
theorem d_Qu_compare_123 : decode b_Qu_compare 123 = .ok (.getfield 62, 3) := by decide +kernel
theorem d_Qu_compare_126 : decode b_Qu_compare 126 = .ok (.getfield 65, 3) := by decide +kernel
theorem d_Qu_compare_129 : decode b_Qu_compare 129 = .ok (.iconst 0, 1) := by decide +kernel
theorem d_Qu_compare_130 : decode b_Qu_compare 130 = .ok (.aaload, 1) := by decide +kernel
theorem d_Qu_compare_131 : decode b_Qu_compare 131 = .ok (.aload 5, 2) := by decide +kernel
theorem d_Qu_compare_133 : decode b_Qu_compare 133 = .ok (.invokevirtual 128, 3) := by decide +kernel
theorem d_Qu_compare_136 : decode b_Qu_compare 136 = .ok (.istore 10, 2) := by decide +kernel
theorem d_Qu_compare_138 : decode b_Qu_compare 138 = .ok (.iload 10, 2) := by decide +kernel
theorem d_Qu_compare_140 : decode b_Qu_compare 140 = .ok (.ifCond .ne 5, 3) := by decide +kernel
theorem d_Qu_compare_143 : decode b_Qu_compare 143 = .ok (.iconst 0, 1) := by decide +kernel
theorem d_Qu_compare_144 : decode b_Qu_compare 144 = .ok (.ireturn, 1) := by decide +kernel
theorem d_Qu_compare_145 : decode b_Qu_compare 145 = .ok (.iload 10, 2) := by decide +kernel
theorem d_Qu_compare_147 : decode b_Qu_compare 147 = .ok (.aload 7, 2) := by decide +kernel
theorem d_Qu_compare_149 : decode b_Qu_compare 149 = .ok (.getfield 140, 3) := by decide +kernel
theorem d_Qu_compare_152 : decode b_Qu_compare 152 = .ok (.if_icmp .ne 7, 3) := by decide +kernel
theorem d_Qu_compare_155 : decode b_Qu_compare 155 = .ok (.iconst (-1), 1) := by decide +kernel
theorem d_Qu_compare_156 : decode b_Qu_compare 156 = .ok (.goto 4, 3) := by decide +kernel
theorem d_Qu_compare_159 : decode b_Qu_compare 159 = .ok (.iconst 1, 1) := by decide +kernel
theorem d_Qu_compare_160 : decode b_Qu_compare 160 = .ok (.ireturn, 1) := by decide +kernel
theorem d_Qu_countShared_0 : decode b_Qu_countShared 0 = .ok (.aload_n 1, 1) := by decide +kernel
theorem d_Qu_countShared_1 : decode b_Qu_countShared 1 = .ok (.getfield 62, 3) := by decide +kernel
theorem d_Qu_countShared_4 : decode b_Qu_countShared 4 = .ok (.getfield 65, 3) := by decide +kernel
theorem d_Qu_countShared_7 : decode b_Qu_countShared 7 = .ok (.iconst 0, 1) := by decide +kernel
theorem d_Qu_countShared_8 : decode b_Qu_countShared 8 = .ok (.aaload, 1) := by decide +kernel
theorem d_Qu_countShared_9 : decode b_Qu_countShared 9 = .ok (.getfield 29, 3) := by decide +kernel
theorem d_Qu_countShared_12 : decode b_Qu_countShared 12 = .ok (.aload_n 2, 1) := by decide +kernel
theorem d_Qu_countShared_13 : decode b_Qu_countShared 13 = .ok (.getfield 62, 3) := by decide +kernel
theorem d_Qu_countShared_16 : decode b_Qu_countShared 16 = .ok (.getfield 65, 3) := by decide +kernel
theorem d_Qu_countShared_19 : decode b_Qu_countShared 19 = .ok (.iconst 0, 1) := by decide +kernel
theorem d_Qu_countShared_20 : decode b_Qu_countShared 20 = .ok (.aaload, 1) := by decide +kernel
theorem d_Qu_countShared_21 : decode b_Qu_countShared 21 = .ok (.getfield 29, 3) := by decide +kernel
theorem d_Qu_countShared_24 : decode b_Qu_countShared 24 = .ok (.if_icmp .ge 7, 3) := by decide +kernel
theorem d_Qu_countShared_27 : decode b_Qu_countShared 27 = .ok (.iconst 1, 1) := by decide +kernel
theorem d_Qu_countShared_28 : decode b_Qu_countShared 28 = .ok (.goto 4, 3) := by decide +kernel
theorem d_Qu_countShared_31 : decode b_Qu_countShared 31 = .ok (.iconst 0, 1) := by decide +kernel
theorem d_Qu_countShared_32 : decode b_Qu_countShared 32 = .ok (.istore 4, 2) := by decide +kernel
theorem d_Qu_countShared_34 : decode b_Qu_countShared 34 = .ok (.aload_n 0, 1) := by decide +kernel
theorem d_Qu_countShared_35 : decode b_Qu_countShared 35 = .ok (.getfield 14, 3) := by decide +kernel
theorem d_Qu_countShared_38 : decode b_Qu_countShared 38 = .ok (.getfield 65, 3) := by decide +kernel
theorem d_Qu_countShared_41 : decode b_Qu_countShared 41 = .ok (.iconst 0, 1) := by decide +kernel
theorem d_Qu_countShared_42 : decode b_Qu_countShared 42 = .ok (.aaload, 1) := by decide +kernel
theorem d_Qu_countShared_43 : decode b_Qu_countShared 43 = .ok (.iload 4, 2) := by decide +kernel
theorem d_Qu_countShared_45 : decode b_Qu_countShared 45 = .ok (.ifCond .eq 15, 3) := by decide +kernel
theorem d_Qu_countShared_48 : decode b_Qu_countShared 48 = .ok (.aload_n 2, 1) := by decide +kernel
theorem d_Qu_countShared_49 : decode b_Qu_countShared 49 = .ok (.getfield 62, 3) := by decide +kernel
theorem d_Qu_countShared_52 : decode b_Qu_countShared 52 = .ok (.getfield 65, 3) := by decide +kernel
theorem d_Qu_countShared_55 : decode b_Qu_countShared 55 = .ok (.iconst 0, 1) := by decide +kernel
theorem d_Qu_countShared_56 : decode b_Qu_countShared 56 = .ok (.aaload, 1) := by decide +kernel
theorem d_Qu_countShared_57 : decode b_Qu_countShared 57 = .ok (.goto 12, 3) := by decide +kernel
theorem d_Qu_countShared_60 : decode b_Qu_countShared 60 = .ok (.aload_n 1, 1) := by decide +kernel
theorem d_Qu_countShared_61 : decode b_Qu_countShared 61 = .ok (.getfield 62, 3) := by decide +kernel
theorem d_Qu_countShared_64 : decode b_Qu_countShared 64 = .ok (.getfield 65, 3) := by decide +kernel
theorem d_Qu_countShared_67 : decode b_Qu_countShared 67 = .ok (.iconst 0, 1) := by decide +kernel
theorem d_Qu_countShared_68 : decode b_Qu_countShared 68 = .ok (.aaload, 1) := by decide +kernel
theorem d_Qu_countShared_69 : decode b_Qu_countShared 69 = .ok (.invokevirtual 73, 3) := by decide +kernel
theorem d_Qu_countShared_72 : decode b_Qu_countShared 72 = .ok (.aload_n 0, 1) := by decide +kernel
theorem d_Qu_countShared_73 : decode b_Qu_countShared 73 = .ok (.getfield 14, 3) := by decide +kernel
theorem d_Qu_countShared_76 : decode b_Qu_countShared 76 = .ok (.getfield 65, 3) := by decide +kernel
theorem d_Qu_countShared_79 : decode b_Qu_countShared 79 = .ok (.iconst 1, 1) := by decide +kernel
theorem d_Qu_countShared_80 : decode b_Qu_countShared 80 = .ok (.aaload, 1) := by decide +kernel
theorem d_Qu_countShared_81 : decode b_Qu_countShared 81 = .ok (.iload 4, 2) := by decide +kernel
theorem d_Qu_countShared_83 : decode b_Qu_countShared 83 = .ok (.ifCond .eq 15, 3) := by decide +kernel
theorem d_Qu_countShared_86 : decode b_Qu_countShared 86 = .ok (.aload_n 1, 1) := by decide +kernel
theorem d_Qu_countShared_87 : decode b_Qu_countShared 87 = .ok (.getfield 62, 3) := by decide +kernel
theorem d_Qu_countShared_90 : decode b_Qu_countShared 90 = .ok (.getfield 65, 3) := by decide +kernel
theorem d_Qu_countShared_93 : decode b_Qu_countShared 93 = .ok (.iconst 0, 1) := by decide +kernel
theorem d_Qu_countShared_94 : decode b_Qu_countShared 94 = .ok (.aaload, 1) := by decide +kernel
theorem d_Qu_countShared_95 : decode b_Qu_countShared 95 = .ok (.goto 12, 3) := by decide +kernel
theorem d_Qu_countShared_98 : decode b_Qu_countShared 98 = .ok (.aload_n 2, 1) := by decide +kernel
theorem d_Qu_countShared_99 : decode b_Qu_countShared 99 = .ok (.getfield 62, 3) := by decide +kernel
theorem d_Qu_countShared_102 : decode b_Qu_countShared 102 = .ok (.getfield 65, 3) := by decide +kernel
theorem d_Qu_countShared_105 : decode b_Qu_countShared 105 = .ok (.iconst 0, 1) := by decide +kernel
theorem d_Qu_countShared_106 : decode b_Qu_countShared 106 = .ok (.aaload, 1) := by decide +kernel
theorem d_Qu_countShared_107 : decode b_Qu_countShared 107 = .ok (.invokevirtual 73, 3) := by decide +kernel
theorem d_Qu_countShared_110 : decode b_Qu_countShared 110 = .ok (.aload_n 0, 1) := by decide +kernel
theorem d_Qu_countShared_111 : decode b_Qu_countShared 111 = .ok (.getfield 14, 3) := by decide +kernel
theorem d_Qu_countShared_114 : decode b_Qu_countShared 114 = .ok (.aload_n 3, 1) := by decide +kernel
theorem d_Qu_countShared_115 : decode b_Qu_countShared 115 = .ok (.invokevirtual 77, 3) := by decide +kernel
theorem d_Qu_countShared_118 : decode b_Qu_countShared 118 = .ok (.aload_n 0, 1) := by decide +kernel
theorem d_Qu_countShared_119 : decode b_Qu_countShared 119 = .ok (.getfield 14, 3) := by decide +kernel
theorem d_Qu_countShared_122 : decode b_Qu_countShared 122 = .ok (.invokevirtual 143, 3) := by decide +kernel
theorem d_Qu_countShared_125 : decode b_Qu_countShared 125 = .ok (.getfield 29, 3) := by decide +kernel
theorem d_Qu_countShared_128 : decode b_Qu_countShared 128 = .ok (.ifCond .gt 5, 3) := by decide +kernel
theorem d_Qu_countShared_131 : decode b_Qu_countShared 131 = .ok (.iconst 0, 1) := by decide +kernel
theorem d_Qu_countShared_132 : decode b_Qu_countShared 132 = .ok (.ireturn, 1) := by decide +kernel
theorem d_Qu_countShared_133 : decode b_Qu_countShared 133 = .ok (.aload_n 3, 1) := by decide +kernel
theorem d_Qu_countShared_134 : decode b_Qu_countShared 134 = .ok (.aload_n 0, 1) := by decide +kernel
theorem d_Qu_countShared_135 : decode b_Qu_countShared 135 = .ok (.getfield 14, 3) := by decide +kernel
theorem d_Qu_countShared_138 : decode b_Qu_countShared 138 = .ok (.invokevirtual 143, 3) := by decide +kernel
theorem d_Qu_countShared_141 : decode b_Qu_countShared 141 = .ok (.invokevirtual 147, 3) := by decide +kernel
theorem d_Qu_countShared_144 : decode b_Qu_countShared 144 = .ok (.aload_n 0, 1) := by decide +kernel
theorem d_Qu_countShared_145 : decode b_Qu_countShared 145 = .ok (.getfield 14, 3) := by decide +kernel
theorem d_Qu_countShared_148 : decode b_Qu_countShared 148 = .ok (.getfield 65, 3) := by decide +kernel
theorem d_Qu_countShared_151 : decode b_Qu_countShared 151 = .ok (.iconst 0, 1) := by decide +kernel
theorem d_Qu_countShared_152 : decode b_Qu_countShared 152 = .ok (.aaload, 1) := by decide +kernel
theorem d_Qu_countShared_153 : decode b_Qu_countShared 153 = .ok (.aload_n 3, 1) := by decide +kernel
theorem d_Qu_countShared_154 : decode b_Qu_countShared 154 = .ok (.getfield 150, 3) := by decide +kernel
theorem d_Qu_countShared_157 : decode b_Qu_countShared 157 = .ok (.invokevirtual 73, 3) := by decide +kernel
theorem d_Qu_countShared_160 : decode b_Qu_countShared 160 = .ok (.aload_n 0, 1) := by decide +kernel
theorem d_Qu_countShared_161 : decode b_Qu_countShared 161 = .ok (.getfield 14, 3) := by decide +kernel
theorem d_Qu_countShared_164 : decode b_Qu_countShared 164 = .ok (.invokevirtual 153, 3) := by decide +kernel
theorem d_Qu_countShared_167 : decode b_Qu_countShared 167 = .ok (.aload_n 0, 1) := by decide +kernel
theorem d_Qu_countShared_168 : decode b_Qu_countShared 168 = .ok (.getfield 14, 3) := by decide +kernel
theorem d_Qu_countShared_171 : decode b_Qu_countShared 171 = .ok (.aload_n 3, 1) := by decide +kernel
theorem d_Qu_countShared_172 : decode b_Qu_countShared 172 = .ok (.invokevirtual 77, 3) := by decide +kernel
theorem d_Qu_countShared_175 : decode b_Qu_countShared 175 = .ok (.aload_n 0, 1) := by decide +kernel
theorem d_Qu_countShared_176 : decode b_Qu_countShared 176 = .ok (.getfield 14, 3) := by decide +kernel
theorem d_Qu_countShared_179 : decode b_Qu_countShared 179 = .ok (.invokevirtual 156, 3) := by decide +kernel
theorem d_Qu_countShared_182 : decode b_Qu_countShared 182 = .ok (.ireturn, 1) := by decide +kernel
theorem d_Tx_write_0 : decode b_Tx_write 0 = .ok (.aload_n 0, 1) := by decide +kernel
theorem d_Tx_write_1 : decode b_Tx_write 1 = .ok (.getfield 21, 3) := by decide +kernel
theorem d_Tx_write_4 : decode b_Tx_write 4 = .ok (.aload_n 1, 1) := by decide +kernel
theorem d_Tx_write_5 : decode b_Tx_write 5 = .ok (.invokevirtual 25, 3) := by decide +kernel
theorem d_Tx_write_8 : decode b_Tx_write 8 = .ok (.iconst 0, 1) := by decide +kernel
theorem d_Tx_write_9 : decode b_Tx_write 9 = .ok (.istore_n 2, 1) := by decide +kernel
theorem d_Tx_write_10 : decode b_Tx_write 10 = .ok (.aload_n 0, 1) := by decide +kernel
theorem d_Tx_write_11 : decode b_Tx_write 11 = .ok (.getfield 21, 3) := by decide +kernel
theorem d_Tx_write_14 : decode b_Tx_write 14 = .ok (.getfield 29, 3) := by decide +kernel
theorem d_Tx_write_17 : decode b_Tx_write 17 = .ok (.ifCond .eq 64, 3) := by decide +kernel
theorem d_Tx_write_20 : decode b_Tx_write 20 = .ok (.iload_n 2, 1) := by decide +kernel
theorem d_Tx_write_21 : decode b_Tx_write 21 = .ok (.bipush 9, 2) := by decide +kernel
theorem d_Tx_write_23 : decode b_Tx_write 23 = .ok (.iadd, 1) := by decide +kernel
theorem d_Tx_write_24 : decode b_Tx_write 24 = .ok (.sipush 128, 3) := by decide +kernel
theorem d_Tx_write_27 : decode b_Tx_write 27 = .ok (.if_icmp .ge 54, 3) := by decide +kernel
theorem d_Tx_write_30 : decode b_Tx_write 30 = .ok (.aload_n 0, 1) := by decide +kernel
theorem d_Tx_write_31 : decode b_Tx_write 31 = .ok (.getfield 21, 3) := by decide +kernel
theorem d_Tx_write_34 : decode b_Tx_write 34 = .ok (.ldc 33, 2) := by decide +kernel
theorem d_Tx_write_36 : decode b_Tx_write 36 = .ok (.invokevirtual 34, 3) := by decide +kernel
theorem d_Tx_write_39 : decode b_Tx_write 39 = .ok (.istore_n 3, 1) := by decide +kernel
theorem d_Tx_write_40 : decode b_Tx_write 40 = .ok (.iconst 0, 1) := by decide +kernel
theorem d_Tx_write_41 : decode b_Tx_write 41 = .ok (.istore 4, 2) := by decide +kernel
theorem d_Tx_write_43 : decode b_Tx_write 43 = .ok (.iload 4, 2) := by decide +kernel
theorem d_Tx_write_45 : decode b_Tx_write 45 = .ok (.bipush 9, 2) := by decide +kernel
theorem d_Tx_write_47 : decode b_Tx_write 47 = .ok (.if_icmp .ge 31, 3) := by decide +kernel
theorem d_Tx_write_50 : decode b_Tx_write 50 = .ok (.aload_n 0, 1) := by decide +kernel
theorem d_Tx_write_51 : decode b_Tx_write 51 = .ok (.getfield 13, 3) := by decide +kernel
theorem d_Tx_write_54 : decode b_Tx_write 54 = .ok (.iload_n 2, 1) := by decide +kernel
theorem d_Tx_write_55 : decode b_Tx_write 55 = .ok (.bipush 48, 2) := by decide +kernel
theorem d_Tx_write_57 : decode b_Tx_write 57 = .ok (.iload_n 3, 1) := by decide +kernel
theorem d_Tx_write_58 : decode b_Tx_write 58 = .ok (.bipush 10, 2) := by decide +kernel
theorem d_Tx_write_60 : decode b_Tx_write 60 = .ok (.irem, 1) := by decide +kernel
theorem d_Tx_write_61 : decode b_Tx_write 61 = .ok (.iadd, 1) := by decide +kernel
theorem d_Tx_write_62 : decode b_Tx_write 62 = .ok (.i2b, 1) := by decide +kernel
theorem d_Tx_write_63 : decode b_Tx_write 63 = .ok (.bastore, 1) := by decide +kernel
theorem d_Tx_write_64 : decode b_Tx_write 64 = .ok (.iload_n 3, 1) := by decide +kernel
theorem d_Tx_write_65 : decode b_Tx_write 65 = .ok (.bipush 10, 2) := by decide +kernel
theorem d_Tx_write_67 : decode b_Tx_write 67 = .ok (.idiv, 1) := by decide +kernel
theorem d_Tx_write_68 : decode b_Tx_write 68 = .ok (.istore_n 3, 1) := by decide +kernel
theorem d_Tx_write_69 : decode b_Tx_write 69 = .ok (.iinc 2 1, 3) := by decide +kernel
theorem d_Tx_write_72 : decode b_Tx_write 72 = .ok (.iinc 4 1, 3) := by decide +kernel
theorem d_Tx_write_75 : decode b_Tx_write 75 = .ok (.goto (-32), 3) := by decide +kernel
theorem d_Tx_write_78 : decode b_Tx_write 78 = .ok (.goto (-68), 3) := by decide +kernel
theorem d_Tx_write_81 : decode b_Tx_write 81 = .ok (.iload_n 2, 1) := by decide +kernel
theorem d_Tx_write_82 : decode b_Tx_write 82 = .ok (.ifCond .le 22, 3) := by decide +kernel
theorem d_Tx_write_85 : decode b_Tx_write 85 = .ok (.aload_n 0, 1) := by decide +kernel
theorem d_Tx_write_86 : decode b_Tx_write 86 = .ok (.getfield 13, 3) := by decide +kernel
theorem d_Tx_write_89 : decode b_Tx_write 89 = .ok (.iload_n 2, 1) := by decide +kernel
theorem d_Tx_write_90 : decode b_Tx_write 90 = .ok (.iconst 1, 1) := by decide +kernel
theorem d_Tx_write_91 : decode b_Tx_write 91 = .ok (.isub, 1) := by decide +kernel
theorem d_Tx_write_92 : decode b_Tx_write 92 = .ok (.baload, 1) := by decide +kernel
theorem d_Tx_write_93 : decode b_Tx_write 93 = .ok (.bipush 48, 2) := by decide +kernel
theorem d_Tx_write_95 : decode b_Tx_write 95 = .ok (.if_icmp .ne 9, 3) := by decide +kernel
theorem d_Tx_write_98 : decode b_Tx_write 98 = .ok (.iinc 2 (-1), 3) := by decide +kernel
theorem d_Tx_write_101 : decode b_Tx_write 101 = .ok (.goto (-20), 3) := by decide +kernel
theorem d_Tx_write_104 : decode b_Tx_write 104 = .ok (.iload_n 2, 1) := by decide +kernel
theorem d_Tx_write_105 : decode b_Tx_write 105 = .ok (.ifCond .ne 13, 3) := by decide +kernel
theorem d_Tx_write_108 : decode b_Tx_write 108 = .ok (.aload_n 0, 1) := by decide +kernel
theorem d_Tx_write_109 : decode b_Tx_write 109 = .ok (.getfield 13, 3) := by decide +kernel
theorem d_Tx_write_112 : decode b_Tx_write 112 = .ok (.iconst 0, 1) := by decide +kernel
theorem d_Tx_write_113 : decode b_Tx_write 113 = .ok (.bipush 48, 2) := by decide +kernel
theorem d_Tx_write_115 : decode b_Tx_write 115 = .ok (.bastore, 1) := by decide +kernel
theorem d_Tx_write_116 : decode b_Tx_write 116 = .ok (.iconst 1, 1) := by decide +kernel
theorem d_Tx_write_117 : decode b_Tx_write 117 = .ok (.istore_n 2, 1) := by decide +kernel
theorem d_Tx_write_118 : decode b_Tx_write 118 = .ok (.aload_n 0, 1) := by decide +kernel
theorem d_Tx_write_119 : decode b_Tx_write 119 = .ok (.iconst 0, 1) := by decide +kernel
theorem d_Tx_write_120 : decode b_Tx_write 120 = .ok (.putfield 38, 3) := by decide +kernel
theorem d_Tx_write_123 : decode b_Tx_write 123 = .ok (.aload_n 1, 1) := by decide +kernel
theorem d_Tx_write_124 : decode b_Tx_write 124 = .ok (.getfield 29, 3) := by decide +kernel
theorem d_Tx_write_127 : decode b_Tx_write 127 = .ok (.ifCond .ge 16, 3) := by decide +kernel
theorem d_Tx_write_130 : decode b_Tx_write 130 = .ok (.aload_n 0, 1) := by decide +kernel
theorem d_Tx_write_131 : decode b_Tx_write 131 = .ok (.getfield 9, 3) := by decide +kernel
theorem d_Tx_write_134 : decode b_Tx_write 134 = .ok (.iconst 0, 1) := by decide +kernel
theorem d_Tx_write_135 : decode b_Tx_write 135 = .ok (.bipush 45, 2) := by decide +kernel
theorem d_Tx_write_137 : decode b_Tx_write 137 = .ok (.bastore, 1) := by decide +kernel
theorem d_Tx_write_138 : decode b_Tx_write 138 = .ok (.aload_n 0, 1) := by decide +kernel
theorem d_Tx_write_139 : decode b_Tx_write 139 = .ok (.iconst 1, 1) := by decide +kernel
theorem d_Tx_write_140 : decode b_Tx_write 140 = .ok (.putfield 38, 3) := by decide +kernel
theorem d_Tx_write_143 : decode b_Tx_write 143 = .ok (.iload_n 2, 1) := by decide +kernel
theorem d_Tx_write_144 : decode b_Tx_write 144 = .ok (.iconst 1, 1) := by decide +kernel
theorem d_Tx_write_145 : decode b_Tx_write 145 = .ok (.isub, 1) := by decide +kernel
theorem d_Tx_write_146 : decode b_Tx_write 146 = .ok (.istore_n 3, 1) := by decide +kernel
theorem d_Tx_write_147 : decode b_Tx_write 147 = .ok (.iload_n 3, 1) := by decide +kernel
theorem d_Tx_write_148 : decode b_Tx_write 148 = .ok (.ifCond .lt 44, 3) := by decide +kernel
theorem d_Tx_write_151 : decode b_Tx_write 151 = .ok (.aload_n 0, 1) := by decide +kernel
theorem d_Tx_write_152 : decode b_Tx_write 152 = .ok (.getfield 38, 3) := by decide +kernel
theorem d_Tx_write_155 : decode b_Tx_write 155 = .ok (.sipush 128, 3) := by decide +kernel
theorem d_Tx_write_158 : decode b_Tx_write 158 = .ok (.if_icmp .ge 34, 3) := by decide +kernel
theorem d_Tx_write_161 : decode b_Tx_write 161 = .ok (.aload_n 0, 1) := by decide +kernel
theorem d_Tx_write_162 : decode b_Tx_write 162 = .ok (.getfield 9, 3) := by decide +kernel
theorem d_Tx_write_165 : decode b_Tx_write 165 = .ok (.aload_n 0, 1) := by decide +kernel
theorem d_Tx_write_166 : decode b_Tx_write 166 = .ok (.getfield 38, 3) := by decide +kernel
theorem d_Tx_write_169 : decode b_Tx_write 169 = .ok (.aload_n 0, 1) := by decide +kernel
theorem d_Tx_write_170 : decode b_Tx_write 170 = .ok (.getfield 13, 3) := by decide +kernel
theorem d_Tx_write_173 : decode b_Tx_write 173 = .ok (.iload_n 3, 1) := by decide +kernel
theorem d_Tx_write_174 : decode b_Tx_write 174 = .ok (.baload, 1) := by decide +kernel
theorem d_Tx_write_175 : decode b_Tx_write 175 = .ok (.bastore, 1) := by decide +kernel
theorem d_Tx_write_176 : decode b_Tx_write 176 = .ok (.aload_n 0, 1) := by decide +kernel
theorem d_Tx_write_177 : decode b_Tx_write 177 = .ok (.dup, 1) := by decide +kernel
theorem d_Tx_write_178 : decode b_Tx_write 178 = .ok (.getfield 38, 3) := by decide +kernel
theorem d_Tx_write_181 : decode b_Tx_write 181 = .ok (.iconst 1, 1) := by decide +kernel
theorem d_Tx_write_182 : decode b_Tx_write 182 = .ok (.iadd, 1) := by decide +kernel
theorem d_Tx_write_183 : decode b_Tx_write 183 = .ok (.putfield 38, 3) := by decide +kernel
theorem d_Tx_write_186 : decode b_Tx_write 186 = .ok (.iinc 3 (-1), 3) := by decide +kernel
theorem d_Tx_write_189 : decode b_Tx_write 189 = .ok (.goto (-42), 3) := by decide +kernel
theorem d_Tx_write_192 : decode b_Tx_write 192 = .ok (.aload_n 0, 1) := by decide +kernel
theorem d_Tx_write_193 : decode b_Tx_write 193 = .ok (.getfield 38, 3) := by decide +kernel
theorem d_Tx_write_196 : decode b_Tx_write 196 = .ok (.ireturn, 1) := by decide +kernel
theorem d_Tx_eightFrom_0 : decode b_Tx_eightFrom 0 = .ok (.lconst 0, 1) := by decide +kernel
theorem d_Tx_eightFrom_1 : decode b_Tx_eightFrom 1 = .ok (.lstore_n 2, 1) := by decide +kernel
theorem d_Tx_eightFrom_2 : decode b_Tx_eightFrom 2 = .ok (.iconst 0, 1) := by decide +kernel
theorem d_Tx_eightFrom_3 : decode b_Tx_eightFrom 3 = .ok (.istore 4, 2) := by decide +kernel
theorem d_Tx_eightFrom_5 : decode b_Tx_eightFrom 5 = .ok (.iload 4, 2) := by decide +kernel
theorem d_Tx_eightFrom_7 : decode b_Tx_eightFrom 7 = .ok (.bipush 8, 2) := by decide +kernel
theorem d_Tx_eightFrom_9 : decode b_Tx_eightFrom 9 = .ok (.if_icmp .ge 43, 3) := by decide +kernel
theorem d_Tx_eightFrom_12 : decode b_Tx_eightFrom 12 = .ok (.iload_n 1, 1) := by decide +kernel
theorem d_Tx_eightFrom_13 : decode b_Tx_eightFrom 13 = .ok (.iload 4, 2) := by decide +kernel
theorem d_Tx_eightFrom_15 : decode b_Tx_eightFrom 15 = .ok (.iadd, 1) := by decide +kernel
theorem d_Tx_eightFrom_16 : decode b_Tx_eightFrom 16 = .ok (.aload_n 0, 1) := by decide +kernel
theorem d_Tx_eightFrom_17 : decode b_Tx_eightFrom 17 = .ok (.getfield 38, 3) := by decide +kernel
theorem d_Tx_eightFrom_20 : decode b_Tx_eightFrom 20 = .ok (.if_icmp .ge 32, 3) := by decide +kernel
theorem d_Tx_eightFrom_23 : decode b_Tx_eightFrom 23 = .ok (.lload_n 2, 1) := by decide +kernel
theorem d_Tx_eightFrom_24 : decode b_Tx_eightFrom 24 = .ok (.aload_n 0, 1) := by decide +kernel
theorem d_Tx_eightFrom_25 : decode b_Tx_eightFrom 25 = .ok (.getfield 9, 3) := by decide +kernel
theorem d_Tx_eightFrom_28 : decode b_Tx_eightFrom 28 = .ok (.iload_n 1, 1) := by decide +kernel
theorem d_Tx_eightFrom_29 : decode b_Tx_eightFrom 29 = .ok (.iload 4, 2) := by decide +kernel
theorem d_Tx_eightFrom_31 : decode b_Tx_eightFrom 31 = .ok (.iadd, 1) := by decide +kernel
theorem d_Tx_eightFrom_32 : decode b_Tx_eightFrom 32 = .ok (.baload, 1) := by decide +kernel
theorem d_Tx_eightFrom_33 : decode b_Tx_eightFrom 33 = .ok (.i2l, 1) := by decide +kernel
theorem d_Tx_eightFrom_34 : decode b_Tx_eightFrom 34 = .ok (.ldc2_w 41, 3) := by decide +kernel
theorem d_Tx_eightFrom_37 : decode b_Tx_eightFrom 37 = .ok (.land, 1) := by decide +kernel
theorem d_Tx_eightFrom_38 : decode b_Tx_eightFrom 38 = .ok (.bipush 8, 2) := by decide +kernel
theorem d_Tx_eightFrom_40 : decode b_Tx_eightFrom 40 = .ok (.iload 4, 2) := by decide +kernel
theorem d_Tx_eightFrom_42 : decode b_Tx_eightFrom 42 = .ok (.imul, 1) := by decide +kernel
theorem d_Tx_eightFrom_43 : decode b_Tx_eightFrom 43 = .ok (.lshl, 1) := by decide +kernel
theorem d_Tx_eightFrom_44 : decode b_Tx_eightFrom 44 = .ok (.lor, 1) := by decide +kernel
theorem d_Tx_eightFrom_45 : decode b_Tx_eightFrom 45 = .ok (.lstore_n 2, 1) := by decide +kernel
theorem d_Tx_eightFrom_46 : decode b_Tx_eightFrom 46 = .ok (.iinc 4 1, 3) := by decide +kernel
theorem d_Tx_eightFrom_49 : decode b_Tx_eightFrom 49 = .ok (.goto (-44), 3) := by decide +kernel
theorem d_Tx_eightFrom_52 : decode b_Tx_eightFrom 52 = .ok (.lload_n 2, 1) := by decide +kernel
theorem d_Tx_eightFrom_53 : decode b_Tx_eightFrom 53 = .ok (.lreturn, 1) := by decide +kernel
theorem d_D_checkRoot_0 : decode b_D_checkRoot 0 = .ok (.iload_n 2, 1) := by decide +kernel
theorem d_D_checkRoot_1 : decode b_D_checkRoot 1 = .ok (.ifCond .lt 11, 3) := by decide +kernel
theorem d_D_checkRoot_4 : decode b_D_checkRoot 4 = .ok (.iload_n 2, 1) := by decide +kernel
theorem d_D_checkRoot_5 : decode b_D_checkRoot 5 = .ok (.aload_n 1, 1) := by decide +kernel
theorem d_D_checkRoot_6 : decode b_D_checkRoot 6 = .ok (.getfield 70, 3) := by decide +kernel
theorem d_D_checkRoot_9 : decode b_D_checkRoot 9 = .ok (.if_icmp .lt 13, 3) := by decide +kernel
theorem d_D_checkRoot_12 : decode b_D_checkRoot 12 = .ok (.new 164, 3) := by decide +kernel
theorem d_D_checkRoot_15 : decode b_D_checkRoot 15 = .ok (.dup, 1) := by decide +kernel
theorem d_D_checkRoot_16 : decode b_D_checkRoot 16 = .ok (.ldc 182, 2) := by decide +kernel
theorem d_D_checkRoot_18 : decode b_D_checkRoot 18 = .ok (.invokespecial 168, 3) := by decide +kernel
theorem d_D_checkRoot_21 : decode b_D_checkRoot 21 = .ok (.athrow, 1) := by decide +kernel
theorem d_D_checkRoot_22 : decode b_D_checkRoot 22 = .ok (.return_, 1) := by decide +kernel
theorem d_Mo_copy_0 : decode b_Mo_copy 0 = .ok (.iconst 0, 1) := by decide +kernel
theorem d_Mo_copy_1 : decode b_Mo_copy 1 = .ok (.istore_n 3, 1) := by decide +kernel
theorem d_Mo_copy_2 : decode b_Mo_copy 2 = .ok (.iload_n 3, 1) := by decide +kernel
theorem d_Mo_copy_3 : decode b_Mo_copy 3 = .ok (.aload_n 0, 1) := by decide +kernel
theorem d_Mo_copy_4 : decode b_Mo_copy 4 = .ok (.getfield 14, 3) := by decide +kernel
theorem d_Mo_copy_7 : decode b_Mo_copy 7 = .ok (.iload_n 2, 1) := by decide +kernel
theorem d_Mo_copy_8 : decode b_Mo_copy 8 = .ok (.iaload, 1) := by decide +kernel
theorem d_Mo_copy_9 : decode b_Mo_copy 9 = .ok (.if_icmp .ge 33, 3) := by decide +kernel
theorem d_Mo_copy_12 : decode b_Mo_copy 12 = .ok (.aload_n 0, 1) := by decide +kernel
theorem d_Mo_copy_13 : decode b_Mo_copy 13 = .ok (.getfield 8, 3) := by decide +kernel
theorem d_Mo_copy_16 : decode b_Mo_copy 16 = .ok (.sipush 1024, 3) := by decide +kernel
theorem d_Mo_copy_19 : decode b_Mo_copy 19 = .ok (.iload_n 1, 1) := by decide +kernel
theorem d_Mo_copy_20 : decode b_Mo_copy 20 = .ok (.imul, 1) := by decide +kernel
theorem d_Mo_copy_21 : decode b_Mo_copy 21 = .ok (.iload_n 3, 1) := by decide +kernel
theorem d_Mo_copy_22 : decode b_Mo_copy 22 = .ok (.iadd, 1) := by decide +kernel
theorem d_Mo_copy_23 : decode b_Mo_copy 23 = .ok (.aload_n 0, 1) := by decide +kernel
theorem d_Mo_copy_24 : decode b_Mo_copy 24 = .ok (.getfield 8, 3) := by decide +kernel
theorem d_Mo_copy_27 : decode b_Mo_copy 27 = .ok (.sipush 1024, 3) := by decide +kernel
theorem d_Mo_copy_30 : decode b_Mo_copy 30 = .ok (.iload_n 2, 1) := by decide +kernel
theorem d_Mo_copy_31 : decode b_Mo_copy 31 = .ok (.imul, 1) := by decide +kernel
theorem d_Mo_copy_32 : decode b_Mo_copy 32 = .ok (.iload_n 3, 1) := by decide +kernel
theorem d_Mo_copy_33 : decode b_Mo_copy 33 = .ok (.iadd, 1) := by decide +kernel
theorem d_Mo_copy_34 : decode b_Mo_copy 34 = .ok (.iaload, 1) := by decide +kernel
theorem d_Mo_copy_35 : decode b_Mo_copy 35 = .ok (.iastore, 1) := by decide +kernel
theorem d_Mo_copy_36 : decode b_Mo_copy 36 = .ok (.iinc 3 1, 3) := by decide +kernel
theorem d_Mo_copy_39 : decode b_Mo_copy 39 = .ok (.goto (-37), 3) := by decide +kernel
theorem d_Mo_copy_42 : decode b_Mo_copy 42 = .ok (.aload_n 0, 1) := by decide +kernel
theorem d_Mo_copy_43 : decode b_Mo_copy 43 = .ok (.getfield 14, 3) := by decide +kernel
theorem d_Mo_copy_46 : decode b_Mo_copy 46 = .ok (.iload_n 1, 1) := by decide +kernel
theorem d_Mo_copy_47 : decode b_Mo_copy 47 = .ok (.aload_n 0, 1) := by decide +kernel
theorem d_Mo_copy_48 : decode b_Mo_copy 48 = .ok (.getfield 14, 3) := by decide +kernel
theorem d_Mo_copy_51 : decode b_Mo_copy 51 = .ok (.iload_n 2, 1) := by decide +kernel
theorem d_Mo_copy_52 : decode b_Mo_copy 52 = .ok (.iaload, 1) := by decide +kernel
theorem d_Mo_copy_53 : decode b_Mo_copy 53 = .ok (.iastore, 1) := by decide +kernel
theorem d_Mo_copy_54 : decode b_Mo_copy 54 = .ok (.aload_n 0, 1) := by decide +kernel
theorem d_Mo_copy_55 : decode b_Mo_copy 55 = .ok (.getfield 17, 3) := by decide +kernel
theorem d_Mo_copy_58 : decode b_Mo_copy 58 = .ok (.iload_n 1, 1) := by decide +kernel
theorem d_Mo_copy_59 : decode b_Mo_copy 59 = .ok (.aload_n 0, 1) := by decide +kernel
theorem d_Mo_copy_60 : decode b_Mo_copy 60 = .ok (.getfield 17, 3) := by decide +kernel
theorem d_Mo_copy_63 : decode b_Mo_copy 63 = .ok (.iload_n 2, 1) := by decide +kernel
theorem d_Mo_copy_64 : decode b_Mo_copy 64 = .ok (.iaload, 1) := by decide +kernel
theorem d_Mo_copy_65 : decode b_Mo_copy 65 = .ok (.iastore, 1) := by decide +kernel
theorem d_Mo_copy_66 : decode b_Mo_copy 66 = .ok (.return_, 1) := by decide +kernel
theorem d_Mo_at_0 : decode b_Mo_at 0 = .ok (.iload_n 2, 1) := by decide +kernel
theorem d_Mo_at_1 : decode b_Mo_at 1 = .ok (.ifCond .lt 28, 3) := by decide +kernel
theorem d_Mo_at_4 : decode b_Mo_at 4 = .ok (.iload_n 2, 1) := by decide +kernel
theorem d_Mo_at_5 : decode b_Mo_at 5 = .ok (.aload_n 0, 1) := by decide +kernel
theorem d_Mo_at_6 : decode b_Mo_at 6 = .ok (.getfield 14, 3) := by decide +kernel
theorem d_Mo_at_9 : decode b_Mo_at 9 = .ok (.iload_n 1, 1) := by decide +kernel
theorem d_Mo_at_10 : decode b_Mo_at 10 = .ok (.iaload, 1) := by decide +kernel
theorem d_Mo_at_11 : decode b_Mo_at 11 = .ok (.if_icmp .ge 18, 3) := by decide +kernel
theorem d_Mo_at_14 : decode b_Mo_at 14 = .ok (.aload_n 0, 1) := by decide +kernel
theorem d_Mo_at_15 : decode b_Mo_at 15 = .ok (.getfield 8, 3) := by decide +kernel
theorem d_Mo_at_18 : decode b_Mo_at 18 = .ok (.sipush 1024, 3) := by decide +kernel
theorem d_Mo_at_21 : decode b_Mo_at 21 = .ok (.iload_n 1, 1) := by decide +kernel
theorem d_Mo_at_22 : decode b_Mo_at 22 = .ok (.imul, 1) := by decide +kernel
theorem d_Mo_at_23 : decode b_Mo_at 23 = .ok (.iload_n 2, 1) := by decide +kernel
theorem d_Mo_at_24 : decode b_Mo_at 24 = .ok (.iadd, 1) := by decide +kernel
theorem d_Mo_at_25 : decode b_Mo_at 25 = .ok (.iaload, 1) := by decide +kernel
theorem d_Mo_at_26 : decode b_Mo_at 26 = .ok (.goto 4, 3) := by decide +kernel
theorem d_Mo_at_29 : decode b_Mo_at 29 = .ok (.iconst 0, 1) := by decide +kernel
theorem d_Mo_at_30 : decode b_Mo_at 30 = .ok (.ireturn, 1) := by decide +kernel
theorem d_Mo_trim_0 : decode b_Mo_trim 0 = .ok (.aload_n 0, 1) := by decide +kernel
theorem d_Mo_trim_1 : decode b_Mo_trim 1 = .ok (.getfield 14, 3) := by decide +kernel
theorem d_Mo_trim_4 : decode b_Mo_trim 4 = .ok (.iload_n 1, 1) := by decide +kernel
theorem d_Mo_trim_5 : decode b_Mo_trim 5 = .ok (.iload_n 2, 1) := by decide +kernel
theorem d_Mo_trim_6 : decode b_Mo_trim 6 = .ok (.iastore, 1) := by decide +kernel
theorem d_Mo_trim_7 : decode b_Mo_trim 7 = .ok (.aload_n 0, 1) := by decide +kernel
theorem d_Mo_trim_8 : decode b_Mo_trim 8 = .ok (.getfield 14, 3) := by decide +kernel
theorem d_Mo_trim_11 : decode b_Mo_trim 11 = .ok (.iload_n 1, 1) := by decide +kernel
theorem d_Mo_trim_12 : decode b_Mo_trim 12 = .ok (.iaload, 1) := by decide +kernel
theorem d_Mo_trim_13 : decode b_Mo_trim 13 = .ok (.ifCond .le 38, 3) := by decide +kernel
theorem d_Mo_trim_16 : decode b_Mo_trim 16 = .ok (.aload_n 0, 1) := by decide +kernel
theorem d_Mo_trim_17 : decode b_Mo_trim 17 = .ok (.getfield 8, 3) := by decide +kernel
theorem d_Mo_trim_20 : decode b_Mo_trim 20 = .ok (.sipush 1024, 3) := by decide +kernel
theorem d_Mo_trim_23 : decode b_Mo_trim 23 = .ok (.iload_n 1, 1) := by decide +kernel
theorem d_Mo_trim_24 : decode b_Mo_trim 24 = .ok (.imul, 1) := by decide +kernel
theorem d_Mo_trim_25 : decode b_Mo_trim 25 = .ok (.aload_n 0, 1) := by decide +kernel
theorem d_Mo_trim_26 : decode b_Mo_trim 26 = .ok (.getfield 14, 3) := by decide +kernel
theorem d_Mo_trim_29 : decode b_Mo_trim 29 = .ok (.iload_n 1, 1) := by decide +kernel
theorem d_Mo_trim_30 : decode b_Mo_trim 30 = .ok (.iaload, 1) := by decide +kernel
theorem d_Mo_trim_31 : decode b_Mo_trim 31 = .ok (.iadd, 1) := by decide +kernel
theorem d_Mo_trim_32 : decode b_Mo_trim 32 = .ok (.iconst 1, 1) := by decide +kernel
theorem d_Mo_trim_33 : decode b_Mo_trim 33 = .ok (.isub, 1) := by decide +kernel
theorem d_Mo_trim_34 : decode b_Mo_trim 34 = .ok (.iaload, 1) := by decide +kernel
theorem d_Mo_trim_35 : decode b_Mo_trim 35 = .ok (.ifCond .ne 16, 3) := by decide +kernel
theorem d_Mo_trim_38 : decode b_Mo_trim 38 = .ok (.aload_n 0, 1) := by decide +kernel
theorem d_Mo_trim_39 : decode b_Mo_trim 39 = .ok (.getfield 14, 3) := by decide +kernel
theorem d_Mo_trim_42 : decode b_Mo_trim 42 = .ok (.iload_n 1, 1) := by decide +kernel
theorem d_Mo_trim_43 : decode b_Mo_trim 43 = .ok (.dup2, 1) := by decide +kernel
theorem d_Mo_trim_44 : decode b_Mo_trim 44 = .ok (.iaload, 1) := by decide +kernel
theorem d_Mo_trim_45 : decode b_Mo_trim 45 = .ok (.iconst 1, 1) := by decide +kernel
theorem d_Mo_trim_46 : decode b_Mo_trim 46 = .ok (.isub, 1) := by decide +kernel
theorem d_Mo_trim_47 : decode b_Mo_trim 47 = .ok (.iastore, 1) := by decide +kernel
theorem d_Mo_trim_48 : decode b_Mo_trim 48 = .ok (.goto (-41), 3) := by decide +kernel
theorem d_Mo_trim_51 : decode b_Mo_trim 51 = .ok (.aload_n 0, 1) := by decide +kernel
theorem d_Mo_trim_52 : decode b_Mo_trim 52 = .ok (.getfield 14, 3) := by decide +kernel
theorem d_Mo_trim_55 : decode b_Mo_trim 55 = .ok (.iload_n 1, 1) := by decide +kernel
theorem d_Mo_trim_56 : decode b_Mo_trim 56 = .ok (.iaload, 1) := by decide +kernel
theorem d_Mo_trim_57 : decode b_Mo_trim 57 = .ok (.ifCond .ne 10, 3) := by decide +kernel
theorem d_Mo_trim_60 : decode b_Mo_trim 60 = .ok (.aload_n 0, 1) := by decide +kernel
theorem d_Mo_trim_61 : decode b_Mo_trim 61 = .ok (.getfield 17, 3) := by decide +kernel
theorem d_Mo_trim_64 : decode b_Mo_trim 64 = .ok (.iload_n 1, 1) := by decide +kernel
theorem d_Mo_trim_65 : decode b_Mo_trim 65 = .ok (.iconst 0, 1) := by decide +kernel
theorem d_Mo_trim_66 : decode b_Mo_trim 66 = .ok (.iastore, 1) := by decide +kernel
theorem d_Mo_trim_67 : decode b_Mo_trim 67 = .ok (.return_, 1) := by decide +kernel
theorem d_Mo_against_0 : decode b_Mo_against 0 = .ok (.aload_n 0, 1) := by decide +kernel
theorem d_Mo_against_1 : decode b_Mo_against 1 = .ok (.getfield 14, 3) := by decide +kernel
theorem d_Mo_against_4 : decode b_Mo_against 4 = .ok (.iload_n 1, 1) := by decide +kernel
theorem d_Mo_against_5 : decode b_Mo_against 5 = .ok (.iaload, 1) := by decide +kernel
theorem d_Mo_against_6 : decode b_Mo_against 6 = .ok (.aload_n 0, 1) := by decide +kernel
theorem d_Mo_against_7 : decode b_Mo_against 7 = .ok (.getfield 14, 3) := by decide +kernel
theorem d_Mo_against_10 : decode b_Mo_against 10 = .ok (.iload_n 2, 1) := by decide +kernel
theorem d_Mo_against_11 : decode b_Mo_against 11 = .ok (.iaload, 1) := by decide +kernel
theorem d_Mo_against_12 : decode b_Mo_against 12 = .ok (.if_icmp .eq 24, 3) := by decide +kernel
theorem d_Mo_against_15 : decode b_Mo_against 15 = .ok (.aload_n 0, 1) := by decide +kernel
theorem d_Mo_against_16 : decode b_Mo_against 16 = .ok (.getfield 14, 3) := by decide +kernel
theorem d_Mo_against_19 : decode b_Mo_against 19 = .ok (.iload_n 1, 1) := by decide +kernel
theorem d_Mo_against_20 : decode b_Mo_against 20 = .ok (.iaload, 1) := by decide +kernel
theorem d_Mo_against_21 : decode b_Mo_against 21 = .ok (.aload_n 0, 1) := by decide +kernel
theorem d_Mo_against_22 : decode b_Mo_against 22 = .ok (.getfield 14, 3) := by decide +kernel
theorem d_Mo_against_25 : decode b_Mo_against 25 = .ok (.iload_n 2, 1) := by decide +kernel
theorem d_Mo_against_26 : decode b_Mo_against 26 = .ok (.iaload, 1) := by decide +kernel
theorem d_Mo_against_27 : decode b_Mo_against 27 = .ok (.if_icmp .ge 7, 3) := by decide +kernel
theorem d_Mo_against_30 : decode b_Mo_against 30 = .ok (.iconst (-1), 1) := by decide +kernel
theorem d_Mo_against_31 : decode b_Mo_against 31 = .ok (.goto 4, 3) := by decide +kernel
theorem d_Mo_against_34 : decode b_Mo_against 34 = .ok (.iconst 1, 1) := by decide +kernel
theorem d_Mo_against_35 : decode b_Mo_against 35 = .ok (.ireturn, 1) := by decide +kernel
theorem d_Mo_against_36 : decode b_Mo_against 36 = .ok (.aload_n 0, 1) := by decide +kernel
theorem d_Mo_against_37 : decode b_Mo_against 37 = .ok (.getfield 14, 3) := by decide +kernel
theorem d_Mo_against_40 : decode b_Mo_against 40 = .ok (.iload_n 1, 1) := by decide +kernel
theorem d_Mo_against_41 : decode b_Mo_against 41 = .ok (.iaload, 1) := by decide +kernel
theorem d_Mo_against_42 : decode b_Mo_against 42 = .ok (.iconst 1, 1) := by decide +kernel
theorem d_Mo_against_43 : decode b_Mo_against 43 = .ok (.isub, 1) := by decide +kernel
theorem d_Mo_against_44 : decode b_Mo_against 44 = .ok (.istore_n 3, 1) := by decide +kernel
theorem d_Mo_against_45 : decode b_Mo_against 45 = .ok (.iload_n 3, 1) := by decide +kernel
theorem d_Mo_against_46 : decode b_Mo_against 46 = .ok (.ifCond .lt 45, 3) := by decide +kernel
theorem d_Mo_against_49 : decode b_Mo_against 49 = .ok (.aload_n 0, 1) := by decide +kernel
theorem d_Mo_against_50 : decode b_Mo_against 50 = .ok (.iload_n 1, 1) := by decide +kernel
theorem d_Mo_against_51 : decode b_Mo_against 51 = .ok (.iload_n 3, 1) := by decide +kernel
theorem d_Mo_against_52 : decode b_Mo_against 52 = .ok (.invokevirtual 45, 3) := by decide +kernel
theorem d_Mo_against_55 : decode b_Mo_against 55 = .ok (.aload_n 0, 1) := by decide +kernel
theorem d_Mo_against_56 : decode b_Mo_against 56 = .ok (.iload_n 2, 1) := by decide +kernel
theorem d_Mo_against_57 : decode b_Mo_against 57 = .ok (.iload_n 3, 1) := by decide +kernel
theorem d_Mo_against_58 : decode b_Mo_against 58 = .ok (.invokevirtual 45, 3) := by decide +kernel
theorem d_Mo_against_61 : decode b_Mo_against 61 = .ok (.if_icmp .eq 24, 3) := by decide +kernel
theorem d_Mo_against_64 : decode b_Mo_against 64 = .ok (.aload_n 0, 1) := by decide +kernel
theorem d_Mo_against_65 : decode b_Mo_against 65 = .ok (.iload_n 1, 1) := by decide +kernel
theorem d_Mo_against_66 : decode b_Mo_against 66 = .ok (.iload_n 3, 1) := by decide +kernel
theorem d_Mo_against_67 : decode b_Mo_against 67 = .ok (.invokevirtual 45, 3) := by decide +kernel
theorem d_Mo_against_70 : decode b_Mo_against 70 = .ok (.aload_n 0, 1) := by decide +kernel
theorem d_Mo_against_71 : decode b_Mo_against 71 = .ok (.iload_n 2, 1) := by decide +kernel
theorem d_Mo_against_72 : decode b_Mo_against 72 = .ok (.iload_n 3, 1) := by decide +kernel
theorem d_Mo_against_73 : decode b_Mo_against 73 = .ok (.invokevirtual 45, 3) := by decide +kernel
theorem d_Mo_against_76 : decode b_Mo_against 76 = .ok (.if_icmp .ge 7, 3) := by decide +kernel
theorem d_Mo_against_79 : decode b_Mo_against 79 = .ok (.iconst (-1), 1) := by decide +kernel
theorem d_Mo_against_80 : decode b_Mo_against 80 = .ok (.goto 4, 3) := by decide +kernel
theorem d_Mo_against_83 : decode b_Mo_against 83 = .ok (.iconst 1, 1) := by decide +kernel
theorem d_Mo_against_84 : decode b_Mo_against 84 = .ok (.ireturn, 1) := by decide +kernel
theorem d_Mo_against_85 : decode b_Mo_against 85 = .ok (.iinc 3 (-1), 3) := by decide +kernel
theorem d_Mo_against_88 : decode b_Mo_against 88 = .ok (.goto (-43), 3) := by decide +kernel
theorem d_Mo_against_91 : decode b_Mo_against 91 = .ok (.iconst 0, 1) := by decide +kernel
theorem d_Mo_against_92 : decode b_Mo_against 92 = .ok (.ireturn, 1) := by decide +kernel
theorem d_Mo_compareRows_0 : decode b_Mo_compareRows 0 = .ok (.aload_n 0, 1) := by decide +kernel
theorem d_Mo_compareRows_1 : decode b_Mo_compareRows 1 = .ok (.getfield 17, 3) := by decide +kernel
theorem d_Mo_compareRows_4 : decode b_Mo_compareRows 4 = .ok (.iload_n 1, 1) := by decide +kernel
theorem d_Mo_compareRows_5 : decode b_Mo_compareRows 5 = .ok (.iaload, 1) := by decide +kernel
theorem d_Mo_compareRows_6 : decode b_Mo_compareRows 6 = .ok (.aload_n 0, 1) := by decide +kernel
theorem d_Mo_compareRows_7 : decode b_Mo_compareRows 7 = .ok (.getfield 17, 3) := by decide +kernel
theorem d_Mo_compareRows_10 : decode b_Mo_compareRows 10 = .ok (.iload_n 2, 1) := by decide +kernel
theorem d_Mo_compareRows_11 : decode b_Mo_compareRows 11 = .ok (.iaload, 1) := by decide +kernel
theorem d_Mo_compareRows_12 : decode b_Mo_compareRows 12 = .ok (.if_icmp .eq 26, 3) := by decide +kernel
theorem d_Mo_compareRows_15 : decode b_Mo_compareRows 15 = .ok (.aload_n 0, 1) := by decide +kernel
theorem d_Mo_compareRows_16 : decode b_Mo_compareRows 16 = .ok (.getfield 17, 3) := by decide +kernel
theorem d_Mo_compareRows_19 : decode b_Mo_compareRows 19 = .ok (.iload_n 1, 1) := by decide +kernel
theorem d_Mo_compareRows_20 : decode b_Mo_compareRows 20 = .ok (.iaload, 1) := by decide +kernel
theorem d_Mo_compareRows_21 : decode b_Mo_compareRows 21 = .ok (.aload_n 0, 1) := by decide +kernel
theorem d_Mo_compareRows_22 : decode b_Mo_compareRows 22 = .ok (.getfield 17, 3) := by decide +kernel
theorem d_Mo_compareRows_25 : decode b_Mo_compareRows 25 = .ok (.iload_n 2, 1) := by decide +kernel
theorem d_Mo_compareRows_26 : decode b_Mo_compareRows 26 = .ok (.iaload, 1) := by decide +kernel
theorem d_Mo_compareRows_27 : decode b_Mo_compareRows 27 = .ok (.if_icmp .ge 7, 3) := by decide +kernel
theorem d_Mo_compareRows_30 : decode b_Mo_compareRows 30 = .ok (.iconst (-1), 1) := by decide +kernel
theorem d_Mo_compareRows_31 : decode b_Mo_compareRows 31 = .ok (.goto 20, 3) := by decide +kernel
theorem d_Mo_compareRows_34 : decode b_Mo_compareRows 34 = .ok (.iconst 1, 1) := by decide +kernel
theorem d_Mo_compareRows_35 : decode b_Mo_compareRows 35 = .ok (.goto 16, 3) := by decide +kernel
theorem d_Mo_compareRows_38 : decode b_Mo_compareRows 38 = .ok (.aload_n 0, 1) := by decide +kernel
theorem d_Mo_compareRows_39 : decode b_Mo_compareRows 39 = .ok (.getfield 17, 3) := by decide +kernel
theorem d_Mo_compareRows_42 : decode b_Mo_compareRows 42 = .ok (.iload_n 1, 1) := by decide +kernel
theorem d_Mo_compareRows_43 : decode b_Mo_compareRows 43 = .ok (.iaload, 1) := by decide +kernel
theorem d_Mo_compareRows_44 : decode b_Mo_compareRows 44 = .ok (.aload_n 0, 1) := by decide +kernel
theorem d_Mo_compareRows_45 : decode b_Mo_compareRows 45 = .ok (.iload_n 1, 1) := by decide +kernel
theorem d_Mo_compareRows_46 : decode b_Mo_compareRows 46 = .ok (.iload_n 2, 1) := by decide +kernel
theorem d_Mo_compareRows_47 : decode b_Mo_compareRows 47 = .ok (.invokevirtual 49, 3) := by decide +kernel
theorem d_Mo_compareRows_50 : decode b_Mo_compareRows 50 = .ok (.imul, 1) := by decide +kernel
theorem d_Mo_compareRows_51 : decode b_Mo_compareRows 51 = .ok (.ireturn, 1) := by decide +kernel
theorem d_Mo_sum_0 : decode b_Mo_sum 0 = .ok (.iload 4, 2) := by decide +kernel
theorem d_Mo_sum_2 : decode b_Mo_sum 2 = .ok (.aload_n 0, 1) := by decide +kernel
theorem d_Mo_sum_3 : decode b_Mo_sum 3 = .ok (.getfield 17, 3) := by decide +kernel
theorem d_Mo_sum_6 : decode b_Mo_sum 6 = .ok (.iload_n 3, 1) := by decide +kernel
theorem d_Mo_sum_7 : decode b_Mo_sum 7 = .ok (.iaload, 1) := by decide +kernel
theorem d_Mo_sum_8 : decode b_Mo_sum 8 = .ok (.imul, 1) := by decide +kernel
theorem d_Mo_sum_9 : decode b_Mo_sum 9 = .ok (.istore 5, 2) := by decide +kernel
theorem d_Mo_sum_11 : decode b_Mo_sum 11 = .ok (.aload_n 0, 1) := by decide +kernel
theorem d_Mo_sum_12 : decode b_Mo_sum 12 = .ok (.getfield 14, 3) := by decide +kernel
theorem d_Mo_sum_15 : decode b_Mo_sum 15 = .ok (.iload_n 2, 1) := by decide +kernel
theorem d_Mo_sum_16 : decode b_Mo_sum 16 = .ok (.iaload, 1) := by decide +kernel
theorem d_Mo_sum_17 : decode b_Mo_sum 17 = .ok (.aload_n 0, 1) := by decide +kernel
theorem d_Mo_sum_18 : decode b_Mo_sum 18 = .ok (.getfield 14, 3) := by decide +kernel
theorem d_Mo_sum_21 : decode b_Mo_sum 21 = .ok (.iload_n 3, 1) := by decide +kernel
theorem d_Mo_sum_22 : decode b_Mo_sum 22 = .ok (.iaload, 1) := by decide +kernel
theorem d_Mo_sum_23 : decode b_Mo_sum 23 = .ok (.if_icmp .le 12, 3) := by decide +kernel
theorem d_Mo_sum_26 : decode b_Mo_sum 26 = .ok (.aload_n 0, 1) := by decide +kernel
theorem d_Mo_sum_27 : decode b_Mo_sum 27 = .ok (.getfield 14, 3) := by decide +kernel
theorem d_Mo_sum_30 : decode b_Mo_sum 30 = .ok (.iload_n 2, 1) := by decide +kernel
theorem d_Mo_sum_31 : decode b_Mo_sum 31 = .ok (.iaload, 1) := by decide +kernel
theorem d_Mo_sum_32 : decode b_Mo_sum 32 = .ok (.goto 9, 3) := by decide +kernel
theorem d_Mo_sum_35 : decode b_Mo_sum 35 = .ok (.aload_n 0, 1) := by decide +kernel
theorem d_Mo_sum_36 : decode b_Mo_sum 36 = .ok (.getfield 14, 3) := by decide +kernel
theorem d_Mo_sum_39 : decode b_Mo_sum 39 = .ok (.iload_n 3, 1) := by decide +kernel
theorem d_Mo_sum_40 : decode b_Mo_sum 40 = .ok (.iaload, 1) := by decide +kernel
theorem d_Mo_sum_41 : decode b_Mo_sum 41 = .ok (.istore 6, 2) := by decide +kernel
theorem d_Mo_sum_43 : decode b_Mo_sum 43 = .ok (.aload_n 0, 1) := by decide +kernel
theorem d_Mo_sum_44 : decode b_Mo_sum 44 = .ok (.getfield 17, 3) := by decide +kernel
theorem d_Mo_sum_47 : decode b_Mo_sum 47 = .ok (.iload_n 2, 1) := by decide +kernel
theorem d_Mo_sum_48 : decode b_Mo_sum 48 = .ok (.iaload, 1) := by decide +kernel
theorem d_Mo_sum_49 : decode b_Mo_sum 49 = .ok (.iload 5, 2) := by decide +kernel
theorem d_Mo_sum_51 : decode b_Mo_sum 51 = .ok (.if_icmp .eq 16, 3) := by decide +kernel
theorem d_Mo_sum_54 : decode b_Mo_sum 54 = .ok (.aload_n 0, 1) := by decide +kernel
theorem d_Mo_sum_55 : decode b_Mo_sum 55 = .ok (.iload_n 2, 1) := by decide +kernel
theorem d_Mo_sum_56 : decode b_Mo_sum 56 = .ok (.iload_n 3, 1) := by decide +kernel
theorem d_Mo_sum_57 : decode b_Mo_sum 57 = .ok (.invokevirtual 49, 3) := by decide +kernel
theorem d_Mo_sum_60 : decode b_Mo_sum 60 = .ok (.ifCond .ge 7, 3) := by decide +kernel
theorem d_Mo_sum_63 : decode b_Mo_sum 63 = .ok (.iconst 1, 1) := by decide +kernel
theorem d_Mo_sum_64 : decode b_Mo_sum 64 = .ok (.goto 4, 3) := by decide +kernel
theorem d_Mo_sum_67 : decode b_Mo_sum 67 = .ok (.iconst 0, 1) := by decide +kernel
theorem d_Mo_sum_68 : decode b_Mo_sum 68 = .ok (.istore 7, 2) := by decide +kernel
theorem d_Mo_sum_70 : decode b_Mo_sum 70 = .ok (.iload 7, 2) := by decide +kernel
theorem d_Mo_sum_72 : decode b_Mo_sum 72 = .ok (.ifCond .eq 7, 3) := by decide +kernel
theorem d_Mo_sum_75 : decode b_Mo_sum 75 = .ok (.iload_n 3, 1) := by decide +kernel
theorem d_Mo_sum_76 : decode b_Mo_sum 76 = .ok (.goto 4, 3) := by decide +kernel
theorem d_Mo_sum_79 : decode b_Mo_sum 79 = .ok (.iload_n 2, 1) := by decide +kernel
theorem d_Mo_sum_80 : decode b_Mo_sum 80 = .ok (.istore 8, 2) := by decide +kernel
theorem d_Mo_sum_82 : decode b_Mo_sum 82 = .ok (.iload 7, 2) := by decide +kernel
theorem d_Mo_sum_84 : decode b_Mo_sum 84 = .ok (.ifCond .eq 7, 3) := by decide +kernel
theorem d_Mo_sum_87 : decode b_Mo_sum 87 = .ok (.iload_n 2, 1) := by decide +kernel
theorem d_Mo_sum_88 : decode b_Mo_sum 88 = .ok (.goto 4, 3) := by decide +kernel
theorem d_Mo_sum_91 : decode b_Mo_sum 91 = .ok (.iload_n 3, 1) := by decide +kernel
theorem d_Mo_sum_92 : decode b_Mo_sum 92 = .ok (.istore 9, 2) := by decide +kernel
theorem d_Mo_sum_94 : decode b_Mo_sum 94 = .ok (.iload 7, 2) := by decide +kernel
theorem d_Mo_sum_96 : decode b_Mo_sum 96 = .ok (.ifCond .ne 12, 3) := by decide +kernel
theorem d_Mo_sum_99 : decode b_Mo_sum 99 = .ok (.aload_n 0, 1) := by decide +kernel
theorem d_Mo_sum_100 : decode b_Mo_sum 100 = .ok (.getfield 17, 3) := by decide +kernel
theorem d_Mo_sum_103 : decode b_Mo_sum 103 = .ok (.iload_n 2, 1) := by decide +kernel
theorem d_Mo_sum_104 : decode b_Mo_sum 104 = .ok (.iaload, 1) := by decide +kernel
theorem d_Mo_sum_105 : decode b_Mo_sum 105 = .ok (.ifCond .ne 8, 3) := by decide +kernel
theorem d_Mo_sum_108 : decode b_Mo_sum 108 = .ok (.iload 5, 2) := by decide +kernel
theorem d_Mo_sum_110 : decode b_Mo_sum 110 = .ok (.goto 9, 3) := by decide +kernel
theorem d_Mo_sum_113 : decode b_Mo_sum 113 = .ok (.aload_n 0, 1) := by decide +kernel
theorem d_Mo_sum_114 : decode b_Mo_sum 114 = .ok (.getfield 17, 3) := by decide +kernel
theorem d_Mo_sum_117 : decode b_Mo_sum 117 = .ok (.iload_n 2, 1) := by decide +kernel
theorem d_Mo_sum_118 : decode b_Mo_sum 118 = .ok (.iaload, 1) := by decide +kernel
theorem d_Mo_sum_119 : decode b_Mo_sum 119 = .ok (.istore 10, 2) := by decide +kernel
theorem d_Mo_sum_121 : decode b_Mo_sum 121 = .ok (.aload_n 0, 1) := by decide +kernel
theorem d_Mo_sum_122 : decode b_Mo_sum 122 = .ok (.getfield 17, 3) := by decide +kernel
theorem d_Mo_sum_125 : decode b_Mo_sum 125 = .ok (.iload_n 2, 1) := by decide +kernel
theorem d_Mo_sum_126 : decode b_Mo_sum 126 = .ok (.iaload, 1) := by decide +kernel
theorem d_Mo_sum_127 : decode b_Mo_sum 127 = .ok (.iload 5, 2) := by decide +kernel
theorem d_Mo_sum_129 : decode b_Mo_sum 129 = .ok (.if_icmp .eq 17, 3) := by decide +kernel
theorem d_Mo_sum_132 : decode b_Mo_sum 132 = .ok (.aload_n 0, 1) := by decide +kernel
theorem d_Mo_sum_133 : decode b_Mo_sum 133 = .ok (.getfield 17, 3) := by decide +kernel
theorem d_Mo_sum_136 : decode b_Mo_sum 136 = .ok (.iload_n 2, 1) := by decide +kernel
theorem d_Mo_sum_137 : decode b_Mo_sum 137 = .ok (.iaload, 1) := by decide +kernel
theorem d_Mo_sum_138 : decode b_Mo_sum 138 = .ok (.ifCond .eq 8, 3) := by decide +kernel
theorem d_Mo_sum_141 : decode b_Mo_sum 141 = .ok (.iload 5, 2) := by decide +kernel
theorem d_Mo_sum_143 : decode b_Mo_sum 143 = .ok (.ifCond .ne 7, 3) := by decide +kernel
theorem d_Mo_sum_146 : decode b_Mo_sum 146 = .ok (.iconst 1, 1) := by decide +kernel
theorem d_Mo_sum_147 : decode b_Mo_sum 147 = .ok (.goto 4, 3) := by decide +kernel
theorem d_Mo_sum_150 : decode b_Mo_sum 150 = .ok (.iconst (-1), 1) := by decide +kernel
theorem d_Mo_sum_151 : decode b_Mo_sum 151 = .ok (.istore 11, 2) := by decide +kernel
theorem d_Mo_sum_153 : decode b_Mo_sum 153 = .ok (.iconst 0, 1) := by decide +kernel
theorem d_Mo_sum_154 : decode b_Mo_sum 154 = .ok (.istore 12, 2) := by decide +kernel
theorem d_Mo_sum_156 : decode b_Mo_sum 156 = .ok (.iconst 0, 1) := by decide +kernel
theorem d_Mo_sum_157 : decode b_Mo_sum 157 = .ok (.istore 13, 2) := by decide +kernel
theorem d_Mo_sum_159 : decode b_Mo_sum 159 = .ok (.iload 13, 2) := by decide +kernel
theorem d_Mo_sum_161 : decode b_Mo_sum 161 = .ok (.iload 6, 2) := by decide +kernel
theorem d_Mo_sum_163 : decode b_Mo_sum 163 = .ok (.if_icmp .ge 72, 3) := by decide +kernel
theorem d_Mo_sum_166 : decode b_Mo_sum 166 = .ok (.aload_n 0, 1) := by decide +kernel
theorem d_Mo_sum_167 : decode b_Mo_sum 167 = .ok (.iload 8, 2) := by decide +kernel
theorem d_Mo_sum_169 : decode b_Mo_sum 169 = .ok (.iload 13, 2) := by decide +kernel
theorem d_Mo_sum_171 : decode b_Mo_sum 171 = .ok (.invokevirtual 45, 3) := by decide +kernel
theorem d_Mo_sum_174 : decode b_Mo_sum 174 = .ok (.iload 11, 2) := by decide +kernel
theorem d_Mo_sum_176 : decode b_Mo_sum 176 = .ok (.aload_n 0, 1) := by decide +kernel
theorem d_Mo_sum_177 : decode b_Mo_sum 177 = .ok (.iload 9, 2) := by decide +kernel
theorem d_Mo_sum_179 : decode b_Mo_sum 179 = .ok (.iload 13, 2) := by decide +kernel
theorem d_Mo_sum_181 : decode b_Mo_sum 181 = .ok (.invokevirtual 45, 3) := by decide +kernel
theorem d_Mo_sum_184 : decode b_Mo_sum 184 = .ok (.imul, 1) := by decide +kernel
theorem d_Mo_sum_185 : decode b_Mo_sum 185 = .ok (.iadd, 1) := by decide +kernel
theorem d_Mo_sum_186 : decode b_Mo_sum 186 = .ok (.iload 12, 2) := by decide +kernel
theorem d_Mo_sum_188 : decode b_Mo_sum 188 = .ok (.iadd, 1) := by decide +kernel
theorem d_Mo_sum_189 : decode b_Mo_sum 189 = .ok (.istore 14, 2) := by decide +kernel
theorem d_Mo_sum_191 : decode b_Mo_sum 191 = .ok (.iload 14, 2) := by decide +kernel
theorem d_Mo_sum_193 : decode b_Mo_sum 193 = .ok (.ifCond .ge 7, 3) := by decide +kernel
theorem d_Mo_sum_196 : decode b_Mo_sum 196 = .ok (.iconst (-1), 1) := by decide +kernel
theorem d_Mo_sum_197 : decode b_Mo_sum 197 = .ok (.goto 15, 3) := by decide +kernel
theorem d_Mo_sum_200 : decode b_Mo_sum 200 = .ok (.iload 14, 2) := by decide +kernel
theorem d_Mo_sum_202 : decode b_Mo_sum 202 = .ok (.ldc 52, 2) := by decide +kernel
theorem d_Mo_sum_204 : decode b_Mo_sum 204 = .ok (.if_icmp .lt 7, 3) := by decide +kernel
theorem d_Mo_sum_207 : decode b_Mo_sum 207 = .ok (.iconst 1, 1) := by decide +kernel
theorem d_Mo_sum_208 : decode b_Mo_sum 208 = .ok (.goto 4, 3) := by decide +kernel
theorem d_Mo_sum_211 : decode b_Mo_sum 211 = .ok (.iconst 0, 1) := by decide +kernel
theorem d_Mo_sum_212 : decode b_Mo_sum 212 = .ok (.istore 12, 2) := by decide +kernel
theorem d_Mo_sum_214 : decode b_Mo_sum 214 = .ok (.aload_n 0, 1) := by decide +kernel
theorem d_Mo_sum_215 : decode b_Mo_sum 215 = .ok (.getfield 36, 3) := by decide +kernel
theorem d_Mo_sum_218 : decode b_Mo_sum 218 = .ok (.iload 13, 2) := by decide +kernel
theorem d_Mo_sum_220 : decode b_Mo_sum 220 = .ok (.iload 14, 2) := by decide +kernel
theorem d_Mo_sum_222 : decode b_Mo_sum 222 = .ok (.iload 12, 2) := by decide +kernel
theorem d_Mo_sum_224 : decode b_Mo_sum 224 = .ok (.ldc 52, 2) := by decide +kernel
theorem d_Mo_sum_226 : decode b_Mo_sum 226 = .ok (.imul, 1) := by decide +kernel
theorem d_Mo_sum_227 : decode b_Mo_sum 227 = .ok (.isub, 1) := by decide +kernel
theorem d_Mo_sum_228 : decode b_Mo_sum 228 = .ok (.iastore, 1) := by decide +kernel
theorem d_Mo_sum_229 : decode b_Mo_sum 229 = .ok (.iinc 13 1, 3) := by decide +kernel
theorem d_Mo_sum_232 : decode b_Mo_sum 232 = .ok (.goto (-73), 3) := by decide +kernel
theorem d_Mo_sum_235 : decode b_Mo_sum 235 = .ok (.aload_n 0, 1) := by decide +kernel
theorem d_Mo_sum_236 : decode b_Mo_sum 236 = .ok (.getfield 36, 3) := by decide +kernel
theorem d_Mo_sum_239 : decode b_Mo_sum 239 = .ok (.iload 6, 2) := by decide +kernel
theorem d_Mo_sum_241 : decode b_Mo_sum 241 = .ok (.iload 12, 2) := by decide +kernel
theorem d_Mo_sum_243 : decode b_Mo_sum 243 = .ok (.iastore, 1) := by decide +kernel
theorem d_Mo_sum_244 : decode b_Mo_sum 244 = .ok (.aload_n 0, 1) := by decide +kernel
theorem d_Mo_sum_245 : decode b_Mo_sum 245 = .ok (.iload_n 1, 1) := by decide +kernel
theorem d_Mo_sum_246 : decode b_Mo_sum 246 = .ok (.iload 6, 2) := by decide +kernel
theorem d_Mo_sum_248 : decode b_Mo_sum 248 = .ok (.iconst 1, 1) := by decide +kernel
theorem d_Mo_sum_249 : decode b_Mo_sum 249 = .ok (.iadd, 1) := by decide +kernel
theorem d_Mo_sum_250 : decode b_Mo_sum 250 = .ok (.iload 10, 2) := by decide +kernel
theorem d_Mo_sum_252 : decode b_Mo_sum 252 = .ok (.invokevirtual 53, 3) := by decide +kernel
theorem d_Mo_sum_255 : decode b_Mo_sum 255 = .ok (.return_, 1) := by decide +kernel
theorem d_Mo_takes_0 : decode b_Mo_takes 0 = .ok (.iconst 0, 1) := by decide +kernel
theorem d_Mo_takes_1 : decode b_Mo_takes 1 = .ok (.istore 4, 2) := by decide +kernel
theorem d_Mo_takes_3 : decode b_Mo_takes 3 = .ok (.iload 4, 2) := by decide +kernel
theorem d_Mo_takes_5 : decode b_Mo_takes 5 = .ok (.iload_n 2, 1) := by decide +kernel
theorem d_Mo_takes_6 : decode b_Mo_takes 6 = .ok (.if_icmp .ge 29, 3) := by decide +kernel
theorem d_Mo_takes_9 : decode b_Mo_takes 9 = .ok (.aload_n 0, 1) := by decide +kernel
theorem d_Mo_takes_10 : decode b_Mo_takes 10 = .ok (.getfield 8, 3) := by decide +kernel
theorem d_Mo_takes_13 : decode b_Mo_takes 13 = .ok (.sipush 1024, 3) := by decide +kernel
theorem d_Mo_takes_16 : decode b_Mo_takes 16 = .ok (.iload_n 1, 1) := by decide +kernel
theorem d_Mo_takes_17 : decode b_Mo_takes 17 = .ok (.imul, 1) := by decide +kernel
theorem d_Mo_takes_18 : decode b_Mo_takes 18 = .ok (.iload 4, 2) := by decide +kernel
theorem d_Mo_takes_20 : decode b_Mo_takes 20 = .ok (.iadd, 1) := by decide +kernel
theorem d_Mo_takes_21 : decode b_Mo_takes 21 = .ok (.aload_n 0, 1) := by decide +kernel
theorem d_Mo_takes_22 : decode b_Mo_takes 22 = .ok (.getfield 36, 3) := by decide +kernel
theorem d_Mo_takes_25 : decode b_Mo_takes 25 = .ok (.iload 4, 2) := by decide +kernel
theorem d_Mo_takes_27 : decode b_Mo_takes 27 = .ok (.iaload, 1) := by decide +kernel
theorem d_Mo_takes_28 : decode b_Mo_takes 28 = .ok (.iastore, 1) := by decide +kernel
theorem d_Mo_takes_29 : decode b_Mo_takes 29 = .ok (.iinc 4 1, 3) := by decide +kernel
theorem d_Mo_takes_32 : decode b_Mo_takes 32 = .ok (.goto (-29), 3) := by decide +kernel
theorem d_Mo_takes_35 : decode b_Mo_takes 35 = .ok (.aload_n 0, 1) := by decide +kernel
theorem d_Mo_takes_36 : decode b_Mo_takes 36 = .ok (.getfield 17, 3) := by decide +kernel
theorem d_Mo_takes_39 : decode b_Mo_takes 39 = .ok (.iload_n 1, 1) := by decide +kernel
theorem d_Mo_takes_40 : decode b_Mo_takes 40 = .ok (.iload_n 3, 1) := by decide +kernel
theorem d_Mo_takes_41 : decode b_Mo_takes 41 = .ok (.iastore, 1) := by decide +kernel
theorem d_Mo_takes_42 : decode b_Mo_takes 42 = .ok (.aload_n 0, 1) := by decide +kernel
theorem d_Mo_takes_43 : decode b_Mo_takes 43 = .ok (.iload_n 1, 1) := by decide +kernel
theorem d_Mo_takes_44 : decode b_Mo_takes 44 = .ok (.iload_n 2, 1) := by decide +kernel
theorem d_Mo_takes_45 : decode b_Mo_takes 45 = .ok (.invokevirtual 57, 3) := by decide +kernel
theorem d_Mo_takes_48 : decode b_Mo_takes 48 = .ok (.return_, 1) := by decide +kernel
theorem d_Mo_product_0 : decode b_Mo_product 0 = .ok (.aload_n 0, 1) := by decide +kernel
theorem d_Mo_product_1 : decode b_Mo_product 1 = .ok (.getfield 14, 3) := by decide +kernel
theorem d_Mo_product_4 : decode b_Mo_product 4 = .ok (.iload_n 2, 1) := by decide +kernel
theorem d_Mo_product_5 : decode b_Mo_product 5 = .ok (.iaload, 1) := by decide +kernel
theorem d_Mo_product_6 : decode b_Mo_product 6 = .ok (.aload_n 0, 1) := by decide +kernel
theorem d_Mo_product_7 : decode b_Mo_product 7 = .ok (.getfield 14, 3) := by decide +kernel
theorem d_Mo_product_10 : decode b_Mo_product 10 = .ok (.iload_n 3, 1) := by decide +kernel
theorem d_Mo_product_11 : decode b_Mo_product 11 = .ok (.iaload, 1) := by decide +kernel
theorem d_Mo_product_12 : decode b_Mo_product 12 = .ok (.iadd, 1) := by decide +kernel
theorem d_Mo_product_13 : decode b_Mo_product 13 = .ok (.istore 4, 2) := by decide +kernel
theorem d_Mo_product_15 : decode b_Mo_product 15 = .ok (.iconst 0, 1) := by decide +kernel
theorem d_Mo_product_16 : decode b_Mo_product 16 = .ok (.istore 5, 2) := by decide +kernel
theorem d_Mo_product_18 : decode b_Mo_product 18 = .ok (.iload 5, 2) := by decide +kernel
theorem d_Mo_product_20 : decode b_Mo_product 20 = .ok (.iload 4, 2) := by decide +kernel
theorem d_Mo_product_22 : decode b_Mo_product 22 = .ok (.if_icmp .ge 17, 3) := by decide +kernel
theorem d_Mo_product_25 : decode b_Mo_product 25 = .ok (.aload_n 0, 1) := by decide +kernel
theorem d_Mo_product_26 : decode b_Mo_product 26 = .ok (.getfield 36, 3) := by decide +kernel
theorem d_Mo_product_29 : decode b_Mo_product 29 = .ok (.iload 5, 2) := by decide +kernel
theorem d_Mo_product_31 : decode b_Mo_product 31 = .ok (.iconst 0, 1) := by decide +kernel
theorem d_Mo_product_32 : decode b_Mo_product 32 = .ok (.iastore, 1) := by decide +kernel
theorem d_Mo_product_33 : decode b_Mo_product 33 = .ok (.iinc 5 1, 3) := by decide +kernel
theorem d_Mo_product_36 : decode b_Mo_product 36 = .ok (.goto (-18), 3) := by decide +kernel
theorem d_Mo_product_39 : decode b_Mo_product 39 = .ok (.iconst 0, 1) := by decide +kernel
theorem d_Mo_product_40 : decode b_Mo_product 40 = .ok (.istore 5, 2) := by decide +kernel
theorem d_Mo_product_42 : decode b_Mo_product 42 = .ok (.iload 5, 2) := by decide +kernel
theorem d_Mo_product_44 : decode b_Mo_product 44 = .ok (.aload_n 0, 1) := by decide +kernel
theorem d_Mo_product_45 : decode b_Mo_product 45 = .ok (.getfield 14, 3) := by decide +kernel
theorem d_Mo_product_48 : decode b_Mo_product 48 = .ok (.iload_n 2, 1) := by decide +kernel
theorem d_Mo_product_49 : decode b_Mo_product 49 = .ok (.iaload, 1) := by decide +kernel
theorem d_Mo_product_50 : decode b_Mo_product 50 = .ok (.if_icmp .ge 108, 3) := by decide +kernel
theorem d_Mo_product_53 : decode b_Mo_product 53 = .ok (.lconst 0, 1) := by decide +kernel
theorem d_Mo_product_54 : decode b_Mo_product 54 = .ok (.lstore 6, 2) := by decide +kernel
theorem d_Mo_product_56 : decode b_Mo_product 56 = .ok (.iconst 0, 1) := by decide +kernel
theorem d_Mo_product_57 : decode b_Mo_product 57 = .ok (.istore 8, 2) := by decide +kernel
theorem d_Mo_product_59 : decode b_Mo_product 59 = .ok (.iload 8, 2) := by decide +kernel
theorem d_Mo_product_61 : decode b_Mo_product 61 = .ok (.aload_n 0, 1) := by decide +kernel
theorem d_Mo_product_62 : decode b_Mo_product 62 = .ok (.getfield 14, 3) := by decide +kernel
theorem d_Mo_product_65 : decode b_Mo_product 65 = .ok (.iload_n 3, 1) := by decide +kernel
theorem d_Mo_product_66 : decode b_Mo_product 66 = .ok (.iaload, 1) := by decide +kernel
theorem d_Mo_product_67 : decode b_Mo_product 67 = .ok (.if_icmp .ge 68, 3) := by decide +kernel
theorem d_Mo_product_70 : decode b_Mo_product 70 = .ok (.aload_n 0, 1) := by decide +kernel
theorem d_Mo_product_71 : decode b_Mo_product 71 = .ok (.getfield 36, 3) := by decide +kernel
theorem d_Mo_product_74 : decode b_Mo_product 74 = .ok (.iload 5, 2) := by decide +kernel
theorem d_Mo_product_76 : decode b_Mo_product 76 = .ok (.iload 8, 2) := by decide +kernel
theorem d_Mo_product_78 : decode b_Mo_product 78 = .ok (.iadd, 1) := by decide +kernel
theorem d_Mo_product_79 : decode b_Mo_product 79 = .ok (.iaload, 1) := by decide +kernel
theorem d_Mo_product_80 : decode b_Mo_product 80 = .ok (.i2l, 1) := by decide +kernel
theorem d_Mo_product_81 : decode b_Mo_product 81 = .ok (.aload_n 0, 1) := by decide +kernel
theorem d_Mo_product_82 : decode b_Mo_product 82 = .ok (.iload_n 2, 1) := by decide +kernel
theorem d_Mo_product_83 : decode b_Mo_product 83 = .ok (.iload 5, 2) := by decide +kernel
theorem d_Mo_product_85 : decode b_Mo_product 85 = .ok (.invokevirtual 45, 3) := by decide +kernel
theorem d_Mo_product_88 : decode b_Mo_product 88 = .ok (.i2l, 1) := by decide +kernel
theorem d_Mo_product_89 : decode b_Mo_product 89 = .ok (.aload_n 0, 1) := by decide +kernel
theorem d_Mo_product_90 : decode b_Mo_product 90 = .ok (.iload_n 3, 1) := by decide +kernel
theorem d_Mo_product_91 : decode b_Mo_product 91 = .ok (.iload 8, 2) := by decide +kernel
theorem d_Mo_product_93 : decode b_Mo_product 93 = .ok (.invokevirtual 45, 3) := by decide +kernel
theorem d_Mo_product_96 : decode b_Mo_product 96 = .ok (.i2l, 1) := by decide +kernel
theorem d_Mo_product_97 : decode b_Mo_product 97 = .ok (.lmul, 1) := by decide +kernel
theorem d_Mo_product_98 : decode b_Mo_product 98 = .ok (.ladd, 1) := by decide +kernel
theorem d_Mo_product_99 : decode b_Mo_product 99 = .ok (.lload 6, 2) := by decide +kernel
theorem d_Mo_product_101 : decode b_Mo_product 101 = .ok (.ladd, 1) := by decide +kernel
theorem d_Mo_product_102 : decode b_Mo_product 102 = .ok (.lstore 9, 2) := by decide +kernel
theorem d_Mo_product_104 : decode b_Mo_product 104 = .ok (.aload_n 0, 1) := by decide +kernel
theorem d_Mo_product_105 : decode b_Mo_product 105 = .ok (.getfield 36, 3) := by decide +kernel
theorem d_Mo_product_108 : decode b_Mo_product 108 = .ok (.iload 5, 2) := by decide +kernel
theorem d_Mo_product_110 : decode b_Mo_product 110 = .ok (.iload 8, 2) := by decide +kernel
theorem d_Mo_product_112 : decode b_Mo_product 112 = .ok (.iadd, 1) := by decide +kernel
theorem d_Mo_product_113 : decode b_Mo_product 113 = .ok (.lload 9, 2) := by decide +kernel
theorem d_Mo_product_115 : decode b_Mo_product 115 = .ok (.ldc2_w 43, 3) := by decide +kernel
theorem d_Mo_product_118 : decode b_Mo_product 118 = .ok (.lrem, 1) := by decide +kernel
theorem d_Mo_product_119 : decode b_Mo_product 119 = .ok (.l2i, 1) := by decide +kernel
theorem d_Mo_product_120 : decode b_Mo_product 120 = .ok (.iastore, 1) := by decide +kernel
theorem d_Mo_product_121 : decode b_Mo_product 121 = .ok (.lload 9, 2) := by decide +kernel
theorem d_Mo_product_123 : decode b_Mo_product 123 = .ok (.ldc2_w 43, 3) := by decide +kernel
theorem d_Mo_product_126 : decode b_Mo_product 126 = .ok (.ldiv, 1) := by decide +kernel
theorem d_Mo_product_127 : decode b_Mo_product 127 = .ok (.lstore 6, 2) := by decide +kernel
theorem d_Mo_product_129 : decode b_Mo_product 129 = .ok (.iinc 8 1, 3) := by decide +kernel
theorem d_Mo_product_132 : decode b_Mo_product 132 = .ok (.goto (-73), 3) := by decide +kernel
theorem d_Mo_product_135 : decode b_Mo_product 135 = .ok (.aload_n 0, 1) := by decide +kernel
theorem d_Mo_product_136 : decode b_Mo_product 136 = .ok (.getfield 36, 3) := by decide +kernel
theorem d_Mo_product_139 : decode b_Mo_product 139 = .ok (.iload 5, 2) := by decide +kernel
theorem d_Mo_product_141 : decode b_Mo_product 141 = .ok (.aload_n 0, 1) := by decide +kernel
theorem d_Mo_product_142 : decode b_Mo_product 142 = .ok (.getfield 14, 3) := by decide +kernel
theorem d_Mo_product_145 : decode b_Mo_product 145 = .ok (.iload_n 3, 1) := by decide +kernel
theorem d_Mo_product_146 : decode b_Mo_product 146 = .ok (.iaload, 1) := by decide +kernel
theorem d_Mo_product_147 : decode b_Mo_product 147 = .ok (.iadd, 1) := by decide +kernel
theorem d_Mo_product_148 : decode b_Mo_product 148 = .ok (.lload 6, 2) := by decide +kernel
theorem d_Mo_product_150 : decode b_Mo_product 150 = .ok (.l2i, 1) := by decide +kernel
theorem d_Mo_product_151 : decode b_Mo_product 151 = .ok (.iastore, 1) := by decide +kernel
theorem d_Mo_product_152 : decode b_Mo_product 152 = .ok (.iinc 5 1, 3) := by decide +kernel
theorem d_Mo_product_155 : decode b_Mo_product 155 = .ok (.goto (-113), 3) := by decide +kernel
theorem d_Mo_product_158 : decode b_Mo_product 158 = .ok (.aload_n 0, 1) := by decide +kernel
theorem d_Mo_product_159 : decode b_Mo_product 159 = .ok (.iload_n 1, 1) := by decide +kernel
theorem d_Mo_product_160 : decode b_Mo_product 160 = .ok (.iload 4, 2) := by decide +kernel
theorem d_Mo_product_162 : decode b_Mo_product 162 = .ok (.aload_n 0, 1) := by decide +kernel
theorem d_Mo_product_163 : decode b_Mo_product 163 = .ok (.getfield 17, 3) := by decide +kernel
theorem d_Mo_product_166 : decode b_Mo_product 166 = .ok (.iload_n 2, 1) := by decide +kernel
theorem d_Mo_product_167 : decode b_Mo_product 167 = .ok (.iaload, 1) := by decide +kernel
theorem d_Mo_product_168 : decode b_Mo_product 168 = .ok (.aload_n 0, 1) := by decide +kernel
theorem d_Mo_product_169 : decode b_Mo_product 169 = .ok (.getfield 17, 3) := by decide +kernel
theorem d_Mo_product_172 : decode b_Mo_product 172 = .ok (.iload_n 3, 1) := by decide +kernel
theorem d_Mo_product_173 : decode b_Mo_product 173 = .ok (.iaload, 1) := by decide +kernel
theorem d_Mo_product_174 : decode b_Mo_product 174 = .ok (.imul, 1) := by decide +kernel
theorem d_Mo_product_175 : decode b_Mo_product 175 = .ok (.invokevirtual 53, 3) := by decide +kernel
theorem d_Mo_product_178 : decode b_Mo_product 178 = .ok (.return_, 1) := by decide +kernel
theorem d_Mo_lift_0 : decode b_Mo_lift 0 = .ok (.iload_n 3, 1) := by decide +kernel
theorem d_Mo_lift_1 : decode b_Mo_lift 1 = .ok (.bipush 16, 2) := by decide +kernel
theorem d_Mo_lift_3 : decode b_Mo_lift 3 = .ok (.idiv, 1) := by decide +kernel
theorem d_Mo_lift_4 : decode b_Mo_lift 4 = .ok (.istore 4, 2) := by decide +kernel
theorem d_Mo_lift_6 : decode b_Mo_lift 6 = .ok (.iconst 1, 1) := by decide +kernel
theorem d_Mo_lift_7 : decode b_Mo_lift 7 = .ok (.iload_n 3, 1) := by decide +kernel
theorem d_Mo_lift_8 : decode b_Mo_lift 8 = .ok (.bipush 16, 2) := by decide +kernel
theorem d_Mo_lift_10 : decode b_Mo_lift 10 = .ok (.irem, 1) := by decide +kernel
theorem d_Mo_lift_11 : decode b_Mo_lift 11 = .ok (.ishl, 1) := by decide +kernel
theorem d_Mo_lift_12 : decode b_Mo_lift 12 = .ok (.istore 5, 2) := by decide +kernel
theorem d_Mo_lift_14 : decode b_Mo_lift 14 = .ok (.aload_n 0, 1) := by decide +kernel
theorem d_Mo_lift_15 : decode b_Mo_lift 15 = .ok (.getfield 14, 3) := by decide +kernel
theorem d_Mo_lift_18 : decode b_Mo_lift 18 = .ok (.iload_n 2, 1) := by decide +kernel
theorem d_Mo_lift_19 : decode b_Mo_lift 19 = .ok (.iaload, 1) := by decide +kernel
theorem d_Mo_lift_20 : decode b_Mo_lift 20 = .ok (.istore 6, 2) := by decide +kernel
theorem d_Mo_lift_22 : decode b_Mo_lift 22 = .ok (.iconst 0, 1) := by decide +kernel
theorem d_Mo_lift_23 : decode b_Mo_lift 23 = .ok (.istore 7, 2) := by decide +kernel
theorem d_Mo_lift_25 : decode b_Mo_lift 25 = .ok (.iload 7, 2) := by decide +kernel
theorem d_Mo_lift_27 : decode b_Mo_lift 27 = .ok (.iload 4, 2) := by decide +kernel
theorem d_Mo_lift_29 : decode b_Mo_lift 29 = .ok (.if_icmp .ge 17, 3) := by decide +kernel
theorem d_Mo_lift_32 : decode b_Mo_lift 32 = .ok (.aload_n 0, 1) := by decide +kernel
theorem d_Mo_lift_33 : decode b_Mo_lift 33 = .ok (.getfield 36, 3) := by decide +kernel
theorem d_Mo_lift_36 : decode b_Mo_lift 36 = .ok (.iload 7, 2) := by decide +kernel
theorem d_Mo_lift_38 : decode b_Mo_lift 38 = .ok (.iconst 0, 1) := by decide +kernel
theorem d_Mo_lift_39 : decode b_Mo_lift 39 = .ok (.iastore, 1) := by decide +kernel
theorem d_Mo_lift_40 : decode b_Mo_lift 40 = .ok (.iinc 7 1, 3) := by decide +kernel
theorem d_Mo_lift_43 : decode b_Mo_lift 43 = .ok (.goto (-18), 3) := by decide +kernel
theorem d_Mo_lift_46 : decode b_Mo_lift 46 = .ok (.iconst 0, 1) := by decide +kernel
theorem d_Mo_lift_47 : decode b_Mo_lift 47 = .ok (.istore 7, 2) := by decide +kernel
theorem d_Mo_lift_49 : decode b_Mo_lift 49 = .ok (.iconst 0, 1) := by decide +kernel
theorem d_Mo_lift_50 : decode b_Mo_lift 50 = .ok (.istore 8, 2) := by decide +kernel
theorem d_Mo_lift_52 : decode b_Mo_lift 52 = .ok (.iload 8, 2) := by decide +kernel
theorem d_Mo_lift_54 : decode b_Mo_lift 54 = .ok (.iload 6, 2) := by decide +kernel
theorem d_Mo_lift_56 : decode b_Mo_lift 56 = .ok (.if_icmp .ge 46, 3) := by decide +kernel
theorem d_Mo_lift_59 : decode b_Mo_lift 59 = .ok (.aload_n 0, 1) := by decide +kernel
theorem d_Mo_lift_60 : decode b_Mo_lift 60 = .ok (.iload_n 2, 1) := by decide +kernel
theorem d_Mo_lift_61 : decode b_Mo_lift 61 = .ok (.iload 8, 2) := by decide +kernel
theorem d_Mo_lift_63 : decode b_Mo_lift 63 = .ok (.invokevirtual 45, 3) := by decide +kernel
theorem d_Mo_lift_66 : decode b_Mo_lift 66 = .ok (.iload 5, 2) := by decide +kernel
theorem d_Mo_lift_68 : decode b_Mo_lift 68 = .ok (.imul, 1) := by decide +kernel
theorem d_Mo_lift_69 : decode b_Mo_lift 69 = .ok (.iload 7, 2) := by decide +kernel
theorem d_Mo_lift_71 : decode b_Mo_lift 71 = .ok (.iadd, 1) := by decide +kernel
theorem d_Mo_lift_72 : decode b_Mo_lift 72 = .ok (.istore 9, 2) := by decide +kernel
theorem d_Mo_lift_74 : decode b_Mo_lift 74 = .ok (.aload_n 0, 1) := by decide +kernel
theorem d_Mo_lift_75 : decode b_Mo_lift 75 = .ok (.getfield 36, 3) := by decide +kernel
theorem d_Mo_lift_78 : decode b_Mo_lift 78 = .ok (.iload 8, 2) := by decide +kernel
theorem d_Mo_lift_80 : decode b_Mo_lift 80 = .ok (.iload 4, 2) := by decide +kernel
theorem d_Mo_lift_82 : decode b_Mo_lift 82 = .ok (.iadd, 1) := by decide +kernel
theorem d_Mo_lift_83 : decode b_Mo_lift 83 = .ok (.iload 9, 2) := by decide +kernel
theorem d_Mo_lift_85 : decode b_Mo_lift 85 = .ok (.ldc 52, 2) := by decide +kernel
theorem d_Mo_lift_87 : decode b_Mo_lift 87 = .ok (.irem, 1) := by decide +kernel
theorem d_Mo_lift_88 : decode b_Mo_lift 88 = .ok (.iastore, 1) := by decide +kernel
theorem d_Mo_lift_89 : decode b_Mo_lift 89 = .ok (.iload 9, 2) := by decide +kernel
theorem d_Mo_lift_91 : decode b_Mo_lift 91 = .ok (.ldc 52, 2) := by decide +kernel
theorem d_Mo_lift_93 : decode b_Mo_lift 93 = .ok (.idiv, 1) := by decide +kernel
theorem d_Mo_lift_94 : decode b_Mo_lift 94 = .ok (.istore 7, 2) := by decide +kernel
theorem d_Mo_lift_96 : decode b_Mo_lift 96 = .ok (.iinc 8 1, 3) := by decide +kernel
theorem d_Mo_lift_99 : decode b_Mo_lift 99 = .ok (.goto (-47), 3) := by decide +kernel
theorem d_Mo_lift_102 : decode b_Mo_lift 102 = .ok (.aload_n 0, 1) := by decide +kernel
theorem d_Mo_lift_103 : decode b_Mo_lift 103 = .ok (.getfield 36, 3) := by decide +kernel
theorem d_Mo_lift_106 : decode b_Mo_lift 106 = .ok (.iload 6, 2) := by decide +kernel
theorem d_Mo_lift_108 : decode b_Mo_lift 108 = .ok (.iload 4, 2) := by decide +kernel
theorem d_Mo_lift_110 : decode b_Mo_lift 110 = .ok (.iadd, 1) := by decide +kernel
theorem d_Mo_lift_111 : decode b_Mo_lift 111 = .ok (.iload 7, 2) := by decide +kernel
theorem d_Mo_lift_113 : decode b_Mo_lift 113 = .ok (.iastore, 1) := by decide +kernel
theorem d_Mo_lift_114 : decode b_Mo_lift 114 = .ok (.aload_n 0, 1) := by decide +kernel
theorem d_Mo_lift_115 : decode b_Mo_lift 115 = .ok (.iload_n 1, 1) := by decide +kernel
theorem d_Mo_lift_116 : decode b_Mo_lift 116 = .ok (.iload 6, 2) := by decide +kernel
theorem d_Mo_lift_118 : decode b_Mo_lift 118 = .ok (.iload 4, 2) := by decide +kernel
theorem d_Mo_lift_120 : decode b_Mo_lift 120 = .ok (.iadd, 1) := by decide +kernel
theorem d_Mo_lift_121 : decode b_Mo_lift 121 = .ok (.iconst 1, 1) := by decide +kernel
theorem d_Mo_lift_122 : decode b_Mo_lift 122 = .ok (.iadd, 1) := by decide +kernel
theorem d_Mo_lift_123 : decode b_Mo_lift 123 = .ok (.aload_n 0, 1) := by decide +kernel
theorem d_Mo_lift_124 : decode b_Mo_lift 124 = .ok (.getfield 17, 3) := by decide +kernel
theorem d_Mo_lift_127 : decode b_Mo_lift 127 = .ok (.iload_n 2, 1) := by decide +kernel
theorem d_Mo_lift_128 : decode b_Mo_lift 128 = .ok (.iaload, 1) := by decide +kernel
theorem d_Mo_lift_129 : decode b_Mo_lift 129 = .ok (.invokevirtual 53, 3) := by decide +kernel
theorem d_Mo_lift_132 : decode b_Mo_lift 132 = .ok (.return_, 1) := by decide +kernel
theorem d_Mo_parts_0 : decode b_Mo_parts 0 = .ok (.lconst 0, 1) := by decide +kernel
theorem d_Mo_parts_1 : decode b_Mo_parts 1 = .ok (.lstore_n 3, 1) := by decide +kernel
theorem d_Mo_parts_2 : decode b_Mo_parts 2 = .ok (.aload_n 0, 1) := by decide +kernel
theorem d_Mo_parts_3 : decode b_Mo_parts 3 = .ok (.getfield 14, 3) := by decide +kernel
theorem d_Mo_parts_6 : decode b_Mo_parts 6 = .ok (.iload_n 1, 1) := by decide +kernel
theorem d_Mo_parts_7 : decode b_Mo_parts 7 = .ok (.iaload, 1) := by decide +kernel
theorem d_Mo_parts_8 : decode b_Mo_parts 8 = .ok (.iconst 1, 1) := by decide +kernel
theorem d_Mo_parts_9 : decode b_Mo_parts 9 = .ok (.isub, 1) := by decide +kernel
theorem d_Mo_parts_10 : decode b_Mo_parts 10 = .ok (.istore 5, 2) := by decide +kernel
theorem d_Mo_parts_12 : decode b_Mo_parts 12 = .ok (.iload 5, 2) := by decide +kernel
theorem d_Mo_parts_14 : decode b_Mo_parts 14 = .ok (.ifCond .lt 50, 3) := by decide +kernel
theorem d_Mo_parts_17 : decode b_Mo_parts 17 = .ok (.lload_n 3, 1) := by decide +kernel
theorem d_Mo_parts_18 : decode b_Mo_parts 18 = .ok (.ldc2_w 43, 3) := by decide +kernel
theorem d_Mo_parts_21 : decode b_Mo_parts 21 = .ok (.lmul, 1) := by decide +kernel
theorem d_Mo_parts_22 : decode b_Mo_parts 22 = .ok (.aload_n 0, 1) := by decide +kernel
theorem d_Mo_parts_23 : decode b_Mo_parts 23 = .ok (.iload_n 1, 1) := by decide +kernel
theorem d_Mo_parts_24 : decode b_Mo_parts 24 = .ok (.iload 5, 2) := by decide +kernel
theorem d_Mo_parts_26 : decode b_Mo_parts 26 = .ok (.invokevirtual 45, 3) := by decide +kernel
theorem d_Mo_parts_29 : decode b_Mo_parts 29 = .ok (.i2l, 1) := by decide +kernel
theorem d_Mo_parts_30 : decode b_Mo_parts 30 = .ok (.ladd, 1) := by decide +kernel
theorem d_Mo_parts_31 : decode b_Mo_parts 31 = .ok (.lstore 6, 2) := by decide +kernel
theorem d_Mo_parts_33 : decode b_Mo_parts 33 = .ok (.aload_n 0, 1) := by decide +kernel
theorem d_Mo_parts_34 : decode b_Mo_parts 34 = .ok (.getfield 8, 3) := by decide +kernel
theorem d_Mo_parts_37 : decode b_Mo_parts 37 = .ok (.sipush 1024, 3) := by decide +kernel
theorem d_Mo_parts_40 : decode b_Mo_parts 40 = .ok (.iload_n 1, 1) := by decide +kernel
theorem d_Mo_parts_41 : decode b_Mo_parts 41 = .ok (.imul, 1) := by decide +kernel
theorem d_Mo_parts_42 : decode b_Mo_parts 42 = .ok (.iload 5, 2) := by decide +kernel
theorem d_Mo_parts_44 : decode b_Mo_parts 44 = .ok (.iadd, 1) := by decide +kernel
theorem d_Mo_parts_45 : decode b_Mo_parts 45 = .ok (.lload 6, 2) := by decide +kernel
theorem d_Mo_parts_47 : decode b_Mo_parts 47 = .ok (.iload_n 2, 1) := by decide +kernel
theorem d_Mo_parts_48 : decode b_Mo_parts 48 = .ok (.i2l, 1) := by decide +kernel
theorem d_Mo_parts_49 : decode b_Mo_parts 49 = .ok (.ldiv, 1) := by decide +kernel
theorem d_Mo_parts_50 : decode b_Mo_parts 50 = .ok (.l2i, 1) := by decide +kernel
theorem d_Mo_parts_51 : decode b_Mo_parts 51 = .ok (.iastore, 1) := by decide +kernel
theorem d_Mo_parts_52 : decode b_Mo_parts 52 = .ok (.lload 6, 2) := by decide +kernel
theorem d_Mo_parts_54 : decode b_Mo_parts 54 = .ok (.iload_n 2, 1) := by decide +kernel
theorem d_Mo_parts_55 : decode b_Mo_parts 55 = .ok (.i2l, 1) := by decide +kernel
theorem d_Mo_parts_56 : decode b_Mo_parts 56 = .ok (.lrem, 1) := by decide +kernel
theorem d_Mo_parts_57 : decode b_Mo_parts 57 = .ok (.lstore_n 3, 1) := by decide +kernel
theorem d_Mo_parts_58 : decode b_Mo_parts 58 = .ok (.iinc 5 (-1), 3) := by decide +kernel
theorem d_Mo_parts_61 : decode b_Mo_parts 61 = .ok (.goto (-49), 3) := by decide +kernel
theorem d_Mo_parts_64 : decode b_Mo_parts 64 = .ok (.aload_n 0, 1) := by decide +kernel
theorem d_Mo_parts_65 : decode b_Mo_parts 65 = .ok (.iload_n 1, 1) := by decide +kernel
theorem d_Mo_parts_66 : decode b_Mo_parts 66 = .ok (.aload_n 0, 1) := by decide +kernel
theorem d_Mo_parts_67 : decode b_Mo_parts 67 = .ok (.getfield 14, 3) := by decide +kernel
theorem d_Mo_parts_70 : decode b_Mo_parts 70 = .ok (.iload_n 1, 1) := by decide +kernel
theorem d_Mo_parts_71 : decode b_Mo_parts 71 = .ok (.iaload, 1) := by decide +kernel
theorem d_Mo_parts_72 : decode b_Mo_parts 72 = .ok (.invokevirtual 57, 3) := by decide +kernel
theorem d_Mo_parts_75 : decode b_Mo_parts 75 = .ok (.lload_n 3, 1) := by decide +kernel
theorem d_Mo_parts_76 : decode b_Mo_parts 76 = .ok (.l2i, 1) := by decide +kernel
theorem d_Mo_parts_77 : decode b_Mo_parts 77 = .ok (.ireturn, 1) := by decide +kernel
theorem d_Mo_quotient_0 : decode b_Mo_quotient 0 = .ok (.aload_n 0, 1) := by decide +kernel
theorem d_Mo_quotient_1 : decode b_Mo_quotient 1 = .ok (.getfield 14, 3) := by decide +kernel
theorem d_Mo_quotient_4 : decode b_Mo_quotient 4 = .ok (.iload_n 3, 1) := by decide +kernel
theorem d_Mo_quotient_5 : decode b_Mo_quotient 5 = .ok (.iaload, 1) := by decide +kernel
theorem d_Mo_quotient_6 : decode b_Mo_quotient 6 = .ok (.istore 5, 2) := by decide +kernel
theorem d_Mo_quotient_8 : decode b_Mo_quotient 8 = .ok (.iconst 0, 1) := by decide +kernel
theorem d_Mo_quotient_9 : decode b_Mo_quotient 9 = .ok (.istore 6, 2) := by decide +kernel
theorem d_Mo_quotient_11 : decode b_Mo_quotient 11 = .ok (.iload 6, 2) := by decide +kernel
theorem d_Mo_quotient_13 : decode b_Mo_quotient 13 = .ok (.iload 5, 2) := by decide +kernel
theorem d_Mo_quotient_15 : decode b_Mo_quotient 15 = .ok (.if_icmp .ge 23, 3) := by decide +kernel
theorem d_Mo_quotient_18 : decode b_Mo_quotient 18 = .ok (.aload_n 0, 1) := by decide +kernel
theorem d_Mo_quotient_19 : decode b_Mo_quotient 19 = .ok (.getfield 8, 3) := by decide +kernel
theorem d_Mo_quotient_22 : decode b_Mo_quotient 22 = .ok (.sipush 1024, 3) := by decide +kernel
theorem d_Mo_quotient_25 : decode b_Mo_quotient 25 = .ok (.iload_n 1, 1) := by decide +kernel
theorem d_Mo_quotient_26 : decode b_Mo_quotient 26 = .ok (.imul, 1) := by decide +kernel
theorem d_Mo_quotient_27 : decode b_Mo_quotient 27 = .ok (.iload 6, 2) := by decide +kernel
theorem d_Mo_quotient_29 : decode b_Mo_quotient 29 = .ok (.iadd, 1) := by decide +kernel
theorem d_Mo_quotient_30 : decode b_Mo_quotient 30 = .ok (.iconst 0, 1) := by decide +kernel
theorem d_Mo_quotient_31 : decode b_Mo_quotient 31 = .ok (.iastore, 1) := by decide +kernel
theorem d_Mo_quotient_32 : decode b_Mo_quotient 32 = .ok (.iinc 6 1, 3) := by decide +kernel
theorem d_Mo_quotient_35 : decode b_Mo_quotient 35 = .ok (.goto (-24), 3) := by decide +kernel
theorem d_Mo_quotient_38 : decode b_Mo_quotient 38 = .ok (.aload_n 0, 1) := by decide +kernel
theorem d_Mo_quotient_39 : decode b_Mo_quotient 39 = .ok (.getfield 14, 3) := by decide +kernel
theorem d_Mo_quotient_42 : decode b_Mo_quotient 42 = .ok (.iload_n 2, 1) := by decide +kernel
theorem d_Mo_quotient_43 : decode b_Mo_quotient 43 = .ok (.iconst 0, 1) := by decide +kernel
theorem d_Mo_quotient_44 : decode b_Mo_quotient 44 = .ok (.iastore, 1) := by decide +kernel
theorem d_Mo_quotient_45 : decode b_Mo_quotient 45 = .ok (.iload 5, 2) := by decide +kernel
theorem d_Mo_quotient_47 : decode b_Mo_quotient 47 = .ok (.iconst 1, 1) := by decide +kernel
theorem d_Mo_quotient_48 : decode b_Mo_quotient 48 = .ok (.isub, 1) := by decide +kernel
theorem d_Mo_quotient_49 : decode b_Mo_quotient 49 = .ok (.istore 6, 2) := by decide +kernel
theorem d_Mo_quotient_51 : decode b_Mo_quotient 51 = .ok (.iload 6, 2) := by decide +kernel
theorem d_Mo_quotient_53 : decode b_Mo_quotient 53 = .ok (.ifCond .lt 135, 3) := by decide +kernel
theorem d_Mo_quotient_56 : decode b_Mo_quotient 56 = .ok (.aload_n 0, 1) := by decide +kernel
theorem d_Mo_quotient_57 : decode b_Mo_quotient 57 = .ok (.getfield 14, 3) := by decide +kernel
theorem d_Mo_quotient_60 : decode b_Mo_quotient 60 = .ok (.iload_n 2, 1) := by decide +kernel
theorem d_Mo_quotient_61 : decode b_Mo_quotient 61 = .ok (.iaload, 1) := by decide +kernel
theorem d_Mo_quotient_62 : decode b_Mo_quotient 62 = .ok (.istore 7, 2) := by decide +kernel
theorem d_Mo_quotient_64 : decode b_Mo_quotient 64 = .ok (.iload 7, 2) := by decide +kernel
theorem d_Mo_quotient_66 : decode b_Mo_quotient 66 = .ok (.ifCond .le 37, 3) := by decide +kernel
theorem d_Mo_quotient_69 : decode b_Mo_quotient 69 = .ok (.aload_n 0, 1) := by decide +kernel
theorem d_Mo_quotient_70 : decode b_Mo_quotient 70 = .ok (.getfield 8, 3) := by decide +kernel
theorem d_Mo_quotient_73 : decode b_Mo_quotient 73 = .ok (.sipush 1024, 3) := by decide +kernel
theorem d_Mo_quotient_76 : decode b_Mo_quotient 76 = .ok (.iload_n 2, 1) := by decide +kernel
theorem d_Mo_quotient_77 : decode b_Mo_quotient 77 = .ok (.imul, 1) := by decide +kernel
theorem d_Mo_quotient_78 : decode b_Mo_quotient 78 = .ok (.iload 7, 2) := by decide +kernel
theorem d_Mo_quotient_80 : decode b_Mo_quotient 80 = .ok (.iadd, 1) := by decide +kernel
theorem d_Mo_quotient_81 : decode b_Mo_quotient 81 = .ok (.aload_n 0, 1) := by decide +kernel
theorem d_Mo_quotient_82 : decode b_Mo_quotient 82 = .ok (.getfield 8, 3) := by decide +kernel
theorem d_Mo_quotient_85 : decode b_Mo_quotient 85 = .ok (.sipush 1024, 3) := by decide +kernel
theorem d_Mo_quotient_88 : decode b_Mo_quotient 88 = .ok (.iload_n 2, 1) := by decide +kernel
theorem d_Mo_quotient_89 : decode b_Mo_quotient 89 = .ok (.imul, 1) := by decide +kernel
theorem d_Mo_quotient_90 : decode b_Mo_quotient 90 = .ok (.iload 7, 2) := by decide +kernel
theorem d_Mo_quotient_92 : decode b_Mo_quotient 92 = .ok (.iadd, 1) := by decide +kernel
theorem d_Mo_quotient_93 : decode b_Mo_quotient 93 = .ok (.iconst 1, 1) := by decide +kernel
theorem d_Mo_quotient_94 : decode b_Mo_quotient 94 = .ok (.isub, 1) := by decide +kernel
theorem d_Mo_quotient_95 : decode b_Mo_quotient 95 = .ok (.iaload, 1) := by decide +kernel
theorem d_Mo_quotient_96 : decode b_Mo_quotient 96 = .ok (.iastore, 1) := by decide +kernel
theorem d_Mo_quotient_97 : decode b_Mo_quotient 97 = .ok (.iinc 7 (-1), 3) := by decide +kernel
theorem d_Mo_quotient_100 : decode b_Mo_quotient 100 = .ok (.goto (-36), 3) := by decide +kernel
theorem d_Mo_quotient_103 : decode b_Mo_quotient 103 = .ok (.aload_n 0, 1) := by decide +kernel
theorem d_Mo_quotient_104 : decode b_Mo_quotient 104 = .ok (.getfield 8, 3) := by decide +kernel
theorem d_Mo_quotient_107 : decode b_Mo_quotient 107 = .ok (.sipush 1024, 3) := by decide +kernel
theorem d_Mo_quotient_110 : decode b_Mo_quotient 110 = .ok (.iload_n 2, 1) := by decide +kernel
theorem d_Mo_quotient_111 : decode b_Mo_quotient 111 = .ok (.imul, 1) := by decide +kernel
theorem d_Mo_quotient_112 : decode b_Mo_quotient 112 = .ok (.aload_n 0, 1) := by decide +kernel
theorem d_Mo_quotient_113 : decode b_Mo_quotient 113 = .ok (.iload_n 3, 1) := by decide +kernel
theorem d_Mo_quotient_114 : decode b_Mo_quotient 114 = .ok (.iload 6, 2) := by decide +kernel
theorem d_Mo_quotient_116 : decode b_Mo_quotient 116 = .ok (.invokevirtual 45, 3) := by decide +kernel
theorem d_Mo_quotient_119 : decode b_Mo_quotient 119 = .ok (.iastore, 1) := by decide +kernel
theorem d_Mo_quotient_120 : decode b_Mo_quotient 120 = .ok (.aload_n 0, 1) := by decide +kernel
theorem d_Mo_quotient_121 : decode b_Mo_quotient 121 = .ok (.iload_n 2, 1) := by decide +kernel
theorem d_Mo_quotient_122 : decode b_Mo_quotient 122 = .ok (.aload_n 0, 1) := by decide +kernel
theorem d_Mo_quotient_123 : decode b_Mo_quotient 123 = .ok (.getfield 14, 3) := by decide +kernel
theorem d_Mo_quotient_126 : decode b_Mo_quotient 126 = .ok (.iload_n 2, 1) := by decide +kernel
theorem d_Mo_quotient_127 : decode b_Mo_quotient 127 = .ok (.iaload, 1) := by decide +kernel
theorem d_Mo_quotient_128 : decode b_Mo_quotient 128 = .ok (.iconst 1, 1) := by decide +kernel
theorem d_Mo_quotient_129 : decode b_Mo_quotient 129 = .ok (.iadd, 1) := by decide +kernel
theorem d_Mo_quotient_130 : decode b_Mo_quotient 130 = .ok (.invokevirtual 57, 3) := by decide +kernel
theorem d_Mo_quotient_133 : decode b_Mo_quotient 133 = .ok (.aload_n 0, 1) := by decide +kernel
theorem d_Mo_quotient_134 : decode b_Mo_quotient 134 = .ok (.iload_n 2, 1) := by decide +kernel
theorem d_Mo_quotient_135 : decode b_Mo_quotient 135 = .ok (.iload 4, 2) := by decide +kernel
theorem d_Mo_quotient_137 : decode b_Mo_quotient 137 = .ok (.invokevirtual 49, 3) := by decide +kernel
theorem d_Mo_quotient_140 : decode b_Mo_quotient 140 = .ok (.ifCond .lt 42, 3) := by decide +kernel
theorem d_Mo_quotient_143 : decode b_Mo_quotient 143 = .ok (.aload_n 0, 1) := by decide +kernel
theorem d_Mo_quotient_144 : decode b_Mo_quotient 144 = .ok (.iload_n 2, 1) := by decide +kernel
theorem d_Mo_quotient_145 : decode b_Mo_quotient 145 = .ok (.iload 4, 2) := by decide +kernel
theorem d_Mo_quotient_147 : decode b_Mo_quotient 147 = .ok (.invokevirtual 61, 3) := by decide +kernel
theorem d_Mo_quotient_150 : decode b_Mo_quotient 150 = .ok (.istore 7, 2) := by decide +kernel
theorem d_Mo_quotient_152 : decode b_Mo_quotient 152 = .ok (.aload_n 0, 1) := by decide +kernel
theorem d_Mo_quotient_153 : decode b_Mo_quotient 153 = .ok (.getfield 8, 3) := by decide +kernel
theorem d_Mo_quotient_156 : decode b_Mo_quotient 156 = .ok (.sipush 1024, 3) := by decide +kernel
theorem d_Mo_quotient_159 : decode b_Mo_quotient 159 = .ok (.iload_n 1, 1) := by decide +kernel
theorem d_Mo_quotient_160 : decode b_Mo_quotient 160 = .ok (.imul, 1) := by decide +kernel
theorem d_Mo_quotient_161 : decode b_Mo_quotient 161 = .ok (.iload 6, 2) := by decide +kernel
theorem d_Mo_quotient_163 : decode b_Mo_quotient 163 = .ok (.iadd, 1) := by decide +kernel
theorem d_Mo_quotient_164 : decode b_Mo_quotient 164 = .ok (.dup2, 1) := by decide +kernel
theorem d_Mo_quotient_165 : decode b_Mo_quotient 165 = .ok (.iaload, 1) := by decide +kernel
theorem d_Mo_quotient_166 : decode b_Mo_quotient 166 = .ok (.iload 7, 2) := by decide +kernel
theorem d_Mo_quotient_168 : decode b_Mo_quotient 168 = .ok (.iadd, 1) := by decide +kernel
theorem d_Mo_quotient_169 : decode b_Mo_quotient 169 = .ok (.iastore, 1) := by decide +kernel
theorem d_Mo_quotient_170 : decode b_Mo_quotient 170 = .ok (.aload_n 0, 1) := by decide +kernel
theorem d_Mo_quotient_171 : decode b_Mo_quotient 171 = .ok (.iload_n 2, 1) := by decide +kernel
theorem d_Mo_quotient_172 : decode b_Mo_quotient 172 = .ok (.iload 4, 2) := by decide +kernel
theorem d_Mo_quotient_174 : decode b_Mo_quotient 174 = .ok (.iload 7, 2) := by decide +kernel
theorem d_Mo_quotient_176 : decode b_Mo_quotient 176 = .ok (.invokevirtual 64, 3) := by decide +kernel
theorem d_Mo_quotient_179 : decode b_Mo_quotient 179 = .ok (.goto (-46), 3) := by decide +kernel
theorem d_Mo_quotient_182 : decode b_Mo_quotient 182 = .ok (.iinc 6 (-1), 3) := by decide +kernel
theorem d_Mo_quotient_185 : decode b_Mo_quotient 185 = .ok (.goto (-134), 3) := by decide +kernel
theorem d_Mo_quotient_188 : decode b_Mo_quotient 188 = .ok (.aload_n 0, 1) := by decide +kernel
theorem d_Mo_quotient_189 : decode b_Mo_quotient 189 = .ok (.getfield 17, 3) := by decide +kernel
theorem d_Mo_quotient_192 : decode b_Mo_quotient 192 = .ok (.iload_n 1, 1) := by decide +kernel
theorem d_Mo_quotient_193 : decode b_Mo_quotient 193 = .ok (.iconst 1, 1) := by decide +kernel
theorem d_Mo_quotient_194 : decode b_Mo_quotient 194 = .ok (.iastore, 1) := by decide +kernel
theorem d_Mo_quotient_195 : decode b_Mo_quotient 195 = .ok (.aload_n 0, 1) := by decide +kernel
theorem d_Mo_quotient_196 : decode b_Mo_quotient 196 = .ok (.iload_n 1, 1) := by decide +kernel
theorem d_Mo_quotient_197 : decode b_Mo_quotient 197 = .ok (.iload 5, 2) := by decide +kernel
theorem d_Mo_quotient_199 : decode b_Mo_quotient 199 = .ok (.invokevirtual 57, 3) := by decide +kernel
theorem d_Mo_quotient_202 : decode b_Mo_quotient 202 = .ok (.aload_n 0, 1) := by decide +kernel
theorem d_Mo_quotient_203 : decode b_Mo_quotient 203 = .ok (.getfield 17, 3) := by decide +kernel
theorem d_Mo_quotient_206 : decode b_Mo_quotient 206 = .ok (.iload_n 2, 1) := by decide +kernel
theorem d_Mo_quotient_207 : decode b_Mo_quotient 207 = .ok (.aload_n 0, 1) := by decide +kernel
theorem d_Mo_quotient_208 : decode b_Mo_quotient 208 = .ok (.getfield 14, 3) := by decide +kernel
theorem d_Mo_quotient_211 : decode b_Mo_quotient 211 = .ok (.iload_n 2, 1) := by decide +kernel
theorem d_Mo_quotient_212 : decode b_Mo_quotient 212 = .ok (.iaload, 1) := by decide +kernel
theorem d_Mo_quotient_213 : decode b_Mo_quotient 213 = .ok (.ifCond .le 7, 3) := by decide +kernel
theorem d_Mo_quotient_216 : decode b_Mo_quotient 216 = .ok (.iconst 1, 1) := by decide +kernel
theorem d_Mo_quotient_217 : decode b_Mo_quotient 217 = .ok (.goto 4, 3) := by decide +kernel
theorem d_Mo_quotient_220 : decode b_Mo_quotient 220 = .ok (.iconst 0, 1) := by decide +kernel
theorem d_Mo_quotient_221 : decode b_Mo_quotient 221 = .ok (.iastore, 1) := by decide +kernel
theorem d_Mo_quotient_222 : decode b_Mo_quotient 222 = .ok (.return_, 1) := by decide +kernel
theorem d_Mo_guess_0 : decode b_Mo_guess 0 = .ok (.aload_n 0, 1) := by decide +kernel
theorem d_Mo_guess_1 : decode b_Mo_guess 1 = .ok (.getfield 14, 3) := by decide +kernel
theorem d_Mo_guess_4 : decode b_Mo_guess 4 = .ok (.iload_n 2, 1) := by decide +kernel
theorem d_Mo_guess_5 : decode b_Mo_guess 5 = .ok (.iaload, 1) := by decide +kernel
theorem d_Mo_guess_6 : decode b_Mo_guess 6 = .ok (.istore_n 3, 1) := by decide +kernel
theorem d_Mo_guess_7 : decode b_Mo_guess 7 = .ok (.lconst 0, 1) := by decide +kernel
theorem d_Mo_guess_8 : decode b_Mo_guess 8 = .ok (.lstore 4, 2) := by decide +kernel
theorem d_Mo_guess_10 : decode b_Mo_guess 10 = .ok (.lconst 0, 1) := by decide +kernel
theorem d_Mo_guess_11 : decode b_Mo_guess 11 = .ok (.lstore 6, 2) := by decide +kernel
theorem d_Mo_guess_13 : decode b_Mo_guess 13 = .ok (.iconst 0, 1) := by decide +kernel
theorem d_Mo_guess_14 : decode b_Mo_guess 14 = .ok (.istore 8, 2) := by decide +kernel
theorem d_Mo_guess_16 : decode b_Mo_guess 16 = .ok (.iload 8, 2) := by decide +kernel
theorem d_Mo_guess_18 : decode b_Mo_guess 18 = .ok (.iconst 3, 1) := by decide +kernel
theorem d_Mo_guess_19 : decode b_Mo_guess 19 = .ok (.if_icmp .ge 28, 3) := by decide +kernel
theorem d_Mo_guess_22 : decode b_Mo_guess 22 = .ok (.lload 4, 2) := by decide +kernel
theorem d_Mo_guess_24 : decode b_Mo_guess 24 = .ok (.ldc2_w 43, 3) := by decide +kernel
theorem d_Mo_guess_27 : decode b_Mo_guess 27 = .ok (.lmul, 1) := by decide +kernel
theorem d_Mo_guess_28 : decode b_Mo_guess 28 = .ok (.aload_n 0, 1) := by decide +kernel
theorem d_Mo_guess_29 : decode b_Mo_guess 29 = .ok (.iload_n 1, 1) := by decide +kernel
theorem d_Mo_guess_30 : decode b_Mo_guess 30 = .ok (.iload_n 3, 1) := by decide +kernel
theorem d_Mo_guess_31 : decode b_Mo_guess 31 = .ok (.iload 8, 2) := by decide +kernel
theorem d_Mo_guess_33 : decode b_Mo_guess 33 = .ok (.isub, 1) := by decide +kernel
theorem d_Mo_guess_34 : decode b_Mo_guess 34 = .ok (.invokevirtual 45, 3) := by decide +kernel
theorem d_Mo_guess_37 : decode b_Mo_guess 37 = .ok (.i2l, 1) := by decide +kernel
theorem d_Mo_guess_38 : decode b_Mo_guess 38 = .ok (.ladd, 1) := by decide +kernel
theorem d_Mo_guess_39 : decode b_Mo_guess 39 = .ok (.lstore 4, 2) := by decide +kernel
theorem d_Mo_guess_41 : decode b_Mo_guess 41 = .ok (.iinc 8 1, 3) := by decide +kernel
theorem d_Mo_guess_44 : decode b_Mo_guess 44 = .ok (.goto (-28), 3) := by decide +kernel
theorem d_Mo_guess_47 : decode b_Mo_guess 47 = .ok (.iconst 1, 1) := by decide +kernel
theorem d_Mo_guess_48 : decode b_Mo_guess 48 = .ok (.istore 8, 2) := by decide +kernel
theorem d_Mo_guess_50 : decode b_Mo_guess 50 = .ok (.iload 8, 2) := by decide +kernel
theorem d_Mo_guess_52 : decode b_Mo_guess 52 = .ok (.iconst 3, 1) := by decide +kernel
theorem d_Mo_guess_53 : decode b_Mo_guess 53 = .ok (.if_icmp .ge 28, 3) := by decide +kernel
theorem d_Mo_guess_56 : decode b_Mo_guess 56 = .ok (.lload 6, 2) := by decide +kernel
theorem d_Mo_guess_58 : decode b_Mo_guess 58 = .ok (.ldc2_w 43, 3) := by decide +kernel
theorem d_Mo_guess_61 : decode b_Mo_guess 61 = .ok (.lmul, 1) := by decide +kernel
theorem d_Mo_guess_62 : decode b_Mo_guess 62 = .ok (.aload_n 0, 1) := by decide +kernel
theorem d_Mo_guess_63 : decode b_Mo_guess 63 = .ok (.iload_n 2, 1) := by decide +kernel
theorem d_Mo_guess_64 : decode b_Mo_guess 64 = .ok (.iload_n 3, 1) := by decide +kernel
theorem d_Mo_guess_65 : decode b_Mo_guess 65 = .ok (.iload 8, 2) := by decide +kernel
theorem d_Mo_guess_67 : decode b_Mo_guess 67 = .ok (.isub, 1) := by decide +kernel
theorem d_Mo_guess_68 : decode b_Mo_guess 68 = .ok (.invokevirtual 45, 3) := by decide +kernel
theorem d_Mo_guess_71 : decode b_Mo_guess 71 = .ok (.i2l, 1) := by decide +kernel
theorem d_Mo_guess_72 : decode b_Mo_guess 72 = .ok (.ladd, 1) := by decide +kernel
theorem d_Mo_guess_73 : decode b_Mo_guess 73 = .ok (.lstore 6, 2) := by decide +kernel
theorem d_Mo_guess_75 : decode b_Mo_guess 75 = .ok (.iinc 8 1, 3) := by decide +kernel
theorem d_Mo_guess_78 : decode b_Mo_guess 78 = .ok (.goto (-28), 3) := by decide +kernel
theorem d_Mo_guess_81 : decode b_Mo_guess 81 = .ok (.lload 4, 2) := by decide +kernel
theorem d_Mo_guess_83 : decode b_Mo_guess 83 = .ok (.lload 6, 2) := by decide +kernel
theorem d_Mo_guess_85 : decode b_Mo_guess 85 = .ok (.lconst 1, 1) := by decide +kernel
theorem d_Mo_guess_86 : decode b_Mo_guess 86 = .ok (.ladd, 1) := by decide +kernel
theorem d_Mo_guess_87 : decode b_Mo_guess 87 = .ok (.ldiv, 1) := by decide +kernel
theorem d_Mo_guess_88 : decode b_Mo_guess 88 = .ok (.lstore 8, 2) := by decide +kernel
theorem d_Mo_guess_90 : decode b_Mo_guess 90 = .ok (.lload 8, 2) := by decide +kernel
theorem d_Mo_guess_92 : decode b_Mo_guess 92 = .ok (.lconst 1, 1) := by decide +kernel
theorem d_Mo_guess_93 : decode b_Mo_guess 93 = .ok (.lcmp, 1) := by decide +kernel
theorem d_Mo_guess_94 : decode b_Mo_guess 94 = .ok (.ifCond .ge 7, 3) := by decide +kernel
theorem d_Mo_guess_97 : decode b_Mo_guess 97 = .ok (.iconst 1, 1) := by decide +kernel
theorem d_Mo_guess_98 : decode b_Mo_guess 98 = .ok (.goto 6, 3) := by decide +kernel
theorem d_Mo_guess_101 : decode b_Mo_guess 101 = .ok (.lload 8, 2) := by decide +kernel
theorem d_Mo_guess_103 : decode b_Mo_guess 103 = .ok (.l2i, 1) := by decide +kernel
theorem d_Mo_guess_104 : decode b_Mo_guess 104 = .ok (.ireturn, 1) := by decide +kernel
theorem d_Mo_lessens_0 : decode b_Mo_lessens 0 = .ok (.lconst 0, 1) := by decide +kernel
theorem d_Mo_lessens_1 : decode b_Mo_lessens 1 = .ok (.lstore 4, 2) := by decide +kernel
theorem d_Mo_lessens_3 : decode b_Mo_lessens 3 = .ok (.iconst 0, 1) := by decide +kernel
theorem d_Mo_lessens_4 : decode b_Mo_lessens 4 = .ok (.istore 6, 2) := by decide +kernel
theorem d_Mo_lessens_6 : decode b_Mo_lessens 6 = .ok (.iload 6, 2) := by decide +kernel
theorem d_Mo_lessens_8 : decode b_Mo_lessens 8 = .ok (.aload_n 0, 1) := by decide +kernel
theorem d_Mo_lessens_9 : decode b_Mo_lessens 9 = .ok (.getfield 14, 3) := by decide +kernel
theorem d_Mo_lessens_12 : decode b_Mo_lessens 12 = .ok (.iload_n 1, 1) := by decide +kernel
theorem d_Mo_lessens_13 : decode b_Mo_lessens 13 = .ok (.iaload, 1) := by decide +kernel
theorem d_Mo_lessens_14 : decode b_Mo_lessens 14 = .ok (.if_icmp .ge 81, 3) := by decide +kernel
theorem d_Mo_lessens_17 : decode b_Mo_lessens 17 = .ok (.aload_n 0, 1) := by decide +kernel
theorem d_Mo_lessens_18 : decode b_Mo_lessens 18 = .ok (.iload_n 1, 1) := by decide +kernel
theorem d_Mo_lessens_19 : decode b_Mo_lessens 19 = .ok (.iload 6, 2) := by decide +kernel
theorem d_Mo_lessens_21 : decode b_Mo_lessens 21 = .ok (.invokevirtual 45, 3) := by decide +kernel
theorem d_Mo_lessens_24 : decode b_Mo_lessens 24 = .ok (.i2l, 1) := by decide +kernel
theorem d_Mo_lessens_25 : decode b_Mo_lessens 25 = .ok (.aload_n 0, 1) := by decide +kernel
theorem d_Mo_lessens_26 : decode b_Mo_lessens 26 = .ok (.iload_n 2, 1) := by decide +kernel
theorem d_Mo_lessens_27 : decode b_Mo_lessens 27 = .ok (.iload 6, 2) := by decide +kernel
theorem d_Mo_lessens_29 : decode b_Mo_lessens 29 = .ok (.invokevirtual 45, 3) := by decide +kernel
theorem d_Mo_lessens_32 : decode b_Mo_lessens 32 = .ok (.i2l, 1) := by decide +kernel
theorem d_Mo_lessens_33 : decode b_Mo_lessens 33 = .ok (.iload_n 3, 1) := by decide +kernel
theorem d_Mo_lessens_34 : decode b_Mo_lessens 34 = .ok (.i2l, 1) := by decide +kernel
theorem d_Mo_lessens_35 : decode b_Mo_lessens 35 = .ok (.lmul, 1) := by decide +kernel
theorem d_Mo_lessens_36 : decode b_Mo_lessens 36 = .ok (.lsub, 1) := by decide +kernel
theorem d_Mo_lessens_37 : decode b_Mo_lessens 37 = .ok (.lload 4, 2) := by decide +kernel
theorem d_Mo_lessens_39 : decode b_Mo_lessens 39 = .ok (.ladd, 1) := by decide +kernel
theorem d_Mo_lessens_40 : decode b_Mo_lessens 40 = .ok (.lstore 7, 2) := by decide +kernel
theorem d_Mo_lessens_42 : decode b_Mo_lessens 42 = .ok (.lload 7, 2) := by decide +kernel
theorem d_Mo_lessens_44 : decode b_Mo_lessens 44 = .ok (.lconst 0, 1) := by decide +kernel
theorem d_Mo_lessens_45 : decode b_Mo_lessens 45 = .ok (.lcmp, 1) := by decide +kernel
theorem d_Mo_lessens_46 : decode b_Mo_lessens 46 = .ok (.ifCond .ge 17, 3) := by decide +kernel
theorem d_Mo_lessens_49 : decode b_Mo_lessens 49 = .ok (.ldc2_w 67, 3) := by decide +kernel
theorem d_Mo_lessens_52 : decode b_Mo_lessens 52 = .ok (.lload 7, 2) := by decide +kernel
theorem d_Mo_lessens_54 : decode b_Mo_lessens 54 = .ok (.lsub, 1) := by decide +kernel
theorem d_Mo_lessens_55 : decode b_Mo_lessens 55 = .ok (.ldc2_w 43, 3) := by decide +kernel
theorem d_Mo_lessens_58 : decode b_Mo_lessens 58 = .ok (.ldiv, 1) := by decide +kernel
theorem d_Mo_lessens_59 : decode b_Mo_lessens 59 = .ok (.lneg, 1) := by decide +kernel
theorem d_Mo_lessens_60 : decode b_Mo_lessens 60 = .ok (.goto 4, 3) := by decide +kernel
theorem d_Mo_lessens_63 : decode b_Mo_lessens 63 = .ok (.lconst 0, 1) := by decide +kernel
theorem d_Mo_lessens_64 : decode b_Mo_lessens 64 = .ok (.lstore 4, 2) := by decide +kernel
theorem d_Mo_lessens_66 : decode b_Mo_lessens 66 = .ok (.aload_n 0, 1) := by decide +kernel
theorem d_Mo_lessens_67 : decode b_Mo_lessens 67 = .ok (.getfield 8, 3) := by decide +kernel
theorem d_Mo_lessens_70 : decode b_Mo_lessens 70 = .ok (.sipush 1024, 3) := by decide +kernel
theorem d_Mo_lessens_73 : decode b_Mo_lessens 73 = .ok (.iload_n 1, 1) := by decide +kernel
theorem d_Mo_lessens_74 : decode b_Mo_lessens 74 = .ok (.imul, 1) := by decide +kernel
theorem d_Mo_lessens_75 : decode b_Mo_lessens 75 = .ok (.iload 6, 2) := by decide +kernel
theorem d_Mo_lessens_77 : decode b_Mo_lessens 77 = .ok (.iadd, 1) := by decide +kernel
theorem d_Mo_lessens_78 : decode b_Mo_lessens 78 = .ok (.lload 7, 2) := by decide +kernel
theorem d_Mo_lessens_80 : decode b_Mo_lessens 80 = .ok (.lload 4, 2) := by decide +kernel
theorem d_Mo_lessens_82 : decode b_Mo_lessens 82 = .ok (.ldc2_w 43, 3) := by decide +kernel
theorem d_Mo_lessens_85 : decode b_Mo_lessens 85 = .ok (.lmul, 1) := by decide +kernel
theorem d_Mo_lessens_86 : decode b_Mo_lessens 86 = .ok (.lsub, 1) := by decide +kernel
theorem d_Mo_lessens_87 : decode b_Mo_lessens 87 = .ok (.l2i, 1) := by decide +kernel
theorem d_Mo_lessens_88 : decode b_Mo_lessens 88 = .ok (.iastore, 1) := by decide +kernel
theorem d_Mo_lessens_89 : decode b_Mo_lessens 89 = .ok (.iinc 6 1, 3) := by decide +kernel
theorem d_Mo_lessens_92 : decode b_Mo_lessens 92 = .ok (.goto (-86), 3) := by decide +kernel
theorem d_Mo_lessens_95 : decode b_Mo_lessens 95 = .ok (.aload_n 0, 1) := by decide +kernel
theorem d_Mo_lessens_96 : decode b_Mo_lessens 96 = .ok (.iload_n 1, 1) := by decide +kernel
theorem d_Mo_lessens_97 : decode b_Mo_lessens 97 = .ok (.aload_n 0, 1) := by decide +kernel
theorem d_Mo_lessens_98 : decode b_Mo_lessens 98 = .ok (.getfield 14, 3) := by decide +kernel
theorem d_Mo_lessens_101 : decode b_Mo_lessens 101 = .ok (.iload_n 1, 1) := by decide +kernel
theorem d_Mo_lessens_102 : decode b_Mo_lessens 102 = .ok (.iaload, 1) := by decide +kernel
theorem d_Mo_lessens_103 : decode b_Mo_lessens 103 = .ok (.invokevirtual 57, 3) := by decide +kernel
theorem d_Mo_lessens_106 : decode b_Mo_lessens 106 = .ok (.return_, 1) := by decide +kernel
theorem d_Mo_copyPoly_0 : decode b_Mo_copyPoly 0 = .ok (.iconst 0, 1) := by decide +kernel
theorem d_Mo_copyPoly_1 : decode b_Mo_copyPoly 1 = .ok (.istore_n 3, 1) := by decide +kernel
theorem d_Mo_copyPoly_2 : decode b_Mo_copyPoly 2 = .ok (.iload_n 3, 1) := by decide +kernel
theorem d_Mo_copyPoly_3 : decode b_Mo_copyPoly 3 = .ok (.aload_n 0, 1) := by decide +kernel
theorem d_Mo_copyPoly_4 : decode b_Mo_copyPoly 4 = .ok (.getfield 20, 3) := by decide +kernel
theorem d_Mo_copyPoly_7 : decode b_Mo_copyPoly 7 = .ok (.iload_n 2, 1) := by decide +kernel
theorem d_Mo_copyPoly_8 : decode b_Mo_copyPoly 8 = .ok (.iaload, 1) := by decide +kernel
theorem d_Mo_copyPoly_9 : decode b_Mo_copyPoly 9 = .ok (.if_icmp .gt 25, 3) := by decide +kernel
theorem d_Mo_copyPoly_12 : decode b_Mo_copyPoly 12 = .ok (.aload_n 0, 1) := by decide +kernel
theorem d_Mo_copyPoly_13 : decode b_Mo_copyPoly 13 = .ok (.bipush 9, 2) := by decide +kernel
theorem d_Mo_copyPoly_15 : decode b_Mo_copyPoly 15 = .ok (.iload_n 1, 1) := by decide +kernel
theorem d_Mo_copyPoly_16 : decode b_Mo_copyPoly 16 = .ok (.imul, 1) := by decide +kernel
theorem d_Mo_copyPoly_17 : decode b_Mo_copyPoly 17 = .ok (.iload_n 3, 1) := by decide +kernel
theorem d_Mo_copyPoly_18 : decode b_Mo_copyPoly 18 = .ok (.iadd, 1) := by decide +kernel
theorem d_Mo_copyPoly_19 : decode b_Mo_copyPoly 19 = .ok (.bipush 9, 2) := by decide +kernel
theorem d_Mo_copyPoly_21 : decode b_Mo_copyPoly 21 = .ok (.iload_n 2, 1) := by decide +kernel
theorem d_Mo_copyPoly_22 : decode b_Mo_copyPoly 22 = .ok (.imul, 1) := by decide +kernel
theorem d_Mo_copyPoly_23 : decode b_Mo_copyPoly 23 = .ok (.iload_n 3, 1) := by decide +kernel
theorem d_Mo_copyPoly_24 : decode b_Mo_copyPoly 24 = .ok (.iadd, 1) := by decide +kernel
theorem d_Mo_copyPoly_25 : decode b_Mo_copyPoly 25 = .ok (.invokevirtual 69, 3) := by decide +kernel
theorem d_Mo_copyPoly_28 : decode b_Mo_copyPoly 28 = .ok (.iinc 3 1, 3) := by decide +kernel
theorem d_Mo_copyPoly_31 : decode b_Mo_copyPoly 31 = .ok (.goto (-29), 3) := by decide +kernel
theorem d_Mo_copyPoly_34 : decode b_Mo_copyPoly 34 = .ok (.aload_n 0, 1) := by decide +kernel
theorem d_Mo_copyPoly_35 : decode b_Mo_copyPoly 35 = .ok (.getfield 20, 3) := by decide +kernel
theorem d_Mo_copyPoly_38 : decode b_Mo_copyPoly 38 = .ok (.iload_n 1, 1) := by decide +kernel
theorem d_Mo_copyPoly_39 : decode b_Mo_copyPoly 39 = .ok (.aload_n 0, 1) := by decide +kernel
theorem d_Mo_copyPoly_40 : decode b_Mo_copyPoly 40 = .ok (.getfield 20, 3) := by decide +kernel
theorem d_Mo_copyPoly_43 : decode b_Mo_copyPoly 43 = .ok (.iload_n 2, 1) := by decide +kernel
theorem d_Mo_copyPoly_44 : decode b_Mo_copyPoly 44 = .ok (.iaload, 1) := by decide +kernel
theorem d_Mo_copyPoly_45 : decode b_Mo_copyPoly 45 = .ok (.iastore, 1) := by decide +kernel
theorem d_Mo_copyPoly_46 : decode b_Mo_copyPoly 46 = .ok (.return_, 1) := by decide +kernel
theorem d_Mo_derive_0 : decode b_Mo_derive 0 = .ok (.iconst 1, 1) := by decide +kernel
theorem d_Mo_derive_1 : decode b_Mo_derive 1 = .ok (.istore_n 3, 1) := by decide +kernel
theorem d_Mo_derive_2 : decode b_Mo_derive 2 = .ok (.iload_n 3, 1) := by decide +kernel
theorem d_Mo_derive_3 : decode b_Mo_derive 3 = .ok (.aload_n 0, 1) := by decide +kernel
theorem d_Mo_derive_4 : decode b_Mo_derive 4 = .ok (.getfield 20, 3) := by decide +kernel
theorem d_Mo_derive_7 : decode b_Mo_derive 7 = .ok (.iload_n 2, 1) := by decide +kernel
theorem d_Mo_derive_8 : decode b_Mo_derive 8 = .ok (.iaload, 1) := by decide +kernel
theorem d_Mo_derive_9 : decode b_Mo_derive 9 = .ok (.if_icmp .gt 37, 3) := by decide +kernel
theorem d_Mo_derive_12 : decode b_Mo_derive 12 = .ok (.aload_n 0, 1) := by decide +kernel
theorem d_Mo_derive_13 : decode b_Mo_derive 13 = .ok (.bipush 96, 2) := by decide +kernel
theorem d_Mo_derive_15 : decode b_Mo_derive 15 = .ok (.iload_n 3, 1) := by decide +kernel
theorem d_Mo_derive_16 : decode b_Mo_derive 16 = .ok (.i2l, 1) := by decide +kernel
theorem d_Mo_derive_17 : decode b_Mo_derive 17 = .ok (.invokevirtual 72, 3) := by decide +kernel
theorem d_Mo_derive_20 : decode b_Mo_derive 20 = .ok (.aload_n 0, 1) := by decide +kernel
theorem d_Mo_derive_21 : decode b_Mo_derive 21 = .ok (.bipush 9, 2) := by decide +kernel
theorem d_Mo_derive_23 : decode b_Mo_derive 23 = .ok (.iload_n 1, 1) := by decide +kernel
theorem d_Mo_derive_24 : decode b_Mo_derive 24 = .ok (.imul, 1) := by decide +kernel
theorem d_Mo_derive_25 : decode b_Mo_derive 25 = .ok (.iload_n 3, 1) := by decide +kernel
theorem d_Mo_derive_26 : decode b_Mo_derive 26 = .ok (.iadd, 1) := by decide +kernel
theorem d_Mo_derive_27 : decode b_Mo_derive 27 = .ok (.iconst 1, 1) := by decide +kernel
theorem d_Mo_derive_28 : decode b_Mo_derive 28 = .ok (.isub, 1) := by decide +kernel
theorem d_Mo_derive_29 : decode b_Mo_derive 29 = .ok (.bipush 9, 2) := by decide +kernel
theorem d_Mo_derive_31 : decode b_Mo_derive 31 = .ok (.iload_n 2, 1) := by decide +kernel
theorem d_Mo_derive_32 : decode b_Mo_derive 32 = .ok (.imul, 1) := by decide +kernel
theorem d_Mo_derive_33 : decode b_Mo_derive 33 = .ok (.iload_n 3, 1) := by decide +kernel
theorem d_Mo_derive_34 : decode b_Mo_derive 34 = .ok (.iadd, 1) := by decide +kernel
theorem d_Mo_derive_35 : decode b_Mo_derive 35 = .ok (.bipush 96, 2) := by decide +kernel
theorem d_Mo_derive_37 : decode b_Mo_derive 37 = .ok (.invokevirtual 76, 3) := by decide +kernel
theorem d_Mo_derive_40 : decode b_Mo_derive 40 = .ok (.iinc 3 1, 3) := by decide +kernel
theorem d_Mo_derive_43 : decode b_Mo_derive 43 = .ok (.goto (-41), 3) := by decide +kernel
theorem d_Mo_derive_46 : decode b_Mo_derive 46 = .ok (.aload_n 0, 1) := by decide +kernel
theorem d_Mo_derive_47 : decode b_Mo_derive 47 = .ok (.getfield 20, 3) := by decide +kernel
theorem d_Mo_derive_50 : decode b_Mo_derive 50 = .ok (.iload_n 1, 1) := by decide +kernel
theorem d_Mo_derive_51 : decode b_Mo_derive 51 = .ok (.aload_n 0, 1) := by decide +kernel
theorem d_Mo_derive_52 : decode b_Mo_derive 52 = .ok (.getfield 20, 3) := by decide +kernel
theorem d_Mo_derive_55 : decode b_Mo_derive 55 = .ok (.iload_n 2, 1) := by decide +kernel
theorem d_Mo_derive_56 : decode b_Mo_derive 56 = .ok (.iaload, 1) := by decide +kernel
theorem d_Mo_derive_57 : decode b_Mo_derive 57 = .ok (.iconst 1, 1) := by decide +kernel
theorem d_Mo_derive_58 : decode b_Mo_derive 58 = .ok (.isub, 1) := by decide +kernel
theorem d_Mo_derive_59 : decode b_Mo_derive 59 = .ok (.iastore, 1) := by decide +kernel
theorem d_Mo_derive_60 : decode b_Mo_derive 60 = .ok (.aload_n 0, 1) := by decide +kernel
theorem d_Mo_derive_61 : decode b_Mo_derive 61 = .ok (.getfield 20, 3) := by decide +kernel
theorem d_Mo_derive_64 : decode b_Mo_derive 64 = .ok (.iload_n 1, 1) := by decide +kernel
theorem d_Mo_derive_65 : decode b_Mo_derive 65 = .ok (.iaload, 1) := by decide +kernel
theorem d_Mo_derive_66 : decode b_Mo_derive 66 = .ok (.ifCond .ge 10, 3) := by decide +kernel
theorem d_Mo_derive_69 : decode b_Mo_derive 69 = .ok (.aload_n 0, 1) := by decide +kernel
theorem d_Mo_derive_70 : decode b_Mo_derive 70 = .ok (.getfield 20, 3) := by decide +kernel
theorem d_Mo_derive_73 : decode b_Mo_derive 73 = .ok (.iload_n 1, 1) := by decide +kernel
theorem d_Mo_derive_74 : decode b_Mo_derive 74 = .ok (.iconst (-1), 1) := by decide +kernel
theorem d_Mo_derive_75 : decode b_Mo_derive 75 = .ok (.iastore, 1) := by decide +kernel
theorem d_Mo_derive_76 : decode b_Mo_derive 76 = .ok (.return_, 1) := by decide +kernel
theorem d_Mo_primitive_0 : decode b_Mo_primitive 0 = .ok (.bipush 97, 2) := by decide +kernel
theorem d_Mo_primitive_2 : decode b_Mo_primitive 2 = .ok (.istore_n 2, 1) := by decide +kernel
theorem d_Mo_primitive_3 : decode b_Mo_primitive 3 = .ok (.aload_n 0, 1) := by decide +kernel
theorem d_Mo_primitive_4 : decode b_Mo_primitive 4 = .ok (.iload_n 2, 1) := by decide +kernel
theorem d_Mo_primitive_5 : decode b_Mo_primitive 5 = .ok (.lconst 0, 1) := by decide +kernel
theorem d_Mo_primitive_6 : decode b_Mo_primitive 6 = .ok (.invokevirtual 72, 3) := by decide +kernel
theorem d_Mo_primitive_9 : decode b_Mo_primitive 9 = .ok (.iconst 0, 1) := by decide +kernel
theorem d_Mo_primitive_10 : decode b_Mo_primitive 10 = .ok (.istore_n 3, 1) := by decide +kernel
theorem d_Mo_primitive_11 : decode b_Mo_primitive 11 = .ok (.iload_n 3, 1) := by decide +kernel
theorem d_Mo_primitive_12 : decode b_Mo_primitive 12 = .ok (.aload_n 0, 1) := by decide +kernel
theorem d_Mo_primitive_13 : decode b_Mo_primitive 13 = .ok (.getfield 20, 3) := by decide +kernel
theorem d_Mo_primitive_16 : decode b_Mo_primitive 16 = .ok (.iload_n 1, 1) := by decide +kernel
theorem d_Mo_primitive_17 : decode b_Mo_primitive 17 = .ok (.iaload, 1) := by decide +kernel
theorem d_Mo_primitive_18 : decode b_Mo_primitive 18 = .ok (.if_icmp .gt 60, 3) := by decide +kernel
theorem d_Mo_primitive_21 : decode b_Mo_primitive 21 = .ok (.aload_n 0, 1) := by decide +kernel
theorem d_Mo_primitive_22 : decode b_Mo_primitive 22 = .ok (.bipush 98, 2) := by decide +kernel
theorem d_Mo_primitive_24 : decode b_Mo_primitive 24 = .ok (.bipush 9, 2) := by decide +kernel
theorem d_Mo_primitive_26 : decode b_Mo_primitive 26 = .ok (.iload_n 1, 1) := by decide +kernel
theorem d_Mo_primitive_27 : decode b_Mo_primitive 27 = .ok (.imul, 1) := by decide +kernel
theorem d_Mo_primitive_28 : decode b_Mo_primitive 28 = .ok (.iload_n 3, 1) := by decide +kernel
theorem d_Mo_primitive_29 : decode b_Mo_primitive 29 = .ok (.iadd, 1) := by decide +kernel
theorem d_Mo_primitive_30 : decode b_Mo_primitive 30 = .ok (.invokevirtual 69, 3) := by decide +kernel
theorem d_Mo_primitive_33 : decode b_Mo_primitive 33 = .ok (.aload_n 0, 1) := by decide +kernel
theorem d_Mo_primitive_34 : decode b_Mo_primitive 34 = .ok (.getfield 14, 3) := by decide +kernel
theorem d_Mo_primitive_37 : decode b_Mo_primitive 37 = .ok (.bipush 98, 2) := by decide +kernel
theorem d_Mo_primitive_39 : decode b_Mo_primitive 39 = .ok (.iaload, 1) := by decide +kernel
theorem d_Mo_primitive_40 : decode b_Mo_primitive 40 = .ok (.ifCond .le 32, 3) := by decide +kernel
theorem d_Mo_primitive_43 : decode b_Mo_primitive 43 = .ok (.aload_n 0, 1) := by decide +kernel
theorem d_Mo_primitive_44 : decode b_Mo_primitive 44 = .ok (.bipush 99, 2) := by decide +kernel
theorem d_Mo_primitive_46 : decode b_Mo_primitive 46 = .ok (.bipush 100, 2) := by decide +kernel
theorem d_Mo_primitive_48 : decode b_Mo_primitive 48 = .ok (.iload_n 2, 1) := by decide +kernel
theorem d_Mo_primitive_49 : decode b_Mo_primitive 49 = .ok (.bipush 98, 2) := by decide +kernel
theorem d_Mo_primitive_51 : decode b_Mo_primitive 51 = .ok (.invokevirtual 79, 3) := by decide +kernel
theorem d_Mo_primitive_54 : decode b_Mo_primitive 54 = .ok (.aload_n 0, 1) := by decide +kernel
theorem d_Mo_primitive_55 : decode b_Mo_primitive 55 = .ok (.iload_n 2, 1) := by decide +kernel
theorem d_Mo_primitive_56 : decode b_Mo_primitive 56 = .ok (.bipush 98, 2) := by decide +kernel
theorem d_Mo_primitive_58 : decode b_Mo_primitive 58 = .ok (.invokevirtual 69, 3) := by decide +kernel
theorem d_Mo_primitive_61 : decode b_Mo_primitive 61 = .ok (.aload_n 0, 1) := by decide +kernel
theorem d_Mo_primitive_62 : decode b_Mo_primitive 62 = .ok (.bipush 98, 2) := by decide +kernel
theorem d_Mo_primitive_64 : decode b_Mo_primitive 64 = .ok (.bipush 100, 2) := by decide +kernel
theorem d_Mo_primitive_66 : decode b_Mo_primitive 66 = .ok (.invokevirtual 69, 3) := by decide +kernel
theorem d_Mo_primitive_69 : decode b_Mo_primitive 69 = .ok (.goto (-36), 3) := by decide +kernel
theorem d_Mo_primitive_72 : decode b_Mo_primitive 72 = .ok (.iinc 3 1, 3) := by decide +kernel
theorem d_Mo_primitive_75 : decode b_Mo_primitive 75 = .ok (.goto (-64), 3) := by decide +kernel
theorem d_Mo_primitive_78 : decode b_Mo_primitive 78 = .ok (.aload_n 0, 1) := by decide +kernel
theorem d_Mo_primitive_79 : decode b_Mo_primitive 79 = .ok (.getfield 17, 3) := by decide +kernel
theorem d_Mo_primitive_82 : decode b_Mo_primitive 82 = .ok (.bipush 9, 2) := by decide +kernel
theorem d_Mo_primitive_84 : decode b_Mo_primitive 84 = .ok (.iload_n 1, 1) := by decide +kernel
theorem d_Mo_primitive_85 : decode b_Mo_primitive 85 = .ok (.imul, 1) := by decide +kernel
theorem d_Mo_primitive_86 : decode b_Mo_primitive 86 = .ok (.aload_n 0, 1) := by decide +kernel
theorem d_Mo_primitive_87 : decode b_Mo_primitive 87 = .ok (.getfield 20, 3) := by decide +kernel
theorem d_Mo_primitive_90 : decode b_Mo_primitive 90 = .ok (.iload_n 1, 1) := by decide +kernel
theorem d_Mo_primitive_91 : decode b_Mo_primitive 91 = .ok (.iaload, 1) := by decide +kernel
theorem d_Mo_primitive_92 : decode b_Mo_primitive 92 = .ok (.iadd, 1) := by decide +kernel
theorem d_Mo_primitive_93 : decode b_Mo_primitive 93 = .ok (.iaload, 1) := by decide +kernel
theorem d_Mo_primitive_94 : decode b_Mo_primitive 94 = .ok (.istore_n 3, 1) := by decide +kernel
theorem d_Mo_primitive_95 : decode b_Mo_primitive 95 = .ok (.iconst 0, 1) := by decide +kernel
theorem d_Mo_primitive_96 : decode b_Mo_primitive 96 = .ok (.istore 4, 2) := by decide +kernel
theorem d_Mo_primitive_98 : decode b_Mo_primitive 98 = .ok (.iload 4, 2) := by decide +kernel
theorem d_Mo_primitive_100 : decode b_Mo_primitive 100 = .ok (.aload_n 0, 1) := by decide +kernel
theorem d_Mo_primitive_101 : decode b_Mo_primitive 101 = .ok (.getfield 20, 3) := by decide +kernel
theorem d_Mo_primitive_104 : decode b_Mo_primitive 104 = .ok (.iload_n 1, 1) := by decide +kernel
theorem d_Mo_primitive_105 : decode b_Mo_primitive 105 = .ok (.iaload, 1) := by decide +kernel
theorem d_Mo_primitive_106 : decode b_Mo_primitive 106 = .ok (.if_icmp .gt 68, 3) := by decide +kernel
theorem d_Mo_primitive_109 : decode b_Mo_primitive 109 = .ok (.aload_n 0, 1) := by decide +kernel
theorem d_Mo_primitive_110 : decode b_Mo_primitive 110 = .ok (.getfield 17, 3) := by decide +kernel
theorem d_Mo_primitive_113 : decode b_Mo_primitive 113 = .ok (.bipush 9, 2) := by decide +kernel
theorem d_Mo_primitive_115 : decode b_Mo_primitive 115 = .ok (.iload_n 1, 1) := by decide +kernel
theorem d_Mo_primitive_116 : decode b_Mo_primitive 116 = .ok (.imul, 1) := by decide +kernel
theorem d_Mo_primitive_117 : decode b_Mo_primitive 117 = .ok (.iload 4, 2) := by decide +kernel
theorem d_Mo_primitive_119 : decode b_Mo_primitive 119 = .ok (.iadd, 1) := by decide +kernel
theorem d_Mo_primitive_120 : decode b_Mo_primitive 120 = .ok (.iaload, 1) := by decide +kernel
theorem d_Mo_primitive_121 : decode b_Mo_primitive 121 = .ok (.istore 5, 2) := by decide +kernel
theorem d_Mo_primitive_123 : decode b_Mo_primitive 123 = .ok (.aload_n 0, 1) := by decide +kernel
theorem d_Mo_primitive_124 : decode b_Mo_primitive 124 = .ok (.bipush 99, 2) := by decide +kernel
theorem d_Mo_primitive_126 : decode b_Mo_primitive 126 = .ok (.bipush 100, 2) := by decide +kernel
theorem d_Mo_primitive_128 : decode b_Mo_primitive 128 = .ok (.bipush 9, 2) := by decide +kernel
theorem d_Mo_primitive_130 : decode b_Mo_primitive 130 = .ok (.iload_n 1, 1) := by decide +kernel
theorem d_Mo_primitive_131 : decode b_Mo_primitive 131 = .ok (.imul, 1) := by decide +kernel
theorem d_Mo_primitive_132 : decode b_Mo_primitive 132 = .ok (.iload 4, 2) := by decide +kernel
theorem d_Mo_primitive_134 : decode b_Mo_primitive 134 = .ok (.iadd, 1) := by decide +kernel
theorem d_Mo_primitive_135 : decode b_Mo_primitive 135 = .ok (.iload_n 2, 1) := by decide +kernel
theorem d_Mo_primitive_136 : decode b_Mo_primitive 136 = .ok (.invokevirtual 79, 3) := by decide +kernel
theorem d_Mo_primitive_139 : decode b_Mo_primitive 139 = .ok (.aload_n 0, 1) := by decide +kernel
theorem d_Mo_primitive_140 : decode b_Mo_primitive 140 = .ok (.bipush 9, 2) := by decide +kernel
theorem d_Mo_primitive_142 : decode b_Mo_primitive 142 = .ok (.iload_n 1, 1) := by decide +kernel
theorem d_Mo_primitive_143 : decode b_Mo_primitive 143 = .ok (.imul, 1) := by decide +kernel
theorem d_Mo_primitive_144 : decode b_Mo_primitive 144 = .ok (.iload 4, 2) := by decide +kernel
theorem d_Mo_primitive_146 : decode b_Mo_primitive 146 = .ok (.iadd, 1) := by decide +kernel
theorem d_Mo_primitive_147 : decode b_Mo_primitive 147 = .ok (.bipush 99, 2) := by decide +kernel
theorem d_Mo_primitive_149 : decode b_Mo_primitive 149 = .ok (.invokevirtual 69, 3) := by decide +kernel
theorem d_Mo_primitive_152 : decode b_Mo_primitive 152 = .ok (.aload_n 0, 1) := by decide +kernel
theorem d_Mo_primitive_153 : decode b_Mo_primitive 153 = .ok (.getfield 17, 3) := by decide +kernel
theorem d_Mo_primitive_156 : decode b_Mo_primitive 156 = .ok (.bipush 9, 2) := by decide +kernel
theorem d_Mo_primitive_158 : decode b_Mo_primitive 158 = .ok (.iload_n 1, 1) := by decide +kernel
theorem d_Mo_primitive_159 : decode b_Mo_primitive 159 = .ok (.imul, 1) := by decide +kernel
theorem d_Mo_primitive_160 : decode b_Mo_primitive 160 = .ok (.iload 4, 2) := by decide +kernel
theorem d_Mo_primitive_162 : decode b_Mo_primitive 162 = .ok (.iadd, 1) := by decide +kernel
theorem d_Mo_primitive_163 : decode b_Mo_primitive 163 = .ok (.iload 5, 2) := by decide +kernel
theorem d_Mo_primitive_165 : decode b_Mo_primitive 165 = .ok (.iload_n 3, 1) := by decide +kernel
theorem d_Mo_primitive_166 : decode b_Mo_primitive 166 = .ok (.imul, 1) := by decide +kernel
theorem d_Mo_primitive_167 : decode b_Mo_primitive 167 = .ok (.iastore, 1) := by decide +kernel
theorem d_Mo_primitive_168 : decode b_Mo_primitive 168 = .ok (.iinc 4 1, 3) := by decide +kernel
theorem d_Mo_primitive_171 : decode b_Mo_primitive 171 = .ok (.goto (-73), 3) := by decide +kernel
theorem d_Mo_primitive_174 : decode b_Mo_primitive 174 = .ok (.return_, 1) := by decide +kernel
theorem d_Mo_remainder_0 : decode b_Mo_remainder 0 = .ok (.aload_n 0, 1) := by decide +kernel
theorem d_Mo_remainder_1 : decode b_Mo_remainder 1 = .ok (.getfield 20, 3) := by decide +kernel
theorem d_Mo_remainder_4 : decode b_Mo_remainder 4 = .ok (.iload_n 1, 1) := by decide +kernel
theorem d_Mo_remainder_5 : decode b_Mo_remainder 5 = .ok (.iaload, 1) := by decide +kernel
theorem d_Mo_remainder_6 : decode b_Mo_remainder 6 = .ok (.aload_n 0, 1) := by decide +kernel
theorem d_Mo_remainder_7 : decode b_Mo_remainder 7 = .ok (.getfield 20, 3) := by decide +kernel
theorem d_Mo_remainder_10 : decode b_Mo_remainder 10 = .ok (.iload_n 2, 1) := by decide +kernel
theorem d_Mo_remainder_11 : decode b_Mo_remainder 11 = .ok (.iaload, 1) := by decide +kernel
theorem d_Mo_remainder_12 : decode b_Mo_remainder 12 = .ok (.if_icmp .lt 159, 3) := by decide +kernel
theorem d_Mo_remainder_15 : decode b_Mo_remainder 15 = .ok (.aload_n 0, 1) := by decide +kernel
theorem d_Mo_remainder_16 : decode b_Mo_remainder 16 = .ok (.getfield 20, 3) := by decide +kernel
theorem d_Mo_remainder_19 : decode b_Mo_remainder 19 = .ok (.iload_n 1, 1) := by decide +kernel
theorem d_Mo_remainder_20 : decode b_Mo_remainder 20 = .ok (.iaload, 1) := by decide +kernel
theorem d_Mo_remainder_21 : decode b_Mo_remainder 21 = .ok (.aload_n 0, 1) := by decide +kernel
theorem d_Mo_remainder_22 : decode b_Mo_remainder 22 = .ok (.getfield 20, 3) := by decide +kernel
theorem d_Mo_remainder_25 : decode b_Mo_remainder 25 = .ok (.iload_n 2, 1) := by decide +kernel
theorem d_Mo_remainder_26 : decode b_Mo_remainder 26 = .ok (.iaload, 1) := by decide +kernel
theorem d_Mo_remainder_27 : decode b_Mo_remainder 27 = .ok (.isub, 1) := by decide +kernel
theorem d_Mo_remainder_28 : decode b_Mo_remainder 28 = .ok (.istore_n 3, 1) := by decide +kernel
theorem d_Mo_remainder_29 : decode b_Mo_remainder 29 = .ok (.aload_n 0, 1) := by decide +kernel
theorem d_Mo_remainder_30 : decode b_Mo_remainder 30 = .ok (.bipush 101, 2) := by decide +kernel
theorem d_Mo_remainder_32 : decode b_Mo_remainder 32 = .ok (.bipush 9, 2) := by decide +kernel
theorem d_Mo_remainder_34 : decode b_Mo_remainder 34 = .ok (.iload_n 1, 1) := by decide +kernel
theorem d_Mo_remainder_35 : decode b_Mo_remainder 35 = .ok (.imul, 1) := by decide +kernel
theorem d_Mo_remainder_36 : decode b_Mo_remainder 36 = .ok (.aload_n 0, 1) := by decide +kernel
theorem d_Mo_remainder_37 : decode b_Mo_remainder 37 = .ok (.getfield 20, 3) := by decide +kernel
theorem d_Mo_remainder_40 : decode b_Mo_remainder 40 = .ok (.iload_n 1, 1) := by decide +kernel
theorem d_Mo_remainder_41 : decode b_Mo_remainder 41 = .ok (.iaload, 1) := by decide +kernel
theorem d_Mo_remainder_42 : decode b_Mo_remainder 42 = .ok (.iadd, 1) := by decide +kernel
theorem d_Mo_remainder_43 : decode b_Mo_remainder 43 = .ok (.invokevirtual 69, 3) := by decide +kernel
theorem d_Mo_remainder_46 : decode b_Mo_remainder 46 = .ok (.iconst 0, 1) := by decide +kernel
theorem d_Mo_remainder_47 : decode b_Mo_remainder 47 = .ok (.istore 4, 2) := by decide +kernel
theorem d_Mo_remainder_49 : decode b_Mo_remainder 49 = .ok (.iload 4, 2) := by decide +kernel
theorem d_Mo_remainder_51 : decode b_Mo_remainder 51 = .ok (.aload_n 0, 1) := by decide +kernel
theorem d_Mo_remainder_52 : decode b_Mo_remainder 52 = .ok (.getfield 20, 3) := by decide +kernel
theorem d_Mo_remainder_55 : decode b_Mo_remainder 55 = .ok (.iload_n 1, 1) := by decide +kernel
theorem d_Mo_remainder_56 : decode b_Mo_remainder 56 = .ok (.iaload, 1) := by decide +kernel
theorem d_Mo_remainder_57 : decode b_Mo_remainder 57 = .ok (.if_icmp .gt 38, 3) := by decide +kernel
theorem d_Mo_remainder_60 : decode b_Mo_remainder 60 = .ok (.aload_n 0, 1) := by decide +kernel
theorem d_Mo_remainder_61 : decode b_Mo_remainder 61 = .ok (.bipush 9, 2) := by decide +kernel
theorem d_Mo_remainder_63 : decode b_Mo_remainder 63 = .ok (.iload_n 1, 1) := by decide +kernel
theorem d_Mo_remainder_64 : decode b_Mo_remainder 64 = .ok (.imul, 1) := by decide +kernel
theorem d_Mo_remainder_65 : decode b_Mo_remainder 65 = .ok (.iload 4, 2) := by decide +kernel
theorem d_Mo_remainder_67 : decode b_Mo_remainder 67 = .ok (.iadd, 1) := by decide +kernel
theorem d_Mo_remainder_68 : decode b_Mo_remainder 68 = .ok (.bipush 9, 2) := by decide +kernel
theorem d_Mo_remainder_70 : decode b_Mo_remainder 70 = .ok (.iload_n 1, 1) := by decide +kernel
theorem d_Mo_remainder_71 : decode b_Mo_remainder 71 = .ok (.imul, 1) := by decide +kernel
theorem d_Mo_remainder_72 : decode b_Mo_remainder 72 = .ok (.iload 4, 2) := by decide +kernel
theorem d_Mo_remainder_74 : decode b_Mo_remainder 74 = .ok (.iadd, 1) := by decide +kernel
theorem d_Mo_remainder_75 : decode b_Mo_remainder 75 = .ok (.bipush 9, 2) := by decide +kernel
theorem d_Mo_remainder_77 : decode b_Mo_remainder 77 = .ok (.iload_n 2, 1) := by decide +kernel
theorem d_Mo_remainder_78 : decode b_Mo_remainder 78 = .ok (.imul, 1) := by decide +kernel
theorem d_Mo_remainder_79 : decode b_Mo_remainder 79 = .ok (.aload_n 0, 1) := by decide +kernel
theorem d_Mo_remainder_80 : decode b_Mo_remainder 80 = .ok (.getfield 20, 3) := by decide +kernel
theorem d_Mo_remainder_83 : decode b_Mo_remainder 83 = .ok (.iload_n 2, 1) := by decide +kernel
theorem d_Mo_remainder_84 : decode b_Mo_remainder 84 = .ok (.iaload, 1) := by decide +kernel
theorem d_Mo_remainder_85 : decode b_Mo_remainder 85 = .ok (.iadd, 1) := by decide +kernel
theorem d_Mo_remainder_86 : decode b_Mo_remainder 86 = .ok (.invokevirtual 76, 3) := by decide +kernel
theorem d_Mo_remainder_89 : decode b_Mo_remainder 89 = .ok (.iinc 4 1, 3) := by decide +kernel
theorem d_Mo_remainder_92 : decode b_Mo_remainder 92 = .ok (.goto (-43), 3) := by decide +kernel
theorem d_Mo_remainder_95 : decode b_Mo_remainder 95 = .ok (.iconst 0, 1) := by decide +kernel
theorem d_Mo_remainder_96 : decode b_Mo_remainder 96 = .ok (.istore 4, 2) := by decide +kernel
theorem d_Mo_remainder_98 : decode b_Mo_remainder 98 = .ok (.iload 4, 2) := by decide +kernel
theorem d_Mo_remainder_100 : decode b_Mo_remainder 100 = .ok (.aload_n 0, 1) := by decide +kernel
theorem d_Mo_remainder_101 : decode b_Mo_remainder 101 = .ok (.getfield 20, 3) := by decide +kernel
theorem d_Mo_remainder_104 : decode b_Mo_remainder 104 = .ok (.iload_n 2, 1) := by decide +kernel
theorem d_Mo_remainder_105 : decode b_Mo_remainder 105 = .ok (.iaload, 1) := by decide +kernel
theorem d_Mo_remainder_106 : decode b_Mo_remainder 106 = .ok (.if_icmp .gt 49, 3) := by decide +kernel
theorem d_Mo_remainder_109 : decode b_Mo_remainder 109 = .ok (.aload_n 0, 1) := by decide +kernel
theorem d_Mo_remainder_110 : decode b_Mo_remainder 110 = .ok (.bipush 102, 2) := by decide +kernel
theorem d_Mo_remainder_112 : decode b_Mo_remainder 112 = .ok (.bipush 9, 2) := by decide +kernel
theorem d_Mo_remainder_114 : decode b_Mo_remainder 114 = .ok (.iload_n 2, 1) := by decide +kernel
theorem d_Mo_remainder_115 : decode b_Mo_remainder 115 = .ok (.imul, 1) := by decide +kernel
theorem d_Mo_remainder_116 : decode b_Mo_remainder 116 = .ok (.iload 4, 2) := by decide +kernel
theorem d_Mo_remainder_118 : decode b_Mo_remainder 118 = .ok (.iadd, 1) := by decide +kernel
theorem d_Mo_remainder_119 : decode b_Mo_remainder 119 = .ok (.bipush 101, 2) := by decide +kernel
theorem d_Mo_remainder_121 : decode b_Mo_remainder 121 = .ok (.invokevirtual 76, 3) := by decide +kernel
theorem d_Mo_remainder_124 : decode b_Mo_remainder 124 = .ok (.aload_n 0, 1) := by decide +kernel
theorem d_Mo_remainder_125 : decode b_Mo_remainder 125 = .ok (.bipush 9, 2) := by decide +kernel
theorem d_Mo_remainder_127 : decode b_Mo_remainder 127 = .ok (.iload_n 1, 1) := by decide +kernel
theorem d_Mo_remainder_128 : decode b_Mo_remainder 128 = .ok (.imul, 1) := by decide +kernel
theorem d_Mo_remainder_129 : decode b_Mo_remainder 129 = .ok (.iload 4, 2) := by decide +kernel
theorem d_Mo_remainder_131 : decode b_Mo_remainder 131 = .ok (.iadd, 1) := by decide +kernel
theorem d_Mo_remainder_132 : decode b_Mo_remainder 132 = .ok (.iload_n 3, 1) := by decide +kernel
theorem d_Mo_remainder_133 : decode b_Mo_remainder 133 = .ok (.iadd, 1) := by decide +kernel
theorem d_Mo_remainder_134 : decode b_Mo_remainder 134 = .ok (.bipush 9, 2) := by decide +kernel
theorem d_Mo_remainder_136 : decode b_Mo_remainder 136 = .ok (.iload_n 1, 1) := by decide +kernel
theorem d_Mo_remainder_137 : decode b_Mo_remainder 137 = .ok (.imul, 1) := by decide +kernel
theorem d_Mo_remainder_138 : decode b_Mo_remainder 138 = .ok (.iload 4, 2) := by decide +kernel
theorem d_Mo_remainder_140 : decode b_Mo_remainder 140 = .ok (.iadd, 1) := by decide +kernel
theorem d_Mo_remainder_141 : decode b_Mo_remainder 141 = .ok (.iload_n 3, 1) := by decide +kernel
theorem d_Mo_remainder_142 : decode b_Mo_remainder 142 = .ok (.iadd, 1) := by decide +kernel
theorem d_Mo_remainder_143 : decode b_Mo_remainder 143 = .ok (.bipush 102, 2) := by decide +kernel
theorem d_Mo_remainder_145 : decode b_Mo_remainder 145 = .ok (.iconst (-1), 1) := by decide +kernel
theorem d_Mo_remainder_146 : decode b_Mo_remainder 146 = .ok (.invokevirtual 83, 3) := by decide +kernel
theorem d_Mo_remainder_149 : decode b_Mo_remainder 149 = .ok (.iinc 4 1, 3) := by decide +kernel
theorem d_Mo_remainder_152 : decode b_Mo_remainder 152 = .ok (.goto (-54), 3) := by decide +kernel
theorem d_Mo_remainder_155 : decode b_Mo_remainder 155 = .ok (.aload_n 0, 1) := by decide +kernel
theorem d_Mo_remainder_156 : decode b_Mo_remainder 156 = .ok (.iload_n 1, 1) := by decide +kernel
theorem d_Mo_remainder_157 : decode b_Mo_remainder 157 = .ok (.aload_n 0, 1) := by decide +kernel
theorem d_Mo_remainder_158 : decode b_Mo_remainder 158 = .ok (.getfield 20, 3) := by decide +kernel
theorem d_Mo_remainder_161 : decode b_Mo_remainder 161 = .ok (.iload_n 1, 1) := by decide +kernel
theorem d_Mo_remainder_162 : decode b_Mo_remainder 162 = .ok (.iaload, 1) := by decide +kernel
theorem d_Mo_remainder_163 : decode b_Mo_remainder 163 = .ok (.iconst 1, 1) := by decide +kernel
theorem d_Mo_remainder_164 : decode b_Mo_remainder 164 = .ok (.isub, 1) := by decide +kernel
theorem d_Mo_remainder_165 : decode b_Mo_remainder 165 = .ok (.invokevirtual 86, 3) := by decide +kernel
theorem d_Mo_remainder_168 : decode b_Mo_remainder 168 = .ok (.goto (-168), 3) := by decide +kernel
theorem d_Mo_remainder_171 : decode b_Mo_remainder 171 = .ok (.return_, 1) := by decide +kernel
theorem d_Mo_divisor_0 : decode b_Mo_divisor 0 = .ok (.aload_n 0, 1) := by decide +kernel
theorem d_Mo_divisor_1 : decode b_Mo_divisor 1 = .ok (.iconst 5, 1) := by decide +kernel
theorem d_Mo_divisor_2 : decode b_Mo_divisor 2 = .ok (.iload_n 2, 1) := by decide +kernel
theorem d_Mo_divisor_3 : decode b_Mo_divisor 3 = .ok (.invokevirtual 89, 3) := by decide +kernel
theorem d_Mo_divisor_6 : decode b_Mo_divisor 6 = .ok (.aload_n 0, 1) := by decide +kernel
theorem d_Mo_divisor_7 : decode b_Mo_divisor 7 = .ok (.bipush 6, 2) := by decide +kernel
theorem d_Mo_divisor_9 : decode b_Mo_divisor 9 = .ok (.iload_n 3, 1) := by decide +kernel
theorem d_Mo_divisor_10 : decode b_Mo_divisor 10 = .ok (.invokevirtual 89, 3) := by decide +kernel
theorem d_Mo_divisor_13 : decode b_Mo_divisor 13 = .ok (.aload_n 0, 1) := by decide +kernel
theorem d_Mo_divisor_14 : decode b_Mo_divisor 14 = .ok (.iconst 5, 1) := by decide +kernel
theorem d_Mo_divisor_15 : decode b_Mo_divisor 15 = .ok (.invokevirtual 92, 3) := by decide +kernel
theorem d_Mo_divisor_18 : decode b_Mo_divisor 18 = .ok (.aload_n 0, 1) := by decide +kernel
theorem d_Mo_divisor_19 : decode b_Mo_divisor 19 = .ok (.bipush 6, 2) := by decide +kernel
theorem d_Mo_divisor_21 : decode b_Mo_divisor 21 = .ok (.invokevirtual 92, 3) := by decide +kernel
theorem d_Mo_divisor_24 : decode b_Mo_divisor 24 = .ok (.aload_n 0, 1) := by decide +kernel
theorem d_Mo_divisor_25 : decode b_Mo_divisor 25 = .ok (.getfield 20, 3) := by decide +kernel
theorem d_Mo_divisor_28 : decode b_Mo_divisor 28 = .ok (.bipush 6, 2) := by decide +kernel
theorem d_Mo_divisor_30 : decode b_Mo_divisor 30 = .ok (.iaload, 1) := by decide +kernel
theorem d_Mo_divisor_31 : decode b_Mo_divisor 31 = .ok (.ifCond .lt 49, 3) := by decide +kernel
theorem d_Mo_divisor_34 : decode b_Mo_divisor 34 = .ok (.aload_n 0, 1) := by decide +kernel
theorem d_Mo_divisor_35 : decode b_Mo_divisor 35 = .ok (.iconst 5, 1) := by decide +kernel
theorem d_Mo_divisor_36 : decode b_Mo_divisor 36 = .ok (.bipush 6, 2) := by decide +kernel
theorem d_Mo_divisor_38 : decode b_Mo_divisor 38 = .ok (.invokevirtual 96, 3) := by decide +kernel
theorem d_Mo_divisor_41 : decode b_Mo_divisor 41 = .ok (.aload_n 0, 1) := by decide +kernel
theorem d_Mo_divisor_42 : decode b_Mo_divisor 42 = .ok (.getfield 20, 3) := by decide +kernel
theorem d_Mo_divisor_45 : decode b_Mo_divisor 45 = .ok (.iconst 5, 1) := by decide +kernel
theorem d_Mo_divisor_46 : decode b_Mo_divisor 46 = .ok (.iaload, 1) := by decide +kernel
theorem d_Mo_divisor_47 : decode b_Mo_divisor 47 = .ok (.ifCond .lt 8, 3) := by decide +kernel
theorem d_Mo_divisor_50 : decode b_Mo_divisor 50 = .ok (.aload_n 0, 1) := by decide +kernel
theorem d_Mo_divisor_51 : decode b_Mo_divisor 51 = .ok (.iconst 5, 1) := by decide +kernel
theorem d_Mo_divisor_52 : decode b_Mo_divisor 52 = .ok (.invokevirtual 92, 3) := by decide +kernel
theorem d_Mo_divisor_55 : decode b_Mo_divisor 55 = .ok (.aload_n 0, 1) := by decide +kernel
theorem d_Mo_divisor_56 : decode b_Mo_divisor 56 = .ok (.bipush 7, 2) := by decide +kernel
theorem d_Mo_divisor_58 : decode b_Mo_divisor 58 = .ok (.iconst 5, 1) := by decide +kernel
theorem d_Mo_divisor_59 : decode b_Mo_divisor 59 = .ok (.invokevirtual 89, 3) := by decide +kernel
theorem d_Mo_divisor_62 : decode b_Mo_divisor 62 = .ok (.aload_n 0, 1) := by decide +kernel
theorem d_Mo_divisor_63 : decode b_Mo_divisor 63 = .ok (.iconst 5, 1) := by decide +kernel
theorem d_Mo_divisor_64 : decode b_Mo_divisor 64 = .ok (.bipush 6, 2) := by decide +kernel
theorem d_Mo_divisor_66 : decode b_Mo_divisor 66 = .ok (.invokevirtual 89, 3) := by decide +kernel
theorem d_Mo_divisor_69 : decode b_Mo_divisor 69 = .ok (.aload_n 0, 1) := by decide +kernel
theorem d_Mo_divisor_70 : decode b_Mo_divisor 70 = .ok (.bipush 6, 2) := by decide +kernel
theorem d_Mo_divisor_72 : decode b_Mo_divisor 72 = .ok (.bipush 7, 2) := by decide +kernel
theorem d_Mo_divisor_74 : decode b_Mo_divisor 74 = .ok (.invokevirtual 89, 3) := by decide +kernel
theorem d_Mo_divisor_77 : decode b_Mo_divisor 77 = .ok (.goto (-53), 3) := by decide +kernel
theorem d_Mo_divisor_80 : decode b_Mo_divisor 80 = .ok (.aload_n 0, 1) := by decide +kernel
theorem d_Mo_divisor_81 : decode b_Mo_divisor 81 = .ok (.iload_n 1, 1) := by decide +kernel
theorem d_Mo_divisor_82 : decode b_Mo_divisor 82 = .ok (.iconst 5, 1) := by decide +kernel
theorem d_Mo_divisor_83 : decode b_Mo_divisor 83 = .ok (.invokevirtual 89, 3) := by decide +kernel
theorem d_Mo_divisor_86 : decode b_Mo_divisor 86 = .ok (.return_, 1) := by decide +kernel
theorem d_Mo_exactly_0 : decode b_Mo_exactly 0 = .ok (.aload_n 0, 1) := by decide +kernel
theorem d_Mo_exactly_1 : decode b_Mo_exactly 1 = .ok (.iconst 5, 1) := by decide +kernel
theorem d_Mo_exactly_2 : decode b_Mo_exactly 2 = .ok (.iload_n 2, 1) := by decide +kernel
theorem d_Mo_exactly_3 : decode b_Mo_exactly 3 = .ok (.invokevirtual 89, 3) := by decide +kernel
theorem d_Mo_exactly_6 : decode b_Mo_exactly 6 = .ok (.aload_n 0, 1) := by decide +kernel
theorem d_Mo_exactly_7 : decode b_Mo_exactly 7 = .ok (.getfield 20, 3) := by decide +kernel
theorem d_Mo_exactly_10 : decode b_Mo_exactly 10 = .ok (.iload_n 2, 1) := by decide +kernel
theorem d_Mo_exactly_11 : decode b_Mo_exactly 11 = .ok (.iaload, 1) := by decide +kernel
theorem d_Mo_exactly_12 : decode b_Mo_exactly 12 = .ok (.aload_n 0, 1) := by decide +kernel
theorem d_Mo_exactly_13 : decode b_Mo_exactly 13 = .ok (.getfield 20, 3) := by decide +kernel
theorem d_Mo_exactly_16 : decode b_Mo_exactly 16 = .ok (.iload_n 3, 1) := by decide +kernel
theorem d_Mo_exactly_17 : decode b_Mo_exactly 17 = .ok (.iaload, 1) := by decide +kernel
theorem d_Mo_exactly_18 : decode b_Mo_exactly 18 = .ok (.isub, 1) := by decide +kernel
theorem d_Mo_exactly_19 : decode b_Mo_exactly 19 = .ok (.istore 4, 2) := by decide +kernel
theorem d_Mo_exactly_21 : decode b_Mo_exactly 21 = .ok (.iload 4, 2) := by decide +kernel
theorem d_Mo_exactly_23 : decode b_Mo_exactly 23 = .ok (.istore 5, 2) := by decide +kernel
theorem d_Mo_exactly_25 : decode b_Mo_exactly 25 = .ok (.iload 5, 2) := by decide +kernel
theorem d_Mo_exactly_27 : decode b_Mo_exactly 27 = .ok (.ifCond .lt 185, 3) := by decide +kernel
theorem d_Mo_exactly_30 : decode b_Mo_exactly 30 = .ok (.iload 5, 2) := by decide +kernel
theorem d_Mo_exactly_32 : decode b_Mo_exactly 32 = .ok (.aload_n 0, 1) := by decide +kernel
theorem d_Mo_exactly_33 : decode b_Mo_exactly 33 = .ok (.getfield 20, 3) := by decide +kernel
theorem d_Mo_exactly_36 : decode b_Mo_exactly 36 = .ok (.iload_n 3, 1) := by decide +kernel
theorem d_Mo_exactly_37 : decode b_Mo_exactly 37 = .ok (.iaload, 1) := by decide +kernel
theorem d_Mo_exactly_38 : decode b_Mo_exactly 38 = .ok (.iadd, 1) := by decide +kernel
theorem d_Mo_exactly_39 : decode b_Mo_exactly 39 = .ok (.istore 6, 2) := by decide +kernel
theorem d_Mo_exactly_41 : decode b_Mo_exactly 41 = .ok (.aload_n 0, 1) := by decide +kernel
theorem d_Mo_exactly_42 : decode b_Mo_exactly 42 = .ok (.bipush 101, 2) := by decide +kernel
theorem d_Mo_exactly_44 : decode b_Mo_exactly 44 = .ok (.bipush 45, 2) := by decide +kernel
theorem d_Mo_exactly_46 : decode b_Mo_exactly 46 = .ok (.iload 6, 2) := by decide +kernel
theorem d_Mo_exactly_48 : decode b_Mo_exactly 48 = .ok (.iadd, 1) := by decide +kernel
theorem d_Mo_exactly_49 : decode b_Mo_exactly 49 = .ok (.invokevirtual 69, 3) := by decide +kernel
theorem d_Mo_exactly_52 : decode b_Mo_exactly 52 = .ok (.iconst 0, 1) := by decide +kernel
theorem d_Mo_exactly_53 : decode b_Mo_exactly 53 = .ok (.istore 7, 2) := by decide +kernel
theorem d_Mo_exactly_55 : decode b_Mo_exactly 55 = .ok (.iload 7, 2) := by decide +kernel
theorem d_Mo_exactly_57 : decode b_Mo_exactly 57 = .ok (.iload 6, 2) := by decide +kernel
theorem d_Mo_exactly_59 : decode b_Mo_exactly 59 = .ok (.if_icmp .ge 34, 3) := by decide +kernel
theorem d_Mo_exactly_62 : decode b_Mo_exactly 62 = .ok (.aload_n 0, 1) := by decide +kernel
theorem d_Mo_exactly_63 : decode b_Mo_exactly 63 = .ok (.bipush 45, 2) := by decide +kernel
theorem d_Mo_exactly_65 : decode b_Mo_exactly 65 = .ok (.iload 7, 2) := by decide +kernel
theorem d_Mo_exactly_67 : decode b_Mo_exactly 67 = .ok (.iadd, 1) := by decide +kernel
theorem d_Mo_exactly_68 : decode b_Mo_exactly 68 = .ok (.bipush 45, 2) := by decide +kernel
theorem d_Mo_exactly_70 : decode b_Mo_exactly 70 = .ok (.iload 7, 2) := by decide +kernel
theorem d_Mo_exactly_72 : decode b_Mo_exactly 72 = .ok (.iadd, 1) := by decide +kernel
theorem d_Mo_exactly_73 : decode b_Mo_exactly 73 = .ok (.bipush 9, 2) := by decide +kernel
theorem d_Mo_exactly_75 : decode b_Mo_exactly 75 = .ok (.iload_n 3, 1) := by decide +kernel
theorem d_Mo_exactly_76 : decode b_Mo_exactly 76 = .ok (.imul, 1) := by decide +kernel
theorem d_Mo_exactly_77 : decode b_Mo_exactly 77 = .ok (.aload_n 0, 1) := by decide +kernel
theorem d_Mo_exactly_78 : decode b_Mo_exactly 78 = .ok (.getfield 20, 3) := by decide +kernel
theorem d_Mo_exactly_81 : decode b_Mo_exactly 81 = .ok (.iload_n 3, 1) := by decide +kernel
theorem d_Mo_exactly_82 : decode b_Mo_exactly 82 = .ok (.iaload, 1) := by decide +kernel
theorem d_Mo_exactly_83 : decode b_Mo_exactly 83 = .ok (.iadd, 1) := by decide +kernel
theorem d_Mo_exactly_84 : decode b_Mo_exactly 84 = .ok (.invokevirtual 76, 3) := by decide +kernel
theorem d_Mo_exactly_87 : decode b_Mo_exactly 87 = .ok (.iinc 7 1, 3) := by decide +kernel
theorem d_Mo_exactly_90 : decode b_Mo_exactly 90 = .ok (.goto (-35), 3) := by decide +kernel
theorem d_Mo_exactly_93 : decode b_Mo_exactly 93 = .ok (.iload 5, 2) := by decide +kernel
theorem d_Mo_exactly_95 : decode b_Mo_exactly 95 = .ok (.iconst 1, 1) := by decide +kernel
theorem d_Mo_exactly_96 : decode b_Mo_exactly 96 = .ok (.iadd, 1) := by decide +kernel
theorem d_Mo_exactly_97 : decode b_Mo_exactly 97 = .ok (.istore 7, 2) := by decide +kernel
theorem d_Mo_exactly_99 : decode b_Mo_exactly 99 = .ok (.iload 7, 2) := by decide +kernel
theorem d_Mo_exactly_101 : decode b_Mo_exactly 101 = .ok (.iload 4, 2) := by decide +kernel
theorem d_Mo_exactly_103 : decode b_Mo_exactly 103 = .ok (.if_icmp .gt 34, 3) := by decide +kernel
theorem d_Mo_exactly_106 : decode b_Mo_exactly 106 = .ok (.aload_n 0, 1) := by decide +kernel
theorem d_Mo_exactly_107 : decode b_Mo_exactly 107 = .ok (.bipush 54, 2) := by decide +kernel
theorem d_Mo_exactly_109 : decode b_Mo_exactly 109 = .ok (.iload 7, 2) := by decide +kernel
theorem d_Mo_exactly_111 : decode b_Mo_exactly 111 = .ok (.iadd, 1) := by decide +kernel
theorem d_Mo_exactly_112 : decode b_Mo_exactly 112 = .ok (.bipush 54, 2) := by decide +kernel
theorem d_Mo_exactly_114 : decode b_Mo_exactly 114 = .ok (.iload 7, 2) := by decide +kernel
theorem d_Mo_exactly_116 : decode b_Mo_exactly 116 = .ok (.iadd, 1) := by decide +kernel
theorem d_Mo_exactly_117 : decode b_Mo_exactly 117 = .ok (.bipush 9, 2) := by decide +kernel
theorem d_Mo_exactly_119 : decode b_Mo_exactly 119 = .ok (.iload_n 3, 1) := by decide +kernel
theorem d_Mo_exactly_120 : decode b_Mo_exactly 120 = .ok (.imul, 1) := by decide +kernel
theorem d_Mo_exactly_121 : decode b_Mo_exactly 121 = .ok (.aload_n 0, 1) := by decide +kernel
theorem d_Mo_exactly_122 : decode b_Mo_exactly 122 = .ok (.getfield 20, 3) := by decide +kernel
theorem d_Mo_exactly_125 : decode b_Mo_exactly 125 = .ok (.iload_n 3, 1) := by decide +kernel
theorem d_Mo_exactly_126 : decode b_Mo_exactly 126 = .ok (.iaload, 1) := by decide +kernel
theorem d_Mo_exactly_127 : decode b_Mo_exactly 127 = .ok (.iadd, 1) := by decide +kernel
theorem d_Mo_exactly_128 : decode b_Mo_exactly 128 = .ok (.invokevirtual 76, 3) := by decide +kernel
theorem d_Mo_exactly_131 : decode b_Mo_exactly 131 = .ok (.iinc 7 1, 3) := by decide +kernel
theorem d_Mo_exactly_134 : decode b_Mo_exactly 134 = .ok (.goto (-35), 3) := by decide +kernel
theorem d_Mo_exactly_137 : decode b_Mo_exactly 137 = .ok (.aload_n 0, 1) := by decide +kernel
theorem d_Mo_exactly_138 : decode b_Mo_exactly 138 = .ok (.bipush 54, 2) := by decide +kernel
theorem d_Mo_exactly_140 : decode b_Mo_exactly 140 = .ok (.iload 5, 2) := by decide +kernel
theorem d_Mo_exactly_142 : decode b_Mo_exactly 142 = .ok (.iadd, 1) := by decide +kernel
theorem d_Mo_exactly_143 : decode b_Mo_exactly 143 = .ok (.bipush 101, 2) := by decide +kernel
theorem d_Mo_exactly_145 : decode b_Mo_exactly 145 = .ok (.invokevirtual 69, 3) := by decide +kernel
theorem d_Mo_exactly_148 : decode b_Mo_exactly 148 = .ok (.iconst 0, 1) := by decide +kernel
theorem d_Mo_exactly_149 : decode b_Mo_exactly 149 = .ok (.istore 7, 2) := by decide +kernel
theorem d_Mo_exactly_151 : decode b_Mo_exactly 151 = .ok (.iload 7, 2) := by decide +kernel
theorem d_Mo_exactly_153 : decode b_Mo_exactly 153 = .ok (.aload_n 0, 1) := by decide +kernel
theorem d_Mo_exactly_154 : decode b_Mo_exactly 154 = .ok (.getfield 20, 3) := by decide +kernel
theorem d_Mo_exactly_157 : decode b_Mo_exactly 157 = .ok (.iload_n 3, 1) := by decide +kernel
theorem d_Mo_exactly_158 : decode b_Mo_exactly 158 = .ok (.iaload, 1) := by decide +kernel
theorem d_Mo_exactly_159 : decode b_Mo_exactly 159 = .ok (.if_icmp .ge 47, 3) := by decide +kernel
theorem d_Mo_exactly_162 : decode b_Mo_exactly 162 = .ok (.aload_n 0, 1) := by decide +kernel
theorem d_Mo_exactly_163 : decode b_Mo_exactly 163 = .ok (.bipush 102, 2) := by decide +kernel
theorem d_Mo_exactly_165 : decode b_Mo_exactly 165 = .ok (.bipush 9, 2) := by decide +kernel
theorem d_Mo_exactly_167 : decode b_Mo_exactly 167 = .ok (.iload_n 3, 1) := by decide +kernel
theorem d_Mo_exactly_168 : decode b_Mo_exactly 168 = .ok (.imul, 1) := by decide +kernel
theorem d_Mo_exactly_169 : decode b_Mo_exactly 169 = .ok (.iload 7, 2) := by decide +kernel
theorem d_Mo_exactly_171 : decode b_Mo_exactly 171 = .ok (.iadd, 1) := by decide +kernel
theorem d_Mo_exactly_172 : decode b_Mo_exactly 172 = .ok (.bipush 101, 2) := by decide +kernel
theorem d_Mo_exactly_174 : decode b_Mo_exactly 174 = .ok (.invokevirtual 76, 3) := by decide +kernel
theorem d_Mo_exactly_177 : decode b_Mo_exactly 177 = .ok (.aload_n 0, 1) := by decide +kernel
theorem d_Mo_exactly_178 : decode b_Mo_exactly 178 = .ok (.bipush 45, 2) := by decide +kernel
theorem d_Mo_exactly_180 : decode b_Mo_exactly 180 = .ok (.iload 7, 2) := by decide +kernel
theorem d_Mo_exactly_182 : decode b_Mo_exactly 182 = .ok (.iadd, 1) := by decide +kernel
theorem d_Mo_exactly_183 : decode b_Mo_exactly 183 = .ok (.iload 5, 2) := by decide +kernel
theorem d_Mo_exactly_185 : decode b_Mo_exactly 185 = .ok (.iadd, 1) := by decide +kernel
theorem d_Mo_exactly_186 : decode b_Mo_exactly 186 = .ok (.bipush 45, 2) := by decide +kernel
theorem d_Mo_exactly_188 : decode b_Mo_exactly 188 = .ok (.iload 7, 2) := by decide +kernel
theorem d_Mo_exactly_190 : decode b_Mo_exactly 190 = .ok (.iadd, 1) := by decide +kernel
theorem d_Mo_exactly_191 : decode b_Mo_exactly 191 = .ok (.iload 5, 2) := by decide +kernel
theorem d_Mo_exactly_193 : decode b_Mo_exactly 193 = .ok (.iadd, 1) := by decide +kernel
theorem d_Mo_exactly_194 : decode b_Mo_exactly 194 = .ok (.bipush 102, 2) := by decide +kernel
theorem d_Mo_exactly_196 : decode b_Mo_exactly 196 = .ok (.iconst (-1), 1) := by decide +kernel
theorem d_Mo_exactly_197 : decode b_Mo_exactly 197 = .ok (.invokevirtual 83, 3) := by decide +kernel
theorem d_Mo_exactly_200 : decode b_Mo_exactly 200 = .ok (.iinc 7 1, 3) := by decide +kernel
theorem d_Mo_exactly_203 : decode b_Mo_exactly 203 = .ok (.goto (-52), 3) := by decide +kernel
theorem d_Mo_exactly_206 : decode b_Mo_exactly 206 = .ok (.iinc 5 (-1), 3) := by decide +kernel
theorem d_Mo_exactly_209 : decode b_Mo_exactly 209 = .ok (.goto (-184), 3) := by decide +kernel
theorem d_Mo_exactly_212 : decode b_Mo_exactly 212 = .ok (.aload_n 0, 1) := by decide +kernel
theorem d_Mo_exactly_213 : decode b_Mo_exactly 213 = .ok (.getfield 20, 3) := by decide +kernel
theorem d_Mo_exactly_216 : decode b_Mo_exactly 216 = .ok (.bipush 6, 2) := by decide +kernel
theorem d_Mo_exactly_218 : decode b_Mo_exactly 218 = .ok (.iload 4, 2) := by decide +kernel
theorem d_Mo_exactly_220 : decode b_Mo_exactly 220 = .ok (.iastore, 1) := by decide +kernel
theorem d_Mo_exactly_221 : decode b_Mo_exactly 221 = .ok (.aload_n 0, 1) := by decide +kernel
theorem d_Mo_exactly_222 : decode b_Mo_exactly 222 = .ok (.iload_n 1, 1) := by decide +kernel
theorem d_Mo_exactly_223 : decode b_Mo_exactly 223 = .ok (.bipush 6, 2) := by decide +kernel
theorem d_Mo_exactly_225 : decode b_Mo_exactly 225 = .ok (.invokevirtual 89, 3) := by decide +kernel
theorem d_Mo_exactly_228 : decode b_Mo_exactly 228 = .ok (.aload_n 0, 1) := by decide +kernel
theorem d_Mo_exactly_229 : decode b_Mo_exactly 229 = .ok (.iload_n 1, 1) := by decide +kernel
theorem d_Mo_exactly_230 : decode b_Mo_exactly 230 = .ok (.invokevirtual 92, 3) := by decide +kernel
theorem d_Mo_exactly_233 : decode b_Mo_exactly 233 = .ok (.return_, 1) := by decide +kernel
theorem d_Mo_part_0 : decode b_Mo_part 0 = .ok (.aload_n 0, 1) := by decide +kernel
theorem d_Mo_part_1 : decode b_Mo_part 1 = .ok (.bipush 7, 2) := by decide +kernel
theorem d_Mo_part_3 : decode b_Mo_part 3 = .ok (.iload_n 1, 1) := by decide +kernel
theorem d_Mo_part_4 : decode b_Mo_part 4 = .ok (.invokevirtual 99, 3) := by decide +kernel
theorem d_Mo_part_7 : decode b_Mo_part 7 = .ok (.aload_n 0, 1) := by decide +kernel
theorem d_Mo_part_8 : decode b_Mo_part 8 = .ok (.getfield 20, 3) := by decide +kernel
theorem d_Mo_part_11 : decode b_Mo_part 11 = .ok (.bipush 7, 2) := by decide +kernel
theorem d_Mo_part_13 : decode b_Mo_part 13 = .ok (.iaload, 1) := by decide +kernel
theorem d_Mo_part_14 : decode b_Mo_part 14 = .ok (.ifCond .ge 19, 3) := by decide +kernel
theorem d_Mo_part_17 : decode b_Mo_part 17 = .ok (.aload_n 0, 1) := by decide +kernel
theorem d_Mo_part_18 : decode b_Mo_part 18 = .ok (.iconst 2, 1) := by decide +kernel
theorem d_Mo_part_19 : decode b_Mo_part 19 = .ok (.iload_n 1, 1) := by decide +kernel
theorem d_Mo_part_20 : decode b_Mo_part 20 = .ok (.iadd, 1) := by decide +kernel
theorem d_Mo_part_21 : decode b_Mo_part 21 = .ok (.iload_n 1, 1) := by decide +kernel
theorem d_Mo_part_22 : decode b_Mo_part 22 = .ok (.invokevirtual 89, 3) := by decide +kernel
theorem d_Mo_part_25 : decode b_Mo_part 25 = .ok (.aload_n 0, 1) := by decide +kernel
theorem d_Mo_part_26 : decode b_Mo_part 26 = .ok (.iconst 2, 1) := by decide +kernel
theorem d_Mo_part_27 : decode b_Mo_part 27 = .ok (.iload_n 1, 1) := by decide +kernel
theorem d_Mo_part_28 : decode b_Mo_part 28 = .ok (.iadd, 1) := by decide +kernel
theorem d_Mo_part_29 : decode b_Mo_part 29 = .ok (.invokevirtual 92, 3) := by decide +kernel
theorem d_Mo_part_32 : decode b_Mo_part 32 = .ok (.return_, 1) := by decide +kernel
theorem d_Mo_part_33 : decode b_Mo_part 33 = .ok (.aload_n 0, 1) := by decide +kernel
theorem d_Mo_part_34 : decode b_Mo_part 34 = .ok (.iconst 4, 1) := by decide +kernel
theorem d_Mo_part_35 : decode b_Mo_part 35 = .ok (.bipush 7, 2) := by decide +kernel
theorem d_Mo_part_37 : decode b_Mo_part 37 = .ok (.invokevirtual 89, 3) := by decide +kernel
theorem d_Mo_part_40 : decode b_Mo_part 40 = .ok (.aload_n 0, 1) := by decide +kernel
theorem d_Mo_part_41 : decode b_Mo_part 41 = .ok (.iconst 4, 1) := by decide +kernel
theorem d_Mo_part_42 : decode b_Mo_part 42 = .ok (.iload_n 1, 1) := by decide +kernel
theorem d_Mo_part_43 : decode b_Mo_part 43 = .ok (.iconst 4, 1) := by decide +kernel
theorem d_Mo_part_44 : decode b_Mo_part 44 = .ok (.invokevirtual 102, 3) := by decide +kernel
theorem d_Mo_part_47 : decode b_Mo_part 47 = .ok (.aload_n 0, 1) := by decide +kernel
theorem d_Mo_part_48 : decode b_Mo_part 48 = .ok (.bipush 7, 2) := by decide +kernel
theorem d_Mo_part_50 : decode b_Mo_part 50 = .ok (.iconst 4, 1) := by decide +kernel
theorem d_Mo_part_51 : decode b_Mo_part 51 = .ok (.invokevirtual 89, 3) := by decide +kernel
theorem d_Mo_part_54 : decode b_Mo_part 54 = .ok (.aload_n 0, 1) := by decide +kernel
theorem d_Mo_part_55 : decode b_Mo_part 55 = .ok (.iconst 2, 1) := by decide +kernel
theorem d_Mo_part_56 : decode b_Mo_part 56 = .ok (.iload_n 1, 1) := by decide +kernel
theorem d_Mo_part_57 : decode b_Mo_part 57 = .ok (.iadd, 1) := by decide +kernel
theorem d_Mo_part_58 : decode b_Mo_part 58 = .ok (.iload_n 1, 1) := by decide +kernel
theorem d_Mo_part_59 : decode b_Mo_part 59 = .ok (.bipush 7, 2) := by decide +kernel
theorem d_Mo_part_61 : decode b_Mo_part 61 = .ok (.invokevirtual 105, 3) := by decide +kernel
theorem d_Mo_part_64 : decode b_Mo_part 64 = .ok (.return_, 1) := by decide +kernel
theorem d_Mo_signOf_0 : decode b_Mo_signOf 0 = .ok (.aload_n 0, 1) := by decide +kernel
theorem d_Mo_signOf_1 : decode b_Mo_signOf 1 = .ok (.getfield 20, 3) := by decide +kernel
theorem d_Mo_signOf_4 : decode b_Mo_signOf 4 = .ok (.iload_n 1, 1) := by decide +kernel
theorem d_Mo_signOf_5 : decode b_Mo_signOf 5 = .ok (.iaload, 1) := by decide +kernel
theorem d_Mo_signOf_6 : decode b_Mo_signOf 6 = .ok (.istore 4, 2) := by decide +kernel
theorem d_Mo_signOf_8 : decode b_Mo_signOf 8 = .ok (.iload 4, 2) := by decide +kernel
theorem d_Mo_signOf_10 : decode b_Mo_signOf 10 = .ok (.ifCond .ge 5, 3) := by decide +kernel
theorem d_Mo_signOf_13 : decode b_Mo_signOf 13 = .ok (.iconst 0, 1) := by decide +kernel
theorem d_Mo_signOf_14 : decode b_Mo_signOf 14 = .ok (.ireturn, 1) := by decide +kernel
theorem d_Mo_signOf_15 : decode b_Mo_signOf 15 = .ok (.aload_n 0, 1) := by decide +kernel
theorem d_Mo_signOf_16 : decode b_Mo_signOf 16 = .ok (.bipush 103, 2) := by decide +kernel
theorem d_Mo_signOf_18 : decode b_Mo_signOf 18 = .ok (.bipush 9, 2) := by decide +kernel
theorem d_Mo_signOf_20 : decode b_Mo_signOf 20 = .ok (.iload_n 1, 1) := by decide +kernel
theorem d_Mo_signOf_21 : decode b_Mo_signOf 21 = .ok (.imul, 1) := by decide +kernel
theorem d_Mo_signOf_22 : decode b_Mo_signOf 22 = .ok (.iload 4, 2) := by decide +kernel
theorem d_Mo_signOf_24 : decode b_Mo_signOf 24 = .ok (.iadd, 1) := by decide +kernel
theorem d_Mo_signOf_25 : decode b_Mo_signOf 25 = .ok (.invokevirtual 69, 3) := by decide +kernel
theorem d_Mo_signOf_28 : decode b_Mo_signOf 28 = .ok (.iload 4, 2) := by decide +kernel
theorem d_Mo_signOf_30 : decode b_Mo_signOf 30 = .ok (.iconst 1, 1) := by decide +kernel
theorem d_Mo_signOf_31 : decode b_Mo_signOf 31 = .ok (.isub, 1) := by decide +kernel
theorem d_Mo_signOf_32 : decode b_Mo_signOf 32 = .ok (.istore 5, 2) := by decide +kernel
theorem d_Mo_signOf_34 : decode b_Mo_signOf 34 = .ok (.iload 5, 2) := by decide +kernel
theorem d_Mo_signOf_36 : decode b_Mo_signOf 36 = .ok (.ifCond .lt 49, 3) := by decide +kernel
theorem d_Mo_signOf_39 : decode b_Mo_signOf 39 = .ok (.aload_n 0, 1) := by decide +kernel
theorem d_Mo_signOf_40 : decode b_Mo_signOf 40 = .ok (.bipush 103, 2) := by decide +kernel
theorem d_Mo_signOf_42 : decode b_Mo_signOf 42 = .ok (.bipush 103, 2) := by decide +kernel
theorem d_Mo_signOf_44 : decode b_Mo_signOf 44 = .ok (.iload_n 2, 1) := by decide +kernel
theorem d_Mo_signOf_45 : decode b_Mo_signOf 45 = .ok (.invokevirtual 76, 3) := by decide +kernel
theorem d_Mo_signOf_48 : decode b_Mo_signOf 48 = .ok (.aload_n 0, 1) := by decide +kernel
theorem d_Mo_signOf_49 : decode b_Mo_signOf 49 = .ok (.bipush 104, 2) := by decide +kernel
theorem d_Mo_signOf_51 : decode b_Mo_signOf 51 = .ok (.bipush 9, 2) := by decide +kernel
theorem d_Mo_signOf_53 : decode b_Mo_signOf 53 = .ok (.iload_n 1, 1) := by decide +kernel
theorem d_Mo_signOf_54 : decode b_Mo_signOf 54 = .ok (.imul, 1) := by decide +kernel
theorem d_Mo_signOf_55 : decode b_Mo_signOf 55 = .ok (.iload 5, 2) := by decide +kernel
theorem d_Mo_signOf_57 : decode b_Mo_signOf 57 = .ok (.iadd, 1) := by decide +kernel
theorem d_Mo_signOf_58 : decode b_Mo_signOf 58 = .ok (.iload_n 3, 1) := by decide +kernel
theorem d_Mo_signOf_59 : decode b_Mo_signOf 59 = .ok (.iload 4, 2) := by decide +kernel
theorem d_Mo_signOf_61 : decode b_Mo_signOf 61 = .ok (.iload 5, 2) := by decide +kernel
theorem d_Mo_signOf_63 : decode b_Mo_signOf 63 = .ok (.isub, 1) := by decide +kernel
theorem d_Mo_signOf_64 : decode b_Mo_signOf 64 = .ok (.imul, 1) := by decide +kernel
theorem d_Mo_signOf_65 : decode b_Mo_signOf 65 = .ok (.invokevirtual 108, 3) := by decide +kernel
theorem d_Mo_signOf_68 : decode b_Mo_signOf 68 = .ok (.aload_n 0, 1) := by decide +kernel
theorem d_Mo_signOf_69 : decode b_Mo_signOf 69 = .ok (.bipush 103, 2) := by decide +kernel
theorem d_Mo_signOf_71 : decode b_Mo_signOf 71 = .ok (.bipush 103, 2) := by decide +kernel
theorem d_Mo_signOf_73 : decode b_Mo_signOf 73 = .ok (.bipush 104, 2) := by decide +kernel
theorem d_Mo_signOf_75 : decode b_Mo_signOf 75 = .ok (.iconst 1, 1) := by decide +kernel
theorem d_Mo_signOf_76 : decode b_Mo_signOf 76 = .ok (.invokevirtual 83, 3) := by decide +kernel
theorem d_Mo_signOf_79 : decode b_Mo_signOf 79 = .ok (.iinc 5 (-1), 3) := by decide +kernel
theorem d_Mo_signOf_82 : decode b_Mo_signOf 82 = .ok (.goto (-48), 3) := by decide +kernel
theorem d_Mo_signOf_85 : decode b_Mo_signOf 85 = .ok (.aload_n 0, 1) := by decide +kernel
theorem d_Mo_signOf_86 : decode b_Mo_signOf 86 = .ok (.getfield 17, 3) := by decide +kernel
theorem d_Mo_signOf_89 : decode b_Mo_signOf 89 = .ok (.bipush 103, 2) := by decide +kernel
theorem d_Mo_signOf_91 : decode b_Mo_signOf 91 = .ok (.iaload, 1) := by decide +kernel
theorem d_Mo_signOf_92 : decode b_Mo_signOf 92 = .ok (.ireturn, 1) := by decide +kernel
theorem d_Mo_lower_0 : decode b_Mo_lower 0 = .ok (.aload_n 0, 1) := by decide +kernel
theorem d_Mo_lower_1 : decode b_Mo_lower 1 = .ok (.bipush 105, 2) := by decide +kernel
theorem d_Mo_lower_3 : decode b_Mo_lower 3 = .ok (.lconst 1, 1) := by decide +kernel
theorem d_Mo_lower_4 : decode b_Mo_lower 4 = .ok (.invokevirtual 72, 3) := by decide +kernel
theorem d_Mo_lower_7 : decode b_Mo_lower 7 = .ok (.iload_n 3, 1) := by decide +kernel
theorem d_Mo_lower_8 : decode b_Mo_lower 8 = .ok (.ifCond .ne 21, 3) := by decide +kernel
theorem d_Mo_lower_11 : decode b_Mo_lower 11 = .ok (.aload_n 0, 1) := by decide +kernel
theorem d_Mo_lower_12 : decode b_Mo_lower 12 = .ok (.iload_n 1, 1) := by decide +kernel
theorem d_Mo_lower_13 : decode b_Mo_lower 13 = .ok (.bipush 105, 2) := by decide +kernel
theorem d_Mo_lower_15 : decode b_Mo_lower 15 = .ok (.bipush 43, 2) := by decide +kernel
theorem d_Mo_lower_17 : decode b_Mo_lower 17 = .ok (.invokevirtual 108, 3) := by decide +kernel
theorem d_Mo_lower_20 : decode b_Mo_lower 20 = .ok (.aload_n 0, 1) := by decide +kernel
theorem d_Mo_lower_21 : decode b_Mo_lower 21 = .ok (.getfield 17, 3) := by decide +kernel
theorem d_Mo_lower_24 : decode b_Mo_lower 24 = .ok (.iload_n 1, 1) := by decide +kernel
theorem d_Mo_lower_25 : decode b_Mo_lower 25 = .ok (.iconst (-1), 1) := by decide +kernel
theorem d_Mo_lower_26 : decode b_Mo_lower 26 = .ok (.iastore, 1) := by decide +kernel
theorem d_Mo_lower_27 : decode b_Mo_lower 27 = .ok (.iconst 0, 1) := by decide +kernel
theorem d_Mo_lower_28 : decode b_Mo_lower 28 = .ok (.ireturn, 1) := by decide +kernel
theorem d_Mo_lower_29 : decode b_Mo_lower 29 = .ok (.aload_n 0, 1) := by decide +kernel
theorem d_Mo_lower_30 : decode b_Mo_lower 30 = .ok (.bipush 105, 2) := by decide +kernel
theorem d_Mo_lower_32 : decode b_Mo_lower 32 = .ok (.bipush 105, 2) := by decide +kernel
theorem d_Mo_lower_34 : decode b_Mo_lower 34 = .ok (.iload_n 3, 1) := by decide +kernel
theorem d_Mo_lower_35 : decode b_Mo_lower 35 = .ok (.iconst 1, 1) := by decide +kernel
theorem d_Mo_lower_36 : decode b_Mo_lower 36 = .ok (.isub, 1) := by decide +kernel
theorem d_Mo_lower_37 : decode b_Mo_lower 37 = .ok (.invokevirtual 108, 3) := by decide +kernel
theorem d_Mo_lower_40 : decode b_Mo_lower 40 = .ok (.aload_n 0, 1) := by decide +kernel
theorem d_Mo_lower_41 : decode b_Mo_lower 41 = .ok (.iload_n 1, 1) := by decide +kernel
theorem d_Mo_lower_42 : decode b_Mo_lower 42 = .ok (.iload_n 2, 1) := by decide +kernel
theorem d_Mo_lower_43 : decode b_Mo_lower 43 = .ok (.bipush 105, 2) := by decide +kernel
theorem d_Mo_lower_45 : decode b_Mo_lower 45 = .ok (.iconst (-1), 1) := by decide +kernel
theorem d_Mo_lower_46 : decode b_Mo_lower 46 = .ok (.invokevirtual 83, 3) := by decide +kernel
theorem d_Mo_lower_49 : decode b_Mo_lower 49 = .ok (.iload_n 3, 1) := by decide +kernel
theorem d_Mo_lower_50 : decode b_Mo_lower 50 = .ok (.bipush 44, 2) := by decide +kernel
theorem d_Mo_lower_52 : decode b_Mo_lower 52 = .ok (.if_icmp .ge 13, 3) := by decide +kernel
theorem d_Mo_lower_55 : decode b_Mo_lower 55 = .ok (.aload_n 0, 1) := by decide +kernel
theorem d_Mo_lower_56 : decode b_Mo_lower 56 = .ok (.iload_n 1, 1) := by decide +kernel
theorem d_Mo_lower_57 : decode b_Mo_lower 57 = .ok (.iload_n 1, 1) := by decide +kernel
theorem d_Mo_lower_58 : decode b_Mo_lower 58 = .ok (.bipush 44, 2) := by decide +kernel
theorem d_Mo_lower_60 : decode b_Mo_lower 60 = .ok (.iload_n 3, 1) := by decide +kernel
theorem d_Mo_lower_61 : decode b_Mo_lower 61 = .ok (.isub, 1) := by decide +kernel
theorem d_Mo_lower_62 : decode b_Mo_lower 62 = .ok (.invokevirtual 108, 3) := by decide +kernel
theorem d_Mo_lower_65 : decode b_Mo_lower 65 = .ok (.iload_n 3, 1) := by decide +kernel
theorem d_Mo_lower_66 : decode b_Mo_lower 66 = .ok (.bipush 44, 2) := by decide +kernel
theorem d_Mo_lower_68 : decode b_Mo_lower 68 = .ok (.if_icmp .le 10, 3) := by decide +kernel
theorem d_Mo_lower_71 : decode b_Mo_lower 71 = .ok (.iload_n 3, 1) := by decide +kernel
theorem d_Mo_lower_72 : decode b_Mo_lower 72 = .ok (.bipush 44, 2) := by decide +kernel
theorem d_Mo_lower_74 : decode b_Mo_lower 74 = .ok (.isub, 1) := by decide +kernel
theorem d_Mo_lower_75 : decode b_Mo_lower 75 = .ok (.goto 4, 3) := by decide +kernel
theorem d_Mo_lower_78 : decode b_Mo_lower 78 = .ok (.iconst 0, 1) := by decide +kernel
theorem d_Mo_lower_79 : decode b_Mo_lower 79 = .ok (.ireturn, 1) := by decide +kernel
theorem d_Mo_changes_0 : decode b_Mo_changes 0 = .ok (.aload_n 0, 1) := by decide +kernel
theorem d_Mo_changes_1 : decode b_Mo_changes 1 = .ok (.getfield 20, 3) := by decide +kernel
theorem d_Mo_changes_4 : decode b_Mo_changes 4 = .ok (.iload_n 1, 1) := by decide +kernel
theorem d_Mo_changes_5 : decode b_Mo_changes 5 = .ok (.iaload, 1) := by decide +kernel
theorem d_Mo_changes_6 : decode b_Mo_changes 6 = .ok (.istore 4, 2) := by decide +kernel
theorem d_Mo_changes_8 : decode b_Mo_changes 8 = .ok (.aload_n 0, 1) := by decide +kernel
theorem d_Mo_changes_9 : decode b_Mo_changes 9 = .ok (.bipush 106, 2) := by decide +kernel
theorem d_Mo_changes_11 : decode b_Mo_changes 11 = .ok (.iload_n 2, 1) := by decide +kernel
theorem d_Mo_changes_12 : decode b_Mo_changes 12 = .ok (.iload_n 3, 1) := by decide +kernel
theorem d_Mo_changes_13 : decode b_Mo_changes 13 = .ok (.invokevirtual 111, 3) := by decide +kernel
theorem d_Mo_changes_16 : decode b_Mo_changes 16 = .ok (.istore 5, 2) := by decide +kernel
theorem d_Mo_changes_18 : decode b_Mo_changes 18 = .ok (.iload_n 3, 1) := by decide +kernel
theorem d_Mo_changes_19 : decode b_Mo_changes 19 = .ok (.bipush 44, 2) := by decide +kernel
theorem d_Mo_changes_21 : decode b_Mo_changes 21 = .ok (.if_icmp .ge 10, 3) := by decide +kernel
theorem d_Mo_changes_24 : decode b_Mo_changes 24 = .ok (.bipush 44, 2) := by decide +kernel
theorem d_Mo_changes_26 : decode b_Mo_changes 26 = .ok (.iload_n 3, 1) := by decide +kernel
theorem d_Mo_changes_27 : decode b_Mo_changes 27 = .ok (.isub, 1) := by decide +kernel
theorem d_Mo_changes_28 : decode b_Mo_changes 28 = .ok (.goto 4, 3) := by decide +kernel
theorem d_Mo_changes_31 : decode b_Mo_changes 31 = .ok (.iconst 0, 1) := by decide +kernel
theorem d_Mo_changes_32 : decode b_Mo_changes 32 = .ok (.istore 6, 2) := by decide +kernel
theorem d_Mo_changes_34 : decode b_Mo_changes 34 = .ok (.aload_n 0, 1) := by decide +kernel
theorem d_Mo_changes_35 : decode b_Mo_changes 35 = .ok (.bipush 116, 2) := by decide +kernel
theorem d_Mo_changes_37 : decode b_Mo_changes 37 = .ok (.bipush 9, 2) := by decide +kernel
theorem d_Mo_changes_39 : decode b_Mo_changes 39 = .ok (.iload_n 1, 1) := by decide +kernel
theorem d_Mo_changes_40 : decode b_Mo_changes 40 = .ok (.imul, 1) := by decide +kernel
theorem d_Mo_changes_41 : decode b_Mo_changes 41 = .ok (.iload 4, 2) := by decide +kernel
theorem d_Mo_changes_43 : decode b_Mo_changes 43 = .ok (.iadd, 1) := by decide +kernel
theorem d_Mo_changes_44 : decode b_Mo_changes 44 = .ok (.invokevirtual 69, 3) := by decide +kernel
theorem d_Mo_changes_47 : decode b_Mo_changes 47 = .ok (.iconst 0, 1) := by decide +kernel
theorem d_Mo_changes_48 : decode b_Mo_changes 48 = .ok (.istore 7, 2) := by decide +kernel
theorem d_Mo_changes_50 : decode b_Mo_changes 50 = .ok (.iload 4, 2) := by decide +kernel
theorem d_Mo_changes_52 : decode b_Mo_changes 52 = .ok (.iconst 1, 1) := by decide +kernel
theorem d_Mo_changes_53 : decode b_Mo_changes 53 = .ok (.isub, 1) := by decide +kernel
theorem d_Mo_changes_54 : decode b_Mo_changes 54 = .ok (.istore 8, 2) := by decide +kernel
theorem d_Mo_changes_56 : decode b_Mo_changes 56 = .ok (.iload 8, 2) := by decide +kernel
theorem d_Mo_changes_58 : decode b_Mo_changes 58 = .ok (.ifCond .lt 131, 3) := by decide +kernel
theorem d_Mo_changes_61 : decode b_Mo_changes 61 = .ok (.aload_n 0, 1) := by decide +kernel
theorem d_Mo_changes_62 : decode b_Mo_changes 62 = .ok (.bipush 117, 2) := by decide +kernel
theorem d_Mo_changes_64 : decode b_Mo_changes 64 = .ok (.iload 7, 2) := by decide +kernel
theorem d_Mo_changes_66 : decode b_Mo_changes 66 = .ok (.iadd, 1) := by decide +kernel
theorem d_Mo_changes_67 : decode b_Mo_changes 67 = .ok (.bipush 116, 2) := by decide +kernel
theorem d_Mo_changes_69 : decode b_Mo_changes 69 = .ok (.iload 7, 2) := by decide +kernel
theorem d_Mo_changes_71 : decode b_Mo_changes 71 = .ok (.iadd, 1) := by decide +kernel
theorem d_Mo_changes_72 : decode b_Mo_changes 72 = .ok (.iload 6, 2) := by decide +kernel
theorem d_Mo_changes_74 : decode b_Mo_changes 74 = .ok (.invokevirtual 108, 3) := by decide +kernel
theorem d_Mo_changes_77 : decode b_Mo_changes 77 = .ok (.iload 7, 2) := by decide +kernel
theorem d_Mo_changes_79 : decode b_Mo_changes 79 = .ok (.istore 9, 2) := by decide +kernel
theorem d_Mo_changes_81 : decode b_Mo_changes 81 = .ok (.iload 9, 2) := by decide +kernel
theorem d_Mo_changes_83 : decode b_Mo_changes 83 = .ok (.ifCond .lt 65, 3) := by decide +kernel
theorem d_Mo_changes_86 : decode b_Mo_changes 86 = .ok (.aload_n 0, 1) := by decide +kernel
theorem d_Mo_changes_87 : decode b_Mo_changes 87 = .ok (.bipush 107, 2) := by decide +kernel
theorem d_Mo_changes_89 : decode b_Mo_changes 89 = .ok (.bipush 116, 2) := by decide +kernel
theorem d_Mo_changes_91 : decode b_Mo_changes 91 = .ok (.iload 9, 2) := by decide +kernel
theorem d_Mo_changes_93 : decode b_Mo_changes 93 = .ok (.iadd, 1) := by decide +kernel
theorem d_Mo_changes_94 : decode b_Mo_changes 94 = .ok (.bipush 106, 2) := by decide +kernel
theorem d_Mo_changes_96 : decode b_Mo_changes 96 = .ok (.invokevirtual 76, 3) := by decide +kernel
theorem d_Mo_changes_99 : decode b_Mo_changes 99 = .ok (.iload 9, 2) := by decide +kernel
theorem d_Mo_changes_101 : decode b_Mo_changes 101 = .ok (.ifCond .le 33, 3) := by decide +kernel
theorem d_Mo_changes_104 : decode b_Mo_changes 104 = .ok (.aload_n 0, 1) := by decide +kernel
theorem d_Mo_changes_105 : decode b_Mo_changes 105 = .ok (.bipush 108, 2) := by decide +kernel
theorem d_Mo_changes_107 : decode b_Mo_changes 107 = .ok (.bipush 115, 2) := by decide +kernel
theorem d_Mo_changes_109 : decode b_Mo_changes 109 = .ok (.iload 9, 2) := by decide +kernel
theorem d_Mo_changes_111 : decode b_Mo_changes 111 = .ok (.iadd, 1) := by decide +kernel
theorem d_Mo_changes_112 : decode b_Mo_changes 112 = .ok (.iload 6, 2) := by decide +kernel
theorem d_Mo_changes_114 : decode b_Mo_changes 114 = .ok (.invokevirtual 108, 3) := by decide +kernel
theorem d_Mo_changes_117 : decode b_Mo_changes 117 = .ok (.aload_n 0, 1) := by decide +kernel
theorem d_Mo_changes_118 : decode b_Mo_changes 118 = .ok (.bipush 116, 2) := by decide +kernel
theorem d_Mo_changes_120 : decode b_Mo_changes 120 = .ok (.iload 9, 2) := by decide +kernel
theorem d_Mo_changes_122 : decode b_Mo_changes 122 = .ok (.iadd, 1) := by decide +kernel
theorem d_Mo_changes_123 : decode b_Mo_changes 123 = .ok (.bipush 107, 2) := by decide +kernel
theorem d_Mo_changes_125 : decode b_Mo_changes 125 = .ok (.bipush 108, 2) := by decide +kernel
theorem d_Mo_changes_127 : decode b_Mo_changes 127 = .ok (.iconst 1, 1) := by decide +kernel
theorem d_Mo_changes_128 : decode b_Mo_changes 128 = .ok (.invokevirtual 83, 3) := by decide +kernel
theorem d_Mo_changes_131 : decode b_Mo_changes 131 = .ok (.goto 11, 3) := by decide +kernel
theorem d_Mo_changes_134 : decode b_Mo_changes 134 = .ok (.aload_n 0, 1) := by decide +kernel
theorem d_Mo_changes_135 : decode b_Mo_changes 135 = .ok (.bipush 116, 2) := by decide +kernel
theorem d_Mo_changes_137 : decode b_Mo_changes 137 = .ok (.bipush 107, 2) := by decide +kernel
theorem d_Mo_changes_139 : decode b_Mo_changes 139 = .ok (.invokevirtual 69, 3) := by decide +kernel
theorem d_Mo_changes_142 : decode b_Mo_changes 142 = .ok (.iinc 9 (-1), 3) := by decide +kernel
theorem d_Mo_changes_145 : decode b_Mo_changes 145 = .ok (.goto (-64), 3) := by decide +kernel
theorem d_Mo_changes_148 : decode b_Mo_changes 148 = .ok (.iinc 7 1, 3) := by decide +kernel
theorem d_Mo_changes_151 : decode b_Mo_changes 151 = .ok (.aload_n 0, 1) := by decide +kernel
theorem d_Mo_changes_152 : decode b_Mo_changes 152 = .ok (.bipush 108, 2) := by decide +kernel
theorem d_Mo_changes_154 : decode b_Mo_changes 154 = .ok (.bipush 9, 2) := by decide +kernel
theorem d_Mo_changes_156 : decode b_Mo_changes 156 = .ok (.iload_n 1, 1) := by decide +kernel
theorem d_Mo_changes_157 : decode b_Mo_changes 157 = .ok (.imul, 1) := by decide +kernel
theorem d_Mo_changes_158 : decode b_Mo_changes 158 = .ok (.iload 8, 2) := by decide +kernel
theorem d_Mo_changes_160 : decode b_Mo_changes 160 = .ok (.iadd, 1) := by decide +kernel
theorem d_Mo_changes_161 : decode b_Mo_changes 161 = .ok (.iload 5, 2) := by decide +kernel
theorem d_Mo_changes_163 : decode b_Mo_changes 163 = .ok (.iload 4, 2) := by decide +kernel
theorem d_Mo_changes_165 : decode b_Mo_changes 165 = .ok (.iload 8, 2) := by decide +kernel
theorem d_Mo_changes_167 : decode b_Mo_changes 167 = .ok (.isub, 1) := by decide +kernel
theorem d_Mo_changes_168 : decode b_Mo_changes 168 = .ok (.imul, 1) := by decide +kernel
theorem d_Mo_changes_169 : decode b_Mo_changes 169 = .ok (.invokevirtual 108, 3) := by decide +kernel
theorem d_Mo_changes_172 : decode b_Mo_changes 172 = .ok (.aload_n 0, 1) := by decide +kernel
theorem d_Mo_changes_173 : decode b_Mo_changes 173 = .ok (.bipush 116, 2) := by decide +kernel
theorem d_Mo_changes_175 : decode b_Mo_changes 175 = .ok (.bipush 116, 2) := by decide +kernel
theorem d_Mo_changes_177 : decode b_Mo_changes 177 = .ok (.bipush 108, 2) := by decide +kernel
theorem d_Mo_changes_179 : decode b_Mo_changes 179 = .ok (.iconst 1, 1) := by decide +kernel
theorem d_Mo_changes_180 : decode b_Mo_changes 180 = .ok (.invokevirtual 83, 3) := by decide +kernel
theorem d_Mo_changes_183 : decode b_Mo_changes 183 = .ok (.iinc 8 (-1), 3) := by decide +kernel
theorem d_Mo_changes_186 : decode b_Mo_changes 186 = .ok (.goto (-130), 3) := by decide +kernel
theorem d_Mo_changes_189 : decode b_Mo_changes 189 = .ok (.iconst 0, 1) := by decide +kernel
theorem d_Mo_changes_190 : decode b_Mo_changes 190 = .ok (.istore 8, 2) := by decide +kernel
theorem d_Mo_changes_192 : decode b_Mo_changes 192 = .ok (.iload 8, 2) := by decide +kernel
theorem d_Mo_changes_194 : decode b_Mo_changes 194 = .ok (.iload 4, 2) := by decide +kernel
theorem d_Mo_changes_196 : decode b_Mo_changes 196 = .ok (.if_icmp .ge 48, 3) := by decide +kernel
theorem d_Mo_changes_199 : decode b_Mo_changes 199 = .ok (.iconst 1, 1) := by decide +kernel
theorem d_Mo_changes_200 : decode b_Mo_changes 200 = .ok (.istore 9, 2) := by decide +kernel
theorem d_Mo_changes_202 : decode b_Mo_changes 202 = .ok (.iload 9, 2) := by decide +kernel
theorem d_Mo_changes_204 : decode b_Mo_changes 204 = .ok (.iload 4, 2) := by decide +kernel
theorem d_Mo_changes_206 : decode b_Mo_changes 206 = .ok (.iload 8, 2) := by decide +kernel
theorem d_Mo_changes_208 : decode b_Mo_changes 208 = .ok (.isub, 1) := by decide +kernel
theorem d_Mo_changes_209 : decode b_Mo_changes 209 = .ok (.if_icmp .gt 29, 3) := by decide +kernel
theorem d_Mo_changes_212 : decode b_Mo_changes 212 = .ok (.aload_n 0, 1) := by decide +kernel
theorem d_Mo_changes_213 : decode b_Mo_changes 213 = .ok (.bipush 116, 2) := by decide +kernel
theorem d_Mo_changes_215 : decode b_Mo_changes 215 = .ok (.iload 9, 2) := by decide +kernel
theorem d_Mo_changes_217 : decode b_Mo_changes 217 = .ok (.iadd, 1) := by decide +kernel
theorem d_Mo_changes_218 : decode b_Mo_changes 218 = .ok (.bipush 116, 2) := by decide +kernel
theorem d_Mo_changes_220 : decode b_Mo_changes 220 = .ok (.iload 9, 2) := by decide +kernel
theorem d_Mo_changes_222 : decode b_Mo_changes 222 = .ok (.iadd, 1) := by decide +kernel
theorem d_Mo_changes_223 : decode b_Mo_changes 223 = .ok (.bipush 115, 2) := by decide +kernel
theorem d_Mo_changes_225 : decode b_Mo_changes 225 = .ok (.iload 9, 2) := by decide +kernel
theorem d_Mo_changes_227 : decode b_Mo_changes 227 = .ok (.iadd, 1) := by decide +kernel
theorem d_Mo_changes_228 : decode b_Mo_changes 228 = .ok (.iconst 1, 1) := by decide +kernel
theorem d_Mo_changes_229 : decode b_Mo_changes 229 = .ok (.invokevirtual 83, 3) := by decide +kernel
theorem d_Mo_changes_232 : decode b_Mo_changes 232 = .ok (.iinc 9 1, 3) := by decide +kernel
theorem d_Mo_changes_235 : decode b_Mo_changes 235 = .ok (.goto (-33), 3) := by decide +kernel
theorem d_Mo_changes_238 : decode b_Mo_changes 238 = .ok (.iinc 8 1, 3) := by decide +kernel
theorem d_Mo_changes_241 : decode b_Mo_changes 241 = .ok (.goto (-49), 3) := by decide +kernel
theorem d_Mo_changes_244 : decode b_Mo_changes 244 = .ok (.iconst 0, 1) := by decide +kernel
theorem d_Mo_changes_245 : decode b_Mo_changes 245 = .ok (.istore 8, 2) := by decide +kernel
theorem d_Mo_changes_247 : decode b_Mo_changes 247 = .ok (.iconst 0, 1) := by decide +kernel
theorem d_Mo_changes_248 : decode b_Mo_changes 248 = .ok (.istore 9, 2) := by decide +kernel
theorem d_Mo_changes_250 : decode b_Mo_changes 250 = .ok (.iconst 0, 1) := by decide +kernel
theorem d_Mo_changes_251 : decode b_Mo_changes 251 = .ok (.istore 10, 2) := by decide +kernel
theorem d_Mo_changes_253 : decode b_Mo_changes 253 = .ok (.iload 10, 2) := by decide +kernel
theorem d_Mo_changes_255 : decode b_Mo_changes 255 = .ok (.iload 4, 2) := by decide +kernel
theorem d_Mo_changes_257 : decode b_Mo_changes 257 = .ok (.if_icmp .gt 55, 3) := by decide +kernel
theorem d_Mo_changes_260 : decode b_Mo_changes 260 = .ok (.aload_n 0, 1) := by decide +kernel
theorem d_Mo_changes_261 : decode b_Mo_changes 261 = .ok (.getfield 17, 3) := by decide +kernel
theorem d_Mo_changes_264 : decode b_Mo_changes 264 = .ok (.bipush 116, 2) := by decide +kernel
theorem d_Mo_changes_266 : decode b_Mo_changes 266 = .ok (.iload 10, 2) := by decide +kernel
theorem d_Mo_changes_268 : decode b_Mo_changes 268 = .ok (.iadd, 1) := by decide +kernel
theorem d_Mo_changes_269 : decode b_Mo_changes 269 = .ok (.iaload, 1) := by decide +kernel
theorem d_Mo_changes_270 : decode b_Mo_changes 270 = .ok (.istore 11, 2) := by decide +kernel
theorem d_Mo_changes_272 : decode b_Mo_changes 272 = .ok (.iload 11, 2) := by decide +kernel
theorem d_Mo_changes_274 : decode b_Mo_changes 274 = .ok (.ifCond .eq 18, 3) := by decide +kernel
theorem d_Mo_changes_277 : decode b_Mo_changes 277 = .ok (.iload 9, 2) := by decide +kernel
theorem d_Mo_changes_279 : decode b_Mo_changes 279 = .ok (.ifCond .eq 13, 3) := by decide +kernel
theorem d_Mo_changes_282 : decode b_Mo_changes 282 = .ok (.iload 11, 2) := by decide +kernel
theorem d_Mo_changes_284 : decode b_Mo_changes 284 = .ok (.iload 9, 2) := by decide +kernel
theorem d_Mo_changes_286 : decode b_Mo_changes 286 = .ok (.if_icmp .eq 6, 3) := by decide +kernel
theorem d_Mo_changes_289 : decode b_Mo_changes 289 = .ok (.iinc 8 1, 3) := by decide +kernel
theorem d_Mo_changes_292 : decode b_Mo_changes 292 = .ok (.iload 11, 2) := by decide +kernel
theorem d_Mo_changes_294 : decode b_Mo_changes 294 = .ok (.ifCond .eq 8, 3) := by decide +kernel
theorem d_Mo_changes_297 : decode b_Mo_changes 297 = .ok (.iload 11, 2) := by decide +kernel
theorem d_Mo_changes_299 : decode b_Mo_changes 299 = .ok (.goto 5, 3) := by decide +kernel
theorem d_Mo_changes_302 : decode b_Mo_changes 302 = .ok (.iload 9, 2) := by decide +kernel
theorem d_Mo_changes_304 : decode b_Mo_changes 304 = .ok (.istore 9, 2) := by decide +kernel
theorem d_Mo_changes_306 : decode b_Mo_changes 306 = .ok (.iinc 10 1, 3) := by decide +kernel
theorem d_Mo_changes_309 : decode b_Mo_changes 309 = .ok (.goto (-56), 3) := by decide +kernel
theorem d_Mo_changes_312 : decode b_Mo_changes 312 = .ok (.iload 8, 2) := by decide +kernel
theorem d_Mo_changes_314 : decode b_Mo_changes 314 = .ok (.ireturn, 1) := by decide +kernel
theorem d_Mo_cell_0 : decode b_Mo_cell 0 = .ok (.sipush 140, 3) := by decide +kernel
theorem d_Mo_cell_3 : decode b_Mo_cell 3 = .ok (.bipush 8, 2) := by decide +kernel
theorem d_Mo_cell_5 : decode b_Mo_cell 5 = .ok (.iload_n 1, 1) := by decide +kernel
theorem d_Mo_cell_6 : decode b_Mo_cell 6 = .ok (.imul, 1) := by decide +kernel
theorem d_Mo_cell_7 : decode b_Mo_cell 7 = .ok (.iadd, 1) := by decide +kernel
theorem d_Mo_cell_8 : decode b_Mo_cell 8 = .ok (.iload_n 2, 1) := by decide +kernel
theorem d_Mo_cell_9 : decode b_Mo_cell 9 = .ok (.iadd, 1) := by decide +kernel
theorem d_Mo_cell_10 : decode b_Mo_cell 10 = .ok (.ireturn, 1) := by decide +kernel
theorem d_Mo_keep_0 : decode b_Mo_keep 0 = .ok (.bipush 8, 2) := by decide +kernel
theorem d_Mo_keep_2 : decode b_Mo_keep 2 = .ok (.iload_n 1, 1) := by decide +kernel
theorem d_Mo_keep_3 : decode b_Mo_keep 3 = .ok (.imul, 1) := by decide +kernel
theorem d_Mo_keep_4 : decode b_Mo_keep 4 = .ok (.aload_n 0, 1) := by decide +kernel
theorem d_Mo_keep_5 : decode b_Mo_keep 5 = .ok (.getfield 30, 3) := by decide +kernel
theorem d_Mo_keep_8 : decode b_Mo_keep 8 = .ok (.iload_n 1, 1) := by decide +kernel
theorem d_Mo_keep_9 : decode b_Mo_keep 9 = .ok (.iaload, 1) := by decide +kernel
theorem d_Mo_keep_10 : decode b_Mo_keep 10 = .ok (.iadd, 1) := by decide +kernel
theorem d_Mo_keep_11 : decode b_Mo_keep 11 = .ok (.istore 5, 2) := by decide +kernel
theorem d_Mo_keep_13 : decode b_Mo_keep 13 = .ok (.aload_n 0, 1) := by decide +kernel
theorem d_Mo_keep_14 : decode b_Mo_keep 14 = .ok (.aload_n 0, 1) := by decide +kernel
theorem d_Mo_keep_15 : decode b_Mo_keep 15 = .ok (.iload_n 1, 1) := by decide +kernel
theorem d_Mo_keep_16 : decode b_Mo_keep 16 = .ok (.aload_n 0, 1) := by decide +kernel
theorem d_Mo_keep_17 : decode b_Mo_keep 17 = .ok (.getfield 30, 3) := by decide +kernel
theorem d_Mo_keep_20 : decode b_Mo_keep 20 = .ok (.iload_n 1, 1) := by decide +kernel
theorem d_Mo_keep_21 : decode b_Mo_keep 21 = .ok (.iaload, 1) := by decide +kernel
theorem d_Mo_keep_22 : decode b_Mo_keep 22 = .ok (.invokevirtual 115, 3) := by decide +kernel
theorem d_Mo_keep_25 : decode b_Mo_keep 25 = .ok (.iload_n 2, 1) := by decide +kernel
theorem d_Mo_keep_26 : decode b_Mo_keep 26 = .ok (.invokevirtual 69, 3) := by decide +kernel
theorem d_Mo_keep_29 : decode b_Mo_keep 29 = .ok (.aload_n 0, 1) := by decide +kernel
theorem d_Mo_keep_30 : decode b_Mo_keep 30 = .ok (.getfield 23, 3) := by decide +kernel
theorem d_Mo_keep_33 : decode b_Mo_keep 33 = .ok (.iload 5, 2) := by decide +kernel
theorem d_Mo_keep_35 : decode b_Mo_keep 35 = .ok (.iload_n 3, 1) := by decide +kernel
theorem d_Mo_keep_36 : decode b_Mo_keep 36 = .ok (.iastore, 1) := by decide +kernel
theorem d_Mo_keep_37 : decode b_Mo_keep 37 = .ok (.aload_n 0, 1) := by decide +kernel
theorem d_Mo_keep_38 : decode b_Mo_keep 38 = .ok (.getfield 26, 3) := by decide +kernel
theorem d_Mo_keep_41 : decode b_Mo_keep 41 = .ok (.iload 5, 2) := by decide +kernel
theorem d_Mo_keep_43 : decode b_Mo_keep 43 = .ok (.iload 4, 2) := by decide +kernel
theorem d_Mo_keep_45 : decode b_Mo_keep 45 = .ok (.bastore, 1) := by decide +kernel
theorem d_Mo_keep_46 : decode b_Mo_keep 46 = .ok (.aload_n 0, 1) := by decide +kernel
theorem d_Mo_keep_47 : decode b_Mo_keep 47 = .ok (.getfield 30, 3) := by decide +kernel
theorem d_Mo_keep_50 : decode b_Mo_keep 50 = .ok (.iload_n 1, 1) := by decide +kernel
theorem d_Mo_keep_51 : decode b_Mo_keep 51 = .ok (.dup2, 1) := by decide +kernel
theorem d_Mo_keep_52 : decode b_Mo_keep 52 = .ok (.iaload, 1) := by decide +kernel
theorem d_Mo_keep_53 : decode b_Mo_keep 53 = .ok (.iconst 1, 1) := by decide +kernel
theorem d_Mo_keep_54 : decode b_Mo_keep 54 = .ok (.iadd, 1) := by decide +kernel
theorem d_Mo_keep_55 : decode b_Mo_keep 55 = .ok (.iastore, 1) := by decide +kernel
theorem d_Mo_keep_56 : decode b_Mo_keep 56 = .ok (.return_, 1) := by decide +kernel
theorem d_Mo_isolates_0 : decode b_Mo_isolates 0 = .ok (.aload_n 0, 1) := by decide +kernel
theorem d_Mo_isolates_1 : decode b_Mo_isolates 1 = .ok (.getfield 30, 3) := by decide +kernel
theorem d_Mo_isolates_4 : decode b_Mo_isolates 4 = .ok (.iload_n 1, 1) := by decide +kernel
theorem d_Mo_isolates_5 : decode b_Mo_isolates 5 = .ok (.iconst 0, 1) := by decide +kernel
theorem d_Mo_isolates_6 : decode b_Mo_isolates 6 = .ok (.iastore, 1) := by decide +kernel
theorem d_Mo_isolates_7 : decode b_Mo_isolates 7 = .ok (.aload_n 0, 1) := by decide +kernel
theorem d_Mo_isolates_8 : decode b_Mo_isolates 8 = .ok (.getfield 20, 3) := by decide +kernel
theorem d_Mo_isolates_11 : decode b_Mo_isolates 11 = .ok (.iload_n 1, 1) := by decide +kernel
theorem d_Mo_isolates_12 : decode b_Mo_isolates 12 = .ok (.iaload, 1) := by decide +kernel
theorem d_Mo_isolates_13 : decode b_Mo_isolates 13 = .ok (.iconst 1, 1) := by decide +kernel
theorem d_Mo_isolates_14 : decode b_Mo_isolates 14 = .ok (.if_icmp .ge 4, 3) := by decide +kernel
theorem d_Mo_isolates_17 : decode b_Mo_isolates 17 = .ok (.return_, 1) := by decide +kernel
theorem d_Mo_isolates_18 : decode b_Mo_isolates 18 = .ok (.aload_n 0, 1) := by decide +kernel
theorem d_Mo_isolates_19 : decode b_Mo_isolates 19 = .ok (.iload_n 1, 1) := by decide +kernel
theorem d_Mo_isolates_20 : decode b_Mo_isolates 20 = .ok (.invokevirtual 118, 3) := by decide +kernel
theorem d_Mo_isolates_23 : decode b_Mo_isolates 23 = .ok (.iconst 2, 1) := by decide +kernel
theorem d_Mo_isolates_24 : decode b_Mo_isolates 24 = .ok (.iload_n 1, 1) := by decide +kernel
theorem d_Mo_isolates_25 : decode b_Mo_isolates 25 = .ok (.iadd, 1) := by decide +kernel
theorem d_Mo_isolates_26 : decode b_Mo_isolates 26 = .ok (.istore_n 2, 1) := by decide +kernel
theorem d_Mo_isolates_27 : decode b_Mo_isolates 27 = .ok (.bipush 109, 2) := by decide +kernel
theorem d_Mo_isolates_29 : decode b_Mo_isolates 29 = .ok (.istore_n 3, 1) := by decide +kernel
theorem d_Mo_isolates_30 : decode b_Mo_isolates 30 = .ok (.aload_n 0, 1) := by decide +kernel
theorem d_Mo_isolates_31 : decode b_Mo_isolates 31 = .ok (.iload_n 3, 1) := by decide +kernel
theorem d_Mo_isolates_32 : decode b_Mo_isolates 32 = .ok (.lconst 0, 1) := by decide +kernel
theorem d_Mo_isolates_33 : decode b_Mo_isolates 33 = .ok (.invokevirtual 72, 3) := by decide +kernel
theorem d_Mo_isolates_36 : decode b_Mo_isolates 36 = .ok (.aload_n 0, 1) := by decide +kernel
theorem d_Mo_isolates_37 : decode b_Mo_isolates 37 = .ok (.bipush 110, 2) := by decide +kernel
theorem d_Mo_isolates_39 : decode b_Mo_isolates 39 = .ok (.lconst 1, 1) := by decide +kernel
theorem d_Mo_isolates_40 : decode b_Mo_isolates 40 = .ok (.invokevirtual 72, 3) := by decide +kernel
theorem d_Mo_isolates_43 : decode b_Mo_isolates 43 = .ok (.iconst 0, 1) := by decide +kernel
theorem d_Mo_isolates_44 : decode b_Mo_isolates 44 = .ok (.istore 4, 2) := by decide +kernel
theorem d_Mo_isolates_46 : decode b_Mo_isolates 46 = .ok (.iconst 1, 1) := by decide +kernel
theorem d_Mo_isolates_47 : decode b_Mo_isolates 47 = .ok (.istore 5, 2) := by decide +kernel
theorem d_Mo_isolates_49 : decode b_Mo_isolates 49 = .ok (.iload 5, 2) := by decide +kernel
theorem d_Mo_isolates_51 : decode b_Mo_isolates 51 = .ok (.ifCond .eq 141, 3) := by decide +kernel
theorem d_Mo_isolates_54 : decode b_Mo_isolates 54 = .ok (.aload_n 0, 1) := by decide +kernel
theorem d_Mo_isolates_55 : decode b_Mo_isolates 55 = .ok (.iload_n 2, 1) := by decide +kernel
theorem d_Mo_isolates_56 : decode b_Mo_isolates 56 = .ok (.iload_n 3, 1) := by decide +kernel
theorem d_Mo_isolates_57 : decode b_Mo_isolates 57 = .ok (.iload 4, 2) := by decide +kernel
theorem d_Mo_isolates_59 : decode b_Mo_isolates 59 = .ok (.invokevirtual 121, 3) := by decide +kernel
theorem d_Mo_isolates_62 : decode b_Mo_isolates 62 = .ok (.istore 6, 2) := by decide +kernel
theorem d_Mo_isolates_64 : decode b_Mo_isolates 64 = .ok (.iload 6, 2) := by decide +kernel
theorem d_Mo_isolates_66 : decode b_Mo_isolates 66 = .ok (.iconst 1, 1) := by decide +kernel
theorem d_Mo_isolates_67 : decode b_Mo_isolates 67 = .ok (.if_icmp .le 16, 3) := by decide +kernel
theorem d_Mo_isolates_70 : decode b_Mo_isolates 70 = .ok (.aload_n 0, 1) := by decide +kernel
theorem d_Mo_isolates_71 : decode b_Mo_isolates 71 = .ok (.iload_n 3, 1) := by decide +kernel
theorem d_Mo_isolates_72 : decode b_Mo_isolates 72 = .ok (.iload_n 3, 1) := by decide +kernel
theorem d_Mo_isolates_73 : decode b_Mo_isolates 73 = .ok (.iconst 1, 1) := by decide +kernel
theorem d_Mo_isolates_74 : decode b_Mo_isolates 74 = .ok (.invokevirtual 108, 3) := by decide +kernel
theorem d_Mo_isolates_77 : decode b_Mo_isolates 77 = .ok (.iinc 4 1, 3) := by decide +kernel
theorem d_Mo_isolates_80 : decode b_Mo_isolates 80 = .ok (.goto (-31), 3) := by decide +kernel
theorem d_Mo_isolates_83 : decode b_Mo_isolates 83 = .ok (.iload 6, 2) := by decide +kernel
theorem d_Mo_isolates_85 : decode b_Mo_isolates 85 = .ok (.iconst 1, 1) := by decide +kernel
theorem d_Mo_isolates_86 : decode b_Mo_isolates 86 = .ok (.if_icmp .ne 12, 3) := by decide +kernel
theorem d_Mo_isolates_89 : decode b_Mo_isolates 89 = .ok (.aload_n 0, 1) := by decide +kernel
theorem d_Mo_isolates_90 : decode b_Mo_isolates 90 = .ok (.iload_n 1, 1) := by decide +kernel
theorem d_Mo_isolates_91 : decode b_Mo_isolates 91 = .ok (.iload_n 3, 1) := by decide +kernel
theorem d_Mo_isolates_92 : decode b_Mo_isolates 92 = .ok (.iload 4, 2) := by decide +kernel
theorem d_Mo_isolates_94 : decode b_Mo_isolates 94 = .ok (.iconst 0, 1) := by decide +kernel
theorem d_Mo_isolates_95 : decode b_Mo_isolates 95 = .ok (.invokevirtual 124, 3) := by decide +kernel
theorem d_Mo_isolates_98 : decode b_Mo_isolates 98 = .ok (.iload 4, 2) := by decide +kernel
theorem d_Mo_isolates_100 : decode b_Mo_isolates 100 = .ok (.ifCond .le 28, 3) := by decide +kernel
theorem d_Mo_isolates_103 : decode b_Mo_isolates 103 = .ok (.aload_n 0, 1) := by decide +kernel
theorem d_Mo_isolates_104 : decode b_Mo_isolates 104 = .ok (.iload_n 3, 1) := by decide +kernel
theorem d_Mo_isolates_105 : decode b_Mo_isolates 105 = .ok (.iconst 0, 1) := by decide +kernel
theorem d_Mo_isolates_106 : decode b_Mo_isolates 106 = .ok (.invokevirtual 45, 3) := by decide +kernel
theorem d_Mo_isolates_109 : decode b_Mo_isolates 109 = .ok (.iconst 2, 1) := by decide +kernel
theorem d_Mo_isolates_110 : decode b_Mo_isolates 110 = .ok (.irem, 1) := by decide +kernel
theorem d_Mo_isolates_111 : decode b_Mo_isolates 111 = .ok (.iconst 1, 1) := by decide +kernel
theorem d_Mo_isolates_112 : decode b_Mo_isolates 112 = .ok (.if_icmp .ne 16, 3) := by decide +kernel
theorem d_Mo_isolates_115 : decode b_Mo_isolates 115 = .ok (.aload_n 0, 1) := by decide +kernel
theorem d_Mo_isolates_116 : decode b_Mo_isolates 116 = .ok (.iload_n 3, 1) := by decide +kernel
theorem d_Mo_isolates_117 : decode b_Mo_isolates 117 = .ok (.iconst 2, 1) := by decide +kernel
theorem d_Mo_isolates_118 : decode b_Mo_isolates 118 = .ok (.invokevirtual 128, 3) := by decide +kernel
theorem d_Mo_isolates_121 : decode b_Mo_isolates 121 = .ok (.pop, 1) := by decide +kernel
theorem d_Mo_isolates_122 : decode b_Mo_isolates 122 = .ok (.iinc 4 (-1), 3) := by decide +kernel
theorem d_Mo_isolates_125 : decode b_Mo_isolates 125 = .ok (.goto (-27), 3) := by decide +kernel
theorem d_Mo_isolates_128 : decode b_Mo_isolates 128 = .ok (.iload 4, 2) := by decide +kernel
theorem d_Mo_isolates_130 : decode b_Mo_isolates 130 = .ok (.ifCond .le 7, 3) := by decide +kernel
theorem d_Mo_isolates_133 : decode b_Mo_isolates 133 = .ok (.iconst 1, 1) := by decide +kernel
theorem d_Mo_isolates_134 : decode b_Mo_isolates 134 = .ok (.goto 4, 3) := by decide +kernel
theorem d_Mo_isolates_137 : decode b_Mo_isolates 137 = .ok (.iconst 0, 1) := by decide +kernel
theorem d_Mo_isolates_138 : decode b_Mo_isolates 138 = .ok (.istore 5, 2) := by decide +kernel
theorem d_Mo_isolates_140 : decode b_Mo_isolates 140 = .ok (.iload 5, 2) := by decide +kernel
theorem d_Mo_isolates_142 : decode b_Mo_isolates 142 = .ok (.ifCond .ne 6, 3) := by decide +kernel
theorem d_Mo_isolates_145 : decode b_Mo_isolates 145 = .ok (.goto (-96), 3) := by decide +kernel
theorem d_Mo_isolates_148 : decode b_Mo_isolates 148 = .ok (.aload_n 0, 1) := by decide +kernel
theorem d_Mo_isolates_149 : decode b_Mo_isolates 149 = .ok (.iload_n 3, 1) := by decide +kernel
theorem d_Mo_isolates_150 : decode b_Mo_isolates 150 = .ok (.iload_n 3, 1) := by decide +kernel
theorem d_Mo_isolates_151 : decode b_Mo_isolates 151 = .ok (.bipush 110, 2) := by decide +kernel
theorem d_Mo_isolates_153 : decode b_Mo_isolates 153 = .ok (.iconst 1, 1) := by decide +kernel
theorem d_Mo_isolates_154 : decode b_Mo_isolates 154 = .ok (.invokevirtual 83, 3) := by decide +kernel
theorem d_Mo_isolates_157 : decode b_Mo_isolates 157 = .ok (.aload_n 0, 1) := by decide +kernel
theorem d_Mo_isolates_158 : decode b_Mo_isolates 158 = .ok (.bipush 111, 2) := by decide +kernel
theorem d_Mo_isolates_160 : decode b_Mo_isolates 160 = .ok (.iload_n 3, 1) := by decide +kernel
theorem d_Mo_isolates_161 : decode b_Mo_isolates 161 = .ok (.iload 4, 2) := by decide +kernel
theorem d_Mo_isolates_163 : decode b_Mo_isolates 163 = .ok (.invokevirtual 111, 3) := by decide +kernel
theorem d_Mo_isolates_166 : decode b_Mo_isolates 166 = .ok (.istore 7, 2) := by decide +kernel
theorem d_Mo_isolates_168 : decode b_Mo_isolates 168 = .ok (.aload_n 0, 1) := by decide +kernel
theorem d_Mo_isolates_169 : decode b_Mo_isolates 169 = .ok (.iload_n 2, 1) := by decide +kernel
theorem d_Mo_isolates_170 : decode b_Mo_isolates 170 = .ok (.bipush 111, 2) := by decide +kernel
theorem d_Mo_isolates_172 : decode b_Mo_isolates 172 = .ok (.iload 7, 2) := by decide +kernel
theorem d_Mo_isolates_174 : decode b_Mo_isolates 174 = .ok (.invokevirtual 131, 3) := by decide +kernel
theorem d_Mo_isolates_177 : decode b_Mo_isolates 177 = .ok (.ifCond .ne 12, 3) := by decide +kernel
theorem d_Mo_isolates_180 : decode b_Mo_isolates 180 = .ok (.aload_n 0, 1) := by decide +kernel
theorem d_Mo_isolates_181 : decode b_Mo_isolates 181 = .ok (.iload_n 1, 1) := by decide +kernel
theorem d_Mo_isolates_182 : decode b_Mo_isolates 182 = .ok (.iload_n 3, 1) := by decide +kernel
theorem d_Mo_isolates_183 : decode b_Mo_isolates 183 = .ok (.iload 4, 2) := by decide +kernel
theorem d_Mo_isolates_185 : decode b_Mo_isolates 185 = .ok (.iconst 1, 1) := by decide +kernel
theorem d_Mo_isolates_186 : decode b_Mo_isolates 186 = .ok (.invokevirtual 124, 3) := by decide +kernel
theorem d_Mo_isolates_189 : decode b_Mo_isolates 189 = .ok (.goto (-140), 3) := by decide +kernel
theorem d_Mo_isolates_192 : decode b_Mo_isolates 192 = .ok (.iconst 0, 1) := by decide +kernel
theorem d_Mo_isolates_193 : decode b_Mo_isolates 193 = .ok (.istore 6, 2) := by decide +kernel
theorem d_Mo_isolates_195 : decode b_Mo_isolates 195 = .ok (.iload 6, 2) := by decide +kernel
theorem d_Mo_isolates_197 : decode b_Mo_isolates 197 = .ok (.aload_n 0, 1) := by decide +kernel
theorem d_Mo_isolates_198 : decode b_Mo_isolates 198 = .ok (.getfield 30, 3) := by decide +kernel
theorem d_Mo_isolates_201 : decode b_Mo_isolates 201 = .ok (.iload_n 1, 1) := by decide +kernel
theorem d_Mo_isolates_202 : decode b_Mo_isolates 202 = .ok (.iaload, 1) := by decide +kernel
theorem d_Mo_isolates_203 : decode b_Mo_isolates 203 = .ok (.if_icmp .ge 36, 3) := by decide +kernel
theorem d_Mo_isolates_206 : decode b_Mo_isolates 206 = .ok (.aload_n 0, 1) := by decide +kernel
theorem d_Mo_isolates_207 : decode b_Mo_isolates 207 = .ok (.getfield 23, 3) := by decide +kernel
theorem d_Mo_isolates_210 : decode b_Mo_isolates 210 = .ok (.bipush 8, 2) := by decide +kernel
theorem d_Mo_isolates_212 : decode b_Mo_isolates 212 = .ok (.iload_n 1, 1) := by decide +kernel
theorem d_Mo_isolates_213 : decode b_Mo_isolates 213 = .ok (.imul, 1) := by decide +kernel
theorem d_Mo_isolates_214 : decode b_Mo_isolates 214 = .ok (.iload 6, 2) := by decide +kernel
theorem d_Mo_isolates_216 : decode b_Mo_isolates 216 = .ok (.iadd, 1) := by decide +kernel
theorem d_Mo_isolates_217 : decode b_Mo_isolates 217 = .ok (.iaload, 1) := by decide +kernel
theorem d_Mo_isolates_218 : decode b_Mo_isolates 218 = .ok (.bipush 44, 2) := by decide +kernel
theorem d_Mo_isolates_220 : decode b_Mo_isolates 220 = .ok (.if_icmp .ge 13, 3) := by decide +kernel
theorem d_Mo_isolates_223 : decode b_Mo_isolates 223 = .ok (.aload_n 0, 1) := by decide +kernel
theorem d_Mo_isolates_224 : decode b_Mo_isolates 224 = .ok (.iload_n 1, 1) := by decide +kernel
theorem d_Mo_isolates_225 : decode b_Mo_isolates 225 = .ok (.iload 6, 2) := by decide +kernel
theorem d_Mo_isolates_227 : decode b_Mo_isolates 227 = .ok (.invokevirtual 134, 3) := by decide +kernel
theorem d_Mo_isolates_230 : decode b_Mo_isolates 230 = .ok (.goto (-24), 3) := by decide +kernel
theorem d_Mo_isolates_233 : decode b_Mo_isolates 233 = .ok (.iinc 6 1, 3) := by decide +kernel
theorem d_Mo_isolates_236 : decode b_Mo_isolates 236 = .ok (.goto (-41), 3) := by decide +kernel
theorem d_Mo_isolates_239 : decode b_Mo_isolates 239 = .ok (.return_, 1) := by decide +kernel
theorem d_Mo_refines_0 : decode b_Mo_refines 0 = .ok (.bipush 8, 2) := by decide +kernel
theorem d_Mo_refines_2 : decode b_Mo_refines 2 = .ok (.iload_n 1, 1) := by decide +kernel
theorem d_Mo_refines_3 : decode b_Mo_refines 3 = .ok (.imul, 1) := by decide +kernel
theorem d_Mo_refines_4 : decode b_Mo_refines 4 = .ok (.iload_n 2, 1) := by decide +kernel
theorem d_Mo_refines_5 : decode b_Mo_refines 5 = .ok (.iadd, 1) := by decide +kernel
theorem d_Mo_refines_6 : decode b_Mo_refines 6 = .ok (.istore_n 3, 1) := by decide +kernel
theorem d_Mo_refines_7 : decode b_Mo_refines 7 = .ok (.aload_n 0, 1) := by decide +kernel
theorem d_Mo_refines_8 : decode b_Mo_refines 8 = .ok (.iload_n 1, 1) := by decide +kernel
theorem d_Mo_refines_9 : decode b_Mo_refines 9 = .ok (.iload_n 2, 1) := by decide +kernel
theorem d_Mo_refines_10 : decode b_Mo_refines 10 = .ok (.invokevirtual 115, 3) := by decide +kernel
theorem d_Mo_refines_13 : decode b_Mo_refines 13 = .ok (.istore 4, 2) := by decide +kernel
theorem d_Mo_refines_15 : decode b_Mo_refines 15 = .ok (.aload_n 0, 1) := by decide +kernel
theorem d_Mo_refines_16 : decode b_Mo_refines 16 = .ok (.bipush 110, 2) := by decide +kernel
theorem d_Mo_refines_18 : decode b_Mo_refines 18 = .ok (.lconst 1, 1) := by decide +kernel
theorem d_Mo_refines_19 : decode b_Mo_refines 19 = .ok (.invokevirtual 72, 3) := by decide +kernel
theorem d_Mo_refines_22 : decode b_Mo_refines 22 = .ok (.aload_n 0, 1) := by decide +kernel
theorem d_Mo_refines_23 : decode b_Mo_refines 23 = .ok (.getfield 26, 3) := by decide +kernel
theorem d_Mo_refines_26 : decode b_Mo_refines 26 = .ok (.iload_n 3, 1) := by decide +kernel
theorem d_Mo_refines_27 : decode b_Mo_refines 27 = .ok (.baload, 1) := by decide +kernel
theorem d_Mo_refines_28 : decode b_Mo_refines 28 = .ok (.ifCond .eq 23, 3) := by decide +kernel
theorem d_Mo_refines_31 : decode b_Mo_refines 31 = .ok (.aload_n 0, 1) := by decide +kernel
theorem d_Mo_refines_32 : decode b_Mo_refines 32 = .ok (.iload 4, 2) := by decide +kernel
theorem d_Mo_refines_34 : decode b_Mo_refines 34 = .ok (.iload 4, 2) := by decide +kernel
theorem d_Mo_refines_36 : decode b_Mo_refines 36 = .ok (.iconst 1, 1) := by decide +kernel
theorem d_Mo_refines_37 : decode b_Mo_refines 37 = .ok (.invokevirtual 108, 3) := by decide +kernel
theorem d_Mo_refines_40 : decode b_Mo_refines 40 = .ok (.aload_n 0, 1) := by decide +kernel
theorem d_Mo_refines_41 : decode b_Mo_refines 41 = .ok (.getfield 23, 3) := by decide +kernel
theorem d_Mo_refines_44 : decode b_Mo_refines 44 = .ok (.iload_n 3, 1) := by decide +kernel
theorem d_Mo_refines_45 : decode b_Mo_refines 45 = .ok (.dup2, 1) := by decide +kernel
theorem d_Mo_refines_46 : decode b_Mo_refines 46 = .ok (.iaload, 1) := by decide +kernel
theorem d_Mo_refines_47 : decode b_Mo_refines 47 = .ok (.iconst 1, 1) := by decide +kernel
theorem d_Mo_refines_48 : decode b_Mo_refines 48 = .ok (.iadd, 1) := by decide +kernel
theorem d_Mo_refines_49 : decode b_Mo_refines 49 = .ok (.iastore, 1) := by decide +kernel
theorem d_Mo_refines_50 : decode b_Mo_refines 50 = .ok (.return_, 1) := by decide +kernel
theorem d_Mo_refines_51 : decode b_Mo_refines 51 = .ok (.aload_n 0, 1) := by decide +kernel
theorem d_Mo_refines_52 : decode b_Mo_refines 52 = .ok (.bipush 111, 2) := by decide +kernel
theorem d_Mo_refines_54 : decode b_Mo_refines 54 = .ok (.iload 4, 2) := by decide +kernel
theorem d_Mo_refines_56 : decode b_Mo_refines 56 = .ok (.aload_n 0, 1) := by decide +kernel
theorem d_Mo_refines_57 : decode b_Mo_refines 57 = .ok (.getfield 23, 3) := by decide +kernel
theorem d_Mo_refines_60 : decode b_Mo_refines 60 = .ok (.iload_n 3, 1) := by decide +kernel
theorem d_Mo_refines_61 : decode b_Mo_refines 61 = .ok (.iaload, 1) := by decide +kernel
theorem d_Mo_refines_62 : decode b_Mo_refines 62 = .ok (.invokevirtual 111, 3) := by decide +kernel
theorem d_Mo_refines_65 : decode b_Mo_refines 65 = .ok (.istore 5, 2) := by decide +kernel
theorem d_Mo_refines_67 : decode b_Mo_refines 67 = .ok (.aload_n 0, 1) := by decide +kernel
theorem d_Mo_refines_68 : decode b_Mo_refines 68 = .ok (.iconst 2, 1) := by decide +kernel
theorem d_Mo_refines_69 : decode b_Mo_refines 69 = .ok (.iload_n 1, 1) := by decide +kernel
theorem d_Mo_refines_70 : decode b_Mo_refines 70 = .ok (.iadd, 1) := by decide +kernel
theorem d_Mo_refines_71 : decode b_Mo_refines 71 = .ok (.bipush 111, 2) := by decide +kernel
theorem d_Mo_refines_73 : decode b_Mo_refines 73 = .ok (.iload 5, 2) := by decide +kernel
theorem d_Mo_refines_75 : decode b_Mo_refines 75 = .ok (.invokevirtual 137, 3) := by decide +kernel
theorem d_Mo_refines_78 : decode b_Mo_refines 78 = .ok (.istore 6, 2) := by decide +kernel
theorem d_Mo_refines_80 : decode b_Mo_refines 80 = .ok (.aload_n 0, 1) := by decide +kernel
theorem d_Mo_refines_81 : decode b_Mo_refines 81 = .ok (.iload 4, 2) := by decide +kernel
theorem d_Mo_refines_83 : decode b_Mo_refines 83 = .ok (.iload 4, 2) := by decide +kernel
theorem d_Mo_refines_85 : decode b_Mo_refines 85 = .ok (.iconst 1, 1) := by decide +kernel
theorem d_Mo_refines_86 : decode b_Mo_refines 86 = .ok (.invokevirtual 108, 3) := by decide +kernel
theorem d_Mo_refines_89 : decode b_Mo_refines 89 = .ok (.aload_n 0, 1) := by decide +kernel
theorem d_Mo_refines_90 : decode b_Mo_refines 90 = .ok (.getfield 23, 3) := by decide +kernel
theorem d_Mo_refines_93 : decode b_Mo_refines 93 = .ok (.iload_n 3, 1) := by decide +kernel
theorem d_Mo_refines_94 : decode b_Mo_refines 94 = .ok (.dup2, 1) := by decide +kernel
theorem d_Mo_refines_95 : decode b_Mo_refines 95 = .ok (.iaload, 1) := by decide +kernel
theorem d_Mo_refines_96 : decode b_Mo_refines 96 = .ok (.iconst 1, 1) := by decide +kernel
theorem d_Mo_refines_97 : decode b_Mo_refines 97 = .ok (.iadd, 1) := by decide +kernel
theorem d_Mo_refines_98 : decode b_Mo_refines 98 = .ok (.iastore, 1) := by decide +kernel
theorem d_Mo_refines_99 : decode b_Mo_refines 99 = .ok (.aload_n 0, 1) := by decide +kernel
theorem d_Mo_refines_100 : decode b_Mo_refines 100 = .ok (.iload 4, 2) := by decide +kernel
theorem d_Mo_refines_102 : decode b_Mo_refines 102 = .ok (.iload 4, 2) := by decide +kernel
theorem d_Mo_refines_104 : decode b_Mo_refines 104 = .ok (.bipush 110, 2) := by decide +kernel
theorem d_Mo_refines_106 : decode b_Mo_refines 106 = .ok (.iconst 1, 1) := by decide +kernel
theorem d_Mo_refines_107 : decode b_Mo_refines 107 = .ok (.invokevirtual 83, 3) := by decide +kernel
theorem d_Mo_refines_110 : decode b_Mo_refines 110 = .ok (.aload_n 0, 1) := by decide +kernel
theorem d_Mo_refines_111 : decode b_Mo_refines 111 = .ok (.bipush 111, 2) := by decide +kernel
theorem d_Mo_refines_113 : decode b_Mo_refines 113 = .ok (.iload 4, 2) := by decide +kernel
theorem d_Mo_refines_115 : decode b_Mo_refines 115 = .ok (.aload_n 0, 1) := by decide +kernel
theorem d_Mo_refines_116 : decode b_Mo_refines 116 = .ok (.getfield 23, 3) := by decide +kernel
theorem d_Mo_refines_119 : decode b_Mo_refines 119 = .ok (.iload_n 3, 1) := by decide +kernel
theorem d_Mo_refines_120 : decode b_Mo_refines 120 = .ok (.iaload, 1) := by decide +kernel
theorem d_Mo_refines_121 : decode b_Mo_refines 121 = .ok (.invokevirtual 111, 3) := by decide +kernel
theorem d_Mo_refines_124 : decode b_Mo_refines 124 = .ok (.istore 5, 2) := by decide +kernel
theorem d_Mo_refines_126 : decode b_Mo_refines 126 = .ok (.aload_n 0, 1) := by decide +kernel
theorem d_Mo_refines_127 : decode b_Mo_refines 127 = .ok (.iconst 2, 1) := by decide +kernel
theorem d_Mo_refines_128 : decode b_Mo_refines 128 = .ok (.iload_n 1, 1) := by decide +kernel
theorem d_Mo_refines_129 : decode b_Mo_refines 129 = .ok (.iadd, 1) := by decide +kernel
theorem d_Mo_refines_130 : decode b_Mo_refines 130 = .ok (.bipush 111, 2) := by decide +kernel
theorem d_Mo_refines_132 : decode b_Mo_refines 132 = .ok (.iload 5, 2) := by decide +kernel
theorem d_Mo_refines_134 : decode b_Mo_refines 134 = .ok (.invokevirtual 131, 3) := by decide +kernel
theorem d_Mo_refines_137 : decode b_Mo_refines 137 = .ok (.istore 7, 2) := by decide +kernel
theorem d_Mo_refines_139 : decode b_Mo_refines 139 = .ok (.iload 7, 2) := by decide +kernel
theorem d_Mo_refines_141 : decode b_Mo_refines 141 = .ok (.ifCond .ne 13, 3) := by decide +kernel
theorem d_Mo_refines_144 : decode b_Mo_refines 144 = .ok (.aload_n 0, 1) := by decide +kernel
theorem d_Mo_refines_145 : decode b_Mo_refines 145 = .ok (.getfield 26, 3) := by decide +kernel
theorem d_Mo_refines_148 : decode b_Mo_refines 148 = .ok (.iload_n 3, 1) := by decide +kernel
theorem d_Mo_refines_149 : decode b_Mo_refines 149 = .ok (.iconst 1, 1) := by decide +kernel
theorem d_Mo_refines_150 : decode b_Mo_refines 150 = .ok (.bastore, 1) := by decide +kernel
theorem d_Mo_refines_151 : decode b_Mo_refines 151 = .ok (.goto 21, 3) := by decide +kernel
theorem d_Mo_refines_154 : decode b_Mo_refines 154 = .ok (.iload 7, 2) := by decide +kernel
theorem d_Mo_refines_156 : decode b_Mo_refines 156 = .ok (.iload 6, 2) := by decide +kernel
theorem d_Mo_refines_158 : decode b_Mo_refines 158 = .ok (.if_icmp .eq 14, 3) := by decide +kernel
theorem d_Mo_refines_161 : decode b_Mo_refines 161 = .ok (.aload_n 0, 1) := by decide +kernel
theorem d_Mo_refines_162 : decode b_Mo_refines 162 = .ok (.iload 4, 2) := by decide +kernel
theorem d_Mo_refines_164 : decode b_Mo_refines 164 = .ok (.iload 4, 2) := by decide +kernel
theorem d_Mo_refines_166 : decode b_Mo_refines 166 = .ok (.bipush 110, 2) := by decide +kernel
theorem d_Mo_refines_168 : decode b_Mo_refines 168 = .ok (.iconst (-1), 1) := by decide +kernel
theorem d_Mo_refines_169 : decode b_Mo_refines 169 = .ok (.invokevirtual 83, 3) := by decide +kernel
theorem d_Mo_refines_172 : decode b_Mo_refines 172 = .ok (.return_, 1) := by decide +kernel
theorem d_Mo_sideOf_0 : decode b_Mo_sideOf 0 = .ok (.aload_n 0, 1) := by decide +kernel
theorem d_Mo_sideOf_1 : decode b_Mo_sideOf 1 = .ok (.iload_n 1, 1) := by decide +kernel
theorem d_Mo_sideOf_2 : decode b_Mo_sideOf 2 = .ok (.iload_n 2, 1) := by decide +kernel
theorem d_Mo_sideOf_3 : decode b_Mo_sideOf 3 = .ok (.iload_n 3, 1) := by decide +kernel
theorem d_Mo_sideOf_4 : decode b_Mo_sideOf 4 = .ok (.invokevirtual 131, 3) := by decide +kernel
theorem d_Mo_sideOf_7 : decode b_Mo_sideOf 7 = .ok (.istore 4, 2) := by decide +kernel
theorem d_Mo_sideOf_9 : decode b_Mo_sideOf 9 = .ok (.iload 4, 2) := by decide +kernel
theorem d_Mo_sideOf_11 : decode b_Mo_sideOf 11 = .ok (.ifCond .eq 6, 3) := by decide +kernel
theorem d_Mo_sideOf_14 : decode b_Mo_sideOf 14 = .ok (.iload 4, 2) := by decide +kernel
theorem d_Mo_sideOf_16 : decode b_Mo_sideOf 16 = .ok (.ireturn, 1) := by decide +kernel
theorem d_Mo_sideOf_17 : decode b_Mo_sideOf 17 = .ok (.aload_n 0, 1) := by decide +kernel
theorem d_Mo_sideOf_18 : decode b_Mo_sideOf 18 = .ok (.bipush 7, 2) := by decide +kernel
theorem d_Mo_sideOf_20 : decode b_Mo_sideOf 20 = .ok (.iload_n 1, 1) := by decide +kernel
theorem d_Mo_sideOf_21 : decode b_Mo_sideOf 21 = .ok (.invokevirtual 99, 3) := by decide +kernel
theorem d_Mo_sideOf_24 : decode b_Mo_sideOf 24 = .ok (.aload_n 0, 1) := by decide +kernel
theorem d_Mo_sideOf_25 : decode b_Mo_sideOf 25 = .ok (.bipush 7, 2) := by decide +kernel
theorem d_Mo_sideOf_27 : decode b_Mo_sideOf 27 = .ok (.iload_n 2, 1) := by decide +kernel
theorem d_Mo_sideOf_28 : decode b_Mo_sideOf 28 = .ok (.iload_n 3, 1) := by decide +kernel
theorem d_Mo_sideOf_29 : decode b_Mo_sideOf 29 = .ok (.invokevirtual 131, 3) := by decide +kernel
theorem d_Mo_sideOf_32 : decode b_Mo_sideOf 32 = .ok (.ireturn, 1) := by decide +kernel
theorem d_Mo_refinesTo_0 : decode b_Mo_refinesTo 0 = .ok (.aload_n 0, 1) := by decide +kernel
theorem d_Mo_refinesTo_1 : decode b_Mo_refinesTo 1 = .ok (.getfield 23, 3) := by decide +kernel
theorem d_Mo_refinesTo_4 : decode b_Mo_refinesTo 4 = .ok (.bipush 8, 2) := by decide +kernel
theorem d_Mo_refinesTo_6 : decode b_Mo_refinesTo 6 = .ok (.iload_n 1, 1) := by decide +kernel
theorem d_Mo_refinesTo_7 : decode b_Mo_refinesTo 7 = .ok (.imul, 1) := by decide +kernel
theorem d_Mo_refinesTo_8 : decode b_Mo_refinesTo 8 = .ok (.iload_n 2, 1) := by decide +kernel
theorem d_Mo_refinesTo_9 : decode b_Mo_refinesTo 9 = .ok (.iadd, 1) := by decide +kernel
theorem d_Mo_refinesTo_10 : decode b_Mo_refinesTo 10 = .ok (.iaload, 1) := by decide +kernel
theorem d_Mo_refinesTo_11 : decode b_Mo_refinesTo 11 = .ok (.bipush 44, 2) := by decide +kernel
theorem d_Mo_refinesTo_13 : decode b_Mo_refinesTo 13 = .ok (.iload_n 3, 1) := by decide +kernel
theorem d_Mo_refinesTo_14 : decode b_Mo_refinesTo 14 = .ok (.iadd, 1) := by decide +kernel
theorem d_Mo_refinesTo_15 : decode b_Mo_refinesTo 15 = .ok (.if_icmp .ge 12, 3) := by decide +kernel
theorem d_Mo_refinesTo_18 : decode b_Mo_refinesTo 18 = .ok (.aload_n 0, 1) := by decide +kernel
theorem d_Mo_refinesTo_19 : decode b_Mo_refinesTo 19 = .ok (.iload_n 1, 1) := by decide +kernel
theorem d_Mo_refinesTo_20 : decode b_Mo_refinesTo 20 = .ok (.iload_n 2, 1) := by decide +kernel
theorem d_Mo_refinesTo_21 : decode b_Mo_refinesTo 21 = .ok (.invokevirtual 134, 3) := by decide +kernel
theorem d_Mo_refinesTo_24 : decode b_Mo_refinesTo 24 = .ok (.goto (-24), 3) := by decide +kernel
theorem d_Mo_refinesTo_27 : decode b_Mo_refinesTo 27 = .ok (.return_, 1) := by decide +kernel
theorem d_Mo_lowOf_0 : decode b_Mo_lowOf 0 = .ok (.aload_n 0, 1) := by decide +kernel
theorem d_Mo_lowOf_1 : decode b_Mo_lowOf 1 = .ok (.iload_n 1, 1) := by decide +kernel
theorem d_Mo_lowOf_2 : decode b_Mo_lowOf 2 = .ok (.aload_n 0, 1) := by decide +kernel
theorem d_Mo_lowOf_3 : decode b_Mo_lowOf 3 = .ok (.iload_n 2, 1) := by decide +kernel
theorem d_Mo_lowOf_4 : decode b_Mo_lowOf 4 = .ok (.iload_n 3, 1) := by decide +kernel
theorem d_Mo_lowOf_5 : decode b_Mo_lowOf 5 = .ok (.invokevirtual 115, 3) := by decide +kernel
theorem d_Mo_lowOf_8 : decode b_Mo_lowOf 8 = .ok (.aload_n 0, 1) := by decide +kernel
theorem d_Mo_lowOf_9 : decode b_Mo_lowOf 9 = .ok (.getfield 23, 3) := by decide +kernel
theorem d_Mo_lowOf_12 : decode b_Mo_lowOf 12 = .ok (.bipush 8, 2) := by decide +kernel
theorem d_Mo_lowOf_14 : decode b_Mo_lowOf 14 = .ok (.iload_n 2, 1) := by decide +kernel
theorem d_Mo_lowOf_15 : decode b_Mo_lowOf 15 = .ok (.imul, 1) := by decide +kernel
theorem d_Mo_lowOf_16 : decode b_Mo_lowOf 16 = .ok (.iload_n 3, 1) := by decide +kernel
theorem d_Mo_lowOf_17 : decode b_Mo_lowOf 17 = .ok (.iadd, 1) := by decide +kernel
theorem d_Mo_lowOf_18 : decode b_Mo_lowOf 18 = .ok (.iaload, 1) := by decide +kernel
theorem d_Mo_lowOf_19 : decode b_Mo_lowOf 19 = .ok (.invokevirtual 111, 3) := by decide +kernel
theorem d_Mo_lowOf_22 : decode b_Mo_lowOf 22 = .ok (.ireturn, 1) := by decide +kernel
theorem d_Mo_sideOfRoot_0 : decode b_Mo_sideOfRoot 0 = .ok (.aload_n 0, 1) := by decide +kernel
theorem d_Mo_sideOfRoot_1 : decode b_Mo_sideOfRoot 1 = .ok (.iload_n 1, 1) := by decide +kernel
theorem d_Mo_sideOfRoot_2 : decode b_Mo_sideOfRoot 2 = .ok (.iload_n 2, 1) := by decide +kernel
theorem d_Mo_sideOfRoot_3 : decode b_Mo_sideOfRoot 3 = .ok (.iload 5, 2) := by decide +kernel
theorem d_Mo_sideOfRoot_5 : decode b_Mo_sideOfRoot 5 = .ok (.invokevirtual 159, 3) := by decide +kernel
theorem d_Mo_sideOfRoot_8 : decode b_Mo_sideOfRoot 8 = .ok (.aload_n 0, 1) := by decide +kernel
theorem d_Mo_sideOfRoot_9 : decode b_Mo_sideOfRoot 9 = .ok (.bipush 113, 2) := by decide +kernel
theorem d_Mo_sideOfRoot_11 : decode b_Mo_sideOfRoot 11 = .ok (.iload_n 1, 1) := by decide +kernel
theorem d_Mo_sideOfRoot_12 : decode b_Mo_sideOfRoot 12 = .ok (.iload_n 2, 1) := by decide +kernel
theorem d_Mo_sideOfRoot_13 : decode b_Mo_sideOfRoot 13 = .ok (.invokevirtual 162, 3) := by decide +kernel
theorem d_Mo_sideOfRoot_16 : decode b_Mo_sideOfRoot 16 = .ok (.istore 6, 2) := by decide +kernel
theorem d_Mo_sideOfRoot_18 : decode b_Mo_sideOfRoot 18 = .ok (.aload_n 0, 1) := by decide +kernel
theorem d_Mo_sideOfRoot_19 : decode b_Mo_sideOfRoot 19 = .ok (.bipush 114, 2) := by decide +kernel
theorem d_Mo_sideOfRoot_21 : decode b_Mo_sideOfRoot 21 = .ok (.lload_n 3, 1) := by decide +kernel
theorem d_Mo_sideOfRoot_22 : decode b_Mo_sideOfRoot 22 = .ok (.invokevirtual 72, 3) := by decide +kernel
theorem d_Mo_sideOfRoot_25 : decode b_Mo_sideOfRoot 25 = .ok (.aload_n 0, 1) := by decide +kernel
theorem d_Mo_sideOfRoot_26 : decode b_Mo_sideOfRoot 26 = .ok (.bipush 114, 2) := by decide +kernel
theorem d_Mo_sideOfRoot_28 : decode b_Mo_sideOfRoot 28 = .ok (.bipush 114, 2) := by decide +kernel
theorem d_Mo_sideOfRoot_30 : decode b_Mo_sideOfRoot 30 = .ok (.iload 6, 2) := by decide +kernel
theorem d_Mo_sideOfRoot_32 : decode b_Mo_sideOfRoot 32 = .ok (.iload 5, 2) := by decide +kernel
theorem d_Mo_sideOfRoot_34 : decode b_Mo_sideOfRoot 34 = .ok (.isub, 1) := by decide +kernel
theorem d_Mo_sideOfRoot_35 : decode b_Mo_sideOfRoot 35 = .ok (.invokevirtual 108, 3) := by decide +kernel
theorem d_Mo_sideOfRoot_38 : decode b_Mo_sideOfRoot 38 = .ok (.aload_n 0, 1) := by decide +kernel
theorem d_Mo_sideOfRoot_39 : decode b_Mo_sideOfRoot 39 = .ok (.bipush 113, 2) := by decide +kernel
theorem d_Mo_sideOfRoot_41 : decode b_Mo_sideOfRoot 41 = .ok (.bipush 114, 2) := by decide +kernel
theorem d_Mo_sideOfRoot_43 : decode b_Mo_sideOfRoot 43 = .ok (.invokevirtual 165, 3) := by decide +kernel
theorem d_Mo_sideOfRoot_46 : decode b_Mo_sideOfRoot 46 = .ok (.istore 7, 2) := by decide +kernel
theorem d_Mo_sideOfRoot_48 : decode b_Mo_sideOfRoot 48 = .ok (.aload_n 0, 1) := by decide +kernel
theorem d_Mo_sideOfRoot_49 : decode b_Mo_sideOfRoot 49 = .ok (.getfield 26, 3) := by decide +kernel
theorem d_Mo_sideOfRoot_52 : decode b_Mo_sideOfRoot 52 = .ok (.bipush 8, 2) := by decide +kernel
theorem d_Mo_sideOfRoot_54 : decode b_Mo_sideOfRoot 54 = .ok (.iload_n 1, 1) := by decide +kernel
theorem d_Mo_sideOfRoot_55 : decode b_Mo_sideOfRoot 55 = .ok (.imul, 1) := by decide +kernel
theorem d_Mo_sideOfRoot_56 : decode b_Mo_sideOfRoot 56 = .ok (.iload_n 2, 1) := by decide +kernel
theorem d_Mo_sideOfRoot_57 : decode b_Mo_sideOfRoot 57 = .ok (.iadd, 1) := by decide +kernel
theorem d_Mo_sideOfRoot_58 : decode b_Mo_sideOfRoot 58 = .ok (.baload, 1) := by decide +kernel
theorem d_Mo_sideOfRoot_59 : decode b_Mo_sideOfRoot 59 = .ok (.ifCond .eq 6, 3) := by decide +kernel
theorem d_Mo_sideOfRoot_62 : decode b_Mo_sideOfRoot 62 = .ok (.iload 7, 2) := by decide +kernel
theorem d_Mo_sideOfRoot_64 : decode b_Mo_sideOfRoot 64 = .ok (.ireturn, 1) := by decide +kernel
theorem d_Mo_sideOfRoot_65 : decode b_Mo_sideOfRoot 65 = .ok (.iload 7, 2) := by decide +kernel
theorem d_Mo_sideOfRoot_67 : decode b_Mo_sideOfRoot 67 = .ok (.ifCond .lt 7, 3) := by decide +kernel
theorem d_Mo_sideOfRoot_70 : decode b_Mo_sideOfRoot 70 = .ok (.iconst 1, 1) := by decide +kernel
theorem d_Mo_sideOfRoot_71 : decode b_Mo_sideOfRoot 71 = .ok (.goto 4, 3) := by decide +kernel
theorem d_Mo_sideOfRoot_74 : decode b_Mo_sideOfRoot 74 = .ok (.iconst (-1), 1) := by decide +kernel
theorem d_Mo_sideOfRoot_75 : decode b_Mo_sideOfRoot 75 = .ok (.ireturn, 1) := by decide +kernel
theorem d_Mo_isZeroAt_0 : decode b_Mo_isZeroAt 0 = .ok (.aload_n 0, 1) := by decide +kernel
theorem d_Mo_isZeroAt_1 : decode b_Mo_isZeroAt 1 = .ok (.getfield 20, 3) := by decide +kernel
theorem d_Mo_isZeroAt_4 : decode b_Mo_isZeroAt 4 = .ok (.iload_n 1, 1) := by decide +kernel
theorem d_Mo_isZeroAt_5 : decode b_Mo_isZeroAt 5 = .ok (.iaload, 1) := by decide +kernel
theorem d_Mo_isZeroAt_6 : decode b_Mo_isZeroAt 6 = .ok (.iconst 1, 1) := by decide +kernel
theorem d_Mo_isZeroAt_7 : decode b_Mo_isZeroAt 7 = .ok (.if_icmp .ge 5, 3) := by decide +kernel
theorem d_Mo_isZeroAt_10 : decode b_Mo_isZeroAt 10 = .ok (.iconst 0, 1) := by decide +kernel
theorem d_Mo_isZeroAt_11 : decode b_Mo_isZeroAt 11 = .ok (.ireturn, 1) := by decide +kernel
theorem d_Mo_isZeroAt_12 : decode b_Mo_isZeroAt 12 = .ok (.aload_n 0, 1) := by decide +kernel
theorem d_Mo_isZeroAt_13 : decode b_Mo_isZeroAt 13 = .ok (.bipush 113, 2) := by decide +kernel
theorem d_Mo_isZeroAt_15 : decode b_Mo_isZeroAt 15 = .ok (.iload_n 2, 1) := by decide +kernel
theorem d_Mo_isZeroAt_16 : decode b_Mo_isZeroAt 16 = .ok (.iload_n 3, 1) := by decide +kernel
theorem d_Mo_isZeroAt_17 : decode b_Mo_isZeroAt 17 = .ok (.invokevirtual 162, 3) := by decide +kernel
theorem d_Mo_isZeroAt_20 : decode b_Mo_isZeroAt 20 = .ok (.istore 4, 2) := by decide +kernel
theorem d_Mo_isZeroAt_22 : decode b_Mo_isZeroAt 22 = .ok (.aload_n 0, 1) := by decide +kernel
theorem d_Mo_isZeroAt_23 : decode b_Mo_isZeroAt 23 = .ok (.getfield 26, 3) := by decide +kernel
theorem d_Mo_isZeroAt_26 : decode b_Mo_isZeroAt 26 = .ok (.bipush 8, 2) := by decide +kernel
theorem d_Mo_isZeroAt_28 : decode b_Mo_isZeroAt 28 = .ok (.iload_n 2, 1) := by decide +kernel
theorem d_Mo_isZeroAt_29 : decode b_Mo_isZeroAt 29 = .ok (.imul, 1) := by decide +kernel
theorem d_Mo_isZeroAt_30 : decode b_Mo_isZeroAt 30 = .ok (.iload_n 3, 1) := by decide +kernel
theorem d_Mo_isZeroAt_31 : decode b_Mo_isZeroAt 31 = .ok (.iadd, 1) := by decide +kernel
theorem d_Mo_isZeroAt_32 : decode b_Mo_isZeroAt 32 = .ok (.baload, 1) := by decide +kernel
theorem d_Mo_isZeroAt_33 : decode b_Mo_isZeroAt 33 = .ok (.ifCond .eq 15, 3) := by decide +kernel
theorem d_Mo_isZeroAt_36 : decode b_Mo_isZeroAt 36 = .ok (.aload_n 0, 1) := by decide +kernel
theorem d_Mo_isZeroAt_37 : decode b_Mo_isZeroAt 37 = .ok (.iload_n 1, 1) := by decide +kernel
theorem d_Mo_isZeroAt_38 : decode b_Mo_isZeroAt 38 = .ok (.bipush 113, 2) := by decide +kernel
theorem d_Mo_isZeroAt_40 : decode b_Mo_isZeroAt 40 = .ok (.iload 4, 2) := by decide +kernel
theorem d_Mo_isZeroAt_42 : decode b_Mo_isZeroAt 42 = .ok (.invokevirtual 131, 3) := by decide +kernel
theorem d_Mo_isZeroAt_45 : decode b_Mo_isZeroAt 45 = .ok (.goto 12, 3) := by decide +kernel
theorem d_Mo_isZeroAt_48 : decode b_Mo_isZeroAt 48 = .ok (.aload_n 0, 1) := by decide +kernel
theorem d_Mo_isZeroAt_49 : decode b_Mo_isZeroAt 49 = .ok (.iload_n 1, 1) := by decide +kernel
theorem d_Mo_isZeroAt_50 : decode b_Mo_isZeroAt 50 = .ok (.bipush 113, 2) := by decide +kernel
theorem d_Mo_isZeroAt_52 : decode b_Mo_isZeroAt 52 = .ok (.iload 4, 2) := by decide +kernel
theorem d_Mo_isZeroAt_54 : decode b_Mo_isZeroAt 54 = .ok (.invokevirtual 137, 3) := by decide +kernel
theorem d_Mo_isZeroAt_57 : decode b_Mo_isZeroAt 57 = .ok (.istore 5, 2) := by decide +kernel
theorem d_Mo_isZeroAt_59 : decode b_Mo_isZeroAt 59 = .ok (.aload_n 0, 1) := by decide +kernel
theorem d_Mo_isZeroAt_60 : decode b_Mo_isZeroAt 60 = .ok (.getfield 26, 3) := by decide +kernel
theorem d_Mo_isZeroAt_63 : decode b_Mo_isZeroAt 63 = .ok (.bipush 8, 2) := by decide +kernel
theorem d_Mo_isZeroAt_65 : decode b_Mo_isZeroAt 65 = .ok (.iload_n 2, 1) := by decide +kernel
theorem d_Mo_isZeroAt_66 : decode b_Mo_isZeroAt 66 = .ok (.imul, 1) := by decide +kernel
theorem d_Mo_isZeroAt_67 : decode b_Mo_isZeroAt 67 = .ok (.iload_n 3, 1) := by decide +kernel
theorem d_Mo_isZeroAt_68 : decode b_Mo_isZeroAt 68 = .ok (.iadd, 1) := by decide +kernel
theorem d_Mo_isZeroAt_69 : decode b_Mo_isZeroAt 69 = .ok (.baload, 1) := by decide +kernel
theorem d_Mo_isZeroAt_70 : decode b_Mo_isZeroAt 70 = .ok (.ifCond .eq 14, 3) := by decide +kernel
theorem d_Mo_isZeroAt_73 : decode b_Mo_isZeroAt 73 = .ok (.iload 5, 2) := by decide +kernel
theorem d_Mo_isZeroAt_75 : decode b_Mo_isZeroAt 75 = .ok (.ifCond .ne 7, 3) := by decide +kernel
theorem d_Mo_isZeroAt_78 : decode b_Mo_isZeroAt 78 = .ok (.iconst 1, 1) := by decide +kernel
theorem d_Mo_isZeroAt_79 : decode b_Mo_isZeroAt 79 = .ok (.goto 4, 3) := by decide +kernel
theorem d_Mo_isZeroAt_82 : decode b_Mo_isZeroAt 82 = .ok (.iconst 0, 1) := by decide +kernel
theorem d_Mo_isZeroAt_83 : decode b_Mo_isZeroAt 83 = .ok (.ireturn, 1) := by decide +kernel
theorem d_Mo_isZeroAt_84 : decode b_Mo_isZeroAt 84 = .ok (.aload_n 0, 1) := by decide +kernel
theorem d_Mo_isZeroAt_85 : decode b_Mo_isZeroAt 85 = .ok (.bipush 114, 2) := by decide +kernel
theorem d_Mo_isZeroAt_87 : decode b_Mo_isZeroAt 87 = .ok (.lconst 1, 1) := by decide +kernel
theorem d_Mo_isZeroAt_88 : decode b_Mo_isZeroAt 88 = .ok (.invokevirtual 72, 3) := by decide +kernel
theorem d_Mo_isZeroAt_91 : decode b_Mo_isZeroAt 91 = .ok (.aload_n 0, 1) := by decide +kernel
theorem d_Mo_isZeroAt_92 : decode b_Mo_isZeroAt 92 = .ok (.bipush 113, 2) := by decide +kernel
theorem d_Mo_isZeroAt_94 : decode b_Mo_isZeroAt 94 = .ok (.bipush 113, 2) := by decide +kernel
theorem d_Mo_isZeroAt_96 : decode b_Mo_isZeroAt 96 = .ok (.bipush 114, 2) := by decide +kernel
theorem d_Mo_isZeroAt_98 : decode b_Mo_isZeroAt 98 = .ok (.iconst 1, 1) := by decide +kernel
theorem d_Mo_isZeroAt_99 : decode b_Mo_isZeroAt 99 = .ok (.invokevirtual 83, 3) := by decide +kernel
theorem d_Mo_isZeroAt_102 : decode b_Mo_isZeroAt 102 = .ok (.aload_n 0, 1) := by decide +kernel
theorem d_Mo_isZeroAt_103 : decode b_Mo_isZeroAt 103 = .ok (.iload_n 1, 1) := by decide +kernel
theorem d_Mo_isZeroAt_104 : decode b_Mo_isZeroAt 104 = .ok (.bipush 113, 2) := by decide +kernel
theorem d_Mo_isZeroAt_106 : decode b_Mo_isZeroAt 106 = .ok (.iload 4, 2) := by decide +kernel
theorem d_Mo_isZeroAt_108 : decode b_Mo_isZeroAt 108 = .ok (.invokevirtual 131, 3) := by decide +kernel
theorem d_Mo_isZeroAt_111 : decode b_Mo_isZeroAt 111 = .ok (.istore 6, 2) := by decide +kernel
theorem d_Mo_isZeroAt_113 : decode b_Mo_isZeroAt 113 = .ok (.iload 6, 2) := by decide +kernel
theorem d_Mo_isZeroAt_115 : decode b_Mo_isZeroAt 115 = .ok (.ifCond .eq 16, 3) := by decide +kernel
theorem d_Mo_isZeroAt_118 : decode b_Mo_isZeroAt 118 = .ok (.iload 6, 2) := by decide +kernel
theorem d_Mo_isZeroAt_120 : decode b_Mo_isZeroAt 120 = .ok (.iload 5, 2) := by decide +kernel
theorem d_Mo_isZeroAt_122 : decode b_Mo_isZeroAt 122 = .ok (.if_icmp .eq 7, 3) := by decide +kernel
theorem d_Mo_isZeroAt_125 : decode b_Mo_isZeroAt 125 = .ok (.iconst 1, 1) := by decide +kernel
theorem d_Mo_isZeroAt_126 : decode b_Mo_isZeroAt 126 = .ok (.goto 4, 3) := by decide +kernel
theorem d_Mo_isZeroAt_129 : decode b_Mo_isZeroAt 129 = .ok (.iconst 0, 1) := by decide +kernel
theorem d_Mo_isZeroAt_130 : decode b_Mo_isZeroAt 130 = .ok (.ireturn, 1) := by decide +kernel
theorem d_Mo_isZeroAt_131 : decode b_Mo_isZeroAt 131 = .ok (.aload_n 0, 1) := by decide +kernel
theorem d_Mo_isZeroAt_132 : decode b_Mo_isZeroAt 132 = .ok (.bipush 7, 2) := by decide +kernel
theorem d_Mo_isZeroAt_134 : decode b_Mo_isZeroAt 134 = .ok (.iload_n 1, 1) := by decide +kernel
theorem d_Mo_isZeroAt_135 : decode b_Mo_isZeroAt 135 = .ok (.invokevirtual 99, 3) := by decide +kernel
theorem d_Mo_isZeroAt_138 : decode b_Mo_isZeroAt 138 = .ok (.aload_n 0, 1) := by decide +kernel
theorem d_Mo_isZeroAt_139 : decode b_Mo_isZeroAt 139 = .ok (.bipush 7, 2) := by decide +kernel
theorem d_Mo_isZeroAt_141 : decode b_Mo_isZeroAt 141 = .ok (.bipush 113, 2) := by decide +kernel
theorem d_Mo_isZeroAt_143 : decode b_Mo_isZeroAt 143 = .ok (.iload 4, 2) := by decide +kernel
theorem d_Mo_isZeroAt_145 : decode b_Mo_isZeroAt 145 = .ok (.invokevirtual 131, 3) := by decide +kernel
theorem d_Mo_isZeroAt_148 : decode b_Mo_isZeroAt 148 = .ok (.ineg, 1) := by decide +kernel
theorem d_Mo_isZeroAt_149 : decode b_Mo_isZeroAt 149 = .ok (.iload 5, 2) := by decide +kernel
theorem d_Mo_isZeroAt_151 : decode b_Mo_isZeroAt 151 = .ok (.if_icmp .eq 7, 3) := by decide +kernel
theorem d_Mo_isZeroAt_154 : decode b_Mo_isZeroAt 154 = .ok (.iconst 1, 1) := by decide +kernel
theorem d_Mo_isZeroAt_155 : decode b_Mo_isZeroAt 155 = .ok (.goto 4, 3) := by decide +kernel
theorem d_Mo_isZeroAt_158 : decode b_Mo_isZeroAt 158 = .ok (.iconst 0, 1) := by decide +kernel
theorem d_Mo_isZeroAt_159 : decode b_Mo_isZeroAt 159 = .ok (.ireturn, 1) := by decide +kernel
theorem d_Mo_falls_0 : decode b_Mo_falls 0 = .ok (.aload_n 0, 1) := by decide +kernel
theorem d_Mo_falls_1 : decode b_Mo_falls 1 = .ok (.getfield 17, 3) := by decide +kernel
theorem d_Mo_falls_4 : decode b_Mo_falls 4 = .ok (.iload_n 1, 1) := by decide +kernel
theorem d_Mo_falls_5 : decode b_Mo_falls 5 = .ok (.iaload, 1) := by decide +kernel
theorem d_Mo_falls_6 : decode b_Mo_falls 6 = .ok (.istore_n 3, 1) := by decide +kernel
theorem d_Mo_falls_7 : decode b_Mo_falls 7 = .ok (.iconst 0, 1) := by decide +kernel
theorem d_Mo_falls_8 : decode b_Mo_falls 8 = .ok (.istore 4, 2) := by decide +kernel
theorem d_Mo_falls_10 : decode b_Mo_falls 10 = .ok (.iload_n 2, 1) := by decide +kernel
theorem d_Mo_falls_11 : decode b_Mo_falls 11 = .ok (.istore 5, 2) := by decide +kernel
theorem d_Mo_falls_13 : decode b_Mo_falls 13 = .ok (.iload 5, 2) := by decide +kernel
theorem d_Mo_falls_15 : decode b_Mo_falls 15 = .ok (.ifCond .le 36, 3) := by decide +kernel
theorem d_Mo_falls_18 : decode b_Mo_falls 18 = .ok (.aload_n 0, 1) := by decide +kernel
theorem d_Mo_falls_19 : decode b_Mo_falls 19 = .ok (.iload_n 1, 1) := by decide +kernel
theorem d_Mo_falls_20 : decode b_Mo_falls 20 = .ok (.iconst 1, 1) := by decide +kernel
theorem d_Mo_falls_21 : decode b_Mo_falls 21 = .ok (.iload 5, 2) := by decide +kernel
theorem d_Mo_falls_23 : decode b_Mo_falls 23 = .ok (.bipush 15, 2) := by decide +kernel
theorem d_Mo_falls_25 : decode b_Mo_falls 25 = .ok (.if_icmp .ge 8, 3) := by decide +kernel
theorem d_Mo_falls_28 : decode b_Mo_falls 28 = .ok (.iload 5, 2) := by decide +kernel
theorem d_Mo_falls_30 : decode b_Mo_falls 30 = .ok (.goto 5, 3) := by decide +kernel
theorem d_Mo_falls_33 : decode b_Mo_falls 33 = .ok (.bipush 15, 2) := by decide +kernel
theorem d_Mo_falls_35 : decode b_Mo_falls 35 = .ok (.ishl, 1) := by decide +kernel
theorem d_Mo_falls_36 : decode b_Mo_falls 36 = .ok (.invokevirtual 128, 3) := by decide +kernel
theorem d_Mo_falls_39 : decode b_Mo_falls 39 = .ok (.ifCond .le 6, 3) := by decide +kernel
theorem d_Mo_falls_42 : decode b_Mo_falls 42 = .ok (.iconst 1, 1) := by decide +kernel
theorem d_Mo_falls_43 : decode b_Mo_falls 43 = .ok (.istore 4, 2) := by decide +kernel
theorem d_Mo_falls_45 : decode b_Mo_falls 45 = .ok (.iinc 5 (-15), 3) := by decide +kernel
theorem d_Mo_falls_48 : decode b_Mo_falls 48 = .ok (.goto (-35), 3) := by decide +kernel
theorem d_Mo_falls_51 : decode b_Mo_falls 51 = .ok (.iload_n 3, 1) := by decide +kernel
theorem d_Mo_falls_52 : decode b_Mo_falls 52 = .ok (.ifCond .ge 8, 3) := by decide +kernel
theorem d_Mo_falls_55 : decode b_Mo_falls 55 = .ok (.iload 4, 2) := by decide +kernel
theorem d_Mo_falls_57 : decode b_Mo_falls 57 = .ok (.ifCond .ne 4, 3) := by decide +kernel
theorem d_Mo_falls_60 : decode b_Mo_falls 60 = .ok (.return_, 1) := by decide +kernel
theorem d_Mo_falls_61 : decode b_Mo_falls 61 = .ok (.aload_n 0, 1) := by decide +kernel
theorem d_Mo_falls_62 : decode b_Mo_falls 62 = .ok (.bipush 126, 2) := by decide +kernel
theorem d_Mo_falls_64 : decode b_Mo_falls 64 = .ok (.ldc2_w 176, 3) := by decide +kernel
theorem d_Mo_falls_67 : decode b_Mo_falls 67 = .ok (.invokevirtual 72, 3) := by decide +kernel
theorem d_Mo_falls_70 : decode b_Mo_falls 70 = .ok (.aload_n 0, 1) := by decide +kernel
theorem d_Mo_falls_71 : decode b_Mo_falls 71 = .ok (.iload_n 1, 1) := by decide +kernel
theorem d_Mo_falls_72 : decode b_Mo_falls 72 = .ok (.iload_n 1, 1) := by decide +kernel
theorem d_Mo_falls_73 : decode b_Mo_falls 73 = .ok (.bipush 126, 2) := by decide +kernel
theorem d_Mo_falls_75 : decode b_Mo_falls 75 = .ok (.iconst 1, 1) := by decide +kernel
theorem d_Mo_falls_76 : decode b_Mo_falls 76 = .ok (.invokevirtual 83, 3) := by decide +kernel
theorem d_Mo_falls_79 : decode b_Mo_falls 79 = .ok (.return_, 1) := by decide +kernel
theorem d_Mo_signAtRatio_0 : decode b_Mo_signAtRatio 0 = .ok (.aload_n 0, 1) := by decide +kernel
theorem d_Mo_signAtRatio_1 : decode b_Mo_signAtRatio 1 = .ok (.getfield 20, 3) := by decide +kernel
theorem d_Mo_signAtRatio_4 : decode b_Mo_signAtRatio 4 = .ok (.iload_n 1, 1) := by decide +kernel
theorem d_Mo_signAtRatio_5 : decode b_Mo_signAtRatio 5 = .ok (.iaload, 1) := by decide +kernel
theorem d_Mo_signAtRatio_6 : decode b_Mo_signAtRatio 6 = .ok (.istore 4, 2) := by decide +kernel
theorem d_Mo_signAtRatio_8 : decode b_Mo_signAtRatio 8 = .ok (.aload_n 0, 1) := by decide +kernel
theorem d_Mo_signAtRatio_9 : decode b_Mo_signAtRatio 9 = .ok (.bipush 127, 2) := by decide +kernel
theorem d_Mo_signAtRatio_11 : decode b_Mo_signAtRatio 11 = .ok (.bipush 9, 2) := by decide +kernel
theorem d_Mo_signAtRatio_13 : decode b_Mo_signAtRatio 13 = .ok (.iload_n 1, 1) := by decide +kernel
theorem d_Mo_signAtRatio_14 : decode b_Mo_signAtRatio 14 = .ok (.imul, 1) := by decide +kernel
theorem d_Mo_signAtRatio_15 : decode b_Mo_signAtRatio 15 = .ok (.iload 4, 2) := by decide +kernel
theorem d_Mo_signAtRatio_17 : decode b_Mo_signAtRatio 17 = .ok (.iadd, 1) := by decide +kernel
theorem d_Mo_signAtRatio_18 : decode b_Mo_signAtRatio 18 = .ok (.invokevirtual 69, 3) := by decide +kernel
theorem d_Mo_signAtRatio_21 : decode b_Mo_signAtRatio 21 = .ok (.aload_n 0, 1) := by decide +kernel
theorem d_Mo_signAtRatio_22 : decode b_Mo_signAtRatio 22 = .ok (.sipush 128, 3) := by decide +kernel
theorem d_Mo_signAtRatio_25 : decode b_Mo_signAtRatio 25 = .ok (.lconst 1, 1) := by decide +kernel
theorem d_Mo_signAtRatio_26 : decode b_Mo_signAtRatio 26 = .ok (.invokevirtual 72, 3) := by decide +kernel
theorem d_Mo_signAtRatio_29 : decode b_Mo_signAtRatio 29 = .ok (.iload 4, 2) := by decide +kernel
theorem d_Mo_signAtRatio_31 : decode b_Mo_signAtRatio 31 = .ok (.iconst 1, 1) := by decide +kernel
theorem d_Mo_signAtRatio_32 : decode b_Mo_signAtRatio 32 = .ok (.isub, 1) := by decide +kernel
theorem d_Mo_signAtRatio_33 : decode b_Mo_signAtRatio 33 = .ok (.istore 5, 2) := by decide +kernel
theorem d_Mo_signAtRatio_35 : decode b_Mo_signAtRatio 35 = .ok (.iload 5, 2) := by decide +kernel
theorem d_Mo_signAtRatio_37 : decode b_Mo_signAtRatio 37 = .ok (.ifCond .lt 58, 3) := by decide +kernel
theorem d_Mo_signAtRatio_40 : decode b_Mo_signAtRatio 40 = .ok (.aload_n 0, 1) := by decide +kernel
theorem d_Mo_signAtRatio_41 : decode b_Mo_signAtRatio 41 = .ok (.bipush 127, 2) := by decide +kernel
theorem d_Mo_signAtRatio_43 : decode b_Mo_signAtRatio 43 = .ok (.bipush 127, 2) := by decide +kernel
theorem d_Mo_signAtRatio_45 : decode b_Mo_signAtRatio 45 = .ok (.iload_n 2, 1) := by decide +kernel
theorem d_Mo_signAtRatio_46 : decode b_Mo_signAtRatio 46 = .ok (.invokevirtual 76, 3) := by decide +kernel
theorem d_Mo_signAtRatio_49 : decode b_Mo_signAtRatio 49 = .ok (.aload_n 0, 1) := by decide +kernel
theorem d_Mo_signAtRatio_50 : decode b_Mo_signAtRatio 50 = .ok (.sipush 128, 3) := by decide +kernel
theorem d_Mo_signAtRatio_53 : decode b_Mo_signAtRatio 53 = .ok (.sipush 128, 3) := by decide +kernel
theorem d_Mo_signAtRatio_56 : decode b_Mo_signAtRatio 56 = .ok (.iload_n 3, 1) := by decide +kernel
theorem d_Mo_signAtRatio_57 : decode b_Mo_signAtRatio 57 = .ok (.invokevirtual 76, 3) := by decide +kernel
theorem d_Mo_signAtRatio_60 : decode b_Mo_signAtRatio 60 = .ok (.aload_n 0, 1) := by decide +kernel
theorem d_Mo_signAtRatio_61 : decode b_Mo_signAtRatio 61 = .ok (.sipush 129, 3) := by decide +kernel
theorem d_Mo_signAtRatio_64 : decode b_Mo_signAtRatio 64 = .ok (.bipush 9, 2) := by decide +kernel
theorem d_Mo_signAtRatio_66 : decode b_Mo_signAtRatio 66 = .ok (.iload_n 1, 1) := by decide +kernel
theorem d_Mo_signAtRatio_67 : decode b_Mo_signAtRatio 67 = .ok (.imul, 1) := by decide +kernel
theorem d_Mo_signAtRatio_68 : decode b_Mo_signAtRatio 68 = .ok (.iload 5, 2) := by decide +kernel
theorem d_Mo_signAtRatio_70 : decode b_Mo_signAtRatio 70 = .ok (.iadd, 1) := by decide +kernel
theorem d_Mo_signAtRatio_71 : decode b_Mo_signAtRatio 71 = .ok (.sipush 128, 3) := by decide +kernel
theorem d_Mo_signAtRatio_74 : decode b_Mo_signAtRatio 74 = .ok (.invokevirtual 76, 3) := by decide +kernel
theorem d_Mo_signAtRatio_77 : decode b_Mo_signAtRatio 77 = .ok (.aload_n 0, 1) := by decide +kernel
theorem d_Mo_signAtRatio_78 : decode b_Mo_signAtRatio 78 = .ok (.bipush 127, 2) := by decide +kernel
theorem d_Mo_signAtRatio_80 : decode b_Mo_signAtRatio 80 = .ok (.bipush 127, 2) := by decide +kernel
theorem d_Mo_signAtRatio_82 : decode b_Mo_signAtRatio 82 = .ok (.sipush 129, 3) := by decide +kernel
theorem d_Mo_signAtRatio_85 : decode b_Mo_signAtRatio 85 = .ok (.iconst 1, 1) := by decide +kernel
theorem d_Mo_signAtRatio_86 : decode b_Mo_signAtRatio 86 = .ok (.invokevirtual 83, 3) := by decide +kernel
theorem d_Mo_signAtRatio_89 : decode b_Mo_signAtRatio 89 = .ok (.iinc 5 (-1), 3) := by decide +kernel
theorem d_Mo_signAtRatio_92 : decode b_Mo_signAtRatio 92 = .ok (.goto (-57), 3) := by decide +kernel
theorem d_Mo_signAtRatio_95 : decode b_Mo_signAtRatio 95 = .ok (.aload_n 0, 1) := by decide +kernel
theorem d_Mo_signAtRatio_96 : decode b_Mo_signAtRatio 96 = .ok (.getfield 17, 3) := by decide +kernel
theorem d_Mo_signAtRatio_99 : decode b_Mo_signAtRatio 99 = .ok (.bipush 127, 2) := by decide +kernel
theorem d_Mo_signAtRatio_101 : decode b_Mo_signAtRatio 101 = .ok (.iaload, 1) := by decide +kernel
theorem d_Mo_signAtRatio_102 : decode b_Mo_signAtRatio 102 = .ok (.ireturn, 1) := by decide +kernel
theorem d_Mo_tens_0 : decode b_Mo_tens 0 = .ok (.sipush 131, 3) := by decide +kernel
theorem d_Mo_tens_3 : decode b_Mo_tens 3 = .ok (.istore 6, 2) := by decide +kernel
theorem d_Mo_tens_5 : decode b_Mo_tens 5 = .ok (.aload_n 0, 1) := by decide +kernel
theorem d_Mo_tens_6 : decode b_Mo_tens 6 = .ok (.iload 6, 2) := by decide +kernel
theorem d_Mo_tens_8 : decode b_Mo_tens 8 = .ok (.lconst 1, 1) := by decide +kernel
theorem d_Mo_tens_9 : decode b_Mo_tens 9 = .ok (.invokevirtual 72, 3) := by decide +kernel
theorem d_Mo_tens_12 : decode b_Mo_tens 12 = .ok (.aload_n 0, 1) := by decide +kernel
theorem d_Mo_tens_13 : decode b_Mo_tens 13 = .ok (.sipush 132, 3) := by decide +kernel
theorem d_Mo_tens_16 : decode b_Mo_tens 16 = .ok (.ldc2_w 193, 3) := by decide +kernel
theorem d_Mo_tens_19 : decode b_Mo_tens 19 = .ok (.invokevirtual 72, 3) := by decide +kernel
theorem d_Mo_tens_22 : decode b_Mo_tens 22 = .ok (.iconst 0, 1) := by decide +kernel
theorem d_Mo_tens_23 : decode b_Mo_tens 23 = .ok (.istore 7, 2) := by decide +kernel
theorem d_Mo_tens_25 : decode b_Mo_tens 25 = .ok (.iload 7, 2) := by decide +kernel
theorem d_Mo_tens_27 : decode b_Mo_tens 27 = .ok (.iload 5, 2) := by decide +kernel
theorem d_Mo_tens_29 : decode b_Mo_tens 29 = .ok (.if_icmp .ge 20, 3) := by decide +kernel
theorem d_Mo_tens_32 : decode b_Mo_tens 32 = .ok (.aload_n 0, 1) := by decide +kernel
theorem d_Mo_tens_33 : decode b_Mo_tens 33 = .ok (.iload 6, 2) := by decide +kernel
theorem d_Mo_tens_35 : decode b_Mo_tens 35 = .ok (.iload 6, 2) := by decide +kernel
theorem d_Mo_tens_37 : decode b_Mo_tens 37 = .ok (.sipush 132, 3) := by decide +kernel
theorem d_Mo_tens_40 : decode b_Mo_tens 40 = .ok (.invokevirtual 76, 3) := by decide +kernel
theorem d_Mo_tens_43 : decode b_Mo_tens 43 = .ok (.iinc 7 1, 3) := by decide +kernel
theorem d_Mo_tens_46 : decode b_Mo_tens 46 = .ok (.goto (-21), 3) := by decide +kernel
theorem d_Mo_tens_49 : decode b_Mo_tens 49 = .ok (.aload_n 0, 1) := by decide +kernel
theorem d_Mo_tens_50 : decode b_Mo_tens 50 = .ok (.sipush 133, 3) := by decide +kernel
theorem d_Mo_tens_53 : decode b_Mo_tens 53 = .ok (.iload_n 3, 1) := by decide +kernel
theorem d_Mo_tens_54 : decode b_Mo_tens 54 = .ok (.invokevirtual 69, 3) := by decide +kernel
theorem d_Mo_tens_57 : decode b_Mo_tens 57 = .ok (.aload_n 0, 1) := by decide +kernel
theorem d_Mo_tens_58 : decode b_Mo_tens 58 = .ok (.iload_n 3, 1) := by decide +kernel
theorem d_Mo_tens_59 : decode b_Mo_tens 59 = .ok (.iload_n 3, 1) := by decide +kernel
theorem d_Mo_tens_60 : decode b_Mo_tens 60 = .ok (.iload 6, 2) := by decide +kernel
theorem d_Mo_tens_62 : decode b_Mo_tens 62 = .ok (.invokevirtual 76, 3) := by decide +kernel
theorem d_Mo_tens_65 : decode b_Mo_tens 65 = .ok (.aload_n 0, 1) := by decide +kernel
theorem d_Mo_tens_66 : decode b_Mo_tens 66 = .ok (.sipush 134, 3) := by decide +kernel
theorem d_Mo_tens_69 : decode b_Mo_tens 69 = .ok (.iload_n 3, 1) := by decide +kernel
theorem d_Mo_tens_70 : decode b_Mo_tens 70 = .ok (.iload 6, 2) := by decide +kernel
theorem d_Mo_tens_72 : decode b_Mo_tens 72 = .ok (.iconst 1, 1) := by decide +kernel
theorem d_Mo_tens_73 : decode b_Mo_tens 73 = .ok (.invokevirtual 83, 3) := by decide +kernel
theorem d_Mo_tens_76 : decode b_Mo_tens 76 = .ok (.aload_n 0, 1) := by decide +kernel
theorem d_Mo_tens_77 : decode b_Mo_tens 77 = .ok (.iload_n 3, 1) := by decide +kernel
theorem d_Mo_tens_78 : decode b_Mo_tens 78 = .ok (.iload 4, 2) := by decide +kernel
theorem d_Mo_tens_80 : decode b_Mo_tens 80 = .ok (.invokevirtual 186, 3) := by decide +kernel
theorem d_Mo_tens_83 : decode b_Mo_tens 83 = .ok (.aload_n 0, 1) := by decide +kernel
theorem d_Mo_tens_84 : decode b_Mo_tens 84 = .ok (.getfield 26, 3) := by decide +kernel
theorem d_Mo_tens_87 : decode b_Mo_tens 87 = .ok (.bipush 8, 2) := by decide +kernel
theorem d_Mo_tens_89 : decode b_Mo_tens 89 = .ok (.iload_n 1, 1) := by decide +kernel
theorem d_Mo_tens_90 : decode b_Mo_tens 90 = .ok (.imul, 1) := by decide +kernel
theorem d_Mo_tens_91 : decode b_Mo_tens 91 = .ok (.iload_n 2, 1) := by decide +kernel
theorem d_Mo_tens_92 : decode b_Mo_tens 92 = .ok (.iadd, 1) := by decide +kernel
theorem d_Mo_tens_93 : decode b_Mo_tens 93 = .ok (.baload, 1) := by decide +kernel
theorem d_Mo_tens_94 : decode b_Mo_tens 94 = .ok (.ifCond .eq 4, 3) := by decide +kernel
theorem d_Mo_tens_97 : decode b_Mo_tens 97 = .ok (.return_, 1) := by decide +kernel
theorem d_Mo_tens_98 : decode b_Mo_tens 98 = .ok (.aload_n 0, 1) := by decide +kernel
theorem d_Mo_tens_99 : decode b_Mo_tens 99 = .ok (.sipush 132, 3) := by decide +kernel
theorem d_Mo_tens_102 : decode b_Mo_tens 102 = .ok (.lconst 1, 1) := by decide +kernel
theorem d_Mo_tens_103 : decode b_Mo_tens 103 = .ok (.invokevirtual 72, 3) := by decide +kernel
theorem d_Mo_tens_106 : decode b_Mo_tens 106 = .ok (.aload_n 0, 1) := by decide +kernel
theorem d_Mo_tens_107 : decode b_Mo_tens 107 = .ok (.sipush 132, 3) := by decide +kernel
theorem d_Mo_tens_110 : decode b_Mo_tens 110 = .ok (.iload_n 3, 1) := by decide +kernel
theorem d_Mo_tens_111 : decode b_Mo_tens 111 = .ok (.sipush 132, 3) := by decide +kernel
theorem d_Mo_tens_114 : decode b_Mo_tens 114 = .ok (.iconst 1, 1) := by decide +kernel
theorem d_Mo_tens_115 : decode b_Mo_tens 115 = .ok (.invokevirtual 83, 3) := by decide +kernel
theorem d_Mo_tens_118 : decode b_Mo_tens 118 = .ok (.aload_n 0, 1) := by decide +kernel
theorem d_Mo_tens_119 : decode b_Mo_tens 119 = .ok (.sipush 135, 3) := by decide +kernel
theorem d_Mo_tens_122 : decode b_Mo_tens 122 = .ok (.sipush 132, 3) := by decide +kernel
theorem d_Mo_tens_125 : decode b_Mo_tens 125 = .ok (.iload 4, 2) := by decide +kernel
theorem d_Mo_tens_127 : decode b_Mo_tens 127 = .ok (.invokevirtual 108, 3) := by decide +kernel
theorem d_Mo_tens_130 : decode b_Mo_tens 130 = .ok (.aload_n 0, 1) := by decide +kernel
theorem d_Mo_tens_131 : decode b_Mo_tens 131 = .ok (.sipush 135, 3) := by decide +kernel
theorem d_Mo_tens_134 : decode b_Mo_tens 134 = .ok (.sipush 134, 3) := by decide +kernel
theorem d_Mo_tens_137 : decode b_Mo_tens 137 = .ok (.invokevirtual 165, 3) := by decide +kernel
theorem d_Mo_tens_140 : decode b_Mo_tens 140 = .ok (.ifCond .lt 4, 3) := by decide +kernel
theorem d_Mo_tens_143 : decode b_Mo_tens 143 = .ok (.return_, 1) := by decide +kernel
theorem d_Mo_tens_144 : decode b_Mo_tens 144 = .ok (.aload_n 0, 1) := by decide +kernel
theorem d_Mo_tens_145 : decode b_Mo_tens 145 = .ok (.iconst 2, 1) := by decide +kernel
theorem d_Mo_tens_146 : decode b_Mo_tens 146 = .ok (.iload_n 1, 1) := by decide +kernel
theorem d_Mo_tens_147 : decode b_Mo_tens 147 = .ok (.iadd, 1) := by decide +kernel
theorem d_Mo_tens_148 : decode b_Mo_tens 148 = .ok (.sipush 133, 3) := by decide +kernel
theorem d_Mo_tens_151 : decode b_Mo_tens 151 = .ok (.iload 4, 2) := by decide +kernel
theorem d_Mo_tens_153 : decode b_Mo_tens 153 = .ok (.invokevirtual 137, 3) := by decide +kernel
theorem d_Mo_tens_156 : decode b_Mo_tens 156 = .ok (.istore 7, 2) := by decide +kernel
theorem d_Mo_tens_158 : decode b_Mo_tens 158 = .ok (.aload_n 0, 1) := by decide +kernel
theorem d_Mo_tens_159 : decode b_Mo_tens 159 = .ok (.iconst 2, 1) := by decide +kernel
theorem d_Mo_tens_160 : decode b_Mo_tens 160 = .ok (.iload_n 1, 1) := by decide +kernel
theorem d_Mo_tens_161 : decode b_Mo_tens 161 = .ok (.iadd, 1) := by decide +kernel
theorem d_Mo_tens_162 : decode b_Mo_tens 162 = .ok (.sipush 132, 3) := by decide +kernel
theorem d_Mo_tens_165 : decode b_Mo_tens 165 = .ok (.iload 6, 2) := by decide +kernel
theorem d_Mo_tens_167 : decode b_Mo_tens 167 = .ok (.invokevirtual 195, 3) := by decide +kernel
theorem d_Mo_tens_170 : decode b_Mo_tens 170 = .ok (.istore 8, 2) := by decide +kernel
theorem d_Mo_tens_172 : decode b_Mo_tens 172 = .ok (.iload 8, 2) := by decide +kernel
theorem d_Mo_tens_174 : decode b_Mo_tens 174 = .ok (.ifCond .eq 10, 3) := by decide +kernel
theorem d_Mo_tens_177 : decode b_Mo_tens 177 = .ok (.iload 8, 2) := by decide +kernel
theorem d_Mo_tens_179 : decode b_Mo_tens 179 = .ok (.iload 7, 2) := by decide +kernel
theorem d_Mo_tens_181 : decode b_Mo_tens 181 = .ok (.if_icmp .ne 11, 3) := by decide +kernel
theorem d_Mo_tens_184 : decode b_Mo_tens 184 = .ok (.aload_n 0, 1) := by decide +kernel
theorem d_Mo_tens_185 : decode b_Mo_tens 185 = .ok (.iload_n 3, 1) := by decide +kernel
theorem d_Mo_tens_186 : decode b_Mo_tens 186 = .ok (.sipush 132, 3) := by decide +kernel
theorem d_Mo_tens_189 : decode b_Mo_tens 189 = .ok (.invokevirtual 69, 3) := by decide +kernel
theorem d_Mo_tens_192 : decode b_Mo_tens 192 = .ok (.return_, 1) := by decide +kernel
theorem d_Mo_writes_0 : decode b_Mo_writes 0 = .ok (.aload_n 0, 1) := by decide +kernel
theorem d_Mo_writes_1 : decode b_Mo_writes 1 = .ok (.bipush 126, 2) := by decide +kernel
theorem d_Mo_writes_3 : decode b_Mo_writes 3 = .ok (.iload_n 1, 1) := by decide +kernel
theorem d_Mo_writes_4 : decode b_Mo_writes 4 = .ok (.invokevirtual 69, 3) := by decide +kernel
theorem d_Mo_writes_7 : decode b_Mo_writes 7 = .ok (.aload_n 0, 1) := by decide +kernel
theorem d_Mo_writes_8 : decode b_Mo_writes 8 = .ok (.getfield 17, 3) := by decide +kernel
theorem d_Mo_writes_11 : decode b_Mo_writes 11 = .ok (.iload_n 1, 1) := by decide +kernel
theorem d_Mo_writes_12 : decode b_Mo_writes 12 = .ok (.iaload, 1) := by decide +kernel
theorem d_Mo_writes_13 : decode b_Mo_writes 13 = .ok (.ifCond .ge 7, 3) := by decide +kernel
theorem d_Mo_writes_16 : decode b_Mo_writes 16 = .ok (.iconst 1, 1) := by decide +kernel
theorem d_Mo_writes_17 : decode b_Mo_writes 17 = .ok (.goto 4, 3) := by decide +kernel
theorem d_Mo_writes_20 : decode b_Mo_writes 20 = .ok (.iconst 0, 1) := by decide +kernel
theorem d_Mo_writes_21 : decode b_Mo_writes 21 = .ok (.istore_n 2, 1) := by decide +kernel
theorem d_Mo_writes_22 : decode b_Mo_writes 22 = .ok (.iconst 0, 1) := by decide +kernel
theorem d_Mo_writes_23 : decode b_Mo_writes 23 = .ok (.istore_n 3, 1) := by decide +kernel
theorem d_Mo_writes_24 : decode b_Mo_writes 24 = .ok (.iconst 1, 1) := by decide +kernel
theorem d_Mo_writes_25 : decode b_Mo_writes 25 = .ok (.istore 4, 2) := by decide +kernel
theorem d_Mo_writes_27 : decode b_Mo_writes 27 = .ok (.iload 4, 2) := by decide +kernel
theorem d_Mo_writes_29 : decode b_Mo_writes 29 = .ok (.ifCond .eq 47, 3) := by decide +kernel
theorem d_Mo_writes_32 : decode b_Mo_writes 32 = .ok (.aload_n 0, 1) := by decide +kernel
theorem d_Mo_writes_33 : decode b_Mo_writes 33 = .ok (.bipush 126, 2) := by decide +kernel
theorem d_Mo_writes_35 : decode b_Mo_writes 35 = .ok (.bipush 10, 2) := by decide +kernel
theorem d_Mo_writes_37 : decode b_Mo_writes 37 = .ok (.invokevirtual 128, 3) := by decide +kernel
theorem d_Mo_writes_40 : decode b_Mo_writes 40 = .ok (.istore 5, 2) := by decide +kernel
theorem d_Mo_writes_42 : decode b_Mo_writes 42 = .ok (.aload_n 0, 1) := by decide +kernel
theorem d_Mo_writes_43 : decode b_Mo_writes 43 = .ok (.getfield 33, 3) := by decide +kernel
theorem d_Mo_writes_46 : decode b_Mo_writes 46 = .ok (.iload_n 3, 1) := by decide +kernel
theorem d_Mo_writes_47 : decode b_Mo_writes 47 = .ok (.bipush 48, 2) := by decide +kernel
theorem d_Mo_writes_49 : decode b_Mo_writes 49 = .ok (.iload 5, 2) := by decide +kernel
theorem d_Mo_writes_51 : decode b_Mo_writes 51 = .ok (.iadd, 1) := by decide +kernel
theorem d_Mo_writes_52 : decode b_Mo_writes 52 = .ok (.iastore, 1) := by decide +kernel
theorem d_Mo_writes_53 : decode b_Mo_writes 53 = .ok (.iinc 3 1, 3) := by decide +kernel
theorem d_Mo_writes_56 : decode b_Mo_writes 56 = .ok (.aload_n 0, 1) := by decide +kernel
theorem d_Mo_writes_57 : decode b_Mo_writes 57 = .ok (.getfield 14, 3) := by decide +kernel
theorem d_Mo_writes_60 : decode b_Mo_writes 60 = .ok (.bipush 126, 2) := by decide +kernel
theorem d_Mo_writes_62 : decode b_Mo_writes 62 = .ok (.iaload, 1) := by decide +kernel
theorem d_Mo_writes_63 : decode b_Mo_writes 63 = .ok (.ifCond .le 7, 3) := by decide +kernel
theorem d_Mo_writes_66 : decode b_Mo_writes 66 = .ok (.iconst 1, 1) := by decide +kernel
theorem d_Mo_writes_67 : decode b_Mo_writes 67 = .ok (.goto 4, 3) := by decide +kernel
theorem d_Mo_writes_70 : decode b_Mo_writes 70 = .ok (.iconst 0, 1) := by decide +kernel
theorem d_Mo_writes_71 : decode b_Mo_writes 71 = .ok (.istore 4, 2) := by decide +kernel
theorem d_Mo_writes_73 : decode b_Mo_writes 73 = .ok (.goto (-46), 3) := by decide +kernel
theorem d_Mo_writes_76 : decode b_Mo_writes 76 = .ok (.iload_n 2, 1) := by decide +kernel
theorem d_Mo_writes_77 : decode b_Mo_writes 77 = .ok (.ifCond .eq 14, 3) := by decide +kernel
theorem d_Mo_writes_80 : decode b_Mo_writes 80 = .ok (.aload_n 0, 1) := by decide +kernel
theorem d_Mo_writes_81 : decode b_Mo_writes 81 = .ok (.getfield 33, 3) := by decide +kernel
theorem d_Mo_writes_84 : decode b_Mo_writes 84 = .ok (.iload_n 3, 1) := by decide +kernel
theorem d_Mo_writes_85 : decode b_Mo_writes 85 = .ok (.bipush 45, 2) := by decide +kernel
theorem d_Mo_writes_87 : decode b_Mo_writes 87 = .ok (.iastore, 1) := by decide +kernel
theorem d_Mo_writes_88 : decode b_Mo_writes 88 = .ok (.iinc 3 1, 3) := by decide +kernel
theorem d_Mo_writes_91 : decode b_Mo_writes 91 = .ok (.iconst 0, 1) := by decide +kernel
theorem d_Mo_writes_92 : decode b_Mo_writes 92 = .ok (.istore 5, 2) := by decide +kernel
theorem d_Mo_writes_94 : decode b_Mo_writes 94 = .ok (.iload 5, 2) := by decide +kernel
theorem d_Mo_writes_96 : decode b_Mo_writes 96 = .ok (.iload_n 3, 1) := by decide +kernel
theorem d_Mo_writes_97 : decode b_Mo_writes 97 = .ok (.iconst 2, 1) := by decide +kernel
theorem d_Mo_writes_98 : decode b_Mo_writes 98 = .ok (.idiv, 1) := by decide +kernel
theorem d_Mo_writes_99 : decode b_Mo_writes 99 = .ok (.if_icmp .ge 49, 3) := by decide +kernel
theorem d_Mo_writes_102 : decode b_Mo_writes 102 = .ok (.aload_n 0, 1) := by decide +kernel
theorem d_Mo_writes_103 : decode b_Mo_writes 103 = .ok (.getfield 33, 3) := by decide +kernel
theorem d_Mo_writes_106 : decode b_Mo_writes 106 = .ok (.iload 5, 2) := by decide +kernel
theorem d_Mo_writes_108 : decode b_Mo_writes 108 = .ok (.iaload, 1) := by decide +kernel
theorem d_Mo_writes_109 : decode b_Mo_writes 109 = .ok (.istore 6, 2) := by decide +kernel
theorem d_Mo_writes_111 : decode b_Mo_writes 111 = .ok (.aload_n 0, 1) := by decide +kernel
theorem d_Mo_writes_112 : decode b_Mo_writes 112 = .ok (.getfield 33, 3) := by decide +kernel
theorem d_Mo_writes_115 : decode b_Mo_writes 115 = .ok (.iload 5, 2) := by decide +kernel
theorem d_Mo_writes_117 : decode b_Mo_writes 117 = .ok (.aload_n 0, 1) := by decide +kernel
theorem d_Mo_writes_118 : decode b_Mo_writes 118 = .ok (.getfield 33, 3) := by decide +kernel
theorem d_Mo_writes_121 : decode b_Mo_writes 121 = .ok (.iload_n 3, 1) := by decide +kernel
theorem d_Mo_writes_122 : decode b_Mo_writes 122 = .ok (.iconst 1, 1) := by decide +kernel
theorem d_Mo_writes_123 : decode b_Mo_writes 123 = .ok (.isub, 1) := by decide +kernel
theorem d_Mo_writes_124 : decode b_Mo_writes 124 = .ok (.iload 5, 2) := by decide +kernel
theorem d_Mo_writes_126 : decode b_Mo_writes 126 = .ok (.isub, 1) := by decide +kernel
theorem d_Mo_writes_127 : decode b_Mo_writes 127 = .ok (.iaload, 1) := by decide +kernel
theorem d_Mo_writes_128 : decode b_Mo_writes 128 = .ok (.iastore, 1) := by decide +kernel
theorem d_Mo_writes_129 : decode b_Mo_writes 129 = .ok (.aload_n 0, 1) := by decide +kernel
theorem d_Mo_writes_130 : decode b_Mo_writes 130 = .ok (.getfield 33, 3) := by decide +kernel
theorem d_Mo_writes_133 : decode b_Mo_writes 133 = .ok (.iload_n 3, 1) := by decide +kernel
theorem d_Mo_writes_134 : decode b_Mo_writes 134 = .ok (.iconst 1, 1) := by decide +kernel
theorem d_Mo_writes_135 : decode b_Mo_writes 135 = .ok (.isub, 1) := by decide +kernel
theorem d_Mo_writes_136 : decode b_Mo_writes 136 = .ok (.iload 5, 2) := by decide +kernel
theorem d_Mo_writes_138 : decode b_Mo_writes 138 = .ok (.isub, 1) := by decide +kernel
theorem d_Mo_writes_139 : decode b_Mo_writes 139 = .ok (.iload 6, 2) := by decide +kernel
theorem d_Mo_writes_141 : decode b_Mo_writes 141 = .ok (.iastore, 1) := by decide +kernel
theorem d_Mo_writes_142 : decode b_Mo_writes 142 = .ok (.iinc 5 1, 3) := by decide +kernel
theorem d_Mo_writes_145 : decode b_Mo_writes 145 = .ok (.goto (-51), 3) := by decide +kernel
theorem d_Mo_writes_148 : decode b_Mo_writes 148 = .ok (.aload_n 0, 1) := by decide +kernel
theorem d_Mo_writes_149 : decode b_Mo_writes 149 = .ok (.iload_n 3, 1) := by decide +kernel
theorem d_Mo_writes_150 : decode b_Mo_writes 150 = .ok (.putfield 198, 3) := by decide +kernel
theorem d_Mo_writes_153 : decode b_Mo_writes 153 = .ok (.iload_n 3, 1) := by decide +kernel
theorem d_Mo_writes_154 : decode b_Mo_writes 154 = .ok (.ireturn, 1) := by decide +kernel
theorem d_Mo_isAlike_0 : decode b_Mo_isAlike 0 = .ok (.iload_n 2, 1) := by decide +kernel
theorem d_Mo_isAlike_1 : decode b_Mo_isAlike 1 = .ok (.iconst 1, 1) := by decide +kernel
theorem d_Mo_isAlike_2 : decode b_Mo_isAlike 2 = .ok (.isub, 1) := by decide +kernel
theorem d_Mo_isAlike_3 : decode b_Mo_isAlike 3 = .ok (.istore 4, 2) := by decide +kernel
theorem d_Mo_isAlike_5 : decode b_Mo_isAlike 5 = .ok (.iload 4, 2) := by decide +kernel
theorem d_Mo_isAlike_7 : decode b_Mo_isAlike 7 = .ok (.iload_n 2, 1) := by decide +kernel
theorem d_Mo_isAlike_8 : decode b_Mo_isAlike 8 = .ok (.if_icmp .gt 65, 3) := by decide +kernel
theorem d_Mo_isAlike_11 : decode b_Mo_isAlike 11 = .ok (.aload_n 0, 1) := by decide +kernel
theorem d_Mo_isAlike_12 : decode b_Mo_isAlike 12 = .ok (.iload_n 1, 1) := by decide +kernel
theorem d_Mo_isAlike_13 : decode b_Mo_isAlike 13 = .ok (.iload 4, 2) := by decide +kernel
theorem d_Mo_isAlike_15 : decode b_Mo_isAlike 15 = .ok (.iload_n 3, 1) := by decide +kernel
theorem d_Mo_isAlike_16 : decode b_Mo_isAlike 16 = .ok (.invokevirtual 159, 3) := by decide +kernel
theorem d_Mo_isAlike_19 : decode b_Mo_isAlike 19 = .ok (.aload_n 0, 1) := by decide +kernel
theorem d_Mo_isAlike_20 : decode b_Mo_isAlike 20 = .ok (.sipush 130, 3) := by decide +kernel
theorem d_Mo_isAlike_23 : decode b_Mo_isAlike 23 = .ok (.iload 4, 2) := by decide +kernel
theorem d_Mo_isAlike_25 : decode b_Mo_isAlike 25 = .ok (.iadd, 1) := by decide +kernel
theorem d_Mo_isAlike_26 : decode b_Mo_isAlike 26 = .ok (.iload_n 2, 1) := by decide +kernel
theorem d_Mo_isAlike_27 : decode b_Mo_isAlike 27 = .ok (.isub, 1) := by decide +kernel
theorem d_Mo_isAlike_28 : decode b_Mo_isAlike 28 = .ok (.aload_n 0, 1) := by decide +kernel
theorem d_Mo_isAlike_29 : decode b_Mo_isAlike 29 = .ok (.iload_n 1, 1) := by decide +kernel
theorem d_Mo_isAlike_30 : decode b_Mo_isAlike 30 = .ok (.iload 4, 2) := by decide +kernel
theorem d_Mo_isAlike_32 : decode b_Mo_isAlike 32 = .ok (.invokevirtual 115, 3) := by decide +kernel
theorem d_Mo_isAlike_35 : decode b_Mo_isAlike 35 = .ok (.invokevirtual 69, 3) := by decide +kernel
theorem d_Mo_isAlike_38 : decode b_Mo_isAlike 38 = .ok (.aload_n 0, 1) := by decide +kernel
theorem d_Mo_isAlike_39 : decode b_Mo_isAlike 39 = .ok (.sipush 130, 3) := by decide +kernel
theorem d_Mo_isAlike_42 : decode b_Mo_isAlike 42 = .ok (.iload 4, 2) := by decide +kernel
theorem d_Mo_isAlike_44 : decode b_Mo_isAlike 44 = .ok (.iadd, 1) := by decide +kernel
theorem d_Mo_isAlike_45 : decode b_Mo_isAlike 45 = .ok (.iload_n 2, 1) := by decide +kernel
theorem d_Mo_isAlike_46 : decode b_Mo_isAlike 46 = .ok (.isub, 1) := by decide +kernel
theorem d_Mo_isAlike_47 : decode b_Mo_isAlike 47 = .ok (.aload_n 0, 1) := by decide +kernel
theorem d_Mo_isAlike_48 : decode b_Mo_isAlike 48 = .ok (.getfield 23, 3) := by decide +kernel
theorem d_Mo_isAlike_51 : decode b_Mo_isAlike 51 = .ok (.bipush 8, 2) := by decide +kernel
theorem d_Mo_isAlike_53 : decode b_Mo_isAlike 53 = .ok (.iload_n 1, 1) := by decide +kernel
theorem d_Mo_isAlike_54 : decode b_Mo_isAlike 54 = .ok (.imul, 1) := by decide +kernel
theorem d_Mo_isAlike_55 : decode b_Mo_isAlike 55 = .ok (.iload 4, 2) := by decide +kernel
theorem d_Mo_isAlike_57 : decode b_Mo_isAlike 57 = .ok (.iadd, 1) := by decide +kernel
theorem d_Mo_isAlike_58 : decode b_Mo_isAlike 58 = .ok (.iaload, 1) := by decide +kernel
theorem d_Mo_isAlike_59 : decode b_Mo_isAlike 59 = .ok (.bipush 44, 2) := by decide +kernel
theorem d_Mo_isAlike_61 : decode b_Mo_isAlike 61 = .ok (.isub, 1) := by decide +kernel
theorem d_Mo_isAlike_62 : decode b_Mo_isAlike 62 = .ok (.iload_n 3, 1) := by decide +kernel
theorem d_Mo_isAlike_63 : decode b_Mo_isAlike 63 = .ok (.isub, 1) := by decide +kernel
theorem d_Mo_isAlike_64 : decode b_Mo_isAlike 64 = .ok (.invokevirtual 186, 3) := by decide +kernel
theorem d_Mo_isAlike_67 : decode b_Mo_isAlike 67 = .ok (.iinc 4 1, 3) := by decide +kernel
theorem d_Mo_isAlike_70 : decode b_Mo_isAlike 70 = .ok (.goto (-65), 3) := by decide +kernel
theorem d_Mo_isAlike_73 : decode b_Mo_isAlike 73 = .ok (.aload_n 0, 1) := by decide +kernel
theorem d_Mo_isAlike_74 : decode b_Mo_isAlike 74 = .ok (.sipush 129, 3) := by decide +kernel
theorem d_Mo_isAlike_77 : decode b_Mo_isAlike 77 = .ok (.sipush 130, 3) := by decide +kernel
theorem d_Mo_isAlike_80 : decode b_Mo_isAlike 80 = .ok (.invokevirtual 49, 3) := by decide +kernel
theorem d_Mo_isAlike_83 : decode b_Mo_isAlike 83 = .ok (.ifCond .ne 7, 3) := by decide +kernel
theorem d_Mo_isAlike_86 : decode b_Mo_isAlike 86 = .ok (.iconst 1, 1) := by decide +kernel
theorem d_Mo_isAlike_87 : decode b_Mo_isAlike 87 = .ok (.goto 4, 3) := by decide +kernel
theorem d_Mo_isAlike_90 : decode b_Mo_isAlike 90 = .ok (.iconst 0, 1) := by decide +kernel
theorem d_Mo_isAlike_91 : decode b_Mo_isAlike 91 = .ok (.ireturn, 1) := by decide +kernel
theorem d_In_numberOfLeadingZeros_0 : decode b_In_numberOfLeadingZeros 0 = .ok (.iload_n 0, 1) := by decide +kernel
theorem d_In_numberOfLeadingZeros_1 : decode b_In_numberOfLeadingZeros 1 = .ok (.ifCond .gt 14, 3) := by decide +kernel
theorem d_In_numberOfLeadingZeros_4 : decode b_In_numberOfLeadingZeros 4 = .ok (.iload_n 0, 1) := by decide +kernel
theorem d_In_numberOfLeadingZeros_5 : decode b_In_numberOfLeadingZeros 5 = .ok (.ifCond .ne 8, 3) := by decide +kernel
theorem d_In_numberOfLeadingZeros_8 : decode b_In_numberOfLeadingZeros 8 = .ok (.bipush 32, 2) := by decide +kernel
theorem d_In_numberOfLeadingZeros_10 : decode b_In_numberOfLeadingZeros 10 = .ok (.goto 4, 3) := by decide +kernel
theorem d_In_numberOfLeadingZeros_13 : decode b_In_numberOfLeadingZeros 13 = .ok (.iconst 0, 1) := by decide +kernel
theorem d_In_numberOfLeadingZeros_14 : decode b_In_numberOfLeadingZeros 14 = .ok (.ireturn, 1) := by decide +kernel
theorem d_In_numberOfLeadingZeros_15 : decode b_In_numberOfLeadingZeros 15 = .ok (.bipush 31, 2) := by decide +kernel
theorem d_In_numberOfLeadingZeros_17 : decode b_In_numberOfLeadingZeros 17 = .ok (.istore_n 1, 1) := by decide +kernel
theorem d_In_numberOfLeadingZeros_18 : decode b_In_numberOfLeadingZeros 18 = .ok (.iload_n 0, 1) := by decide +kernel
theorem d_In_numberOfLeadingZeros_19 : decode b_In_numberOfLeadingZeros 19 = .ok (.ldc_w 264, 3) := by decide +kernel
theorem d_In_numberOfLeadingZeros_22 : decode b_In_numberOfLeadingZeros 22 = .ok (.if_icmp .lt 11, 3) := by decide +kernel
theorem d_In_numberOfLeadingZeros_25 : decode b_In_numberOfLeadingZeros 25 = .ok (.iinc 1 (-16), 3) := by decide +kernel
theorem d_In_numberOfLeadingZeros_28 : decode b_In_numberOfLeadingZeros 28 = .ok (.iload_n 0, 1) := by decide +kernel
theorem d_In_numberOfLeadingZeros_29 : decode b_In_numberOfLeadingZeros 29 = .ok (.bipush 16, 2) := by decide +kernel
theorem d_In_numberOfLeadingZeros_31 : decode b_In_numberOfLeadingZeros 31 = .ok (.iushr, 1) := by decide +kernel
theorem d_In_numberOfLeadingZeros_32 : decode b_In_numberOfLeadingZeros 32 = .ok (.istore_n 0, 1) := by decide +kernel
theorem d_In_numberOfLeadingZeros_33 : decode b_In_numberOfLeadingZeros 33 = .ok (.iload_n 0, 1) := by decide +kernel
theorem d_In_numberOfLeadingZeros_34 : decode b_In_numberOfLeadingZeros 34 = .ok (.sipush 256, 3) := by decide +kernel
theorem d_In_numberOfLeadingZeros_37 : decode b_In_numberOfLeadingZeros 37 = .ok (.if_icmp .lt 11, 3) := by decide +kernel
theorem d_In_numberOfLeadingZeros_40 : decode b_In_numberOfLeadingZeros 40 = .ok (.iinc 1 (-8), 3) := by decide +kernel
theorem d_In_numberOfLeadingZeros_43 : decode b_In_numberOfLeadingZeros 43 = .ok (.iload_n 0, 1) := by decide +kernel
theorem d_In_numberOfLeadingZeros_44 : decode b_In_numberOfLeadingZeros 44 = .ok (.bipush 8, 2) := by decide +kernel
theorem d_In_numberOfLeadingZeros_46 : decode b_In_numberOfLeadingZeros 46 = .ok (.iushr, 1) := by decide +kernel
theorem d_In_numberOfLeadingZeros_47 : decode b_In_numberOfLeadingZeros 47 = .ok (.istore_n 0, 1) := by decide +kernel
theorem d_In_numberOfLeadingZeros_48 : decode b_In_numberOfLeadingZeros 48 = .ok (.iload_n 0, 1) := by decide +kernel
theorem d_In_numberOfLeadingZeros_49 : decode b_In_numberOfLeadingZeros 49 = .ok (.bipush 16, 2) := by decide +kernel
theorem d_In_numberOfLeadingZeros_51 : decode b_In_numberOfLeadingZeros 51 = .ok (.if_icmp .lt 10, 3) := by decide +kernel
theorem d_In_numberOfLeadingZeros_54 : decode b_In_numberOfLeadingZeros 54 = .ok (.iinc 1 (-4), 3) := by decide +kernel
theorem d_In_numberOfLeadingZeros_57 : decode b_In_numberOfLeadingZeros 57 = .ok (.iload_n 0, 1) := by decide +kernel
theorem d_In_numberOfLeadingZeros_58 : decode b_In_numberOfLeadingZeros 58 = .ok (.iconst 4, 1) := by decide +kernel
theorem d_In_numberOfLeadingZeros_59 : decode b_In_numberOfLeadingZeros 59 = .ok (.iushr, 1) := by decide +kernel
theorem d_In_numberOfLeadingZeros_60 : decode b_In_numberOfLeadingZeros 60 = .ok (.istore_n 0, 1) := by decide +kernel
theorem d_In_numberOfLeadingZeros_61 : decode b_In_numberOfLeadingZeros 61 = .ok (.iload_n 0, 1) := by decide +kernel
theorem d_In_numberOfLeadingZeros_62 : decode b_In_numberOfLeadingZeros 62 = .ok (.iconst 4, 1) := by decide +kernel
theorem d_In_numberOfLeadingZeros_63 : decode b_In_numberOfLeadingZeros 63 = .ok (.if_icmp .lt 10, 3) := by decide +kernel
theorem d_In_numberOfLeadingZeros_66 : decode b_In_numberOfLeadingZeros 66 = .ok (.iinc 1 (-2), 3) := by decide +kernel
theorem d_In_numberOfLeadingZeros_69 : decode b_In_numberOfLeadingZeros 69 = .ok (.iload_n 0, 1) := by decide +kernel
theorem d_In_numberOfLeadingZeros_70 : decode b_In_numberOfLeadingZeros 70 = .ok (.iconst 2, 1) := by decide +kernel
theorem d_In_numberOfLeadingZeros_71 : decode b_In_numberOfLeadingZeros 71 = .ok (.iushr, 1) := by decide +kernel
theorem d_In_numberOfLeadingZeros_72 : decode b_In_numberOfLeadingZeros 72 = .ok (.istore_n 0, 1) := by decide +kernel
theorem d_In_numberOfLeadingZeros_73 : decode b_In_numberOfLeadingZeros 73 = .ok (.iload_n 1, 1) := by decide +kernel
theorem d_In_numberOfLeadingZeros_74 : decode b_In_numberOfLeadingZeros 74 = .ok (.iload_n 0, 1) := by decide +kernel
theorem d_In_numberOfLeadingZeros_75 : decode b_In_numberOfLeadingZeros 75 = .ok (.iconst 1, 1) := by decide +kernel
theorem d_In_numberOfLeadingZeros_76 : decode b_In_numberOfLeadingZeros 76 = .ok (.iushr, 1) := by decide +kernel
theorem d_In_numberOfLeadingZeros_77 : decode b_In_numberOfLeadingZeros 77 = .ok (.isub, 1) := by decide +kernel
theorem d_In_numberOfLeadingZeros_78 : decode b_In_numberOfLeadingZeros 78 = .ok (.ireturn, 1) := by decide +kernel
theorem d_Ma_floorDiv_0 : decode b_Ma_floorDiv 0 = .ok (.iload_n 0, 1) := by decide +kernel
theorem d_Ma_floorDiv_1 : decode b_Ma_floorDiv 1 = .ok (.iload_n 1, 1) := by decide +kernel
theorem d_Ma_floorDiv_2 : decode b_Ma_floorDiv 2 = .ok (.idiv, 1) := by decide +kernel
theorem d_Ma_floorDiv_3 : decode b_Ma_floorDiv 3 = .ok (.istore_n 2, 1) := by decide +kernel
theorem d_Ma_floorDiv_4 : decode b_Ma_floorDiv 4 = .ok (.iload_n 0, 1) := by decide +kernel
theorem d_Ma_floorDiv_5 : decode b_Ma_floorDiv 5 = .ok (.iload_n 1, 1) := by decide +kernel
theorem d_Ma_floorDiv_6 : decode b_Ma_floorDiv 6 = .ok (.ixor, 1) := by decide +kernel
theorem d_Ma_floorDiv_7 : decode b_Ma_floorDiv 7 = .ok (.ifCond .ge 14, 3) := by decide +kernel
theorem d_Ma_floorDiv_10 : decode b_Ma_floorDiv 10 = .ok (.iload_n 2, 1) := by decide +kernel
theorem d_Ma_floorDiv_11 : decode b_Ma_floorDiv 11 = .ok (.iload_n 1, 1) := by decide +kernel
theorem d_Ma_floorDiv_12 : decode b_Ma_floorDiv 12 = .ok (.imul, 1) := by decide +kernel
theorem d_Ma_floorDiv_13 : decode b_Ma_floorDiv 13 = .ok (.iload_n 0, 1) := by decide +kernel
theorem d_Ma_floorDiv_14 : decode b_Ma_floorDiv 14 = .ok (.if_icmp .eq 7, 3) := by decide +kernel
theorem d_Ma_floorDiv_17 : decode b_Ma_floorDiv 17 = .ok (.iload_n 2, 1) := by decide +kernel
theorem d_Ma_floorDiv_18 : decode b_Ma_floorDiv 18 = .ok (.iconst 1, 1) := by decide +kernel
theorem d_Ma_floorDiv_19 : decode b_Ma_floorDiv 19 = .ok (.isub, 1) := by decide +kernel
theorem d_Ma_floorDiv_20 : decode b_Ma_floorDiv 20 = .ok (.ireturn, 1) := by decide +kernel
theorem d_Ma_floorDiv_21 : decode b_Ma_floorDiv 21 = .ok (.iload_n 2, 1) := by decide +kernel
theorem d_Ma_floorDiv_22 : decode b_Ma_floorDiv 22 = .ok (.ireturn, 1) := by decide +kernel
