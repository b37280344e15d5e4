theorem dX0_init_0 : decode cX0_init 0 = .ok (.aload_n 0, 1) := by decide +kernel
theorem dX0_init_1 : decode cX0_init 1 = .ok (.iload_n 1, 1) := by decide +kernel
theorem dX0_init_2 : decode cX0_init 2 = .ok (.invokespecial 1, 3) := by decide +kernel
theorem dX0_init_5 : decode cX0_init 5 = .ok (.return_, 1) := by decide +kernel
theorem dX0_kind_0 : decode cX0_kind 0 = .ok (.iconst 3, 1) := by decide +kernel
theorem dX0_kind_1 : decode cX0_kind 1 = .ok (.ireturn, 1) := by decide +kernel
theorem dX0_and_0 : decode cX0_and 0 = .ok (.iload_n 1, 1) := by decide +kernel
theorem dX0_and_1 : decode cX0_and 1 = .ok (.iload_n 2, 1) := by decide +kernel
theorem dX0_and_2 : decode cX0_and 2 = .ok (.iconst (-1), 1) := by decide +kernel
theorem dX0_and_3 : decode cX0_and 3 = .ok (.ixor, 1) := by decide +kernel
theorem dX0_and_4 : decode cX0_and 4 = .ok (.iand, 1) := by decide +kernel
theorem dX0_and_5 : decode cX0_and 5 = .ok (.ireturn, 1) := by decide +kernel
theorem dX0_andHasSides_0 : decode cX0_andHasSides 0 = .ok (.iconst 1, 1) := by decide +kernel
theorem dX0_andHasSides_1 : decode cX0_andHasSides 1 = .ok (.ireturn, 1) := by decide +kernel
theorem dX1_init_0 : decode cX1_init 0 = .ok (.aload_n 0, 1) := by decide +kernel
theorem dX1_init_1 : decode cX1_init 1 = .ok (.iload_n 1, 1) := by decide +kernel
theorem dX1_init_2 : decode cX1_init 2 = .ok (.invokespecial 1, 3) := by decide +kernel
theorem dX1_init_5 : decode cX1_init 5 = .ok (.return_, 1) := by decide +kernel
theorem dX1_kind_0 : decode cX1_kind 0 = .ok (.iconst 2, 1) := by decide +kernel
theorem dX1_kind_1 : decode cX1_kind 1 = .ok (.ireturn, 1) := by decide +kernel
theorem dX1_not_0 : decode cX1_not 0 = .ok (.iload_n 1, 1) := by decide +kernel
theorem dX1_not_1 : decode cX1_not 1 = .ok (.ireturn, 1) := by decide +kernel
theorem dX2_init_0 : decode cX2_init 0 = .ok (.aload_n 0, 1) := by decide +kernel
theorem dX2_init_1 : decode cX2_init 1 = .ok (.iload_n 1, 1) := by decide +kernel
theorem dX2_init_2 : decode cX2_init 2 = .ok (.invokespecial 1, 3) := by decide +kernel
theorem dX2_init_5 : decode cX2_init 5 = .ok (.return_, 1) := by decide +kernel
theorem dX2_kind_0 : decode cX2_kind 0 = .ok (.iconst 5, 1) := by decide +kernel
theorem dX2_kind_1 : decode cX2_kind 1 = .ok (.ireturn, 1) := by decide +kernel
theorem dX2_not_0 : decode cX2_not 0 = .ok (.aload_n 0, 1) := by decide +kernel
theorem dX2_not_1 : decode cX2_not 1 = .ok (.iload_n 1, 1) := by decide +kernel
theorem dX2_not_2 : decode cX2_not 2 = .ok (.invokespecial 7, 3) := by decide +kernel
theorem dX2_not_5 : decode cX2_not 5 = .ok (.aload_n 0, 1) := by decide +kernel
theorem dX2_not_6 : decode cX2_not 6 = .ok (.invokevirtual 11, 3) := by decide +kernel
theorem dX2_not_9 : decode cX2_not 9 = .ok (.iconst (-1), 1) := by decide +kernel
theorem dX2_not_10 : decode cX2_not 10 = .ok (.ixor, 1) := by decide +kernel
theorem dX2_not_11 : decode cX2_not 11 = .ok (.iand, 1) := by decide +kernel
theorem dX2_not_12 : decode cX2_not 12 = .ok (.ireturn, 1) := by decide +kernel
theorem dX3_init_0 : decode cX3_init 0 = .ok (.aload_n 0, 1) := by decide +kernel
theorem dX3_init_1 : decode cX3_init 1 = .ok (.invokespecial 3, 3) := by decide +kernel
theorem dX3_init_4 : decode cX3_init 4 = .ok (.aload_n 0, 1) := by decide +kernel
theorem dX3_init_5 : decode cX3_init 5 = .ok (.aconst_null, 1) := by decide +kernel
theorem dX3_init_6 : decode cX3_init 6 = .ok (.putfield 9, 3) := by decide +kernel
theorem dX3_init_9 : decode cX3_init 9 = .ok (.aload_n 0, 1) := by decide +kernel
theorem dX3_init_10 : decode cX3_init 10 = .ok (.iconst 5, 1) := by decide +kernel
theorem dX3_init_11 : decode cX3_init 11 = .ok (.newarray .int, 2) := by decide +kernel
theorem dX3_init_13 : decode cX3_init 13 = .ok (.putfield 15, 3) := by decide +kernel
theorem dX3_init_16 : decode cX3_init 16 = .ok (.aload_n 0, 1) := by decide +kernel
theorem dX3_init_17 : decode cX3_init 17 = .ok (.sipush 256, 3) := by decide +kernel
theorem dX3_init_20 : decode cX3_init 20 = .ok (.newarray .int, 2) := by decide +kernel
theorem dX3_init_22 : decode cX3_init 22 = .ok (.putfield 19, 3) := by decide +kernel
theorem dX3_init_25 : decode cX3_init 25 = .ok (.aload_n 0, 1) := by decide +kernel
theorem dX3_init_26 : decode cX3_init 26 = .ok (.sipush 256, 3) := by decide +kernel
theorem dX3_init_29 : decode cX3_init 29 = .ok (.newarray .int, 2) := by decide +kernel
theorem dX3_init_31 : decode cX3_init 31 = .ok (.putfield 22, 3) := by decide +kernel
theorem dX3_init_34 : decode cX3_init 34 = .ok (.aload_n 0, 1) := by decide +kernel
theorem dX3_init_35 : decode cX3_init 35 = .ok (.iconst 0, 1) := by decide +kernel
theorem dX3_init_36 : decode cX3_init 36 = .ok (.putfield 25, 3) := by decide +kernel
theorem dX3_init_39 : decode cX3_init 39 = .ok (.aload_n 0, 1) := by decide +kernel
theorem dX3_init_40 : decode cX3_init 40 = .ok (.sipush 300, 3) := by decide +kernel
theorem dX3_init_43 : decode cX3_init 43 = .ok (.newarray .int, 2) := by decide +kernel
theorem dX3_init_45 : decode cX3_init 45 = .ok (.putfield 29, 3) := by decide +kernel
theorem dX3_init_48 : decode cX3_init 48 = .ok (.aload_n 0, 1) := by decide +kernel
theorem dX3_init_49 : decode cX3_init 49 = .ok (.iconst 0, 1) := by decide +kernel
theorem dX3_init_50 : decode cX3_init 50 = .ok (.putfield 32, 3) := by decide +kernel
theorem dX3_init_53 : decode cX3_init 53 = .ok (.aload_n 0, 1) := by decide +kernel
theorem dX3_init_54 : decode cX3_init 54 = .ok (.iconst 0, 1) := by decide +kernel
theorem dX3_init_55 : decode cX3_init 55 = .ok (.putfield 35, 3) := by decide +kernel
theorem dX3_init_58 : decode cX3_init 58 = .ok (.return_, 1) := by decide +kernel
theorem dX3_turnTo_0 : decode cX3_turnTo 0 = .ok (.aload_n 0, 1) := by decide +kernel
theorem dX3_turnTo_1 : decode cX3_turnTo 1 = .ok (.aload_n 1, 1) := by decide +kernel
theorem dX3_turnTo_2 : decode cX3_turnTo 2 = .ok (.invokevirtual 38, 3) := by decide +kernel
theorem dX3_turnTo_5 : decode cX3_turnTo 5 = .ok (.ifCond .eq 4, 3) := by decide +kernel
theorem dX3_turnTo_8 : decode cX3_turnTo 8 = .ok (.return_, 1) := by decide +kernel
theorem dX3_turnTo_9 : decode cX3_turnTo 9 = .ok (.aload_n 0, 1) := by decide +kernel
theorem dX3_turnTo_10 : decode cX3_turnTo 10 = .ok (.aload_n 1, 1) := by decide +kernel
theorem dX3_turnTo_11 : decode cX3_turnTo 11 = .ok (.getfield 42, 3) := by decide +kernel
theorem dX3_turnTo_14 : decode cX3_turnTo 14 = .ok (.putfield 9, 3) := by decide +kernel
theorem dX3_turnTo_17 : decode cX3_turnTo 17 = .ok (.aload_n 1, 1) := by decide +kernel
theorem dX3_turnTo_18 : decode cX3_turnTo 18 = .ok (.getfield 45, 3) := by decide +kernel
theorem dX3_turnTo_21 : decode cX3_turnTo 21 = .ok (.iconst 0, 1) := by decide +kernel
theorem dX3_turnTo_22 : decode cX3_turnTo 22 = .ok (.aload_n 0, 1) := by decide +kernel
theorem dX3_turnTo_23 : decode cX3_turnTo 23 = .ok (.getfield 15, 3) := by decide +kernel
theorem dX3_turnTo_26 : decode cX3_turnTo 26 = .ok (.iconst 0, 1) := by decide +kernel
theorem dX3_turnTo_27 : decode cX3_turnTo 27 = .ok (.aload_n 0, 1) := by decide +kernel
theorem dX3_turnTo_28 : decode cX3_turnTo 28 = .ok (.getfield 15, 3) := by decide +kernel
theorem dX3_turnTo_31 : decode cX3_turnTo 31 = .ok (.arraylength, 1) := by decide +kernel
theorem dX3_turnTo_32 : decode cX3_turnTo 32 = .ok (.invokestatic 46, 3) := by decide +kernel
theorem dX3_turnTo_35 : decode cX3_turnTo 35 = .ok (.aload_n 0, 1) := by decide +kernel
theorem dX3_turnTo_36 : decode cX3_turnTo 36 = .ok (.getfield 19, 3) := by decide +kernel
theorem dX3_turnTo_39 : decode cX3_turnTo 39 = .ok (.bipush (-9), 2) := by decide +kernel
theorem dX3_turnTo_41 : decode cX3_turnTo 41 = .ok (.invokestatic 52, 3) := by decide +kernel
theorem dX3_turnTo_44 : decode cX3_turnTo 44 = .ok (.aload_n 0, 1) := by decide +kernel
theorem dX3_turnTo_45 : decode cX3_turnTo 45 = .ok (.iconst 0, 1) := by decide +kernel
theorem dX3_turnTo_46 : decode cX3_turnTo 46 = .ok (.putfield 25, 3) := by decide +kernel
theorem dX3_turnTo_49 : decode cX3_turnTo 49 = .ok (.aload_n 0, 1) := by decide +kernel
theorem dX3_turnTo_50 : decode cX3_turnTo 50 = .ok (.getfield 29, 3) := by decide +kernel
theorem dX3_turnTo_53 : decode cX3_turnTo 53 = .ok (.iconst 1, 1) := by decide +kernel
theorem dX3_turnTo_54 : decode cX3_turnTo 54 = .ok (.iconst 0, 1) := by decide +kernel
theorem dX3_turnTo_55 : decode cX3_turnTo 55 = .ok (.iastore, 1) := by decide +kernel
theorem dX3_turnTo_56 : decode cX3_turnTo 56 = .ok (.aload_n 0, 1) := by decide +kernel
theorem dX3_turnTo_57 : decode cX3_turnTo 57 = .ok (.iconst 1, 1) := by decide +kernel
theorem dX3_turnTo_58 : decode cX3_turnTo 58 = .ok (.putfield 32, 3) := by decide +kernel
theorem dX3_turnTo_61 : decode cX3_turnTo 61 = .ok (.aload_n 0, 1) := by decide +kernel
theorem dX3_turnTo_62 : decode cX3_turnTo 62 = .ok (.iconst 1, 1) := by decide +kernel
theorem dX3_turnTo_63 : decode cX3_turnTo 63 = .ok (.putfield 35, 3) := by decide +kernel
theorem dX3_turnTo_66 : decode cX3_turnTo 66 = .ok (.aload_n 0, 1) := by decide +kernel
theorem dX3_turnTo_67 : decode cX3_turnTo 67 = .ok (.invokevirtual 58, 3) := by decide +kernel
theorem dX3_turnTo_70 : decode cX3_turnTo 70 = .ok (.return_, 1) := by decide +kernel
theorem dX3_wordsFor_0 : decode cX3_wordsFor 0 = .ok (.iload_n 1, 1) := by decide +kernel
theorem dX3_wordsFor_1 : decode cX3_wordsFor 1 = .ok (.sipush 255, 3) := by decide +kernel
theorem dX3_wordsFor_4 : decode cX3_wordsFor 4 = .ok (.iand, 1) := by decide +kernel
theorem dX3_wordsFor_5 : decode cX3_wordsFor 5 = .ok (.istore_n 2, 1) := by decide +kernel
theorem dX3_wordsFor_6 : decode cX3_wordsFor 6 = .ok (.iconst 0, 1) := by decide +kernel
theorem dX3_wordsFor_7 : decode cX3_wordsFor 7 = .ok (.istore_n 3, 1) := by decide +kernel
theorem dX3_wordsFor_8 : decode cX3_wordsFor 8 = .ok (.iload_n 3, 1) := by decide +kernel
theorem dX3_wordsFor_9 : decode cX3_wordsFor 9 = .ok (.sipush 300, 3) := by decide +kernel
theorem dX3_wordsFor_12 : decode cX3_wordsFor 12 = .ok (.if_icmp .ge 31, 3) := by decide +kernel
theorem dX3_wordsFor_15 : decode cX3_wordsFor 15 = .ok (.aload_n 0, 1) := by decide +kernel
theorem dX3_wordsFor_16 : decode cX3_wordsFor 16 = .ok (.getfield 19, 3) := by decide +kernel
theorem dX3_wordsFor_19 : decode cX3_wordsFor 19 = .ok (.iload_n 2, 1) := by decide +kernel
theorem dX3_wordsFor_20 : decode cX3_wordsFor 20 = .ok (.iaload, 1) := by decide +kernel
theorem dX3_wordsFor_21 : decode cX3_wordsFor 21 = .ok (.bipush (-9), 2) := by decide +kernel
theorem dX3_wordsFor_23 : decode cX3_wordsFor 23 = .ok (.if_icmp .ne 20, 3) := by decide +kernel
theorem dX3_wordsFor_26 : decode cX3_wordsFor 26 = .ok (.aload_n 0, 1) := by decide +kernel
theorem dX3_wordsFor_27 : decode cX3_wordsFor 27 = .ok (.invokevirtual 61, 3) := by decide +kernel
theorem dX3_wordsFor_30 : decode cX3_wordsFor 30 = .ok (.ifCond .ne 13, 3) := by decide +kernel
theorem dX3_wordsFor_33 : decode cX3_wordsFor 33 = .ok (.aload_n 0, 1) := by decide +kernel
theorem dX3_wordsFor_34 : decode cX3_wordsFor 34 = .ok (.invokevirtual 65, 3) := by decide +kernel
theorem dX3_wordsFor_37 : decode cX3_wordsFor 37 = .ok (.iinc 3 1, 3) := by decide +kernel
theorem dX3_wordsFor_40 : decode cX3_wordsFor 40 = .ok (.goto (-32), 3) := by decide +kernel
theorem dX3_wordsFor_43 : decode cX3_wordsFor 43 = .ok (.aload_n 0, 1) := by decide +kernel
theorem dX3_wordsFor_44 : decode cX3_wordsFor 44 = .ok (.getfield 19, 3) := by decide +kernel
theorem dX3_wordsFor_47 : decode cX3_wordsFor 47 = .ok (.iload_n 2, 1) := by decide +kernel
theorem dX3_wordsFor_48 : decode cX3_wordsFor 48 = .ok (.iaload, 1) := by decide +kernel
theorem dX3_wordsFor_49 : decode cX3_wordsFor 49 = .ok (.ireturn, 1) := by decide +kernel
theorem dX3_meaningsOfLength_0 : decode cX3_meaningsOfLength 0 = .ok (.iconst 0, 1) := by decide +kernel
theorem dX3_meaningsOfLength_1 : decode cX3_meaningsOfLength 1 = .ok (.istore_n 2, 1) := by decide +kernel
theorem dX3_meaningsOfLength_2 : decode cX3_meaningsOfLength 2 = .ok (.iload_n 2, 1) := by decide +kernel
theorem dX3_meaningsOfLength_3 : decode cX3_meaningsOfLength 3 = .ok (.sipush 300, 3) := by decide +kernel
theorem dX3_meaningsOfLength_6 : decode cX3_meaningsOfLength 6 = .ok (.if_icmp .ge 28, 3) := by decide +kernel
theorem dX3_meaningsOfLength_9 : decode cX3_meaningsOfLength 9 = .ok (.aload_n 0, 1) := by decide +kernel
theorem dX3_meaningsOfLength_10 : decode cX3_meaningsOfLength 10 = .ok (.getfield 32, 3) := by decide +kernel
theorem dX3_meaningsOfLength_13 : decode cX3_meaningsOfLength 13 = .ok (.iload_n 1, 1) := by decide +kernel
theorem dX3_meaningsOfLength_14 : decode cX3_meaningsOfLength 14 = .ok (.if_icmp .ge 20, 3) := by decide +kernel
theorem dX3_meaningsOfLength_17 : decode cX3_meaningsOfLength 17 = .ok (.aload_n 0, 1) := by decide +kernel
theorem dX3_meaningsOfLength_18 : decode cX3_meaningsOfLength 18 = .ok (.invokevirtual 61, 3) := by decide +kernel
theorem dX3_meaningsOfLength_21 : decode cX3_meaningsOfLength 21 = .ok (.ifCond .ne 13, 3) := by decide +kernel
theorem dX3_meaningsOfLength_24 : decode cX3_meaningsOfLength 24 = .ok (.aload_n 0, 1) := by decide +kernel
theorem dX3_meaningsOfLength_25 : decode cX3_meaningsOfLength 25 = .ok (.invokevirtual 65, 3) := by decide +kernel
theorem dX3_meaningsOfLength_28 : decode cX3_meaningsOfLength 28 = .ok (.iinc 2 1, 3) := by decide +kernel
theorem dX3_meaningsOfLength_31 : decode cX3_meaningsOfLength 31 = .ok (.goto (-29), 3) := by decide +kernel
theorem dX3_meaningsOfLength_34 : decode cX3_meaningsOfLength 34 = .ok (.iconst 0, 1) := by decide +kernel
theorem dX3_meaningsOfLength_35 : decode cX3_meaningsOfLength 35 = .ok (.istore_n 2, 1) := by decide +kernel
theorem dX3_meaningsOfLength_36 : decode cX3_meaningsOfLength 36 = .ok (.iconst 0, 1) := by decide +kernel
theorem dX3_meaningsOfLength_37 : decode cX3_meaningsOfLength 37 = .ok (.istore_n 3, 1) := by decide +kernel
theorem dX3_meaningsOfLength_38 : decode cX3_meaningsOfLength 38 = .ok (.iload_n 3, 1) := by decide +kernel
theorem dX3_meaningsOfLength_39 : decode cX3_meaningsOfLength 39 = .ok (.aload_n 0, 1) := by decide +kernel
theorem dX3_meaningsOfLength_40 : decode cX3_meaningsOfLength 40 = .ok (.getfield 25, 3) := by decide +kernel
theorem dX3_meaningsOfLength_43 : decode cX3_meaningsOfLength 43 = .ok (.if_icmp .ge 32, 3) := by decide +kernel
theorem dX3_meaningsOfLength_46 : decode cX3_meaningsOfLength 46 = .ok (.iload_n 2, 1) := by decide +kernel
theorem dX3_meaningsOfLength_47 : decode cX3_meaningsOfLength 47 = .ok (.aload_n 0, 1) := by decide +kernel
theorem dX3_meaningsOfLength_48 : decode cX3_meaningsOfLength 48 = .ok (.getfield 19, 3) := by decide +kernel
theorem dX3_meaningsOfLength_51 : decode cX3_meaningsOfLength 51 = .ok (.aload_n 0, 1) := by decide +kernel
theorem dX3_meaningsOfLength_52 : decode cX3_meaningsOfLength 52 = .ok (.getfield 22, 3) := by decide +kernel
theorem dX3_meaningsOfLength_55 : decode cX3_meaningsOfLength 55 = .ok (.iload_n 3, 1) := by decide +kernel
theorem dX3_meaningsOfLength_56 : decode cX3_meaningsOfLength 56 = .ok (.iaload, 1) := by decide +kernel
theorem dX3_meaningsOfLength_57 : decode cX3_meaningsOfLength 57 = .ok (.iaload, 1) := by decide +kernel
theorem dX3_meaningsOfLength_58 : decode cX3_meaningsOfLength 58 = .ok (.iload_n 1, 1) := by decide +kernel
theorem dX3_meaningsOfLength_59 : decode cX3_meaningsOfLength 59 = .ok (.if_icmp .ne 7, 3) := by decide +kernel
theorem dX3_meaningsOfLength_62 : decode cX3_meaningsOfLength 62 = .ok (.iconst 1, 1) := by decide +kernel
theorem dX3_meaningsOfLength_63 : decode cX3_meaningsOfLength 63 = .ok (.goto 4, 3) := by decide +kernel
theorem dX3_meaningsOfLength_66 : decode cX3_meaningsOfLength 66 = .ok (.iconst 0, 1) := by decide +kernel
theorem dX3_meaningsOfLength_67 : decode cX3_meaningsOfLength 67 = .ok (.iadd, 1) := by decide +kernel
theorem dX3_meaningsOfLength_68 : decode cX3_meaningsOfLength 68 = .ok (.istore_n 2, 1) := by decide +kernel
theorem dX3_meaningsOfLength_69 : decode cX3_meaningsOfLength 69 = .ok (.iinc 3 1, 3) := by decide +kernel
theorem dX3_meaningsOfLength_72 : decode cX3_meaningsOfLength 72 = .ok (.goto (-34), 3) := by decide +kernel
theorem dX3_meaningsOfLength_75 : decode cX3_meaningsOfLength 75 = .ok (.iload_n 2, 1) := by decide +kernel
theorem dX3_meaningsOfLength_76 : decode cX3_meaningsOfLength 76 = .ok (.ireturn, 1) := by decide +kernel
theorem dX3_farthestMeaning_0 : decode cX3_farthestMeaning 0 = .ok (.iconst 0, 1) := by decide +kernel
theorem dX3_farthestMeaning_1 : decode cX3_farthestMeaning 1 = .ok (.istore_n 1, 1) := by decide +kernel
theorem dX3_farthestMeaning_2 : decode cX3_farthestMeaning 2 = .ok (.iload_n 1, 1) := by decide +kernel
theorem dX3_farthestMeaning_3 : decode cX3_farthestMeaning 3 = .ok (.sipush 300, 3) := by decide +kernel
theorem dX3_farthestMeaning_6 : decode cX3_farthestMeaning 6 = .ok (.if_icmp .ge 20, 3) := by decide +kernel
theorem dX3_farthestMeaning_9 : decode cX3_farthestMeaning 9 = .ok (.aload_n 0, 1) := by decide +kernel
theorem dX3_farthestMeaning_10 : decode cX3_farthestMeaning 10 = .ok (.invokevirtual 61, 3) := by decide +kernel
theorem dX3_farthestMeaning_13 : decode cX3_farthestMeaning 13 = .ok (.ifCond .ne 13, 3) := by decide +kernel
theorem dX3_farthestMeaning_16 : decode cX3_farthestMeaning 16 = .ok (.aload_n 0, 1) := by decide +kernel
theorem dX3_farthestMeaning_17 : decode cX3_farthestMeaning 17 = .ok (.invokevirtual 65, 3) := by decide +kernel
theorem dX3_farthestMeaning_20 : decode cX3_farthestMeaning 20 = .ok (.iinc 1 1, 3) := by decide +kernel
theorem dX3_farthestMeaning_23 : decode cX3_farthestMeaning 23 = .ok (.goto (-21), 3) := by decide +kernel
theorem dX3_farthestMeaning_26 : decode cX3_farthestMeaning 26 = .ok (.iconst 0, 1) := by decide +kernel
theorem dX3_farthestMeaning_27 : decode cX3_farthestMeaning 27 = .ok (.istore_n 1, 1) := by decide +kernel
theorem dX3_farthestMeaning_28 : decode cX3_farthestMeaning 28 = .ok (.iconst 1, 1) := by decide +kernel
theorem dX3_farthestMeaning_29 : decode cX3_farthestMeaning 29 = .ok (.istore_n 2, 1) := by decide +kernel
theorem dX3_farthestMeaning_30 : decode cX3_farthestMeaning 30 = .ok (.iload_n 2, 1) := by decide +kernel
theorem dX3_farthestMeaning_31 : decode cX3_farthestMeaning 31 = .ok (.sipush 256, 3) := by decide +kernel
theorem dX3_farthestMeaning_34 : decode cX3_farthestMeaning 34 = .ok (.if_icmp .ge 30, 3) := by decide +kernel
theorem dX3_farthestMeaning_37 : decode cX3_farthestMeaning 37 = .ok (.aload_n 0, 1) := by decide +kernel
theorem dX3_farthestMeaning_38 : decode cX3_farthestMeaning 38 = .ok (.getfield 19, 3) := by decide +kernel
theorem dX3_farthestMeaning_41 : decode cX3_farthestMeaning 41 = .ok (.iload_n 2, 1) := by decide +kernel
theorem dX3_farthestMeaning_42 : decode cX3_farthestMeaning 42 = .ok (.iaload, 1) := by decide +kernel
theorem dX3_farthestMeaning_43 : decode cX3_farthestMeaning 43 = .ok (.aload_n 0, 1) := by decide +kernel
theorem dX3_farthestMeaning_44 : decode cX3_farthestMeaning 44 = .ok (.getfield 19, 3) := by decide +kernel
theorem dX3_farthestMeaning_47 : decode cX3_farthestMeaning 47 = .ok (.iload_n 1, 1) := by decide +kernel
theorem dX3_farthestMeaning_48 : decode cX3_farthestMeaning 48 = .ok (.iaload, 1) := by decide +kernel
theorem dX3_farthestMeaning_49 : decode cX3_farthestMeaning 49 = .ok (.if_icmp .le 7, 3) := by decide +kernel
theorem dX3_farthestMeaning_52 : decode cX3_farthestMeaning 52 = .ok (.iload_n 2, 1) := by decide +kernel
theorem dX3_farthestMeaning_53 : decode cX3_farthestMeaning 53 = .ok (.goto 4, 3) := by decide +kernel
theorem dX3_farthestMeaning_56 : decode cX3_farthestMeaning 56 = .ok (.iload_n 1, 1) := by decide +kernel
theorem dX3_farthestMeaning_57 : decode cX3_farthestMeaning 57 = .ok (.istore_n 1, 1) := by decide +kernel
theorem dX3_farthestMeaning_58 : decode cX3_farthestMeaning 58 = .ok (.iinc 2 1, 3) := by decide +kernel
theorem dX3_farthestMeaning_61 : decode cX3_farthestMeaning 61 = .ok (.goto (-31), 3) := by decide +kernel
theorem dX3_farthestMeaning_64 : decode cX3_farthestMeaning 64 = .ok (.iload_n 1, 1) := by decide +kernel
theorem dX3_farthestMeaning_65 : decode cX3_farthestMeaning 65 = .ok (.ireturn, 1) := by decide +kernel
theorem dX3_isFor_0 : decode cX3_isFor 0 = .ok (.aload_n 0, 1) := by decide +kernel
theorem dX3_isFor_1 : decode cX3_isFor 1 = .ok (.getfield 9, 3) := by decide +kernel
theorem dX3_isFor_4 : decode cX3_isFor 4 = .ok (.ifnull 37, 3) := by decide +kernel
theorem dX3_isFor_7 : decode cX3_isFor 7 = .ok (.aload_n 0, 1) := by decide +kernel
theorem dX3_isFor_8 : decode cX3_isFor 8 = .ok (.getfield 9, 3) := by decide +kernel
theorem dX3_isFor_11 : decode cX3_isFor 11 = .ok (.invokevirtual 68, 3) := by decide +kernel
theorem dX3_isFor_14 : decode cX3_isFor 14 = .ok (.aload_n 1, 1) := by decide +kernel
theorem dX3_isFor_15 : decode cX3_isFor 15 = .ok (.getfield 42, 3) := by decide +kernel
theorem dX3_isFor_18 : decode cX3_isFor 18 = .ok (.invokevirtual 68, 3) := by decide +kernel
theorem dX3_isFor_21 : decode cX3_isFor 21 = .ok (.if_icmp .ne 20, 3) := by decide +kernel
theorem dX3_isFor_24 : decode cX3_isFor 24 = .ok (.aload_n 0, 1) := by decide +kernel
theorem dX3_isFor_25 : decode cX3_isFor 25 = .ok (.getfield 9, 3) := by decide +kernel
theorem dX3_isFor_28 : decode cX3_isFor 28 = .ok (.getfield 74, 3) := by decide +kernel
theorem dX3_isFor_31 : decode cX3_isFor 31 = .ok (.aload_n 1, 1) := by decide +kernel
theorem dX3_isFor_32 : decode cX3_isFor 32 = .ok (.getfield 42, 3) := by decide +kernel
theorem dX3_isFor_35 : decode cX3_isFor 35 = .ok (.getfield 74, 3) := by decide +kernel
theorem dX3_isFor_38 : decode cX3_isFor 38 = .ok (.if_icmp .eq 5, 3) := by decide +kernel
theorem dX3_isFor_41 : decode cX3_isFor 41 = .ok (.iconst 0, 1) := by decide +kernel
theorem dX3_isFor_42 : decode cX3_isFor 42 = .ok (.ireturn, 1) := by decide +kernel
theorem dX3_isFor_43 : decode cX3_isFor 43 = .ok (.iconst 0, 1) := by decide +kernel
theorem dX3_isFor_44 : decode cX3_isFor 44 = .ok (.istore_n 2, 1) := by decide +kernel
theorem dX3_isFor_45 : decode cX3_isFor 45 = .ok (.iload_n 2, 1) := by decide +kernel
theorem dX3_isFor_46 : decode cX3_isFor 46 = .ok (.aload_n 0, 1) := by decide +kernel
theorem dX3_isFor_47 : decode cX3_isFor 47 = .ok (.getfield 15, 3) := by decide +kernel
theorem dX3_isFor_50 : decode cX3_isFor 50 = .ok (.arraylength, 1) := by decide +kernel
theorem dX3_isFor_51 : decode cX3_isFor 51 = .ok (.if_icmp .ge 26, 3) := by decide +kernel
theorem dX3_isFor_54 : decode cX3_isFor 54 = .ok (.aload_n 0, 1) := by decide +kernel
theorem dX3_isFor_55 : decode cX3_isFor 55 = .ok (.getfield 15, 3) := by decide +kernel
theorem dX3_isFor_58 : decode cX3_isFor 58 = .ok (.iload_n 2, 1) := by decide +kernel
theorem dX3_isFor_59 : decode cX3_isFor 59 = .ok (.iaload, 1) := by decide +kernel
theorem dX3_isFor_60 : decode cX3_isFor 60 = .ok (.aload_n 1, 1) := by decide +kernel
theorem dX3_isFor_61 : decode cX3_isFor 61 = .ok (.getfield 45, 3) := by decide +kernel
theorem dX3_isFor_64 : decode cX3_isFor 64 = .ok (.iload_n 2, 1) := by decide +kernel
theorem dX3_isFor_65 : decode cX3_isFor 65 = .ok (.iaload, 1) := by decide +kernel
theorem dX3_isFor_66 : decode cX3_isFor 66 = .ok (.if_icmp .eq 5, 3) := by decide +kernel
theorem dX3_isFor_69 : decode cX3_isFor 69 = .ok (.iconst 0, 1) := by decide +kernel
theorem dX3_isFor_70 : decode cX3_isFor 70 = .ok (.ireturn, 1) := by decide +kernel
theorem dX3_isFor_71 : decode cX3_isFor 71 = .ok (.iinc 2 1, 3) := by decide +kernel
theorem dX3_isFor_74 : decode cX3_isFor 74 = .ok (.goto (-29), 3) := by decide +kernel
theorem dX3_isFor_77 : decode cX3_isFor 77 = .ok (.iconst 1, 1) := by decide +kernel
theorem dX3_isFor_78 : decode cX3_isFor 78 = .ok (.ireturn, 1) := by decide +kernel
theorem dX3_isComplete_0 : decode cX3_isComplete 0 = .ok (.aload_n 0, 1) := by decide +kernel
theorem dX3_isComplete_1 : decode cX3_isComplete 1 = .ok (.getfield 25, 3) := by decide +kernel
theorem dX3_isComplete_4 : decode cX3_isComplete 4 = .ok (.sipush 256, 3) := by decide +kernel
theorem dX3_isComplete_7 : decode cX3_isComplete 7 = .ok (.if_icmp .ge 26, 3) := by decide +kernel
theorem dX3_isComplete_10 : decode cX3_isComplete 10 = .ok (.aload_n 0, 1) := by decide +kernel
theorem dX3_isComplete_11 : decode cX3_isComplete 11 = .ok (.getfield 32, 3) := by decide +kernel
theorem dX3_isComplete_14 : decode cX3_isComplete 14 = .ok (.iconst 2, 1) := by decide +kernel
theorem dX3_isComplete_15 : decode cX3_isComplete 15 = .ok (.aload_n 0, 1) := by decide +kernel
theorem dX3_isComplete_16 : decode cX3_isComplete 16 = .ok (.getfield 35, 3) := by decide +kernel
theorem dX3_isComplete_19 : decode cX3_isComplete 19 = .ok (.imul, 1) := by decide +kernel
theorem dX3_isComplete_20 : decode cX3_isComplete 20 = .ok (.if_icmp .gt 13, 3) := by decide +kernel
theorem dX3_isComplete_23 : decode cX3_isComplete 23 = .ok (.aload_n 0, 1) := by decide +kernel
theorem dX3_isComplete_24 : decode cX3_isComplete 24 = .ok (.getfield 32, 3) := by decide +kernel
theorem dX3_isComplete_27 : decode cX3_isComplete 27 = .ok (.sipush 299, 3) := by decide +kernel
theorem dX3_isComplete_30 : decode cX3_isComplete 30 = .ok (.if_icmp .lt 7, 3) := by decide +kernel
theorem dX3_isComplete_33 : decode cX3_isComplete 33 = .ok (.iconst 1, 1) := by decide +kernel
theorem dX3_isComplete_34 : decode cX3_isComplete 34 = .ok (.goto 4, 3) := by decide +kernel
theorem dX3_isComplete_37 : decode cX3_isComplete 37 = .ok (.iconst 0, 1) := by decide +kernel
theorem dX3_isComplete_38 : decode cX3_isComplete 38 = .ok (.ireturn, 1) := by decide +kernel
theorem dX3_lookAtNextLength_0 : decode cX3_lookAtNextLength 0 = .ok (.aload_n 0, 1) := by decide +kernel
theorem dX3_lookAtNextLength_1 : decode cX3_lookAtNextLength 1 = .ok (.getfield 32, 3) := by decide +kernel
theorem dX3_lookAtNextLength_4 : decode cX3_lookAtNextLength 4 = .ok (.iconst 1, 1) := by decide +kernel
theorem dX3_lookAtNextLength_5 : decode cX3_lookAtNextLength 5 = .ok (.if_icmp .lt 13, 3) := by decide +kernel
theorem dX3_lookAtNextLength_8 : decode cX3_lookAtNextLength 8 = .ok (.aload_n 0, 1) := by decide +kernel
theorem dX3_lookAtNextLength_9 : decode cX3_lookAtNextLength 9 = .ok (.getfield 32, 3) := by decide +kernel
theorem dX3_lookAtNextLength_12 : decode cX3_lookAtNextLength 12 = .ok (.sipush 299, 3) := by decide +kernel
theorem dX3_lookAtNextLength_15 : decode cX3_lookAtNextLength 15 = .ok (.if_icmp .lt 4, 3) := by decide +kernel
theorem dX3_lookAtNextLength_18 : decode cX3_lookAtNextLength 18 = .ok (.return_, 1) := by decide +kernel
theorem dX3_lookAtNextLength_19 : decode cX3_lookAtNextLength 19 = .ok (.aload_n 0, 1) := by decide +kernel
theorem dX3_lookAtNextLength_20 : decode cX3_lookAtNextLength 20 = .ok (.dup, 1) := by decide +kernel
theorem dX3_lookAtNextLength_21 : decode cX3_lookAtNextLength 21 = .ok (.getfield 32, 3) := by decide +kernel
theorem dX3_lookAtNextLength_24 : decode cX3_lookAtNextLength 24 = .ok (.iconst 1, 1) := by decide +kernel
theorem dX3_lookAtNextLength_25 : decode cX3_lookAtNextLength 25 = .ok (.iadd, 1) := by decide +kernel
theorem dX3_lookAtNextLength_26 : decode cX3_lookAtNextLength 26 = .ok (.putfield 32, 3) := by decide +kernel
theorem dX3_lookAtNextLength_29 : decode cX3_lookAtNextLength 29 = .ok (.aload_n 0, 1) := by decide +kernel
theorem dX3_lookAtNextLength_30 : decode cX3_lookAtNextLength 30 = .ok (.getfield 29, 3) := by decide +kernel
theorem dX3_lookAtNextLength_33 : decode cX3_lookAtNextLength 33 = .ok (.aload_n 0, 1) := by decide +kernel
theorem dX3_lookAtNextLength_34 : decode cX3_lookAtNextLength 34 = .ok (.getfield 32, 3) := by decide +kernel
theorem dX3_lookAtNextLength_37 : decode cX3_lookAtNextLength 37 = .ok (.aload_n 0, 1) := by decide +kernel
theorem dX3_lookAtNextLength_38 : decode cX3_lookAtNextLength 38 = .ok (.getfield 25, 3) := by decide +kernel
theorem dX3_lookAtNextLength_41 : decode cX3_lookAtNextLength 41 = .ok (.iastore, 1) := by decide +kernel
theorem dX3_lookAtNextLength_42 : decode cX3_lookAtNextLength 42 = .ok (.aload_n 0, 1) := by decide +kernel
theorem dX3_lookAtNextLength_43 : decode cX3_lookAtNextLength 43 = .ok (.invokevirtual 77, 3) := by decide +kernel
theorem dX3_lookAtNextLength_46 : decode cX3_lookAtNextLength 46 = .ok (.aload_n 0, 1) := by decide +kernel
theorem dX3_lookAtNextLength_47 : decode cX3_lookAtNextLength 47 = .ok (.invokevirtual 80, 3) := by decide +kernel
theorem dX3_lookAtNextLength_50 : decode cX3_lookAtNextLength 50 = .ok (.aload_n 0, 1) := by decide +kernel
theorem dX3_lookAtNextLength_51 : decode cX3_lookAtNextLength 51 = .ok (.getfield 25, 3) := by decide +kernel
theorem dX3_lookAtNextLength_54 : decode cX3_lookAtNextLength 54 = .ok (.aload_n 0, 1) := by decide +kernel
theorem dX3_lookAtNextLength_55 : decode cX3_lookAtNextLength 55 = .ok (.getfield 29, 3) := by decide +kernel
theorem dX3_lookAtNextLength_58 : decode cX3_lookAtNextLength 58 = .ok (.aload_n 0, 1) := by decide +kernel
theorem dX3_lookAtNextLength_59 : decode cX3_lookAtNextLength 59 = .ok (.getfield 32, 3) := by decide +kernel
theorem dX3_lookAtNextLength_62 : decode cX3_lookAtNextLength 62 = .ok (.iaload, 1) := by decide +kernel
theorem dX3_lookAtNextLength_63 : decode cX3_lookAtNextLength 63 = .ok (.if_icmp .le 11, 3) := by decide +kernel
theorem dX3_lookAtNextLength_66 : decode cX3_lookAtNextLength 66 = .ok (.aload_n 0, 1) := by decide +kernel
theorem dX3_lookAtNextLength_67 : decode cX3_lookAtNextLength 67 = .ok (.aload_n 0, 1) := by decide +kernel
theorem dX3_lookAtNextLength_68 : decode cX3_lookAtNextLength 68 = .ok (.getfield 32, 3) := by decide +kernel
theorem dX3_lookAtNextLength_71 : decode cX3_lookAtNextLength 71 = .ok (.putfield 35, 3) := by decide +kernel
theorem dX3_lookAtNextLength_74 : decode cX3_lookAtNextLength 74 = .ok (.return_, 1) := by decide +kernel
theorem dX3_addLeaves_0 : decode cX3_addLeaves 0 = .ok (.iconst 0, 1) := by decide +kernel
theorem dX3_addLeaves_1 : decode cX3_addLeaves 1 = .ok (.istore_n 1, 1) := by decide +kernel
theorem dX3_addLeaves_2 : decode cX3_addLeaves 2 = .ok (.iload_n 1, 1) := by decide +kernel
theorem dX3_addLeaves_3 : decode cX3_addLeaves 3 = .ok (.getstatic 83, 3) := by decide +kernel
theorem dX3_addLeaves_6 : decode cX3_addLeaves 6 = .ok (.arraylength, 1) := by decide +kernel
theorem dX3_addLeaves_7 : decode cX3_addLeaves 7 = .ok (.if_icmp .ge 18, 3) := by decide +kernel
theorem dX3_addLeaves_10 : decode cX3_addLeaves 10 = .ok (.aload_n 0, 1) := by decide +kernel
theorem dX3_addLeaves_11 : decode cX3_addLeaves 11 = .ok (.getstatic 83, 3) := by decide +kernel
theorem dX3_addLeaves_14 : decode cX3_addLeaves 14 = .ok (.iload_n 1, 1) := by decide +kernel
theorem dX3_addLeaves_15 : decode cX3_addLeaves 15 = .ok (.iaload, 1) := by decide +kernel
theorem dX3_addLeaves_16 : decode cX3_addLeaves 16 = .ok (.invokevirtual 86, 3) := by decide +kernel
theorem dX3_addLeaves_19 : decode cX3_addLeaves 19 = .ok (.iinc 1 1, 3) := by decide +kernel
theorem dX3_addLeaves_22 : decode cX3_addLeaves 22 = .ok (.goto (-20), 3) := by decide +kernel
theorem dX3_addLeaves_25 : decode cX3_addLeaves 25 = .ok (.iconst 0, 1) := by decide +kernel
theorem dX3_addLeaves_26 : decode cX3_addLeaves 26 = .ok (.istore_n 1, 1) := by decide +kernel
theorem dX3_addLeaves_27 : decode cX3_addLeaves 27 = .ok (.iload_n 1, 1) := by decide +kernel
theorem dX3_addLeaves_28 : decode cX3_addLeaves 28 = .ok (.aload_n 0, 1) := by decide +kernel
theorem dX3_addLeaves_29 : decode cX3_addLeaves 29 = .ok (.getfield 15, 3) := by decide +kernel
theorem dX3_addLeaves_32 : decode cX3_addLeaves 32 = .ok (.arraylength, 1) := by decide +kernel
theorem dX3_addLeaves_33 : decode cX3_addLeaves 33 = .ok (.if_icmp .ge 30, 3) := by decide +kernel
theorem dX3_addLeaves_36 : decode cX3_addLeaves 36 = .ok (.aload_n 0, 1) := by decide +kernel
theorem dX3_addLeaves_37 : decode cX3_addLeaves 37 = .ok (.getfield 15, 3) := by decide +kernel
theorem dX3_addLeaves_40 : decode cX3_addLeaves 40 = .ok (.iload_n 1, 1) := by decide +kernel
theorem dX3_addLeaves_41 : decode cX3_addLeaves 41 = .ok (.iaload, 1) := by decide +kernel
theorem dX3_addLeaves_42 : decode cX3_addLeaves 42 = .ok (.bipush (-9), 2) := by decide +kernel
theorem dX3_addLeaves_44 : decode cX3_addLeaves 44 = .ok (.if_icmp .eq 13, 3) := by decide +kernel
theorem dX3_addLeaves_47 : decode cX3_addLeaves 47 = .ok (.aload_n 0, 1) := by decide +kernel
theorem dX3_addLeaves_48 : decode cX3_addLeaves 48 = .ok (.aload_n 0, 1) := by decide +kernel
theorem dX3_addLeaves_49 : decode cX3_addLeaves 49 = .ok (.getfield 15, 3) := by decide +kernel
theorem dX3_addLeaves_52 : decode cX3_addLeaves 52 = .ok (.iload_n 1, 1) := by decide +kernel
theorem dX3_addLeaves_53 : decode cX3_addLeaves 53 = .ok (.iaload, 1) := by decide +kernel
theorem dX3_addLeaves_54 : decode cX3_addLeaves 54 = .ok (.invokevirtual 86, 3) := by decide +kernel
theorem dX3_addLeaves_57 : decode cX3_addLeaves 57 = .ok (.iinc 1 1, 3) := by decide +kernel
theorem dX3_addLeaves_60 : decode cX3_addLeaves 60 = .ok (.goto (-33), 3) := by decide +kernel
theorem dX3_addLeaves_63 : decode cX3_addLeaves 63 = .ok (.return_, 1) := by decide +kernel
theorem dX3_addNots_0 : decode cX3_addNots 0 = .ok (.aload_n 0, 1) := by decide +kernel
theorem dX3_addNots_1 : decode cX3_addNots 1 = .ok (.getfield 29, 3) := by decide +kernel
theorem dX3_addNots_4 : decode cX3_addNots 4 = .ok (.aload_n 0, 1) := by decide +kernel
theorem dX3_addNots_5 : decode cX3_addNots 5 = .ok (.getfield 32, 3) := by decide +kernel
theorem dX3_addNots_8 : decode cX3_addNots 8 = .ok (.iconst 1, 1) := by decide +kernel
theorem dX3_addNots_9 : decode cX3_addNots 9 = .ok (.isub, 1) := by decide +kernel
theorem dX3_addNots_10 : decode cX3_addNots 10 = .ok (.iaload, 1) := by decide +kernel
theorem dX3_addNots_11 : decode cX3_addNots 11 = .ok (.istore_n 1, 1) := by decide +kernel
theorem dX3_addNots_12 : decode cX3_addNots 12 = .ok (.iload_n 1, 1) := by decide +kernel
theorem dX3_addNots_13 : decode cX3_addNots 13 = .ok (.aload_n 0, 1) := by decide +kernel
theorem dX3_addNots_14 : decode cX3_addNots 14 = .ok (.getfield 29, 3) := by decide +kernel
theorem dX3_addNots_17 : decode cX3_addNots 17 = .ok (.aload_n 0, 1) := by decide +kernel
theorem dX3_addNots_18 : decode cX3_addNots 18 = .ok (.getfield 32, 3) := by decide +kernel
theorem dX3_addNots_21 : decode cX3_addNots 21 = .ok (.iaload, 1) := by decide +kernel
theorem dX3_addNots_22 : decode cX3_addNots 22 = .ok (.if_icmp .ge 26, 3) := by decide +kernel
theorem dX3_addNots_25 : decode cX3_addNots 25 = .ok (.aload_n 0, 1) := by decide +kernel
theorem dX3_addNots_26 : decode cX3_addNots 26 = .ok (.aload_n 0, 1) := by decide +kernel
theorem dX3_addNots_27 : decode cX3_addNots 27 = .ok (.getfield 9, 3) := by decide +kernel
theorem dX3_addNots_30 : decode cX3_addNots 30 = .ok (.aload_n 0, 1) := by decide +kernel
theorem dX3_addNots_31 : decode cX3_addNots 31 = .ok (.getfield 22, 3) := by decide +kernel
theorem dX3_addNots_34 : decode cX3_addNots 34 = .ok (.iload_n 1, 1) := by decide +kernel
theorem dX3_addNots_35 : decode cX3_addNots 35 = .ok (.iaload, 1) := by decide +kernel
theorem dX3_addNots_36 : decode cX3_addNots 36 = .ok (.invokevirtual 90, 3) := by decide +kernel
theorem dX3_addNots_39 : decode cX3_addNots 39 = .ok (.invokevirtual 86, 3) := by decide +kernel
theorem dX3_addNots_42 : decode cX3_addNots 42 = .ok (.iinc 1 1, 3) := by decide +kernel
theorem dX3_addNots_45 : decode cX3_addNots 45 = .ok (.goto (-33), 3) := by decide +kernel
theorem dX3_addNots_48 : decode cX3_addNots 48 = .ok (.return_, 1) := by decide +kernel
theorem dX3_addJoined_0 : decode cX3_addJoined 0 = .ok (.aload_n 0, 1) := by decide +kernel
theorem dX3_addJoined_1 : decode cX3_addJoined 1 = .ok (.getfield 9, 3) := by decide +kernel
theorem dX3_addJoined_4 : decode cX3_addJoined 4 = .ok (.invokevirtual 94, 3) := by decide +kernel
theorem dX3_addJoined_7 : decode cX3_addJoined 7 = .ok (.istore_n 1, 1) := by decide +kernel
theorem dX3_addJoined_8 : decode cX3_addJoined 8 = .ok (.iconst 1, 1) := by decide +kernel
theorem dX3_addJoined_9 : decode cX3_addJoined 9 = .ok (.istore_n 2, 1) := by decide +kernel
theorem dX3_addJoined_10 : decode cX3_addJoined 10 = .ok (.iload_n 2, 1) := by decide +kernel
theorem dX3_addJoined_11 : decode cX3_addJoined 11 = .ok (.aload_n 0, 1) := by decide +kernel
theorem dX3_addJoined_12 : decode cX3_addJoined 12 = .ok (.getfield 32, 3) := by decide +kernel
theorem dX3_addJoined_15 : decode cX3_addJoined 15 = .ok (.iconst 1, 1) := by decide +kernel
theorem dX3_addJoined_16 : decode cX3_addJoined 16 = .ok (.isub, 1) := by decide +kernel
theorem dX3_addJoined_17 : decode cX3_addJoined 17 = .ok (.iconst 2, 1) := by decide +kernel
theorem dX3_addJoined_18 : decode cX3_addJoined 18 = .ok (.idiv, 1) := by decide +kernel
theorem dX3_addJoined_19 : decode cX3_addJoined 19 = .ok (.if_icmp .gt 149, 3) := by decide +kernel
theorem dX3_addJoined_22 : decode cX3_addJoined 22 = .ok (.aload_n 0, 1) := by decide +kernel
theorem dX3_addJoined_23 : decode cX3_addJoined 23 = .ok (.getfield 32, 3) := by decide +kernel
theorem dX3_addJoined_26 : decode cX3_addJoined 26 = .ok (.iconst 1, 1) := by decide +kernel
theorem dX3_addJoined_27 : decode cX3_addJoined 27 = .ok (.isub, 1) := by decide +kernel
theorem dX3_addJoined_28 : decode cX3_addJoined 28 = .ok (.iload_n 2, 1) := by decide +kernel
theorem dX3_addJoined_29 : decode cX3_addJoined 29 = .ok (.isub, 1) := by decide +kernel
theorem dX3_addJoined_30 : decode cX3_addJoined 30 = .ok (.istore_n 3, 1) := by decide +kernel
theorem dX3_addJoined_31 : decode cX3_addJoined 31 = .ok (.aload_n 0, 1) := by decide +kernel
theorem dX3_addJoined_32 : decode cX3_addJoined 32 = .ok (.getfield 29, 3) := by decide +kernel
theorem dX3_addJoined_35 : decode cX3_addJoined 35 = .ok (.iload_n 2, 1) := by decide +kernel
theorem dX3_addJoined_36 : decode cX3_addJoined 36 = .ok (.iaload, 1) := by decide +kernel
theorem dX3_addJoined_37 : decode cX3_addJoined 37 = .ok (.istore 4, 2) := by decide +kernel
theorem dX3_addJoined_39 : decode cX3_addJoined 39 = .ok (.iload 4, 2) := by decide +kernel
theorem dX3_addJoined_41 : decode cX3_addJoined 41 = .ok (.aload_n 0, 1) := by decide +kernel
theorem dX3_addJoined_42 : decode cX3_addJoined 42 = .ok (.getfield 29, 3) := by decide +kernel
theorem dX3_addJoined_45 : decode cX3_addJoined 45 = .ok (.iload_n 2, 1) := by decide +kernel
theorem dX3_addJoined_46 : decode cX3_addJoined 46 = .ok (.iconst 1, 1) := by decide +kernel
theorem dX3_addJoined_47 : decode cX3_addJoined 47 = .ok (.iadd, 1) := by decide +kernel
theorem dX3_addJoined_48 : decode cX3_addJoined 48 = .ok (.iaload, 1) := by decide +kernel
theorem dX3_addJoined_49 : decode cX3_addJoined 49 = .ok (.if_icmp .ge 113, 3) := by decide +kernel
theorem dX3_addJoined_52 : decode cX3_addJoined 52 = .ok (.aload_n 0, 1) := by decide +kernel
theorem dX3_addJoined_53 : decode cX3_addJoined 53 = .ok (.getfield 25, 3) := by decide +kernel
theorem dX3_addJoined_56 : decode cX3_addJoined 56 = .ok (.sipush 256, 3) := by decide +kernel
theorem dX3_addJoined_59 : decode cX3_addJoined 59 = .ok (.if_icmp .ge 103, 3) := by decide +kernel
theorem dX3_addJoined_62 : decode cX3_addJoined 62 = .ok (.aload_n 0, 1) := by decide +kernel
theorem dX3_addJoined_63 : decode cX3_addJoined 63 = .ok (.getfield 22, 3) := by decide +kernel
theorem dX3_addJoined_66 : decode cX3_addJoined 66 = .ok (.iload 4, 2) := by decide +kernel
theorem dX3_addJoined_68 : decode cX3_addJoined 68 = .ok (.iaload, 1) := by decide +kernel
theorem dX3_addJoined_69 : decode cX3_addJoined 69 = .ok (.istore 5, 2) := by decide +kernel
theorem dX3_addJoined_71 : decode cX3_addJoined 71 = .ok (.aload_n 0, 1) := by decide +kernel
theorem dX3_addJoined_72 : decode cX3_addJoined 72 = .ok (.getfield 29, 3) := by decide +kernel
theorem dX3_addJoined_75 : decode cX3_addJoined 75 = .ok (.iload_n 3, 1) := by decide +kernel
theorem dX3_addJoined_76 : decode cX3_addJoined 76 = .ok (.iaload, 1) := by decide +kernel
theorem dX3_addJoined_77 : decode cX3_addJoined 77 = .ok (.istore 6, 2) := by decide +kernel
theorem dX3_addJoined_79 : decode cX3_addJoined 79 = .ok (.iload 6, 2) := by decide +kernel
theorem dX3_addJoined_81 : decode cX3_addJoined 81 = .ok (.aload_n 0, 1) := by decide +kernel
theorem dX3_addJoined_82 : decode cX3_addJoined 82 = .ok (.getfield 29, 3) := by decide +kernel
theorem dX3_addJoined_85 : decode cX3_addJoined 85 = .ok (.iload_n 3, 1) := by decide +kernel
theorem dX3_addJoined_86 : decode cX3_addJoined 86 = .ok (.iconst 1, 1) := by decide +kernel
theorem dX3_addJoined_87 : decode cX3_addJoined 87 = .ok (.iadd, 1) := by decide +kernel
theorem dX3_addJoined_88 : decode cX3_addJoined 88 = .ok (.iaload, 1) := by decide +kernel
theorem dX3_addJoined_89 : decode cX3_addJoined 89 = .ok (.if_icmp .ge 67, 3) := by decide +kernel
theorem dX3_addJoined_92 : decode cX3_addJoined 92 = .ok (.aload_n 0, 1) := by decide +kernel
theorem dX3_addJoined_93 : decode cX3_addJoined 93 = .ok (.getfield 22, 3) := by decide +kernel
theorem dX3_addJoined_96 : decode cX3_addJoined 96 = .ok (.iload 6, 2) := by decide +kernel
theorem dX3_addJoined_98 : decode cX3_addJoined 98 = .ok (.iaload, 1) := by decide +kernel
theorem dX3_addJoined_99 : decode cX3_addJoined 99 = .ok (.istore 7, 2) := by decide +kernel
theorem dX3_addJoined_101 : decode cX3_addJoined 101 = .ok (.aload_n 0, 1) := by decide +kernel
theorem dX3_addJoined_102 : decode cX3_addJoined 102 = .ok (.aload_n 0, 1) := by decide +kernel
theorem dX3_addJoined_103 : decode cX3_addJoined 103 = .ok (.getfield 9, 3) := by decide +kernel
theorem dX3_addJoined_106 : decode cX3_addJoined 106 = .ok (.iload 5, 2) := by decide +kernel
theorem dX3_addJoined_108 : decode cX3_addJoined 108 = .ok (.iload 7, 2) := by decide +kernel
theorem dX3_addJoined_110 : decode cX3_addJoined 110 = .ok (.invokevirtual 97, 3) := by decide +kernel
theorem dX3_addJoined_113 : decode cX3_addJoined 113 = .ok (.invokevirtual 86, 3) := by decide +kernel
theorem dX3_addJoined_116 : decode cX3_addJoined 116 = .ok (.aload_n 0, 1) := by decide +kernel
theorem dX3_addJoined_117 : decode cX3_addJoined 117 = .ok (.aload_n 0, 1) := by decide +kernel
theorem dX3_addJoined_118 : decode cX3_addJoined 118 = .ok (.getfield 9, 3) := by decide +kernel
theorem dX3_addJoined_121 : decode cX3_addJoined 121 = .ok (.iload 5, 2) := by decide +kernel
theorem dX3_addJoined_123 : decode cX3_addJoined 123 = .ok (.iload 7, 2) := by decide +kernel
theorem dX3_addJoined_125 : decode cX3_addJoined 125 = .ok (.invokevirtual 101, 3) := by decide +kernel
theorem dX3_addJoined_128 : decode cX3_addJoined 128 = .ok (.invokevirtual 86, 3) := by decide +kernel
theorem dX3_addJoined_131 : decode cX3_addJoined 131 = .ok (.iload_n 1, 1) := by decide +kernel
theorem dX3_addJoined_132 : decode cX3_addJoined 132 = .ok (.ifCond .eq 18, 3) := by decide +kernel
theorem dX3_addJoined_135 : decode cX3_addJoined 135 = .ok (.aload_n 0, 1) := by decide +kernel
theorem dX3_addJoined_136 : decode cX3_addJoined 136 = .ok (.aload_n 0, 1) := by decide +kernel
theorem dX3_addJoined_137 : decode cX3_addJoined 137 = .ok (.getfield 9, 3) := by decide +kernel
theorem dX3_addJoined_140 : decode cX3_addJoined 140 = .ok (.iload 7, 2) := by decide +kernel
theorem dX3_addJoined_142 : decode cX3_addJoined 142 = .ok (.iload 5, 2) := by decide +kernel
theorem dX3_addJoined_144 : decode cX3_addJoined 144 = .ok (.invokevirtual 97, 3) := by decide +kernel
theorem dX3_addJoined_147 : decode cX3_addJoined 147 = .ok (.invokevirtual 86, 3) := by decide +kernel
theorem dX3_addJoined_150 : decode cX3_addJoined 150 = .ok (.iinc 6 1, 3) := by decide +kernel
theorem dX3_addJoined_153 : decode cX3_addJoined 153 = .ok (.goto (-74), 3) := by decide +kernel
theorem dX3_addJoined_156 : decode cX3_addJoined 156 = .ok (.iinc 4 1, 3) := by decide +kernel
theorem dX3_addJoined_159 : decode cX3_addJoined 159 = .ok (.goto (-120), 3) := by decide +kernel
theorem dX3_addJoined_162 : decode cX3_addJoined 162 = .ok (.iinc 2 1, 3) := by decide +kernel
theorem dX3_addJoined_165 : decode cX3_addJoined 165 = .ok (.goto (-155), 3) := by decide +kernel
theorem dX3_addJoined_168 : decode cX3_addJoined 168 = .ok (.return_, 1) := by decide +kernel
theorem dX3_add_0 : decode cX3_add 0 = .ok (.iload_n 1, 1) := by decide +kernel
theorem dX3_add_1 : decode cX3_add 1 = .ok (.sipush 255, 3) := by decide +kernel
theorem dX3_add_4 : decode cX3_add 4 = .ok (.iand, 1) := by decide +kernel
theorem dX3_add_5 : decode cX3_add 5 = .ok (.istore_n 2, 1) := by decide +kernel
theorem dX3_add_6 : decode cX3_add 6 = .ok (.aload_n 0, 1) := by decide +kernel
theorem dX3_add_7 : decode cX3_add 7 = .ok (.getfield 19, 3) := by decide +kernel
theorem dX3_add_10 : decode cX3_add 10 = .ok (.iload_n 2, 1) := by decide +kernel
theorem dX3_add_11 : decode cX3_add 11 = .ok (.iaload, 1) := by decide +kernel
theorem dX3_add_12 : decode cX3_add 12 = .ok (.bipush (-9), 2) := by decide +kernel
theorem dX3_add_14 : decode cX3_add 14 = .ok (.if_icmp .ne 43, 3) := by decide +kernel
theorem dX3_add_17 : decode cX3_add 17 = .ok (.aload_n 0, 1) := by decide +kernel
theorem dX3_add_18 : decode cX3_add 18 = .ok (.getfield 25, 3) := by decide +kernel
theorem dX3_add_21 : decode cX3_add 21 = .ok (.sipush 256, 3) := by decide +kernel
theorem dX3_add_24 : decode cX3_add 24 = .ok (.if_icmp .ge 33, 3) := by decide +kernel
theorem dX3_add_27 : decode cX3_add 27 = .ok (.aload_n 0, 1) := by decide +kernel
theorem dX3_add_28 : decode cX3_add 28 = .ok (.getfield 19, 3) := by decide +kernel
theorem dX3_add_31 : decode cX3_add 31 = .ok (.iload_n 2, 1) := by decide +kernel
theorem dX3_add_32 : decode cX3_add 32 = .ok (.aload_n 0, 1) := by decide +kernel
theorem dX3_add_33 : decode cX3_add 33 = .ok (.getfield 32, 3) := by decide +kernel
theorem dX3_add_36 : decode cX3_add 36 = .ok (.iastore, 1) := by decide +kernel
theorem dX3_add_37 : decode cX3_add 37 = .ok (.aload_n 0, 1) := by decide +kernel
theorem dX3_add_38 : decode cX3_add 38 = .ok (.getfield 22, 3) := by decide +kernel
theorem dX3_add_41 : decode cX3_add 41 = .ok (.aload_n 0, 1) := by decide +kernel
theorem dX3_add_42 : decode cX3_add 42 = .ok (.getfield 25, 3) := by decide +kernel
theorem dX3_add_45 : decode cX3_add 45 = .ok (.iload_n 2, 1) := by decide +kernel
theorem dX3_add_46 : decode cX3_add 46 = .ok (.iastore, 1) := by decide +kernel
theorem dX3_add_47 : decode cX3_add 47 = .ok (.aload_n 0, 1) := by decide +kernel
theorem dX3_add_48 : decode cX3_add 48 = .ok (.dup, 1) := by decide +kernel
theorem dX3_add_49 : decode cX3_add 49 = .ok (.getfield 25, 3) := by decide +kernel
theorem dX3_add_52 : decode cX3_add 52 = .ok (.iconst 1, 1) := by decide +kernel
theorem dX3_add_53 : decode cX3_add 53 = .ok (.iadd, 1) := by decide +kernel
theorem dX3_add_54 : decode cX3_add 54 = .ok (.putfield 25, 3) := by decide +kernel
theorem dX3_add_57 : decode cX3_add 57 = .ok (.return_, 1) := by decide +kernel
theorem dX4_init_0 : decode cX4_init 0 = .ok (.aload_n 0, 1) := by decide +kernel
theorem dX4_init_1 : decode cX4_init 1 = .ok (.iload_n 1, 1) := by decide +kernel
theorem dX4_init_2 : decode cX4_init 2 = .ok (.invokespecial 1, 3) := by decide +kernel
theorem dX4_init_5 : decode cX4_init 5 = .ok (.return_, 1) := by decide +kernel
theorem dX4_kind_0 : decode cX4_kind 0 = .ok (.iconst 1, 1) := by decide +kernel
theorem dX4_kind_1 : decode cX4_kind 1 = .ok (.ireturn, 1) := by decide +kernel
theorem dX4_or_0 : decode cX4_or 0 = .ok (.iload_n 1, 1) := by decide +kernel
theorem dX4_or_1 : decode cX4_or 1 = .ok (.iload_n 2, 1) := by decide +kernel
theorem dX4_or_2 : decode cX4_or 2 = .ok (.ixor, 1) := by decide +kernel
theorem dX4_or_3 : decode cX4_or 3 = .ok (.ireturn, 1) := by decide +kernel
theorem dX5_init_0 : decode cX5_init 0 = .ok (.aload_n 0, 1) := by decide +kernel
theorem dX5_init_1 : decode cX5_init 1 = .ok (.invokespecial 3, 3) := by decide +kernel
theorem dX5_init_4 : decode cX5_init 4 = .ok (.aload_n 0, 1) := by decide +kernel
theorem dX5_init_5 : decode cX5_init 5 = .ok (.bipush 80, 2) := by decide +kernel
theorem dX5_init_7 : decode cX5_init 7 = .ok (.newarray .int, 2) := by decide +kernel
theorem dX5_init_9 : decode cX5_init 9 = .ok (.putfield 9, 3) := by decide +kernel
theorem dX5_init_12 : decode cX5_init 12 = .ok (.aload_n 0, 1) := by decide +kernel
theorem dX5_init_13 : decode cX5_init 13 = .ok (.iconst 0, 1) := by decide +kernel
theorem dX5_init_14 : decode cX5_init 14 = .ok (.putfield 15, 3) := by decide +kernel
theorem dX5_init_17 : decode cX5_init 17 = .ok (.aload_n 0, 1) := by decide +kernel
theorem dX5_init_18 : decode cX5_init 18 = .ok (.iconst 0, 1) := by decide +kernel
theorem dX5_init_19 : decode cX5_init 19 = .ok (.putfield 19, 3) := by decide +kernel
theorem dX5_init_22 : decode cX5_init 22 = .ok (.return_, 1) := by decide +kernel
theorem dX5_size_0 : decode cX5_size 0 = .ok (.aload_n 0, 1) := by decide +kernel
theorem dX5_size_1 : decode cX5_size 1 = .ok (.getfield 15, 3) := by decide +kernel
theorem dX5_size_4 : decode cX5_size 4 = .ok (.ireturn, 1) := by decide +kernel
theorem dX5_isFull_0 : decode cX5_isFull 0 = .ok (.aload_n 0, 1) := by decide +kernel
theorem dX5_isFull_1 : decode cX5_isFull 1 = .ok (.getfield 15, 3) := by decide +kernel
theorem dX5_isFull_4 : decode cX5_isFull 4 = .ok (.bipush 80, 2) := by decide +kernel
theorem dX5_isFull_6 : decode cX5_isFull 6 = .ok (.if_icmp .lt 7, 3) := by decide +kernel
theorem dX5_isFull_9 : decode cX5_isFull 9 = .ok (.iconst 1, 1) := by decide +kernel
theorem dX5_isFull_10 : decode cX5_isFull 10 = .ok (.goto 4, 3) := by decide +kernel
theorem dX5_isFull_13 : decode cX5_isFull 13 = .ok (.iconst 0, 1) := by decide +kernel
theorem dX5_isFull_14 : decode cX5_isFull 14 = .ok (.ireturn, 1) := by decide +kernel
theorem dX5_add_0 : decode cX5_add 0 = .ok (.aload_n 0, 1) := by decide +kernel
theorem dX5_add_1 : decode cX5_add 1 = .ok (.getfield 15, 3) := by decide +kernel
theorem dX5_add_4 : decode cX5_add 4 = .ok (.bipush 80, 2) := by decide +kernel
theorem dX5_add_6 : decode cX5_add 6 = .ok (.if_icmp .ge 23, 3) := by decide +kernel
theorem dX5_add_9 : decode cX5_add 9 = .ok (.aload_n 0, 1) := by decide +kernel
theorem dX5_add_10 : decode cX5_add 10 = .ok (.getfield 9, 3) := by decide +kernel
theorem dX5_add_13 : decode cX5_add 13 = .ok (.aload_n 0, 1) := by decide +kernel
theorem dX5_add_14 : decode cX5_add 14 = .ok (.getfield 15, 3) := by decide +kernel
theorem dX5_add_17 : decode cX5_add 17 = .ok (.iload_n 1, 1) := by decide +kernel
theorem dX5_add_18 : decode cX5_add 18 = .ok (.iastore, 1) := by decide +kernel
theorem dX5_add_19 : decode cX5_add 19 = .ok (.aload_n 0, 1) := by decide +kernel
theorem dX5_add_20 : decode cX5_add 20 = .ok (.dup, 1) := by decide +kernel
theorem dX5_add_21 : decode cX5_add 21 = .ok (.getfield 15, 3) := by decide +kernel
theorem dX5_add_24 : decode cX5_add 24 = .ok (.iconst 1, 1) := by decide +kernel
theorem dX5_add_25 : decode cX5_add 25 = .ok (.iadd, 1) := by decide +kernel
theorem dX5_add_26 : decode cX5_add 26 = .ok (.putfield 15, 3) := by decide +kernel
theorem dX5_add_29 : decode cX5_add 29 = .ok (.aload_n 0, 1) := by decide +kernel
theorem dX5_add_30 : decode cX5_add 30 = .ok (.getfield 15, 3) := by decide +kernel
theorem dX5_add_33 : decode cX5_add 33 = .ok (.ireturn, 1) := by decide +kernel
theorem dX5_clear_0 : decode cX5_clear 0 = .ok (.aload_n 0, 1) := by decide +kernel
theorem dX5_clear_1 : decode cX5_clear 1 = .ok (.iconst 0, 1) := by decide +kernel
theorem dX5_clear_2 : decode cX5_clear 2 = .ok (.putfield 15, 3) := by decide +kernel
theorem dX5_clear_5 : decode cX5_clear 5 = .ok (.aload_n 0, 1) := by decide +kernel
theorem dX5_clear_6 : decode cX5_clear 6 = .ok (.iconst 0, 1) := by decide +kernel
theorem dX5_clear_7 : decode cX5_clear 7 = .ok (.putfield 19, 3) := by decide +kernel
theorem dX5_clear_10 : decode cX5_clear 10 = .ok (.return_, 1) := by decide +kernel
theorem dX5_rewind_0 : decode cX5_rewind 0 = .ok (.aload_n 0, 1) := by decide +kernel
theorem dX5_rewind_1 : decode cX5_rewind 1 = .ok (.iconst 0, 1) := by decide +kernel
theorem dX5_rewind_2 : decode cX5_rewind 2 = .ok (.putfield 19, 3) := by decide +kernel
theorem dX5_rewind_5 : decode cX5_rewind 5 = .ok (.return_, 1) := by decide +kernel
theorem dX5_place_0 : decode cX5_place 0 = .ok (.aload_n 0, 1) := by decide +kernel
theorem dX5_place_1 : decode cX5_place 1 = .ok (.getfield 19, 3) := by decide +kernel
theorem dX5_place_4 : decode cX5_place 4 = .ok (.ireturn, 1) := by decide +kernel
theorem dX5_haveMore_0 : decode cX5_haveMore 0 = .ok (.aload_n 0, 1) := by decide +kernel
theorem dX5_haveMore_1 : decode cX5_haveMore 1 = .ok (.getfield 19, 3) := by decide +kernel
theorem dX5_haveMore_4 : decode cX5_haveMore 4 = .ok (.aload_n 0, 1) := by decide +kernel
theorem dX5_haveMore_5 : decode cX5_haveMore 5 = .ok (.getfield 15, 3) := by decide +kernel
theorem dX5_haveMore_8 : decode cX5_haveMore 8 = .ok (.if_icmp .ge 7, 3) := by decide +kernel
theorem dX5_haveMore_11 : decode cX5_haveMore 11 = .ok (.iconst 1, 1) := by decide +kernel
theorem dX5_haveMore_12 : decode cX5_haveMore 12 = .ok (.goto 4, 3) := by decide +kernel
theorem dX5_haveMore_15 : decode cX5_haveMore 15 = .ok (.iconst 0, 1) := by decide +kernel
theorem dX5_haveMore_16 : decode cX5_haveMore 16 = .ok (.ireturn, 1) := by decide +kernel
theorem dX5_areWellFormed_0 : decode cX5_areWellFormed 0 = .ok (.aload_n 0, 1) := by decide +kernel
theorem dX5_areWellFormed_1 : decode cX5_areWellFormed 1 = .ok (.iconst 0, 1) := by decide +kernel
theorem dX5_areWellFormed_2 : decode cX5_areWellFormed 2 = .ok (.putfield 19, 3) := by decide +kernel
theorem dX5_areWellFormed_5 : decode cX5_areWellFormed 5 = .ok (.aload_n 0, 1) := by decide +kernel
theorem dX5_areWellFormed_6 : decode cX5_areWellFormed 6 = .ok (.invokevirtual 22, 3) := by decide +kernel
theorem dX5_areWellFormed_9 : decode cX5_areWellFormed 9 = .ok (.istore_n 1, 1) := by decide +kernel
theorem dX5_areWellFormed_10 : decode cX5_areWellFormed 10 = .ok (.iconst 0, 1) := by decide +kernel
theorem dX5_areWellFormed_11 : decode cX5_areWellFormed 11 = .ok (.istore_n 2, 1) := by decide +kernel
theorem dX5_areWellFormed_12 : decode cX5_areWellFormed 12 = .ok (.iload_n 2, 1) := by decide +kernel
theorem dX5_areWellFormed_13 : decode cX5_areWellFormed 13 = .ok (.bipush 80, 2) := by decide +kernel
theorem dX5_areWellFormed_15 : decode cX5_areWellFormed 15 = .ok (.if_icmp .ge 25, 3) := by decide +kernel
theorem dX5_areWellFormed_18 : decode cX5_areWellFormed 18 = .ok (.iload_n 1, 1) := by decide +kernel
theorem dX5_areWellFormed_19 : decode cX5_areWellFormed 19 = .ok (.ifCond .eq 21, 3) := by decide +kernel
theorem dX5_areWellFormed_22 : decode cX5_areWellFormed 22 = .ok (.aload_n 0, 1) := by decide +kernel
theorem dX5_areWellFormed_23 : decode cX5_areWellFormed 23 = .ok (.invokevirtual 26, 3) := by decide +kernel
theorem dX5_areWellFormed_26 : decode cX5_areWellFormed 26 = .ok (.ifCond .eq 14, 3) := by decide +kernel
theorem dX5_areWellFormed_29 : decode cX5_areWellFormed 29 = .ok (.aload_n 0, 1) := by decide +kernel
theorem dX5_areWellFormed_30 : decode cX5_areWellFormed 30 = .ok (.invokevirtual 22, 3) := by decide +kernel
theorem dX5_areWellFormed_33 : decode cX5_areWellFormed 33 = .ok (.istore_n 1, 1) := by decide +kernel
theorem dX5_areWellFormed_34 : decode cX5_areWellFormed 34 = .ok (.iinc 2 1, 3) := by decide +kernel
theorem dX5_areWellFormed_37 : decode cX5_areWellFormed 37 = .ok (.goto (-25), 3) := by decide +kernel
theorem dX5_areWellFormed_40 : decode cX5_areWellFormed 40 = .ok (.iload_n 1, 1) := by decide +kernel
theorem dX5_areWellFormed_41 : decode cX5_areWellFormed 41 = .ok (.ireturn, 1) := by decide +kernel
theorem dX5_next_0 : decode cX5_next 0 = .ok (.aload_n 0, 1) := by decide +kernel
theorem dX5_next_1 : decode cX5_next 1 = .ok (.invokevirtual 29, 3) := by decide +kernel
theorem dX5_next_4 : decode cX5_next 4 = .ok (.istore_n 1, 1) := by decide +kernel
theorem dX5_next_5 : decode cX5_next 5 = .ok (.aload_n 0, 1) := by decide +kernel
theorem dX5_next_6 : decode cX5_next 6 = .ok (.dup, 1) := by decide +kernel
theorem dX5_next_7 : decode cX5_next 7 = .ok (.getfield 19, 3) := by decide +kernel
theorem dX5_next_10 : decode cX5_next 10 = .ok (.iconst 1, 1) := by decide +kernel
theorem dX5_next_11 : decode cX5_next 11 = .ok (.iadd, 1) := by decide +kernel
theorem dX5_next_12 : decode cX5_next 12 = .ok (.putfield 19, 3) := by decide +kernel
theorem dX5_next_15 : decode cX5_next 15 = .ok (.iload_n 1, 1) := by decide +kernel
theorem dX5_next_16 : decode cX5_next 16 = .ok (.ireturn, 1) := by decide +kernel
theorem dX5_nextDigit_0 : decode cX5_nextDigit 0 = .ok (.aload_n 0, 1) := by decide +kernel
theorem dX5_nextDigit_1 : decode cX5_nextDigit 1 = .ok (.invokevirtual 33, 3) := by decide +kernel
theorem dX5_nextDigit_4 : decode cX5_nextDigit 4 = .ok (.bipush 48, 2) := by decide +kernel
theorem dX5_nextDigit_6 : decode cX5_nextDigit 6 = .ok (.isub, 1) := by decide +kernel
theorem dX5_nextDigit_7 : decode cX5_nextDigit 7 = .ok (.ireturn, 1) := by decide +kernel
theorem dX5_nextName_0 : decode cX5_nextName 0 = .ok (.aload_n 0, 1) := by decide +kernel
theorem dX5_nextName_1 : decode cX5_nextName 1 = .ok (.invokevirtual 33, 3) := by decide +kernel
theorem dX5_nextName_4 : decode cX5_nextName 4 = .ok (.bipush 65, 2) := by decide +kernel
theorem dX5_nextName_6 : decode cX5_nextName 6 = .ok (.isub, 1) := by decide +kernel
theorem dX5_nextName_7 : decode cX5_nextName 7 = .ok (.ireturn, 1) := by decide +kernel
theorem dX5_readSaying_0 : decode cX5_readSaying 0 = .ok (.aload_n 1, 1) := by decide +kernel
theorem dX5_readSaying_1 : decode cX5_readSaying 1 = .ok (.iconst 0, 1) := by decide +kernel
theorem dX5_readSaying_2 : decode cX5_readSaying 2 = .ok (.putfield 36, 3) := by decide +kernel
theorem dX5_readSaying_5 : decode cX5_readSaying 5 = .ok (.iconst 1, 1) := by decide +kernel
theorem dX5_readSaying_6 : decode cX5_readSaying 6 = .ok (.istore_n 2, 1) := by decide +kernel
theorem dX5_readSaying_7 : decode cX5_readSaying 7 = .ok (.iconst 0, 1) := by decide +kernel
theorem dX5_readSaying_8 : decode cX5_readSaying 8 = .ok (.istore_n 3, 1) := by decide +kernel
theorem dX5_readSaying_9 : decode cX5_readSaying 9 = .ok (.iload_n 3, 1) := by decide +kernel
theorem dX5_readSaying_10 : decode cX5_readSaying 10 = .ok (.bipush 20, 2) := by decide +kernel
theorem dX5_readSaying_12 : decode cX5_readSaying 12 = .ok (.if_icmp .ge 35, 3) := by decide +kernel
theorem dX5_readSaying_15 : decode cX5_readSaying 15 = .ok (.iload_n 2, 1) := by decide +kernel
theorem dX5_readSaying_16 : decode cX5_readSaying 16 = .ok (.ifCond .le 31, 3) := by decide +kernel
theorem dX5_readSaying_19 : decode cX5_readSaying 19 = .ok (.aload_n 0, 1) := by decide +kernel
theorem dX5_readSaying_20 : decode cX5_readSaying 20 = .ok (.invokevirtual 33, 3) := by decide +kernel
theorem dX5_readSaying_23 : decode cX5_readSaying 23 = .ok (.istore 4, 2) := by decide +kernel
theorem dX5_readSaying_25 : decode cX5_readSaying 25 = .ok (.aload_n 1, 1) := by decide +kernel
theorem dX5_readSaying_26 : decode cX5_readSaying 26 = .ok (.iload 4, 2) := by decide +kernel
theorem dX5_readSaying_28 : decode cX5_readSaying 28 = .ok (.invokevirtual 41, 3) := by decide +kernel
theorem dX5_readSaying_31 : decode cX5_readSaying 31 = .ok (.iload_n 2, 1) := by decide +kernel
theorem dX5_readSaying_32 : decode cX5_readSaying 32 = .ok (.iload 4, 2) := by decide +kernel
theorem dX5_readSaying_34 : decode cX5_readSaying 34 = .ok (.invokestatic 45, 3) := by decide +kernel
theorem dX5_readSaying_37 : decode cX5_readSaying 37 = .ok (.iconst 1, 1) := by decide +kernel
theorem dX5_readSaying_38 : decode cX5_readSaying 38 = .ok (.isub, 1) := by decide +kernel
theorem dX5_readSaying_39 : decode cX5_readSaying 39 = .ok (.iadd, 1) := by decide +kernel
theorem dX5_readSaying_40 : decode cX5_readSaying 40 = .ok (.istore_n 2, 1) := by decide +kernel
theorem dX5_readSaying_41 : decode cX5_readSaying 41 = .ok (.iinc 3 1, 3) := by decide +kernel
theorem dX5_readSaying_44 : decode cX5_readSaying 44 = .ok (.goto (-35), 3) := by decide +kernel
theorem dX5_readSaying_47 : decode cX5_readSaying 47 = .ok (.return_, 1) := by decide +kernel
theorem dX5_here_0 : decode cX5_here 0 = .ok (.aload_n 0, 1) := by decide +kernel
theorem dX5_here_1 : decode cX5_here 1 = .ok (.getfield 19, 3) := by decide +kernel
theorem dX5_here_4 : decode cX5_here 4 = .ok (.ifCond .lt 26, 3) := by decide +kernel
theorem dX5_here_7 : decode cX5_here 7 = .ok (.aload_n 0, 1) := by decide +kernel
theorem dX5_here_8 : decode cX5_here 8 = .ok (.getfield 19, 3) := by decide +kernel
theorem dX5_here_11 : decode cX5_here 11 = .ok (.aload_n 0, 1) := by decide +kernel
theorem dX5_here_12 : decode cX5_here 12 = .ok (.getfield 15, 3) := by decide +kernel
theorem dX5_here_15 : decode cX5_here 15 = .ok (.if_icmp .ge 15, 3) := by decide +kernel
theorem dX5_here_18 : decode cX5_here 18 = .ok (.aload_n 0, 1) := by decide +kernel
theorem dX5_here_19 : decode cX5_here 19 = .ok (.getfield 9, 3) := by decide +kernel
theorem dX5_here_22 : decode cX5_here 22 = .ok (.aload_n 0, 1) := by decide +kernel
theorem dX5_here_23 : decode cX5_here 23 = .ok (.getfield 19, 3) := by decide +kernel
theorem dX5_here_26 : decode cX5_here 26 = .ok (.iaload, 1) := by decide +kernel
theorem dX5_here_27 : decode cX5_here 27 = .ok (.goto 4, 3) := by decide +kernel
theorem dX5_here_30 : decode cX5_here 30 = .ok (.iconst (-1), 1) := by decide +kernel
theorem dX5_here_31 : decode cX5_here 31 = .ok (.ireturn, 1) := by decide +kernel
theorem dX5_passStatement_0 : decode cX5_passStatement 0 = .ok (.aload_n 0, 1) := by decide +kernel
theorem dX5_passStatement_1 : decode cX5_passStatement 1 = .ok (.invokevirtual 29, 3) := by decide +kernel
theorem dX5_passStatement_4 : decode cX5_passStatement 4 = .ok (.lookupswitch 221 #[(99, 127), (104, 93), (108, 172), (115, 44)], 44) := by decide +kernel
theorem dX5_passStatement_48 : decode cX5_passStatement 48 = .ok (.aload_n 0, 1) := by decide +kernel
theorem dX5_passStatement_49 : decode cX5_passStatement 49 = .ok (.dup, 1) := by decide +kernel
theorem dX5_passStatement_50 : decode cX5_passStatement 50 = .ok (.getfield 19, 3) := by decide +kernel
theorem dX5_passStatement_53 : decode cX5_passStatement 53 = .ok (.iconst 1, 1) := by decide +kernel
theorem dX5_passStatement_54 : decode cX5_passStatement 54 = .ok (.iadd, 1) := by decide +kernel
theorem dX5_passStatement_55 : decode cX5_passStatement 55 = .ok (.putfield 19, 3) := by decide +kernel
theorem dX5_passStatement_58 : decode cX5_passStatement 58 = .ok (.aload_n 0, 1) := by decide +kernel
theorem dX5_passStatement_59 : decode cX5_passStatement 59 = .ok (.bipush 48, 2) := by decide +kernel
theorem dX5_passStatement_61 : decode cX5_passStatement 61 = .ok (.bipush 57, 2) := by decide +kernel
theorem dX5_passStatement_63 : decode cX5_passStatement 63 = .ok (.invokevirtual 49, 3) := by decide +kernel
theorem dX5_passStatement_66 : decode cX5_passStatement 66 = .ok (.ifCond .eq 29, 3) := by decide +kernel
theorem dX5_passStatement_69 : decode cX5_passStatement 69 = .ok (.aload_n 0, 1) := by decide +kernel
theorem dX5_passStatement_70 : decode cX5_passStatement 70 = .ok (.bipush 48, 2) := by decide +kernel
theorem dX5_passStatement_72 : decode cX5_passStatement 72 = .ok (.bipush 57, 2) := by decide +kernel
theorem dX5_passStatement_74 : decode cX5_passStatement 74 = .ok (.invokevirtual 49, 3) := by decide +kernel
theorem dX5_passStatement_77 : decode cX5_passStatement 77 = .ok (.ifCond .eq 18, 3) := by decide +kernel
theorem dX5_passStatement_80 : decode cX5_passStatement 80 = .ok (.aload_n 0, 1) := by decide +kernel
theorem dX5_passStatement_81 : decode cX5_passStatement 81 = .ok (.bipush 59, 2) := by decide +kernel
theorem dX5_passStatement_83 : decode cX5_passStatement 83 = .ok (.bipush 59, 2) := by decide +kernel
theorem dX5_passStatement_85 : decode cX5_passStatement 85 = .ok (.invokevirtual 49, 3) := by decide +kernel
theorem dX5_passStatement_88 : decode cX5_passStatement 88 = .ok (.ifCond .eq 7, 3) := by decide +kernel
theorem dX5_passStatement_91 : decode cX5_passStatement 91 = .ok (.iconst 1, 1) := by decide +kernel
theorem dX5_passStatement_92 : decode cX5_passStatement 92 = .ok (.goto 4, 3) := by decide +kernel
theorem dX5_passStatement_95 : decode cX5_passStatement 95 = .ok (.iconst 0, 1) := by decide +kernel
theorem dX5_passStatement_96 : decode cX5_passStatement 96 = .ok (.ireturn, 1) := by decide +kernel
theorem dX5_passStatement_97 : decode cX5_passStatement 97 = .ok (.aload_n 0, 1) := by decide +kernel
theorem dX5_passStatement_98 : decode cX5_passStatement 98 = .ok (.dup, 1) := by decide +kernel
theorem dX5_passStatement_99 : decode cX5_passStatement 99 = .ok (.getfield 19, 3) := by decide +kernel
theorem dX5_passStatement_102 : decode cX5_passStatement 102 = .ok (.iconst 1, 1) := by decide +kernel
theorem dX5_passStatement_103 : decode cX5_passStatement 103 = .ok (.iadd, 1) := by decide +kernel
theorem dX5_passStatement_104 : decode cX5_passStatement 104 = .ok (.putfield 19, 3) := by decide +kernel
theorem dX5_passStatement_107 : decode cX5_passStatement 107 = .ok (.aload_n 0, 1) := by decide +kernel
theorem dX5_passStatement_108 : decode cX5_passStatement 108 = .ok (.invokevirtual 53, 3) := by decide +kernel
theorem dX5_passStatement_111 : decode cX5_passStatement 111 = .ok (.ifCond .eq 18, 3) := by decide +kernel
theorem dX5_passStatement_114 : decode cX5_passStatement 114 = .ok (.aload_n 0, 1) := by decide +kernel
theorem dX5_passStatement_115 : decode cX5_passStatement 115 = .ok (.bipush 59, 2) := by decide +kernel
theorem dX5_passStatement_117 : decode cX5_passStatement 117 = .ok (.bipush 59, 2) := by decide +kernel
theorem dX5_passStatement_119 : decode cX5_passStatement 119 = .ok (.invokevirtual 49, 3) := by decide +kernel
theorem dX5_passStatement_122 : decode cX5_passStatement 122 = .ok (.ifCond .eq 7, 3) := by decide +kernel
theorem dX5_passStatement_125 : decode cX5_passStatement 125 = .ok (.iconst 1, 1) := by decide +kernel
theorem dX5_passStatement_126 : decode cX5_passStatement 126 = .ok (.goto 4, 3) := by decide +kernel
theorem dX5_passStatement_129 : decode cX5_passStatement 129 = .ok (.iconst 0, 1) := by decide +kernel
theorem dX5_passStatement_130 : decode cX5_passStatement 130 = .ok (.ireturn, 1) := by decide +kernel
theorem dX5_passStatement_131 : decode cX5_passStatement 131 = .ok (.aload_n 0, 1) := by decide +kernel
theorem dX5_passStatement_132 : decode cX5_passStatement 132 = .ok (.dup, 1) := by decide +kernel
theorem dX5_passStatement_133 : decode cX5_passStatement 133 = .ok (.getfield 19, 3) := by decide +kernel
theorem dX5_passStatement_136 : decode cX5_passStatement 136 = .ok (.iconst 1, 1) := by decide +kernel
theorem dX5_passStatement_137 : decode cX5_passStatement 137 = .ok (.iadd, 1) := by decide +kernel
theorem dX5_passStatement_138 : decode cX5_passStatement 138 = .ok (.putfield 19, 3) := by decide +kernel
theorem dX5_passStatement_141 : decode cX5_passStatement 141 = .ok (.aload_n 0, 1) := by decide +kernel
theorem dX5_passStatement_142 : decode cX5_passStatement 142 = .ok (.bipush 65, 2) := by decide +kernel
theorem dX5_passStatement_144 : decode cX5_passStatement 144 = .ok (.bipush 68, 2) := by decide +kernel
theorem dX5_passStatement_146 : decode cX5_passStatement 146 = .ok (.invokevirtual 49, 3) := by decide +kernel
theorem dX5_passStatement_149 : decode cX5_passStatement 149 = .ok (.ifCond .eq 25, 3) := by decide +kernel
theorem dX5_passStatement_152 : decode cX5_passStatement 152 = .ok (.aload_n 0, 1) := by decide +kernel
theorem dX5_passStatement_153 : decode cX5_passStatement 153 = .ok (.invokevirtual 53, 3) := by decide +kernel
theorem dX5_passStatement_156 : decode cX5_passStatement 156 = .ok (.ifCond .eq 18, 3) := by decide +kernel
theorem dX5_passStatement_159 : decode cX5_passStatement 159 = .ok (.aload_n 0, 1) := by decide +kernel
theorem dX5_passStatement_160 : decode cX5_passStatement 160 = .ok (.bipush 59, 2) := by decide +kernel
theorem dX5_passStatement_162 : decode cX5_passStatement 162 = .ok (.bipush 59, 2) := by decide +kernel
theorem dX5_passStatement_164 : decode cX5_passStatement 164 = .ok (.invokevirtual 49, 3) := by decide +kernel
theorem dX5_passStatement_167 : decode cX5_passStatement 167 = .ok (.ifCond .eq 7, 3) := by decide +kernel
theorem dX5_passStatement_170 : decode cX5_passStatement 170 = .ok (.iconst 1, 1) := by decide +kernel
theorem dX5_passStatement_171 : decode cX5_passStatement 171 = .ok (.goto 4, 3) := by decide +kernel
theorem dX5_passStatement_174 : decode cX5_passStatement 174 = .ok (.iconst 0, 1) := by decide +kernel
theorem dX5_passStatement_175 : decode cX5_passStatement 175 = .ok (.ireturn, 1) := by decide +kernel
theorem dX5_passStatement_176 : decode cX5_passStatement 176 = .ok (.aload_n 0, 1) := by decide +kernel
theorem dX5_passStatement_177 : decode cX5_passStatement 177 = .ok (.dup, 1) := by decide +kernel
theorem dX5_passStatement_178 : decode cX5_passStatement 178 = .ok (.getfield 19, 3) := by decide +kernel
theorem dX5_passStatement_181 : decode cX5_passStatement 181 = .ok (.iconst 1, 1) := by decide +kernel
theorem dX5_passStatement_182 : decode cX5_passStatement 182 = .ok (.iadd, 1) := by decide +kernel
theorem dX5_passStatement_183 : decode cX5_passStatement 183 = .ok (.putfield 19, 3) := by decide +kernel
theorem dX5_passStatement_186 : decode cX5_passStatement 186 = .ok (.aload_n 0, 1) := by decide +kernel
theorem dX5_passStatement_187 : decode cX5_passStatement 187 = .ok (.bipush 48, 2) := by decide +kernel
theorem dX5_passStatement_189 : decode cX5_passStatement 189 = .ok (.bipush 57, 2) := by decide +kernel
theorem dX5_passStatement_191 : decode cX5_passStatement 191 = .ok (.invokevirtual 49, 3) := by decide +kernel
theorem dX5_passStatement_194 : decode cX5_passStatement 194 = .ok (.ifCond .eq 29, 3) := by decide +kernel
theorem dX5_passStatement_197 : decode cX5_passStatement 197 = .ok (.aload_n 0, 1) := by decide +kernel
theorem dX5_passStatement_198 : decode cX5_passStatement 198 = .ok (.bipush 65, 2) := by decide +kernel
theorem dX5_passStatement_200 : decode cX5_passStatement 200 = .ok (.bipush 68, 2) := by decide +kernel
theorem dX5_passStatement_202 : decode cX5_passStatement 202 = .ok (.invokevirtual 49, 3) := by decide +kernel
theorem dX5_passStatement_205 : decode cX5_passStatement 205 = .ok (.ifCond .eq 18, 3) := by decide +kernel
theorem dX5_passStatement_208 : decode cX5_passStatement 208 = .ok (.aload_n 0, 1) := by decide +kernel
theorem dX5_passStatement_209 : decode cX5_passStatement 209 = .ok (.bipush 59, 2) := by decide +kernel
theorem dX5_passStatement_211 : decode cX5_passStatement 211 = .ok (.bipush 59, 2) := by decide +kernel
theorem dX5_passStatement_213 : decode cX5_passStatement 213 = .ok (.invokevirtual 49, 3) := by decide +kernel
theorem dX5_passStatement_216 : decode cX5_passStatement 216 = .ok (.ifCond .eq 7, 3) := by decide +kernel
theorem dX5_passStatement_219 : decode cX5_passStatement 219 = .ok (.iconst 1, 1) := by decide +kernel
theorem dX5_passStatement_220 : decode cX5_passStatement 220 = .ok (.goto 4, 3) := by decide +kernel
theorem dX5_passStatement_223 : decode cX5_passStatement 223 = .ok (.iconst 0, 1) := by decide +kernel
theorem dX5_passStatement_224 : decode cX5_passStatement 224 = .ok (.ireturn, 1) := by decide +kernel
theorem dX5_passStatement_225 : decode cX5_passStatement 225 = .ok (.iconst 0, 1) := by decide +kernel
theorem dX5_passStatement_226 : decode cX5_passStatement 226 = .ok (.ireturn, 1) := by decide +kernel
theorem dX5_passWithin_0 : decode cX5_passWithin 0 = .ok (.aload_n 0, 1) := by decide +kernel
theorem dX5_passWithin_1 : decode cX5_passWithin 1 = .ok (.invokevirtual 29, 3) := by decide +kernel
theorem dX5_passWithin_4 : decode cX5_passWithin 4 = .ok (.istore_n 3, 1) := by decide +kernel
theorem dX5_passWithin_5 : decode cX5_passWithin 5 = .ok (.iload_n 3, 1) := by decide +kernel
theorem dX5_passWithin_6 : decode cX5_passWithin 6 = .ok (.iload_n 1, 1) := by decide +kernel
theorem dX5_passWithin_7 : decode cX5_passWithin 7 = .ok (.if_icmp .lt 8, 3) := by decide +kernel
theorem dX5_passWithin_10 : decode cX5_passWithin 10 = .ok (.iload_n 3, 1) := by decide +kernel
theorem dX5_passWithin_11 : decode cX5_passWithin 11 = .ok (.iload_n 2, 1) := by decide +kernel
theorem dX5_passWithin_12 : decode cX5_passWithin 12 = .ok (.if_icmp .le 5, 3) := by decide +kernel
theorem dX5_passWithin_15 : decode cX5_passWithin 15 = .ok (.iconst 0, 1) := by decide +kernel
theorem dX5_passWithin_16 : decode cX5_passWithin 16 = .ok (.ireturn, 1) := by decide +kernel
theorem dX5_passWithin_17 : decode cX5_passWithin 17 = .ok (.aload_n 0, 1) := by decide +kernel
theorem dX5_passWithin_18 : decode cX5_passWithin 18 = .ok (.dup, 1) := by decide +kernel
theorem dX5_passWithin_19 : decode cX5_passWithin 19 = .ok (.getfield 19, 3) := by decide +kernel
theorem dX5_passWithin_22 : decode cX5_passWithin 22 = .ok (.iconst 1, 1) := by decide +kernel
theorem dX5_passWithin_23 : decode cX5_passWithin 23 = .ok (.iadd, 1) := by decide +kernel
theorem dX5_passWithin_24 : decode cX5_passWithin 24 = .ok (.putfield 19, 3) := by decide +kernel
theorem dX5_passWithin_27 : decode cX5_passWithin 27 = .ok (.iconst 1, 1) := by decide +kernel
theorem dX5_passWithin_28 : decode cX5_passWithin 28 = .ok (.ireturn, 1) := by decide +kernel
theorem dX5_passSaying_0 : decode cX5_passSaying 0 = .ok (.iconst 1, 1) := by decide +kernel
theorem dX5_passSaying_1 : decode cX5_passSaying 1 = .ok (.istore_n 1, 1) := by decide +kernel
theorem dX5_passSaying_2 : decode cX5_passSaying 2 = .ok (.iconst 0, 1) := by decide +kernel
theorem dX5_passSaying_3 : decode cX5_passSaying 3 = .ok (.istore_n 2, 1) := by decide +kernel
theorem dX5_passSaying_4 : decode cX5_passSaying 4 = .ok (.iload_n 2, 1) := by decide +kernel
theorem dX5_passSaying_5 : decode cX5_passSaying 5 = .ok (.bipush 20, 2) := by decide +kernel
theorem dX5_passSaying_7 : decode cX5_passSaying 7 = .ok (.if_icmp .ge 43, 3) := by decide +kernel
theorem dX5_passSaying_10 : decode cX5_passSaying 10 = .ok (.iload_n 1, 1) := by decide +kernel
theorem dX5_passSaying_11 : decode cX5_passSaying 11 = .ok (.ifCond .le 39, 3) := by decide +kernel
theorem dX5_passSaying_14 : decode cX5_passSaying 14 = .ok (.aload_n 0, 1) := by decide +kernel
theorem dX5_passSaying_15 : decode cX5_passSaying 15 = .ok (.invokevirtual 29, 3) := by decide +kernel
theorem dX5_passSaying_18 : decode cX5_passSaying 18 = .ok (.invokestatic 45, 3) := by decide +kernel
theorem dX5_passSaying_21 : decode cX5_passSaying 21 = .ok (.istore_n 3, 1) := by decide +kernel
theorem dX5_passSaying_22 : decode cX5_passSaying 22 = .ok (.iload_n 3, 1) := by decide +kernel
theorem dX5_passSaying_23 : decode cX5_passSaying 23 = .ok (.ifCond .ge 5, 3) := by decide +kernel
theorem dX5_passSaying_26 : decode cX5_passSaying 26 = .ok (.iconst 0, 1) := by decide +kernel
theorem dX5_passSaying_27 : decode cX5_passSaying 27 = .ok (.ireturn, 1) := by decide +kernel
theorem dX5_passSaying_28 : decode cX5_passSaying 28 = .ok (.iload_n 1, 1) := by decide +kernel
theorem dX5_passSaying_29 : decode cX5_passSaying 29 = .ok (.iload_n 3, 1) := by decide +kernel
theorem dX5_passSaying_30 : decode cX5_passSaying 30 = .ok (.iconst 1, 1) := by decide +kernel
theorem dX5_passSaying_31 : decode cX5_passSaying 31 = .ok (.isub, 1) := by decide +kernel
theorem dX5_passSaying_32 : decode cX5_passSaying 32 = .ok (.iadd, 1) := by decide +kernel
theorem dX5_passSaying_33 : decode cX5_passSaying 33 = .ok (.istore_n 1, 1) := by decide +kernel
theorem dX5_passSaying_34 : decode cX5_passSaying 34 = .ok (.aload_n 0, 1) := by decide +kernel
theorem dX5_passSaying_35 : decode cX5_passSaying 35 = .ok (.dup, 1) := by decide +kernel
theorem dX5_passSaying_36 : decode cX5_passSaying 36 = .ok (.getfield 19, 3) := by decide +kernel
theorem dX5_passSaying_39 : decode cX5_passSaying 39 = .ok (.iconst 1, 1) := by decide +kernel
theorem dX5_passSaying_40 : decode cX5_passSaying 40 = .ok (.iadd, 1) := by decide +kernel
theorem dX5_passSaying_41 : decode cX5_passSaying 41 = .ok (.putfield 19, 3) := by decide +kernel
theorem dX5_passSaying_44 : decode cX5_passSaying 44 = .ok (.iinc 2 1, 3) := by decide +kernel
theorem dX5_passSaying_47 : decode cX5_passSaying 47 = .ok (.goto (-43), 3) := by decide +kernel
theorem dX5_passSaying_50 : decode cX5_passSaying 50 = .ok (.iload_n 1, 1) := by decide +kernel
theorem dX5_passSaying_51 : decode cX5_passSaying 51 = .ok (.ifCond .ne 7, 3) := by decide +kernel
theorem dX5_passSaying_54 : decode cX5_passSaying 54 = .ok (.iconst 1, 1) := by decide +kernel
theorem dX5_passSaying_55 : decode cX5_passSaying 55 = .ok (.goto 4, 3) := by decide +kernel
theorem dX5_passSaying_58 : decode cX5_passSaying 58 = .ok (.iconst 0, 1) := by decide +kernel
theorem dX5_passSaying_59 : decode cX5_passSaying 59 = .ok (.ireturn, 1) := by decide +kernel
theorem dX6_init_0 : decode cX6_init 0 = .ok (.aload_n 0, 1) := by decide +kernel
theorem dX6_init_1 : decode cX6_init 1 = .ok (.invokespecial 3, 3) := by decide +kernel
theorem dX6_init_4 : decode cX6_init 4 = .ok (.aload_n 0, 1) := by decide +kernel
theorem dX6_init_5 : decode cX6_init 5 = .ok (.new 9, 3) := by decide +kernel
theorem dX6_init_8 : decode cX6_init 8 = .ok (.dup, 1) := by decide +kernel
theorem dX6_init_9 : decode cX6_init 9 = .ok (.iconst 0, 1) := by decide +kernel
theorem dX6_init_10 : decode cX6_init 10 = .ok (.invokespecial 11, 3) := by decide +kernel
theorem dX6_init_13 : decode cX6_init 13 = .ok (.putfield 14, 3) := by decide +kernel
theorem dX6_init_16 : decode cX6_init 16 = .ok (.aload_n 0, 1) := by decide +kernel
theorem dX6_init_17 : decode cX6_init 17 = .ok (.iconst 5, 1) := by decide +kernel
theorem dX6_init_18 : decode cX6_init 18 = .ok (.newarray .int, 2) := by decide +kernel
theorem dX6_init_20 : decode cX6_init 20 = .ok (.putfield 20, 3) := by decide +kernel
theorem dX6_init_23 : decode cX6_init 23 = .ok (.aload_n 0, 1) := by decide +kernel
theorem dX6_init_24 : decode cX6_init 24 = .ok (.bipush 20, 2) := by decide +kernel
theorem dX6_init_26 : decode cX6_init 26 = .ok (.newarray .int, 2) := by decide +kernel
theorem dX6_init_28 : decode cX6_init 28 = .ok (.putfield 24, 3) := by decide +kernel
theorem dX6_init_31 : decode cX6_init 31 = .ok (.return_, 1) := by decide +kernel
theorem dX6_become_0 : decode cX6_become 0 = .ok (.aload_n 0, 1) := by decide +kernel
theorem dX6_become_1 : decode cX6_become 1 = .ok (.aload_n 1, 1) := by decide +kernel
theorem dX6_become_2 : decode cX6_become 2 = .ok (.putfield 14, 3) := by decide +kernel
theorem dX6_become_5 : decode cX6_become 5 = .ok (.iconst 0, 1) := by decide +kernel
theorem dX6_become_6 : decode cX6_become 6 = .ok (.istore 4, 2) := by decide +kernel
theorem dX6_become_8 : decode cX6_become 8 = .ok (.iload 4, 2) := by decide +kernel
theorem dX6_become_10 : decode cX6_become 10 = .ok (.iconst 4, 1) := by decide +kernel
theorem dX6_become_11 : decode cX6_become 11 = .ok (.if_icmp .ge 42, 3) := by decide +kernel
theorem dX6_become_14 : decode cX6_become 14 = .ok (.iload 4, 2) := by decide +kernel
theorem dX6_become_16 : decode cX6_become 16 = .ok (.aload_n 2, 1) := by decide +kernel
theorem dX6_become_17 : decode cX6_become 17 = .ok (.arraylength, 1) := by decide +kernel
theorem dX6_become_18 : decode cX6_become 18 = .ok (.if_icmp .ge 35, 3) := by decide +kernel
theorem dX6_become_21 : decode cX6_become 21 = .ok (.aload_n 0, 1) := by decide +kernel
theorem dX6_become_22 : decode cX6_become 22 = .ok (.getfield 20, 3) := by decide +kernel
theorem dX6_become_25 : decode cX6_become 25 = .ok (.iload 4, 2) := by decide +kernel
theorem dX6_become_27 : decode cX6_become 27 = .ok (.iload_n 3, 1) := by decide +kernel
theorem dX6_become_28 : decode cX6_become 28 = .ok (.iload 4, 2) := by decide +kernel
theorem dX6_become_30 : decode cX6_become 30 = .ok (.ishr, 1) := by decide +kernel
theorem dX6_become_31 : decode cX6_become 31 = .ok (.iconst 1, 1) := by decide +kernel
theorem dX6_become_32 : decode cX6_become 32 = .ok (.iand, 1) := by decide +kernel
theorem dX6_become_33 : decode cX6_become 33 = .ok (.iconst 1, 1) := by decide +kernel
theorem dX6_become_34 : decode cX6_become 34 = .ok (.if_icmp .ne 10, 3) := by decide +kernel
theorem dX6_become_37 : decode cX6_become 37 = .ok (.aload_n 2, 1) := by decide +kernel
theorem dX6_become_38 : decode cX6_become 38 = .ok (.iload 4, 2) := by decide +kernel
theorem dX6_become_40 : decode cX6_become 40 = .ok (.iaload, 1) := by decide +kernel
theorem dX6_become_41 : decode cX6_become 41 = .ok (.goto 5, 3) := by decide +kernel
theorem dX6_become_44 : decode cX6_become 44 = .ok (.bipush (-9), 2) := by decide +kernel
theorem dX6_become_46 : decode cX6_become 46 = .ok (.iastore, 1) := by decide +kernel
theorem dX6_become_47 : decode cX6_become 47 = .ok (.iinc 4 1, 3) := by decide +kernel
theorem dX6_become_50 : decode cX6_become 50 = .ok (.goto (-42), 3) := by decide +kernel
theorem dX6_become_53 : decode cX6_become 53 = .ok (.aload_n 0, 1) := by decide +kernel
theorem dX6_become_54 : decode cX6_become 54 = .ok (.getfield 20, 3) := by decide +kernel
theorem dX6_become_57 : decode cX6_become 57 = .ok (.iconst 4, 1) := by decide +kernel
theorem dX6_become_58 : decode cX6_become 58 = .ok (.bipush (-9), 2) := by decide +kernel
theorem dX6_become_60 : decode cX6_become 60 = .ok (.iastore, 1) := by decide +kernel
theorem dX6_become_61 : decode cX6_become 61 = .ok (.return_, 1) := by decide +kernel
theorem dX6_knowInMind_0 : decode cX6_knowInMind 0 = .ok (.aload_n 0, 1) := by decide +kernel
theorem dX6_knowInMind_1 : decode cX6_knowInMind 1 = .ok (.getfield 20, 3) := by decide +kernel
theorem dX6_knowInMind_4 : decode cX6_knowInMind 4 = .ok (.iconst 4, 1) := by decide +kernel
theorem dX6_knowInMind_5 : decode cX6_knowInMind 5 = .ok (.iload_n 1, 1) := by decide +kernel
theorem dX6_knowInMind_6 : decode cX6_knowInMind 6 = .ok (.iastore, 1) := by decide +kernel
theorem dX6_knowInMind_7 : decode cX6_knowInMind 7 = .ok (.return_, 1) := by decide +kernel
theorem dX6_meaningOf_0 : decode cX6_meaningOf 0 = .ok (.iconst 0, 1) := by decide +kernel
theorem dX6_meaningOf_1 : decode cX6_meaningOf 1 = .ok (.istore_n 2, 1) := by decide +kernel
theorem dX6_meaningOf_2 : decode cX6_meaningOf 2 = .ok (.aload_n 1, 1) := by decide +kernel
theorem dX6_meaningOf_3 : decode cX6_meaningOf 3 = .ok (.getfield 27, 3) := by decide +kernel
theorem dX6_meaningOf_6 : decode cX6_meaningOf 6 = .ok (.iconst 1, 1) := by decide +kernel
theorem dX6_meaningOf_7 : decode cX6_meaningOf 7 = .ok (.isub, 1) := by decide +kernel
theorem dX6_meaningOf_8 : decode cX6_meaningOf 8 = .ok (.istore_n 3, 1) := by decide +kernel
theorem dX6_meaningOf_9 : decode cX6_meaningOf 9 = .ok (.iload_n 3, 1) := by decide +kernel
theorem dX6_meaningOf_10 : decode cX6_meaningOf 10 = .ok (.ifCond .lt 21, 3) := by decide +kernel
theorem dX6_meaningOf_13 : decode cX6_meaningOf 13 = .ok (.aload_n 0, 1) := by decide +kernel
theorem dX6_meaningOf_14 : decode cX6_meaningOf 14 = .ok (.aload_n 1, 1) := by decide +kernel
theorem dX6_meaningOf_15 : decode cX6_meaningOf 15 = .ok (.getfield 33, 3) := by decide +kernel
theorem dX6_meaningOf_18 : decode cX6_meaningOf 18 = .ok (.iload_n 3, 1) := by decide +kernel
theorem dX6_meaningOf_19 : decode cX6_meaningOf 19 = .ok (.iaload, 1) := by decide +kernel
theorem dX6_meaningOf_20 : decode cX6_meaningOf 20 = .ok (.iload_n 2, 1) := by decide +kernel
theorem dX6_meaningOf_21 : decode cX6_meaningOf 21 = .ok (.invokevirtual 36, 3) := by decide +kernel
theorem dX6_meaningOf_24 : decode cX6_meaningOf 24 = .ok (.istore_n 2, 1) := by decide +kernel
theorem dX6_meaningOf_25 : decode cX6_meaningOf 25 = .ok (.iinc 3 (-1), 3) := by decide +kernel
theorem dX6_meaningOf_28 : decode cX6_meaningOf 28 = .ok (.goto (-19), 3) := by decide +kernel
theorem dX6_meaningOf_31 : decode cX6_meaningOf 31 = .ok (.iload_n 2, 1) := by decide +kernel
theorem dX6_meaningOf_32 : decode cX6_meaningOf 32 = .ok (.ifCond .le 14, 3) := by decide +kernel
theorem dX6_meaningOf_35 : decode cX6_meaningOf 35 = .ok (.aload_n 0, 1) := by decide +kernel
theorem dX6_meaningOf_36 : decode cX6_meaningOf 36 = .ok (.getfield 24, 3) := by decide +kernel
theorem dX6_meaningOf_39 : decode cX6_meaningOf 39 = .ok (.iload_n 2, 1) := by decide +kernel
theorem dX6_meaningOf_40 : decode cX6_meaningOf 40 = .ok (.iconst 1, 1) := by decide +kernel
theorem dX6_meaningOf_41 : decode cX6_meaningOf 41 = .ok (.isub, 1) := by decide +kernel
theorem dX6_meaningOf_42 : decode cX6_meaningOf 42 = .ok (.iaload, 1) := by decide +kernel
theorem dX6_meaningOf_43 : decode cX6_meaningOf 43 = .ok (.goto 4, 3) := by decide +kernel
theorem dX6_meaningOf_46 : decode cX6_meaningOf 46 = .ok (.iconst 0, 1) := by decide +kernel
theorem dX6_meaningOf_47 : decode cX6_meaningOf 47 = .ok (.ireturn, 1) := by decide +kernel
theorem dX6_hear_0 : decode cX6_hear 0 = .ok (.iload_n 1, 1) := by decide +kernel
theorem dX6_hear_1 : decode cX6_hear 1 = .ok (.invokestatic 40, 3) := by decide +kernel
theorem dX6_hear_4 : decode cX6_hear 4 = .ok (.istore_n 3, 1) := by decide +kernel
theorem dX6_hear_5 : decode cX6_hear 5 = .ok (.iload_n 3, 1) := by decide +kernel
theorem dX6_hear_6 : decode cX6_hear 6 = .ok (.iconst 1, 1) := by decide +kernel
theorem dX6_hear_7 : decode cX6_hear 7 = .ok (.if_icmp .ne 33, 3) := by decide +kernel
theorem dX6_hear_10 : decode cX6_hear 10 = .ok (.iload_n 2, 1) := by decide +kernel
theorem dX6_hear_11 : decode cX6_hear 11 = .ok (.iconst 1, 1) := by decide +kernel
theorem dX6_hear_12 : decode cX6_hear 12 = .ok (.if_icmp .lt 28, 3) := by decide +kernel
theorem dX6_hear_15 : decode cX6_hear 15 = .ok (.aload_n 0, 1) := by decide +kernel
theorem dX6_hear_16 : decode cX6_hear 16 = .ok (.getfield 24, 3) := by decide +kernel
theorem dX6_hear_19 : decode cX6_hear 19 = .ok (.iload_n 2, 1) := by decide +kernel
theorem dX6_hear_20 : decode cX6_hear 20 = .ok (.iconst 1, 1) := by decide +kernel
theorem dX6_hear_21 : decode cX6_hear 21 = .ok (.isub, 1) := by decide +kernel
theorem dX6_hear_22 : decode cX6_hear 22 = .ok (.aload_n 0, 1) := by decide +kernel
theorem dX6_hear_23 : decode cX6_hear 23 = .ok (.getfield 14, 3) := by decide +kernel
theorem dX6_hear_26 : decode cX6_hear 26 = .ok (.aload_n 0, 1) := by decide +kernel
theorem dX6_hear_27 : decode cX6_hear 27 = .ok (.getfield 24, 3) := by decide +kernel
theorem dX6_hear_30 : decode cX6_hear 30 = .ok (.iload_n 2, 1) := by decide +kernel
theorem dX6_hear_31 : decode cX6_hear 31 = .ok (.iconst 1, 1) := by decide +kernel
theorem dX6_hear_32 : decode cX6_hear 32 = .ok (.isub, 1) := by decide +kernel
theorem dX6_hear_33 : decode cX6_hear 33 = .ok (.iaload, 1) := by decide +kernel
theorem dX6_hear_34 : decode cX6_hear 34 = .ok (.invokevirtual 44, 3) := by decide +kernel
theorem dX6_hear_37 : decode cX6_hear 37 = .ok (.iastore, 1) := by decide +kernel
theorem dX6_hear_38 : decode cX6_hear 38 = .ok (.iload_n 2, 1) := by decide +kernel
theorem dX6_hear_39 : decode cX6_hear 39 = .ok (.ireturn, 1) := by decide +kernel
theorem dX6_hear_40 : decode cX6_hear 40 = .ok (.iload_n 3, 1) := by decide +kernel
theorem dX6_hear_41 : decode cX6_hear 41 = .ok (.iconst 2, 1) := by decide +kernel
theorem dX6_hear_42 : decode cX6_hear 42 = .ok (.if_icmp .ne 71, 3) := by decide +kernel
theorem dX6_hear_45 : decode cX6_hear 45 = .ok (.iload_n 2, 1) := by decide +kernel
theorem dX6_hear_46 : decode cX6_hear 46 = .ok (.iconst 2, 1) := by decide +kernel
theorem dX6_hear_47 : decode cX6_hear 47 = .ok (.if_icmp .lt 66, 3) := by decide +kernel
theorem dX6_hear_50 : decode cX6_hear 50 = .ok (.aload_n 0, 1) := by decide +kernel
theorem dX6_hear_51 : decode cX6_hear 51 = .ok (.getfield 24, 3) := by decide +kernel
theorem dX6_hear_54 : decode cX6_hear 54 = .ok (.iload_n 2, 1) := by decide +kernel
theorem dX6_hear_55 : decode cX6_hear 55 = .ok (.iconst 1, 1) := by decide +kernel
theorem dX6_hear_56 : decode cX6_hear 56 = .ok (.isub, 1) := by decide +kernel
theorem dX6_hear_57 : decode cX6_hear 57 = .ok (.iaload, 1) := by decide +kernel
theorem dX6_hear_58 : decode cX6_hear 58 = .ok (.istore 4, 2) := by decide +kernel
theorem dX6_hear_60 : decode cX6_hear 60 = .ok (.aload_n 0, 1) := by decide +kernel
theorem dX6_hear_61 : decode cX6_hear 61 = .ok (.getfield 24, 3) := by decide +kernel
theorem dX6_hear_64 : decode cX6_hear 64 = .ok (.iload_n 2, 1) := by decide +kernel
theorem dX6_hear_65 : decode cX6_hear 65 = .ok (.iconst 2, 1) := by decide +kernel
theorem dX6_hear_66 : decode cX6_hear 66 = .ok (.isub, 1) := by decide +kernel
theorem dX6_hear_67 : decode cX6_hear 67 = .ok (.iaload, 1) := by decide +kernel
theorem dX6_hear_68 : decode cX6_hear 68 = .ok (.istore 5, 2) := by decide +kernel
theorem dX6_hear_70 : decode cX6_hear 70 = .ok (.aload_n 0, 1) := by decide +kernel
theorem dX6_hear_71 : decode cX6_hear 71 = .ok (.getfield 24, 3) := by decide +kernel
theorem dX6_hear_74 : decode cX6_hear 74 = .ok (.iload_n 2, 1) := by decide +kernel
theorem dX6_hear_75 : decode cX6_hear 75 = .ok (.iconst 2, 1) := by decide +kernel
theorem dX6_hear_76 : decode cX6_hear 76 = .ok (.isub, 1) := by decide +kernel
theorem dX6_hear_77 : decode cX6_hear 77 = .ok (.iload_n 1, 1) := by decide +kernel
theorem dX6_hear_78 : decode cX6_hear 78 = .ok (.bipush 97, 2) := by decide +kernel
theorem dX6_hear_80 : decode cX6_hear 80 = .ok (.if_icmp .ne 17, 3) := by decide +kernel
theorem dX6_hear_83 : decode cX6_hear 83 = .ok (.aload_n 0, 1) := by decide +kernel
theorem dX6_hear_84 : decode cX6_hear 84 = .ok (.getfield 14, 3) := by decide +kernel
theorem dX6_hear_87 : decode cX6_hear 87 = .ok (.iload 4, 2) := by decide +kernel
theorem dX6_hear_89 : decode cX6_hear 89 = .ok (.iload 5, 2) := by decide +kernel
theorem dX6_hear_91 : decode cX6_hear 91 = .ok (.invokevirtual 47, 3) := by decide +kernel
theorem dX6_hear_94 : decode cX6_hear 94 = .ok (.goto 14, 3) := by decide +kernel
theorem dX6_hear_97 : decode cX6_hear 97 = .ok (.aload_n 0, 1) := by decide +kernel
theorem dX6_hear_98 : decode cX6_hear 98 = .ok (.getfield 14, 3) := by decide +kernel
theorem dX6_hear_101 : decode cX6_hear 101 = .ok (.iload 4, 2) := by decide +kernel
theorem dX6_hear_103 : decode cX6_hear 103 = .ok (.iload 5, 2) := by decide +kernel
theorem dX6_hear_105 : decode cX6_hear 105 = .ok (.invokevirtual 50, 3) := by decide +kernel
theorem dX6_hear_108 : decode cX6_hear 108 = .ok (.iastore, 1) := by decide +kernel
theorem dX6_hear_109 : decode cX6_hear 109 = .ok (.iload_n 2, 1) := by decide +kernel
theorem dX6_hear_110 : decode cX6_hear 110 = .ok (.iconst 1, 1) := by decide +kernel
theorem dX6_hear_111 : decode cX6_hear 111 = .ok (.isub, 1) := by decide +kernel
theorem dX6_hear_112 : decode cX6_hear 112 = .ok (.ireturn, 1) := by decide +kernel
theorem dX6_hear_113 : decode cX6_hear 113 = .ok (.iload_n 3, 1) := by decide +kernel
theorem dX6_hear_114 : decode cX6_hear 114 = .ok (.ifCond .ne 24, 3) := by decide +kernel
theorem dX6_hear_117 : decode cX6_hear 117 = .ok (.iload_n 2, 1) := by decide +kernel
theorem dX6_hear_118 : decode cX6_hear 118 = .ok (.bipush 20, 2) := by decide +kernel
theorem dX6_hear_120 : decode cX6_hear 120 = .ok (.if_icmp .ge 18, 3) := by decide +kernel
theorem dX6_hear_123 : decode cX6_hear 123 = .ok (.aload_n 0, 1) := by decide +kernel
theorem dX6_hear_124 : decode cX6_hear 124 = .ok (.getfield 24, 3) := by decide +kernel
theorem dX6_hear_127 : decode cX6_hear 127 = .ok (.iload_n 2, 1) := by decide +kernel
theorem dX6_hear_128 : decode cX6_hear 128 = .ok (.aload_n 0, 1) := by decide +kernel
theorem dX6_hear_129 : decode cX6_hear 129 = .ok (.iload_n 1, 1) := by decide +kernel
theorem dX6_hear_130 : decode cX6_hear 130 = .ok (.invokevirtual 53, 3) := by decide +kernel
theorem dX6_hear_133 : decode cX6_hear 133 = .ok (.iastore, 1) := by decide +kernel
theorem dX6_hear_134 : decode cX6_hear 134 = .ok (.iload_n 2, 1) := by decide +kernel
theorem dX6_hear_135 : decode cX6_hear 135 = .ok (.iconst 1, 1) := by decide +kernel
theorem dX6_hear_136 : decode cX6_hear 136 = .ok (.iadd, 1) := by decide +kernel
theorem dX6_hear_137 : decode cX6_hear 137 = .ok (.ireturn, 1) := by decide +kernel
theorem dX6_hear_138 : decode cX6_hear 138 = .ok (.iload_n 2, 1) := by decide +kernel
theorem dX6_hear_139 : decode cX6_hear 139 = .ok (.ireturn, 1) := by decide +kernel
theorem dX6_meaningOfLeaf_0 : decode cX6_meaningOfLeaf 0 = .ok (.iload_n 1, 1) := by decide +kernel
theorem dX6_meaningOfLeaf_1 : decode cX6_meaningOfLeaf 1 = .ok (.bipush 112, 2) := by decide +kernel
theorem dX6_meaningOfLeaf_3 : decode cX6_meaningOfLeaf 3 = .ok (.isub, 1) := by decide +kernel
theorem dX6_meaningOfLeaf_4 : decode cX6_meaningOfLeaf 4 = .ok (.istore_n 2, 1) := by decide +kernel
theorem dX6_meaningOfLeaf_5 : decode cX6_meaningOfLeaf 5 = .ok (.iload_n 2, 1) := by decide +kernel
theorem dX6_meaningOfLeaf_6 : decode cX6_meaningOfLeaf 6 = .ok (.ifCond .lt 17, 3) := by decide +kernel
theorem dX6_meaningOfLeaf_9 : decode cX6_meaningOfLeaf 9 = .ok (.iload_n 2, 1) := by decide +kernel
theorem dX6_meaningOfLeaf_10 : decode cX6_meaningOfLeaf 10 = .ok (.getstatic 56, 3) := by decide +kernel
theorem dX6_meaningOfLeaf_13 : decode cX6_meaningOfLeaf 13 = .ok (.arraylength, 1) := by decide +kernel
theorem dX6_meaningOfLeaf_14 : decode cX6_meaningOfLeaf 14 = .ok (.if_icmp .ge 9, 3) := by decide +kernel
theorem dX6_meaningOfLeaf_17 : decode cX6_meaningOfLeaf 17 = .ok (.getstatic 56, 3) := by decide +kernel
theorem dX6_meaningOfLeaf_20 : decode cX6_meaningOfLeaf 20 = .ok (.iload_n 2, 1) := by decide +kernel
theorem dX6_meaningOfLeaf_21 : decode cX6_meaningOfLeaf 21 = .ok (.iaload, 1) := by decide +kernel
theorem dX6_meaningOfLeaf_22 : decode cX6_meaningOfLeaf 22 = .ok (.ireturn, 1) := by decide +kernel
theorem dX6_meaningOfLeaf_23 : decode cX6_meaningOfLeaf 23 = .ok (.iload_n 1, 1) := by decide +kernel
theorem dX6_meaningOfLeaf_24 : decode cX6_meaningOfLeaf 24 = .ok (.bipush 65, 2) := by decide +kernel
theorem dX6_meaningOfLeaf_26 : decode cX6_meaningOfLeaf 26 = .ok (.isub, 1) := by decide +kernel
theorem dX6_meaningOfLeaf_27 : decode cX6_meaningOfLeaf 27 = .ok (.istore_n 3, 1) := by decide +kernel
theorem dX6_meaningOfLeaf_28 : decode cX6_meaningOfLeaf 28 = .ok (.iload_n 3, 1) := by decide +kernel
theorem dX6_meaningOfLeaf_29 : decode cX6_meaningOfLeaf 29 = .ok (.invokestatic 59, 3) := by decide +kernel
theorem dX6_meaningOfLeaf_32 : decode cX6_meaningOfLeaf 32 = .ok (.ifCond .ne 14, 3) := by decide +kernel
theorem dX6_meaningOfLeaf_35 : decode cX6_meaningOfLeaf 35 = .ok (.aload_n 0, 1) := by decide +kernel
theorem dX6_meaningOfLeaf_36 : decode cX6_meaningOfLeaf 36 = .ok (.getfield 20, 3) := by decide +kernel
theorem dX6_meaningOfLeaf_39 : decode cX6_meaningOfLeaf 39 = .ok (.iload_n 3, 1) := by decide +kernel
theorem dX6_meaningOfLeaf_40 : decode cX6_meaningOfLeaf 40 = .ok (.iaload, 1) := by decide +kernel
theorem dX6_meaningOfLeaf_41 : decode cX6_meaningOfLeaf 41 = .ok (.bipush (-9), 2) := by decide +kernel
theorem dX6_meaningOfLeaf_43 : decode cX6_meaningOfLeaf 43 = .ok (.if_icmp .ne 7, 3) := by decide +kernel
theorem dX6_meaningOfLeaf_46 : decode cX6_meaningOfLeaf 46 = .ok (.iconst 0, 1) := by decide +kernel
theorem dX6_meaningOfLeaf_47 : decode cX6_meaningOfLeaf 47 = .ok (.goto 9, 3) := by decide +kernel
theorem dX6_meaningOfLeaf_50 : decode cX6_meaningOfLeaf 50 = .ok (.aload_n 0, 1) := by decide +kernel
theorem dX6_meaningOfLeaf_51 : decode cX6_meaningOfLeaf 51 = .ok (.getfield 20, 3) := by decide +kernel
theorem dX6_meaningOfLeaf_54 : decode cX6_meaningOfLeaf 54 = .ok (.iload_n 3, 1) := by decide +kernel
theorem dX6_meaningOfLeaf_55 : decode cX6_meaningOfLeaf 55 = .ok (.iaload, 1) := by decide +kernel
theorem dX6_meaningOfLeaf_56 : decode cX6_meaningOfLeaf 56 = .ok (.ireturn, 1) := by decide +kernel
theorem dX7_init_0 : decode cX7_init 0 = .ok (.aload_n 0, 1) := by decide +kernel
theorem dX7_init_1 : decode cX7_init 1 = .ok (.invokespecial 3, 3) := by decide +kernel
theorem dX7_init_4 : decode cX7_init 4 = .ok (.aload_n 0, 1) := by decide +kernel
theorem dX7_init_5 : decode cX7_init 5 = .ok (.bipush 20, 2) := by decide +kernel
theorem dX7_init_7 : decode cX7_init 7 = .ok (.newarray .int, 2) := by decide +kernel
theorem dX7_init_9 : decode cX7_init 9 = .ok (.putfield 9, 3) := by decide +kernel
theorem dX7_init_12 : decode cX7_init 12 = .ok (.aload_n 0, 1) := by decide +kernel
theorem dX7_init_13 : decode cX7_init 13 = .ok (.iconst 0, 1) := by decide +kernel
theorem dX7_init_14 : decode cX7_init 14 = .ok (.putfield 15, 3) := by decide +kernel
theorem dX7_init_17 : decode cX7_init 17 = .ok (.return_, 1) := by decide +kernel
theorem dX7_partsOf_0 : decode cX7_partsOf 0 = .ok (.iload_n 0, 1) := by decide +kernel
theorem dX7_partsOf_1 : decode cX7_partsOf 1 = .ok (.lookupswitch 97 #[(65, 91), (66, 91), (67, 91), (68, 91), (97, 95), (110, 93), (111, 95), (112, 91), (113, 91), (114, 91)], 91) := by decide +kernel
theorem dX7_partsOf_92 : decode cX7_partsOf 92 = .ok (.iconst 0, 1) := by decide +kernel
theorem dX7_partsOf_93 : decode cX7_partsOf 93 = .ok (.ireturn, 1) := by decide +kernel
theorem dX7_partsOf_94 : decode cX7_partsOf 94 = .ok (.iconst 1, 1) := by decide +kernel
theorem dX7_partsOf_95 : decode cX7_partsOf 95 = .ok (.ireturn, 1) := by decide +kernel
theorem dX7_partsOf_96 : decode cX7_partsOf 96 = .ok (.iconst 2, 1) := by decide +kernel
theorem dX7_partsOf_97 : decode cX7_partsOf 97 = .ok (.ireturn, 1) := by decide +kernel
theorem dX7_partsOf_98 : decode cX7_partsOf 98 = .ok (.iconst (-1), 1) := by decide +kernel
theorem dX7_partsOf_99 : decode cX7_partsOf 99 = .ok (.ireturn, 1) := by decide +kernel
theorem dX7_add_0 : decode cX7_add 0 = .ok (.aload_n 0, 1) := by decide +kernel
theorem dX7_add_1 : decode cX7_add 1 = .ok (.getfield 15, 3) := by decide +kernel
theorem dX7_add_4 : decode cX7_add 4 = .ok (.bipush 20, 2) := by decide +kernel
theorem dX7_add_6 : decode cX7_add 6 = .ok (.if_icmp .ge 23, 3) := by decide +kernel
theorem dX7_add_9 : decode cX7_add 9 = .ok (.aload_n 0, 1) := by decide +kernel
theorem dX7_add_10 : decode cX7_add 10 = .ok (.getfield 9, 3) := by decide +kernel
theorem dX7_add_13 : decode cX7_add 13 = .ok (.aload_n 0, 1) := by decide +kernel
theorem dX7_add_14 : decode cX7_add 14 = .ok (.getfield 15, 3) := by decide +kernel
theorem dX7_add_17 : decode cX7_add 17 = .ok (.iload_n 1, 1) := by decide +kernel
theorem dX7_add_18 : decode cX7_add 18 = .ok (.iastore, 1) := by decide +kernel
theorem dX7_add_19 : decode cX7_add 19 = .ok (.aload_n 0, 1) := by decide +kernel
theorem dX7_add_20 : decode cX7_add 20 = .ok (.dup, 1) := by decide +kernel
theorem dX7_add_21 : decode cX7_add 21 = .ok (.getfield 15, 3) := by decide +kernel
theorem dX7_add_24 : decode cX7_add 24 = .ok (.iconst 1, 1) := by decide +kernel
theorem dX7_add_25 : decode cX7_add 25 = .ok (.iadd, 1) := by decide +kernel
theorem dX7_add_26 : decode cX7_add 26 = .ok (.putfield 15, 3) := by decide +kernel
theorem dX7_add_29 : decode cX7_add 29 = .ok (.return_, 1) := by decide +kernel
theorem dX7_copy_0 : decode cX7_copy 0 = .ok (.aload_n 0, 1) := by decide +kernel
theorem dX7_copy_1 : decode cX7_copy 1 = .ok (.iconst 0, 1) := by decide +kernel
theorem dX7_copy_2 : decode cX7_copy 2 = .ok (.putfield 15, 3) := by decide +kernel
theorem dX7_copy_5 : decode cX7_copy 5 = .ok (.aload_n 0, 1) := by decide +kernel
theorem dX7_copy_6 : decode cX7_copy 6 = .ok (.aload_n 1, 1) := by decide +kernel
theorem dX7_copy_7 : decode cX7_copy 7 = .ok (.iconst 0, 1) := by decide +kernel
theorem dX7_copy_8 : decode cX7_copy 8 = .ok (.aload_n 1, 1) := by decide +kernel
theorem dX7_copy_9 : decode cX7_copy 9 = .ok (.getfield 15, 3) := by decide +kernel
theorem dX7_copy_12 : decode cX7_copy 12 = .ok (.invokevirtual 19, 3) := by decide +kernel
theorem dX7_copy_15 : decode cX7_copy 15 = .ok (.return_, 1) := by decide +kernel
theorem dX7_copyWithPartAlone_0 : decode cX7_copyWithPartAlone 0 = .ok (.iload_n 2, 1) := by decide +kernel
theorem dX7_copyWithPartAlone_1 : decode cX7_copyWithPartAlone 1 = .ok (.iconst 1, 1) := by decide +kernel
theorem dX7_copyWithPartAlone_2 : decode cX7_copyWithPartAlone 2 = .ok (.iadd, 1) := by decide +kernel
theorem dX7_copyWithPartAlone_3 : decode cX7_copyWithPartAlone 3 = .ok (.istore 4, 2) := by decide +kernel
theorem dX7_copyWithPartAlone_5 : decode cX7_copyWithPartAlone 5 = .ok (.iconst 0, 1) := by decide +kernel
theorem dX7_copyWithPartAlone_6 : decode cX7_copyWithPartAlone 6 = .ok (.istore 5, 2) := by decide +kernel
theorem dX7_copyWithPartAlone_8 : decode cX7_copyWithPartAlone 8 = .ok (.iload 5, 2) := by decide +kernel
theorem dX7_copyWithPartAlone_10 : decode cX7_copyWithPartAlone 10 = .ok (.iload_n 3, 1) := by decide +kernel
theorem dX7_copyWithPartAlone_11 : decode cX7_copyWithPartAlone 11 = .ok (.if_icmp .ge 17, 3) := by decide +kernel
theorem dX7_copyWithPartAlone_14 : decode cX7_copyWithPartAlone 14 = .ok (.aload_n 1, 1) := by decide +kernel
theorem dX7_copyWithPartAlone_15 : decode cX7_copyWithPartAlone 15 = .ok (.iload 4, 2) := by decide +kernel
theorem dX7_copyWithPartAlone_17 : decode cX7_copyWithPartAlone 17 = .ok (.invokevirtual 23, 3) := by decide +kernel
theorem dX7_copyWithPartAlone_20 : decode cX7_copyWithPartAlone 20 = .ok (.istore 4, 2) := by decide +kernel
theorem dX7_copyWithPartAlone_22 : decode cX7_copyWithPartAlone 22 = .ok (.iinc 5 1, 3) := by decide +kernel
theorem dX7_copyWithPartAlone_25 : decode cX7_copyWithPartAlone 25 = .ok (.goto (-17), 3) := by decide +kernel
theorem dX7_copyWithPartAlone_28 : decode cX7_copyWithPartAlone 28 = .ok (.aload_n 0, 1) := by decide +kernel
theorem dX7_copyWithPartAlone_29 : decode cX7_copyWithPartAlone 29 = .ok (.iconst 0, 1) := by decide +kernel
theorem dX7_copyWithPartAlone_30 : decode cX7_copyWithPartAlone 30 = .ok (.putfield 15, 3) := by decide +kernel
theorem dX7_copyWithPartAlone_33 : decode cX7_copyWithPartAlone 33 = .ok (.aload_n 0, 1) := by decide +kernel
theorem dX7_copyWithPartAlone_34 : decode cX7_copyWithPartAlone 34 = .ok (.aload_n 1, 1) := by decide +kernel
theorem dX7_copyWithPartAlone_35 : decode cX7_copyWithPartAlone 35 = .ok (.iconst 0, 1) := by decide +kernel
theorem dX7_copyWithPartAlone_36 : decode cX7_copyWithPartAlone 36 = .ok (.iload_n 2, 1) := by decide +kernel
theorem dX7_copyWithPartAlone_37 : decode cX7_copyWithPartAlone 37 = .ok (.invokevirtual 19, 3) := by decide +kernel
theorem dX7_copyWithPartAlone_40 : decode cX7_copyWithPartAlone 40 = .ok (.aload_n 0, 1) := by decide +kernel
theorem dX7_copyWithPartAlone_41 : decode cX7_copyWithPartAlone 41 = .ok (.aload_n 1, 1) := by decide +kernel
theorem dX7_copyWithPartAlone_42 : decode cX7_copyWithPartAlone 42 = .ok (.iload 4, 2) := by decide +kernel
theorem dX7_copyWithPartAlone_44 : decode cX7_copyWithPartAlone 44 = .ok (.aload_n 1, 1) := by decide +kernel
theorem dX7_copyWithPartAlone_45 : decode cX7_copyWithPartAlone 45 = .ok (.iload 4, 2) := by decide +kernel
theorem dX7_copyWithPartAlone_47 : decode cX7_copyWithPartAlone 47 = .ok (.invokevirtual 23, 3) := by decide +kernel
theorem dX7_copyWithPartAlone_50 : decode cX7_copyWithPartAlone 50 = .ok (.invokevirtual 19, 3) := by decide +kernel
theorem dX7_copyWithPartAlone_53 : decode cX7_copyWithPartAlone 53 = .ok (.aload_n 0, 1) := by decide +kernel
theorem dX7_copyWithPartAlone_54 : decode cX7_copyWithPartAlone 54 = .ok (.aload_n 1, 1) := by decide +kernel
theorem dX7_copyWithPartAlone_55 : decode cX7_copyWithPartAlone 55 = .ok (.aload_n 1, 1) := by decide +kernel
theorem dX7_copyWithPartAlone_56 : decode cX7_copyWithPartAlone 56 = .ok (.iload_n 2, 1) := by decide +kernel
theorem dX7_copyWithPartAlone_57 : decode cX7_copyWithPartAlone 57 = .ok (.invokevirtual 23, 3) := by decide +kernel
theorem dX7_copyWithPartAlone_60 : decode cX7_copyWithPartAlone 60 = .ok (.aload_n 1, 1) := by decide +kernel
theorem dX7_copyWithPartAlone_61 : decode cX7_copyWithPartAlone 61 = .ok (.getfield 15, 3) := by decide +kernel
theorem dX7_copyWithPartAlone_64 : decode cX7_copyWithPartAlone 64 = .ok (.invokevirtual 19, 3) := by decide +kernel
theorem dX7_copyWithPartAlone_67 : decode cX7_copyWithPartAlone 67 = .ok (.return_, 1) := by decide +kernel
theorem dX7_addFrom_0 : decode cX7_addFrom 0 = .ok (.iload_n 2, 1) := by decide +kernel
theorem dX7_addFrom_1 : decode cX7_addFrom 1 = .ok (.istore 4, 2) := by decide +kernel
theorem dX7_addFrom_3 : decode cX7_addFrom 3 = .ok (.iload 4, 2) := by decide +kernel
theorem dX7_addFrom_5 : decode cX7_addFrom 5 = .ok (.iload_n 3, 1) := by decide +kernel
theorem dX7_addFrom_6 : decode cX7_addFrom 6 = .ok (.if_icmp .ge 29, 3) := by decide +kernel
theorem dX7_addFrom_9 : decode cX7_addFrom 9 = .ok (.iload 4, 2) := by decide +kernel
theorem dX7_addFrom_11 : decode cX7_addFrom 11 = .ok (.aload_n 1, 1) := by decide +kernel
theorem dX7_addFrom_12 : decode cX7_addFrom 12 = .ok (.getfield 15, 3) := by decide +kernel
theorem dX7_addFrom_15 : decode cX7_addFrom 15 = .ok (.if_icmp .ge 20, 3) := by decide +kernel
theorem dX7_addFrom_18 : decode cX7_addFrom 18 = .ok (.aload_n 0, 1) := by decide +kernel
theorem dX7_addFrom_19 : decode cX7_addFrom 19 = .ok (.aload_n 1, 1) := by decide +kernel
theorem dX7_addFrom_20 : decode cX7_addFrom 20 = .ok (.getfield 9, 3) := by decide +kernel
theorem dX7_addFrom_23 : decode cX7_addFrom 23 = .ok (.iload 4, 2) := by decide +kernel
theorem dX7_addFrom_25 : decode cX7_addFrom 25 = .ok (.iaload, 1) := by decide +kernel
theorem dX7_addFrom_26 : decode cX7_addFrom 26 = .ok (.invokevirtual 27, 3) := by decide +kernel
theorem dX7_addFrom_29 : decode cX7_addFrom 29 = .ok (.iinc 4 1, 3) := by decide +kernel
theorem dX7_addFrom_32 : decode cX7_addFrom 32 = .ok (.goto (-29), 3) := by decide +kernel
theorem dX7_addFrom_35 : decode cX7_addFrom 35 = .ok (.return_, 1) := by decide +kernel
theorem dX7_behind_0 : decode cX7_behind 0 = .ok (.iconst 1, 1) := by decide +kernel
theorem dX7_behind_1 : decode cX7_behind 1 = .ok (.istore_n 2, 1) := by decide +kernel
theorem dX7_behind_2 : decode cX7_behind 2 = .ok (.iload_n 1, 1) := by decide +kernel
theorem dX7_behind_3 : decode cX7_behind 3 = .ok (.istore_n 3, 1) := by decide +kernel
theorem dX7_behind_4 : decode cX7_behind 4 = .ok (.iload_n 3, 1) := by decide +kernel
theorem dX7_behind_5 : decode cX7_behind 5 = .ok (.aload_n 0, 1) := by decide +kernel
theorem dX7_behind_6 : decode cX7_behind 6 = .ok (.getfield 15, 3) := by decide +kernel
theorem dX7_behind_9 : decode cX7_behind 9 = .ok (.if_icmp .ge 27, 3) := by decide +kernel
theorem dX7_behind_12 : decode cX7_behind 12 = .ok (.iload_n 2, 1) := by decide +kernel
theorem dX7_behind_13 : decode cX7_behind 13 = .ok (.ifCond .le 23, 3) := by decide +kernel
theorem dX7_behind_16 : decode cX7_behind 16 = .ok (.iload_n 2, 1) := by decide +kernel
theorem dX7_behind_17 : decode cX7_behind 17 = .ok (.aload_n 0, 1) := by decide +kernel
theorem dX7_behind_18 : decode cX7_behind 18 = .ok (.getfield 9, 3) := by decide +kernel
theorem dX7_behind_21 : decode cX7_behind 21 = .ok (.iload_n 3, 1) := by decide +kernel
theorem dX7_behind_22 : decode cX7_behind 22 = .ok (.iaload, 1) := by decide +kernel
theorem dX7_behind_23 : decode cX7_behind 23 = .ok (.invokestatic 31, 3) := by decide +kernel
theorem dX7_behind_26 : decode cX7_behind 26 = .ok (.iconst 1, 1) := by decide +kernel
theorem dX7_behind_27 : decode cX7_behind 27 = .ok (.isub, 1) := by decide +kernel
theorem dX7_behind_28 : decode cX7_behind 28 = .ok (.iadd, 1) := by decide +kernel
theorem dX7_behind_29 : decode cX7_behind 29 = .ok (.istore_n 2, 1) := by decide +kernel
theorem dX7_behind_30 : decode cX7_behind 30 = .ok (.iinc 3 1, 3) := by decide +kernel
theorem dX7_behind_33 : decode cX7_behind 33 = .ok (.goto (-29), 3) := by decide +kernel
theorem dX7_behind_36 : decode cX7_behind 36 = .ok (.iload_n 3, 1) := by decide +kernel
theorem dX7_behind_37 : decode cX7_behind 37 = .ok (.ireturn, 1) := by decide +kernel
theorem dX8_init_0 : decode cX8_init 0 = .ok (.aload_n 0, 1) := by decide +kernel
theorem dX8_init_1 : decode cX8_init 1 = .ok (.invokespecial 3, 3) := by decide +kernel
theorem dX8_init_4 : decode cX8_init 4 = .ok (.aload_n 0, 1) := by decide +kernel
theorem dX8_init_5 : decode cX8_init 5 = .ok (.iconst 5, 1) := by decide +kernel
theorem dX8_init_6 : decode cX8_init 6 = .ok (.anewarray 9, 3) := by decide +kernel
theorem dX8_init_9 : decode cX8_init 9 = .ok (.putfield 11, 3) := by decide +kernel
theorem dX8_init_12 : decode cX8_init 12 = .ok (.aload_n 0, 1) := by decide +kernel
theorem dX8_init_13 : decode cX8_init 13 = .ok (.iconst 5, 1) := by decide +kernel
theorem dX8_init_14 : decode cX8_init 14 = .ok (.newarray .int, 2) := by decide +kernel
theorem dX8_init_16 : decode cX8_init 16 = .ok (.putfield 17, 3) := by decide +kernel
theorem dX8_init_19 : decode cX8_init 19 = .ok (.aload_n 0, 1) := by decide +kernel
theorem dX8_init_20 : decode cX8_init 20 = .ok (.iconst 0, 1) := by decide +kernel
theorem dX8_init_21 : decode cX8_init 21 = .ok (.putfield 21, 3) := by decide +kernel
theorem dX8_init_24 : decode cX8_init 24 = .ok (.aload_n 0, 1) := by decide +kernel
theorem dX8_init_25 : decode cX8_init 25 = .ok (.bipush 6, 2) := by decide +kernel
theorem dX8_init_27 : decode cX8_init 27 = .ok (.anewarray 25, 3) := by decide +kernel
theorem dX8_init_30 : decode cX8_init 30 = .ok (.putfield 27, 3) := by decide +kernel
theorem dX8_init_33 : decode cX8_init 33 = .ok (.aload_n 0, 1) := by decide +kernel
theorem dX8_init_34 : decode cX8_init 34 = .ok (.iconst 0, 1) := by decide +kernel
theorem dX8_init_35 : decode cX8_init 35 = .ok (.putfield 31, 3) := by decide +kernel
theorem dX8_init_38 : decode cX8_init 38 = .ok (.aload_n 0, 1) := by decide +kernel
theorem dX8_init_39 : decode cX8_init 39 = .ok (.iconst 4, 1) := by decide +kernel
theorem dX8_init_40 : decode cX8_init 40 = .ok (.newarray .int, 2) := by decide +kernel
theorem dX8_init_42 : decode cX8_init 42 = .ok (.putfield 34, 3) := by decide +kernel
theorem dX8_init_45 : decode cX8_init 45 = .ok (.iconst 0, 1) := by decide +kernel
theorem dX8_init_46 : decode cX8_init 46 = .ok (.istore_n 1, 1) := by decide +kernel
theorem dX8_init_47 : decode cX8_init 47 = .ok (.iload_n 1, 1) := by decide +kernel
theorem dX8_init_48 : decode cX8_init 48 = .ok (.bipush 6, 2) := by decide +kernel
theorem dX8_init_50 : decode cX8_init 50 = .ok (.if_icmp .ge 22, 3) := by decide +kernel
theorem dX8_init_53 : decode cX8_init 53 = .ok (.aload_n 0, 1) := by decide +kernel
theorem dX8_init_54 : decode cX8_init 54 = .ok (.getfield 27, 3) := by decide +kernel
theorem dX8_init_57 : decode cX8_init 57 = .ok (.iload_n 1, 1) := by decide +kernel
theorem dX8_init_58 : decode cX8_init 58 = .ok (.new 25, 3) := by decide +kernel
theorem dX8_init_61 : decode cX8_init 61 = .ok (.dup, 1) := by decide +kernel
theorem dX8_init_62 : decode cX8_init 62 = .ok (.invokespecial 37, 3) := by decide +kernel
theorem dX8_init_65 : decode cX8_init 65 = .ok (.aastore, 1) := by decide +kernel
theorem dX8_init_66 : decode cX8_init 66 = .ok (.iinc 1 1, 3) := by decide +kernel
theorem dX8_init_69 : decode cX8_init 69 = .ok (.goto (-22), 3) := by decide +kernel
theorem dX8_init_72 : decode cX8_init 72 = .ok (.aload_n 0, 1) := by decide +kernel
theorem dX8_init_73 : decode cX8_init 73 = .ok (.getfield 34, 3) := by decide +kernel
theorem dX8_init_76 : decode cX8_init 76 = .ok (.bipush (-9), 2) := by decide +kernel
theorem dX8_init_78 : decode cX8_init 78 = .ok (.invokestatic 38, 3) := by decide +kernel
theorem dX8_init_81 : decode cX8_init 81 = .ok (.return_, 1) := by decide +kernel
theorem dX8_copy_0 : decode cX8_copy 0 = .ok (.aload_n 0, 1) := by decide +kernel
theorem dX8_copy_1 : decode cX8_copy 1 = .ok (.aload_n 1, 1) := by decide +kernel
theorem dX8_copy_2 : decode cX8_copy 2 = .ok (.getfield 21, 3) := by decide +kernel
theorem dX8_copy_5 : decode cX8_copy 5 = .ok (.putfield 21, 3) := by decide +kernel
theorem dX8_copy_8 : decode cX8_copy 8 = .ok (.iconst 0, 1) := by decide +kernel
theorem dX8_copy_9 : decode cX8_copy 9 = .ok (.istore_n 2, 1) := by decide +kernel
theorem dX8_copy_10 : decode cX8_copy 10 = .ok (.iload_n 2, 1) := by decide +kernel
theorem dX8_copy_11 : decode cX8_copy 11 = .ok (.aload_n 0, 1) := by decide +kernel
theorem dX8_copy_12 : decode cX8_copy 12 = .ok (.getfield 21, 3) := by decide +kernel
theorem dX8_copy_15 : decode cX8_copy 15 = .ok (.if_icmp .ge 33, 3) := by decide +kernel
theorem dX8_copy_18 : decode cX8_copy 18 = .ok (.aload_n 0, 1) := by decide +kernel
theorem dX8_copy_19 : decode cX8_copy 19 = .ok (.getfield 11, 3) := by decide +kernel
theorem dX8_copy_22 : decode cX8_copy 22 = .ok (.iload_n 2, 1) := by decide +kernel
theorem dX8_copy_23 : decode cX8_copy 23 = .ok (.aload_n 1, 1) := by decide +kernel
theorem dX8_copy_24 : decode cX8_copy 24 = .ok (.getfield 11, 3) := by decide +kernel
theorem dX8_copy_27 : decode cX8_copy 27 = .ok (.iload_n 2, 1) := by decide +kernel
theorem dX8_copy_28 : decode cX8_copy 28 = .ok (.aaload, 1) := by decide +kernel
theorem dX8_copy_29 : decode cX8_copy 29 = .ok (.aastore, 1) := by decide +kernel
theorem dX8_copy_30 : decode cX8_copy 30 = .ok (.aload_n 0, 1) := by decide +kernel
theorem dX8_copy_31 : decode cX8_copy 31 = .ok (.getfield 17, 3) := by decide +kernel
theorem dX8_copy_34 : decode cX8_copy 34 = .ok (.iload_n 2, 1) := by decide +kernel
theorem dX8_copy_35 : decode cX8_copy 35 = .ok (.aload_n 1, 1) := by decide +kernel
theorem dX8_copy_36 : decode cX8_copy 36 = .ok (.getfield 17, 3) := by decide +kernel
theorem dX8_copy_39 : decode cX8_copy 39 = .ok (.iload_n 2, 1) := by decide +kernel
theorem dX8_copy_40 : decode cX8_copy 40 = .ok (.iaload, 1) := by decide +kernel
theorem dX8_copy_41 : decode cX8_copy 41 = .ok (.iastore, 1) := by decide +kernel
theorem dX8_copy_42 : decode cX8_copy 42 = .ok (.iinc 2 1, 3) := by decide +kernel
theorem dX8_copy_45 : decode cX8_copy 45 = .ok (.goto (-35), 3) := by decide +kernel
theorem dX8_copy_48 : decode cX8_copy 48 = .ok (.aload_n 0, 1) := by decide +kernel
theorem dX8_copy_49 : decode cX8_copy 49 = .ok (.aload_n 1, 1) := by decide +kernel
theorem dX8_copy_50 : decode cX8_copy 50 = .ok (.getfield 31, 3) := by decide +kernel
theorem dX8_copy_53 : decode cX8_copy 53 = .ok (.putfield 31, 3) := by decide +kernel
theorem dX8_copy_56 : decode cX8_copy 56 = .ok (.iconst 0, 1) := by decide +kernel
theorem dX8_copy_57 : decode cX8_copy 57 = .ok (.istore_n 2, 1) := by decide +kernel
theorem dX8_copy_58 : decode cX8_copy 58 = .ok (.iload_n 2, 1) := by decide +kernel
theorem dX8_copy_59 : decode cX8_copy 59 = .ok (.aload_n 0, 1) := by decide +kernel
theorem dX8_copy_60 : decode cX8_copy 60 = .ok (.getfield 31, 3) := by decide +kernel
theorem dX8_copy_63 : decode cX8_copy 63 = .ok (.if_icmp .ge 24, 3) := by decide +kernel
theorem dX8_copy_66 : decode cX8_copy 66 = .ok (.aload_n 0, 1) := by decide +kernel
theorem dX8_copy_67 : decode cX8_copy 67 = .ok (.getfield 27, 3) := by decide +kernel
theorem dX8_copy_70 : decode cX8_copy 70 = .ok (.iload_n 2, 1) := by decide +kernel
theorem dX8_copy_71 : decode cX8_copy 71 = .ok (.aaload, 1) := by decide +kernel
theorem dX8_copy_72 : decode cX8_copy 72 = .ok (.aload_n 1, 1) := by decide +kernel
theorem dX8_copy_73 : decode cX8_copy 73 = .ok (.getfield 27, 3) := by decide +kernel
theorem dX8_copy_76 : decode cX8_copy 76 = .ok (.iload_n 2, 1) := by decide +kernel
theorem dX8_copy_77 : decode cX8_copy 77 = .ok (.aaload, 1) := by decide +kernel
theorem dX8_copy_78 : decode cX8_copy 78 = .ok (.invokevirtual 44, 3) := by decide +kernel
theorem dX8_copy_81 : decode cX8_copy 81 = .ok (.iinc 2 1, 3) := by decide +kernel
theorem dX8_copy_84 : decode cX8_copy 84 = .ok (.goto (-26), 3) := by decide +kernel
theorem dX8_copy_87 : decode cX8_copy 87 = .ok (.iconst 0, 1) := by decide +kernel
theorem dX8_copy_88 : decode cX8_copy 88 = .ok (.istore_n 2, 1) := by decide +kernel
theorem dX8_copy_89 : decode cX8_copy 89 = .ok (.iload_n 2, 1) := by decide +kernel
theorem dX8_copy_90 : decode cX8_copy 90 = .ok (.iconst 4, 1) := by decide +kernel
theorem dX8_copy_91 : decode cX8_copy 91 = .ok (.if_icmp .ge 21, 3) := by decide +kernel
theorem dX8_copy_94 : decode cX8_copy 94 = .ok (.aload_n 0, 1) := by decide +kernel
theorem dX8_copy_95 : decode cX8_copy 95 = .ok (.getfield 34, 3) := by decide +kernel
theorem dX8_copy_98 : decode cX8_copy 98 = .ok (.iload_n 2, 1) := by decide +kernel
theorem dX8_copy_99 : decode cX8_copy 99 = .ok (.aload_n 1, 1) := by decide +kernel
theorem dX8_copy_100 : decode cX8_copy 100 = .ok (.getfield 34, 3) := by decide +kernel
theorem dX8_copy_103 : decode cX8_copy 103 = .ok (.iload_n 2, 1) := by decide +kernel
theorem dX8_copy_104 : decode cX8_copy 104 = .ok (.iaload, 1) := by decide +kernel
theorem dX8_copy_105 : decode cX8_copy 105 = .ok (.iastore, 1) := by decide +kernel
theorem dX8_copy_106 : decode cX8_copy 106 = .ok (.iinc 2 1, 3) := by decide +kernel
theorem dX8_copy_109 : decode cX8_copy 109 = .ok (.goto (-20), 3) := by decide +kernel
theorem dX8_copy_112 : decode cX8_copy 112 = .ok (.return_, 1) := by decide +kernel
theorem dX8_addStranger_0 : decode cX8_addStranger 0 = .ok (.iload_n 1, 1) := by decide +kernel
theorem dX8_addStranger_1 : decode cX8_addStranger 1 = .ok (.iload_n 2, 1) := by decide +kernel
theorem dX8_addStranger_2 : decode cX8_addStranger 2 = .ok (.invokestatic 48, 3) := by decide +kernel
theorem dX8_addStranger_5 : decode cX8_addStranger 5 = .ok (.astore_n 3, 1) := by decide +kernel
theorem dX8_addStranger_6 : decode cX8_addStranger 6 = .ok (.aload_n 3, 1) := by decide +kernel
theorem dX8_addStranger_7 : decode cX8_addStranger 7 = .ok (.ifnull 11, 3) := by decide +kernel
theorem dX8_addStranger_10 : decode cX8_addStranger 10 = .ok (.aload_n 0, 1) := by decide +kernel
theorem dX8_addStranger_11 : decode cX8_addStranger 11 = .ok (.getfield 21, 3) := by decide +kernel
theorem dX8_addStranger_14 : decode cX8_addStranger 14 = .ok (.iconst 5, 1) := by decide +kernel
theorem dX8_addStranger_15 : decode cX8_addStranger 15 = .ok (.if_icmp .lt 5, 3) := by decide +kernel
theorem dX8_addStranger_18 : decode cX8_addStranger 18 = .ok (.iconst 0, 1) := by decide +kernel
theorem dX8_addStranger_19 : decode cX8_addStranger 19 = .ok (.ireturn, 1) := by decide +kernel
theorem dX8_addStranger_20 : decode cX8_addStranger 20 = .ok (.aload_n 0, 1) := by decide +kernel
theorem dX8_addStranger_21 : decode cX8_addStranger 21 = .ok (.getfield 11, 3) := by decide +kernel
theorem dX8_addStranger_24 : decode cX8_addStranger 24 = .ok (.aload_n 0, 1) := by decide +kernel
theorem dX8_addStranger_25 : decode cX8_addStranger 25 = .ok (.getfield 21, 3) := by decide +kernel
theorem dX8_addStranger_28 : decode cX8_addStranger 28 = .ok (.aload_n 3, 1) := by decide +kernel
theorem dX8_addStranger_29 : decode cX8_addStranger 29 = .ok (.aastore, 1) := by decide +kernel
theorem dX8_addStranger_30 : decode cX8_addStranger 30 = .ok (.aload_n 0, 1) := by decide +kernel
theorem dX8_addStranger_31 : decode cX8_addStranger 31 = .ok (.getfield 17, 3) := by decide +kernel
theorem dX8_addStranger_34 : decode cX8_addStranger 34 = .ok (.aload_n 0, 1) := by decide +kernel
theorem dX8_addStranger_35 : decode cX8_addStranger 35 = .ok (.getfield 21, 3) := by decide +kernel
theorem dX8_addStranger_38 : decode cX8_addStranger 38 = .ok (.iconst 0, 1) := by decide +kernel
theorem dX8_addStranger_39 : decode cX8_addStranger 39 = .ok (.iastore, 1) := by decide +kernel
theorem dX8_addStranger_40 : decode cX8_addStranger 40 = .ok (.aload_n 0, 1) := by decide +kernel
theorem dX8_addStranger_41 : decode cX8_addStranger 41 = .ok (.dup, 1) := by decide +kernel
theorem dX8_addStranger_42 : decode cX8_addStranger 42 = .ok (.getfield 21, 3) := by decide +kernel
theorem dX8_addStranger_45 : decode cX8_addStranger 45 = .ok (.iconst 1, 1) := by decide +kernel
theorem dX8_addStranger_46 : decode cX8_addStranger 46 = .ok (.iadd, 1) := by decide +kernel
theorem dX8_addStranger_47 : decode cX8_addStranger 47 = .ok (.putfield 21, 3) := by decide +kernel
theorem dX8_addStranger_50 : decode cX8_addStranger 50 = .ok (.iconst 1, 1) := by decide +kernel
theorem dX8_addStranger_51 : decode cX8_addStranger 51 = .ok (.ireturn, 1) := by decide +kernel
theorem dX8_addScholar_0 : decode cX8_addScholar 0 = .ok (.aload_n 0, 1) := by decide +kernel
theorem dX8_addScholar_1 : decode cX8_addScholar 1 = .ok (.getfield 31, 3) := by decide +kernel
theorem dX8_addScholar_4 : decode cX8_addScholar 4 = .ok (.bipush 6, 2) := by decide +kernel
theorem dX8_addScholar_6 : decode cX8_addScholar 6 = .ok (.if_icmp .lt 5, 3) := by decide +kernel
theorem dX8_addScholar_9 : decode cX8_addScholar 9 = .ok (.iconst 0, 1) := by decide +kernel
theorem dX8_addScholar_10 : decode cX8_addScholar 10 = .ok (.ireturn, 1) := by decide +kernel
theorem dX8_addScholar_11 : decode cX8_addScholar 11 = .ok (.aload_n 0, 1) := by decide +kernel
theorem dX8_addScholar_12 : decode cX8_addScholar 12 = .ok (.getfield 27, 3) := by decide +kernel
theorem dX8_addScholar_15 : decode cX8_addScholar 15 = .ok (.aload_n 0, 1) := by decide +kernel
theorem dX8_addScholar_16 : decode cX8_addScholar 16 = .ok (.getfield 31, 3) := by decide +kernel
theorem dX8_addScholar_19 : decode cX8_addScholar 19 = .ok (.aaload, 1) := by decide +kernel
theorem dX8_addScholar_20 : decode cX8_addScholar 20 = .ok (.aload_n 1, 1) := by decide +kernel
theorem dX8_addScholar_21 : decode cX8_addScholar 21 = .ok (.invokevirtual 44, 3) := by decide +kernel
theorem dX8_addScholar_24 : decode cX8_addScholar 24 = .ok (.aload_n 0, 1) := by decide +kernel
theorem dX8_addScholar_25 : decode cX8_addScholar 25 = .ok (.dup, 1) := by decide +kernel
theorem dX8_addScholar_26 : decode cX8_addScholar 26 = .ok (.getfield 31, 3) := by decide +kernel
theorem dX8_addScholar_29 : decode cX8_addScholar 29 = .ok (.iconst 1, 1) := by decide +kernel
theorem dX8_addScholar_30 : decode cX8_addScholar 30 = .ok (.iadd, 1) := by decide +kernel
theorem dX8_addScholar_31 : decode cX8_addScholar 31 = .ok (.putfield 31, 3) := by decide +kernel
theorem dX8_addScholar_34 : decode cX8_addScholar 34 = .ok (.iconst 1, 1) := by decide +kernel
theorem dX8_addScholar_35 : decode cX8_addScholar 35 = .ok (.ireturn, 1) := by decide +kernel
theorem dX8_coinName_0 : decode cX8_coinName 0 = .ok (.iload_n 1, 1) := by decide +kernel
theorem dX8_coinName_1 : decode cX8_coinName 1 = .ok (.invokestatic 52, 3) := by decide +kernel
theorem dX8_coinName_4 : decode cX8_coinName 4 = .ok (.ifCond .eq 5, 3) := by decide +kernel
theorem dX8_coinName_7 : decode cX8_coinName 7 = .ok (.iconst 0, 1) := by decide +kernel
theorem dX8_coinName_8 : decode cX8_coinName 8 = .ok (.ireturn, 1) := by decide +kernel
theorem dX8_coinName_9 : decode cX8_coinName 9 = .ok (.aload_n 0, 1) := by decide +kernel
theorem dX8_coinName_10 : decode cX8_coinName 10 = .ok (.getfield 34, 3) := by decide +kernel
theorem dX8_coinName_13 : decode cX8_coinName 13 = .ok (.iload_n 1, 1) := by decide +kernel
theorem dX8_coinName_14 : decode cX8_coinName 14 = .ok (.iload_n 2, 1) := by decide +kernel
theorem dX8_coinName_15 : decode cX8_coinName 15 = .ok (.iastore, 1) := by decide +kernel
theorem dX8_coinName_16 : decode cX8_coinName 16 = .ok (.iconst 1, 1) := by decide +kernel
theorem dX8_coinName_17 : decode cX8_coinName 17 = .ok (.ireturn, 1) := by decide +kernel
theorem dX8_turnLearnt_0 : decode cX8_turnLearnt 0 = .ok (.iload_n 1, 1) := by decide +kernel
theorem dX8_turnLearnt_1 : decode cX8_turnLearnt 1 = .ok (.ifCond .lt 18, 3) := by decide +kernel
theorem dX8_turnLearnt_4 : decode cX8_turnLearnt 4 = .ok (.iload_n 1, 1) := by decide +kernel
theorem dX8_turnLearnt_5 : decode cX8_turnLearnt 5 = .ok (.aload_n 0, 1) := by decide +kernel
theorem dX8_turnLearnt_6 : decode cX8_turnLearnt 6 = .ok (.getfield 21, 3) := by decide +kernel
theorem dX8_turnLearnt_9 : decode cX8_turnLearnt 9 = .ok (.if_icmp .ge 10, 3) := by decide +kernel
theorem dX8_turnLearnt_12 : decode cX8_turnLearnt 12 = .ok (.iload_n 2, 1) := by decide +kernel
theorem dX8_turnLearnt_13 : decode cX8_turnLearnt 13 = .ok (.invokestatic 52, 3) := by decide +kernel
theorem dX8_turnLearnt_16 : decode cX8_turnLearnt 16 = .ok (.ifCond .eq 5, 3) := by decide +kernel
theorem dX8_turnLearnt_19 : decode cX8_turnLearnt 19 = .ok (.iconst 0, 1) := by decide +kernel
theorem dX8_turnLearnt_20 : decode cX8_turnLearnt 20 = .ok (.ireturn, 1) := by decide +kernel
theorem dX8_turnLearnt_21 : decode cX8_turnLearnt 21 = .ok (.aload_n 0, 1) := by decide +kernel
theorem dX8_turnLearnt_22 : decode cX8_turnLearnt 22 = .ok (.getfield 17, 3) := by decide +kernel
theorem dX8_turnLearnt_25 : decode cX8_turnLearnt 25 = .ok (.iload_n 1, 1) := by decide +kernel
theorem dX8_turnLearnt_26 : decode cX8_turnLearnt 26 = .ok (.dup2, 1) := by decide +kernel
theorem dX8_turnLearnt_27 : decode cX8_turnLearnt 27 = .ok (.iaload, 1) := by decide +kernel
theorem dX8_turnLearnt_28 : decode cX8_turnLearnt 28 = .ok (.iconst 1, 1) := by decide +kernel
theorem dX8_turnLearnt_29 : decode cX8_turnLearnt 29 = .ok (.iload_n 2, 1) := by decide +kernel
theorem dX8_turnLearnt_30 : decode cX8_turnLearnt 30 = .ok (.ishl, 1) := by decide +kernel
theorem dX8_turnLearnt_31 : decode cX8_turnLearnt 31 = .ok (.ixor, 1) := by decide +kernel
theorem dX8_turnLearnt_32 : decode cX8_turnLearnt 32 = .ok (.iastore, 1) := by decide +kernel
theorem dX8_turnLearnt_33 : decode cX8_turnLearnt 33 = .ok (.iconst 1, 1) := by decide +kernel
theorem dX8_turnLearnt_34 : decode cX8_turnLearnt 34 = .ok (.ireturn, 1) := by decide +kernel
theorem dX8_coinedCount_0 : decode cX8_coinedCount 0 = .ok (.iconst 0, 1) := by decide +kernel
theorem dX8_coinedCount_1 : decode cX8_coinedCount 1 = .ok (.istore_n 1, 1) := by decide +kernel
theorem dX8_coinedCount_2 : decode cX8_coinedCount 2 = .ok (.iconst 0, 1) := by decide +kernel
theorem dX8_coinedCount_3 : decode cX8_coinedCount 3 = .ok (.istore_n 2, 1) := by decide +kernel
theorem dX8_coinedCount_4 : decode cX8_coinedCount 4 = .ok (.iload_n 2, 1) := by decide +kernel
theorem dX8_coinedCount_5 : decode cX8_coinedCount 5 = .ok (.iconst 4, 1) := by decide +kernel
theorem dX8_coinedCount_6 : decode cX8_coinedCount 6 = .ok (.if_icmp .ge 28, 3) := by decide +kernel
theorem dX8_coinedCount_9 : decode cX8_coinedCount 9 = .ok (.iload_n 1, 1) := by decide +kernel
theorem dX8_coinedCount_10 : decode cX8_coinedCount 10 = .ok (.aload_n 0, 1) := by decide +kernel
theorem dX8_coinedCount_11 : decode cX8_coinedCount 11 = .ok (.getfield 34, 3) := by decide +kernel
theorem dX8_coinedCount_14 : decode cX8_coinedCount 14 = .ok (.iload_n 2, 1) := by decide +kernel
theorem dX8_coinedCount_15 : decode cX8_coinedCount 15 = .ok (.iaload, 1) := by decide +kernel
theorem dX8_coinedCount_16 : decode cX8_coinedCount 16 = .ok (.bipush (-9), 2) := by decide +kernel
theorem dX8_coinedCount_18 : decode cX8_coinedCount 18 = .ok (.if_icmp .ne 7, 3) := by decide +kernel
theorem dX8_coinedCount_21 : decode cX8_coinedCount 21 = .ok (.iconst 0, 1) := by decide +kernel
theorem dX8_coinedCount_22 : decode cX8_coinedCount 22 = .ok (.goto 4, 3) := by decide +kernel
theorem dX8_coinedCount_25 : decode cX8_coinedCount 25 = .ok (.iconst 1, 1) := by decide +kernel
theorem dX8_coinedCount_26 : decode cX8_coinedCount 26 = .ok (.iadd, 1) := by decide +kernel
theorem dX8_coinedCount_27 : decode cX8_coinedCount 27 = .ok (.istore_n 1, 1) := by decide +kernel
theorem dX8_coinedCount_28 : decode cX8_coinedCount 28 = .ok (.iinc 2 1, 3) := by decide +kernel
theorem dX8_coinedCount_31 : decode cX8_coinedCount 31 = .ok (.goto (-27), 3) := by decide +kernel
theorem dX8_coinedCount_34 : decode cX8_coinedCount 34 = .ok (.iload_n 1, 1) := by decide +kernel
theorem dX8_coinedCount_35 : decode cX8_coinedCount 35 = .ok (.ireturn, 1) := by decide +kernel
theorem dX8_lengths_0 : decode cX8_lengths 0 = .ok (.iconst 0, 1) := by decide +kernel
theorem dX8_lengths_1 : decode cX8_lengths 1 = .ok (.istore_n 1, 1) := by decide +kernel
theorem dX8_lengths_2 : decode cX8_lengths 2 = .ok (.iconst 0, 1) := by decide +kernel
theorem dX8_lengths_3 : decode cX8_lengths 3 = .ok (.istore_n 2, 1) := by decide +kernel
theorem dX8_lengths_4 : decode cX8_lengths 4 = .ok (.iload_n 2, 1) := by decide +kernel
theorem dX8_lengths_5 : decode cX8_lengths 5 = .ok (.aload_n 0, 1) := by decide +kernel
theorem dX8_lengths_6 : decode cX8_lengths 6 = .ok (.getfield 31, 3) := by decide +kernel
theorem dX8_lengths_9 : decode cX8_lengths 9 = .ok (.if_icmp .ge 21, 3) := by decide +kernel
theorem dX8_lengths_12 : decode cX8_lengths 12 = .ok (.iload_n 1, 1) := by decide +kernel
theorem dX8_lengths_13 : decode cX8_lengths 13 = .ok (.aload_n 0, 1) := by decide +kernel
theorem dX8_lengths_14 : decode cX8_lengths 14 = .ok (.getfield 27, 3) := by decide +kernel
theorem dX8_lengths_17 : decode cX8_lengths 17 = .ok (.iload_n 2, 1) := by decide +kernel
theorem dX8_lengths_18 : decode cX8_lengths 18 = .ok (.aaload, 1) := by decide +kernel
theorem dX8_lengths_19 : decode cX8_lengths 19 = .ok (.getfield 56, 3) := by decide +kernel
theorem dX8_lengths_22 : decode cX8_lengths 22 = .ok (.iadd, 1) := by decide +kernel
theorem dX8_lengths_23 : decode cX8_lengths 23 = .ok (.istore_n 1, 1) := by decide +kernel
theorem dX8_lengths_24 : decode cX8_lengths 24 = .ok (.iinc 2 1, 3) := by decide +kernel
theorem dX8_lengths_27 : decode cX8_lengths 27 = .ok (.goto (-23), 3) := by decide +kernel
theorem dX8_lengths_30 : decode cX8_lengths 30 = .ok (.iload_n 1, 1) := by decide +kernel
theorem dX8_lengths_31 : decode cX8_lengths 31 = .ok (.ireturn, 1) := by decide +kernel
theorem dX9_init_0 : decode cX9_init 0 = .ok (.aload_n 0, 1) := by decide +kernel
theorem dX9_init_1 : decode cX9_init 1 = .ok (.iload_n 1, 1) := by decide +kernel
theorem dX9_init_2 : decode cX9_init 2 = .ok (.invokespecial 1, 3) := by decide +kernel
theorem dX9_init_5 : decode cX9_init 5 = .ok (.return_, 1) := by decide +kernel
theorem dX9_kind_0 : decode cX9_kind 0 = .ok (.iconst 4, 1) := by decide +kernel
theorem dX9_kind_1 : decode cX9_kind 1 = .ok (.ireturn, 1) := by decide +kernel
theorem dX9_or_0 : decode cX9_or 0 = .ok (.aload_n 0, 1) := by decide +kernel
theorem dX9_or_1 : decode cX9_or 1 = .ok (.iload_n 1, 1) := by decide +kernel
theorem dX9_or_2 : decode cX9_or 2 = .ok (.iload_n 2, 1) := by decide +kernel
theorem dX9_or_3 : decode cX9_or 3 = .ok (.invokespecial 7, 3) := by decide +kernel
theorem dX9_or_6 : decode cX9_or 6 = .ok (.aload_n 0, 1) := by decide +kernel
theorem dX9_or_7 : decode cX9_or 7 = .ok (.invokevirtual 11, 3) := by decide +kernel
theorem dX9_or_10 : decode cX9_or 10 = .ok (.ior, 1) := by decide +kernel
theorem dX9_or_11 : decode cX9_or 11 = .ok (.ireturn, 1) := by decide +kernel
theorem dX10_init_0 : decode cX10_init 0 = .ok (.aload_n 0, 1) := by decide +kernel
theorem dX10_init_1 : decode cX10_init 1 = .ok (.invokespecial 3, 3) := by decide +kernel
theorem dX10_init_4 : decode cX10_init 4 = .ok (.aload_n 0, 1) := by decide +kernel
theorem dX10_init_5 : decode cX10_init 5 = .ok (.iload_n 1, 1) := by decide +kernel
theorem dX10_init_6 : decode cX10_init 6 = .ok (.putfield 9, 3) := by decide +kernel
theorem dX10_init_9 : decode cX10_init 9 = .ok (.return_, 1) := by decide +kernel
theorem dX10_ofKind_0 : decode cX10_ofKind 0 = .ok (.iload_n 0, 1) := by decide +kernel
theorem dX10_ofKind_1 : decode cX10_ofKind 1 = .ok (.tableswitch 93 0 5 #[39, 48, 57, 66, 75, 84], 39) := by decide +kernel
theorem dX10_ofKind_40 : decode cX10_ofKind 40 = .ok (.new 10, 3) := by decide +kernel
theorem dX10_ofKind_43 : decode cX10_ofKind 43 = .ok (.dup, 1) := by decide +kernel
theorem dX10_ofKind_44 : decode cX10_ofKind 44 = .ok (.iload_n 1, 1) := by decide +kernel
theorem dX10_ofKind_45 : decode cX10_ofKind 45 = .ok (.invokespecial 15, 3) := by decide +kernel
theorem dX10_ofKind_48 : decode cX10_ofKind 48 = .ok (.areturn, 1) := by decide +kernel
theorem dX10_ofKind_49 : decode cX10_ofKind 49 = .ok (.new 18, 3) := by decide +kernel
theorem dX10_ofKind_52 : decode cX10_ofKind 52 = .ok (.dup, 1) := by decide +kernel
theorem dX10_ofKind_53 : decode cX10_ofKind 53 = .ok (.iload_n 1, 1) := by decide +kernel
theorem dX10_ofKind_54 : decode cX10_ofKind 54 = .ok (.invokespecial 20, 3) := by decide +kernel
theorem dX10_ofKind_57 : decode cX10_ofKind 57 = .ok (.areturn, 1) := by decide +kernel
theorem dX10_ofKind_58 : decode cX10_ofKind 58 = .ok (.new 21, 3) := by decide +kernel
theorem dX10_ofKind_61 : decode cX10_ofKind 61 = .ok (.dup, 1) := by decide +kernel
theorem dX10_ofKind_62 : decode cX10_ofKind 62 = .ok (.iload_n 1, 1) := by decide +kernel
theorem dX10_ofKind_63 : decode cX10_ofKind 63 = .ok (.invokespecial 23, 3) := by decide +kernel
theorem dX10_ofKind_66 : decode cX10_ofKind 66 = .ok (.areturn, 1) := by decide +kernel
theorem dX10_ofKind_67 : decode cX10_ofKind 67 = .ok (.new 24, 3) := by decide +kernel
theorem dX10_ofKind_70 : decode cX10_ofKind 70 = .ok (.dup, 1) := by decide +kernel
theorem dX10_ofKind_71 : decode cX10_ofKind 71 = .ok (.iload_n 1, 1) := by decide +kernel
theorem dX10_ofKind_72 : decode cX10_ofKind 72 = .ok (.invokespecial 26, 3) := by decide +kernel
theorem dX10_ofKind_75 : decode cX10_ofKind 75 = .ok (.areturn, 1) := by decide +kernel
theorem dX10_ofKind_76 : decode cX10_ofKind 76 = .ok (.new 27, 3) := by decide +kernel
theorem dX10_ofKind_79 : decode cX10_ofKind 79 = .ok (.dup, 1) := by decide +kernel
theorem dX10_ofKind_80 : decode cX10_ofKind 80 = .ok (.iload_n 1, 1) := by decide +kernel
theorem dX10_ofKind_81 : decode cX10_ofKind 81 = .ok (.invokespecial 29, 3) := by decide +kernel
theorem dX10_ofKind_84 : decode cX10_ofKind 84 = .ok (.areturn, 1) := by decide +kernel
theorem dX10_ofKind_85 : decode cX10_ofKind 85 = .ok (.new 30, 3) := by decide +kernel
theorem dX10_ofKind_88 : decode cX10_ofKind 88 = .ok (.dup, 1) := by decide +kernel
theorem dX10_ofKind_89 : decode cX10_ofKind 89 = .ok (.iload_n 1, 1) := by decide +kernel
theorem dX10_ofKind_90 : decode cX10_ofKind 90 = .ok (.invokespecial 32, 3) := by decide +kernel
theorem dX10_ofKind_93 : decode cX10_ofKind 93 = .ok (.areturn, 1) := by decide +kernel
theorem dX10_ofKind_94 : decode cX10_ofKind 94 = .ok (.aconst_null, 1) := by decide +kernel
theorem dX10_ofKind_95 : decode cX10_ofKind 95 = .ok (.areturn, 1) := by decide +kernel
theorem dX10_kind_0 : decode cX10_kind 0 = .ok (.iconst 0, 1) := by decide +kernel
theorem dX10_kind_1 : decode cX10_kind 1 = .ok (.ireturn, 1) := by decide +kernel
theorem dX10_not_0 : decode cX10_not 0 = .ok (.sipush 255, 3) := by decide +kernel
theorem dX10_not_3 : decode cX10_not 3 = .ok (.iload_n 1, 1) := by decide +kernel
theorem dX10_not_4 : decode cX10_not 4 = .ok (.iconst (-1), 1) := by decide +kernel
theorem dX10_not_5 : decode cX10_not 5 = .ok (.ixor, 1) := by decide +kernel
theorem dX10_not_6 : decode cX10_not 6 = .ok (.iand, 1) := by decide +kernel
theorem dX10_not_7 : decode cX10_not 7 = .ok (.ireturn, 1) := by decide +kernel
theorem dX10_and_0 : decode cX10_and 0 = .ok (.iload_n 1, 1) := by decide +kernel
theorem dX10_and_1 : decode cX10_and 1 = .ok (.iload_n 2, 1) := by decide +kernel
theorem dX10_and_2 : decode cX10_and 2 = .ok (.iand, 1) := by decide +kernel
theorem dX10_and_3 : decode cX10_and 3 = .ok (.ireturn, 1) := by decide +kernel
theorem dX10_andHasSides_0 : decode cX10_andHasSides 0 = .ok (.iconst 0, 1) := by decide +kernel
theorem dX10_andHasSides_1 : decode cX10_andHasSides 1 = .ok (.ireturn, 1) := by decide +kernel
theorem dX10_or_0 : decode cX10_or 0 = .ok (.iload_n 1, 1) := by decide +kernel
theorem dX10_or_1 : decode cX10_or 1 = .ok (.iload_n 2, 1) := by decide +kernel
theorem dX10_or_2 : decode cX10_or 2 = .ok (.ior, 1) := by decide +kernel
theorem dX10_or_3 : decode cX10_or 3 = .ok (.ireturn, 1) := by decide +kernel
theorem dX10_worldOfFigure_0 : decode cX10_worldOfFigure 0 = .ok (.iconst 1, 1) := by decide +kernel
theorem dX10_worldOfFigure_1 : decode cX10_worldOfFigure 1 = .ok (.aload_n 0, 1) := by decide +kernel
theorem dX10_worldOfFigure_2 : decode cX10_worldOfFigure 2 = .ok (.getfield 9, 3) := by decide +kernel
theorem dX10_worldOfFigure_5 : decode cX10_worldOfFigure 5 = .ok (.bipush 8, 2) := by decide +kernel
theorem dX10_worldOfFigure_7 : decode cX10_worldOfFigure 7 = .ok (.irem, 1) := by decide +kernel
theorem dX10_worldOfFigure_8 : decode cX10_worldOfFigure 8 = .ok (.ishl, 1) := by decide +kernel
theorem dX10_worldOfFigure_9 : decode cX10_worldOfFigure 9 = .ok (.ireturn, 1) := by decide +kernel
theorem dX11_init_0 : decode cX11_init 0 = .ok (.aload_n 0, 1) := by decide +kernel
theorem dX11_init_1 : decode cX11_init 1 = .ok (.invokespecial 1, 3) := by decide +kernel
theorem dX11_init_4 : decode cX11_init 4 = .ok (.aload_n 0, 1) := by decide +kernel
theorem dX11_init_5 : decode cX11_init 5 = .ok (.new 7, 3) := by decide +kernel
theorem dX11_init_8 : decode cX11_init 8 = .ok (.dup, 1) := by decide +kernel
theorem dX11_init_9 : decode cX11_init 9 = .ok (.invokespecial 9, 3) := by decide +kernel
theorem dX11_init_12 : decode cX11_init 12 = .ok (.putfield 10, 3) := by decide +kernel
theorem dX11_init_15 : decode cX11_init 15 = .ok (.aload_n 0, 1) := by decide +kernel
theorem dX11_init_16 : decode cX11_init 16 = .ok (.new 16, 3) := by decide +kernel
theorem dX11_init_19 : decode cX11_init 19 = .ok (.dup, 1) := by decide +kernel
theorem dX11_init_20 : decode cX11_init 20 = .ok (.invokespecial 18, 3) := by decide +kernel
theorem dX11_init_23 : decode cX11_init 23 = .ok (.putfield 19, 3) := by decide +kernel
theorem dX11_init_26 : decode cX11_init 26 = .ok (.aload_n 0, 1) := by decide +kernel
theorem dX11_init_27 : decode cX11_init 27 = .ok (.new 16, 3) := by decide +kernel
theorem dX11_init_30 : decode cX11_init 30 = .ok (.dup, 1) := by decide +kernel
theorem dX11_init_31 : decode cX11_init 31 = .ok (.invokespecial 18, 3) := by decide +kernel
theorem dX11_init_34 : decode cX11_init 34 = .ok (.putfield 23, 3) := by decide +kernel
theorem dX11_init_37 : decode cX11_init 37 = .ok (.aload_n 0, 1) := by decide +kernel
theorem dX11_init_38 : decode cX11_init 38 = .ok (.new 16, 3) := by decide +kernel
theorem dX11_init_41 : decode cX11_init 41 = .ok (.dup, 1) := by decide +kernel
theorem dX11_init_42 : decode cX11_init 42 = .ok (.invokespecial 18, 3) := by decide +kernel
theorem dX11_init_45 : decode cX11_init 45 = .ok (.putfield 26, 3) := by decide +kernel
theorem dX11_init_48 : decode cX11_init 48 = .ok (.aload_n 0, 1) := by decide +kernel
theorem dX11_init_49 : decode cX11_init 49 = .ok (.iconst 0, 1) := by decide +kernel
theorem dX11_init_50 : decode cX11_init 50 = .ok (.putfield 29, 3) := by decide +kernel
theorem dX11_init_53 : decode cX11_init 53 = .ok (.aload_n 0, 1) := by decide +kernel
theorem dX11_init_54 : decode cX11_init 54 = .ok (.bipush 6, 2) := by decide +kernel
theorem dX11_init_56 : decode cX11_init 56 = .ok (.newarray .int, 2) := by decide +kernel
theorem dX11_init_58 : decode cX11_init 58 = .ok (.putfield 33, 3) := by decide +kernel
theorem dX11_init_61 : decode cX11_init 61 = .ok (.aload_n 0, 1) := by decide +kernel
theorem dX11_init_62 : decode cX11_init 62 = .ok (.iconst 0, 1) := by decide +kernel
theorem dX11_init_63 : decode cX11_init 63 = .ok (.putfield 37, 3) := by decide +kernel
theorem dX11_init_66 : decode cX11_init 66 = .ok (.aload_n 0, 1) := by decide +kernel
theorem dX11_init_67 : decode cX11_init 67 = .ok (.bipush 7, 2) := by decide +kernel
theorem dX11_init_69 : decode cX11_init 69 = .ok (.newarray .int, 2) := by decide +kernel
theorem dX11_init_71 : decode cX11_init 71 = .ok (.putfield 41, 3) := by decide +kernel
theorem dX11_init_74 : decode cX11_init 74 = .ok (.aload_n 0, 1) := by decide +kernel
theorem dX11_init_75 : decode cX11_init 75 = .ok (.new 44, 3) := by decide +kernel
theorem dX11_init_78 : decode cX11_init 78 = .ok (.dup, 1) := by decide +kernel
theorem dX11_init_79 : decode cX11_init 79 = .ok (.iconst 0, 1) := by decide +kernel
theorem dX11_init_80 : decode cX11_init 80 = .ok (.invokespecial 46, 3) := by decide +kernel
theorem dX11_init_83 : decode cX11_init 83 = .ok (.putfield 49, 3) := by decide +kernel
theorem dX11_init_86 : decode cX11_init 86 = .ok (.aload_n 0, 1) := by decide +kernel
theorem dX11_init_87 : decode cX11_init 87 = .ok (.new 53, 3) := by decide +kernel
theorem dX11_init_90 : decode cX11_init 90 = .ok (.dup, 1) := by decide +kernel
theorem dX11_init_91 : decode cX11_init 91 = .ok (.invokespecial 55, 3) := by decide +kernel
theorem dX11_init_94 : decode cX11_init 94 = .ok (.putfield 56, 3) := by decide +kernel
theorem dX11_init_97 : decode cX11_init 97 = .ok (.aload_n 0, 1) := by decide +kernel
theorem dX11_init_98 : decode cX11_init 98 = .ok (.bipush 6, 2) := by decide +kernel
theorem dX11_init_100 : decode cX11_init 100 = .ok (.newarray .int, 2) := by decide +kernel
theorem dX11_init_102 : decode cX11_init 102 = .ok (.putfield 60, 3) := by decide +kernel
theorem dX11_init_105 : decode cX11_init 105 = .ok (.aload_n 0, 1) := by decide +kernel
theorem dX11_init_106 : decode cX11_init 106 = .ok (.bipush 6, 2) := by decide +kernel
theorem dX11_init_108 : decode cX11_init 108 = .ok (.anewarray 63, 3) := by decide +kernel
theorem dX11_init_111 : decode cX11_init 111 = .ok (.putfield 65, 3) := by decide +kernel
theorem dX11_init_114 : decode cX11_init 114 = .ok (.aload_n 0, 1) := by decide +kernel
theorem dX11_init_115 : decode cX11_init 115 = .ok (.new 63, 3) := by decide +kernel
theorem dX11_init_118 : decode cX11_init 118 = .ok (.dup, 1) := by decide +kernel
theorem dX11_init_119 : decode cX11_init 119 = .ok (.invokespecial 69, 3) := by decide +kernel
theorem dX11_init_122 : decode cX11_init 122 = .ok (.putfield 70, 3) := by decide +kernel
theorem dX11_init_125 : decode cX11_init 125 = .ok (.aload_n 0, 1) := by decide +kernel
theorem dX11_init_126 : decode cX11_init 126 = .ok (.new 74, 3) := by decide +kernel
theorem dX11_init_129 : decode cX11_init 129 = .ok (.dup, 1) := by decide +kernel
theorem dX11_init_130 : decode cX11_init 130 = .ok (.invokespecial 76, 3) := by decide +kernel
theorem dX11_init_133 : decode cX11_init 133 = .ok (.putfield 77, 3) := by decide +kernel
theorem dX11_init_136 : decode cX11_init 136 = .ok (.aload_n 0, 1) := by decide +kernel
theorem dX11_init_137 : decode cX11_init 137 = .ok (.iconst 0, 1) := by decide +kernel
theorem dX11_init_138 : decode cX11_init 138 = .ok (.putfield 81, 3) := by decide +kernel
theorem dX11_init_141 : decode cX11_init 141 = .ok (.iconst 0, 1) := by decide +kernel
theorem dX11_init_142 : decode cX11_init 142 = .ok (.istore_n 1, 1) := by decide +kernel
theorem dX11_init_143 : decode cX11_init 143 = .ok (.iload_n 1, 1) := by decide +kernel
theorem dX11_init_144 : decode cX11_init 144 = .ok (.aload_n 0, 1) := by decide +kernel
theorem dX11_init_145 : decode cX11_init 145 = .ok (.getfield 65, 3) := by decide +kernel
theorem dX11_init_148 : decode cX11_init 148 = .ok (.arraylength, 1) := by decide +kernel
theorem dX11_init_149 : decode cX11_init 149 = .ok (.if_icmp .ge 22, 3) := by decide +kernel
theorem dX11_init_152 : decode cX11_init 152 = .ok (.aload_n 0, 1) := by decide +kernel
theorem dX11_init_153 : decode cX11_init 153 = .ok (.getfield 65, 3) := by decide +kernel
theorem dX11_init_156 : decode cX11_init 156 = .ok (.iload_n 1, 1) := by decide +kernel
theorem dX11_init_157 : decode cX11_init 157 = .ok (.new 63, 3) := by decide +kernel
theorem dX11_init_160 : decode cX11_init 160 = .ok (.dup, 1) := by decide +kernel
theorem dX11_init_161 : decode cX11_init 161 = .ok (.invokespecial 69, 3) := by decide +kernel
theorem dX11_init_164 : decode cX11_init 164 = .ok (.aastore, 1) := by decide +kernel
theorem dX11_init_165 : decode cX11_init 165 = .ok (.iinc 1 1, 3) := by decide +kernel
theorem dX11_init_168 : decode cX11_init 168 = .ok (.goto (-25), 3) := by decide +kernel
theorem dX11_init_171 : decode cX11_init 171 = .ok (.return_, 1) := by decide +kernel
theorem dX11_feed_0 : decode cX11_feed 0 = .ok (.iload_n 1, 1) := by decide +kernel
theorem dX11_feed_1 : decode cX11_feed 1 = .ok (.ifCond .ge 9, 3) := by decide +kernel
theorem dX11_feed_4 : decode cX11_feed 4 = .ok (.aload_n 0, 1) := by decide +kernel
theorem dX11_feed_5 : decode cX11_feed 5 = .ok (.iconst 4, 1) := by decide +kernel
theorem dX11_feed_6 : decode cX11_feed 6 = .ok (.invokevirtual 84, 3) := by decide +kernel
theorem dX11_feed_9 : decode cX11_feed 9 = .ok (.ireturn, 1) := by decide +kernel
theorem dX11_feed_10 : decode cX11_feed 10 = .ok (.iload_n 1, 1) := by decide +kernel
theorem dX11_feed_11 : decode cX11_feed 11 = .ok (.sipush 255, 3) := by decide +kernel
theorem dX11_feed_14 : decode cX11_feed 14 = .ok (.if_icmp .gt 13, 3) := by decide +kernel
theorem dX11_feed_17 : decode cX11_feed 17 = .ok (.aload_n 0, 1) := by decide +kernel
theorem dX11_feed_18 : decode cX11_feed 18 = .ok (.getfield 10, 3) := by decide +kernel
theorem dX11_feed_21 : decode cX11_feed 21 = .ok (.invokevirtual 88, 3) := by decide +kernel
theorem dX11_feed_24 : decode cX11_feed 24 = .ok (.ifCond .eq 10, 3) := by decide +kernel
theorem dX11_feed_27 : decode cX11_feed 27 = .ok (.aload_n 0, 1) := by decide +kernel
theorem dX11_feed_28 : decode cX11_feed 28 = .ok (.bipush 6, 2) := by decide +kernel
theorem dX11_feed_30 : decode cX11_feed 30 = .ok (.invokevirtual 84, 3) := by decide +kernel
theorem dX11_feed_33 : decode cX11_feed 33 = .ok (.ireturn, 1) := by decide +kernel
theorem dX11_feed_34 : decode cX11_feed 34 = .ok (.aload_n 0, 1) := by decide +kernel
theorem dX11_feed_35 : decode cX11_feed 35 = .ok (.getfield 10, 3) := by decide +kernel
theorem dX11_feed_38 : decode cX11_feed 38 = .ok (.iload_n 1, 1) := by decide +kernel
theorem dX11_feed_39 : decode cX11_feed 39 = .ok (.invokevirtual 92, 3) := by decide +kernel
theorem dX11_feed_42 : decode cX11_feed 42 = .ok (.ireturn, 1) := by decide +kernel
theorem dX11_school_0 : decode cX11_school 0 = .ok (.aload_n 0, 1) := by decide +kernel
theorem dX11_school_1 : decode cX11_school 1 = .ok (.getfield 10, 3) := by decide +kernel
theorem dX11_school_4 : decode cX11_school 4 = .ok (.invokevirtual 95, 3) := by decide +kernel
theorem dX11_school_7 : decode cX11_school 7 = .ok (.ifCond .eq 10, 3) := by decide +kernel
theorem dX11_school_10 : decode cX11_school 10 = .ok (.aload_n 0, 1) := by decide +kernel
theorem dX11_school_11 : decode cX11_school 11 = .ok (.invokevirtual 98, 3) := by decide +kernel
theorem dX11_school_14 : decode cX11_school 14 = .ok (.goto 14, 3) := by decide +kernel
theorem dX11_school_17 : decode cX11_school 17 = .ok (.sipush (-1000), 3) := by decide +kernel
theorem dX11_school_20 : decode cX11_school 20 = .ok (.aload_n 0, 1) := by decide +kernel
theorem dX11_school_21 : decode cX11_school 21 = .ok (.getfield 10, 3) := by decide +kernel
theorem dX11_school_24 : decode cX11_school 24 = .ok (.invokevirtual 102, 3) := by decide +kernel
theorem dX11_school_27 : decode cX11_school 27 = .ok (.isub, 1) := by decide +kernel
theorem dX11_school_28 : decode cX11_school 28 = .ok (.istore_n 1, 1) := by decide +kernel
theorem dX11_school_29 : decode cX11_school 29 = .ok (.aload_n 0, 1) := by decide +kernel
theorem dX11_school_30 : decode cX11_school 30 = .ok (.getfield 10, 3) := by decide +kernel
theorem dX11_school_33 : decode cX11_school 33 = .ok (.invokevirtual 105, 3) := by decide +kernel
theorem dX11_school_36 : decode cX11_school 36 = .ok (.iload_n 1, 1) := by decide +kernel
theorem dX11_school_37 : decode cX11_school 37 = .ok (.ireturn, 1) := by decide +kernel
theorem dX11_stranger_0 : decode cX11_stranger 0 = .ok (.aload_n 0, 1) := by decide +kernel
theorem dX11_stranger_1 : decode cX11_stranger 1 = .ok (.iload_n 1, 1) := by decide +kernel
theorem dX11_stranger_2 : decode cX11_stranger 2 = .ok (.invokevirtual 108, 3) := by decide +kernel
theorem dX11_stranger_5 : decode cX11_stranger 5 = .ok (.ifCond .eq 9, 3) := by decide +kernel
theorem dX11_stranger_8 : decode cX11_stranger 8 = .ok (.aload_n 0, 1) := by decide +kernel
theorem dX11_stranger_9 : decode cX11_stranger 9 = .ok (.iconst 1, 1) := by decide +kernel
theorem dX11_stranger_10 : decode cX11_stranger 10 = .ok (.invokevirtual 84, 3) := by decide +kernel
theorem dX11_stranger_13 : decode cX11_stranger 13 = .ok (.ireturn, 1) := by decide +kernel
theorem dX11_stranger_14 : decode cX11_stranger 14 = .ok (.iload_n 2, 1) := by decide +kernel
theorem dX11_stranger_15 : decode cX11_stranger 15 = .ok (.tableswitch 61 0 2 #[25, 38, 51], 25) := by decide +kernel
theorem dX11_stranger_40 : decode cX11_stranger 40 = .ok (.aload_n 0, 1) := by decide +kernel
theorem dX11_stranger_41 : decode cX11_stranger 41 = .ok (.getfield 19, 3) := by decide +kernel
theorem dX11_stranger_44 : decode cX11_stranger 44 = .ok (.getfield 112, 3) := by decide +kernel
theorem dX11_stranger_47 : decode cX11_stranger 47 = .ok (.iload_n 1, 1) := by decide +kernel
theorem dX11_stranger_48 : decode cX11_stranger 48 = .ok (.aaload, 1) := by decide +kernel
theorem dX11_stranger_49 : decode cX11_stranger 49 = .ok (.invokevirtual 116, 3) := by decide +kernel
theorem dX11_stranger_52 : decode cX11_stranger 52 = .ok (.ireturn, 1) := by decide +kernel
theorem dX11_stranger_53 : decode cX11_stranger 53 = .ok (.aload_n 0, 1) := by decide +kernel
theorem dX11_stranger_54 : decode cX11_stranger 54 = .ok (.getfield 19, 3) := by decide +kernel
theorem dX11_stranger_57 : decode cX11_stranger 57 = .ok (.getfield 112, 3) := by decide +kernel
theorem dX11_stranger_60 : decode cX11_stranger 60 = .ok (.iload_n 1, 1) := by decide +kernel
theorem dX11_stranger_61 : decode cX11_stranger 61 = .ok (.aaload, 1) := by decide +kernel
theorem dX11_stranger_62 : decode cX11_stranger 62 = .ok (.getfield 119, 3) := by decide +kernel
theorem dX11_stranger_65 : decode cX11_stranger 65 = .ok (.ireturn, 1) := by decide +kernel
theorem dX11_stranger_66 : decode cX11_stranger 66 = .ok (.aload_n 0, 1) := by decide +kernel
theorem dX11_stranger_67 : decode cX11_stranger 67 = .ok (.getfield 19, 3) := by decide +kernel
theorem dX11_stranger_70 : decode cX11_stranger 70 = .ok (.getfield 122, 3) := by decide +kernel
theorem dX11_stranger_73 : decode cX11_stranger 73 = .ok (.iload_n 1, 1) := by decide +kernel
theorem dX11_stranger_74 : decode cX11_stranger 74 = .ok (.iaload, 1) := by decide +kernel
theorem dX11_stranger_75 : decode cX11_stranger 75 = .ok (.ireturn, 1) := by decide +kernel
theorem dX11_stranger_76 : decode cX11_stranger 76 = .ok (.aload_n 0, 1) := by decide +kernel
theorem dX11_stranger_77 : decode cX11_stranger 77 = .ok (.iconst 2, 1) := by decide +kernel
theorem dX11_stranger_78 : decode cX11_stranger 78 = .ok (.invokevirtual 84, 3) := by decide +kernel
theorem dX11_stranger_81 : decode cX11_stranger 81 = .ok (.ireturn, 1) := by decide +kernel
theorem dX11_learn_0 : decode cX11_learn 0 = .ok (.aload_n 0, 1) := by decide +kernel
theorem dX11_learn_1 : decode cX11_learn 1 = .ok (.iload_n 1, 1) := by decide +kernel
theorem dX11_learn_2 : decode cX11_learn 2 = .ok (.invokevirtual 108, 3) := by decide +kernel
theorem dX11_learn_5 : decode cX11_learn 5 = .ok (.ifCond .ne 10, 3) := by decide +kernel
theorem dX11_learn_8 : decode cX11_learn 8 = .ok (.iload_n 2, 1) := by decide +kernel
theorem dX11_learn_9 : decode cX11_learn 9 = .ok (.invokestatic 125, 3) := by decide +kernel
theorem dX11_learn_12 : decode cX11_learn 12 = .ok (.ifCond .eq 9, 3) := by decide +kernel
theorem dX11_learn_15 : decode cX11_learn 15 = .ok (.aload_n 0, 1) := by decide +kernel
theorem dX11_learn_16 : decode cX11_learn 16 = .ok (.iconst 1, 1) := by decide +kernel
theorem dX11_learn_17 : decode cX11_learn 17 = .ok (.invokevirtual 84, 3) := by decide +kernel
theorem dX11_learn_20 : decode cX11_learn 20 = .ok (.ireturn, 1) := by decide +kernel
theorem dX11_learn_21 : decode cX11_learn 21 = .ok (.iload_n 3, 1) := by decide +kernel
theorem dX11_learn_22 : decode cX11_learn 22 = .ok (.ifCond .eq 14, 3) := by decide +kernel
theorem dX11_learn_25 : decode cX11_learn 25 = .ok (.iload_n 3, 1) := by decide +kernel
theorem dX11_learn_26 : decode cX11_learn 26 = .ok (.iconst 1, 1) := by decide +kernel
theorem dX11_learn_27 : decode cX11_learn 27 = .ok (.if_icmp .eq 9, 3) := by decide +kernel
theorem dX11_learn_30 : decode cX11_learn 30 = .ok (.aload_n 0, 1) := by decide +kernel
theorem dX11_learn_31 : decode cX11_learn 31 = .ok (.iconst 2, 1) := by decide +kernel
theorem dX11_learn_32 : decode cX11_learn 32 = .ok (.invokevirtual 84, 3) := by decide +kernel
theorem dX11_learn_35 : decode cX11_learn 35 = .ok (.ireturn, 1) := by decide +kernel
theorem dX11_learn_36 : decode cX11_learn 36 = .ok (.aload_n 0, 1) := by decide +kernel
theorem dX11_learn_37 : decode cX11_learn 37 = .ok (.getfield 19, 3) := by decide +kernel
theorem dX11_learn_40 : decode cX11_learn 40 = .ok (.getfield 122, 3) := by decide +kernel
theorem dX11_learn_43 : decode cX11_learn 43 = .ok (.iload_n 1, 1) := by decide +kernel
theorem dX11_learn_44 : decode cX11_learn 44 = .ok (.iaload, 1) := by decide +kernel
theorem dX11_learn_45 : decode cX11_learn 45 = .ok (.iload_n 2, 1) := by decide +kernel
theorem dX11_learn_46 : decode cX11_learn 46 = .ok (.ishr, 1) := by decide +kernel
theorem dX11_learn_47 : decode cX11_learn 47 = .ok (.iconst 1, 1) := by decide +kernel
theorem dX11_learn_48 : decode cX11_learn 48 = .ok (.iand, 1) := by decide +kernel
theorem dX11_learn_49 : decode cX11_learn 49 = .ok (.istore 4, 2) := by decide +kernel
theorem dX11_learn_51 : decode cX11_learn 51 = .ok (.iload 4, 2) := by decide +kernel
theorem dX11_learn_53 : decode cX11_learn 53 = .ok (.iload_n 3, 1) := by decide +kernel
theorem dX11_learn_54 : decode cX11_learn 54 = .ok (.if_icmp .eq 13, 3) := by decide +kernel
theorem dX11_learn_57 : decode cX11_learn 57 = .ok (.aload_n 0, 1) := by decide +kernel
theorem dX11_learn_58 : decode cX11_learn 58 = .ok (.getfield 19, 3) := by decide +kernel
theorem dX11_learn_61 : decode cX11_learn 61 = .ok (.iload_n 1, 1) := by decide +kernel
theorem dX11_learn_62 : decode cX11_learn 62 = .ok (.iload_n 2, 1) := by decide +kernel
theorem dX11_learn_63 : decode cX11_learn 63 = .ok (.invokevirtual 128, 3) := by decide +kernel
theorem dX11_learn_66 : decode cX11_learn 66 = .ok (.pop, 1) := by decide +kernel
theorem dX11_learn_67 : decode cX11_learn 67 = .ok (.iload 4, 2) := by decide +kernel
theorem dX11_learn_69 : decode cX11_learn 69 = .ok (.ireturn, 1) := by decide +kernel
theorem dX11_name_0 : decode cX11_name 0 = .ok (.iload_n 1, 1) := by decide +kernel
theorem dX11_name_1 : decode cX11_name 1 = .ok (.invokestatic 125, 3) := by decide +kernel
theorem dX11_name_4 : decode cX11_name 4 = .ok (.ifCond .eq 9, 3) := by decide +kernel
theorem dX11_name_7 : decode cX11_name 7 = .ok (.aload_n 0, 1) := by decide +kernel
theorem dX11_name_8 : decode cX11_name 8 = .ok (.iconst 1, 1) := by decide +kernel
theorem dX11_name_9 : decode cX11_name 9 = .ok (.invokevirtual 84, 3) := by decide +kernel
theorem dX11_name_12 : decode cX11_name 12 = .ok (.ireturn, 1) := by decide +kernel
theorem dX11_name_13 : decode cX11_name 13 = .ok (.aload_n 0, 1) := by decide +kernel
theorem dX11_name_14 : decode cX11_name 14 = .ok (.getfield 19, 3) := by decide +kernel
theorem dX11_name_17 : decode cX11_name 17 = .ok (.getfield 132, 3) := by decide +kernel
theorem dX11_name_20 : decode cX11_name 20 = .ok (.iload_n 1, 1) := by decide +kernel
theorem dX11_name_21 : decode cX11_name 21 = .ok (.iaload, 1) := by decide +kernel
theorem dX11_name_22 : decode cX11_name 22 = .ok (.ireturn, 1) := by decide +kernel
theorem dX11_coin_0 : decode cX11_coin 0 = .ok (.iload_n 1, 1) := by decide +kernel
theorem dX11_coin_1 : decode cX11_coin 1 = .ok (.invokestatic 125, 3) := by decide +kernel
theorem dX11_coin_4 : decode cX11_coin 4 = .ok (.ifCond .eq 9, 3) := by decide +kernel
theorem dX11_coin_7 : decode cX11_coin 7 = .ok (.aload_n 0, 1) := by decide +kernel
theorem dX11_coin_8 : decode cX11_coin 8 = .ok (.iconst 1, 1) := by decide +kernel
theorem dX11_coin_9 : decode cX11_coin 9 = .ok (.invokevirtual 84, 3) := by decide +kernel
theorem dX11_coin_12 : decode cX11_coin 12 = .ok (.ireturn, 1) := by decide +kernel
theorem dX11_coin_13 : decode cX11_coin 13 = .ok (.iload_n 2, 1) := by decide +kernel
theorem dX11_coin_14 : decode cX11_coin 14 = .ok (.iconst (-1), 1) := by decide +kernel
theorem dX11_coin_15 : decode cX11_coin 15 = .ok (.if_icmp .ge 9, 3) := by decide +kernel
theorem dX11_coin_18 : decode cX11_coin 18 = .ok (.aload_n 0, 1) := by decide +kernel
theorem dX11_coin_19 : decode cX11_coin 19 = .ok (.iconst 4, 1) := by decide +kernel
theorem dX11_coin_20 : decode cX11_coin 20 = .ok (.invokevirtual 84, 3) := by decide +kernel
theorem dX11_coin_23 : decode cX11_coin 23 = .ok (.ireturn, 1) := by decide +kernel
theorem dX11_coin_24 : decode cX11_coin 24 = .ok (.iload_n 2, 1) := by decide +kernel
