theorem dX12_readsSaying_50 : decode cX12_readsSaying 50 = .ok (.iconst 0, 1) := by decide +kernel
theorem dX12_readsSaying_51 : decode cX12_readsSaying 51 = .ok (.ireturn, 1) := by decide +kernel
theorem dX12_readsSaying_52 : decode cX12_readsSaying 52 = .ok (.iload_n 1, 1) := by decide +kernel
theorem dX12_readsSaying_53 : decode cX12_readsSaying 53 = .ok (.iload_n 2, 1) := by decide +kernel
theorem dX12_readsSaying_54 : decode cX12_readsSaying 54 = .ok (.bipush 7, 2) := by decide +kernel
theorem dX12_readsSaying_56 : decode cX12_readsSaying 56 = .ok (.if_icmp .ne 7, 3) := by decide +kernel
theorem dX12_readsSaying_59 : decode cX12_readsSaying 59 = .ok (.iconst 0, 1) := by decide +kernel
theorem dX12_readsSaying_60 : decode cX12_readsSaying 60 = .ok (.goto 14, 3) := by decide +kernel
theorem dX12_readsSaying_63 : decode cX12_readsSaying 63 = .ok (.iload_n 2, 1) := by decide +kernel
theorem dX12_readsSaying_64 : decode cX12_readsSaying 64 = .ok (.bipush 7, 2) := by decide +kernel
theorem dX12_readsSaying_66 : decode cX12_readsSaying 66 = .ok (.if_icmp .le 7, 3) := by decide +kernel
theorem dX12_readsSaying_69 : decode cX12_readsSaying 69 = .ok (.iconst 1, 1) := by decide +kernel
theorem dX12_readsSaying_70 : decode cX12_readsSaying 70 = .ok (.goto 4, 3) := by decide +kernel
theorem dX12_readsSaying_73 : decode cX12_readsSaying 73 = .ok (.iconst (-1), 1) := by decide +kernel
theorem dX12_readsSaying_74 : decode cX12_readsSaying 74 = .ok (.iadd, 1) := by decide +kernel
theorem dX12_readsSaying_75 : decode cX12_readsSaying 75 = .ok (.istore_n 1, 1) := by decide +kernel
theorem dX12_readsSaying_76 : decode cX12_readsSaying 76 = .ok (.aload_n 0, 1) := by decide +kernel
theorem dX12_readsSaying_77 : decode cX12_readsSaying 77 = .ok (.dup, 1) := by decide +kernel
theorem dX12_readsSaying_78 : decode cX12_readsSaying 78 = .ok (.getfield 86, 3) := by decide +kernel
theorem dX12_readsSaying_81 : decode cX12_readsSaying 81 = .ok (.iconst 1, 1) := by decide +kernel
theorem dX12_readsSaying_82 : decode cX12_readsSaying 82 = .ok (.iadd, 1) := by decide +kernel
theorem dX12_readsSaying_83 : decode cX12_readsSaying 83 = .ok (.putfield 86, 3) := by decide +kernel
theorem dX12_readsSaying_86 : decode cX12_readsSaying 86 = .ok (.goto (-71), 3) := by decide +kernel
theorem dX12_readsSaying_89 : decode cX12_readsSaying 89 = .ok (.aload_n 0, 1) := by decide +kernel
theorem dX12_readsSaying_90 : decode cX12_readsSaying 90 = .ok (.getfield 46, 3) := by decide +kernel
theorem dX12_readsSaying_93 : decode cX12_readsSaying 93 = .ok (.aload_n 0, 1) := by decide +kernel
theorem dX12_readsSaying_94 : decode cX12_readsSaying 94 = .ok (.getfield 97, 3) := by decide +kernel
theorem dX12_readsSaying_97 : decode cX12_readsSaying 97 = .ok (.aload_n 0, 1) := by decide +kernel
theorem dX12_readsSaying_98 : decode cX12_readsSaying 98 = .ok (.getfield 86, 3) := by decide +kernel
theorem dX12_readsSaying_101 : decode cX12_readsSaying 101 = .ok (.iastore, 1) := by decide +kernel
theorem dX12_readsSaying_102 : decode cX12_readsSaying 102 = .ok (.iconst 1, 1) := by decide +kernel
theorem dX12_readsSaying_103 : decode cX12_readsSaying 103 = .ok (.ireturn, 1) := by decide +kernel
theorem dX12_readsAll_0 : decode cX12_readsAll 0 = .ok (.iload_n 1, 1) := by decide +kernel
theorem dX12_readsAll_1 : decode cX12_readsAll 1 = .ok (.lookupswitch 85 #[(99, 64), (104, 59), (115, 35)], 35) := by decide +kernel
theorem dX12_readsAll_36 : decode cX12_readsAll 36 = .ok (.aload_n 0, 1) := by decide +kernel
theorem dX12_readsAll_37 : decode cX12_readsAll 37 = .ok (.iload_n 2, 1) := by decide +kernel
theorem dX12_readsAll_38 : decode cX12_readsAll 38 = .ok (.invokevirtual 103, 3) := by decide +kernel
theorem dX12_readsAll_41 : decode cX12_readsAll 41 = .ok (.ifCond .eq 17, 3) := by decide +kernel
theorem dX12_readsAll_44 : decode cX12_readsAll 44 = .ok (.aload_n 0, 1) := by decide +kernel
theorem dX12_readsAll_45 : decode cX12_readsAll 45 = .ok (.iload_n 2, 1) := by decide +kernel
theorem dX12_readsAll_46 : decode cX12_readsAll 46 = .ok (.iconst 1, 1) := by decide +kernel
theorem dX12_readsAll_47 : decode cX12_readsAll 47 = .ok (.iadd, 1) := by decide +kernel
theorem dX12_readsAll_48 : decode cX12_readsAll 48 = .ok (.invokevirtual 103, 3) := by decide +kernel
theorem dX12_readsAll_51 : decode cX12_readsAll 51 = .ok (.ifCond .eq 7, 3) := by decide +kernel
theorem dX12_readsAll_54 : decode cX12_readsAll 54 = .ok (.iconst 1, 1) := by decide +kernel
theorem dX12_readsAll_55 : decode cX12_readsAll 55 = .ok (.goto 4, 3) := by decide +kernel
theorem dX12_readsAll_58 : decode cX12_readsAll 58 = .ok (.iconst 0, 1) := by decide +kernel
theorem dX12_readsAll_59 : decode cX12_readsAll 59 = .ok (.ireturn, 1) := by decide +kernel
theorem dX12_readsAll_60 : decode cX12_readsAll 60 = .ok (.aload_n 0, 1) := by decide +kernel
theorem dX12_readsAll_61 : decode cX12_readsAll 61 = .ok (.invokevirtual 107, 3) := by decide +kernel
theorem dX12_readsAll_64 : decode cX12_readsAll 64 = .ok (.ireturn, 1) := by decide +kernel
theorem dX12_readsAll_65 : decode cX12_readsAll 65 = .ok (.aload_n 0, 1) := by decide +kernel
theorem dX12_readsAll_66 : decode cX12_readsAll 66 = .ok (.iload_n 2, 1) := by decide +kernel
theorem dX12_readsAll_67 : decode cX12_readsAll 67 = .ok (.invokevirtual 111, 3) := by decide +kernel
theorem dX12_readsAll_70 : decode cX12_readsAll 70 = .ok (.ifCond .eq 14, 3) := by decide +kernel
theorem dX12_readsAll_73 : decode cX12_readsAll 73 = .ok (.aload_n 0, 1) := by decide +kernel
theorem dX12_readsAll_74 : decode cX12_readsAll 74 = .ok (.invokevirtual 107, 3) := by decide +kernel
theorem dX12_readsAll_77 : decode cX12_readsAll 77 = .ok (.ifCond .eq 7, 3) := by decide +kernel
theorem dX12_readsAll_80 : decode cX12_readsAll 80 = .ok (.iconst 1, 1) := by decide +kernel
theorem dX12_readsAll_81 : decode cX12_readsAll 81 = .ok (.goto 4, 3) := by decide +kernel
theorem dX12_readsAll_84 : decode cX12_readsAll 84 = .ok (.iconst 0, 1) := by decide +kernel
theorem dX12_readsAll_85 : decode cX12_readsAll 85 = .ok (.ireturn, 1) := by decide +kernel
theorem dX12_readsAll_86 : decode cX12_readsAll 86 = .ok (.aload_n 0, 1) := by decide +kernel
theorem dX12_readsAll_87 : decode cX12_readsAll 87 = .ok (.iload_n 2, 1) := by decide +kernel
theorem dX12_readsAll_88 : decode cX12_readsAll 88 = .ok (.invokevirtual 103, 3) := by decide +kernel
theorem dX12_readsAll_91 : decode cX12_readsAll 91 = .ok (.ifCond .eq 17, 3) := by decide +kernel
theorem dX12_readsAll_94 : decode cX12_readsAll 94 = .ok (.aload_n 0, 1) := by decide +kernel
theorem dX12_readsAll_95 : decode cX12_readsAll 95 = .ok (.iload_n 2, 1) := by decide +kernel
theorem dX12_readsAll_96 : decode cX12_readsAll 96 = .ok (.iconst 1, 1) := by decide +kernel
theorem dX12_readsAll_97 : decode cX12_readsAll 97 = .ok (.iadd, 1) := by decide +kernel
theorem dX12_readsAll_98 : decode cX12_readsAll 98 = .ok (.invokevirtual 111, 3) := by decide +kernel
theorem dX12_readsAll_101 : decode cX12_readsAll 101 = .ok (.ifCond .eq 7, 3) := by decide +kernel
theorem dX12_readsAll_104 : decode cX12_readsAll 104 = .ok (.iconst 1, 1) := by decide +kernel
theorem dX12_readsAll_105 : decode cX12_readsAll 105 = .ok (.goto 4, 3) := by decide +kernel
theorem dX12_readsAll_108 : decode cX12_readsAll 108 = .ok (.iconst 0, 1) := by decide +kernel
theorem dX12_readsAll_109 : decode cX12_readsAll 109 = .ok (.ireturn, 1) := by decide +kernel
theorem dX12_statement_0 : decode cX12_statement 0 = .ok (.aload_n 0, 1) := by decide +kernel
theorem dX12_statement_1 : decode cX12_statement 1 = .ok (.invokevirtual 93, 3) := by decide +kernel
theorem dX12_statement_4 : decode cX12_statement 4 = .ok (.istore_n 1, 1) := by decide +kernel
theorem dX12_statement_5 : decode cX12_statement 5 = .ok (.iload_n 1, 1) := by decide +kernel
theorem dX12_statement_6 : decode cX12_statement 6 = .ok (.bipush 115, 2) := by decide +kernel
theorem dX12_statement_8 : decode cX12_statement 8 = .ok (.if_icmp .eq 23, 3) := by decide +kernel
theorem dX12_statement_11 : decode cX12_statement 11 = .ok (.iload_n 1, 1) := by decide +kernel
theorem dX12_statement_12 : decode cX12_statement 12 = .ok (.bipush 104, 2) := by decide +kernel
theorem dX12_statement_14 : decode cX12_statement 14 = .ok (.if_icmp .eq 17, 3) := by decide +kernel
theorem dX12_statement_17 : decode cX12_statement 17 = .ok (.iload_n 1, 1) := by decide +kernel
theorem dX12_statement_18 : decode cX12_statement 18 = .ok (.bipush 99, 2) := by decide +kernel
theorem dX12_statement_20 : decode cX12_statement 20 = .ok (.if_icmp .eq 11, 3) := by decide +kernel
theorem dX12_statement_23 : decode cX12_statement 23 = .ok (.iload_n 1, 1) := by decide +kernel
theorem dX12_statement_24 : decode cX12_statement 24 = .ok (.bipush 108, 2) := by decide +kernel
theorem dX12_statement_26 : decode cX12_statement 26 = .ok (.if_icmp .eq 5, 3) := by decide +kernel
theorem dX12_statement_29 : decode cX12_statement 29 = .ok (.iconst 0, 1) := by decide +kernel
theorem dX12_statement_30 : decode cX12_statement 30 = .ok (.ireturn, 1) := by decide +kernel
theorem dX12_statement_31 : decode cX12_statement 31 = .ok (.aload_n 0, 1) := by decide +kernel
theorem dX12_statement_32 : decode cX12_statement 32 = .ok (.getfield 34, 3) := by decide +kernel
theorem dX12_statement_35 : decode cX12_statement 35 = .ok (.aload_n 0, 1) := by decide +kernel
theorem dX12_statement_36 : decode cX12_statement 36 = .ok (.getfield 97, 3) := by decide +kernel
theorem dX12_statement_39 : decode cX12_statement 39 = .ok (.iload_n 1, 1) := by decide +kernel
theorem dX12_statement_40 : decode cX12_statement 40 = .ok (.iastore, 1) := by decide +kernel
theorem dX12_statement_41 : decode cX12_statement 41 = .ok (.aload_n 0, 1) := by decide +kernel
theorem dX12_statement_42 : decode cX12_statement 42 = .ok (.getfield 37, 3) := by decide +kernel
theorem dX12_statement_45 : decode cX12_statement 45 = .ok (.aload_n 0, 1) := by decide +kernel
theorem dX12_statement_46 : decode cX12_statement 46 = .ok (.getfield 97, 3) := by decide +kernel
theorem dX12_statement_49 : decode cX12_statement 49 = .ok (.aload_n 0, 1) := by decide +kernel
theorem dX12_statement_50 : decode cX12_statement 50 = .ok (.getfield 86, 3) := by decide +kernel
theorem dX12_statement_53 : decode cX12_statement 53 = .ok (.iastore, 1) := by decide +kernel
theorem dX12_statement_54 : decode cX12_statement 54 = .ok (.aload_n 0, 1) := by decide +kernel
theorem dX12_statement_55 : decode cX12_statement 55 = .ok (.dup, 1) := by decide +kernel
theorem dX12_statement_56 : decode cX12_statement 56 = .ok (.getfield 86, 3) := by decide +kernel
theorem dX12_statement_59 : decode cX12_statement 59 = .ok (.iconst 1, 1) := by decide +kernel
theorem dX12_statement_60 : decode cX12_statement 60 = .ok (.iadd, 1) := by decide +kernel
theorem dX12_statement_61 : decode cX12_statement 61 = .ok (.putfield 86, 3) := by decide +kernel
theorem dX12_statement_64 : decode cX12_statement 64 = .ok (.aload_n 0, 1) := by decide +kernel
theorem dX12_statement_65 : decode cX12_statement 65 = .ok (.iload_n 1, 1) := by decide +kernel
theorem dX12_statement_66 : decode cX12_statement 66 = .ok (.iconst 2, 1) := by decide +kernel
theorem dX12_statement_67 : decode cX12_statement 67 = .ok (.aload_n 0, 1) := by decide +kernel
theorem dX12_statement_68 : decode cX12_statement 68 = .ok (.getfield 97, 3) := by decide +kernel
theorem dX12_statement_71 : decode cX12_statement 71 = .ok (.imul, 1) := by decide +kernel
theorem dX12_statement_72 : decode cX12_statement 72 = .ok (.invokevirtual 114, 3) := by decide +kernel
theorem dX12_statement_75 : decode cX12_statement 75 = .ok (.ifCond .eq 12, 3) := by decide +kernel
theorem dX12_statement_78 : decode cX12_statement 78 = .ok (.aload_n 0, 1) := by decide +kernel
theorem dX12_statement_79 : decode cX12_statement 79 = .ok (.invokevirtual 93, 3) := by decide +kernel
theorem dX12_statement_82 : decode cX12_statement 82 = .ok (.bipush 59, 2) := by decide +kernel
theorem dX12_statement_84 : decode cX12_statement 84 = .ok (.if_icmp .eq 5, 3) := by decide +kernel
theorem dX12_statement_87 : decode cX12_statement 87 = .ok (.iconst 0, 1) := by decide +kernel
theorem dX12_statement_88 : decode cX12_statement 88 = .ok (.ireturn, 1) := by decide +kernel
theorem dX12_statement_89 : decode cX12_statement 89 = .ok (.aload_n 0, 1) := by decide +kernel
theorem dX12_statement_90 : decode cX12_statement 90 = .ok (.dup, 1) := by decide +kernel
theorem dX12_statement_91 : decode cX12_statement 91 = .ok (.getfield 86, 3) := by decide +kernel
theorem dX12_statement_94 : decode cX12_statement 94 = .ok (.iconst 1, 1) := by decide +kernel
theorem dX12_statement_95 : decode cX12_statement 95 = .ok (.iadd, 1) := by decide +kernel
theorem dX12_statement_96 : decode cX12_statement 96 = .ok (.putfield 86, 3) := by decide +kernel
theorem dX12_statement_99 : decode cX12_statement 99 = .ok (.iconst 1, 1) := by decide +kernel
theorem dX12_statement_100 : decode cX12_statement 100 = .ok (.ireturn, 1) := by decide +kernel
theorem dX12_lays_0 : decode cX12_lays 0 = .ok (.aload_n 0, 1) := by decide +kernel
theorem dX12_lays_1 : decode cX12_lays 1 = .ok (.aload_n 0, 1) := by decide +kernel
theorem dX12_lays_2 : decode cX12_lays 2 = .ok (.getfield 46, 3) := by decide +kernel
theorem dX12_lays_5 : decode cX12_lays 5 = .ok (.iload_n 1, 1) := by decide +kernel
theorem dX12_lays_6 : decode cX12_lays 6 = .ok (.iaload, 1) := by decide +kernel
theorem dX12_lays_7 : decode cX12_lays 7 = .ok (.aload_n 0, 1) := by decide +kernel
theorem dX12_lays_8 : decode cX12_lays 8 = .ok (.getfield 43, 3) := by decide +kernel
theorem dX12_lays_11 : decode cX12_lays 11 = .ok (.iload_n 1, 1) := by decide +kernel
theorem dX12_lays_12 : decode cX12_lays 12 = .ok (.iaload, 1) := by decide +kernel
theorem dX12_lays_13 : decode cX12_lays 13 = .ok (.isub, 1) := by decide +kernel
theorem dX12_lays_14 : decode cX12_lays 14 = .ok (.putfield 118, 3) := by decide +kernel
theorem dX12_lays_17 : decode cX12_lays 17 = .ok (.iconst 0, 1) := by decide +kernel
theorem dX12_lays_18 : decode cX12_lays 18 = .ok (.istore_n 2, 1) := by decide +kernel
theorem dX12_lays_19 : decode cX12_lays 19 = .ok (.iload_n 2, 1) := by decide +kernel
theorem dX12_lays_20 : decode cX12_lays 20 = .ok (.aload_n 0, 1) := by decide +kernel
theorem dX12_lays_21 : decode cX12_lays 21 = .ok (.getfield 118, 3) := by decide +kernel
theorem dX12_lays_24 : decode cX12_lays 24 = .ok (.if_icmp .ge 31, 3) := by decide +kernel
theorem dX12_lays_27 : decode cX12_lays 27 = .ok (.aload_n 0, 1) := by decide +kernel
theorem dX12_lays_28 : decode cX12_lays 28 = .ok (.getfield 52, 3) := by decide +kernel
theorem dX12_lays_31 : decode cX12_lays 31 = .ok (.iload_n 2, 1) := by decide +kernel
theorem dX12_lays_32 : decode cX12_lays 32 = .ok (.aload_n 0, 1) := by decide +kernel
theorem dX12_lays_33 : decode cX12_lays 33 = .ok (.getfield 31, 3) := by decide +kernel
theorem dX12_lays_36 : decode cX12_lays 36 = .ok (.aload_n 0, 1) := by decide +kernel
theorem dX12_lays_37 : decode cX12_lays 37 = .ok (.getfield 43, 3) := by decide +kernel
theorem dX12_lays_40 : decode cX12_lays 40 = .ok (.iload_n 1, 1) := by decide +kernel
theorem dX12_lays_41 : decode cX12_lays 41 = .ok (.iaload, 1) := by decide +kernel
theorem dX12_lays_42 : decode cX12_lays 42 = .ok (.iload_n 2, 1) := by decide +kernel
theorem dX12_lays_43 : decode cX12_lays 43 = .ok (.iadd, 1) := by decide +kernel
theorem dX12_lays_44 : decode cX12_lays 44 = .ok (.iaload, 1) := by decide +kernel
theorem dX12_lays_45 : decode cX12_lays 45 = .ok (.invokestatic 100, 3) := by decide +kernel
theorem dX12_lays_48 : decode cX12_lays 48 = .ok (.iastore, 1) := by decide +kernel
theorem dX12_lays_49 : decode cX12_lays 49 = .ok (.iinc 2 1, 3) := by decide +kernel
theorem dX12_lays_52 : decode cX12_lays 52 = .ok (.goto (-33), 3) := by decide +kernel
theorem dX12_lays_55 : decode cX12_lays 55 = .ok (.return_, 1) := by decide +kernel
theorem dX12_comes_0 : decode cX12_comes 0 = .ok (.aload_n 0, 1) := by decide +kernel
theorem dX12_comes_1 : decode cX12_comes 1 = .ok (.getfield 40, 3) := by decide +kernel
theorem dX12_comes_4 : decode cX12_comes 4 = .ok (.iconst 2, 1) := by decide +kernel
theorem dX12_comes_5 : decode cX12_comes 5 = .ok (.iload_n 1, 1) := by decide +kernel
theorem dX12_comes_6 : decode cX12_comes 6 = .ok (.imul, 1) := by decide +kernel
theorem dX12_comes_7 : decode cX12_comes 7 = .ok (.iaload, 1) := by decide +kernel
theorem dX12_comes_8 : decode cX12_comes 8 = .ok (.istore_n 2, 1) := by decide +kernel
theorem dX12_comes_9 : decode cX12_comes 9 = .ok (.aload_n 0, 1) := by decide +kernel
theorem dX12_comes_10 : decode cX12_comes 10 = .ok (.getfield 40, 3) := by decide +kernel
theorem dX12_comes_13 : decode cX12_comes 13 = .ok (.iconst 2, 1) := by decide +kernel
theorem dX12_comes_14 : decode cX12_comes 14 = .ok (.iload_n 1, 1) := by decide +kernel
theorem dX12_comes_15 : decode cX12_comes 15 = .ok (.imul, 1) := by decide +kernel
theorem dX12_comes_16 : decode cX12_comes 16 = .ok (.iconst 1, 1) := by decide +kernel
theorem dX12_comes_17 : decode cX12_comes 17 = .ok (.iadd, 1) := by decide +kernel
theorem dX12_comes_18 : decode cX12_comes 18 = .ok (.iaload, 1) := by decide +kernel
theorem dX12_comes_19 : decode cX12_comes 19 = .ok (.istore_n 3, 1) := by decide +kernel
theorem dX12_comes_20 : decode cX12_comes 20 = .ok (.aload_n 0, 1) := by decide +kernel
theorem dX12_comes_21 : decode cX12_comes 21 = .ok (.getfield 34, 3) := by decide +kernel
theorem dX12_comes_24 : decode cX12_comes 24 = .ok (.iload_n 1, 1) := by decide +kernel
theorem dX12_comes_25 : decode cX12_comes 25 = .ok (.iaload, 1) := by decide +kernel
theorem dX12_comes_26 : decode cX12_comes 26 = .ok (.lookupswitch 190 #[(99, 172), (104, 91), (115, 34)], 34) := by decide +kernel
theorem dX12_comes_60 : decode cX12_comes 60 = .ok (.iload_n 2, 1) := by decide +kernel
theorem dX12_comes_61 : decode cX12_comes 61 = .ok (.iconst 5, 1) := by decide +kernel
theorem dX12_comes_62 : decode cX12_comes 62 = .ok (.if_icmp .gt 11, 3) := by decide +kernel
theorem dX12_comes_65 : decode cX12_comes 65 = .ok (.aload_n 0, 1) := by decide +kernel
theorem dX12_comes_66 : decode cX12_comes 66 = .ok (.getfield 68, 3) := by decide +kernel
theorem dX12_comes_69 : decode cX12_comes 69 = .ok (.iconst 5, 1) := by decide +kernel
theorem dX12_comes_70 : decode cX12_comes 70 = .ok (.if_icmp .ne 5, 3) := by decide +kernel
theorem dX12_comes_73 : decode cX12_comes 73 = .ok (.iconst 0, 1) := by decide +kernel
theorem dX12_comes_74 : decode cX12_comes 74 = .ok (.ireturn, 1) := by decide +kernel
theorem dX12_comes_75 : decode cX12_comes 75 = .ok (.aload_n 0, 1) := by decide +kernel
theorem dX12_comes_76 : decode cX12_comes 76 = .ok (.getfield 13, 3) := by decide +kernel
theorem dX12_comes_79 : decode cX12_comes 79 = .ok (.aload_n 0, 1) := by decide +kernel
theorem dX12_comes_80 : decode cX12_comes 80 = .ok (.getfield 68, 3) := by decide +kernel
theorem dX12_comes_83 : decode cX12_comes 83 = .ok (.iload_n 2, 1) := by decide +kernel
theorem dX12_comes_84 : decode cX12_comes 84 = .ok (.iastore, 1) := by decide +kernel
theorem dX12_comes_85 : decode cX12_comes 85 = .ok (.aload_n 0, 1) := by decide +kernel
theorem dX12_comes_86 : decode cX12_comes 86 = .ok (.getfield 16, 3) := by decide +kernel
theorem dX12_comes_89 : decode cX12_comes 89 = .ok (.aload_n 0, 1) := by decide +kernel
theorem dX12_comes_90 : decode cX12_comes 90 = .ok (.getfield 68, 3) := by decide +kernel
theorem dX12_comes_93 : decode cX12_comes 93 = .ok (.iload_n 3, 1) := by decide +kernel
theorem dX12_comes_94 : decode cX12_comes 94 = .ok (.iastore, 1) := by decide +kernel
theorem dX12_comes_95 : decode cX12_comes 95 = .ok (.aload_n 0, 1) := by decide +kernel
theorem dX12_comes_96 : decode cX12_comes 96 = .ok (.getfield 19, 3) := by decide +kernel
theorem dX12_comes_99 : decode cX12_comes 99 = .ok (.aload_n 0, 1) := by decide +kernel
theorem dX12_comes_100 : decode cX12_comes 100 = .ok (.getfield 68, 3) := by decide +kernel
theorem dX12_comes_103 : decode cX12_comes 103 = .ok (.iconst 0, 1) := by decide +kernel
theorem dX12_comes_104 : decode cX12_comes 104 = .ok (.iastore, 1) := by decide +kernel
theorem dX12_comes_105 : decode cX12_comes 105 = .ok (.aload_n 0, 1) := by decide +kernel
theorem dX12_comes_106 : decode cX12_comes 106 = .ok (.dup, 1) := by decide +kernel
theorem dX12_comes_107 : decode cX12_comes 107 = .ok (.getfield 68, 3) := by decide +kernel
theorem dX12_comes_110 : decode cX12_comes 110 = .ok (.iconst 1, 1) := by decide +kernel
theorem dX12_comes_111 : decode cX12_comes 111 = .ok (.iadd, 1) := by decide +kernel
theorem dX12_comes_112 : decode cX12_comes 112 = .ok (.putfield 68, 3) := by decide +kernel
theorem dX12_comes_115 : decode cX12_comes 115 = .ok (.iconst 1, 1) := by decide +kernel
theorem dX12_comes_116 : decode cX12_comes 116 = .ok (.ireturn, 1) := by decide +kernel
theorem dX12_comes_117 : decode cX12_comes 117 = .ok (.aload_n 0, 1) := by decide +kernel
theorem dX12_comes_118 : decode cX12_comes 118 = .ok (.getfield 72, 3) := by decide +kernel
theorem dX12_comes_121 : decode cX12_comes 121 = .ok (.bipush 6, 2) := by decide +kernel
theorem dX12_comes_123 : decode cX12_comes 123 = .ok (.if_icmp .ne 5, 3) := by decide +kernel
theorem dX12_comes_126 : decode cX12_comes 126 = .ok (.iconst 0, 1) := by decide +kernel
theorem dX12_comes_127 : decode cX12_comes 127 = .ok (.ireturn, 1) := by decide +kernel
theorem dX12_comes_128 : decode cX12_comes 128 = .ok (.aload_n 0, 1) := by decide +kernel
theorem dX12_comes_129 : decode cX12_comes 129 = .ok (.iload_n 1, 1) := by decide +kernel
theorem dX12_comes_130 : decode cX12_comes 130 = .ok (.invokevirtual 121, 3) := by decide +kernel
theorem dX12_comes_133 : decode cX12_comes 133 = .ok (.aload_n 0, 1) := by decide +kernel
theorem dX12_comes_134 : decode cX12_comes 134 = .ok (.getfield 25, 3) := by decide +kernel
theorem dX12_comes_137 : decode cX12_comes 137 = .ok (.aload_n 0, 1) := by decide +kernel
theorem dX12_comes_138 : decode cX12_comes 138 = .ok (.getfield 72, 3) := by decide +kernel
theorem dX12_comes_141 : decode cX12_comes 141 = .ok (.aload_n 0, 1) := by decide +kernel
theorem dX12_comes_142 : decode cX12_comes 142 = .ok (.getfield 118, 3) := by decide +kernel
theorem dX12_comes_145 : decode cX12_comes 145 = .ok (.iastore, 1) := by decide +kernel
theorem dX12_comes_146 : decode cX12_comes 146 = .ok (.iconst 0, 1) := by decide +kernel
theorem dX12_comes_147 : decode cX12_comes 147 = .ok (.istore 4, 2) := by decide +kernel
theorem dX12_comes_149 : decode cX12_comes 149 = .ok (.iload 4, 2) := by decide +kernel
theorem dX12_comes_151 : decode cX12_comes 151 = .ok (.aload_n 0, 1) := by decide +kernel
theorem dX12_comes_152 : decode cX12_comes 152 = .ok (.getfield 118, 3) := by decide +kernel
theorem dX12_comes_155 : decode cX12_comes 155 = .ok (.if_icmp .ge 31, 3) := by decide +kernel
theorem dX12_comes_158 : decode cX12_comes 158 = .ok (.aload_n 0, 1) := by decide +kernel
theorem dX12_comes_159 : decode cX12_comes 159 = .ok (.getfield 28, 3) := by decide +kernel
theorem dX12_comes_162 : decode cX12_comes 162 = .ok (.bipush 20, 2) := by decide +kernel
theorem dX12_comes_164 : decode cX12_comes 164 = .ok (.aload_n 0, 1) := by decide +kernel
theorem dX12_comes_165 : decode cX12_comes 165 = .ok (.getfield 72, 3) := by decide +kernel
theorem dX12_comes_168 : decode cX12_comes 168 = .ok (.imul, 1) := by decide +kernel
theorem dX12_comes_169 : decode cX12_comes 169 = .ok (.iload 4, 2) := by decide +kernel
theorem dX12_comes_171 : decode cX12_comes 171 = .ok (.iadd, 1) := by decide +kernel
theorem dX12_comes_172 : decode cX12_comes 172 = .ok (.aload_n 0, 1) := by decide +kernel
theorem dX12_comes_173 : decode cX12_comes 173 = .ok (.getfield 52, 3) := by decide +kernel
theorem dX12_comes_176 : decode cX12_comes 176 = .ok (.iload 4, 2) := by decide +kernel
theorem dX12_comes_178 : decode cX12_comes 178 = .ok (.iaload, 1) := by decide +kernel
theorem dX12_comes_179 : decode cX12_comes 179 = .ok (.iastore, 1) := by decide +kernel
theorem dX12_comes_180 : decode cX12_comes 180 = .ok (.iinc 4 1, 3) := by decide +kernel
theorem dX12_comes_183 : decode cX12_comes 183 = .ok (.goto (-34), 3) := by decide +kernel
theorem dX12_comes_186 : decode cX12_comes 186 = .ok (.aload_n 0, 1) := by decide +kernel
theorem dX12_comes_187 : decode cX12_comes 187 = .ok (.dup, 1) := by decide +kernel
theorem dX12_comes_188 : decode cX12_comes 188 = .ok (.getfield 72, 3) := by decide +kernel
theorem dX12_comes_191 : decode cX12_comes 191 = .ok (.iconst 1, 1) := by decide +kernel
theorem dX12_comes_192 : decode cX12_comes 192 = .ok (.iadd, 1) := by decide +kernel
theorem dX12_comes_193 : decode cX12_comes 193 = .ok (.putfield 72, 3) := by decide +kernel
theorem dX12_comes_196 : decode cX12_comes 196 = .ok (.iconst 1, 1) := by decide +kernel
theorem dX12_comes_197 : decode cX12_comes 197 = .ok (.ireturn, 1) := by decide +kernel
theorem dX12_comes_198 : decode cX12_comes 198 = .ok (.aload_n 0, 1) := by decide +kernel
theorem dX12_comes_199 : decode cX12_comes 199 = .ok (.iload_n 1, 1) := by decide +kernel
theorem dX12_comes_200 : decode cX12_comes 200 = .ok (.invokevirtual 121, 3) := by decide +kernel
theorem dX12_comes_203 : decode cX12_comes 203 = .ok (.aload_n 0, 1) := by decide +kernel
theorem dX12_comes_204 : decode cX12_comes 204 = .ok (.getfield 22, 3) := by decide +kernel
theorem dX12_comes_207 : decode cX12_comes 207 = .ok (.iload_n 2, 1) := by decide +kernel
theorem dX12_comes_208 : decode cX12_comes 208 = .ok (.aload_n 0, 1) := by decide +kernel
theorem dX12_comes_209 : decode cX12_comes 209 = .ok (.iconst (-1), 1) := by decide +kernel
theorem dX12_comes_210 : decode cX12_comes 210 = .ok (.invokevirtual 125, 3) := by decide +kernel
theorem dX12_comes_213 : decode cX12_comes 213 = .ok (.iastore, 1) := by decide +kernel
theorem dX12_comes_214 : decode cX12_comes 214 = .ok (.iconst 1, 1) := by decide +kernel
theorem dX12_comes_215 : decode cX12_comes 215 = .ok (.ireturn, 1) := by decide +kernel
theorem dX12_comes_216 : decode cX12_comes 216 = .ok (.aload_n 0, 1) := by decide +kernel
theorem dX12_comes_217 : decode cX12_comes 217 = .ok (.iload_n 2, 1) := by decide +kernel
theorem dX12_comes_218 : decode cX12_comes 218 = .ok (.invokevirtual 128, 3) := by decide +kernel
theorem dX12_comes_221 : decode cX12_comes 221 = .ok (.ifCond .ne 5, 3) := by decide +kernel
theorem dX12_comes_224 : decode cX12_comes 224 = .ok (.iconst 0, 1) := by decide +kernel
theorem dX12_comes_225 : decode cX12_comes 225 = .ok (.ireturn, 1) := by decide +kernel
theorem dX12_comes_226 : decode cX12_comes 226 = .ok (.aload_n 0, 1) := by decide +kernel
theorem dX12_comes_227 : decode cX12_comes 227 = .ok (.getfield 19, 3) := by decide +kernel
theorem dX12_comes_230 : decode cX12_comes 230 = .ok (.iload_n 2, 1) := by decide +kernel
theorem dX12_comes_231 : decode cX12_comes 231 = .ok (.dup2, 1) := by decide +kernel
theorem dX12_comes_232 : decode cX12_comes 232 = .ok (.iaload, 1) := by decide +kernel
theorem dX12_comes_233 : decode cX12_comes 233 = .ok (.iconst 1, 1) := by decide +kernel
theorem dX12_comes_234 : decode cX12_comes 234 = .ok (.iload_n 3, 1) := by decide +kernel
theorem dX12_comes_235 : decode cX12_comes 235 = .ok (.ishl, 1) := by decide +kernel
theorem dX12_comes_236 : decode cX12_comes 236 = .ok (.ixor, 1) := by decide +kernel
theorem dX12_comes_237 : decode cX12_comes 237 = .ok (.iastore, 1) := by decide +kernel
theorem dX12_comes_238 : decode cX12_comes 238 = .ok (.iconst 1, 1) := by decide +kernel
theorem dX12_comes_239 : decode cX12_comes 239 = .ok (.ireturn, 1) := by decide +kernel
theorem dX12_school_0 : decode cX12_school 0 = .ok (.aload_n 0, 1) := by decide +kernel
theorem dX12_school_1 : decode cX12_school 1 = .ok (.iconst 0, 1) := by decide +kernel
theorem dX12_school_2 : decode cX12_school 2 = .ok (.putfield 86, 3) := by decide +kernel
theorem dX12_school_5 : decode cX12_school 5 = .ok (.aload_n 0, 1) := by decide +kernel
theorem dX12_school_6 : decode cX12_school 6 = .ok (.iconst 0, 1) := by decide +kernel
theorem dX12_school_7 : decode cX12_school 7 = .ok (.putfield 97, 3) := by decide +kernel
theorem dX12_school_10 : decode cX12_school 10 = .ok (.iconst 1, 1) := by decide +kernel
theorem dX12_school_11 : decode cX12_school 11 = .ok (.istore_n 1, 1) := by decide +kernel
theorem dX12_school_12 : decode cX12_school 12 = .ok (.iload_n 1, 1) := by decide +kernel
theorem dX12_school_13 : decode cX12_school 13 = .ok (.ifCond .eq 47, 3) := by decide +kernel
theorem dX12_school_16 : decode cX12_school 16 = .ok (.aload_n 0, 1) := by decide +kernel
theorem dX12_school_17 : decode cX12_school 17 = .ok (.getfield 86, 3) := by decide +kernel
theorem dX12_school_20 : decode cX12_school 20 = .ok (.aload_n 0, 1) := by decide +kernel
theorem dX12_school_21 : decode cX12_school 21 = .ok (.getfield 79, 3) := by decide +kernel
theorem dX12_school_24 : decode cX12_school 24 = .ok (.if_icmp .lt 10, 3) := by decide +kernel
theorem dX12_school_27 : decode cX12_school 27 = .ok (.aload_n 0, 1) := by decide +kernel
theorem dX12_school_28 : decode cX12_school 28 = .ok (.getfield 97, 3) := by decide +kernel
theorem dX12_school_31 : decode cX12_school 31 = .ok (.ifCond .ne 29, 3) := by decide +kernel
theorem dX12_school_34 : decode cX12_school 34 = .ok (.aload_n 0, 1) := by decide +kernel
theorem dX12_school_35 : decode cX12_school 35 = .ok (.invokevirtual 131, 3) := by decide +kernel
theorem dX12_school_38 : decode cX12_school 38 = .ok (.istore_n 1, 1) := by decide +kernel
theorem dX12_school_39 : decode cX12_school 39 = .ok (.aload_n 0, 1) := by decide +kernel
theorem dX12_school_40 : decode cX12_school 40 = .ok (.dup, 1) := by decide +kernel
theorem dX12_school_41 : decode cX12_school 41 = .ok (.getfield 97, 3) := by decide +kernel
theorem dX12_school_44 : decode cX12_school 44 = .ok (.iload_n 1, 1) := by decide +kernel
theorem dX12_school_45 : decode cX12_school 45 = .ok (.ifCond .eq 7, 3) := by decide +kernel
theorem dX12_school_48 : decode cX12_school 48 = .ok (.iconst 1, 1) := by decide +kernel
theorem dX12_school_49 : decode cX12_school 49 = .ok (.goto 4, 3) := by decide +kernel
theorem dX12_school_52 : decode cX12_school 52 = .ok (.iconst 0, 1) := by decide +kernel
theorem dX12_school_53 : decode cX12_school 53 = .ok (.iadd, 1) := by decide +kernel
theorem dX12_school_54 : decode cX12_school 54 = .ok (.putfield 97, 3) := by decide +kernel
theorem dX12_school_57 : decode cX12_school 57 = .ok (.goto (-45), 3) := by decide +kernel
theorem dX12_school_60 : decode cX12_school 60 = .ok (.aload_n 0, 1) := by decide +kernel
theorem dX12_school_61 : decode cX12_school 61 = .ok (.iconst 0, 1) := by decide +kernel
theorem dX12_school_62 : decode cX12_school 62 = .ok (.putfield 79, 3) := by decide +kernel
theorem dX12_school_65 : decode cX12_school 65 = .ok (.iload_n 1, 1) := by decide +kernel
theorem dX12_school_66 : decode cX12_school 66 = .ok (.ifCond .ne 12, 3) := by decide +kernel
theorem dX12_school_69 : decode cX12_school 69 = .ok (.sipush (-1000), 3) := by decide +kernel
theorem dX12_school_72 : decode cX12_school 72 = .ok (.aload_n 0, 1) := by decide +kernel
theorem dX12_school_73 : decode cX12_school 73 = .ok (.getfield 86, 3) := by decide +kernel
theorem dX12_school_76 : decode cX12_school 76 = .ok (.isub, 1) := by decide +kernel
theorem dX12_school_77 : decode cX12_school 77 = .ok (.ireturn, 1) := by decide +kernel
theorem dX12_school_78 : decode cX12_school 78 = .ok (.aload_n 0, 1) := by decide +kernel
theorem dX12_school_79 : decode cX12_school 79 = .ok (.iconst 1, 1) := by decide +kernel
theorem dX12_school_80 : decode cX12_school 80 = .ok (.iconst 1, 1) := by decide +kernel
theorem dX12_school_81 : decode cX12_school 81 = .ok (.invokevirtual 134, 3) := by decide +kernel
theorem dX12_school_84 : decode cX12_school 84 = .ok (.iconst 0, 1) := by decide +kernel
theorem dX12_school_85 : decode cX12_school 85 = .ok (.istore_n 2, 1) := by decide +kernel
theorem dX12_school_86 : decode cX12_school 86 = .ok (.iload_n 2, 1) := by decide +kernel
theorem dX12_school_87 : decode cX12_school 87 = .ok (.aload_n 0, 1) := by decide +kernel
theorem dX12_school_88 : decode cX12_school 88 = .ok (.getfield 97, 3) := by decide +kernel
theorem dX12_school_91 : decode cX12_school 91 = .ok (.if_icmp .ge 37, 3) := by decide +kernel
theorem dX12_school_94 : decode cX12_school 94 = .ok (.aload_n 0, 1) := by decide +kernel
theorem dX12_school_95 : decode cX12_school 95 = .ok (.iload_n 2, 1) := by decide +kernel
theorem dX12_school_96 : decode cX12_school 96 = .ok (.invokevirtual 138, 3) := by decide +kernel
theorem dX12_school_99 : decode cX12_school 99 = .ok (.ifCond .eq 6, 3) := by decide +kernel
theorem dX12_school_102 : decode cX12_school 102 = .ok (.goto 20, 3) := by decide +kernel
theorem dX12_school_105 : decode cX12_school 105 = .ok (.aload_n 0, 1) := by decide +kernel
theorem dX12_school_106 : decode cX12_school 106 = .ok (.iconst 1, 1) := by decide +kernel
theorem dX12_school_107 : decode cX12_school 107 = .ok (.iconst 0, 1) := by decide +kernel
theorem dX12_school_108 : decode cX12_school 108 = .ok (.invokevirtual 134, 3) := by decide +kernel
theorem dX12_school_111 : decode cX12_school 111 = .ok (.sipush (-2000), 3) := by decide +kernel
theorem dX12_school_114 : decode cX12_school 114 = .ok (.aload_n 0, 1) := by decide +kernel
theorem dX12_school_115 : decode cX12_school 115 = .ok (.getfield 37, 3) := by decide +kernel
theorem dX12_school_118 : decode cX12_school 118 = .ok (.iload_n 2, 1) := by decide +kernel
theorem dX12_school_119 : decode cX12_school 119 = .ok (.iaload, 1) := by decide +kernel
theorem dX12_school_120 : decode cX12_school 120 = .ok (.isub, 1) := by decide +kernel
theorem dX12_school_121 : decode cX12_school 121 = .ok (.ireturn, 1) := by decide +kernel
theorem dX12_school_122 : decode cX12_school 122 = .ok (.iinc 2 1, 3) := by decide +kernel
theorem dX12_school_125 : decode cX12_school 125 = .ok (.goto (-39), 3) := by decide +kernel
theorem dX12_school_128 : decode cX12_school 128 = .ok (.aload_n 0, 1) := by decide +kernel
theorem dX12_school_129 : decode cX12_school 129 = .ok (.getfield 97, 3) := by decide +kernel
theorem dX12_school_132 : decode cX12_school 132 = .ok (.ireturn, 1) := by decide +kernel
theorem dX12_passes_0 : decode cX12_passes 0 = .ok (.iconst 0, 1) := by decide +kernel
theorem dX12_passes_1 : decode cX12_passes 1 = .ok (.istore_n 2, 1) := by decide +kernel
theorem dX12_passes_2 : decode cX12_passes 2 = .ok (.iload_n 2, 1) := by decide +kernel
theorem dX12_passes_3 : decode cX12_passes 3 = .ok (.aload_n 1, 1) := by decide +kernel
theorem dX12_passes_4 : decode cX12_passes 4 = .ok (.arraylength, 1) := by decide +kernel
theorem dX12_passes_5 : decode cX12_passes 5 = .ok (.if_icmp .ge 53, 3) := by decide +kernel
theorem dX12_passes_8 : decode cX12_passes 8 = .ok (.aload_n 0, 1) := by decide +kernel
theorem dX12_passes_9 : decode cX12_passes 9 = .ok (.getfield 141, 3) := by decide +kernel
theorem dX12_passes_12 : decode cX12_passes 12 = .ok (.ifCond .eq 18, 3) := by decide +kernel
theorem dX12_passes_15 : decode cX12_passes 15 = .ok (.aload_n 0, 1) := by decide +kernel
theorem dX12_passes_16 : decode cX12_passes 16 = .ok (.getfield 49, 3) := by decide +kernel
theorem dX12_passes_19 : decode cX12_passes 19 = .ok (.aload_n 0, 1) := by decide +kernel
theorem dX12_passes_20 : decode cX12_passes 20 = .ok (.getfield 145, 3) := by decide +kernel
theorem dX12_passes_23 : decode cX12_passes 23 = .ok (.aload_n 1, 1) := by decide +kernel
theorem dX12_passes_24 : decode cX12_passes 24 = .ok (.iload_n 2, 1) := by decide +kernel
theorem dX12_passes_25 : decode cX12_passes 25 = .ok (.iaload, 1) := by decide +kernel
theorem dX12_passes_26 : decode cX12_passes 26 = .ok (.iastore, 1) := by decide +kernel
theorem dX12_passes_27 : decode cX12_passes 27 = .ok (.goto 15, 3) := by decide +kernel
theorem dX12_passes_30 : decode cX12_passes 30 = .ok (.aload_n 1, 1) := by decide +kernel
theorem dX12_passes_31 : decode cX12_passes 31 = .ok (.iload_n 2, 1) := by decide +kernel
theorem dX12_passes_32 : decode cX12_passes 32 = .ok (.aload_n 0, 1) := by decide +kernel
theorem dX12_passes_33 : decode cX12_passes 33 = .ok (.getfield 49, 3) := by decide +kernel
theorem dX12_passes_36 : decode cX12_passes 36 = .ok (.aload_n 0, 1) := by decide +kernel
theorem dX12_passes_37 : decode cX12_passes 37 = .ok (.getfield 145, 3) := by decide +kernel
theorem dX12_passes_40 : decode cX12_passes 40 = .ok (.iaload, 1) := by decide +kernel
theorem dX12_passes_41 : decode cX12_passes 41 = .ok (.iastore, 1) := by decide +kernel
theorem dX12_passes_42 : decode cX12_passes 42 = .ok (.aload_n 0, 1) := by decide +kernel
theorem dX12_passes_43 : decode cX12_passes 43 = .ok (.dup, 1) := by decide +kernel
theorem dX12_passes_44 : decode cX12_passes 44 = .ok (.getfield 145, 3) := by decide +kernel
theorem dX12_passes_47 : decode cX12_passes 47 = .ok (.iconst 1, 1) := by decide +kernel
theorem dX12_passes_48 : decode cX12_passes 48 = .ok (.iadd, 1) := by decide +kernel
theorem dX12_passes_49 : decode cX12_passes 49 = .ok (.putfield 145, 3) := by decide +kernel
theorem dX12_passes_52 : decode cX12_passes 52 = .ok (.iinc 2 1, 3) := by decide +kernel
theorem dX12_passes_55 : decode cX12_passes 55 = .ok (.goto (-53), 3) := by decide +kernel
theorem dX12_passes_58 : decode cX12_passes 58 = .ok (.return_, 1) := by decide +kernel
theorem dX12_passOne_0 : decode cX12_passOne 0 = .ok (.aload_n 0, 1) := by decide +kernel
theorem dX12_passOne_1 : decode cX12_passOne 1 = .ok (.getfield 141, 3) := by decide +kernel
theorem dX12_passOne_4 : decode cX12_passOne 4 = .ok (.ifCond .eq 7, 3) := by decide +kernel
theorem dX12_passOne_7 : decode cX12_passOne 7 = .ok (.iload_n 1, 1) := by decide +kernel
theorem dX12_passOne_8 : decode cX12_passOne 8 = .ok (.goto 12, 3) := by decide +kernel
theorem dX12_passOne_11 : decode cX12_passOne 11 = .ok (.aload_n 0, 1) := by decide +kernel
theorem dX12_passOne_12 : decode cX12_passOne 12 = .ok (.getfield 49, 3) := by decide +kernel
theorem dX12_passOne_15 : decode cX12_passOne 15 = .ok (.aload_n 0, 1) := by decide +kernel
theorem dX12_passOne_16 : decode cX12_passOne 16 = .ok (.getfield 145, 3) := by decide +kernel
theorem dX12_passOne_19 : decode cX12_passOne 19 = .ok (.iaload, 1) := by decide +kernel
theorem dX12_passOne_20 : decode cX12_passOne 20 = .ok (.istore_n 2, 1) := by decide +kernel
theorem dX12_passOne_21 : decode cX12_passOne 21 = .ok (.aload_n 0, 1) := by decide +kernel
theorem dX12_passOne_22 : decode cX12_passOne 22 = .ok (.getfield 141, 3) := by decide +kernel
theorem dX12_passOne_25 : decode cX12_passOne 25 = .ok (.ifCond .eq 13, 3) := by decide +kernel
theorem dX12_passOne_28 : decode cX12_passOne 28 = .ok (.aload_n 0, 1) := by decide +kernel
theorem dX12_passOne_29 : decode cX12_passOne 29 = .ok (.getfield 49, 3) := by decide +kernel
theorem dX12_passOne_32 : decode cX12_passOne 32 = .ok (.aload_n 0, 1) := by decide +kernel
theorem dX12_passOne_33 : decode cX12_passOne 33 = .ok (.getfield 145, 3) := by decide +kernel
theorem dX12_passOne_36 : decode cX12_passOne 36 = .ok (.iload_n 1, 1) := by decide +kernel
theorem dX12_passOne_37 : decode cX12_passOne 37 = .ok (.iastore, 1) := by decide +kernel
theorem dX12_passOne_38 : decode cX12_passOne 38 = .ok (.aload_n 0, 1) := by decide +kernel
theorem dX12_passOne_39 : decode cX12_passOne 39 = .ok (.dup, 1) := by decide +kernel
theorem dX12_passOne_40 : decode cX12_passOne 40 = .ok (.getfield 145, 3) := by decide +kernel
theorem dX12_passOne_43 : decode cX12_passOne 43 = .ok (.iconst 1, 1) := by decide +kernel
theorem dX12_passOne_44 : decode cX12_passOne 44 = .ok (.iadd, 1) := by decide +kernel
theorem dX12_passOne_45 : decode cX12_passOne 45 = .ok (.putfield 145, 3) := by decide +kernel
theorem dX12_passOne_48 : decode cX12_passOne 48 = .ok (.iload_n 2, 1) := by decide +kernel
theorem dX12_passOne_49 : decode cX12_passOne 49 = .ok (.ireturn, 1) := by decide +kernel
theorem dX12_passesAll_0 : decode cX12_passesAll 0 = .ok (.aload_n 0, 1) := by decide +kernel
theorem dX12_passesAll_1 : decode cX12_passesAll 1 = .ok (.sipush 160, 3) := by decide +kernel
theorem dX12_passesAll_4 : decode cX12_passesAll 4 = .ok (.iload_n 1, 1) := by decide +kernel
theorem dX12_passesAll_5 : decode cX12_passesAll 5 = .ok (.imul, 1) := by decide +kernel
theorem dX12_passesAll_6 : decode cX12_passesAll 6 = .ok (.putfield 145, 3) := by decide +kernel
theorem dX12_passesAll_9 : decode cX12_passesAll 9 = .ok (.aload_n 0, 1) := by decide +kernel
theorem dX12_passesAll_10 : decode cX12_passesAll 10 = .ok (.iload_n 2, 1) := by decide +kernel
theorem dX12_passesAll_11 : decode cX12_passesAll 11 = .ok (.putfield 141, 3) := by decide +kernel
theorem dX12_passesAll_14 : decode cX12_passesAll 14 = .ok (.aload_n 0, 1) := by decide +kernel
theorem dX12_passesAll_15 : decode cX12_passesAll 15 = .ok (.aload_n 0, 1) := by decide +kernel
theorem dX12_passesAll_16 : decode cX12_passesAll 16 = .ok (.getfield 13, 3) := by decide +kernel
theorem dX12_passesAll_19 : decode cX12_passesAll 19 = .ok (.invokevirtual 148, 3) := by decide +kernel
theorem dX12_passesAll_22 : decode cX12_passesAll 22 = .ok (.aload_n 0, 1) := by decide +kernel
theorem dX12_passesAll_23 : decode cX12_passesAll 23 = .ok (.aload_n 0, 1) := by decide +kernel
theorem dX12_passesAll_24 : decode cX12_passesAll 24 = .ok (.getfield 16, 3) := by decide +kernel
theorem dX12_passesAll_27 : decode cX12_passesAll 27 = .ok (.invokevirtual 148, 3) := by decide +kernel
theorem dX12_passesAll_30 : decode cX12_passesAll 30 = .ok (.aload_n 0, 1) := by decide +kernel
theorem dX12_passesAll_31 : decode cX12_passesAll 31 = .ok (.aload_n 0, 1) := by decide +kernel
theorem dX12_passesAll_32 : decode cX12_passesAll 32 = .ok (.getfield 19, 3) := by decide +kernel
theorem dX12_passesAll_35 : decode cX12_passesAll 35 = .ok (.invokevirtual 148, 3) := by decide +kernel
theorem dX12_passesAll_38 : decode cX12_passesAll 38 = .ok (.aload_n 0, 1) := by decide +kernel
theorem dX12_passesAll_39 : decode cX12_passesAll 39 = .ok (.aload_n 0, 1) := by decide +kernel
theorem dX12_passesAll_40 : decode cX12_passesAll 40 = .ok (.getfield 22, 3) := by decide +kernel
theorem dX12_passesAll_43 : decode cX12_passesAll 43 = .ok (.invokevirtual 148, 3) := by decide +kernel
theorem dX12_passesAll_46 : decode cX12_passesAll 46 = .ok (.aload_n 0, 1) := by decide +kernel
theorem dX12_passesAll_47 : decode cX12_passesAll 47 = .ok (.aload_n 0, 1) := by decide +kernel
theorem dX12_passesAll_48 : decode cX12_passesAll 48 = .ok (.getfield 25, 3) := by decide +kernel
theorem dX12_passesAll_51 : decode cX12_passesAll 51 = .ok (.invokevirtual 148, 3) := by decide +kernel
theorem dX12_passesAll_54 : decode cX12_passesAll 54 = .ok (.aload_n 0, 1) := by decide +kernel
theorem dX12_passesAll_55 : decode cX12_passesAll 55 = .ok (.aload_n 0, 1) := by decide +kernel
theorem dX12_passesAll_56 : decode cX12_passesAll 56 = .ok (.getfield 28, 3) := by decide +kernel
theorem dX12_passesAll_59 : decode cX12_passesAll 59 = .ok (.invokevirtual 148, 3) := by decide +kernel
theorem dX12_passesAll_62 : decode cX12_passesAll 62 = .ok (.aload_n 0, 1) := by decide +kernel
theorem dX12_passesAll_63 : decode cX12_passesAll 63 = .ok (.aload_n 0, 1) := by decide +kernel
theorem dX12_passesAll_64 : decode cX12_passesAll 64 = .ok (.aload_n 0, 1) := by decide +kernel
theorem dX12_passesAll_65 : decode cX12_passesAll 65 = .ok (.getfield 68, 3) := by decide +kernel
theorem dX12_passesAll_68 : decode cX12_passesAll 68 = .ok (.invokevirtual 152, 3) := by decide +kernel
theorem dX12_passesAll_71 : decode cX12_passesAll 71 = .ok (.putfield 68, 3) := by decide +kernel
theorem dX12_passesAll_74 : decode cX12_passesAll 74 = .ok (.aload_n 0, 1) := by decide +kernel
theorem dX12_passesAll_75 : decode cX12_passesAll 75 = .ok (.aload_n 0, 1) := by decide +kernel
theorem dX12_passesAll_76 : decode cX12_passesAll 76 = .ok (.aload_n 0, 1) := by decide +kernel
theorem dX12_passesAll_77 : decode cX12_passesAll 77 = .ok (.getfield 72, 3) := by decide +kernel
theorem dX12_passesAll_80 : decode cX12_passesAll 80 = .ok (.invokevirtual 152, 3) := by decide +kernel
theorem dX12_passesAll_83 : decode cX12_passesAll 83 = .ok (.putfield 72, 3) := by decide +kernel
theorem dX12_passesAll_86 : decode cX12_passesAll 86 = .ok (.return_, 1) := by decide +kernel
theorem dX12_image_0 : decode cX12_image 0 = .ok (.aload_n 0, 1) := by decide +kernel
theorem dX12_image_1 : decode cX12_image 1 = .ok (.iconst 1, 1) := by decide +kernel
theorem dX12_image_2 : decode cX12_image 2 = .ok (.putfield 155, 3) := by decide +kernel
theorem dX12_image_5 : decode cX12_image 5 = .ok (.aload_n 0, 1) := by decide +kernel
theorem dX12_image_6 : decode cX12_image 6 = .ok (.iconst 0, 1) := by decide +kernel
theorem dX12_image_7 : decode cX12_image 7 = .ok (.iconst 1, 1) := by decide +kernel
theorem dX12_image_8 : decode cX12_image 8 = .ok (.invokevirtual 134, 3) := by decide +kernel
theorem dX12_image_11 : decode cX12_image 11 = .ok (.aload_n 0, 1) := by decide +kernel
theorem dX12_image_12 : decode cX12_image 12 = .ok (.getfield 72, 3) := by decide +kernel
theorem dX12_image_15 : decode cX12_image 15 = .ok (.ireturn, 1) := by decide +kernel
theorem dX12_restore_0 : decode cX12_restore 0 = .ok (.aload_n 0, 1) := by decide +kernel
theorem dX12_restore_1 : decode cX12_restore 1 = .ok (.getfield 155, 3) := by decide +kernel
theorem dX12_restore_4 : decode cX12_restore 4 = .ok (.ifCond .ne 10, 3) := by decide +kernel
theorem dX12_restore_7 : decode cX12_restore 7 = .ok (.aload_n 0, 1) := by decide +kernel
theorem dX12_restore_8 : decode cX12_restore 8 = .ok (.bipush (-3), 2) := by decide +kernel
theorem dX12_restore_10 : decode cX12_restore 10 = .ok (.invokevirtual 82, 3) := by decide +kernel
theorem dX12_restore_13 : decode cX12_restore 13 = .ok (.ireturn, 1) := by decide +kernel
theorem dX12_restore_14 : decode cX12_restore 14 = .ok (.aload_n 0, 1) := by decide +kernel
theorem dX12_restore_15 : decode cX12_restore 15 = .ok (.iconst 0, 1) := by decide +kernel
theorem dX12_restore_16 : decode cX12_restore 16 = .ok (.iconst 0, 1) := by decide +kernel
theorem dX12_restore_17 : decode cX12_restore 17 = .ok (.invokevirtual 134, 3) := by decide +kernel
theorem dX12_restore_20 : decode cX12_restore 20 = .ok (.aload_n 0, 1) := by decide +kernel
theorem dX12_restore_21 : decode cX12_restore 21 = .ok (.getfield 72, 3) := by decide +kernel
theorem dX12_restore_24 : decode cX12_restore 24 = .ok (.ireturn, 1) := by decide +kernel
theorem dX12_kindOf_0 : decode cX12_kindOf 0 = .ok (.iload_n 1, 1) := by decide +kernel
theorem dX12_kindOf_1 : decode cX12_kindOf 1 = .ok (.ifCond .ge 7, 3) := by decide +kernel
theorem dX12_kindOf_4 : decode cX12_kindOf 4 = .ok (.iconst 0, 1) := by decide +kernel
theorem dX12_kindOf_5 : decode cX12_kindOf 5 = .ok (.goto 9, 3) := by decide +kernel
theorem dX12_kindOf_8 : decode cX12_kindOf 8 = .ok (.aload_n 0, 1) := by decide +kernel
theorem dX12_kindOf_9 : decode cX12_kindOf 9 = .ok (.getfield 13, 3) := by decide +kernel
theorem dX12_kindOf_12 : decode cX12_kindOf 12 = .ok (.iload_n 1, 1) := by decide +kernel
theorem dX12_kindOf_13 : decode cX12_kindOf 13 = .ok (.iaload, 1) := by decide +kernel
theorem dX12_kindOf_14 : decode cX12_kindOf 14 = .ok (.ireturn, 1) := by decide +kernel
theorem dX12_worldOf_0 : decode cX12_worldOf 0 = .ok (.iload_n 1, 1) := by decide +kernel
theorem dX12_worldOf_1 : decode cX12_worldOf 1 = .ok (.ifCond .ge 7, 3) := by decide +kernel
theorem dX12_worldOf_4 : decode cX12_worldOf 4 = .ok (.iconst 0, 1) := by decide +kernel
theorem dX12_worldOf_5 : decode cX12_worldOf 5 = .ok (.goto 14, 3) := by decide +kernel
theorem dX12_worldOf_8 : decode cX12_worldOf 8 = .ok (.iconst 1, 1) := by decide +kernel
theorem dX12_worldOf_9 : decode cX12_worldOf 9 = .ok (.aload_n 0, 1) := by decide +kernel
theorem dX12_worldOf_10 : decode cX12_worldOf 10 = .ok (.getfield 16, 3) := by decide +kernel
theorem dX12_worldOf_13 : decode cX12_worldOf 13 = .ok (.iload_n 1, 1) := by decide +kernel
theorem dX12_worldOf_14 : decode cX12_worldOf 14 = .ok (.iaload, 1) := by decide +kernel
theorem dX12_worldOf_15 : decode cX12_worldOf 15 = .ok (.bipush 8, 2) := by decide +kernel
theorem dX12_worldOf_17 : decode cX12_worldOf 17 = .ok (.irem, 1) := by decide +kernel
theorem dX12_worldOf_18 : decode cX12_worldOf 18 = .ok (.ishl, 1) := by decide +kernel
theorem dX12_worldOf_19 : decode cX12_worldOf 19 = .ok (.ireturn, 1) := by decide +kernel
theorem dX12_learntBy_0 : decode cX12_learntBy 0 = .ok (.iload_n 1, 1) := by decide +kernel
theorem dX12_learntBy_1 : decode cX12_learntBy 1 = .ok (.ifCond .ge 8, 3) := by decide +kernel
theorem dX12_learntBy_4 : decode cX12_learntBy 4 = .ok (.bipush 15, 2) := by decide +kernel
theorem dX12_learntBy_6 : decode cX12_learntBy 6 = .ok (.goto 9, 3) := by decide +kernel
theorem dX12_learntBy_9 : decode cX12_learntBy 9 = .ok (.aload_n 0, 1) := by decide +kernel
theorem dX12_learntBy_10 : decode cX12_learntBy 10 = .ok (.getfield 19, 3) := by decide +kernel
theorem dX12_learntBy_13 : decode cX12_learntBy 13 = .ok (.iload_n 1, 1) := by decide +kernel
theorem dX12_learntBy_14 : decode cX12_learntBy 14 = .ok (.iaload, 1) := by decide +kernel
theorem dX12_learntBy_15 : decode cX12_learntBy 15 = .ok (.ireturn, 1) := by decide +kernel
theorem dX12_notOf_0 : decode cX12_notOf 0 = .ok (.aload_n 0, 1) := by decide +kernel
theorem dX12_notOf_1 : decode cX12_notOf 1 = .ok (.iload_n 1, 1) := by decide +kernel
theorem dX12_notOf_2 : decode cX12_notOf 2 = .ok (.invokevirtual 158, 3) := by decide +kernel
theorem dX12_notOf_5 : decode cX12_notOf 5 = .ok (.istore_n 3, 1) := by decide +kernel
theorem dX12_notOf_6 : decode cX12_notOf 6 = .ok (.iload_n 3, 1) := by decide +kernel
theorem dX12_notOf_7 : decode cX12_notOf 7 = .ok (.iconst 2, 1) := by decide +kernel
theorem dX12_notOf_8 : decode cX12_notOf 8 = .ok (.if_icmp .ne 7, 3) := by decide +kernel
theorem dX12_notOf_11 : decode cX12_notOf 11 = .ok (.iload_n 2, 1) := by decide +kernel
theorem dX12_notOf_12 : decode cX12_notOf 12 = .ok (.goto 27, 3) := by decide +kernel
theorem dX12_notOf_15 : decode cX12_notOf 15 = .ok (.iload_n 3, 1) := by decide +kernel
theorem dX12_notOf_16 : decode cX12_notOf 16 = .ok (.iconst 5, 1) := by decide +kernel
theorem dX12_notOf_17 : decode cX12_notOf 17 = .ok (.if_icmp .ne 15, 3) := by decide +kernel
theorem dX12_notOf_20 : decode cX12_notOf 20 = .ok (.iload_n 2, 1) := by decide +kernel
theorem dX12_notOf_21 : decode cX12_notOf 21 = .ok (.aload_n 0, 1) := by decide +kernel
theorem dX12_notOf_22 : decode cX12_notOf 22 = .ok (.iload_n 1, 1) := by decide +kernel
theorem dX12_notOf_23 : decode cX12_notOf 23 = .ok (.invokevirtual 161, 3) := by decide +kernel
theorem dX12_notOf_26 : decode cX12_notOf 26 = .ok (.iconst (-1), 1) := by decide +kernel
theorem dX12_notOf_27 : decode cX12_notOf 27 = .ok (.ixor, 1) := by decide +kernel
theorem dX12_notOf_28 : decode cX12_notOf 28 = .ok (.iand, 1) := by decide +kernel
theorem dX12_notOf_29 : decode cX12_notOf 29 = .ok (.goto 10, 3) := by decide +kernel
theorem dX12_notOf_32 : decode cX12_notOf 32 = .ok (.sipush 255, 3) := by decide +kernel
theorem dX12_notOf_35 : decode cX12_notOf 35 = .ok (.iload_n 2, 1) := by decide +kernel
theorem dX12_notOf_36 : decode cX12_notOf 36 = .ok (.iconst (-1), 1) := by decide +kernel
theorem dX12_notOf_37 : decode cX12_notOf 37 = .ok (.ixor, 1) := by decide +kernel
theorem dX12_notOf_38 : decode cX12_notOf 38 = .ok (.iand, 1) := by decide +kernel
theorem dX12_notOf_39 : decode cX12_notOf 39 = .ok (.ireturn, 1) := by decide +kernel
theorem dX12_andOf_0 : decode cX12_andOf 0 = .ok (.aload_n 0, 1) := by decide +kernel
theorem dX12_andOf_1 : decode cX12_andOf 1 = .ok (.iload_n 1, 1) := by decide +kernel
theorem dX12_andOf_2 : decode cX12_andOf 2 = .ok (.invokevirtual 158, 3) := by decide +kernel
theorem dX12_andOf_5 : decode cX12_andOf 5 = .ok (.iconst 3, 1) := by decide +kernel
theorem dX12_andOf_6 : decode cX12_andOf 6 = .ok (.if_icmp .ne 11, 3) := by decide +kernel
theorem dX12_andOf_9 : decode cX12_andOf 9 = .ok (.iload_n 2, 1) := by decide +kernel
theorem dX12_andOf_10 : decode cX12_andOf 10 = .ok (.iload_n 3, 1) := by decide +kernel
theorem dX12_andOf_11 : decode cX12_andOf 11 = .ok (.iconst (-1), 1) := by decide +kernel
theorem dX12_andOf_12 : decode cX12_andOf 12 = .ok (.ixor, 1) := by decide +kernel
theorem dX12_andOf_13 : decode cX12_andOf 13 = .ok (.iand, 1) := by decide +kernel
theorem dX12_andOf_14 : decode cX12_andOf 14 = .ok (.goto 6, 3) := by decide +kernel
theorem dX12_andOf_17 : decode cX12_andOf 17 = .ok (.iload_n 2, 1) := by decide +kernel
theorem dX12_andOf_18 : decode cX12_andOf 18 = .ok (.iload_n 3, 1) := by decide +kernel
theorem dX12_andOf_19 : decode cX12_andOf 19 = .ok (.iand, 1) := by decide +kernel
theorem dX12_andOf_20 : decode cX12_andOf 20 = .ok (.ireturn, 1) := by decide +kernel
theorem dX12_orOf_0 : decode cX12_orOf 0 = .ok (.aload_n 0, 1) := by decide +kernel
theorem dX12_orOf_1 : decode cX12_orOf 1 = .ok (.iload_n 1, 1) := by decide +kernel
theorem dX12_orOf_2 : decode cX12_orOf 2 = .ok (.invokevirtual 158, 3) := by decide +kernel
theorem dX12_orOf_5 : decode cX12_orOf 5 = .ok (.istore 4, 2) := by decide +kernel
theorem dX12_orOf_7 : decode cX12_orOf 7 = .ok (.iload 4, 2) := by decide +kernel
theorem dX12_orOf_9 : decode cX12_orOf 9 = .ok (.iconst 1, 1) := by decide +kernel
theorem dX12_orOf_10 : decode cX12_orOf 10 = .ok (.if_icmp .ne 9, 3) := by decide +kernel
theorem dX12_orOf_13 : decode cX12_orOf 13 = .ok (.iload_n 2, 1) := by decide +kernel
theorem dX12_orOf_14 : decode cX12_orOf 14 = .ok (.iload_n 3, 1) := by decide +kernel
theorem dX12_orOf_15 : decode cX12_orOf 15 = .ok (.ixor, 1) := by decide +kernel
theorem dX12_orOf_16 : decode cX12_orOf 16 = .ok (.goto 24, 3) := by decide +kernel
theorem dX12_orOf_19 : decode cX12_orOf 19 = .ok (.iload 4, 2) := by decide +kernel
theorem dX12_orOf_21 : decode cX12_orOf 21 = .ok (.iconst 4, 1) := by decide +kernel
theorem dX12_orOf_22 : decode cX12_orOf 22 = .ok (.if_icmp .ne 15, 3) := by decide +kernel
theorem dX12_orOf_25 : decode cX12_orOf 25 = .ok (.iload_n 2, 1) := by decide +kernel
theorem dX12_orOf_26 : decode cX12_orOf 26 = .ok (.iload_n 3, 1) := by decide +kernel
theorem dX12_orOf_27 : decode cX12_orOf 27 = .ok (.ixor, 1) := by decide +kernel
theorem dX12_orOf_28 : decode cX12_orOf 28 = .ok (.aload_n 0, 1) := by decide +kernel
theorem dX12_orOf_29 : decode cX12_orOf 29 = .ok (.iload_n 1, 1) := by decide +kernel
theorem dX12_orOf_30 : decode cX12_orOf 30 = .ok (.invokevirtual 161, 3) := by decide +kernel
theorem dX12_orOf_33 : decode cX12_orOf 33 = .ok (.ior, 1) := by decide +kernel
theorem dX12_orOf_34 : decode cX12_orOf 34 = .ok (.goto 6, 3) := by decide +kernel
theorem dX12_orOf_37 : decode cX12_orOf 37 = .ok (.iload_n 2, 1) := by decide +kernel
theorem dX12_orOf_38 : decode cX12_orOf 38 = .ok (.iload_n 3, 1) := by decide +kernel
theorem dX12_orOf_39 : decode cX12_orOf 39 = .ok (.ior, 1) := by decide +kernel
theorem dX12_orOf_40 : decode cX12_orOf 40 = .ok (.ireturn, 1) := by decide +kernel
theorem dX12_nameTo_0 : decode cX12_nameTo 0 = .ok (.aload_n 0, 1) := by decide +kernel
theorem dX12_nameTo_1 : decode cX12_nameTo 1 = .ok (.iload_n 1, 1) := by decide +kernel
theorem dX12_nameTo_2 : decode cX12_nameTo 2 = .ok (.invokevirtual 164, 3) := by decide +kernel
theorem dX12_nameTo_5 : decode cX12_nameTo 5 = .ok (.iload_n 2, 1) := by decide +kernel
theorem dX12_nameTo_6 : decode cX12_nameTo 6 = .ok (.ishr, 1) := by decide +kernel
theorem dX12_nameTo_7 : decode cX12_nameTo 7 = .ok (.iconst 1, 1) := by decide +kernel
theorem dX12_nameTo_8 : decode cX12_nameTo 8 = .ok (.iand, 1) := by decide +kernel
theorem dX12_nameTo_9 : decode cX12_nameTo 9 = .ok (.iconst 1, 1) := by decide +kernel
theorem dX12_nameTo_10 : decode cX12_nameTo 10 = .ok (.if_icmp .ne 21, 3) := by decide +kernel
theorem dX12_nameTo_13 : decode cX12_nameTo 13 = .ok (.aload_n 0, 1) := by decide +kernel
theorem dX12_nameTo_14 : decode cX12_nameTo 14 = .ok (.getfield 22, 3) := by decide +kernel
theorem dX12_nameTo_17 : decode cX12_nameTo 17 = .ok (.iload_n 2, 1) := by decide +kernel
theorem dX12_nameTo_18 : decode cX12_nameTo 18 = .ok (.iaload, 1) := by decide +kernel
theorem dX12_nameTo_19 : decode cX12_nameTo 19 = .ok (.ifCond .lt 12, 3) := by decide +kernel
theorem dX12_nameTo_22 : decode cX12_nameTo 22 = .ok (.aload_n 0, 1) := by decide +kernel
theorem dX12_nameTo_23 : decode cX12_nameTo 23 = .ok (.getfield 22, 3) := by decide +kernel
theorem dX12_nameTo_26 : decode cX12_nameTo 26 = .ok (.iload_n 2, 1) := by decide +kernel
theorem dX12_nameTo_27 : decode cX12_nameTo 27 = .ok (.iaload, 1) := by decide +kernel
theorem dX12_nameTo_28 : decode cX12_nameTo 28 = .ok (.goto 4, 3) := by decide +kernel
theorem dX12_nameTo_31 : decode cX12_nameTo 31 = .ok (.iconst 0, 1) := by decide +kernel
theorem dX12_nameTo_32 : decode cX12_nameTo 32 = .ok (.ireturn, 1) := by decide +kernel
theorem dX12_factOrName_0 : decode cX12_factOrName 0 = .ok (.iload_n 2, 1) := by decide +kernel
theorem dX12_factOrName_1 : decode cX12_factOrName 1 = .ok (.ifCond .ne 9, 3) := by decide +kernel
theorem dX12_factOrName_4 : decode cX12_factOrName 4 = .ok (.sipush 170, 3) := by decide +kernel
theorem dX12_factOrName_7 : decode cX12_factOrName 7 = .ok (.goto 33, 3) := by decide +kernel
theorem dX12_factOrName_10 : decode cX12_factOrName 10 = .ok (.iload_n 2, 1) := by decide +kernel
theorem dX12_factOrName_11 : decode cX12_factOrName 11 = .ok (.iconst 1, 1) := by decide +kernel
theorem dX12_factOrName_12 : decode cX12_factOrName 12 = .ok (.if_icmp .ne 9, 3) := by decide +kernel
theorem dX12_factOrName_15 : decode cX12_factOrName 15 = .ok (.sipush 204, 3) := by decide +kernel
theorem dX12_factOrName_18 : decode cX12_factOrName 18 = .ok (.goto 22, 3) := by decide +kernel
theorem dX12_factOrName_21 : decode cX12_factOrName 21 = .ok (.iload_n 2, 1) := by decide +kernel
theorem dX12_factOrName_22 : decode cX12_factOrName 22 = .ok (.iconst 2, 1) := by decide +kernel
theorem dX12_factOrName_23 : decode cX12_factOrName 23 = .ok (.if_icmp .ne 9, 3) := by decide +kernel
theorem dX12_factOrName_26 : decode cX12_factOrName 26 = .ok (.sipush 240, 3) := by decide +kernel
theorem dX12_factOrName_29 : decode cX12_factOrName 29 = .ok (.goto 11, 3) := by decide +kernel
theorem dX12_factOrName_32 : decode cX12_factOrName 32 = .ok (.aload_n 0, 1) := by decide +kernel
theorem dX12_factOrName_33 : decode cX12_factOrName 33 = .ok (.iload_n 1, 1) := by decide +kernel
theorem dX12_factOrName_34 : decode cX12_factOrName 34 = .ok (.iload_n 2, 1) := by decide +kernel
theorem dX12_factOrName_35 : decode cX12_factOrName 35 = .ok (.iconst 3, 1) := by decide +kernel
theorem dX12_factOrName_36 : decode cX12_factOrName 36 = .ok (.isub, 1) := by decide +kernel
theorem dX12_factOrName_37 : decode cX12_factOrName 37 = .ok (.invokevirtual 167, 3) := by decide +kernel
theorem dX12_factOrName_40 : decode cX12_factOrName 40 = .ok (.ireturn, 1) := by decide +kernel
theorem dX12_concluded_0 : decode cX12_concluded 0 = .ok (.iconst 0, 1) := by decide +kernel
theorem dX12_concluded_1 : decode cX12_concluded 1 = .ok (.istore_n 2, 1) := by decide +kernel
theorem dX12_concluded_2 : decode cX12_concluded 2 = .ok (.aload_n 0, 1) := by decide +kernel
theorem dX12_concluded_3 : decode cX12_concluded 3 = .ok (.getfield 118, 3) := by decide +kernel
theorem dX12_concluded_6 : decode cX12_concluded 6 = .ok (.iconst 1, 1) := by decide +kernel
theorem dX12_concluded_7 : decode cX12_concluded 7 = .ok (.isub, 1) := by decide +kernel
theorem dX12_concluded_8 : decode cX12_concluded 8 = .ok (.istore_n 3, 1) := by decide +kernel
theorem dX12_concluded_9 : decode cX12_concluded 9 = .ok (.iload_n 3, 1) := by decide +kernel
theorem dX12_concluded_10 : decode cX12_concluded 10 = .ok (.ifCond .lt 137, 3) := by decide +kernel
theorem dX12_concluded_13 : decode cX12_concluded 13 = .ok (.aload_n 0, 1) := by decide +kernel
theorem dX12_concluded_14 : decode cX12_concluded 14 = .ok (.getfield 52, 3) := by decide +kernel
theorem dX12_concluded_17 : decode cX12_concluded 17 = .ok (.iload_n 3, 1) := by decide +kernel
theorem dX12_concluded_18 : decode cX12_concluded 18 = .ok (.iaload, 1) := by decide +kernel
theorem dX12_concluded_19 : decode cX12_concluded 19 = .ok (.istore 4, 2) := by decide +kernel
theorem dX12_concluded_21 : decode cX12_concluded 21 = .ok (.iload 4, 2) := by decide +kernel
theorem dX12_concluded_23 : decode cX12_concluded 23 = .ok (.bipush 7, 2) := by decide +kernel
theorem dX12_concluded_25 : decode cX12_concluded 25 = .ok (.if_icmp .ge 22, 3) := by decide +kernel
theorem dX12_concluded_28 : decode cX12_concluded 28 = .ok (.aload_n 0, 1) := by decide +kernel
theorem dX12_concluded_29 : decode cX12_concluded 29 = .ok (.getfield 55, 3) := by decide +kernel
theorem dX12_concluded_32 : decode cX12_concluded 32 = .ok (.iload_n 2, 1) := by decide +kernel
theorem dX12_concluded_33 : decode cX12_concluded 33 = .ok (.aload_n 0, 1) := by decide +kernel
theorem dX12_concluded_34 : decode cX12_concluded 34 = .ok (.iload_n 1, 1) := by decide +kernel
theorem dX12_concluded_35 : decode cX12_concluded 35 = .ok (.iload 4, 2) := by decide +kernel
theorem dX12_concluded_37 : decode cX12_concluded 37 = .ok (.invokevirtual 171, 3) := by decide +kernel
theorem dX12_concluded_40 : decode cX12_concluded 40 = .ok (.iastore, 1) := by decide +kernel
theorem dX12_concluded_41 : decode cX12_concluded 41 = .ok (.iinc 2 1, 3) := by decide +kernel
theorem dX12_concluded_44 : decode cX12_concluded 44 = .ok (.goto 97, 3) := by decide +kernel
theorem dX12_concluded_47 : decode cX12_concluded 47 = .ok (.iload 4, 2) := by decide +kernel
theorem dX12_concluded_49 : decode cX12_concluded 49 = .ok (.bipush 7, 2) := by decide +kernel
theorem dX12_concluded_51 : decode cX12_concluded 51 = .ok (.if_icmp .ne 27, 3) := by decide +kernel
theorem dX12_concluded_54 : decode cX12_concluded 54 = .ok (.aload_n 0, 1) := by decide +kernel
theorem dX12_concluded_55 : decode cX12_concluded 55 = .ok (.getfield 55, 3) := by decide +kernel
theorem dX12_concluded_58 : decode cX12_concluded 58 = .ok (.iload_n 2, 1) := by decide +kernel
theorem dX12_concluded_59 : decode cX12_concluded 59 = .ok (.iconst 1, 1) := by decide +kernel
theorem dX12_concluded_60 : decode cX12_concluded 60 = .ok (.isub, 1) := by decide +kernel
theorem dX12_concluded_61 : decode cX12_concluded 61 = .ok (.aload_n 0, 1) := by decide +kernel
theorem dX12_concluded_62 : decode cX12_concluded 62 = .ok (.iload_n 1, 1) := by decide +kernel
theorem dX12_concluded_63 : decode cX12_concluded 63 = .ok (.aload_n 0, 1) := by decide +kernel
theorem dX12_concluded_64 : decode cX12_concluded 64 = .ok (.getfield 55, 3) := by decide +kernel
theorem dX12_concluded_67 : decode cX12_concluded 67 = .ok (.iload_n 2, 1) := by decide +kernel
theorem dX12_concluded_68 : decode cX12_concluded 68 = .ok (.iconst 1, 1) := by decide +kernel
theorem dX12_concluded_69 : decode cX12_concluded 69 = .ok (.isub, 1) := by decide +kernel
theorem dX12_concluded_70 : decode cX12_concluded 70 = .ok (.iaload, 1) := by decide +kernel
theorem dX12_concluded_71 : decode cX12_concluded 71 = .ok (.invokevirtual 174, 3) := by decide +kernel
theorem dX12_concluded_74 : decode cX12_concluded 74 = .ok (.iastore, 1) := by decide +kernel
theorem dX12_concluded_75 : decode cX12_concluded 75 = .ok (.goto 66, 3) := by decide +kernel
theorem dX12_concluded_78 : decode cX12_concluded 78 = .ok (.aload_n 0, 1) := by decide +kernel
theorem dX12_concluded_79 : decode cX12_concluded 79 = .ok (.getfield 55, 3) := by decide +kernel
theorem dX12_concluded_82 : decode cX12_concluded 82 = .ok (.iload_n 2, 1) := by decide +kernel
theorem dX12_concluded_83 : decode cX12_concluded 83 = .ok (.iconst 2, 1) := by decide +kernel
theorem dX12_concluded_84 : decode cX12_concluded 84 = .ok (.isub, 1) := by decide +kernel
theorem dX12_concluded_85 : decode cX12_concluded 85 = .ok (.iload 4, 2) := by decide +kernel
theorem dX12_concluded_87 : decode cX12_concluded 87 = .ok (.bipush 8, 2) := by decide +kernel
theorem dX12_concluded_89 : decode cX12_concluded 89 = .ok (.if_icmp .ne 27, 3) := by decide +kernel
theorem dX12_concluded_92 : decode cX12_concluded 92 = .ok (.aload_n 0, 1) := by decide +kernel
theorem dX12_concluded_93 : decode cX12_concluded 93 = .ok (.iload_n 1, 1) := by decide +kernel
theorem dX12_concluded_94 : decode cX12_concluded 94 = .ok (.aload_n 0, 1) := by decide +kernel
theorem dX12_concluded_95 : decode cX12_concluded 95 = .ok (.getfield 55, 3) := by decide +kernel
theorem dX12_concluded_98 : decode cX12_concluded 98 = .ok (.iload_n 2, 1) := by decide +kernel
theorem dX12_concluded_99 : decode cX12_concluded 99 = .ok (.iconst 1, 1) := by decide +kernel
theorem dX12_concluded_100 : decode cX12_concluded 100 = .ok (.isub, 1) := by decide +kernel
theorem dX12_concluded_101 : decode cX12_concluded 101 = .ok (.iaload, 1) := by decide +kernel
theorem dX12_concluded_102 : decode cX12_concluded 102 = .ok (.aload_n 0, 1) := by decide +kernel
theorem dX12_concluded_103 : decode cX12_concluded 103 = .ok (.getfield 55, 3) := by decide +kernel
theorem dX12_concluded_106 : decode cX12_concluded 106 = .ok (.iload_n 2, 1) := by decide +kernel
theorem dX12_concluded_107 : decode cX12_concluded 107 = .ok (.iconst 2, 1) := by decide +kernel
theorem dX12_concluded_108 : decode cX12_concluded 108 = .ok (.isub, 1) := by decide +kernel
theorem dX12_concluded_109 : decode cX12_concluded 109 = .ok (.iaload, 1) := by decide +kernel
theorem dX12_concluded_110 : decode cX12_concluded 110 = .ok (.invokevirtual 177, 3) := by decide +kernel
theorem dX12_concluded_113 : decode cX12_concluded 113 = .ok (.goto 24, 3) := by decide +kernel
theorem dX12_concluded_116 : decode cX12_concluded 116 = .ok (.aload_n 0, 1) := by decide +kernel
theorem dX12_concluded_117 : decode cX12_concluded 117 = .ok (.iload_n 1, 1) := by decide +kernel
theorem dX12_concluded_118 : decode cX12_concluded 118 = .ok (.aload_n 0, 1) := by decide +kernel
theorem dX12_concluded_119 : decode cX12_concluded 119 = .ok (.getfield 55, 3) := by decide +kernel
theorem dX12_concluded_122 : decode cX12_concluded 122 = .ok (.iload_n 2, 1) := by decide +kernel
theorem dX12_concluded_123 : decode cX12_concluded 123 = .ok (.iconst 1, 1) := by decide +kernel
theorem dX12_concluded_124 : decode cX12_concluded 124 = .ok (.isub, 1) := by decide +kernel
theorem dX12_concluded_125 : decode cX12_concluded 125 = .ok (.iaload, 1) := by decide +kernel
theorem dX12_concluded_126 : decode cX12_concluded 126 = .ok (.aload_n 0, 1) := by decide +kernel
theorem dX12_concluded_127 : decode cX12_concluded 127 = .ok (.getfield 55, 3) := by decide +kernel
theorem dX12_concluded_130 : decode cX12_concluded 130 = .ok (.iload_n 2, 1) := by decide +kernel
theorem dX12_concluded_131 : decode cX12_concluded 131 = .ok (.iconst 2, 1) := by decide +kernel
theorem dX12_concluded_132 : decode cX12_concluded 132 = .ok (.isub, 1) := by decide +kernel
theorem dX12_concluded_133 : decode cX12_concluded 133 = .ok (.iaload, 1) := by decide +kernel
theorem dX12_concluded_134 : decode cX12_concluded 134 = .ok (.invokevirtual 180, 3) := by decide +kernel
theorem dX12_concluded_137 : decode cX12_concluded 137 = .ok (.iastore, 1) := by decide +kernel
theorem dX12_concluded_138 : decode cX12_concluded 138 = .ok (.iinc 2 (-1), 3) := by decide +kernel
theorem dX12_concluded_141 : decode cX12_concluded 141 = .ok (.iinc 3 (-1), 3) := by decide +kernel
theorem dX12_concluded_144 : decode cX12_concluded 144 = .ok (.goto (-135), 3) := by decide +kernel
theorem dX12_concluded_147 : decode cX12_concluded 147 = .ok (.aload_n 0, 1) := by decide +kernel
theorem dX12_concluded_148 : decode cX12_concluded 148 = .ok (.getfield 55, 3) := by decide +kernel
theorem dX12_concluded_151 : decode cX12_concluded 151 = .ok (.iconst 0, 1) := by decide +kernel
theorem dX12_concluded_152 : decode cX12_concluded 152 = .ok (.iaload, 1) := by decide +kernel
theorem dX12_concluded_153 : decode cX12_concluded 153 = .ok (.ireturn, 1) := by decide +kernel
theorem dX12_laysSaying_0 : decode cX12_laysSaying 0 = .ok (.aload_n 0, 1) := by decide +kernel
theorem dX12_laysSaying_1 : decode cX12_laysSaying 1 = .ok (.aload_n 0, 1) := by decide +kernel
theorem dX12_laysSaying_2 : decode cX12_laysSaying 2 = .ok (.getfield 25, 3) := by decide +kernel
theorem dX12_laysSaying_5 : decode cX12_laysSaying 5 = .ok (.iload_n 1, 1) := by decide +kernel
theorem dX12_laysSaying_6 : decode cX12_laysSaying 6 = .ok (.iaload, 1) := by decide +kernel
theorem dX12_laysSaying_7 : decode cX12_laysSaying 7 = .ok (.putfield 118, 3) := by decide +kernel
theorem dX12_laysSaying_10 : decode cX12_laysSaying 10 = .ok (.iconst 0, 1) := by decide +kernel
theorem dX12_laysSaying_11 : decode cX12_laysSaying 11 = .ok (.istore_n 2, 1) := by decide +kernel
theorem dX12_laysSaying_12 : decode cX12_laysSaying 12 = .ok (.iload_n 2, 1) := by decide +kernel
theorem dX12_laysSaying_13 : decode cX12_laysSaying 13 = .ok (.aload_n 0, 1) := by decide +kernel
theorem dX12_laysSaying_14 : decode cX12_laysSaying 14 = .ok (.getfield 118, 3) := by decide +kernel
theorem dX12_laysSaying_17 : decode cX12_laysSaying 17 = .ok (.if_icmp .ge 26, 3) := by decide +kernel
theorem dX12_laysSaying_20 : decode cX12_laysSaying 20 = .ok (.aload_n 0, 1) := by decide +kernel
theorem dX12_laysSaying_21 : decode cX12_laysSaying 21 = .ok (.getfield 52, 3) := by decide +kernel
theorem dX12_laysSaying_24 : decode cX12_laysSaying 24 = .ok (.iload_n 2, 1) := by decide +kernel
theorem dX12_laysSaying_25 : decode cX12_laysSaying 25 = .ok (.aload_n 0, 1) := by decide +kernel
theorem dX12_laysSaying_26 : decode cX12_laysSaying 26 = .ok (.getfield 28, 3) := by decide +kernel
theorem dX12_laysSaying_29 : decode cX12_laysSaying 29 = .ok (.bipush 20, 2) := by decide +kernel
theorem dX12_laysSaying_31 : decode cX12_laysSaying 31 = .ok (.iload_n 1, 1) := by decide +kernel
theorem dX12_laysSaying_32 : decode cX12_laysSaying 32 = .ok (.imul, 1) := by decide +kernel
theorem dX12_laysSaying_33 : decode cX12_laysSaying 33 = .ok (.iload_n 2, 1) := by decide +kernel
theorem dX12_laysSaying_34 : decode cX12_laysSaying 34 = .ok (.iadd, 1) := by decide +kernel
theorem dX12_laysSaying_35 : decode cX12_laysSaying 35 = .ok (.iaload, 1) := by decide +kernel
theorem dX12_laysSaying_36 : decode cX12_laysSaying 36 = .ok (.iastore, 1) := by decide +kernel
theorem dX12_laysSaying_37 : decode cX12_laysSaying 37 = .ok (.iinc 2 1, 3) := by decide +kernel
theorem dX12_laysSaying_40 : decode cX12_laysSaying 40 = .ok (.goto (-28), 3) := by decide +kernel
theorem dX12_laysSaying_43 : decode cX12_laysSaying 43 = .ok (.return_, 1) := by decide +kernel
theorem dX12_concludedFrom_0 : decode cX12_concludedFrom 0 = .ok (.aload_n 0, 1) := by decide +kernel
theorem dX12_concludedFrom_1 : decode cX12_concludedFrom 1 = .ok (.iload_n 2, 1) := by decide +kernel
theorem dX12_concludedFrom_2 : decode cX12_concludedFrom 2 = .ok (.invokevirtual 183, 3) := by decide +kernel
theorem dX12_concludedFrom_5 : decode cX12_concludedFrom 5 = .ok (.aload_n 0, 1) := by decide +kernel
theorem dX12_concludedFrom_6 : decode cX12_concludedFrom 6 = .ok (.iload_n 1, 1) := by decide +kernel
theorem dX12_concludedFrom_7 : decode cX12_concludedFrom 7 = .ok (.invokevirtual 125, 3) := by decide +kernel
theorem dX12_concludedFrom_10 : decode cX12_concludedFrom 10 = .ok (.ireturn, 1) := by decide +kernel
theorem dX12_stranger_0 : decode cX12_stranger 0 = .ok (.aload_n 0, 1) := by decide +kernel
theorem dX12_stranger_1 : decode cX12_stranger 1 = .ok (.iload_n 1, 1) := by decide +kernel
theorem dX12_stranger_2 : decode cX12_stranger 2 = .ok (.invokevirtual 128, 3) := by decide +kernel
theorem dX12_stranger_5 : decode cX12_stranger 5 = .ok (.ifCond .ne 9, 3) := by decide +kernel
theorem dX12_stranger_8 : decode cX12_stranger 8 = .ok (.aload_n 0, 1) := by decide +kernel
theorem dX12_stranger_9 : decode cX12_stranger 9 = .ok (.iconst (-1), 1) := by decide +kernel
theorem dX12_stranger_10 : decode cX12_stranger 10 = .ok (.invokevirtual 82, 3) := by decide +kernel
theorem dX12_stranger_13 : decode cX12_stranger 13 = .ok (.ireturn, 1) := by decide +kernel
theorem dX12_stranger_14 : decode cX12_stranger 14 = .ok (.iload_n 2, 1) := by decide +kernel
theorem dX12_stranger_15 : decode cX12_stranger 15 = .ok (.tableswitch 46 0 2 #[25, 32, 39], 25) := by decide +kernel
theorem dX12_stranger_40 : decode cX12_stranger 40 = .ok (.aload_n 0, 1) := by decide +kernel
theorem dX12_stranger_41 : decode cX12_stranger 41 = .ok (.getfield 13, 3) := by decide +kernel
theorem dX12_stranger_44 : decode cX12_stranger 44 = .ok (.iload_n 1, 1) := by decide +kernel
theorem dX12_stranger_45 : decode cX12_stranger 45 = .ok (.iaload, 1) := by decide +kernel
theorem dX12_stranger_46 : decode cX12_stranger 46 = .ok (.ireturn, 1) := by decide +kernel
theorem dX12_stranger_47 : decode cX12_stranger 47 = .ok (.aload_n 0, 1) := by decide +kernel
theorem dX12_stranger_48 : decode cX12_stranger 48 = .ok (.getfield 16, 3) := by decide +kernel
theorem dX12_stranger_51 : decode cX12_stranger 51 = .ok (.iload_n 1, 1) := by decide +kernel
theorem dX12_stranger_52 : decode cX12_stranger 52 = .ok (.iaload, 1) := by decide +kernel
theorem dX12_stranger_53 : decode cX12_stranger 53 = .ok (.ireturn, 1) := by decide +kernel
theorem dX12_stranger_54 : decode cX12_stranger 54 = .ok (.aload_n 0, 1) := by decide +kernel
theorem dX12_stranger_55 : decode cX12_stranger 55 = .ok (.getfield 19, 3) := by decide +kernel
theorem dX12_stranger_58 : decode cX12_stranger 58 = .ok (.iload_n 1, 1) := by decide +kernel
theorem dX12_stranger_59 : decode cX12_stranger 59 = .ok (.iaload, 1) := by decide +kernel
theorem dX12_stranger_60 : decode cX12_stranger 60 = .ok (.ireturn, 1) := by decide +kernel
theorem dX12_stranger_61 : decode cX12_stranger 61 = .ok (.aload_n 0, 1) := by decide +kernel
theorem dX12_stranger_62 : decode cX12_stranger 62 = .ok (.bipush (-2), 2) := by decide +kernel
theorem dX12_stranger_64 : decode cX12_stranger 64 = .ok (.invokevirtual 82, 3) := by decide +kernel
theorem dX12_stranger_67 : decode cX12_stranger 67 = .ok (.ireturn, 1) := by decide +kernel
theorem dX12_learn_0 : decode cX12_learn 0 = .ok (.aload_n 0, 1) := by decide +kernel
theorem dX12_learn_1 : decode cX12_learn 1 = .ok (.iload_n 1, 1) := by decide +kernel
theorem dX12_learn_2 : decode cX12_learn 2 = .ok (.invokevirtual 128, 3) := by decide +kernel
theorem dX12_learn_5 : decode cX12_learn 5 = .ok (.ifCond .eq 10, 3) := by decide +kernel
theorem dX12_learn_8 : decode cX12_learn 8 = .ok (.iload_n 2, 1) := by decide +kernel
theorem dX12_learn_9 : decode cX12_learn 9 = .ok (.invokestatic 186, 3) := by decide +kernel
theorem dX12_learn_12 : decode cX12_learn 12 = .ok (.ifCond .ne 9, 3) := by decide +kernel
theorem dX12_learn_15 : decode cX12_learn 15 = .ok (.aload_n 0, 1) := by decide +kernel
theorem dX12_learn_16 : decode cX12_learn 16 = .ok (.iconst (-1), 1) := by decide +kernel
theorem dX12_learn_17 : decode cX12_learn 17 = .ok (.invokevirtual 82, 3) := by decide +kernel
theorem dX12_learn_20 : decode cX12_learn 20 = .ok (.ireturn, 1) := by decide +kernel
theorem dX12_learn_21 : decode cX12_learn 21 = .ok (.iload_n 3, 1) := by decide +kernel
theorem dX12_learn_22 : decode cX12_learn 22 = .ok (.iconst 0, 1) := by decide +kernel
theorem dX12_learn_23 : decode cX12_learn 23 = .ok (.iconst 1, 1) := by decide +kernel
theorem dX12_learn_24 : decode cX12_learn 24 = .ok (.invokestatic 89, 3) := by decide +kernel
theorem dX12_learn_27 : decode cX12_learn 27 = .ok (.ifCond .ne 10, 3) := by decide +kernel
theorem dX12_learn_30 : decode cX12_learn 30 = .ok (.aload_n 0, 1) := by decide +kernel
theorem dX12_learn_31 : decode cX12_learn 31 = .ok (.bipush (-2), 2) := by decide +kernel
theorem dX12_learn_33 : decode cX12_learn 33 = .ok (.invokevirtual 82, 3) := by decide +kernel
theorem dX12_learn_36 : decode cX12_learn 36 = .ok (.ireturn, 1) := by decide +kernel
theorem dX12_learn_37 : decode cX12_learn 37 = .ok (.aload_n 0, 1) := by decide +kernel
theorem dX12_learn_38 : decode cX12_learn 38 = .ok (.getfield 19, 3) := by decide +kernel
theorem dX12_learn_41 : decode cX12_learn 41 = .ok (.iload_n 1, 1) := by decide +kernel
theorem dX12_learn_42 : decode cX12_learn 42 = .ok (.iaload, 1) := by decide +kernel
theorem dX12_learn_43 : decode cX12_learn 43 = .ok (.iload_n 2, 1) := by decide +kernel
theorem dX12_learn_44 : decode cX12_learn 44 = .ok (.ishr, 1) := by decide +kernel
theorem dX12_learn_45 : decode cX12_learn 45 = .ok (.iconst 1, 1) := by decide +kernel
theorem dX12_learn_46 : decode cX12_learn 46 = .ok (.iand, 1) := by decide +kernel
theorem dX12_learn_47 : decode cX12_learn 47 = .ok (.istore 4, 2) := by decide +kernel
theorem dX12_learn_49 : decode cX12_learn 49 = .ok (.aload_n 0, 1) := by decide +kernel
theorem dX12_learn_50 : decode cX12_learn 50 = .ok (.getfield 19, 3) := by decide +kernel
theorem dX12_learn_53 : decode cX12_learn 53 = .ok (.iload_n 1, 1) := by decide +kernel
theorem dX12_learn_54 : decode cX12_learn 54 = .ok (.aload_n 0, 1) := by decide +kernel
theorem dX12_learn_55 : decode cX12_learn 55 = .ok (.getfield 19, 3) := by decide +kernel
theorem dX12_learn_58 : decode cX12_learn 58 = .ok (.iload_n 1, 1) := by decide +kernel
theorem dX12_learn_59 : decode cX12_learn 59 = .ok (.iaload, 1) := by decide +kernel
theorem dX12_learn_60 : decode cX12_learn 60 = .ok (.iconst 1, 1) := by decide +kernel
theorem dX12_learn_61 : decode cX12_learn 61 = .ok (.iload_n 2, 1) := by decide +kernel
theorem dX12_learn_62 : decode cX12_learn 62 = .ok (.ishl, 1) := by decide +kernel
theorem dX12_learn_63 : decode cX12_learn 63 = .ok (.iconst (-1), 1) := by decide +kernel
theorem dX12_learn_64 : decode cX12_learn 64 = .ok (.ixor, 1) := by decide +kernel
theorem dX12_learn_65 : decode cX12_learn 65 = .ok (.iand, 1) := by decide +kernel
theorem dX12_learn_66 : decode cX12_learn 66 = .ok (.iload_n 3, 1) := by decide +kernel
theorem dX12_learn_67 : decode cX12_learn 67 = .ok (.iload_n 2, 1) := by decide +kernel
theorem dX12_learn_68 : decode cX12_learn 68 = .ok (.ishl, 1) := by decide +kernel
theorem dX12_learn_69 : decode cX12_learn 69 = .ok (.ior, 1) := by decide +kernel
theorem dX12_learn_70 : decode cX12_learn 70 = .ok (.iastore, 1) := by decide +kernel
theorem dX12_learn_71 : decode cX12_learn 71 = .ok (.iload 4, 2) := by decide +kernel
theorem dX12_learn_73 : decode cX12_learn 73 = .ok (.ireturn, 1) := by decide +kernel
theorem dX12_name_0 : decode cX12_name 0 = .ok (.iload_n 1, 1) := by decide +kernel
theorem dX12_name_1 : decode cX12_name 1 = .ok (.invokestatic 186, 3) := by decide +kernel
theorem dX12_name_4 : decode cX12_name 4 = .ok (.ifCond .eq 12, 3) := by decide +kernel
theorem dX12_name_7 : decode cX12_name 7 = .ok (.aload_n 0, 1) := by decide +kernel
theorem dX12_name_8 : decode cX12_name 8 = .ok (.getfield 22, 3) := by decide +kernel
theorem dX12_name_11 : decode cX12_name 11 = .ok (.iload_n 1, 1) := by decide +kernel
theorem dX12_name_12 : decode cX12_name 12 = .ok (.iaload, 1) := by decide +kernel
theorem dX12_name_13 : decode cX12_name 13 = .ok (.goto 8, 3) := by decide +kernel
theorem dX12_name_16 : decode cX12_name 16 = .ok (.aload_n 0, 1) := by decide +kernel
theorem dX12_name_17 : decode cX12_name 17 = .ok (.iconst (-1), 1) := by decide +kernel
theorem dX12_name_18 : decode cX12_name 18 = .ok (.invokevirtual 82, 3) := by decide +kernel
theorem dX12_name_21 : decode cX12_name 21 = .ok (.ireturn, 1) := by decide +kernel
theorem dX12_coin_0 : decode cX12_coin 0 = .ok (.iload_n 1, 1) := by decide +kernel
theorem dX12_coin_1 : decode cX12_coin 1 = .ok (.invokestatic 186, 3) := by decide +kernel
theorem dX12_coin_4 : decode cX12_coin 4 = .ok (.ifCond .ne 7, 3) := by decide +kernel
theorem dX12_coin_7 : decode cX12_coin 7 = .ok (.iconst (-1), 1) := by decide +kernel
theorem dX12_coin_8 : decode cX12_coin 8 = .ok (.goto 11, 3) := by decide +kernel
theorem dX12_coin_11 : decode cX12_coin 11 = .ok (.iload_n 2, 1) := by decide +kernel
theorem dX12_coin_12 : decode cX12_coin 12 = .ok (.iconst (-1), 1) := by decide +kernel
theorem dX12_coin_13 : decode cX12_coin 13 = .ok (.sipush 255, 3) := by decide +kernel
theorem dX12_coin_16 : decode cX12_coin 16 = .ok (.invokestatic 75, 3) := by decide +kernel
theorem dX12_coin_19 : decode cX12_coin 19 = .ok (.istore_n 3, 1) := by decide +kernel
theorem dX12_coin_20 : decode cX12_coin 20 = .ok (.iload_n 3, 1) := by decide +kernel
theorem dX12_coin_21 : decode cX12_coin 21 = .ok (.ifCond .eq 9, 3) := by decide +kernel
theorem dX12_coin_24 : decode cX12_coin 24 = .ok (.aload_n 0, 1) := by decide +kernel
theorem dX12_coin_25 : decode cX12_coin 25 = .ok (.iload_n 3, 1) := by decide +kernel
theorem dX12_coin_26 : decode cX12_coin 26 = .ok (.invokevirtual 82, 3) := by decide +kernel
theorem dX12_coin_29 : decode cX12_coin 29 = .ok (.ireturn, 1) := by decide +kernel
theorem dX12_coin_30 : decode cX12_coin 30 = .ok (.aload_n 0, 1) := by decide +kernel
theorem dX12_coin_31 : decode cX12_coin 31 = .ok (.getfield 22, 3) := by decide +kernel
theorem dX12_coin_34 : decode cX12_coin 34 = .ok (.iload_n 1, 1) := by decide +kernel
theorem dX12_coin_35 : decode cX12_coin 35 = .ok (.iaload, 1) := by decide +kernel
theorem dX12_coin_36 : decode cX12_coin 36 = .ok (.istore 4, 2) := by decide +kernel
theorem dX12_coin_38 : decode cX12_coin 38 = .ok (.aload_n 0, 1) := by decide +kernel
theorem dX12_coin_39 : decode cX12_coin 39 = .ok (.getfield 22, 3) := by decide +kernel
theorem dX12_coin_42 : decode cX12_coin 42 = .ok (.iload_n 1, 1) := by decide +kernel
theorem dX12_coin_43 : decode cX12_coin 43 = .ok (.iload_n 2, 1) := by decide +kernel
theorem dX12_coin_44 : decode cX12_coin 44 = .ok (.ifCond .ge 8, 3) := by decide +kernel
theorem dX12_coin_47 : decode cX12_coin 47 = .ok (.bipush (-9), 2) := by decide +kernel
theorem dX12_coin_49 : decode cX12_coin 49 = .ok (.goto 4, 3) := by decide +kernel
theorem dX12_coin_52 : decode cX12_coin 52 = .ok (.iload_n 2, 1) := by decide +kernel
theorem dX12_coin_53 : decode cX12_coin 53 = .ok (.iastore, 1) := by decide +kernel
theorem dX12_coin_54 : decode cX12_coin 54 = .ok (.iload 4, 2) := by decide +kernel
theorem dX12_coin_56 : decode cX12_coin 56 = .ok (.ireturn, 1) := by decide +kernel
theorem dX12_saying_0 : decode cX12_saying 0 = .ok (.aload_n 0, 1) := by decide +kernel
theorem dX12_saying_1 : decode cX12_saying 1 = .ok (.iload_n 1, 1) := by decide +kernel
theorem dX12_saying_2 : decode cX12_saying 2 = .ok (.invokevirtual 189, 3) := by decide +kernel
theorem dX12_saying_5 : decode cX12_saying 5 = .ok (.ifCond .ne 9, 3) := by decide +kernel
theorem dX12_saying_8 : decode cX12_saying 8 = .ok (.aload_n 0, 1) := by decide +kernel
theorem dX12_saying_9 : decode cX12_saying 9 = .ok (.iconst (-1), 1) := by decide +kernel
theorem dX12_saying_10 : decode cX12_saying 10 = .ok (.invokevirtual 82, 3) := by decide +kernel
theorem dX12_saying_13 : decode cX12_saying 13 = .ok (.ireturn, 1) := by decide +kernel
theorem dX12_saying_14 : decode cX12_saying 14 = .ok (.iload_n 2, 1) := by decide +kernel
theorem dX12_saying_15 : decode cX12_saying 15 = .ok (.iconst (-1), 1) := by decide +kernel
theorem dX12_saying_16 : decode cX12_saying 16 = .ok (.if_icmp .ge 10, 3) := by decide +kernel
theorem dX12_saying_19 : decode cX12_saying 19 = .ok (.aload_n 0, 1) := by decide +kernel
theorem dX12_saying_20 : decode cX12_saying 20 = .ok (.bipush (-4), 2) := by decide +kernel
theorem dX12_saying_22 : decode cX12_saying 22 = .ok (.invokevirtual 82, 3) := by decide +kernel
theorem dX12_saying_25 : decode cX12_saying 25 = .ok (.ireturn, 1) := by decide +kernel
theorem dX12_saying_26 : decode cX12_saying 26 = .ok (.iload_n 2, 1) := by decide +kernel
theorem dX12_saying_27 : decode cX12_saying 27 = .ok (.ifCond .ge 12, 3) := by decide +kernel
theorem dX12_saying_30 : decode cX12_saying 30 = .ok (.aload_n 0, 1) := by decide +kernel
theorem dX12_saying_31 : decode cX12_saying 31 = .ok (.getfield 25, 3) := by decide +kernel
theorem dX12_saying_34 : decode cX12_saying 34 = .ok (.iload_n 1, 1) := by decide +kernel
theorem dX12_saying_35 : decode cX12_saying 35 = .ok (.iaload, 1) := by decide +kernel
theorem dX12_saying_36 : decode cX12_saying 36 = .ok (.goto 33, 3) := by decide +kernel
theorem dX12_saying_39 : decode cX12_saying 39 = .ok (.iload_n 2, 1) := by decide +kernel
theorem dX12_saying_40 : decode cX12_saying 40 = .ok (.aload_n 0, 1) := by decide +kernel
theorem dX12_saying_41 : decode cX12_saying 41 = .ok (.getfield 25, 3) := by decide +kernel
theorem dX12_saying_44 : decode cX12_saying 44 = .ok (.iload_n 1, 1) := by decide +kernel
theorem dX12_saying_45 : decode cX12_saying 45 = .ok (.iaload, 1) := by decide +kernel
theorem dX12_saying_46 : decode cX12_saying 46 = .ok (.if_icmp .ge 21, 3) := by decide +kernel
theorem dX12_saying_49 : decode cX12_saying 49 = .ok (.getstatic 192, 3) := by decide +kernel
theorem dX12_saying_52 : decode cX12_saying 52 = .ok (.aload_n 0, 1) := by decide +kernel
theorem dX12_saying_53 : decode cX12_saying 53 = .ok (.getfield 28, 3) := by decide +kernel
theorem dX12_saying_56 : decode cX12_saying 56 = .ok (.bipush 20, 2) := by decide +kernel
theorem dX12_saying_58 : decode cX12_saying 58 = .ok (.iload_n 1, 1) := by decide +kernel
theorem dX12_saying_59 : decode cX12_saying 59 = .ok (.imul, 1) := by decide +kernel
theorem dX12_saying_60 : decode cX12_saying 60 = .ok (.iload_n 2, 1) := by decide +kernel
theorem dX12_saying_61 : decode cX12_saying 61 = .ok (.iadd, 1) := by decide +kernel
theorem dX12_saying_62 : decode cX12_saying 62 = .ok (.iaload, 1) := by decide +kernel
theorem dX12_saying_63 : decode cX12_saying 63 = .ok (.iaload, 1) := by decide +kernel
theorem dX12_saying_64 : decode cX12_saying 64 = .ok (.goto 5, 3) := by decide +kernel
theorem dX12_saying_67 : decode cX12_saying 67 = .ok (.bipush (-9), 2) := by decide +kernel
theorem dX12_saying_69 : decode cX12_saying 69 = .ok (.ireturn, 1) := by decide +kernel
theorem dX12_leave_0 : decode cX12_leave 0 = .ok (.aload_n 0, 1) := by decide +kernel
theorem dX12_leave_1 : decode cX12_leave 1 = .ok (.getfield 72, 3) := by decide +kernel
theorem dX12_leave_4 : decode cX12_leave 4 = .ok (.ifCond .ne 10, 3) := by decide +kernel
theorem dX12_leave_7 : decode cX12_leave 7 = .ok (.aload_n 0, 1) := by decide +kernel
theorem dX12_leave_8 : decode cX12_leave 8 = .ok (.bipush (-3), 2) := by decide +kernel
theorem dX12_leave_10 : decode cX12_leave 10 = .ok (.invokevirtual 82, 3) := by decide +kernel
theorem dX12_leave_13 : decode cX12_leave 13 = .ok (.ireturn, 1) := by decide +kernel
theorem dX12_leave_14 : decode cX12_leave 14 = .ok (.aload_n 0, 1) := by decide +kernel
theorem dX12_leave_15 : decode cX12_leave 15 = .ok (.dup, 1) := by decide +kernel
theorem dX12_leave_16 : decode cX12_leave 16 = .ok (.getfield 72, 3) := by decide +kernel
theorem dX12_leave_19 : decode cX12_leave 19 = .ok (.iconst 1, 1) := by decide +kernel
theorem dX12_leave_20 : decode cX12_leave 20 = .ok (.isub, 1) := by decide +kernel
theorem dX12_leave_21 : decode cX12_leave 21 = .ok (.putfield 72, 3) := by decide +kernel
theorem dX12_leave_24 : decode cX12_leave 24 = .ok (.aload_n 0, 1) := by decide +kernel
theorem dX12_leave_25 : decode cX12_leave 25 = .ok (.getfield 72, 3) := by decide +kernel
theorem dX12_leave_28 : decode cX12_leave 28 = .ok (.ireturn, 1) := by decide +kernel
theorem dX12_concludes_0 : decode cX12_concludes 0 = .ok (.aload_n 0, 1) := by decide +kernel
theorem dX12_concludes_1 : decode cX12_concludes 1 = .ok (.iload_n 1, 1) := by decide +kernel
theorem dX12_concludes_2 : decode cX12_concludes 2 = .ok (.invokevirtual 195, 3) := by decide +kernel
theorem dX12_concludes_5 : decode cX12_concludes 5 = .ok (.ifCond .eq 20, 3) := by decide +kernel
theorem dX12_concludes_8 : decode cX12_concludes 8 = .ok (.aload_n 0, 1) := by decide +kernel
theorem dX12_concludes_9 : decode cX12_concludes 9 = .ok (.iload_n 2, 1) := by decide +kernel
theorem dX12_concludes_10 : decode cX12_concludes 10 = .ok (.invokevirtual 189, 3) := by decide +kernel
theorem dX12_concludes_13 : decode cX12_concludes 13 = .ok (.ifCond .eq 12, 3) := by decide +kernel
theorem dX12_concludes_16 : decode cX12_concludes 16 = .ok (.aload_n 0, 1) := by decide +kernel
theorem dX12_concludes_17 : decode cX12_concludes 17 = .ok (.iload_n 1, 1) := by decide +kernel
theorem dX12_concludes_18 : decode cX12_concludes 18 = .ok (.iload_n 2, 1) := by decide +kernel
theorem dX12_concludes_19 : decode cX12_concludes 19 = .ok (.invokevirtual 198, 3) := by decide +kernel
theorem dX12_concludes_22 : decode cX12_concludes 22 = .ok (.goto 8, 3) := by decide +kernel
theorem dX12_concludes_25 : decode cX12_concludes 25 = .ok (.aload_n 0, 1) := by decide +kernel
theorem dX12_concludes_26 : decode cX12_concludes 26 = .ok (.iconst (-1), 1) := by decide +kernel
theorem dX12_concludes_27 : decode cX12_concludes 27 = .ok (.invokevirtual 82, 3) := by decide +kernel
theorem dX12_concludes_30 : decode cX12_concludes 30 = .ok (.ireturn, 1) := by decide +kernel
theorem dX12_parts_0 : decode cX12_parts 0 = .ok (.aload_n 0, 1) := by decide +kernel
theorem dX12_parts_1 : decode cX12_parts 1 = .ok (.iload_n 1, 1) := by decide +kernel
theorem dX12_parts_2 : decode cX12_parts 2 = .ok (.invokevirtual 195, 3) := by decide +kernel
theorem dX12_parts_5 : decode cX12_parts 5 = .ok (.ifCond .eq 24, 3) := by decide +kernel
theorem dX12_parts_8 : decode cX12_parts 8 = .ok (.aload_n 0, 1) := by decide +kernel
theorem dX12_parts_9 : decode cX12_parts 9 = .ok (.iload_n 2, 1) := by decide +kernel
theorem dX12_parts_10 : decode cX12_parts 10 = .ok (.invokevirtual 189, 3) := by decide +kernel
theorem dX12_parts_13 : decode cX12_parts 13 = .ok (.ifCond .eq 16, 3) := by decide +kernel
theorem dX12_parts_16 : decode cX12_parts 16 = .ok (.aload_n 0, 1) := by decide +kernel
theorem dX12_parts_17 : decode cX12_parts 17 = .ok (.iload_n 3, 1) := by decide +kernel
theorem dX12_parts_18 : decode cX12_parts 18 = .ok (.invokevirtual 189, 3) := by decide +kernel
theorem dX12_parts_21 : decode cX12_parts 21 = .ok (.ifCond .eq 8, 3) := by decide +kernel
theorem dX12_parts_24 : decode cX12_parts 24 = .ok (.iload_n 2, 1) := by decide +kernel
theorem dX12_parts_25 : decode cX12_parts 25 = .ok (.iload_n 3, 1) := by decide +kernel
theorem dX12_parts_26 : decode cX12_parts 26 = .ok (.if_icmp .ne 9, 3) := by decide +kernel
theorem dX12_parts_29 : decode cX12_parts 29 = .ok (.aload_n 0, 1) := by decide +kernel
theorem dX12_parts_30 : decode cX12_parts 30 = .ok (.iconst (-1), 1) := by decide +kernel
theorem dX12_parts_31 : decode cX12_parts 31 = .ok (.invokevirtual 82, 3) := by decide +kernel
theorem dX12_parts_34 : decode cX12_parts 34 = .ok (.ireturn, 1) := by decide +kernel
theorem dX12_parts_35 : decode cX12_parts 35 = .ok (.aload_n 0, 1) := by decide +kernel
theorem dX12_parts_36 : decode cX12_parts 36 = .ok (.iload_n 1, 1) := by decide +kernel
theorem dX12_parts_37 : decode cX12_parts 37 = .ok (.iload_n 2, 1) := by decide +kernel
theorem dX12_parts_38 : decode cX12_parts 38 = .ok (.invokevirtual 198, 3) := by decide +kernel
theorem dX12_parts_41 : decode cX12_parts 41 = .ok (.aload_n 0, 1) := by decide +kernel
theorem dX12_parts_42 : decode cX12_parts 42 = .ok (.iload_n 1, 1) := by decide +kernel
theorem dX12_parts_43 : decode cX12_parts 43 = .ok (.iload_n 3, 1) := by decide +kernel
theorem dX12_parts_44 : decode cX12_parts 44 = .ok (.invokevirtual 198, 3) := by decide +kernel
theorem dX12_parts_47 : decode cX12_parts 47 = .ok (.ixor, 1) := by decide +kernel
theorem dX12_parts_48 : decode cX12_parts 48 = .ok (.istore 4, 2) := by decide +kernel
theorem dX12_parts_50 : decode cX12_parts 50 = .ok (.iconst 0, 1) := by decide +kernel
theorem dX12_parts_51 : decode cX12_parts 51 = .ok (.istore 5, 2) := by decide +kernel
theorem dX12_parts_53 : decode cX12_parts 53 = .ok (.iload 5, 2) := by decide +kernel
theorem dX12_parts_55 : decode cX12_parts 55 = .ok (.bipush 8, 2) := by decide +kernel
theorem dX12_parts_57 : decode cX12_parts 57 = .ok (.if_icmp .ge 23, 3) := by decide +kernel
theorem dX12_parts_60 : decode cX12_parts 60 = .ok (.iload 4, 2) := by decide +kernel
theorem dX12_parts_62 : decode cX12_parts 62 = .ok (.iload 5, 2) := by decide +kernel
theorem dX12_parts_64 : decode cX12_parts 64 = .ok (.ishr, 1) := by decide +kernel
theorem dX12_parts_65 : decode cX12_parts 65 = .ok (.iconst 1, 1) := by decide +kernel
theorem dX12_parts_66 : decode cX12_parts 66 = .ok (.iand, 1) := by decide +kernel
theorem dX12_parts_67 : decode cX12_parts 67 = .ok (.iconst 1, 1) := by decide +kernel
theorem dX12_parts_68 : decode cX12_parts 68 = .ok (.if_icmp .ne 6, 3) := by decide +kernel
theorem dX12_parts_71 : decode cX12_parts 71 = .ok (.iload 5, 2) := by decide +kernel
theorem dX12_parts_73 : decode cX12_parts 73 = .ok (.ireturn, 1) := by decide +kernel
theorem dX12_parts_74 : decode cX12_parts 74 = .ok (.iinc 5 1, 3) := by decide +kernel
theorem dX12_parts_77 : decode cX12_parts 77 = .ok (.goto (-24), 3) := by decide +kernel
theorem dX12_parts_80 : decode cX12_parts 80 = .ok (.bipush (-9), 2) := by decide +kernel
theorem dX12_parts_82 : decode cX12_parts 82 = .ok (.ireturn, 1) := by decide +kernel
theorem dX12_doesBeat_0 : decode cX12_doesBeat 0 = .ok (.aload_n 0, 1) := by decide +kernel
theorem dX12_doesBeat_1 : decode cX12_doesBeat 1 = .ok (.getfield 25, 3) := by decide +kernel
theorem dX12_doesBeat_4 : decode cX12_doesBeat 4 = .ok (.iload_n 2, 1) := by decide +kernel
theorem dX12_doesBeat_5 : decode cX12_doesBeat 5 = .ok (.iaload, 1) := by decide +kernel
theorem dX12_doesBeat_6 : decode cX12_doesBeat 6 = .ok (.aload_n 0, 1) := by decide +kernel
theorem dX12_doesBeat_7 : decode cX12_doesBeat 7 = .ok (.getfield 25, 3) := by decide +kernel
theorem dX12_doesBeat_10 : decode cX12_doesBeat 10 = .ok (.iload_n 3, 1) := by decide +kernel
theorem dX12_doesBeat_11 : decode cX12_doesBeat 11 = .ok (.iaload, 1) := by decide +kernel
theorem dX12_doesBeat_12 : decode cX12_doesBeat 12 = .ok (.if_icmp .ge 22, 3) := by decide +kernel
theorem dX12_doesBeat_15 : decode cX12_doesBeat 15 = .ok (.aload_n 0, 1) := by decide +kernel
theorem dX12_doesBeat_16 : decode cX12_doesBeat 16 = .ok (.iload_n 1, 1) := by decide +kernel
theorem dX12_doesBeat_17 : decode cX12_doesBeat 17 = .ok (.iload_n 2, 1) := by decide +kernel
theorem dX12_doesBeat_18 : decode cX12_doesBeat 18 = .ok (.invokevirtual 198, 3) := by decide +kernel
theorem dX12_doesBeat_21 : decode cX12_doesBeat 21 = .ok (.aload_n 0, 1) := by decide +kernel
theorem dX12_doesBeat_22 : decode cX12_doesBeat 22 = .ok (.iload_n 1, 1) := by decide +kernel
theorem dX12_doesBeat_23 : decode cX12_doesBeat 23 = .ok (.iload_n 3, 1) := by decide +kernel
theorem dX12_doesBeat_24 : decode cX12_doesBeat 24 = .ok (.invokevirtual 198, 3) := by decide +kernel
theorem dX12_doesBeat_27 : decode cX12_doesBeat 27 = .ok (.if_icmp .ne 7, 3) := by decide +kernel
theorem dX12_doesBeat_30 : decode cX12_doesBeat 30 = .ok (.iconst 1, 1) := by decide +kernel
theorem dX12_doesBeat_31 : decode cX12_doesBeat 31 = .ok (.goto 4, 3) := by decide +kernel
theorem dX12_doesBeat_34 : decode cX12_doesBeat 34 = .ok (.iconst 0, 1) := by decide +kernel
theorem dX12_doesBeat_35 : decode cX12_doesBeat 35 = .ok (.ireturn, 1) := by decide +kernel
theorem dX12_won_0 : decode cX12_won 0 = .ok (.aload_n 0, 1) := by decide +kernel
theorem dX12_won_1 : decode cX12_won 1 = .ok (.iload_n 1, 1) := by decide +kernel
theorem dX12_won_2 : decode cX12_won 2 = .ok (.invokevirtual 195, 3) := by decide +kernel
theorem dX12_won_5 : decode cX12_won 5 = .ok (.ifCond .eq 11, 3) := by decide +kernel
theorem dX12_won_8 : decode cX12_won 8 = .ok (.aload_n 0, 1) := by decide +kernel
theorem dX12_won_9 : decode cX12_won 9 = .ok (.iload_n 2, 1) := by decide +kernel
theorem dX12_won_10 : decode cX12_won 10 = .ok (.invokevirtual 189, 3) := by decide +kernel
theorem dX12_won_13 : decode cX12_won 13 = .ok (.ifCond .ne 9, 3) := by decide +kernel
theorem dX12_won_16 : decode cX12_won 16 = .ok (.aload_n 0, 1) := by decide +kernel
theorem dX12_won_17 : decode cX12_won 17 = .ok (.iconst (-1), 1) := by decide +kernel
theorem dX12_won_18 : decode cX12_won 18 = .ok (.invokevirtual 82, 3) := by decide +kernel
theorem dX12_won_21 : decode cX12_won 21 = .ok (.ireturn, 1) := by decide +kernel
theorem dX12_won_22 : decode cX12_won 22 = .ok (.iconst 0, 1) := by decide +kernel
theorem dX12_won_23 : decode cX12_won 23 = .ok (.istore_n 3, 1) := by decide +kernel
theorem dX12_won_24 : decode cX12_won 24 = .ok (.iconst 0, 1) := by decide +kernel
theorem dX12_won_25 : decode cX12_won 25 = .ok (.istore 4, 2) := by decide +kernel
theorem dX12_won_27 : decode cX12_won 27 = .ok (.iload 4, 2) := by decide +kernel
theorem dX12_won_29 : decode cX12_won 29 = .ok (.aload_n 0, 1) := by decide +kernel
theorem dX12_won_30 : decode cX12_won 30 = .ok (.getfield 72, 3) := by decide +kernel
theorem dX12_won_33 : decode cX12_won 33 = .ok (.if_icmp .ge 28, 3) := by decide +kernel
theorem dX12_won_36 : decode cX12_won 36 = .ok (.iload_n 3, 1) := by decide +kernel
theorem dX12_won_37 : decode cX12_won 37 = .ok (.aload_n 0, 1) := by decide +kernel
theorem dX12_won_38 : decode cX12_won 38 = .ok (.iload_n 1, 1) := by decide +kernel
theorem dX12_won_39 : decode cX12_won 39 = .ok (.iload_n 2, 1) := by decide +kernel
theorem dX12_won_40 : decode cX12_won 40 = .ok (.iload 4, 2) := by decide +kernel
theorem dX12_won_42 : decode cX12_won 42 = .ok (.invokevirtual 201, 3) := by decide +kernel
theorem dX12_won_45 : decode cX12_won 45 = .ok (.ifCond .eq 7, 3) := by decide +kernel
theorem dX12_won_48 : decode cX12_won 48 = .ok (.iconst 1, 1) := by decide +kernel
theorem dX12_won_49 : decode cX12_won 49 = .ok (.goto 4, 3) := by decide +kernel
theorem dX12_won_52 : decode cX12_won 52 = .ok (.iconst 0, 1) := by decide +kernel
theorem dX12_won_53 : decode cX12_won 53 = .ok (.iadd, 1) := by decide +kernel
theorem dX12_won_54 : decode cX12_won 54 = .ok (.istore_n 3, 1) := by decide +kernel
theorem dX12_won_55 : decode cX12_won 55 = .ok (.iinc 4 1, 3) := by decide +kernel
theorem dX12_won_58 : decode cX12_won 58 = .ok (.goto (-31), 3) := by decide +kernel
theorem dX12_won_61 : decode cX12_won 61 = .ok (.iload_n 3, 1) := by decide +kernel
theorem dX12_won_62 : decode cX12_won 62 = .ok (.ireturn, 1) := by decide +kernel
theorem dX12_masters_0 : decode cX12_masters 0 = .ok (.aload_n 0, 1) := by decide +kernel
theorem dX12_masters_1 : decode cX12_masters 1 = .ok (.iload_n 1, 1) := by decide +kernel
theorem dX12_masters_2 : decode cX12_masters 2 = .ok (.invokevirtual 195, 3) := by decide +kernel
theorem dX12_masters_5 : decode cX12_masters 5 = .ok (.ifCond .ne 9, 3) := by decide +kernel
theorem dX12_masters_8 : decode cX12_masters 8 = .ok (.aload_n 0, 1) := by decide +kernel
theorem dX12_masters_9 : decode cX12_masters 9 = .ok (.iconst (-1), 1) := by decide +kernel
theorem dX12_masters_10 : decode cX12_masters 10 = .ok (.invokevirtual 82, 3) := by decide +kernel
theorem dX12_masters_13 : decode cX12_masters 13 = .ok (.ireturn, 1) := by decide +kernel
theorem dX12_masters_14 : decode cX12_masters 14 = .ok (.iconst 1, 1) := by decide +kernel
theorem dX12_masters_15 : decode cX12_masters 15 = .ok (.aload_n 0, 1) := by decide +kernel
theorem dX12_masters_16 : decode cX12_masters 16 = .ok (.getfield 72, 3) := by decide +kernel
theorem dX12_masters_19 : decode cX12_masters 19 = .ok (.ishl, 1) := by decide +kernel
theorem dX12_masters_20 : decode cX12_masters 20 = .ok (.iconst 1, 1) := by decide +kernel
theorem dX12_masters_21 : decode cX12_masters 21 = .ok (.isub, 1) := by decide +kernel
theorem dX12_masters_22 : decode cX12_masters 22 = .ok (.istore_n 2, 1) := by decide +kernel
theorem dX12_masters_23 : decode cX12_masters 23 = .ok (.iconst 0, 1) := by decide +kernel
theorem dX12_masters_24 : decode cX12_masters 24 = .ok (.istore_n 3, 1) := by decide +kernel
theorem dX12_masters_25 : decode cX12_masters 25 = .ok (.iload_n 3, 1) := by decide +kernel
theorem dX12_masters_26 : decode cX12_masters 26 = .ok (.aload_n 0, 1) := by decide +kernel
theorem dX12_masters_27 : decode cX12_masters 27 = .ok (.getfield 72, 3) := by decide +kernel
theorem dX12_masters_30 : decode cX12_masters 30 = .ok (.if_icmp .ge 50, 3) := by decide +kernel
theorem dX12_masters_33 : decode cX12_masters 33 = .ok (.iconst 0, 1) := by decide +kernel
theorem dX12_masters_34 : decode cX12_masters 34 = .ok (.istore 4, 2) := by decide +kernel
theorem dX12_masters_36 : decode cX12_masters 36 = .ok (.iload 4, 2) := by decide +kernel
theorem dX12_masters_38 : decode cX12_masters 38 = .ok (.aload_n 0, 1) := by decide +kernel
theorem dX12_masters_39 : decode cX12_masters 39 = .ok (.getfield 72, 3) := by decide +kernel
theorem dX12_masters_42 : decode cX12_masters 42 = .ok (.if_icmp .ge 32, 3) := by decide +kernel
theorem dX12_masters_45 : decode cX12_masters 45 = .ok (.iload_n 2, 1) := by decide +kernel
theorem dX12_masters_46 : decode cX12_masters 46 = .ok (.aload_n 0, 1) := by decide +kernel
theorem dX12_masters_47 : decode cX12_masters 47 = .ok (.iload_n 1, 1) := by decide +kernel
theorem dX12_masters_48 : decode cX12_masters 48 = .ok (.iload 4, 2) := by decide +kernel
theorem dX12_masters_50 : decode cX12_masters 50 = .ok (.iload_n 3, 1) := by decide +kernel
theorem dX12_masters_51 : decode cX12_masters 51 = .ok (.invokevirtual 201, 3) := by decide +kernel
theorem dX12_masters_54 : decode cX12_masters 54 = .ok (.ifCond .eq 11, 3) := by decide +kernel
theorem dX12_masters_57 : decode cX12_masters 57 = .ok (.iconst 1, 1) := by decide +kernel
theorem dX12_masters_58 : decode cX12_masters 58 = .ok (.iload_n 3, 1) := by decide +kernel
theorem dX12_masters_59 : decode cX12_masters 59 = .ok (.ishl, 1) := by decide +kernel
theorem dX12_masters_60 : decode cX12_masters 60 = .ok (.iconst (-1), 1) := by decide +kernel
theorem dX12_masters_61 : decode cX12_masters 61 = .ok (.ixor, 1) := by decide +kernel
theorem dX12_masters_62 : decode cX12_masters 62 = .ok (.goto 4, 3) := by decide +kernel
theorem dX12_masters_65 : decode cX12_masters 65 = .ok (.iconst (-1), 1) := by decide +kernel
theorem dX12_masters_66 : decode cX12_masters 66 = .ok (.iand, 1) := by decide +kernel
theorem dX12_masters_67 : decode cX12_masters 67 = .ok (.istore_n 2, 1) := by decide +kernel
theorem dX12_masters_68 : decode cX12_masters 68 = .ok (.iinc 4 1, 3) := by decide +kernel
theorem dX12_masters_71 : decode cX12_masters 71 = .ok (.goto (-35), 3) := by decide +kernel
theorem dX12_masters_74 : decode cX12_masters 74 = .ok (.iinc 3 1, 3) := by decide +kernel
theorem dX12_masters_77 : decode cX12_masters 77 = .ok (.goto (-52), 3) := by decide +kernel
theorem dX12_masters_80 : decode cX12_masters 80 = .ok (.iload_n 2, 1) := by decide +kernel
theorem dX12_masters_81 : decode cX12_masters 81 = .ok (.ireturn, 1) := by decide +kernel
theorem dX12_lowers_0 : decode cX12_lowers 0 = .ok (.iload_n 2, 1) := by decide +kernel
theorem dX12_lowers_1 : decode cX12_lowers 1 = .ok (.aload_n 0, 1) := by decide +kernel
theorem dX12_lowers_2 : decode cX12_lowers 2 = .ok (.getfield 58, 3) := by decide +kernel
theorem dX12_lowers_5 : decode cX12_lowers 5 = .ok (.iload_n 1, 1) := by decide +kernel
theorem dX12_lowers_6 : decode cX12_lowers 6 = .ok (.iaload, 1) := by decide +kernel
theorem dX12_lowers_7 : decode cX12_lowers 7 = .ok (.if_icmp .lt 4, 3) := by decide +kernel
theorem dX12_lowers_10 : decode cX12_lowers 10 = .ok (.return_, 1) := by decide +kernel
theorem dX12_lowers_11 : decode cX12_lowers 11 = .ok (.aload_n 0, 1) := by decide +kernel
theorem dX12_lowers_12 : decode cX12_lowers 12 = .ok (.getfield 58, 3) := by decide +kernel
theorem dX12_lowers_15 : decode cX12_lowers 15 = .ok (.iload_n 1, 1) := by decide +kernel
theorem dX12_lowers_16 : decode cX12_lowers 16 = .ok (.iload_n 2, 1) := by decide +kernel
theorem dX12_lowers_17 : decode cX12_lowers 17 = .ok (.iastore, 1) := by decide +kernel
theorem dX12_lowers_18 : decode cX12_lowers 18 = .ok (.aload_n 0, 1) := by decide +kernel
theorem dX12_lowers_19 : decode cX12_lowers 19 = .ok (.iconst 1, 1) := by decide +kernel
theorem dX12_lowers_20 : decode cX12_lowers 20 = .ok (.putfield 204, 3) := by decide +kernel
theorem dX12_lowers_23 : decode cX12_lowers 23 = .ok (.return_, 1) := by decide +kernel
theorem dX12_goesOn_0 : decode cX12_goesOn 0 = .ok (.iconst 0, 1) := by decide +kernel
theorem dX12_goesOn_1 : decode cX12_goesOn 1 = .ok (.istore_n 2, 1) := by decide +kernel
theorem dX12_goesOn_2 : decode cX12_goesOn 2 = .ok (.iload_n 2, 1) := by decide +kernel
theorem dX12_goesOn_3 : decode cX12_goesOn 3 = .ok (.sipush 256, 3) := by decide +kernel
theorem dX12_goesOn_6 : decode cX12_goesOn 6 = .ok (.if_icmp .ge 124, 3) := by decide +kernel
theorem dX12_goesOn_9 : decode cX12_goesOn 9 = .ok (.aload_n 0, 1) := by decide +kernel
theorem dX12_goesOn_10 : decode cX12_goesOn 10 = .ok (.getfield 58, 3) := by decide +kernel
theorem dX12_goesOn_13 : decode cX12_goesOn 13 = .ok (.iload_n 2, 1) := by decide +kernel
theorem dX12_goesOn_14 : decode cX12_goesOn 14 = .ok (.iaload, 1) := by decide +kernel
theorem dX12_goesOn_15 : decode cX12_goesOn 15 = .ok (.sipush 1000, 3) := by decide +kernel
theorem dX12_goesOn_18 : decode cX12_goesOn 18 = .ok (.if_icmp .ne 6, 3) := by decide +kernel
theorem dX12_goesOn_21 : decode cX12_goesOn 21 = .ok (.goto 103, 3) := by decide +kernel
theorem dX12_goesOn_24 : decode cX12_goesOn 24 = .ok (.aload_n 0, 1) := by decide +kernel
theorem dX12_goesOn_25 : decode cX12_goesOn 25 = .ok (.aload_n 0, 1) := by decide +kernel
theorem dX12_goesOn_26 : decode cX12_goesOn 26 = .ok (.iload_n 1, 1) := by decide +kernel
theorem dX12_goesOn_27 : decode cX12_goesOn 27 = .ok (.iload_n 2, 1) := by decide +kernel
theorem dX12_goesOn_28 : decode cX12_goesOn 28 = .ok (.invokevirtual 174, 3) := by decide +kernel
theorem dX12_goesOn_31 : decode cX12_goesOn 31 = .ok (.aload_n 0, 1) := by decide +kernel
theorem dX12_goesOn_32 : decode cX12_goesOn 32 = .ok (.getfield 58, 3) := by decide +kernel
theorem dX12_goesOn_35 : decode cX12_goesOn 35 = .ok (.iload_n 2, 1) := by decide +kernel
theorem dX12_goesOn_36 : decode cX12_goesOn 36 = .ok (.iaload, 1) := by decide +kernel
theorem dX12_goesOn_37 : decode cX12_goesOn 37 = .ok (.iconst 1, 1) := by decide +kernel
theorem dX12_goesOn_38 : decode cX12_goesOn 38 = .ok (.iadd, 1) := by decide +kernel
theorem dX12_goesOn_39 : decode cX12_goesOn 39 = .ok (.invokevirtual 207, 3) := by decide +kernel
theorem dX12_goesOn_42 : decode cX12_goesOn 42 = .ok (.iconst 0, 1) := by decide +kernel
theorem dX12_goesOn_43 : decode cX12_goesOn 43 = .ok (.istore_n 3, 1) := by decide +kernel
theorem dX12_goesOn_44 : decode cX12_goesOn 44 = .ok (.iload_n 3, 1) := by decide +kernel
theorem dX12_goesOn_45 : decode cX12_goesOn 45 = .ok (.sipush 256, 3) := by decide +kernel
theorem dX12_goesOn_48 : decode cX12_goesOn 48 = .ok (.if_icmp .ge 76, 3) := by decide +kernel
theorem dX12_goesOn_51 : decode cX12_goesOn 51 = .ok (.aload_n 0, 1) := by decide +kernel
theorem dX12_goesOn_52 : decode cX12_goesOn 52 = .ok (.getfield 58, 3) := by decide +kernel
theorem dX12_goesOn_55 : decode cX12_goesOn 55 = .ok (.iload_n 3, 1) := by decide +kernel
theorem dX12_goesOn_56 : decode cX12_goesOn 56 = .ok (.iaload, 1) := by decide +kernel
theorem dX12_goesOn_57 : decode cX12_goesOn 57 = .ok (.sipush 1000, 3) := by decide +kernel
theorem dX12_goesOn_60 : decode cX12_goesOn 60 = .ok (.if_icmp .ne 6, 3) := by decide +kernel
theorem dX12_goesOn_63 : decode cX12_goesOn 63 = .ok (.goto 55, 3) := by decide +kernel
theorem dX12_goesOn_66 : decode cX12_goesOn 66 = .ok (.aload_n 0, 1) := by decide +kernel
theorem dX12_goesOn_67 : decode cX12_goesOn 67 = .ok (.aload_n 0, 1) := by decide +kernel
theorem dX12_goesOn_68 : decode cX12_goesOn 68 = .ok (.iload_n 1, 1) := by decide +kernel
theorem dX12_goesOn_69 : decode cX12_goesOn 69 = .ok (.iload_n 2, 1) := by decide +kernel
theorem dX12_goesOn_70 : decode cX12_goesOn 70 = .ok (.iload_n 3, 1) := by decide +kernel
theorem dX12_goesOn_71 : decode cX12_goesOn 71 = .ok (.invokevirtual 177, 3) := by decide +kernel
theorem dX12_goesOn_74 : decode cX12_goesOn 74 = .ok (.aload_n 0, 1) := by decide +kernel
theorem dX12_goesOn_75 : decode cX12_goesOn 75 = .ok (.getfield 58, 3) := by decide +kernel
theorem dX12_goesOn_78 : decode cX12_goesOn 78 = .ok (.iload_n 2, 1) := by decide +kernel
theorem dX12_goesOn_79 : decode cX12_goesOn 79 = .ok (.iaload, 1) := by decide +kernel
theorem dX12_goesOn_80 : decode cX12_goesOn 80 = .ok (.aload_n 0, 1) := by decide +kernel
theorem dX12_goesOn_81 : decode cX12_goesOn 81 = .ok (.getfield 58, 3) := by decide +kernel
theorem dX12_goesOn_84 : decode cX12_goesOn 84 = .ok (.iload_n 3, 1) := by decide +kernel
theorem dX12_goesOn_85 : decode cX12_goesOn 85 = .ok (.iaload, 1) := by decide +kernel
theorem dX12_goesOn_86 : decode cX12_goesOn 86 = .ok (.iadd, 1) := by decide +kernel
theorem dX12_goesOn_87 : decode cX12_goesOn 87 = .ok (.iconst 1, 1) := by decide +kernel
theorem dX12_goesOn_88 : decode cX12_goesOn 88 = .ok (.iadd, 1) := by decide +kernel
theorem dX12_goesOn_89 : decode cX12_goesOn 89 = .ok (.invokevirtual 207, 3) := by decide +kernel
theorem dX12_goesOn_92 : decode cX12_goesOn 92 = .ok (.aload_n 0, 1) := by decide +kernel
theorem dX12_goesOn_93 : decode cX12_goesOn 93 = .ok (.aload_n 0, 1) := by decide +kernel
theorem dX12_goesOn_94 : decode cX12_goesOn 94 = .ok (.iload_n 1, 1) := by decide +kernel
theorem dX12_goesOn_95 : decode cX12_goesOn 95 = .ok (.iload_n 2, 1) := by decide +kernel
theorem dX12_goesOn_96 : decode cX12_goesOn 96 = .ok (.iload_n 3, 1) := by decide +kernel
theorem dX12_goesOn_97 : decode cX12_goesOn 97 = .ok (.invokevirtual 180, 3) := by decide +kernel
theorem dX12_goesOn_100 : decode cX12_goesOn 100 = .ok (.aload_n 0, 1) := by decide +kernel
theorem dX12_goesOn_101 : decode cX12_goesOn 101 = .ok (.getfield 58, 3) := by decide +kernel
theorem dX12_goesOn_104 : decode cX12_goesOn 104 = .ok (.iload_n 2, 1) := by decide +kernel
theorem dX12_goesOn_105 : decode cX12_goesOn 105 = .ok (.iaload, 1) := by decide +kernel
theorem dX12_goesOn_106 : decode cX12_goesOn 106 = .ok (.aload_n 0, 1) := by decide +kernel
theorem dX12_goesOn_107 : decode cX12_goesOn 107 = .ok (.getfield 58, 3) := by decide +kernel
theorem dX12_goesOn_110 : decode cX12_goesOn 110 = .ok (.iload_n 3, 1) := by decide +kernel
theorem dX12_goesOn_111 : decode cX12_goesOn 111 = .ok (.iaload, 1) := by decide +kernel
theorem dX12_goesOn_112 : decode cX12_goesOn 112 = .ok (.iadd, 1) := by decide +kernel
theorem dX12_goesOn_113 : decode cX12_goesOn 113 = .ok (.iconst 1, 1) := by decide +kernel
theorem dX12_goesOn_114 : decode cX12_goesOn 114 = .ok (.iadd, 1) := by decide +kernel
theorem dX12_goesOn_115 : decode cX12_goesOn 115 = .ok (.invokevirtual 207, 3) := by decide +kernel
theorem dX12_goesOn_118 : decode cX12_goesOn 118 = .ok (.iinc 3 1, 3) := by decide +kernel
theorem dX12_goesOn_121 : decode cX12_goesOn 121 = .ok (.goto (-77), 3) := by decide +kernel
theorem dX12_goesOn_124 : decode cX12_goesOn 124 = .ok (.iinc 2 1, 3) := by decide +kernel
theorem dX12_goesOn_127 : decode cX12_goesOn 127 = .ok (.goto (-125), 3) := by decide +kernel
theorem dX12_goesOn_130 : decode cX12_goesOn 130 = .ok (.return_, 1) := by decide +kernel
theorem dX12_findShortest_0 : decode cX12_findShortest 0 = .ok (.iconst 0, 1) := by decide +kernel
theorem dX12_findShortest_1 : decode cX12_findShortest 1 = .ok (.istore_n 3, 1) := by decide +kernel
theorem dX12_findShortest_2 : decode cX12_findShortest 2 = .ok (.iload_n 3, 1) := by decide +kernel
theorem dX12_findShortest_3 : decode cX12_findShortest 3 = .ok (.sipush 256, 3) := by decide +kernel
theorem dX12_findShortest_6 : decode cX12_findShortest 6 = .ok (.if_icmp .ge 18, 3) := by decide +kernel
theorem dX12_findShortest_9 : decode cX12_findShortest 9 = .ok (.aload_n 0, 1) := by decide +kernel
theorem dX12_findShortest_10 : decode cX12_findShortest 10 = .ok (.getfield 58, 3) := by decide +kernel
theorem dX12_findShortest_13 : decode cX12_findShortest 13 = .ok (.iload_n 3, 1) := by decide +kernel
theorem dX12_findShortest_14 : decode cX12_findShortest 14 = .ok (.sipush 1000, 3) := by decide +kernel
theorem dX12_findShortest_17 : decode cX12_findShortest 17 = .ok (.iastore, 1) := by decide +kernel
theorem dX12_findShortest_18 : decode cX12_findShortest 18 = .ok (.iinc 3 1, 3) := by decide +kernel
theorem dX12_findShortest_21 : decode cX12_findShortest 21 = .ok (.goto (-19), 3) := by decide +kernel
theorem dX12_findShortest_24 : decode cX12_findShortest 24 = .ok (.iconst 0, 1) := by decide +kernel
theorem dX12_findShortest_25 : decode cX12_findShortest 25 = .ok (.istore_n 3, 1) := by decide +kernel
theorem dX12_findShortest_26 : decode cX12_findShortest 26 = .ok (.iload_n 3, 1) := by decide +kernel
theorem dX12_findShortest_27 : decode cX12_findShortest 27 = .ok (.iconst 3, 1) := by decide +kernel
theorem dX12_findShortest_28 : decode cX12_findShortest 28 = .ok (.if_icmp .ge 21, 3) := by decide +kernel
theorem dX12_findShortest_31 : decode cX12_findShortest 31 = .ok (.aload_n 0, 1) := by decide +kernel
theorem dX12_findShortest_32 : decode cX12_findShortest 32 = .ok (.getfield 58, 3) := by decide +kernel
theorem dX12_findShortest_35 : decode cX12_findShortest 35 = .ok (.aload_n 0, 1) := by decide +kernel
theorem dX12_findShortest_36 : decode cX12_findShortest 36 = .ok (.iload_n 1, 1) := by decide +kernel
theorem dX12_findShortest_37 : decode cX12_findShortest 37 = .ok (.iload_n 3, 1) := by decide +kernel
theorem dX12_findShortest_38 : decode cX12_findShortest 38 = .ok (.invokevirtual 171, 3) := by decide +kernel
theorem dX12_findShortest_41 : decode cX12_findShortest 41 = .ok (.iconst 1, 1) := by decide +kernel
theorem dX12_findShortest_42 : decode cX12_findShortest 42 = .ok (.iastore, 1) := by decide +kernel
theorem dX12_findShortest_43 : decode cX12_findShortest 43 = .ok (.iinc 3 1, 3) := by decide +kernel
theorem dX12_findShortest_46 : decode cX12_findShortest 46 = .ok (.goto (-20), 3) := by decide +kernel
theorem dX12_findShortest_49 : decode cX12_findShortest 49 = .ok (.iconst 0, 1) := by decide +kernel
theorem dX12_findShortest_50 : decode cX12_findShortest 50 = .ok (.istore_n 3, 1) := by decide +kernel
theorem dX12_findShortest_51 : decode cX12_findShortest 51 = .ok (.iload_n 3, 1) := by decide +kernel
theorem dX12_findShortest_52 : decode cX12_findShortest 52 = .ok (.iconst 4, 1) := by decide +kernel
theorem dX12_findShortest_53 : decode cX12_findShortest 53 = .ok (.if_icmp .ge 43, 3) := by decide +kernel
theorem dX12_findShortest_56 : decode cX12_findShortest 56 = .ok (.aload_n 0, 1) := by decide +kernel
theorem dX12_findShortest_57 : decode cX12_findShortest 57 = .ok (.iload_n 1, 1) := by decide +kernel
theorem dX12_findShortest_58 : decode cX12_findShortest 58 = .ok (.invokevirtual 164, 3) := by decide +kernel
theorem dX12_findShortest_61 : decode cX12_findShortest 61 = .ok (.iload_n 3, 1) := by decide +kernel
theorem dX12_findShortest_62 : decode cX12_findShortest 62 = .ok (.ishr, 1) := by decide +kernel
theorem dX12_findShortest_63 : decode cX12_findShortest 63 = .ok (.iconst 1, 1) := by decide +kernel
theorem dX12_findShortest_64 : decode cX12_findShortest 64 = .ok (.iand, 1) := by decide +kernel
theorem dX12_findShortest_65 : decode cX12_findShortest 65 = .ok (.iconst 1, 1) := by decide +kernel
theorem dX12_findShortest_66 : decode cX12_findShortest 66 = .ok (.if_icmp .ne 24, 3) := by decide +kernel
theorem dX12_findShortest_69 : decode cX12_findShortest 69 = .ok (.aload_n 0, 1) := by decide +kernel
theorem dX12_findShortest_70 : decode cX12_findShortest 70 = .ok (.getfield 22, 3) := by decide +kernel
theorem dX12_findShortest_73 : decode cX12_findShortest 73 = .ok (.iload_n 3, 1) := by decide +kernel
theorem dX12_findShortest_74 : decode cX12_findShortest 74 = .ok (.iaload, 1) := by decide +kernel
theorem dX12_findShortest_75 : decode cX12_findShortest 75 = .ok (.ifCond .lt 15, 3) := by decide +kernel
theorem dX12_findShortest_78 : decode cX12_findShortest 78 = .ok (.aload_n 0, 1) := by decide +kernel
theorem dX12_findShortest_79 : decode cX12_findShortest 79 = .ok (.getfield 58, 3) := by decide +kernel
theorem dX12_findShortest_82 : decode cX12_findShortest 82 = .ok (.aload_n 0, 1) := by decide +kernel
theorem dX12_findShortest_83 : decode cX12_findShortest 83 = .ok (.getfield 22, 3) := by decide +kernel
theorem dX12_findShortest_86 : decode cX12_findShortest 86 = .ok (.iload_n 3, 1) := by decide +kernel
theorem dX12_findShortest_87 : decode cX12_findShortest 87 = .ok (.iaload, 1) := by decide +kernel
theorem dX12_findShortest_88 : decode cX12_findShortest 88 = .ok (.iconst 1, 1) := by decide +kernel
theorem dX12_findShortest_89 : decode cX12_findShortest 89 = .ok (.iastore, 1) := by decide +kernel
theorem dX12_findShortest_90 : decode cX12_findShortest 90 = .ok (.iinc 3 1, 3) := by decide +kernel
theorem dX12_findShortest_93 : decode cX12_findShortest 93 = .ok (.goto (-42), 3) := by decide +kernel
theorem dX12_findShortest_96 : decode cX12_findShortest 96 = .ok (.iload_n 2, 1) := by decide +kernel
theorem dX12_findShortest_97 : decode cX12_findShortest 97 = .ok (.ifCond .lt 10, 3) := by decide +kernel
theorem dX12_findShortest_100 : decode cX12_findShortest 100 = .ok (.aload_n 0, 1) := by decide +kernel
theorem dX12_findShortest_101 : decode cX12_findShortest 101 = .ok (.getfield 58, 3) := by decide +kernel
theorem dX12_findShortest_104 : decode cX12_findShortest 104 = .ok (.iload_n 2, 1) := by decide +kernel
theorem dX12_findShortest_105 : decode cX12_findShortest 105 = .ok (.iconst 1, 1) := by decide +kernel
theorem dX12_findShortest_106 : decode cX12_findShortest 106 = .ok (.iastore, 1) := by decide +kernel
theorem dX12_findShortest_107 : decode cX12_findShortest 107 = .ok (.aload_n 0, 1) := by decide +kernel
theorem dX12_findShortest_108 : decode cX12_findShortest 108 = .ok (.iconst 1, 1) := by decide +kernel
theorem dX12_findShortest_109 : decode cX12_findShortest 109 = .ok (.putfield 204, 3) := by decide +kernel
theorem dX12_findShortest_112 : decode cX12_findShortest 112 = .ok (.aload_n 0, 1) := by decide +kernel
theorem dX12_findShortest_113 : decode cX12_findShortest 113 = .ok (.getfield 204, 3) := by decide +kernel
theorem dX12_findShortest_116 : decode cX12_findShortest 116 = .ok (.ifCond .eq 16, 3) := by decide +kernel
theorem dX12_findShortest_119 : decode cX12_findShortest 119 = .ok (.aload_n 0, 1) := by decide +kernel
theorem dX12_findShortest_120 : decode cX12_findShortest 120 = .ok (.iconst 0, 1) := by decide +kernel
theorem dX12_findShortest_121 : decode cX12_findShortest 121 = .ok (.putfield 204, 3) := by decide +kernel
theorem dX12_findShortest_124 : decode cX12_findShortest 124 = .ok (.aload_n 0, 1) := by decide +kernel
theorem dX12_findShortest_125 : decode cX12_findShortest 125 = .ok (.iload_n 1, 1) := by decide +kernel
theorem dX12_findShortest_126 : decode cX12_findShortest 126 = .ok (.invokevirtual 211, 3) := by decide +kernel
theorem dX12_findShortest_129 : decode cX12_findShortest 129 = .ok (.goto (-17), 3) := by decide +kernel
theorem dX12_findShortest_132 : decode cX12_findShortest 132 = .ok (.return_, 1) := by decide +kernel
theorem dX12_shortestOf_0 : decode cX12_shortestOf 0 = .ok (.aload_n 0, 1) := by decide +kernel
theorem dX12_shortestOf_1 : decode cX12_shortestOf 1 = .ok (.getfield 58, 3) := by decide +kernel
theorem dX12_shortestOf_4 : decode cX12_shortestOf 4 = .ok (.iload_n 1, 1) := by decide +kernel
theorem dX12_shortestOf_5 : decode cX12_shortestOf 5 = .ok (.iaload, 1) := by decide +kernel
theorem dX12_shortestOf_6 : decode cX12_shortestOf 6 = .ok (.sipush 1000, 3) := by decide +kernel
theorem dX12_shortestOf_9 : decode cX12_shortestOf 9 = .ok (.if_icmp .ne 8, 3) := by decide +kernel
theorem dX12_shortestOf_12 : decode cX12_shortestOf 12 = .ok (.bipush (-9), 2) := by decide +kernel
theorem dX12_shortestOf_14 : decode cX12_shortestOf 14 = .ok (.goto 9, 3) := by decide +kernel
theorem dX12_shortestOf_17 : decode cX12_shortestOf 17 = .ok (.aload_n 0, 1) := by decide +kernel
theorem dX12_shortestOf_18 : decode cX12_shortestOf 18 = .ok (.getfield 58, 3) := by decide +kernel
theorem dX12_shortestOf_21 : decode cX12_shortestOf 21 = .ok (.iload_n 1, 1) := by decide +kernel
theorem dX12_shortestOf_22 : decode cX12_shortestOf 22 = .ok (.iaload, 1) := by decide +kernel
theorem dX12_shortestOf_23 : decode cX12_shortestOf 23 = .ok (.ireturn, 1) := by decide +kernel
theorem dX12_shortest_0 : decode cX12_shortest 0 = .ok (.aload_n 0, 1) := by decide +kernel
theorem dX12_shortest_1 : decode cX12_shortest 1 = .ok (.iload_n 1, 1) := by decide +kernel
theorem dX12_shortest_2 : decode cX12_shortest 2 = .ok (.invokevirtual 195, 3) := by decide +kernel
theorem dX12_shortest_5 : decode cX12_shortest 5 = .ok (.ifCond .ne 7, 3) := by decide +kernel
theorem dX12_shortest_8 : decode cX12_shortest 8 = .ok (.iconst (-1), 1) := by decide +kernel
theorem dX12_shortest_9 : decode cX12_shortest 9 = .ok (.goto 11, 3) := by decide +kernel
theorem dX12_shortest_12 : decode cX12_shortest 12 = .ok (.iload_n 2, 1) := by decide +kernel
theorem dX12_shortest_13 : decode cX12_shortest 13 = .ok (.iconst 0, 1) := by decide +kernel
theorem dX12_shortest_14 : decode cX12_shortest 14 = .ok (.sipush 255, 3) := by decide +kernel
theorem dX12_shortest_17 : decode cX12_shortest 17 = .ok (.invokestatic 75, 3) := by decide +kernel
theorem dX12_shortest_20 : decode cX12_shortest 20 = .ok (.istore_n 3, 1) := by decide +kernel
theorem dX12_shortest_21 : decode cX12_shortest 21 = .ok (.iload_n 3, 1) := by decide +kernel
theorem dX12_shortest_22 : decode cX12_shortest 22 = .ok (.ifCond .eq 9, 3) := by decide +kernel
theorem dX12_shortest_25 : decode cX12_shortest 25 = .ok (.aload_n 0, 1) := by decide +kernel
theorem dX12_shortest_26 : decode cX12_shortest 26 = .ok (.iload_n 3, 1) := by decide +kernel
theorem dX12_shortest_27 : decode cX12_shortest 27 = .ok (.invokevirtual 82, 3) := by decide +kernel
theorem dX12_shortest_30 : decode cX12_shortest 30 = .ok (.ireturn, 1) := by decide +kernel
theorem dX12_shortest_31 : decode cX12_shortest 31 = .ok (.aload_n 0, 1) := by decide +kernel
theorem dX12_shortest_32 : decode cX12_shortest 32 = .ok (.iload_n 1, 1) := by decide +kernel
theorem dX12_shortest_33 : decode cX12_shortest 33 = .ok (.bipush (-9), 2) := by decide +kernel
theorem dX12_shortest_35 : decode cX12_shortest 35 = .ok (.invokevirtual 214, 3) := by decide +kernel
theorem dX12_shortest_38 : decode cX12_shortest 38 = .ok (.aload_n 0, 1) := by decide +kernel
theorem dX12_shortest_39 : decode cX12_shortest 39 = .ok (.iload_n 2, 1) := by decide +kernel
theorem dX12_shortest_40 : decode cX12_shortest 40 = .ok (.invokevirtual 217, 3) := by decide +kernel
theorem dX12_shortest_43 : decode cX12_shortest 43 = .ok (.ireturn, 1) := by decide +kernel
theorem dX12_cut_0 : decode cX12_cut 0 = .ok (.aload_n 0, 1) := by decide +kernel
theorem dX12_cut_1 : decode cX12_cut 1 = .ok (.iload_n 1, 1) := by decide +kernel
theorem dX12_cut_2 : decode cX12_cut 2 = .ok (.invokevirtual 195, 3) := by decide +kernel
theorem dX12_cut_5 : decode cX12_cut 5 = .ok (.ifCond .eq 11, 3) := by decide +kernel
theorem dX12_cut_8 : decode cX12_cut 8 = .ok (.aload_n 0, 1) := by decide +kernel
theorem dX12_cut_9 : decode cX12_cut 9 = .ok (.iload_n 2, 1) := by decide +kernel
theorem dX12_cut_10 : decode cX12_cut 10 = .ok (.invokevirtual 189, 3) := by decide +kernel
theorem dX12_cut_13 : decode cX12_cut 13 = .ok (.ifCond .ne 9, 3) := by decide +kernel
theorem dX12_cut_16 : decode cX12_cut 16 = .ok (.aload_n 0, 1) := by decide +kernel
theorem dX12_cut_17 : decode cX12_cut 17 = .ok (.iconst (-1), 1) := by decide +kernel
theorem dX12_cut_18 : decode cX12_cut 18 = .ok (.invokevirtual 220, 3) := by decide +kernel
theorem dX12_cut_21 : decode cX12_cut 21 = .ok (.ireturn, 1) := by decide +kernel
theorem dX12_cut_22 : decode cX12_cut 22 = .ok (.aload_n 0, 1) := by decide +kernel
theorem dX12_cut_23 : decode cX12_cut 23 = .ok (.iload_n 1, 1) := by decide +kernel
theorem dX12_cut_24 : decode cX12_cut 24 = .ok (.bipush (-9), 2) := by decide +kernel
theorem dX12_cut_26 : decode cX12_cut 26 = .ok (.invokevirtual 214, 3) := by decide +kernel
theorem dX12_cut_29 : decode cX12_cut 29 = .ok (.aload_n 0, 1) := by decide +kernel
theorem dX12_cut_30 : decode cX12_cut 30 = .ok (.aload_n 0, 1) := by decide +kernel
theorem dX12_cut_31 : decode cX12_cut 31 = .ok (.iload_n 1, 1) := by decide +kernel
theorem dX12_cut_32 : decode cX12_cut 32 = .ok (.iload_n 2, 1) := by decide +kernel
theorem dX12_cut_33 : decode cX12_cut 33 = .ok (.invokevirtual 198, 3) := by decide +kernel
theorem dX12_cut_36 : decode cX12_cut 36 = .ok (.invokevirtual 217, 3) := by decide +kernel
theorem dX12_cut_39 : decode cX12_cut 39 = .ok (.istore_n 3, 1) := by decide +kernel
theorem dX12_cut_40 : decode cX12_cut 40 = .ok (.iload_n 3, 1) := by decide +kernel
theorem dX12_cut_41 : decode cX12_cut 41 = .ok (.ifCond .ge 8, 3) := by decide +kernel
theorem dX12_cut_44 : decode cX12_cut 44 = .ok (.bipush (-9), 2) := by decide +kernel
theorem dX12_cut_46 : decode cX12_cut 46 = .ok (.goto 11, 3) := by decide +kernel
theorem dX12_cut_49 : decode cX12_cut 49 = .ok (.aload_n 0, 1) := by decide +kernel
theorem dX12_cut_50 : decode cX12_cut 50 = .ok (.getfield 25, 3) := by decide +kernel
theorem dX12_cut_53 : decode cX12_cut 53 = .ok (.iload_n 2, 1) := by decide +kernel
theorem dX12_cut_54 : decode cX12_cut 54 = .ok (.iaload, 1) := by decide +kernel
theorem dX12_cut_55 : decode cX12_cut 55 = .ok (.iload_n 3, 1) := by decide +kernel
theorem dX12_cut_56 : decode cX12_cut 56 = .ok (.isub, 1) := by decide +kernel
theorem dX12_cut_57 : decode cX12_cut 57 = .ok (.ireturn, 1) := by decide +kernel
theorem dX12_many_0 : decode cX12_many 0 = .ok (.aload_n 0, 1) := by decide +kernel
theorem dX12_many_1 : decode cX12_many 1 = .ok (.iload_n 1, 1) := by decide +kernel
theorem dX12_many_2 : decode cX12_many 2 = .ok (.invokevirtual 195, 3) := by decide +kernel
theorem dX12_many_5 : decode cX12_many 5 = .ok (.ifCond .ne 7, 3) := by decide +kernel
theorem dX12_many_8 : decode cX12_many 8 = .ok (.iconst (-1), 1) := by decide +kernel
theorem dX12_many_9 : decode cX12_many 9 = .ok (.goto 10, 3) := by decide +kernel
theorem dX12_many_12 : decode cX12_many 12 = .ok (.iload_n 2, 1) := by decide +kernel
theorem dX12_many_13 : decode cX12_many 13 = .ok (.iconst 1, 1) := by decide +kernel
theorem dX12_many_14 : decode cX12_many 14 = .ok (.bipush 20, 2) := by decide +kernel
theorem dX12_many_16 : decode cX12_many 16 = .ok (.invokestatic 75, 3) := by decide +kernel
theorem dX12_many_19 : decode cX12_many 19 = .ok (.istore_n 3, 1) := by decide +kernel
theorem dX12_many_20 : decode cX12_many 20 = .ok (.iload_n 3, 1) := by decide +kernel
theorem dX12_many_21 : decode cX12_many 21 = .ok (.ifCond .eq 9, 3) := by decide +kernel
theorem dX12_many_24 : decode cX12_many 24 = .ok (.aload_n 0, 1) := by decide +kernel
theorem dX12_many_25 : decode cX12_many 25 = .ok (.iload_n 3, 1) := by decide +kernel
theorem dX12_many_26 : decode cX12_many 26 = .ok (.invokevirtual 82, 3) := by decide +kernel
theorem dX12_many_29 : decode cX12_many 29 = .ok (.ireturn, 1) := by decide +kernel
theorem dX12_many_30 : decode cX12_many 30 = .ok (.aload_n 0, 1) := by decide +kernel
theorem dX12_many_31 : decode cX12_many 31 = .ok (.iload_n 1, 1) := by decide +kernel
theorem dX12_many_32 : decode cX12_many 32 = .ok (.bipush (-9), 2) := by decide +kernel
theorem dX12_many_34 : decode cX12_many 34 = .ok (.invokevirtual 214, 3) := by decide +kernel
theorem dX12_many_37 : decode cX12_many 37 = .ok (.iconst 0, 1) := by decide +kernel
theorem dX12_many_38 : decode cX12_many 38 = .ok (.istore 4, 2) := by decide +kernel
theorem dX12_many_40 : decode cX12_many 40 = .ok (.iconst 0, 1) := by decide +kernel
theorem dX12_many_41 : decode cX12_many 41 = .ok (.istore 5, 2) := by decide +kernel
theorem dX12_many_43 : decode cX12_many 43 = .ok (.iload 5, 2) := by decide +kernel
theorem dX12_many_45 : decode cX12_many 45 = .ok (.sipush 256, 3) := by decide +kernel
theorem dX12_many_48 : decode cX12_many 48 = .ok (.if_icmp .ge 30, 3) := by decide +kernel
theorem dX12_many_51 : decode cX12_many 51 = .ok (.iload 4, 2) := by decide +kernel
theorem dX12_many_53 : decode cX12_many 53 = .ok (.aload_n 0, 1) := by decide +kernel
theorem dX12_many_54 : decode cX12_many 54 = .ok (.getfield 58, 3) := by decide +kernel
theorem dX12_many_57 : decode cX12_many 57 = .ok (.iload 5, 2) := by decide +kernel
theorem dX12_many_59 : decode cX12_many 59 = .ok (.iaload, 1) := by decide +kernel
theorem dX12_many_60 : decode cX12_many 60 = .ok (.iload_n 2, 1) := by decide +kernel
theorem dX12_many_61 : decode cX12_many 61 = .ok (.if_icmp .ne 7, 3) := by decide +kernel
theorem dX12_many_64 : decode cX12_many 64 = .ok (.iconst 1, 1) := by decide +kernel
theorem dX12_many_65 : decode cX12_many 65 = .ok (.goto 4, 3) := by decide +kernel
theorem dX12_many_68 : decode cX12_many 68 = .ok (.iconst 0, 1) := by decide +kernel
theorem dX12_many_69 : decode cX12_many 69 = .ok (.iadd, 1) := by decide +kernel
theorem dX12_many_70 : decode cX12_many 70 = .ok (.istore 4, 2) := by decide +kernel
theorem dX12_many_72 : decode cX12_many 72 = .ok (.iinc 5 1, 3) := by decide +kernel
theorem dX12_many_75 : decode cX12_many 75 = .ok (.goto (-32), 3) := by decide +kernel
theorem dX12_many_78 : decode cX12_many 78 = .ok (.iload 4, 2) := by decide +kernel
theorem dX12_many_80 : decode cX12_many 80 = .ok (.ireturn, 1) := by decide +kernel
theorem dX12_farthest_0 : decode cX12_farthest 0 = .ok (.aload_n 0, 1) := by decide +kernel
theorem dX12_farthest_1 : decode cX12_farthest 1 = .ok (.iload_n 1, 1) := by decide +kernel
theorem dX12_farthest_2 : decode cX12_farthest 2 = .ok (.invokevirtual 195, 3) := by decide +kernel
theorem dX12_farthest_5 : decode cX12_farthest 5 = .ok (.ifCond .ne 9, 3) := by decide +kernel
theorem dX12_farthest_8 : decode cX12_farthest 8 = .ok (.aload_n 0, 1) := by decide +kernel
theorem dX12_farthest_9 : decode cX12_farthest 9 = .ok (.iconst (-1), 1) := by decide +kernel
theorem dX12_farthest_10 : decode cX12_farthest 10 = .ok (.invokevirtual 82, 3) := by decide +kernel
theorem dX12_farthest_13 : decode cX12_farthest 13 = .ok (.ireturn, 1) := by decide +kernel
theorem dX12_farthest_14 : decode cX12_farthest 14 = .ok (.iload_n 2, 1) := by decide +kernel
theorem dX12_farthest_15 : decode cX12_farthest 15 = .ok (.iconst 0, 1) := by decide +kernel
theorem dX12_farthest_16 : decode cX12_farthest 16 = .ok (.iconst 1, 1) := by decide +kernel
theorem dX12_farthest_17 : decode cX12_farthest 17 = .ok (.invokestatic 89, 3) := by decide +kernel
theorem dX12_farthest_20 : decode cX12_farthest 20 = .ok (.ifCond .ne 10, 3) := by decide +kernel
theorem dX12_farthest_23 : decode cX12_farthest 23 = .ok (.aload_n 0, 1) := by decide +kernel
theorem dX12_farthest_24 : decode cX12_farthest 24 = .ok (.bipush (-2), 2) := by decide +kernel
theorem dX12_farthest_26 : decode cX12_farthest 26 = .ok (.invokevirtual 82, 3) := by decide +kernel
theorem dX12_farthest_29 : decode cX12_farthest 29 = .ok (.ireturn, 1) := by decide +kernel
theorem dX12_farthest_30 : decode cX12_farthest 30 = .ok (.aload_n 0, 1) := by decide +kernel
theorem dX12_farthest_31 : decode cX12_farthest 31 = .ok (.iload_n 1, 1) := by decide +kernel
theorem dX12_farthest_32 : decode cX12_farthest 32 = .ok (.bipush (-9), 2) := by decide +kernel
theorem dX12_farthest_34 : decode cX12_farthest 34 = .ok (.invokevirtual 214, 3) := by decide +kernel
theorem dX12_farthest_37 : decode cX12_farthest 37 = .ok (.sipush 170, 3) := by decide +kernel
theorem dX12_farthest_40 : decode cX12_farthest 40 = .ok (.istore_n 3, 1) := by decide +kernel
theorem dX12_farthest_41 : decode cX12_farthest 41 = .ok (.sipush 255, 3) := by decide +kernel
theorem dX12_farthest_44 : decode cX12_farthest 44 = .ok (.istore 4, 2) := by decide +kernel
theorem dX12_farthest_46 : decode cX12_farthest 46 = .ok (.iload 4, 2) := by decide +kernel
theorem dX12_farthest_48 : decode cX12_farthest 48 = .ok (.ifCond .lt 45, 3) := by decide +kernel
theorem dX12_farthest_51 : decode cX12_farthest 51 = .ok (.aload_n 0, 1) := by decide +kernel
theorem dX12_farthest_52 : decode cX12_farthest 52 = .ok (.getfield 58, 3) := by decide +kernel
theorem dX12_farthest_55 : decode cX12_farthest 55 = .ok (.iload 4, 2) := by decide +kernel
theorem dX12_farthest_57 : decode cX12_farthest 57 = .ok (.iaload, 1) := by decide +kernel
theorem dX12_farthest_58 : decode cX12_farthest 58 = .ok (.sipush 1000, 3) := by decide +kernel
theorem dX12_farthest_61 : decode cX12_farthest 61 = .ok (.if_icmp .ge 24, 3) := by decide +kernel
theorem dX12_farthest_64 : decode cX12_farthest 64 = .ok (.aload_n 0, 1) := by decide +kernel
theorem dX12_farthest_65 : decode cX12_farthest 65 = .ok (.getfield 58, 3) := by decide +kernel
theorem dX12_farthest_68 : decode cX12_farthest 68 = .ok (.iload 4, 2) := by decide +kernel
theorem dX12_farthest_70 : decode cX12_farthest 70 = .ok (.iaload, 1) := by decide +kernel
theorem dX12_farthest_71 : decode cX12_farthest 71 = .ok (.aload_n 0, 1) := by decide +kernel
theorem dX12_farthest_72 : decode cX12_farthest 72 = .ok (.getfield 58, 3) := by decide +kernel
theorem dX12_farthest_75 : decode cX12_farthest 75 = .ok (.iload_n 3, 1) := by decide +kernel
theorem dX12_farthest_76 : decode cX12_farthest 76 = .ok (.iaload, 1) := by decide +kernel
theorem dX12_farthest_77 : decode cX12_farthest 77 = .ok (.if_icmp .lt 8, 3) := by decide +kernel
theorem dX12_farthest_80 : decode cX12_farthest 80 = .ok (.iload 4, 2) := by decide +kernel
theorem dX12_farthest_82 : decode cX12_farthest 82 = .ok (.goto 4, 3) := by decide +kernel
theorem dX12_farthest_85 : decode cX12_farthest 85 = .ok (.iload_n 3, 1) := by decide +kernel
theorem dX12_farthest_86 : decode cX12_farthest 86 = .ok (.istore_n 3, 1) := by decide +kernel
theorem dX12_farthest_87 : decode cX12_farthest 87 = .ok (.iinc 4 (-1), 3) := by decide +kernel
theorem dX12_farthest_90 : decode cX12_farthest 90 = .ok (.goto (-44), 3) := by decide +kernel
theorem dX12_farthest_93 : decode cX12_farthest 93 = .ok (.iload_n 2, 1) := by decide +kernel
theorem dX12_farthest_94 : decode cX12_farthest 94 = .ok (.ifCond .ne 12, 3) := by decide +kernel
theorem dX12_farthest_97 : decode cX12_farthest 97 = .ok (.aload_n 0, 1) := by decide +kernel
theorem dX12_farthest_98 : decode cX12_farthest 98 = .ok (.getfield 58, 3) := by decide +kernel
theorem dX12_farthest_101 : decode cX12_farthest 101 = .ok (.iload_n 3, 1) := by decide +kernel
theorem dX12_farthest_102 : decode cX12_farthest 102 = .ok (.iaload, 1) := by decide +kernel
theorem dX12_farthest_103 : decode cX12_farthest 103 = .ok (.goto 4, 3) := by decide +kernel
theorem dX12_farthest_106 : decode cX12_farthest 106 = .ok (.iload_n 3, 1) := by decide +kernel
theorem dX12_farthest_107 : decode cX12_farthest 107 = .ok (.ireturn, 1) := by decide +kernel
theorem dX12_saves_0 : decode cX12_saves 0 = .ok (.aload_n 0, 1) := by decide +kernel
theorem dX12_saves_1 : decode cX12_saves 1 = .ok (.iload_n 1, 1) := by decide +kernel
theorem dX12_saves_2 : decode cX12_saves 2 = .ok (.invokevirtual 195, 3) := by decide +kernel
theorem dX12_saves_5 : decode cX12_saves 5 = .ok (.ifCond .ne 7, 3) := by decide +kernel
theorem dX12_saves_8 : decode cX12_saves 8 = .ok (.iconst (-1), 1) := by decide +kernel
theorem dX12_saves_9 : decode cX12_saves 9 = .ok (.goto 11, 3) := by decide +kernel
theorem dX12_saves_12 : decode cX12_saves 12 = .ok (.iload_n 2, 1) := by decide +kernel
theorem dX12_saves_13 : decode cX12_saves 13 = .ok (.iconst 0, 1) := by decide +kernel
theorem dX12_saves_14 : decode cX12_saves 14 = .ok (.sipush 255, 3) := by decide +kernel
theorem dX12_saves_17 : decode cX12_saves 17 = .ok (.invokestatic 75, 3) := by decide +kernel
theorem dX12_saves_20 : decode cX12_saves 20 = .ok (.istore_n 3, 1) := by decide +kernel
theorem dX12_saves_21 : decode cX12_saves 21 = .ok (.iload_n 3, 1) := by decide +kernel
theorem dX12_saves_22 : decode cX12_saves 22 = .ok (.ifCond .eq 9, 3) := by decide +kernel
theorem dX12_saves_25 : decode cX12_saves 25 = .ok (.aload_n 0, 1) := by decide +kernel
theorem dX12_saves_26 : decode cX12_saves 26 = .ok (.iload_n 3, 1) := by decide +kernel
theorem dX12_saves_27 : decode cX12_saves 27 = .ok (.invokevirtual 220, 3) := by decide +kernel
theorem dX12_saves_30 : decode cX12_saves 30 = .ok (.ireturn, 1) := by decide +kernel
theorem dX12_saves_31 : decode cX12_saves 31 = .ok (.aload_n 0, 1) := by decide +kernel
theorem dX12_saves_32 : decode cX12_saves 32 = .ok (.iload_n 1, 1) := by decide +kernel
theorem dX12_saves_33 : decode cX12_saves 33 = .ok (.bipush (-9), 2) := by decide +kernel
theorem dX12_saves_35 : decode cX12_saves 35 = .ok (.invokevirtual 214, 3) := by decide +kernel
theorem dX12_saves_38 : decode cX12_saves 38 = .ok (.aload_n 0, 1) := by decide +kernel
theorem dX12_saves_39 : decode cX12_saves 39 = .ok (.iload_n 2, 1) := by decide +kernel
theorem dX12_saves_40 : decode cX12_saves 40 = .ok (.invokevirtual 217, 3) := by decide +kernel
theorem dX12_saves_43 : decode cX12_saves 43 = .ok (.istore 4, 2) := by decide +kernel
theorem dX12_saves_45 : decode cX12_saves 45 = .ok (.iload 4, 2) := by decide +kernel
theorem dX12_saves_47 : decode cX12_saves 47 = .ok (.ifCond .ge 6, 3) := by decide +kernel
theorem dX12_saves_50 : decode cX12_saves 50 = .ok (.bipush (-9), 2) := by decide +kernel
theorem dX12_saves_52 : decode cX12_saves 52 = .ok (.ireturn, 1) := by decide +kernel
theorem dX12_saves_53 : decode cX12_saves 53 = .ok (.iconst 0, 1) := by decide +kernel
theorem dX12_saves_54 : decode cX12_saves 54 = .ok (.istore 5, 2) := by decide +kernel
theorem dX12_saves_56 : decode cX12_saves 56 = .ok (.iload 5, 2) := by decide +kernel
theorem dX12_saves_58 : decode cX12_saves 58 = .ok (.aload_n 0, 1) := by decide +kernel
theorem dX12_saves_59 : decode cX12_saves 59 = .ok (.getfield 72, 3) := by decide +kernel
theorem dX12_saves_62 : decode cX12_saves 62 = .ok (.if_icmp .ge 27, 3) := by decide +kernel
theorem dX12_saves_65 : decode cX12_saves 65 = .ok (.aload_n 0, 1) := by decide +kernel
theorem dX12_saves_66 : decode cX12_saves 66 = .ok (.getfield 61, 3) := by decide +kernel
theorem dX12_saves_69 : decode cX12_saves 69 = .ok (.iload 5, 2) := by decide +kernel
theorem dX12_saves_71 : decode cX12_saves 71 = .ok (.aload_n 0, 1) := by decide +kernel
theorem dX12_saves_72 : decode cX12_saves 72 = .ok (.aload_n 0, 1) := by decide +kernel
theorem dX12_saves_73 : decode cX12_saves 73 = .ok (.iload_n 1, 1) := by decide +kernel
theorem dX12_saves_74 : decode cX12_saves 74 = .ok (.iload 5, 2) := by decide +kernel
theorem dX12_saves_76 : decode cX12_saves 76 = .ok (.invokevirtual 198, 3) := by decide +kernel
theorem dX12_saves_79 : decode cX12_saves 79 = .ok (.invokevirtual 217, 3) := by decide +kernel
theorem dX12_saves_82 : decode cX12_saves 82 = .ok (.iastore, 1) := by decide +kernel
theorem dX12_saves_83 : decode cX12_saves 83 = .ok (.iinc 5 1, 3) := by decide +kernel
theorem dX12_saves_86 : decode cX12_saves 86 = .ok (.goto (-30), 3) := by decide +kernel
theorem dX12_saves_89 : decode cX12_saves 89 = .ok (.aload_n 0, 1) := by decide +kernel
theorem dX12_saves_90 : decode cX12_saves 90 = .ok (.iload_n 1, 1) := by decide +kernel
theorem dX12_saves_91 : decode cX12_saves 91 = .ok (.iload_n 2, 1) := by decide +kernel
theorem dX12_saves_92 : decode cX12_saves 92 = .ok (.invokevirtual 214, 3) := by decide +kernel
theorem dX12_saves_95 : decode cX12_saves 95 = .ok (.iload 4, 2) := by decide +kernel
theorem dX12_saves_97 : decode cX12_saves 97 = .ok (.ineg, 1) := by decide +kernel
theorem dX12_saves_98 : decode cX12_saves 98 = .ok (.iconst 1, 1) := by decide +kernel
theorem dX12_saves_99 : decode cX12_saves 99 = .ok (.isub, 1) := by decide +kernel
theorem dX12_saves_100 : decode cX12_saves 100 = .ok (.istore 5, 2) := by decide +kernel
theorem dX12_saves_102 : decode cX12_saves 102 = .ok (.iconst 0, 1) := by decide +kernel
theorem dX12_saves_103 : decode cX12_saves 103 = .ok (.istore 6, 2) := by decide +kernel
theorem dX12_saves_105 : decode cX12_saves 105 = .ok (.iload 6, 2) := by decide +kernel
theorem dX12_saves_107 : decode cX12_saves 107 = .ok (.aload_n 0, 1) := by decide +kernel
theorem dX12_saves_108 : decode cX12_saves 108 = .ok (.getfield 72, 3) := by decide +kernel
theorem dX12_saves_111 : decode cX12_saves 111 = .ok (.if_icmp .ge 47, 3) := by decide +kernel
theorem dX12_saves_114 : decode cX12_saves 114 = .ok (.iload 5, 2) := by decide +kernel
theorem dX12_saves_116 : decode cX12_saves 116 = .ok (.aload_n 0, 1) := by decide +kernel
theorem dX12_saves_117 : decode cX12_saves 117 = .ok (.getfield 61, 3) := by decide +kernel
theorem dX12_saves_120 : decode cX12_saves 120 = .ok (.iload 6, 2) := by decide +kernel
theorem dX12_saves_122 : decode cX12_saves 122 = .ok (.iaload, 1) := by decide +kernel
theorem dX12_saves_123 : decode cX12_saves 123 = .ok (.ifCond .ge 7, 3) := by decide +kernel
theorem dX12_saves_126 : decode cX12_saves 126 = .ok (.iconst 0, 1) := by decide +kernel
theorem dX12_saves_127 : decode cX12_saves 127 = .ok (.goto 22, 3) := by decide +kernel
theorem dX12_saves_130 : decode cX12_saves 130 = .ok (.aload_n 0, 1) := by decide +kernel
theorem dX12_saves_131 : decode cX12_saves 131 = .ok (.getfield 61, 3) := by decide +kernel
theorem dX12_saves_134 : decode cX12_saves 134 = .ok (.iload 6, 2) := by decide +kernel
theorem dX12_saves_136 : decode cX12_saves 136 = .ok (.iaload, 1) := by decide +kernel
theorem dX12_saves_137 : decode cX12_saves 137 = .ok (.aload_n 0, 1) := by decide +kernel
theorem dX12_saves_138 : decode cX12_saves 138 = .ok (.aload_n 0, 1) := by decide +kernel
theorem dX12_saves_139 : decode cX12_saves 139 = .ok (.iload_n 1, 1) := by decide +kernel
theorem dX12_saves_140 : decode cX12_saves 140 = .ok (.iload 6, 2) := by decide +kernel
theorem dX12_saves_142 : decode cX12_saves 142 = .ok (.invokevirtual 198, 3) := by decide +kernel
theorem dX12_saves_145 : decode cX12_saves 145 = .ok (.invokevirtual 217, 3) := by decide +kernel
theorem dX12_saves_148 : decode cX12_saves 148 = .ok (.isub, 1) := by decide +kernel
theorem dX12_saves_149 : decode cX12_saves 149 = .ok (.iadd, 1) := by decide +kernel
theorem dX12_saves_150 : decode cX12_saves 150 = .ok (.istore 5, 2) := by decide +kernel
theorem dX12_saves_152 : decode cX12_saves 152 = .ok (.iinc 6 1, 3) := by decide +kernel
theorem dX12_saves_155 : decode cX12_saves 155 = .ok (.goto (-50), 3) := by decide +kernel
theorem dX12_saves_158 : decode cX12_saves 158 = .ok (.iload 5, 2) := by decide +kernel
theorem dX12_saves_160 : decode cX12_saves 160 = .ok (.ireturn, 1) := by decide +kernel
theorem dX12_joined_0 : decode cX12_joined 0 = .ok (.aload_n 0, 1) := by decide +kernel
theorem dX12_joined_1 : decode cX12_joined 1 = .ok (.iload_n 1, 1) := by decide +kernel
theorem dX12_joined_2 : decode cX12_joined 2 = .ok (.invokevirtual 195, 3) := by decide +kernel
theorem dX12_joined_5 : decode cX12_joined 5 = .ok (.ifCond .ne 9, 3) := by decide +kernel
theorem dX12_joined_8 : decode cX12_joined 8 = .ok (.aload_n 0, 1) := by decide +kernel
theorem dX12_joined_9 : decode cX12_joined 9 = .ok (.iconst (-1), 1) := by decide +kernel
theorem dX12_joined_10 : decode cX12_joined 10 = .ok (.invokevirtual 220, 3) := by decide +kernel
theorem dX12_joined_13 : decode cX12_joined 13 = .ok (.ireturn, 1) := by decide +kernel
theorem dX12_joined_14 : decode cX12_joined 14 = .ok (.iload_n 2, 1) := by decide +kernel
theorem dX12_joined_15 : decode cX12_joined 15 = .ok (.ifCond .lt 7, 3) := by decide +kernel
theorem dX12_joined_18 : decode cX12_joined 18 = .ok (.iload_n 3, 1) := by decide +kernel
theorem dX12_joined_19 : decode cX12_joined 19 = .ok (.ifCond .ge 8, 3) := by decide +kernel
theorem dX12_joined_22 : decode cX12_joined 22 = .ok (.bipush (-4), 2) := by decide +kernel
theorem dX12_joined_24 : decode cX12_joined 24 = .ok (.goto 23, 3) := by decide +kernel
theorem dX12_joined_27 : decode cX12_joined 27 = .ok (.iload_n 2, 1) := by decide +kernel
theorem dX12_joined_28 : decode cX12_joined 28 = .ok (.sipush 255, 3) := by decide +kernel
theorem dX12_joined_31 : decode cX12_joined 31 = .ok (.if_icmp .gt 10, 3) := by decide +kernel
theorem dX12_joined_34 : decode cX12_joined 34 = .ok (.iload_n 3, 1) := by decide +kernel
theorem dX12_joined_35 : decode cX12_joined 35 = .ok (.sipush 255, 3) := by decide +kernel
theorem dX12_joined_38 : decode cX12_joined 38 = .ok (.if_icmp .le 8, 3) := by decide +kernel
theorem dX12_joined_41 : decode cX12_joined 41 = .ok (.bipush (-6), 2) := by decide +kernel
theorem dX12_joined_43 : decode cX12_joined 43 = .ok (.goto 4, 3) := by decide +kernel
theorem dX12_joined_46 : decode cX12_joined 46 = .ok (.iconst 0, 1) := by decide +kernel
theorem dX12_joined_47 : decode cX12_joined 47 = .ok (.istore 4, 2) := by decide +kernel
theorem dX12_joined_49 : decode cX12_joined 49 = .ok (.iload 4, 2) := by decide +kernel
theorem dX12_joined_51 : decode cX12_joined 51 = .ok (.ifCond .eq 10, 3) := by decide +kernel
theorem dX12_joined_54 : decode cX12_joined 54 = .ok (.aload_n 0, 1) := by decide +kernel
theorem dX12_joined_55 : decode cX12_joined 55 = .ok (.iload 4, 2) := by decide +kernel
theorem dX12_joined_57 : decode cX12_joined 57 = .ok (.invokevirtual 220, 3) := by decide +kernel
theorem dX12_joined_60 : decode cX12_joined 60 = .ok (.ireturn, 1) := by decide +kernel
theorem dX12_joined_61 : decode cX12_joined 61 = .ok (.aload_n 0, 1) := by decide +kernel
theorem dX12_joined_62 : decode cX12_joined 62 = .ok (.iload_n 1, 1) := by decide +kernel
theorem dX12_joined_63 : decode cX12_joined 63 = .ok (.bipush (-9), 2) := by decide +kernel
theorem dX12_joined_65 : decode cX12_joined 65 = .ok (.invokevirtual 214, 3) := by decide +kernel
theorem dX12_joined_68 : decode cX12_joined 68 = .ok (.iload_n 2, 1) := by decide +kernel
theorem dX12_joined_69 : decode cX12_joined 69 = .ok (.iload_n 3, 1) := by decide +kernel
theorem dX12_joined_70 : decode cX12_joined 70 = .ok (.iand, 1) := by decide +kernel
theorem dX12_joined_71 : decode cX12_joined 71 = .ok (.istore 5, 2) := by decide +kernel
theorem dX12_joined_73 : decode cX12_joined 73 = .ok (.aload_n 0, 1) := by decide +kernel
theorem dX12_joined_74 : decode cX12_joined 74 = .ok (.getfield 58, 3) := by decide +kernel
theorem dX12_joined_77 : decode cX12_joined 77 = .ok (.iload_n 2, 1) := by decide +kernel
theorem dX12_joined_78 : decode cX12_joined 78 = .ok (.iaload, 1) := by decide +kernel
theorem dX12_joined_79 : decode cX12_joined 79 = .ok (.sipush 1000, 3) := by decide +kernel
theorem dX12_joined_82 : decode cX12_joined 82 = .ok (.if_icmp .eq 28, 3) := by decide +kernel
theorem dX12_joined_85 : decode cX12_joined 85 = .ok (.aload_n 0, 1) := by decide +kernel
theorem dX12_joined_86 : decode cX12_joined 86 = .ok (.getfield 58, 3) := by decide +kernel
theorem dX12_joined_89 : decode cX12_joined 89 = .ok (.iload_n 3, 1) := by decide +kernel
theorem dX12_joined_90 : decode cX12_joined 90 = .ok (.iaload, 1) := by decide +kernel
theorem dX12_joined_91 : decode cX12_joined 91 = .ok (.sipush 1000, 3) := by decide +kernel
theorem dX12_joined_94 : decode cX12_joined 94 = .ok (.if_icmp .eq 16, 3) := by decide +kernel
theorem dX12_joined_97 : decode cX12_joined 97 = .ok (.aload_n 0, 1) := by decide +kernel
theorem dX12_joined_98 : decode cX12_joined 98 = .ok (.getfield 58, 3) := by decide +kernel
theorem dX12_joined_101 : decode cX12_joined 101 = .ok (.iload 5, 2) := by decide +kernel
theorem dX12_joined_103 : decode cX12_joined 103 = .ok (.iaload, 1) := by decide +kernel
theorem dX12_joined_104 : decode cX12_joined 104 = .ok (.sipush 1000, 3) := by decide +kernel
theorem dX12_joined_107 : decode cX12_joined 107 = .ok (.if_icmp .ne 8, 3) := by decide +kernel
theorem dX12_joined_110 : decode cX12_joined 110 = .ok (.bipush 99, 2) := by decide +kernel
theorem dX12_joined_112 : decode cX12_joined 112 = .ok (.goto 24, 3) := by decide +kernel
theorem dX12_joined_115 : decode cX12_joined 115 = .ok (.aload_n 0, 1) := by decide +kernel
theorem dX12_joined_116 : decode cX12_joined 116 = .ok (.getfield 58, 3) := by decide +kernel
theorem dX12_joined_119 : decode cX12_joined 119 = .ok (.iload 5, 2) := by decide +kernel
theorem dX12_joined_121 : decode cX12_joined 121 = .ok (.iaload, 1) := by decide +kernel
theorem dX12_joined_122 : decode cX12_joined 122 = .ok (.aload_n 0, 1) := by decide +kernel
theorem dX12_joined_123 : decode cX12_joined 123 = .ok (.getfield 58, 3) := by decide +kernel
theorem dX12_joined_126 : decode cX12_joined 126 = .ok (.iload_n 2, 1) := by decide +kernel
theorem dX12_joined_127 : decode cX12_joined 127 = .ok (.iaload, 1) := by decide +kernel
theorem dX12_joined_128 : decode cX12_joined 128 = .ok (.isub, 1) := by decide +kernel
theorem dX12_joined_129 : decode cX12_joined 129 = .ok (.aload_n 0, 1) := by decide +kernel
theorem dX12_joined_130 : decode cX12_joined 130 = .ok (.getfield 58, 3) := by decide +kernel
theorem dX12_joined_133 : decode cX12_joined 133 = .ok (.iload_n 3, 1) := by decide +kernel
theorem dX12_joined_134 : decode cX12_joined 134 = .ok (.iaload, 1) := by decide +kernel
theorem dX12_joined_135 : decode cX12_joined 135 = .ok (.isub, 1) := by decide +kernel
theorem dX12_joined_136 : decode cX12_joined 136 = .ok (.ireturn, 1) := by decide +kernel
theorem dX12_behind_0 : decode cX12_behind 0 = .ok (.iconst 1, 1) := by decide +kernel
theorem dX12_behind_1 : decode cX12_behind 1 = .ok (.istore_n 3, 1) := by decide +kernel
theorem dX12_behind_2 : decode cX12_behind 2 = .ok (.iload_n 2, 1) := by decide +kernel
theorem dX12_behind_3 : decode cX12_behind 3 = .ok (.istore 4, 2) := by decide +kernel
theorem dX12_behind_5 : decode cX12_behind 5 = .ok (.iload_n 3, 1) := by decide +kernel
theorem dX12_behind_6 : decode cX12_behind 6 = .ok (.ifCond .le 49, 3) := by decide +kernel
theorem dX12_behind_9 : decode cX12_behind 9 = .ok (.aload_n 0, 1) := by decide +kernel
theorem dX12_behind_10 : decode cX12_behind 10 = .ok (.getfield 28, 3) := by decide +kernel
theorem dX12_behind_13 : decode cX12_behind 13 = .ok (.bipush 20, 2) := by decide +kernel
theorem dX12_behind_15 : decode cX12_behind 15 = .ok (.iload_n 1, 1) := by decide +kernel
theorem dX12_behind_16 : decode cX12_behind 16 = .ok (.imul, 1) := by decide +kernel
theorem dX12_behind_17 : decode cX12_behind 17 = .ok (.iload 4, 2) := by decide +kernel
theorem dX12_behind_19 : decode cX12_behind 19 = .ok (.iadd, 1) := by decide +kernel
theorem dX12_behind_20 : decode cX12_behind 20 = .ok (.iaload, 1) := by decide +kernel
theorem dX12_behind_21 : decode cX12_behind 21 = .ok (.istore 5, 2) := by decide +kernel
theorem dX12_behind_23 : decode cX12_behind 23 = .ok (.iload_n 3, 1) := by decide +kernel
theorem dX12_behind_24 : decode cX12_behind 24 = .ok (.iload 5, 2) := by decide +kernel
theorem dX12_behind_26 : decode cX12_behind 26 = .ok (.bipush 7, 2) := by decide +kernel
theorem dX12_behind_28 : decode cX12_behind 28 = .ok (.if_icmp .ne 7, 3) := by decide +kernel
theorem dX12_behind_31 : decode cX12_behind 31 = .ok (.iconst 0, 1) := by decide +kernel
theorem dX12_behind_32 : decode cX12_behind 32 = .ok (.goto 15, 3) := by decide +kernel
theorem dX12_behind_35 : decode cX12_behind 35 = .ok (.iload 5, 2) := by decide +kernel
theorem dX12_behind_37 : decode cX12_behind 37 = .ok (.bipush 7, 2) := by decide +kernel
theorem dX12_behind_39 : decode cX12_behind 39 = .ok (.if_icmp .le 7, 3) := by decide +kernel
theorem dX12_behind_42 : decode cX12_behind 42 = .ok (.iconst 1, 1) := by decide +kernel
theorem dX12_behind_43 : decode cX12_behind 43 = .ok (.goto 4, 3) := by decide +kernel
theorem dX12_behind_46 : decode cX12_behind 46 = .ok (.iconst (-1), 1) := by decide +kernel
theorem dX12_behind_47 : decode cX12_behind 47 = .ok (.iadd, 1) := by decide +kernel
theorem dX12_behind_48 : decode cX12_behind 48 = .ok (.istore_n 3, 1) := by decide +kernel
theorem dX12_behind_49 : decode cX12_behind 49 = .ok (.iinc 4 1, 3) := by decide +kernel
theorem dX12_behind_52 : decode cX12_behind 52 = .ok (.goto (-47), 3) := by decide +kernel
theorem dX12_behind_55 : decode cX12_behind 55 = .ok (.iload 4, 2) := by decide +kernel
theorem dX12_behind_57 : decode cX12_behind 57 = .ok (.ireturn, 1) := by decide +kernel
theorem dX12_laysBut_0 : decode cX12_laysBut 0 = .ok (.aload_n 0, 1) := by decide +kernel
theorem dX12_laysBut_1 : decode cX12_laysBut 1 = .ok (.iconst 0, 1) := by decide +kernel
theorem dX12_laysBut_2 : decode cX12_laysBut 2 = .ok (.putfield 118, 3) := by decide +kernel
theorem dX12_laysBut_5 : decode cX12_laysBut 5 = .ok (.iconst 0, 1) := by decide +kernel
theorem dX12_laysBut_6 : decode cX12_laysBut 6 = .ok (.istore 5, 2) := by decide +kernel
theorem dX12_laysBut_8 : decode cX12_laysBut 8 = .ok (.iload 5, 2) := by decide +kernel
theorem dX12_laysBut_10 : decode cX12_laysBut 10 = .ok (.aload_n 0, 1) := by decide +kernel
theorem dX12_laysBut_11 : decode cX12_laysBut 11 = .ok (.getfield 25, 3) := by decide +kernel
theorem dX12_laysBut_14 : decode cX12_laysBut 14 = .ok (.iload_n 1, 1) := by decide +kernel
theorem dX12_laysBut_15 : decode cX12_laysBut 15 = .ok (.iaload, 1) := by decide +kernel
theorem dX12_laysBut_16 : decode cX12_laysBut 16 = .ok (.if_icmp .ge 62, 3) := by decide +kernel
theorem dX12_laysBut_19 : decode cX12_laysBut 19 = .ok (.iload 5, 2) := by decide +kernel
theorem dX12_laysBut_21 : decode cX12_laysBut 21 = .ok (.iload_n 2, 1) := by decide +kernel
theorem dX12_laysBut_22 : decode cX12_laysBut 22 = .ok (.if_icmp .eq 50, 3) := by decide +kernel
theorem dX12_laysBut_25 : decode cX12_laysBut 25 = .ok (.iload 5, 2) := by decide +kernel
theorem dX12_laysBut_27 : decode cX12_laysBut 27 = .ok (.iload_n 3, 1) := by decide +kernel
theorem dX12_laysBut_28 : decode cX12_laysBut 28 = .ok (.if_icmp .lt 13, 3) := by decide +kernel
theorem dX12_laysBut_31 : decode cX12_laysBut 31 = .ok (.iload 5, 2) := by decide +kernel
theorem dX12_laysBut_33 : decode cX12_laysBut 33 = .ok (.iload 4, 2) := by decide +kernel
theorem dX12_laysBut_35 : decode cX12_laysBut 35 = .ok (.if_icmp .ge 6, 3) := by decide +kernel
theorem dX12_laysBut_38 : decode cX12_laysBut 38 = .ok (.goto 34, 3) := by decide +kernel
theorem dX12_laysBut_41 : decode cX12_laysBut 41 = .ok (.aload_n 0, 1) := by decide +kernel
theorem dX12_laysBut_42 : decode cX12_laysBut 42 = .ok (.getfield 52, 3) := by decide +kernel
theorem dX12_laysBut_45 : decode cX12_laysBut 45 = .ok (.aload_n 0, 1) := by decide +kernel
theorem dX12_laysBut_46 : decode cX12_laysBut 46 = .ok (.getfield 118, 3) := by decide +kernel
theorem dX12_laysBut_49 : decode cX12_laysBut 49 = .ok (.aload_n 0, 1) := by decide +kernel
theorem dX12_laysBut_50 : decode cX12_laysBut 50 = .ok (.getfield 28, 3) := by decide +kernel
theorem dX12_laysBut_53 : decode cX12_laysBut 53 = .ok (.bipush 20, 2) := by decide +kernel
theorem dX12_laysBut_55 : decode cX12_laysBut 55 = .ok (.iload_n 1, 1) := by decide +kernel
theorem dX12_laysBut_56 : decode cX12_laysBut 56 = .ok (.imul, 1) := by decide +kernel
theorem dX12_laysBut_57 : decode cX12_laysBut 57 = .ok (.iload 5, 2) := by decide +kernel
theorem dX12_laysBut_59 : decode cX12_laysBut 59 = .ok (.iadd, 1) := by decide +kernel
theorem dX12_laysBut_60 : decode cX12_laysBut 60 = .ok (.iaload, 1) := by decide +kernel
theorem dX12_laysBut_61 : decode cX12_laysBut 61 = .ok (.iastore, 1) := by decide +kernel
theorem dX12_laysBut_62 : decode cX12_laysBut 62 = .ok (.aload_n 0, 1) := by decide +kernel
theorem dX12_laysBut_63 : decode cX12_laysBut 63 = .ok (.dup, 1) := by decide +kernel
theorem dX12_laysBut_64 : decode cX12_laysBut 64 = .ok (.getfield 118, 3) := by decide +kernel
theorem dX12_laysBut_67 : decode cX12_laysBut 67 = .ok (.iconst 1, 1) := by decide +kernel
theorem dX12_laysBut_68 : decode cX12_laysBut 68 = .ok (.iadd, 1) := by decide +kernel
theorem dX12_laysBut_69 : decode cX12_laysBut 69 = .ok (.putfield 118, 3) := by decide +kernel
theorem dX12_laysBut_72 : decode cX12_laysBut 72 = .ok (.iinc 5 1, 3) := by decide +kernel
theorem dX12_laysBut_75 : decode cX12_laysBut 75 = .ok (.goto (-67), 3) := by decide +kernel
