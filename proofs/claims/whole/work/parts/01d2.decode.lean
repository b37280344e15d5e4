theorem dX11_coin_25 : decode cX11_coin 25 = .ok (.sipush 255, 3) := by decide +kernel
theorem dX11_coin_28 : decode cX11_coin 28 = .ok (.if_icmp .le 10, 3) := by decide +kernel
theorem dX11_coin_31 : decode cX11_coin 31 = .ok (.aload_n 0, 1) := by decide +kernel
theorem dX11_coin_32 : decode cX11_coin 32 = .ok (.bipush 6, 2) := by decide +kernel
theorem dX11_coin_34 : decode cX11_coin 34 = .ok (.invokevirtual 84, 3) := by decide +kernel
theorem dX11_coin_37 : decode cX11_coin 37 = .ok (.ireturn, 1) := by decide +kernel
theorem dX11_coin_38 : decode cX11_coin 38 = .ok (.aload_n 0, 1) := by decide +kernel
theorem dX11_coin_39 : decode cX11_coin 39 = .ok (.getfield 19, 3) := by decide +kernel
theorem dX11_coin_42 : decode cX11_coin 42 = .ok (.getfield 132, 3) := by decide +kernel
theorem dX11_coin_45 : decode cX11_coin 45 = .ok (.iload_n 1, 1) := by decide +kernel
theorem dX11_coin_46 : decode cX11_coin 46 = .ok (.iaload, 1) := by decide +kernel
theorem dX11_coin_47 : decode cX11_coin 47 = .ok (.istore_n 3, 1) := by decide +kernel
theorem dX11_coin_48 : decode cX11_coin 48 = .ok (.aload_n 0, 1) := by decide +kernel
theorem dX11_coin_49 : decode cX11_coin 49 = .ok (.getfield 19, 3) := by decide +kernel
theorem dX11_coin_52 : decode cX11_coin 52 = .ok (.getfield 132, 3) := by decide +kernel
theorem dX11_coin_55 : decode cX11_coin 55 = .ok (.iload_n 1, 1) := by decide +kernel
theorem dX11_coin_56 : decode cX11_coin 56 = .ok (.iload_n 2, 1) := by decide +kernel
theorem dX11_coin_57 : decode cX11_coin 57 = .ok (.iconst (-1), 1) := by decide +kernel
theorem dX11_coin_58 : decode cX11_coin 58 = .ok (.if_icmp .ne 8, 3) := by decide +kernel
theorem dX11_coin_61 : decode cX11_coin 61 = .ok (.bipush (-9), 2) := by decide +kernel
theorem dX11_coin_63 : decode cX11_coin 63 = .ok (.goto 4, 3) := by decide +kernel
theorem dX11_coin_66 : decode cX11_coin 66 = .ok (.iload_n 2, 1) := by decide +kernel
theorem dX11_coin_67 : decode cX11_coin 67 = .ok (.iastore, 1) := by decide +kernel
theorem dX11_coin_68 : decode cX11_coin 68 = .ok (.iload_n 3, 1) := by decide +kernel
theorem dX11_coin_69 : decode cX11_coin 69 = .ok (.ireturn, 1) := by decide +kernel
theorem dX11_saying_0 : decode cX11_saying 0 = .ok (.aload_n 0, 1) := by decide +kernel
theorem dX11_saying_1 : decode cX11_saying 1 = .ok (.iload_n 1, 1) := by decide +kernel
theorem dX11_saying_2 : decode cX11_saying 2 = .ok (.invokevirtual 135, 3) := by decide +kernel
theorem dX11_saying_5 : decode cX11_saying 5 = .ok (.ifCond .eq 9, 3) := by decide +kernel
theorem dX11_saying_8 : decode cX11_saying 8 = .ok (.aload_n 0, 1) := by decide +kernel
theorem dX11_saying_9 : decode cX11_saying 9 = .ok (.iconst 1, 1) := by decide +kernel
theorem dX11_saying_10 : decode cX11_saying 10 = .ok (.invokevirtual 84, 3) := by decide +kernel
theorem dX11_saying_13 : decode cX11_saying 13 = .ok (.ireturn, 1) := by decide +kernel
theorem dX11_saying_14 : decode cX11_saying 14 = .ok (.iload_n 2, 1) := by decide +kernel
theorem dX11_saying_15 : decode cX11_saying 15 = .ok (.iconst (-1), 1) := by decide +kernel
theorem dX11_saying_16 : decode cX11_saying 16 = .ok (.if_icmp .ge 9, 3) := by decide +kernel
theorem dX11_saying_19 : decode cX11_saying 19 = .ok (.aload_n 0, 1) := by decide +kernel
theorem dX11_saying_20 : decode cX11_saying 20 = .ok (.iconst 4, 1) := by decide +kernel
theorem dX11_saying_21 : decode cX11_saying 21 = .ok (.invokevirtual 84, 3) := by decide +kernel
theorem dX11_saying_24 : decode cX11_saying 24 = .ok (.ireturn, 1) := by decide +kernel
theorem dX11_saying_25 : decode cX11_saying 25 = .ok (.aload_n 0, 1) := by decide +kernel
theorem dX11_saying_26 : decode cX11_saying 26 = .ok (.getfield 19, 3) := by decide +kernel
theorem dX11_saying_29 : decode cX11_saying 29 = .ok (.getfield 138, 3) := by decide +kernel
theorem dX11_saying_32 : decode cX11_saying 32 = .ok (.iload_n 1, 1) := by decide +kernel
theorem dX11_saying_33 : decode cX11_saying 33 = .ok (.aaload, 1) := by decide +kernel
theorem dX11_saying_34 : decode cX11_saying 34 = .ok (.astore_n 3, 1) := by decide +kernel
theorem dX11_saying_35 : decode cX11_saying 35 = .ok (.iload_n 2, 1) := by decide +kernel
theorem dX11_saying_36 : decode cX11_saying 36 = .ok (.iconst (-1), 1) := by decide +kernel
theorem dX11_saying_37 : decode cX11_saying 37 = .ok (.if_icmp .ne 8, 3) := by decide +kernel
theorem dX11_saying_40 : decode cX11_saying 40 = .ok (.aload_n 3, 1) := by decide +kernel
theorem dX11_saying_41 : decode cX11_saying 41 = .ok (.getfield 142, 3) := by decide +kernel
theorem dX11_saying_44 : decode cX11_saying 44 = .ok (.ireturn, 1) := by decide +kernel
theorem dX11_saying_45 : decode cX11_saying 45 = .ok (.iload_n 2, 1) := by decide +kernel
theorem dX11_saying_46 : decode cX11_saying 46 = .ok (.aload_n 3, 1) := by decide +kernel
theorem dX11_saying_47 : decode cX11_saying 47 = .ok (.getfield 142, 3) := by decide +kernel
theorem dX11_saying_50 : decode cX11_saying 50 = .ok (.if_icmp .ge 12, 3) := by decide +kernel
theorem dX11_saying_53 : decode cX11_saying 53 = .ok (.aload_n 3, 1) := by decide +kernel
theorem dX11_saying_54 : decode cX11_saying 54 = .ok (.getfield 145, 3) := by decide +kernel
theorem dX11_saying_57 : decode cX11_saying 57 = .ok (.iload_n 2, 1) := by decide +kernel
theorem dX11_saying_58 : decode cX11_saying 58 = .ok (.iaload, 1) := by decide +kernel
theorem dX11_saying_59 : decode cX11_saying 59 = .ok (.goto 5, 3) := by decide +kernel
theorem dX11_saying_62 : decode cX11_saying 62 = .ok (.bipush (-9), 2) := by decide +kernel
theorem dX11_saying_64 : decode cX11_saying 64 = .ok (.ireturn, 1) := by decide +kernel
theorem dX11_leave_0 : decode cX11_leave 0 = .ok (.aload_n 0, 1) := by decide +kernel
theorem dX11_leave_1 : decode cX11_leave 1 = .ok (.getfield 19, 3) := by decide +kernel
theorem dX11_leave_4 : decode cX11_leave 4 = .ok (.getfield 148, 3) := by decide +kernel
theorem dX11_leave_7 : decode cX11_leave 7 = .ok (.iconst 1, 1) := by decide +kernel
theorem dX11_leave_8 : decode cX11_leave 8 = .ok (.if_icmp .ge 9, 3) := by decide +kernel
theorem dX11_leave_11 : decode cX11_leave 11 = .ok (.aload_n 0, 1) := by decide +kernel
theorem dX11_leave_12 : decode cX11_leave 12 = .ok (.iconst 3, 1) := by decide +kernel
theorem dX11_leave_13 : decode cX11_leave 13 = .ok (.invokevirtual 84, 3) := by decide +kernel
theorem dX11_leave_16 : decode cX11_leave 16 = .ok (.ireturn, 1) := by decide +kernel
theorem dX11_leave_17 : decode cX11_leave 17 = .ok (.aload_n 0, 1) := by decide +kernel
theorem dX11_leave_18 : decode cX11_leave 18 = .ok (.getfield 19, 3) := by decide +kernel
theorem dX11_leave_21 : decode cX11_leave 21 = .ok (.dup, 1) := by decide +kernel
theorem dX11_leave_22 : decode cX11_leave 22 = .ok (.getfield 148, 3) := by decide +kernel
theorem dX11_leave_25 : decode cX11_leave 25 = .ok (.iconst 1, 1) := by decide +kernel
theorem dX11_leave_26 : decode cX11_leave 26 = .ok (.isub, 1) := by decide +kernel
theorem dX11_leave_27 : decode cX11_leave 27 = .ok (.putfield 148, 3) := by decide +kernel
theorem dX11_leave_30 : decode cX11_leave 30 = .ok (.aload_n 0, 1) := by decide +kernel
theorem dX11_leave_31 : decode cX11_leave 31 = .ok (.getfield 19, 3) := by decide +kernel
theorem dX11_leave_34 : decode cX11_leave 34 = .ok (.getfield 148, 3) := by decide +kernel
theorem dX11_leave_37 : decode cX11_leave 37 = .ok (.ireturn, 1) := by decide +kernel
theorem dX11_concludes_0 : decode cX11_concludes 0 = .ok (.aload_n 0, 1) := by decide +kernel
theorem dX11_concludes_1 : decode cX11_concludes 1 = .ok (.iload_n 1, 1) := by decide +kernel
theorem dX11_concludes_2 : decode cX11_concludes 2 = .ok (.invokevirtual 151, 3) := by decide +kernel
theorem dX11_concludes_5 : decode cX11_concludes 5 = .ok (.ifCond .ne 11, 3) := by decide +kernel
theorem dX11_concludes_8 : decode cX11_concludes 8 = .ok (.aload_n 0, 1) := by decide +kernel
theorem dX11_concludes_9 : decode cX11_concludes 9 = .ok (.iload_n 2, 1) := by decide +kernel
theorem dX11_concludes_10 : decode cX11_concludes 10 = .ok (.invokevirtual 135, 3) := by decide +kernel
theorem dX11_concludes_13 : decode cX11_concludes 13 = .ok (.ifCond .eq 9, 3) := by decide +kernel
theorem dX11_concludes_16 : decode cX11_concludes 16 = .ok (.aload_n 0, 1) := by decide +kernel
theorem dX11_concludes_17 : decode cX11_concludes 17 = .ok (.iconst 1, 1) := by decide +kernel
theorem dX11_concludes_18 : decode cX11_concludes 18 = .ok (.invokevirtual 84, 3) := by decide +kernel
theorem dX11_concludes_21 : decode cX11_concludes 21 = .ok (.ireturn, 1) := by decide +kernel
theorem dX11_concludes_22 : decode cX11_concludes 22 = .ok (.aload_n 0, 1) := by decide +kernel
theorem dX11_concludes_23 : decode cX11_concludes 23 = .ok (.iload_n 1, 1) := by decide +kernel
theorem dX11_concludes_24 : decode cX11_concludes 24 = .ok (.invokevirtual 154, 3) := by decide +kernel
theorem dX11_concludes_27 : decode cX11_concludes 27 = .ok (.aload_n 0, 1) := by decide +kernel
theorem dX11_concludes_28 : decode cX11_concludes 28 = .ok (.iload_n 2, 1) := by decide +kernel
theorem dX11_concludes_29 : decode cX11_concludes 29 = .ok (.invokevirtual 157, 3) := by decide +kernel
theorem dX11_concludes_32 : decode cX11_concludes 32 = .ok (.ireturn, 1) := by decide +kernel
theorem dX11_parts_0 : decode cX11_parts 0 = .ok (.aload_n 0, 1) := by decide +kernel
theorem dX11_parts_1 : decode cX11_parts 1 = .ok (.iload_n 1, 1) := by decide +kernel
theorem dX11_parts_2 : decode cX11_parts 2 = .ok (.invokevirtual 151, 3) := by decide +kernel
theorem dX11_parts_5 : decode cX11_parts 5 = .ok (.ifCond .ne 24, 3) := by decide +kernel
theorem dX11_parts_8 : decode cX11_parts 8 = .ok (.aload_n 0, 1) := by decide +kernel
theorem dX11_parts_9 : decode cX11_parts 9 = .ok (.iload_n 2, 1) := by decide +kernel
theorem dX11_parts_10 : decode cX11_parts 10 = .ok (.invokevirtual 135, 3) := by decide +kernel
theorem dX11_parts_13 : decode cX11_parts 13 = .ok (.ifCond .ne 16, 3) := by decide +kernel
theorem dX11_parts_16 : decode cX11_parts 16 = .ok (.aload_n 0, 1) := by decide +kernel
theorem dX11_parts_17 : decode cX11_parts 17 = .ok (.iload_n 3, 1) := by decide +kernel
theorem dX11_parts_18 : decode cX11_parts 18 = .ok (.invokevirtual 135, 3) := by decide +kernel
theorem dX11_parts_21 : decode cX11_parts 21 = .ok (.ifCond .ne 8, 3) := by decide +kernel
theorem dX11_parts_24 : decode cX11_parts 24 = .ok (.iload_n 2, 1) := by decide +kernel
theorem dX11_parts_25 : decode cX11_parts 25 = .ok (.iload_n 3, 1) := by decide +kernel
theorem dX11_parts_26 : decode cX11_parts 26 = .ok (.if_icmp .ne 9, 3) := by decide +kernel
theorem dX11_parts_29 : decode cX11_parts 29 = .ok (.aload_n 0, 1) := by decide +kernel
theorem dX11_parts_30 : decode cX11_parts 30 = .ok (.iconst 1, 1) := by decide +kernel
theorem dX11_parts_31 : decode cX11_parts 31 = .ok (.invokevirtual 84, 3) := by decide +kernel
theorem dX11_parts_34 : decode cX11_parts 34 = .ok (.ireturn, 1) := by decide +kernel
theorem dX11_parts_35 : decode cX11_parts 35 = .ok (.aload_n 0, 1) := by decide +kernel
theorem dX11_parts_36 : decode cX11_parts 36 = .ok (.iload_n 1, 1) := by decide +kernel
theorem dX11_parts_37 : decode cX11_parts 37 = .ok (.invokevirtual 154, 3) := by decide +kernel
theorem dX11_parts_40 : decode cX11_parts 40 = .ok (.aload_n 0, 1) := by decide +kernel
theorem dX11_parts_41 : decode cX11_parts 41 = .ok (.iload_n 2, 1) := by decide +kernel
theorem dX11_parts_42 : decode cX11_parts 42 = .ok (.invokevirtual 157, 3) := by decide +kernel
theorem dX11_parts_45 : decode cX11_parts 45 = .ok (.aload_n 0, 1) := by decide +kernel
theorem dX11_parts_46 : decode cX11_parts 46 = .ok (.iload_n 3, 1) := by decide +kernel
theorem dX11_parts_47 : decode cX11_parts 47 = .ok (.invokevirtual 157, 3) := by decide +kernel
theorem dX11_parts_50 : decode cX11_parts 50 = .ok (.ixor, 1) := by decide +kernel
theorem dX11_parts_51 : decode cX11_parts 51 = .ok (.istore 4, 2) := by decide +kernel
theorem dX11_parts_53 : decode cX11_parts 53 = .ok (.iconst 0, 1) := by decide +kernel
theorem dX11_parts_54 : decode cX11_parts 54 = .ok (.istore 5, 2) := by decide +kernel
theorem dX11_parts_56 : decode cX11_parts 56 = .ok (.iload 5, 2) := by decide +kernel
theorem dX11_parts_58 : decode cX11_parts 58 = .ok (.bipush 8, 2) := by decide +kernel
theorem dX11_parts_60 : decode cX11_parts 60 = .ok (.if_icmp .ge 23, 3) := by decide +kernel
theorem dX11_parts_63 : decode cX11_parts 63 = .ok (.iload 4, 2) := by decide +kernel
theorem dX11_parts_65 : decode cX11_parts 65 = .ok (.iload 5, 2) := by decide +kernel
theorem dX11_parts_67 : decode cX11_parts 67 = .ok (.ishr, 1) := by decide +kernel
theorem dX11_parts_68 : decode cX11_parts 68 = .ok (.iconst 1, 1) := by decide +kernel
theorem dX11_parts_69 : decode cX11_parts 69 = .ok (.iand, 1) := by decide +kernel
theorem dX11_parts_70 : decode cX11_parts 70 = .ok (.iconst 1, 1) := by decide +kernel
theorem dX11_parts_71 : decode cX11_parts 71 = .ok (.if_icmp .ne 6, 3) := by decide +kernel
theorem dX11_parts_74 : decode cX11_parts 74 = .ok (.iload 5, 2) := by decide +kernel
theorem dX11_parts_76 : decode cX11_parts 76 = .ok (.ireturn, 1) := by decide +kernel
theorem dX11_parts_77 : decode cX11_parts 77 = .ok (.iinc 5 1, 3) := by decide +kernel
theorem dX11_parts_80 : decode cX11_parts 80 = .ok (.goto (-24), 3) := by decide +kernel
theorem dX11_parts_83 : decode cX11_parts 83 = .ok (.bipush (-9), 2) := by decide +kernel
theorem dX11_parts_85 : decode cX11_parts 85 = .ok (.ireturn, 1) := by decide +kernel
theorem dX11_won_0 : decode cX11_won 0 = .ok (.aload_n 0, 1) := by decide +kernel
theorem dX11_won_1 : decode cX11_won 1 = .ok (.iload_n 1, 1) := by decide +kernel
theorem dX11_won_2 : decode cX11_won 2 = .ok (.invokevirtual 151, 3) := by decide +kernel
theorem dX11_won_5 : decode cX11_won 5 = .ok (.ifCond .ne 11, 3) := by decide +kernel
theorem dX11_won_8 : decode cX11_won 8 = .ok (.aload_n 0, 1) := by decide +kernel
theorem dX11_won_9 : decode cX11_won 9 = .ok (.iload_n 2, 1) := by decide +kernel
theorem dX11_won_10 : decode cX11_won 10 = .ok (.invokevirtual 135, 3) := by decide +kernel
theorem dX11_won_13 : decode cX11_won 13 = .ok (.ifCond .eq 9, 3) := by decide +kernel
theorem dX11_won_16 : decode cX11_won 16 = .ok (.aload_n 0, 1) := by decide +kernel
theorem dX11_won_17 : decode cX11_won 17 = .ok (.iconst 1, 1) := by decide +kernel
theorem dX11_won_18 : decode cX11_won 18 = .ok (.invokevirtual 84, 3) := by decide +kernel
theorem dX11_won_21 : decode cX11_won 21 = .ok (.ireturn, 1) := by decide +kernel
theorem dX11_won_22 : decode cX11_won 22 = .ok (.aload_n 0, 1) := by decide +kernel
theorem dX11_won_23 : decode cX11_won 23 = .ok (.iload_n 1, 1) := by decide +kernel
theorem dX11_won_24 : decode cX11_won 24 = .ok (.invokevirtual 160, 3) := by decide +kernel
theorem dX11_won_27 : decode cX11_won 27 = .ok (.iconst 0, 1) := by decide +kernel
theorem dX11_won_28 : decode cX11_won 28 = .ok (.istore_n 3, 1) := by decide +kernel
theorem dX11_won_29 : decode cX11_won 29 = .ok (.iconst 0, 1) := by decide +kernel
theorem dX11_won_30 : decode cX11_won 30 = .ok (.istore 4, 2) := by decide +kernel
theorem dX11_won_32 : decode cX11_won 32 = .ok (.iload 4, 2) := by decide +kernel
theorem dX11_won_34 : decode cX11_won 34 = .ok (.aload_n 0, 1) := by decide +kernel
theorem dX11_won_35 : decode cX11_won 35 = .ok (.getfield 19, 3) := by decide +kernel
theorem dX11_won_38 : decode cX11_won 38 = .ok (.getfield 148, 3) := by decide +kernel
theorem dX11_won_41 : decode cX11_won 41 = .ok (.if_icmp .ge 22, 3) := by decide +kernel
theorem dX11_won_44 : decode cX11_won 44 = .ok (.aload_n 0, 1) := by decide +kernel
theorem dX11_won_45 : decode cX11_won 45 = .ok (.iload_n 2, 1) := by decide +kernel
theorem dX11_won_46 : decode cX11_won 46 = .ok (.iload 4, 2) := by decide +kernel
theorem dX11_won_48 : decode cX11_won 48 = .ok (.invokevirtual 163, 3) := by decide +kernel
theorem dX11_won_51 : decode cX11_won 51 = .ok (.ifCond .eq 6, 3) := by decide +kernel
theorem dX11_won_54 : decode cX11_won 54 = .ok (.iinc 3 1, 3) := by decide +kernel
theorem dX11_won_57 : decode cX11_won 57 = .ok (.iinc 4 1, 3) := by decide +kernel
theorem dX11_won_60 : decode cX11_won 60 = .ok (.goto (-28), 3) := by decide +kernel
theorem dX11_won_63 : decode cX11_won 63 = .ok (.iload_n 3, 1) := by decide +kernel
theorem dX11_won_64 : decode cX11_won 64 = .ok (.ireturn, 1) := by decide +kernel
theorem dX11_masters_0 : decode cX11_masters 0 = .ok (.aload_n 0, 1) := by decide +kernel
theorem dX11_masters_1 : decode cX11_masters 1 = .ok (.iload_n 1, 1) := by decide +kernel
theorem dX11_masters_2 : decode cX11_masters 2 = .ok (.invokevirtual 151, 3) := by decide +kernel
theorem dX11_masters_5 : decode cX11_masters 5 = .ok (.ifCond .eq 9, 3) := by decide +kernel
theorem dX11_masters_8 : decode cX11_masters 8 = .ok (.aload_n 0, 1) := by decide +kernel
theorem dX11_masters_9 : decode cX11_masters 9 = .ok (.iconst 1, 1) := by decide +kernel
theorem dX11_masters_10 : decode cX11_masters 10 = .ok (.invokevirtual 84, 3) := by decide +kernel
theorem dX11_masters_13 : decode cX11_masters 13 = .ok (.ireturn, 1) := by decide +kernel
theorem dX11_masters_14 : decode cX11_masters 14 = .ok (.aload_n 0, 1) := by decide +kernel
theorem dX11_masters_15 : decode cX11_masters 15 = .ok (.iload_n 1, 1) := by decide +kernel
theorem dX11_masters_16 : decode cX11_masters 16 = .ok (.invokevirtual 160, 3) := by decide +kernel
theorem dX11_masters_19 : decode cX11_masters 19 = .ok (.iconst 0, 1) := by decide +kernel
theorem dX11_masters_20 : decode cX11_masters 20 = .ok (.istore_n 2, 1) := by decide +kernel
theorem dX11_masters_21 : decode cX11_masters 21 = .ok (.iconst 0, 1) := by decide +kernel
theorem dX11_masters_22 : decode cX11_masters 22 = .ok (.istore_n 3, 1) := by decide +kernel
theorem dX11_masters_23 : decode cX11_masters 23 = .ok (.iload_n 3, 1) := by decide +kernel
theorem dX11_masters_24 : decode cX11_masters 24 = .ok (.aload_n 0, 1) := by decide +kernel
theorem dX11_masters_25 : decode cX11_masters 25 = .ok (.getfield 19, 3) := by decide +kernel
theorem dX11_masters_28 : decode cX11_masters 28 = .ok (.getfield 148, 3) := by decide +kernel
theorem dX11_masters_31 : decode cX11_masters 31 = .ok (.if_icmp .ge 23, 3) := by decide +kernel
theorem dX11_masters_34 : decode cX11_masters 34 = .ok (.aload_n 0, 1) := by decide +kernel
theorem dX11_masters_35 : decode cX11_masters 35 = .ok (.iload_n 3, 1) := by decide +kernel
theorem dX11_masters_36 : decode cX11_masters 36 = .ok (.invokevirtual 166, 3) := by decide +kernel
theorem dX11_masters_39 : decode cX11_masters 39 = .ok (.ifCond .ne 9, 3) := by decide +kernel
theorem dX11_masters_42 : decode cX11_masters 42 = .ok (.iload_n 2, 1) := by decide +kernel
theorem dX11_masters_43 : decode cX11_masters 43 = .ok (.iconst 1, 1) := by decide +kernel
theorem dX11_masters_44 : decode cX11_masters 44 = .ok (.iload_n 3, 1) := by decide +kernel
theorem dX11_masters_45 : decode cX11_masters 45 = .ok (.ishl, 1) := by decide +kernel
theorem dX11_masters_46 : decode cX11_masters 46 = .ok (.ior, 1) := by decide +kernel
theorem dX11_masters_47 : decode cX11_masters 47 = .ok (.istore_n 2, 1) := by decide +kernel
theorem dX11_masters_48 : decode cX11_masters 48 = .ok (.iinc 3 1, 3) := by decide +kernel
theorem dX11_masters_51 : decode cX11_masters 51 = .ok (.goto (-28), 3) := by decide +kernel
theorem dX11_masters_54 : decode cX11_masters 54 = .ok (.iload_n 2, 1) := by decide +kernel
theorem dX11_masters_55 : decode cX11_masters 55 = .ok (.ireturn, 1) := by decide +kernel
theorem dX11_shortest_0 : decode cX11_shortest 0 = .ok (.aload_n 0, 1) := by decide +kernel
theorem dX11_shortest_1 : decode cX11_shortest 1 = .ok (.iload_n 1, 1) := by decide +kernel
theorem dX11_shortest_2 : decode cX11_shortest 2 = .ok (.invokevirtual 151, 3) := by decide +kernel
theorem dX11_shortest_5 : decode cX11_shortest 5 = .ok (.ifCond .eq 9, 3) := by decide +kernel
theorem dX11_shortest_8 : decode cX11_shortest 8 = .ok (.aload_n 0, 1) := by decide +kernel
theorem dX11_shortest_9 : decode cX11_shortest 9 = .ok (.iconst 1, 1) := by decide +kernel
theorem dX11_shortest_10 : decode cX11_shortest 10 = .ok (.invokevirtual 84, 3) := by decide +kernel
theorem dX11_shortest_13 : decode cX11_shortest 13 = .ok (.ireturn, 1) := by decide +kernel
theorem dX11_shortest_14 : decode cX11_shortest 14 = .ok (.iload_n 2, 1) := by decide +kernel
theorem dX11_shortest_15 : decode cX11_shortest 15 = .ok (.ifCond .ge 9, 3) := by decide +kernel
theorem dX11_shortest_18 : decode cX11_shortest 18 = .ok (.aload_n 0, 1) := by decide +kernel
theorem dX11_shortest_19 : decode cX11_shortest 19 = .ok (.iconst 4, 1) := by decide +kernel
theorem dX11_shortest_20 : decode cX11_shortest 20 = .ok (.invokevirtual 84, 3) := by decide +kernel
theorem dX11_shortest_23 : decode cX11_shortest 23 = .ok (.ireturn, 1) := by decide +kernel
theorem dX11_shortest_24 : decode cX11_shortest 24 = .ok (.iload_n 2, 1) := by decide +kernel
theorem dX11_shortest_25 : decode cX11_shortest 25 = .ok (.sipush 255, 3) := by decide +kernel
theorem dX11_shortest_28 : decode cX11_shortest 28 = .ok (.if_icmp .le 10, 3) := by decide +kernel
theorem dX11_shortest_31 : decode cX11_shortest 31 = .ok (.aload_n 0, 1) := by decide +kernel
theorem dX11_shortest_32 : decode cX11_shortest 32 = .ok (.bipush 6, 2) := by decide +kernel
theorem dX11_shortest_34 : decode cX11_shortest 34 = .ok (.invokevirtual 84, 3) := by decide +kernel
theorem dX11_shortest_37 : decode cX11_shortest 37 = .ok (.ireturn, 1) := by decide +kernel
theorem dX11_shortest_38 : decode cX11_shortest 38 = .ok (.aload_n 0, 1) := by decide +kernel
theorem dX11_shortest_39 : decode cX11_shortest 39 = .ok (.iload_n 1, 1) := by decide +kernel
theorem dX11_shortest_40 : decode cX11_shortest 40 = .ok (.invokevirtual 169, 3) := by decide +kernel
theorem dX11_shortest_43 : decode cX11_shortest 43 = .ok (.iload_n 2, 1) := by decide +kernel
theorem dX11_shortest_44 : decode cX11_shortest 44 = .ok (.invokevirtual 173, 3) := by decide +kernel
theorem dX11_shortest_47 : decode cX11_shortest 47 = .ok (.ireturn, 1) := by decide +kernel
theorem dX11_cut_0 : decode cX11_cut 0 = .ok (.aload_n 0, 1) := by decide +kernel
theorem dX11_cut_1 : decode cX11_cut 1 = .ok (.iload_n 1, 1) := by decide +kernel
theorem dX11_cut_2 : decode cX11_cut 2 = .ok (.invokevirtual 151, 3) := by decide +kernel
theorem dX11_cut_5 : decode cX11_cut 5 = .ok (.ifCond .ne 11, 3) := by decide +kernel
theorem dX11_cut_8 : decode cX11_cut 8 = .ok (.aload_n 0, 1) := by decide +kernel
theorem dX11_cut_9 : decode cX11_cut 9 = .ok (.iload_n 2, 1) := by decide +kernel
theorem dX11_cut_10 : decode cX11_cut 10 = .ok (.invokevirtual 135, 3) := by decide +kernel
theorem dX11_cut_13 : decode cX11_cut 13 = .ok (.ifCond .eq 9, 3) := by decide +kernel
theorem dX11_cut_16 : decode cX11_cut 16 = .ok (.aload_n 0, 1) := by decide +kernel
theorem dX11_cut_17 : decode cX11_cut 17 = .ok (.iconst 1, 1) := by decide +kernel
theorem dX11_cut_18 : decode cX11_cut 18 = .ok (.invokevirtual 176, 3) := by decide +kernel
theorem dX11_cut_21 : decode cX11_cut 21 = .ok (.ireturn, 1) := by decide +kernel
theorem dX11_cut_22 : decode cX11_cut 22 = .ok (.aload_n 0, 1) := by decide +kernel
theorem dX11_cut_23 : decode cX11_cut 23 = .ok (.iload_n 1, 1) := by decide +kernel
theorem dX11_cut_24 : decode cX11_cut 24 = .ok (.invokevirtual 169, 3) := by decide +kernel
theorem dX11_cut_27 : decode cX11_cut 27 = .ok (.astore_n 3, 1) := by decide +kernel
theorem dX11_cut_28 : decode cX11_cut 28 = .ok (.aload_n 3, 1) := by decide +kernel
theorem dX11_cut_29 : decode cX11_cut 29 = .ok (.aload_n 0, 1) := by decide +kernel
theorem dX11_cut_30 : decode cX11_cut 30 = .ok (.iload_n 2, 1) := by decide +kernel
theorem dX11_cut_31 : decode cX11_cut 31 = .ok (.invokevirtual 157, 3) := by decide +kernel
theorem dX11_cut_34 : decode cX11_cut 34 = .ok (.invokevirtual 173, 3) := by decide +kernel
theorem dX11_cut_37 : decode cX11_cut 37 = .ok (.istore 4, 2) := by decide +kernel
theorem dX11_cut_39 : decode cX11_cut 39 = .ok (.iload 4, 2) := by decide +kernel
theorem dX11_cut_41 : decode cX11_cut 41 = .ok (.bipush (-9), 2) := by decide +kernel
theorem dX11_cut_43 : decode cX11_cut 43 = .ok (.if_icmp .ne 8, 3) := by decide +kernel
theorem dX11_cut_46 : decode cX11_cut 46 = .ok (.bipush (-9), 2) := by decide +kernel
theorem dX11_cut_48 : decode cX11_cut 48 = .ok (.goto 18, 3) := by decide +kernel
theorem dX11_cut_51 : decode cX11_cut 51 = .ok (.aload_n 0, 1) := by decide +kernel
theorem dX11_cut_52 : decode cX11_cut 52 = .ok (.getfield 19, 3) := by decide +kernel
theorem dX11_cut_55 : decode cX11_cut 55 = .ok (.getfield 138, 3) := by decide +kernel
theorem dX11_cut_58 : decode cX11_cut 58 = .ok (.iload_n 2, 1) := by decide +kernel
theorem dX11_cut_59 : decode cX11_cut 59 = .ok (.aaload, 1) := by decide +kernel
theorem dX11_cut_60 : decode cX11_cut 60 = .ok (.getfield 142, 3) := by decide +kernel
theorem dX11_cut_63 : decode cX11_cut 63 = .ok (.iload 4, 2) := by decide +kernel
theorem dX11_cut_65 : decode cX11_cut 65 = .ok (.isub, 1) := by decide +kernel
theorem dX11_cut_66 : decode cX11_cut 66 = .ok (.ireturn, 1) := by decide +kernel
theorem dX11_many_0 : decode cX11_many 0 = .ok (.aload_n 0, 1) := by decide +kernel
theorem dX11_many_1 : decode cX11_many 1 = .ok (.iload_n 1, 1) := by decide +kernel
theorem dX11_many_2 : decode cX11_many 2 = .ok (.invokevirtual 151, 3) := by decide +kernel
theorem dX11_many_5 : decode cX11_many 5 = .ok (.ifCond .eq 9, 3) := by decide +kernel
theorem dX11_many_8 : decode cX11_many 8 = .ok (.aload_n 0, 1) := by decide +kernel
theorem dX11_many_9 : decode cX11_many 9 = .ok (.iconst 1, 1) := by decide +kernel
theorem dX11_many_10 : decode cX11_many 10 = .ok (.invokevirtual 84, 3) := by decide +kernel
theorem dX11_many_13 : decode cX11_many 13 = .ok (.ireturn, 1) := by decide +kernel
theorem dX11_many_14 : decode cX11_many 14 = .ok (.iload_n 2, 1) := by decide +kernel
theorem dX11_many_15 : decode cX11_many 15 = .ok (.iconst 1, 1) := by decide +kernel
theorem dX11_many_16 : decode cX11_many 16 = .ok (.if_icmp .ge 9, 3) := by decide +kernel
theorem dX11_many_19 : decode cX11_many 19 = .ok (.aload_n 0, 1) := by decide +kernel
theorem dX11_many_20 : decode cX11_many 20 = .ok (.iconst 4, 1) := by decide +kernel
theorem dX11_many_21 : decode cX11_many 21 = .ok (.invokevirtual 84, 3) := by decide +kernel
theorem dX11_many_24 : decode cX11_many 24 = .ok (.ireturn, 1) := by decide +kernel
theorem dX11_many_25 : decode cX11_many 25 = .ok (.iload_n 2, 1) := by decide +kernel
theorem dX11_many_26 : decode cX11_many 26 = .ok (.bipush 20, 2) := by decide +kernel
theorem dX11_many_28 : decode cX11_many 28 = .ok (.if_icmp .le 10, 3) := by decide +kernel
theorem dX11_many_31 : decode cX11_many 31 = .ok (.aload_n 0, 1) := by decide +kernel
theorem dX11_many_32 : decode cX11_many 32 = .ok (.bipush 6, 2) := by decide +kernel
theorem dX11_many_34 : decode cX11_many 34 = .ok (.invokevirtual 84, 3) := by decide +kernel
theorem dX11_many_37 : decode cX11_many 37 = .ok (.ireturn, 1) := by decide +kernel
theorem dX11_many_38 : decode cX11_many 38 = .ok (.aload_n 0, 1) := by decide +kernel
theorem dX11_many_39 : decode cX11_many 39 = .ok (.iload_n 1, 1) := by decide +kernel
theorem dX11_many_40 : decode cX11_many 40 = .ok (.invokevirtual 169, 3) := by decide +kernel
theorem dX11_many_43 : decode cX11_many 43 = .ok (.iload_n 2, 1) := by decide +kernel
theorem dX11_many_44 : decode cX11_many 44 = .ok (.invokevirtual 179, 3) := by decide +kernel
theorem dX11_many_47 : decode cX11_many 47 = .ok (.ireturn, 1) := by decide +kernel
theorem dX11_farthest_0 : decode cX11_farthest 0 = .ok (.aload_n 0, 1) := by decide +kernel
theorem dX11_farthest_1 : decode cX11_farthest 1 = .ok (.iload_n 1, 1) := by decide +kernel
theorem dX11_farthest_2 : decode cX11_farthest 2 = .ok (.invokevirtual 151, 3) := by decide +kernel
theorem dX11_farthest_5 : decode cX11_farthest 5 = .ok (.ifCond .eq 9, 3) := by decide +kernel
theorem dX11_farthest_8 : decode cX11_farthest 8 = .ok (.aload_n 0, 1) := by decide +kernel
theorem dX11_farthest_9 : decode cX11_farthest 9 = .ok (.iconst 1, 1) := by decide +kernel
theorem dX11_farthest_10 : decode cX11_farthest 10 = .ok (.invokevirtual 84, 3) := by decide +kernel
theorem dX11_farthest_13 : decode cX11_farthest 13 = .ok (.ireturn, 1) := by decide +kernel
theorem dX11_farthest_14 : decode cX11_farthest 14 = .ok (.iload_n 2, 1) := by decide +kernel
theorem dX11_farthest_15 : decode cX11_farthest 15 = .ok (.ifCond .eq 14, 3) := by decide +kernel
theorem dX11_farthest_18 : decode cX11_farthest 18 = .ok (.iload_n 2, 1) := by decide +kernel
theorem dX11_farthest_19 : decode cX11_farthest 19 = .ok (.iconst 1, 1) := by decide +kernel
theorem dX11_farthest_20 : decode cX11_farthest 20 = .ok (.if_icmp .eq 9, 3) := by decide +kernel
theorem dX11_farthest_23 : decode cX11_farthest 23 = .ok (.aload_n 0, 1) := by decide +kernel
theorem dX11_farthest_24 : decode cX11_farthest 24 = .ok (.iconst 2, 1) := by decide +kernel
theorem dX11_farthest_25 : decode cX11_farthest 25 = .ok (.invokevirtual 84, 3) := by decide +kernel
theorem dX11_farthest_28 : decode cX11_farthest 28 = .ok (.ireturn, 1) := by decide +kernel
theorem dX11_farthest_29 : decode cX11_farthest 29 = .ok (.aload_n 0, 1) := by decide +kernel
theorem dX11_farthest_30 : decode cX11_farthest 30 = .ok (.iload_n 1, 1) := by decide +kernel
theorem dX11_farthest_31 : decode cX11_farthest 31 = .ok (.invokevirtual 169, 3) := by decide +kernel
theorem dX11_farthest_34 : decode cX11_farthest 34 = .ok (.astore_n 3, 1) := by decide +kernel
theorem dX11_farthest_35 : decode cX11_farthest 35 = .ok (.aload_n 3, 1) := by decide +kernel
theorem dX11_farthest_36 : decode cX11_farthest 36 = .ok (.invokevirtual 182, 3) := by decide +kernel
theorem dX11_farthest_39 : decode cX11_farthest 39 = .ok (.istore 4, 2) := by decide +kernel
theorem dX11_farthest_41 : decode cX11_farthest 41 = .ok (.iload_n 2, 1) := by decide +kernel
theorem dX11_farthest_42 : decode cX11_farthest 42 = .ok (.ifCond .ne 12, 3) := by decide +kernel
theorem dX11_farthest_45 : decode cX11_farthest 45 = .ok (.aload_n 3, 1) := by decide +kernel
theorem dX11_farthest_46 : decode cX11_farthest 46 = .ok (.iload 4, 2) := by decide +kernel
theorem dX11_farthest_48 : decode cX11_farthest 48 = .ok (.invokevirtual 173, 3) := by decide +kernel
theorem dX11_farthest_51 : decode cX11_farthest 51 = .ok (.goto 5, 3) := by decide +kernel
theorem dX11_farthest_54 : decode cX11_farthest 54 = .ok (.iload 4, 2) := by decide +kernel
theorem dX11_farthest_56 : decode cX11_farthest 56 = .ok (.ireturn, 1) := by decide +kernel
theorem dX11_saves_0 : decode cX11_saves 0 = .ok (.aload_n 0, 1) := by decide +kernel
theorem dX11_saves_1 : decode cX11_saves 1 = .ok (.iload_n 1, 1) := by decide +kernel
theorem dX11_saves_2 : decode cX11_saves 2 = .ok (.invokevirtual 151, 3) := by decide +kernel
theorem dX11_saves_5 : decode cX11_saves 5 = .ok (.ifCond .eq 9, 3) := by decide +kernel
theorem dX11_saves_8 : decode cX11_saves 8 = .ok (.aload_n 0, 1) := by decide +kernel
theorem dX11_saves_9 : decode cX11_saves 9 = .ok (.iconst 1, 1) := by decide +kernel
theorem dX11_saves_10 : decode cX11_saves 10 = .ok (.invokevirtual 176, 3) := by decide +kernel
theorem dX11_saves_13 : decode cX11_saves 13 = .ok (.ireturn, 1) := by decide +kernel
theorem dX11_saves_14 : decode cX11_saves 14 = .ok (.iload_n 2, 1) := by decide +kernel
theorem dX11_saves_15 : decode cX11_saves 15 = .ok (.ifCond .ge 9, 3) := by decide +kernel
theorem dX11_saves_18 : decode cX11_saves 18 = .ok (.aload_n 0, 1) := by decide +kernel
theorem dX11_saves_19 : decode cX11_saves 19 = .ok (.iconst 4, 1) := by decide +kernel
theorem dX11_saves_20 : decode cX11_saves 20 = .ok (.invokevirtual 176, 3) := by decide +kernel
theorem dX11_saves_23 : decode cX11_saves 23 = .ok (.ireturn, 1) := by decide +kernel
theorem dX11_saves_24 : decode cX11_saves 24 = .ok (.iload_n 2, 1) := by decide +kernel
theorem dX11_saves_25 : decode cX11_saves 25 = .ok (.sipush 255, 3) := by decide +kernel
theorem dX11_saves_28 : decode cX11_saves 28 = .ok (.if_icmp .le 10, 3) := by decide +kernel
theorem dX11_saves_31 : decode cX11_saves 31 = .ok (.aload_n 0, 1) := by decide +kernel
theorem dX11_saves_32 : decode cX11_saves 32 = .ok (.bipush 6, 2) := by decide +kernel
theorem dX11_saves_34 : decode cX11_saves 34 = .ok (.invokevirtual 176, 3) := by decide +kernel
theorem dX11_saves_37 : decode cX11_saves 37 = .ok (.ireturn, 1) := by decide +kernel
theorem dX11_saves_38 : decode cX11_saves 38 = .ok (.aload_n 0, 1) := by decide +kernel
theorem dX11_saves_39 : decode cX11_saves 39 = .ok (.iload_n 1, 1) := by decide +kernel
theorem dX11_saves_40 : decode cX11_saves 40 = .ok (.invokevirtual 169, 3) := by decide +kernel
theorem dX11_saves_43 : decode cX11_saves 43 = .ok (.astore_n 3, 1) := by decide +kernel
theorem dX11_saves_44 : decode cX11_saves 44 = .ok (.aload_n 3, 1) := by decide +kernel
theorem dX11_saves_45 : decode cX11_saves 45 = .ok (.iload_n 2, 1) := by decide +kernel
theorem dX11_saves_46 : decode cX11_saves 46 = .ok (.invokevirtual 173, 3) := by decide +kernel
theorem dX11_saves_49 : decode cX11_saves 49 = .ok (.istore 4, 2) := by decide +kernel
theorem dX11_saves_51 : decode cX11_saves 51 = .ok (.iload 4, 2) := by decide +kernel
theorem dX11_saves_53 : decode cX11_saves 53 = .ok (.bipush (-9), 2) := by decide +kernel
theorem dX11_saves_55 : decode cX11_saves 55 = .ok (.if_icmp .ne 8, 3) := by decide +kernel
theorem dX11_saves_58 : decode cX11_saves 58 = .ok (.bipush (-9), 2) := by decide +kernel
theorem dX11_saves_60 : decode cX11_saves 60 = .ok (.goto 14, 3) := by decide +kernel
theorem dX11_saves_63 : decode cX11_saves 63 = .ok (.aload_n 0, 1) := by decide +kernel
theorem dX11_saves_64 : decode cX11_saves 64 = .ok (.iload_n 2, 1) := by decide +kernel
theorem dX11_saves_65 : decode cX11_saves 65 = .ok (.aload_n 3, 1) := by decide +kernel
theorem dX11_saves_66 : decode cX11_saves 66 = .ok (.invokevirtual 185, 3) := by decide +kernel
theorem dX11_saves_69 : decode cX11_saves 69 = .ok (.iload 4, 2) := by decide +kernel
theorem dX11_saves_71 : decode cX11_saves 71 = .ok (.isub, 1) := by decide +kernel
theorem dX11_saves_72 : decode cX11_saves 72 = .ok (.iconst 1, 1) := by decide +kernel
theorem dX11_saves_73 : decode cX11_saves 73 = .ok (.isub, 1) := by decide +kernel
theorem dX11_saves_74 : decode cX11_saves 74 = .ok (.ireturn, 1) := by decide +kernel
theorem dX11_joined_0 : decode cX11_joined 0 = .ok (.aload_n 0, 1) := by decide +kernel
theorem dX11_joined_1 : decode cX11_joined 1 = .ok (.iload_n 1, 1) := by decide +kernel
theorem dX11_joined_2 : decode cX11_joined 2 = .ok (.invokevirtual 151, 3) := by decide +kernel
theorem dX11_joined_5 : decode cX11_joined 5 = .ok (.ifCond .eq 9, 3) := by decide +kernel
theorem dX11_joined_8 : decode cX11_joined 8 = .ok (.aload_n 0, 1) := by decide +kernel
theorem dX11_joined_9 : decode cX11_joined 9 = .ok (.iconst 1, 1) := by decide +kernel
theorem dX11_joined_10 : decode cX11_joined 10 = .ok (.invokevirtual 176, 3) := by decide +kernel
theorem dX11_joined_13 : decode cX11_joined 13 = .ok (.ireturn, 1) := by decide +kernel
theorem dX11_joined_14 : decode cX11_joined 14 = .ok (.iload_n 2, 1) := by decide +kernel
theorem dX11_joined_15 : decode cX11_joined 15 = .ok (.ifCond .lt 7, 3) := by decide +kernel
theorem dX11_joined_18 : decode cX11_joined 18 = .ok (.iload_n 3, 1) := by decide +kernel
theorem dX11_joined_19 : decode cX11_joined 19 = .ok (.ifCond .ge 9, 3) := by decide +kernel
theorem dX11_joined_22 : decode cX11_joined 22 = .ok (.aload_n 0, 1) := by decide +kernel
theorem dX11_joined_23 : decode cX11_joined 23 = .ok (.iconst 4, 1) := by decide +kernel
theorem dX11_joined_24 : decode cX11_joined 24 = .ok (.invokevirtual 176, 3) := by decide +kernel
theorem dX11_joined_27 : decode cX11_joined 27 = .ok (.ireturn, 1) := by decide +kernel
theorem dX11_joined_28 : decode cX11_joined 28 = .ok (.iload_n 2, 1) := by decide +kernel
theorem dX11_joined_29 : decode cX11_joined 29 = .ok (.sipush 255, 3) := by decide +kernel
theorem dX11_joined_32 : decode cX11_joined 32 = .ok (.if_icmp .gt 10, 3) := by decide +kernel
theorem dX11_joined_35 : decode cX11_joined 35 = .ok (.iload_n 3, 1) := by decide +kernel
theorem dX11_joined_36 : decode cX11_joined 36 = .ok (.sipush 255, 3) := by decide +kernel
theorem dX11_joined_39 : decode cX11_joined 39 = .ok (.if_icmp .le 10, 3) := by decide +kernel
theorem dX11_joined_42 : decode cX11_joined 42 = .ok (.aload_n 0, 1) := by decide +kernel
theorem dX11_joined_43 : decode cX11_joined 43 = .ok (.bipush 6, 2) := by decide +kernel
theorem dX11_joined_45 : decode cX11_joined 45 = .ok (.invokevirtual 176, 3) := by decide +kernel
theorem dX11_joined_48 : decode cX11_joined 48 = .ok (.ireturn, 1) := by decide +kernel
theorem dX11_joined_49 : decode cX11_joined 49 = .ok (.aload_n 0, 1) := by decide +kernel
theorem dX11_joined_50 : decode cX11_joined 50 = .ok (.iload_n 1, 1) := by decide +kernel
theorem dX11_joined_51 : decode cX11_joined 51 = .ok (.invokevirtual 169, 3) := by decide +kernel
theorem dX11_joined_54 : decode cX11_joined 54 = .ok (.astore 4, 2) := by decide +kernel
theorem dX11_joined_56 : decode cX11_joined 56 = .ok (.aload 4, 2) := by decide +kernel
theorem dX11_joined_58 : decode cX11_joined 58 = .ok (.iload_n 2, 1) := by decide +kernel
theorem dX11_joined_59 : decode cX11_joined 59 = .ok (.invokevirtual 173, 3) := by decide +kernel
theorem dX11_joined_62 : decode cX11_joined 62 = .ok (.istore 5, 2) := by decide +kernel
theorem dX11_joined_64 : decode cX11_joined 64 = .ok (.aload 4, 2) := by decide +kernel
theorem dX11_joined_66 : decode cX11_joined 66 = .ok (.iload_n 3, 1) := by decide +kernel
theorem dX11_joined_67 : decode cX11_joined 67 = .ok (.invokevirtual 173, 3) := by decide +kernel
theorem dX11_joined_70 : decode cX11_joined 70 = .ok (.istore 6, 2) := by decide +kernel
theorem dX11_joined_72 : decode cX11_joined 72 = .ok (.aload 4, 2) := by decide +kernel
theorem dX11_joined_74 : decode cX11_joined 74 = .ok (.iload_n 2, 1) := by decide +kernel
theorem dX11_joined_75 : decode cX11_joined 75 = .ok (.iload_n 3, 1) := by decide +kernel
theorem dX11_joined_76 : decode cX11_joined 76 = .ok (.iand, 1) := by decide +kernel
theorem dX11_joined_77 : decode cX11_joined 77 = .ok (.invokevirtual 173, 3) := by decide +kernel
theorem dX11_joined_80 : decode cX11_joined 80 = .ok (.istore 7, 2) := by decide +kernel
theorem dX11_joined_82 : decode cX11_joined 82 = .ok (.iload 5, 2) := by decide +kernel
theorem dX11_joined_84 : decode cX11_joined 84 = .ok (.bipush (-9), 2) := by decide +kernel
theorem dX11_joined_86 : decode cX11_joined 86 = .ok (.if_icmp .eq 17, 3) := by decide +kernel
theorem dX11_joined_89 : decode cX11_joined 89 = .ok (.iload 6, 2) := by decide +kernel
theorem dX11_joined_91 : decode cX11_joined 91 = .ok (.bipush (-9), 2) := by decide +kernel
theorem dX11_joined_93 : decode cX11_joined 93 = .ok (.if_icmp .eq 10, 3) := by decide +kernel
theorem dX11_joined_96 : decode cX11_joined 96 = .ok (.iload 7, 2) := by decide +kernel
theorem dX11_joined_98 : decode cX11_joined 98 = .ok (.bipush (-9), 2) := by decide +kernel
theorem dX11_joined_100 : decode cX11_joined 100 = .ok (.if_icmp .ne 6, 3) := by decide +kernel
theorem dX11_joined_103 : decode cX11_joined 103 = .ok (.bipush 99, 2) := by decide +kernel
theorem dX11_joined_105 : decode cX11_joined 105 = .ok (.ireturn, 1) := by decide +kernel
theorem dX11_joined_106 : decode cX11_joined 106 = .ok (.iload 7, 2) := by decide +kernel
theorem dX11_joined_108 : decode cX11_joined 108 = .ok (.iload 5, 2) := by decide +kernel
theorem dX11_joined_110 : decode cX11_joined 110 = .ok (.isub, 1) := by decide +kernel
theorem dX11_joined_111 : decode cX11_joined 111 = .ok (.iload 6, 2) := by decide +kernel
theorem dX11_joined_113 : decode cX11_joined 113 = .ok (.isub, 1) := by decide +kernel
theorem dX11_joined_114 : decode cX11_joined 114 = .ok (.ireturn, 1) := by decide +kernel
theorem dX11_drops_0 : decode cX11_drops 0 = .ok (.aload_n 0, 1) := by decide +kernel
theorem dX11_drops_1 : decode cX11_drops 1 = .ok (.iload_n 1, 1) := by decide +kernel
theorem dX11_drops_2 : decode cX11_drops 2 = .ok (.invokevirtual 151, 3) := by decide +kernel
theorem dX11_drops_5 : decode cX11_drops 5 = .ok (.ifCond .ne 11, 3) := by decide +kernel
theorem dX11_drops_8 : decode cX11_drops 8 = .ok (.aload_n 0, 1) := by decide +kernel
theorem dX11_drops_9 : decode cX11_drops 9 = .ok (.iload_n 2, 1) := by decide +kernel
theorem dX11_drops_10 : decode cX11_drops 10 = .ok (.invokevirtual 135, 3) := by decide +kernel
theorem dX11_drops_13 : decode cX11_drops 13 = .ok (.ifCond .eq 9, 3) := by decide +kernel
theorem dX11_drops_16 : decode cX11_drops 16 = .ok (.aload_n 0, 1) := by decide +kernel
theorem dX11_drops_17 : decode cX11_drops 17 = .ok (.iconst 1, 1) := by decide +kernel
theorem dX11_drops_18 : decode cX11_drops 18 = .ok (.invokevirtual 84, 3) := by decide +kernel
theorem dX11_drops_21 : decode cX11_drops 21 = .ok (.ireturn, 1) := by decide +kernel
theorem dX11_drops_22 : decode cX11_drops 22 = .ok (.iload_n 3, 1) := by decide +kernel
theorem dX11_drops_23 : decode cX11_drops 23 = .ok (.ifCond .eq 14, 3) := by decide +kernel
theorem dX11_drops_26 : decode cX11_drops 26 = .ok (.iload_n 3, 1) := by decide +kernel
theorem dX11_drops_27 : decode cX11_drops 27 = .ok (.iconst 1, 1) := by decide +kernel
theorem dX11_drops_28 : decode cX11_drops 28 = .ok (.if_icmp .eq 9, 3) := by decide +kernel
theorem dX11_drops_31 : decode cX11_drops 31 = .ok (.aload_n 0, 1) := by decide +kernel
theorem dX11_drops_32 : decode cX11_drops 32 = .ok (.iconst 2, 1) := by decide +kernel
theorem dX11_drops_33 : decode cX11_drops 33 = .ok (.invokevirtual 84, 3) := by decide +kernel
theorem dX11_drops_36 : decode cX11_drops 36 = .ok (.ireturn, 1) := by decide +kernel
theorem dX11_drops_37 : decode cX11_drops 37 = .ok (.aload_n 0, 1) := by decide +kernel
theorem dX11_drops_38 : decode cX11_drops 38 = .ok (.iload_n 1, 1) := by decide +kernel
theorem dX11_drops_39 : decode cX11_drops 39 = .ok (.invokevirtual 154, 3) := by decide +kernel
theorem dX11_drops_42 : decode cX11_drops 42 = .ok (.aload_n 0, 1) := by decide +kernel
theorem dX11_drops_43 : decode cX11_drops 43 = .ok (.getfield 19, 3) := by decide +kernel
theorem dX11_drops_46 : decode cX11_drops 46 = .ok (.getfield 138, 3) := by decide +kernel
theorem dX11_drops_49 : decode cX11_drops 49 = .ok (.iload_n 2, 1) := by decide +kernel
theorem dX11_drops_50 : decode cX11_drops 50 = .ok (.aaload, 1) := by decide +kernel
theorem dX11_drops_51 : decode cX11_drops 51 = .ok (.astore 4, 2) := by decide +kernel
theorem dX11_drops_53 : decode cX11_drops 53 = .ok (.aload_n 0, 1) := by decide +kernel
theorem dX11_drops_54 : decode cX11_drops 54 = .ok (.getfield 56, 3) := by decide +kernel
theorem dX11_drops_57 : decode cX11_drops 57 = .ok (.aload 4, 2) := by decide +kernel
theorem dX11_drops_59 : decode cX11_drops 59 = .ok (.invokevirtual 189, 3) := by decide +kernel
theorem dX11_drops_62 : decode cX11_drops 62 = .ok (.istore 5, 2) := by decide +kernel
theorem dX11_drops_64 : decode cX11_drops 64 = .ok (.iconst 0, 1) := by decide +kernel
theorem dX11_drops_65 : decode cX11_drops 65 = .ok (.istore 6, 2) := by decide +kernel
theorem dX11_drops_67 : decode cX11_drops 67 = .ok (.aload 4, 2) := by decide +kernel
theorem dX11_drops_69 : decode cX11_drops 69 = .ok (.getfield 142, 3) := by decide +kernel
theorem dX11_drops_72 : decode cX11_drops 72 = .ok (.istore 7, 2) := by decide +kernel
theorem dX11_drops_74 : decode cX11_drops 74 = .ok (.iconst 0, 1) := by decide +kernel
theorem dX11_drops_75 : decode cX11_drops 75 = .ok (.istore 8, 2) := by decide +kernel
theorem dX11_drops_77 : decode cX11_drops 77 = .ok (.iload 8, 2) := by decide +kernel
theorem dX11_drops_79 : decode cX11_drops 79 = .ok (.aload 4, 2) := by decide +kernel
theorem dX11_drops_81 : decode cX11_drops 81 = .ok (.getfield 142, 3) := by decide +kernel
theorem dX11_drops_84 : decode cX11_drops 84 = .ok (.if_icmp .ge 84, 3) := by decide +kernel
theorem dX11_drops_87 : decode cX11_drops 87 = .ok (.aload 4, 2) := by decide +kernel
theorem dX11_drops_89 : decode cX11_drops 89 = .ok (.getfield 145, 3) := by decide +kernel
theorem dX11_drops_92 : decode cX11_drops 92 = .ok (.iload 8, 2) := by decide +kernel
theorem dX11_drops_94 : decode cX11_drops 94 = .ok (.iaload, 1) := by decide +kernel
theorem dX11_drops_95 : decode cX11_drops 95 = .ok (.invokestatic 192, 3) := by decide +kernel
theorem dX11_drops_98 : decode cX11_drops 98 = .ok (.istore 9, 2) := by decide +kernel
theorem dX11_drops_100 : decode cX11_drops 100 = .ok (.iconst 0, 1) := by decide +kernel
theorem dX11_drops_101 : decode cX11_drops 101 = .ok (.istore 10, 2) := by decide +kernel
theorem dX11_drops_103 : decode cX11_drops 103 = .ok (.iload 10, 2) := by decide +kernel
theorem dX11_drops_105 : decode cX11_drops 105 = .ok (.iload 9, 2) := by decide +kernel
theorem dX11_drops_107 : decode cX11_drops 107 = .ok (.if_icmp .ge 55, 3) := by decide +kernel
theorem dX11_drops_110 : decode cX11_drops 110 = .ok (.aload_n 0, 1) := by decide +kernel
theorem dX11_drops_111 : decode cX11_drops 111 = .ok (.getfield 77, 3) := by decide +kernel
theorem dX11_drops_114 : decode cX11_drops 114 = .ok (.aload 4, 2) := by decide +kernel
theorem dX11_drops_116 : decode cX11_drops 116 = .ok (.iload 8, 2) := by decide +kernel
theorem dX11_drops_118 : decode cX11_drops 118 = .ok (.iload 10, 2) := by decide +kernel
theorem dX11_drops_120 : decode cX11_drops 120 = .ok (.invokevirtual 195, 3) := by decide +kernel
theorem dX11_drops_123 : decode cX11_drops 123 = .ok (.aload_n 0, 1) := by decide +kernel
theorem dX11_drops_124 : decode cX11_drops 124 = .ok (.getfield 56, 3) := by decide +kernel
theorem dX11_drops_127 : decode cX11_drops 127 = .ok (.aload_n 0, 1) := by decide +kernel
theorem dX11_drops_128 : decode cX11_drops 128 = .ok (.getfield 77, 3) := by decide +kernel
theorem dX11_drops_131 : decode cX11_drops 131 = .ok (.invokevirtual 189, 3) := by decide +kernel
theorem dX11_drops_134 : decode cX11_drops 134 = .ok (.iload 5, 2) := by decide +kernel
theorem dX11_drops_136 : decode cX11_drops 136 = .ok (.if_icmp .ne 20, 3) := by decide +kernel
theorem dX11_drops_139 : decode cX11_drops 139 = .ok (.iinc 6 1, 3) := by decide +kernel
theorem dX11_drops_142 : decode cX11_drops 142 = .ok (.iload 7, 2) := by decide +kernel
theorem dX11_drops_144 : decode cX11_drops 144 = .ok (.aload_n 0, 1) := by decide +kernel
theorem dX11_drops_145 : decode cX11_drops 145 = .ok (.getfield 77, 3) := by decide +kernel
theorem dX11_drops_148 : decode cX11_drops 148 = .ok (.getfield 142, 3) := by decide +kernel
theorem dX11_drops_151 : decode cX11_drops 151 = .ok (.invokestatic 199, 3) := by decide +kernel
theorem dX11_drops_154 : decode cX11_drops 154 = .ok (.istore 7, 2) := by decide +kernel
theorem dX11_drops_156 : decode cX11_drops 156 = .ok (.iinc 10 1, 3) := by decide +kernel
theorem dX11_drops_159 : decode cX11_drops 159 = .ok (.goto (-56), 3) := by decide +kernel
theorem dX11_drops_162 : decode cX11_drops 162 = .ok (.iinc 8 1, 3) := by decide +kernel
theorem dX11_drops_165 : decode cX11_drops 165 = .ok (.goto (-88), 3) := by decide +kernel
theorem dX11_drops_168 : decode cX11_drops 168 = .ok (.iload_n 3, 1) := by decide +kernel
theorem dX11_drops_169 : decode cX11_drops 169 = .ok (.ifCond .ne 8, 3) := by decide +kernel
theorem dX11_drops_172 : decode cX11_drops 172 = .ok (.iload 6, 2) := by decide +kernel
theorem dX11_drops_174 : decode cX11_drops 174 = .ok (.goto 5, 3) := by decide +kernel
theorem dX11_drops_177 : decode cX11_drops 177 = .ok (.iload 7, 2) := by decide +kernel
theorem dX11_drops_179 : decode cX11_drops 179 = .ok (.ireturn, 1) := by decide +kernel
theorem dX11_heard_0 : decode cX11_heard 0 = .ok (.aload_n 0, 1) := by decide +kernel
theorem dX11_heard_1 : decode cX11_heard 1 = .ok (.iload_n 1, 1) := by decide +kernel
theorem dX11_heard_2 : decode cX11_heard 2 = .ok (.invokevirtual 151, 3) := by decide +kernel
theorem dX11_heard_5 : decode cX11_heard 5 = .ok (.ifCond .ne 11, 3) := by decide +kernel
theorem dX11_heard_8 : decode cX11_heard 8 = .ok (.aload_n 0, 1) := by decide +kernel
theorem dX11_heard_9 : decode cX11_heard 9 = .ok (.iload_n 2, 1) := by decide +kernel
theorem dX11_heard_10 : decode cX11_heard 10 = .ok (.invokevirtual 135, 3) := by decide +kernel
theorem dX11_heard_13 : decode cX11_heard 13 = .ok (.ifCond .eq 9, 3) := by decide +kernel
theorem dX11_heard_16 : decode cX11_heard 16 = .ok (.aload_n 0, 1) := by decide +kernel
theorem dX11_heard_17 : decode cX11_heard 17 = .ok (.iconst 1, 1) := by decide +kernel
theorem dX11_heard_18 : decode cX11_heard 18 = .ok (.invokevirtual 84, 3) := by decide +kernel
theorem dX11_heard_21 : decode cX11_heard 21 = .ok (.ireturn, 1) := by decide +kernel
theorem dX11_heard_22 : decode cX11_heard 22 = .ok (.iload_n 3, 1) := by decide +kernel
theorem dX11_heard_23 : decode cX11_heard 23 = .ok (.ifCond .lt 8, 3) := by decide +kernel
theorem dX11_heard_26 : decode cX11_heard 26 = .ok (.iload 4, 2) := by decide +kernel
theorem dX11_heard_28 : decode cX11_heard 28 = .ok (.ifCond .ge 9, 3) := by decide +kernel
theorem dX11_heard_31 : decode cX11_heard 31 = .ok (.aload_n 0, 1) := by decide +kernel
theorem dX11_heard_32 : decode cX11_heard 32 = .ok (.iconst 4, 1) := by decide +kernel
theorem dX11_heard_33 : decode cX11_heard 33 = .ok (.invokevirtual 84, 3) := by decide +kernel
theorem dX11_heard_36 : decode cX11_heard 36 = .ok (.ireturn, 1) := by decide +kernel
theorem dX11_heard_37 : decode cX11_heard 37 = .ok (.aload_n 0, 1) := by decide +kernel
theorem dX11_heard_38 : decode cX11_heard 38 = .ok (.getfield 19, 3) := by decide +kernel
theorem dX11_heard_41 : decode cX11_heard 41 = .ok (.getfield 138, 3) := by decide +kernel
theorem dX11_heard_44 : decode cX11_heard 44 = .ok (.iload_n 2, 1) := by decide +kernel
theorem dX11_heard_45 : decode cX11_heard 45 = .ok (.aaload, 1) := by decide +kernel
theorem dX11_heard_46 : decode cX11_heard 46 = .ok (.astore 5, 2) := by decide +kernel
theorem dX11_heard_48 : decode cX11_heard 48 = .ok (.iload_n 3, 1) := by decide +kernel
theorem dX11_heard_49 : decode cX11_heard 49 = .ok (.aload 5, 2) := by decide +kernel
theorem dX11_heard_51 : decode cX11_heard 51 = .ok (.getfield 142, 3) := by decide +kernel
theorem dX11_heard_54 : decode cX11_heard 54 = .ok (.if_icmp .ge 11, 3) := by decide +kernel
theorem dX11_heard_57 : decode cX11_heard 57 = .ok (.iload 4, 2) := by decide +kernel
theorem dX11_heard_59 : decode cX11_heard 59 = .ok (.sipush 255, 3) := by decide +kernel
theorem dX11_heard_62 : decode cX11_heard 62 = .ok (.if_icmp .le 10, 3) := by decide +kernel
theorem dX11_heard_65 : decode cX11_heard 65 = .ok (.aload_n 0, 1) := by decide +kernel
theorem dX11_heard_66 : decode cX11_heard 66 = .ok (.bipush 6, 2) := by decide +kernel
theorem dX11_heard_68 : decode cX11_heard 68 = .ok (.invokevirtual 84, 3) := by decide +kernel
theorem dX11_heard_71 : decode cX11_heard 71 = .ok (.ireturn, 1) := by decide +kernel
theorem dX11_heard_72 : decode cX11_heard 72 = .ok (.aload_n 0, 1) := by decide +kernel
theorem dX11_heard_73 : decode cX11_heard 73 = .ok (.iload_n 1, 1) := by decide +kernel
theorem dX11_heard_74 : decode cX11_heard 74 = .ok (.invokevirtual 154, 3) := by decide +kernel
theorem dX11_heard_77 : decode cX11_heard 77 = .ok (.aload 5, 2) := by decide +kernel
theorem dX11_heard_79 : decode cX11_heard 79 = .ok (.getfield 145, 3) := by decide +kernel
theorem dX11_heard_82 : decode cX11_heard 82 = .ok (.iload_n 3, 1) := by decide +kernel
theorem dX11_heard_83 : decode cX11_heard 83 = .ok (.iaload, 1) := by decide +kernel
theorem dX11_heard_84 : decode cX11_heard 84 = .ok (.invokestatic 192, 3) := by decide +kernel
theorem dX11_heard_87 : decode cX11_heard 87 = .ok (.istore 6, 2) := by decide +kernel
theorem dX11_heard_89 : decode cX11_heard 89 = .ok (.aload_n 0, 1) := by decide +kernel
theorem dX11_heard_90 : decode cX11_heard 90 = .ok (.getfield 77, 3) := by decide +kernel
theorem dX11_heard_93 : decode cX11_heard 93 = .ok (.aload 5, 2) := by decide +kernel
theorem dX11_heard_95 : decode cX11_heard 95 = .ok (.invokevirtual 205, 3) := by decide +kernel
theorem dX11_heard_98 : decode cX11_heard 98 = .ok (.iconst 0, 1) := by decide +kernel
theorem dX11_heard_99 : decode cX11_heard 99 = .ok (.istore 7, 2) := by decide +kernel
theorem dX11_heard_101 : decode cX11_heard 101 = .ok (.iconst 0, 1) := by decide +kernel
theorem dX11_heard_102 : decode cX11_heard 102 = .ok (.istore 8, 2) := by decide +kernel
theorem dX11_heard_104 : decode cX11_heard 104 = .ok (.iload 8, 2) := by decide +kernel
theorem dX11_heard_106 : decode cX11_heard 106 = .ok (.getstatic 209, 3) := by decide +kernel
theorem dX11_heard_109 : decode cX11_heard 109 = .ok (.arraylength, 1) := by decide +kernel
theorem dX11_heard_110 : decode cX11_heard 110 = .ok (.if_icmp .ge 67, 3) := by decide +kernel
theorem dX11_heard_113 : decode cX11_heard 113 = .ok (.getstatic 209, 3) := by decide +kernel
theorem dX11_heard_116 : decode cX11_heard 116 = .ok (.iload 8, 2) := by decide +kernel
theorem dX11_heard_118 : decode cX11_heard 118 = .ok (.iaload, 1) := by decide +kernel
theorem dX11_heard_119 : decode cX11_heard 119 = .ok (.invokestatic 192, 3) := by decide +kernel
theorem dX11_heard_122 : decode cX11_heard 122 = .ok (.iload 6, 2) := by decide +kernel
theorem dX11_heard_124 : decode cX11_heard 124 = .ok (.if_icmp .ne 47, 3) := by decide +kernel
theorem dX11_heard_127 : decode cX11_heard 127 = .ok (.aload_n 0, 1) := by decide +kernel
theorem dX11_heard_128 : decode cX11_heard 128 = .ok (.getfield 77, 3) := by decide +kernel
theorem dX11_heard_131 : decode cX11_heard 131 = .ok (.getfield 145, 3) := by decide +kernel
theorem dX11_heard_134 : decode cX11_heard 134 = .ok (.iload_n 3, 1) := by decide +kernel
theorem dX11_heard_135 : decode cX11_heard 135 = .ok (.getstatic 209, 3) := by decide +kernel
theorem dX11_heard_138 : decode cX11_heard 138 = .ok (.iload 8, 2) := by decide +kernel
theorem dX11_heard_140 : decode cX11_heard 140 = .ok (.iaload, 1) := by decide +kernel
theorem dX11_heard_141 : decode cX11_heard 141 = .ok (.iastore, 1) := by decide +kernel
theorem dX11_heard_142 : decode cX11_heard 142 = .ok (.iload 7, 2) := by decide +kernel
theorem dX11_heard_144 : decode cX11_heard 144 = .ok (.aload_n 0, 1) := by decide +kernel
theorem dX11_heard_145 : decode cX11_heard 145 = .ok (.getfield 56, 3) := by decide +kernel
theorem dX11_heard_148 : decode cX11_heard 148 = .ok (.aload_n 0, 1) := by decide +kernel
theorem dX11_heard_149 : decode cX11_heard 149 = .ok (.getfield 77, 3) := by decide +kernel
theorem dX11_heard_152 : decode cX11_heard 152 = .ok (.invokevirtual 189, 3) := by decide +kernel
theorem dX11_heard_155 : decode cX11_heard 155 = .ok (.iload 4, 2) := by decide +kernel
theorem dX11_heard_157 : decode cX11_heard 157 = .ok (.if_icmp .ne 10, 3) := by decide +kernel
theorem dX11_heard_160 : decode cX11_heard 160 = .ok (.iconst 1, 1) := by decide +kernel
theorem dX11_heard_161 : decode cX11_heard 161 = .ok (.iload 8, 2) := by decide +kernel
theorem dX11_heard_163 : decode cX11_heard 163 = .ok (.ishl, 1) := by decide +kernel
theorem dX11_heard_164 : decode cX11_heard 164 = .ok (.goto 4, 3) := by decide +kernel
theorem dX11_heard_167 : decode cX11_heard 167 = .ok (.iconst 0, 1) := by decide +kernel
theorem dX11_heard_168 : decode cX11_heard 168 = .ok (.ior, 1) := by decide +kernel
theorem dX11_heard_169 : decode cX11_heard 169 = .ok (.istore 7, 2) := by decide +kernel
theorem dX11_heard_171 : decode cX11_heard 171 = .ok (.iinc 8 1, 3) := by decide +kernel
theorem dX11_heard_174 : decode cX11_heard 174 = .ok (.goto (-70), 3) := by decide +kernel
theorem dX11_heard_177 : decode cX11_heard 177 = .ok (.iload 7, 2) := by decide +kernel
theorem dX11_heard_179 : decode cX11_heard 179 = .ok (.ireturn, 1) := by decide +kernel
theorem dX11_unlike_0 : decode cX11_unlike 0 = .ok (.aload_n 0, 1) := by decide +kernel
theorem dX11_unlike_1 : decode cX11_unlike 1 = .ok (.iload_n 1, 1) := by decide +kernel
theorem dX11_unlike_2 : decode cX11_unlike 2 = .ok (.invokevirtual 135, 3) := by decide +kernel
theorem dX11_unlike_5 : decode cX11_unlike 5 = .ok (.ifCond .eq 9, 3) := by decide +kernel
theorem dX11_unlike_8 : decode cX11_unlike 8 = .ok (.aload_n 0, 1) := by decide +kernel
theorem dX11_unlike_9 : decode cX11_unlike 9 = .ok (.iconst 1, 1) := by decide +kernel
theorem dX11_unlike_10 : decode cX11_unlike 10 = .ok (.invokevirtual 84, 3) := by decide +kernel
theorem dX11_unlike_13 : decode cX11_unlike 13 = .ok (.ireturn, 1) := by decide +kernel
theorem dX11_unlike_14 : decode cX11_unlike 14 = .ok (.iconst 0, 1) := by decide +kernel
theorem dX11_unlike_15 : decode cX11_unlike 15 = .ok (.istore_n 2, 1) := by decide +kernel
theorem dX11_unlike_16 : decode cX11_unlike 16 = .ok (.iconst 0, 1) := by decide +kernel
theorem dX11_unlike_17 : decode cX11_unlike 17 = .ok (.istore_n 3, 1) := by decide +kernel
theorem dX11_unlike_18 : decode cX11_unlike 18 = .ok (.iload_n 3, 1) := by decide +kernel
theorem dX11_unlike_19 : decode cX11_unlike 19 = .ok (.aload_n 0, 1) := by decide +kernel
theorem dX11_unlike_20 : decode cX11_unlike 20 = .ok (.getfield 19, 3) := by decide +kernel
theorem dX11_unlike_23 : decode cX11_unlike 23 = .ok (.getfield 212, 3) := by decide +kernel
theorem dX11_unlike_26 : decode cX11_unlike 26 = .ok (.if_icmp .ge 21, 3) := by decide +kernel
theorem dX11_unlike_29 : decode cX11_unlike 29 = .ok (.aload_n 0, 1) := by decide +kernel
theorem dX11_unlike_30 : decode cX11_unlike 30 = .ok (.iload_n 3, 1) := by decide +kernel
theorem dX11_unlike_31 : decode cX11_unlike 31 = .ok (.iload_n 1, 1) := by decide +kernel
theorem dX11_unlike_32 : decode cX11_unlike 32 = .ok (.invokevirtual 215, 3) := by decide +kernel
theorem dX11_unlike_35 : decode cX11_unlike 35 = .ok (.ifCond .ne 6, 3) := by decide +kernel
theorem dX11_unlike_38 : decode cX11_unlike 38 = .ok (.iinc 2 1, 3) := by decide +kernel
theorem dX11_unlike_41 : decode cX11_unlike 41 = .ok (.iinc 3 1, 3) := by decide +kernel
theorem dX11_unlike_44 : decode cX11_unlike 44 = .ok (.goto (-26), 3) := by decide +kernel
theorem dX11_unlike_47 : decode cX11_unlike 47 = .ok (.iload_n 2, 1) := by decide +kernel
theorem dX11_unlike_48 : decode cX11_unlike 48 = .ok (.ireturn, 1) := by decide +kernel
theorem dX11_agree_0 : decode cX11_agree 0 = .ok (.iconst 0, 1) := by decide +kernel
theorem dX11_agree_1 : decode cX11_agree 1 = .ok (.istore_n 1, 1) := by decide +kernel
theorem dX11_agree_2 : decode cX11_agree 2 = .ok (.iconst 0, 1) := by decide +kernel
theorem dX11_agree_3 : decode cX11_agree 3 = .ok (.istore_n 2, 1) := by decide +kernel
theorem dX11_agree_4 : decode cX11_agree 4 = .ok (.iload_n 2, 1) := by decide +kernel
theorem dX11_agree_5 : decode cX11_agree 5 = .ok (.aload_n 0, 1) := by decide +kernel
theorem dX11_agree_6 : decode cX11_agree 6 = .ok (.getfield 19, 3) := by decide +kernel
theorem dX11_agree_9 : decode cX11_agree 9 = .ok (.getfield 212, 3) := by decide +kernel
theorem dX11_agree_12 : decode cX11_agree 12 = .ok (.if_icmp .ge 42, 3) := by decide +kernel
theorem dX11_agree_15 : decode cX11_agree 15 = .ok (.iload_n 2, 1) := by decide +kernel
theorem dX11_agree_16 : decode cX11_agree 16 = .ok (.iconst 1, 1) := by decide +kernel
theorem dX11_agree_17 : decode cX11_agree 17 = .ok (.iadd, 1) := by decide +kernel
theorem dX11_agree_18 : decode cX11_agree 18 = .ok (.istore_n 3, 1) := by decide +kernel
theorem dX11_agree_19 : decode cX11_agree 19 = .ok (.iload_n 3, 1) := by decide +kernel
theorem dX11_agree_20 : decode cX11_agree 20 = .ok (.aload_n 0, 1) := by decide +kernel
theorem dX11_agree_21 : decode cX11_agree 21 = .ok (.getfield 19, 3) := by decide +kernel
theorem dX11_agree_24 : decode cX11_agree 24 = .ok (.getfield 212, 3) := by decide +kernel
theorem dX11_agree_27 : decode cX11_agree 27 = .ok (.if_icmp .ge 21, 3) := by decide +kernel
theorem dX11_agree_30 : decode cX11_agree 30 = .ok (.aload_n 0, 1) := by decide +kernel
theorem dX11_agree_31 : decode cX11_agree 31 = .ok (.iload_n 2, 1) := by decide +kernel
theorem dX11_agree_32 : decode cX11_agree 32 = .ok (.iload_n 3, 1) := by decide +kernel
theorem dX11_agree_33 : decode cX11_agree 33 = .ok (.invokevirtual 218, 3) := by decide +kernel
theorem dX11_agree_36 : decode cX11_agree 36 = .ok (.ifCond .eq 6, 3) := by decide +kernel
theorem dX11_agree_39 : decode cX11_agree 39 = .ok (.iinc 1 1, 3) := by decide +kernel
theorem dX11_agree_42 : decode cX11_agree 42 = .ok (.iinc 3 1, 3) := by decide +kernel
theorem dX11_agree_45 : decode cX11_agree 45 = .ok (.goto (-26), 3) := by decide +kernel
theorem dX11_agree_48 : decode cX11_agree 48 = .ok (.iinc 2 1, 3) := by decide +kernel
theorem dX11_agree_51 : decode cX11_agree 51 = .ok (.goto (-47), 3) := by decide +kernel
theorem dX11_agree_54 : decode cX11_agree 54 = .ok (.iload_n 1, 1) := by decide +kernel
theorem dX11_agree_55 : decode cX11_agree 55 = .ok (.ireturn, 1) := by decide +kernel
theorem dX11_row_0 : decode cX11_row 0 = .ok (.iload_n 1, 1) := by decide +kernel
theorem dX11_row_1 : decode cX11_row 1 = .ok (.ifCond .ge 9, 3) := by decide +kernel
theorem dX11_row_4 : decode cX11_row 4 = .ok (.aload_n 0, 1) := by decide +kernel
theorem dX11_row_5 : decode cX11_row 5 = .ok (.iconst 4, 1) := by decide +kernel
theorem dX11_row_6 : decode cX11_row 6 = .ok (.invokevirtual 84, 3) := by decide +kernel
theorem dX11_row_9 : decode cX11_row 9 = .ok (.ireturn, 1) := by decide +kernel
theorem dX11_row_10 : decode cX11_row 10 = .ok (.iload_n 1, 1) := by decide +kernel
theorem dX11_row_11 : decode cX11_row 11 = .ok (.sipush 255, 3) := by decide +kernel
theorem dX11_row_14 : decode cX11_row 14 = .ok (.if_icmp .gt 12, 3) := by decide +kernel
theorem dX11_row_17 : decode cX11_row 17 = .ok (.aload_n 0, 1) := by decide +kernel
theorem dX11_row_18 : decode cX11_row 18 = .ok (.getfield 37, 3) := by decide +kernel
theorem dX11_row_21 : decode cX11_row 21 = .ok (.bipush 6, 2) := by decide +kernel
theorem dX11_row_23 : decode cX11_row 23 = .ok (.if_icmp .lt 10, 3) := by decide +kernel
theorem dX11_row_26 : decode cX11_row 26 = .ok (.aload_n 0, 1) := by decide +kernel
theorem dX11_row_27 : decode cX11_row 27 = .ok (.bipush 6, 2) := by decide +kernel
theorem dX11_row_29 : decode cX11_row 29 = .ok (.invokevirtual 84, 3) := by decide +kernel
theorem dX11_row_32 : decode cX11_row 32 = .ok (.ireturn, 1) := by decide +kernel
theorem dX11_row_33 : decode cX11_row 33 = .ok (.aload_n 0, 1) := by decide +kernel
theorem dX11_row_34 : decode cX11_row 34 = .ok (.getfield 33, 3) := by decide +kernel
theorem dX11_row_37 : decode cX11_row 37 = .ok (.aload_n 0, 1) := by decide +kernel
theorem dX11_row_38 : decode cX11_row 38 = .ok (.getfield 37, 3) := by decide +kernel
theorem dX11_row_41 : decode cX11_row 41 = .ok (.iload_n 1, 1) := by decide +kernel
theorem dX11_row_42 : decode cX11_row 42 = .ok (.iastore, 1) := by decide +kernel
theorem dX11_row_43 : decode cX11_row 43 = .ok (.aload_n 0, 1) := by decide +kernel
theorem dX11_row_44 : decode cX11_row 44 = .ok (.dup, 1) := by decide +kernel
theorem dX11_row_45 : decode cX11_row 45 = .ok (.getfield 37, 3) := by decide +kernel
theorem dX11_row_48 : decode cX11_row 48 = .ok (.iconst 1, 1) := by decide +kernel
theorem dX11_row_49 : decode cX11_row 49 = .ok (.iadd, 1) := by decide +kernel
theorem dX11_row_50 : decode cX11_row 50 = .ok (.putfield 37, 3) := by decide +kernel
theorem dX11_row_53 : decode cX11_row 53 = .ok (.aload_n 0, 1) := by decide +kernel
theorem dX11_row_54 : decode cX11_row 54 = .ok (.getfield 37, 3) := by decide +kernel
theorem dX11_row_57 : decode cX11_row 57 = .ok (.ireturn, 1) := by decide +kernel
theorem dX11_judge_0 : decode cX11_judge 0 = .ok (.aload_n 0, 1) := by decide +kernel
theorem dX11_judge_1 : decode cX11_judge 1 = .ok (.iload_n 1, 1) := by decide +kernel
theorem dX11_judge_2 : decode cX11_judge 2 = .ok (.invokevirtual 151, 3) := by decide +kernel
theorem dX11_judge_5 : decode cX11_judge 5 = .ok (.ifCond .eq 9, 3) := by decide +kernel
theorem dX11_judge_8 : decode cX11_judge 8 = .ok (.aload_n 0, 1) := by decide +kernel
theorem dX11_judge_9 : decode cX11_judge 9 = .ok (.iconst 1, 1) := by decide +kernel
theorem dX11_judge_10 : decode cX11_judge 10 = .ok (.invokevirtual 84, 3) := by decide +kernel
theorem dX11_judge_13 : decode cX11_judge 13 = .ok (.ireturn, 1) := by decide +kernel
theorem dX11_judge_14 : decode cX11_judge 14 = .ok (.aload_n 0, 1) := by decide +kernel
theorem dX11_judge_15 : decode cX11_judge 15 = .ok (.iload_n 1, 1) := by decide +kernel
theorem dX11_judge_16 : decode cX11_judge 16 = .ok (.invokevirtual 154, 3) := by decide +kernel
theorem dX11_judge_19 : decode cX11_judge 19 = .ok (.aload_n 0, 1) := by decide +kernel
theorem dX11_judge_20 : decode cX11_judge 20 = .ok (.getfield 37, 3) := by decide +kernel
theorem dX11_judge_23 : decode cX11_judge 23 = .ok (.istore_n 2, 1) := by decide +kernel
theorem dX11_judge_24 : decode cX11_judge 24 = .ok (.aload_n 0, 1) := by decide +kernel
theorem dX11_judge_25 : decode cX11_judge 25 = .ok (.iconst 0, 1) := by decide +kernel
theorem dX11_judge_26 : decode cX11_judge 26 = .ok (.putfield 37, 3) := by decide +kernel
theorem dX11_judge_29 : decode cX11_judge 29 = .ok (.iload_n 2, 1) := by decide +kernel
theorem dX11_judge_30 : decode cX11_judge 30 = .ok (.aload_n 0, 1) := by decide +kernel
theorem dX11_judge_31 : decode cX11_judge 31 = .ok (.getfield 19, 3) := by decide +kernel
theorem dX11_judge_34 : decode cX11_judge 34 = .ok (.getfield 148, 3) := by decide +kernel
theorem dX11_judge_37 : decode cX11_judge 37 = .ok (.invokestatic 199, 3) := by decide +kernel
theorem dX11_judge_40 : decode cX11_judge 40 = .ok (.istore_n 3, 1) := by decide +kernel
theorem dX11_judge_41 : decode cX11_judge 41 = .ok (.iconst 0, 1) := by decide +kernel
theorem dX11_judge_42 : decode cX11_judge 42 = .ok (.istore 4, 2) := by decide +kernel
theorem dX11_judge_44 : decode cX11_judge 44 = .ok (.iload 4, 2) := by decide +kernel
theorem dX11_judge_46 : decode cX11_judge 46 = .ok (.iload_n 3, 1) := by decide +kernel
theorem dX11_judge_47 : decode cX11_judge 47 = .ok (.if_icmp .ge 28, 3) := by decide +kernel
theorem dX11_judge_50 : decode cX11_judge 50 = .ok (.aload_n 0, 1) := by decide +kernel
theorem dX11_judge_51 : decode cX11_judge 51 = .ok (.iload 4, 2) := by decide +kernel
theorem dX11_judge_53 : decode cX11_judge 53 = .ok (.invokevirtual 157, 3) := by decide +kernel
theorem dX11_judge_56 : decode cX11_judge 56 = .ok (.aload_n 0, 1) := by decide +kernel
theorem dX11_judge_57 : decode cX11_judge 57 = .ok (.getfield 33, 3) := by decide +kernel
theorem dX11_judge_60 : decode cX11_judge 60 = .ok (.iload 4, 2) := by decide +kernel
theorem dX11_judge_62 : decode cX11_judge 62 = .ok (.iaload, 1) := by decide +kernel
theorem dX11_judge_63 : decode cX11_judge 63 = .ok (.if_icmp .eq 6, 3) := by decide +kernel
theorem dX11_judge_66 : decode cX11_judge 66 = .ok (.iload 4, 2) := by decide +kernel
theorem dX11_judge_68 : decode cX11_judge 68 = .ok (.ireturn, 1) := by decide +kernel
theorem dX11_judge_69 : decode cX11_judge 69 = .ok (.iinc 4 1, 3) := by decide +kernel
theorem dX11_judge_72 : decode cX11_judge 72 = .ok (.goto (-28), 3) := by decide +kernel
theorem dX11_judge_75 : decode cX11_judge 75 = .ok (.iload_n 2, 1) := by decide +kernel
theorem dX11_judge_76 : decode cX11_judge 76 = .ok (.aload_n 0, 1) := by decide +kernel
theorem dX11_judge_77 : decode cX11_judge 77 = .ok (.getfield 19, 3) := by decide +kernel
theorem dX11_judge_80 : decode cX11_judge 80 = .ok (.getfield 148, 3) := by decide +kernel
theorem dX11_judge_83 : decode cX11_judge 83 = .ok (.if_icmp .ne 8, 3) := by decide +kernel
theorem dX11_judge_86 : decode cX11_judge 86 = .ok (.bipush (-9), 2) := by decide +kernel
theorem dX11_judge_88 : decode cX11_judge 88 = .ok (.goto 4, 3) := by decide +kernel
theorem dX11_judge_91 : decode cX11_judge 91 = .ok (.iload_n 3, 1) := by decide +kernel
theorem dX11_judge_92 : decode cX11_judge 92 = .ok (.ireturn, 1) := by decide +kernel
theorem dX11_seeds_0 : decode cX11_seeds 0 = .ok (.iload_n 1, 1) := by decide +kernel
theorem dX11_seeds_1 : decode cX11_seeds 1 = .ok (.iconst 1, 1) := by decide +kernel
theorem dX11_seeds_2 : decode cX11_seeds 2 = .ok (.if_icmp .lt 7, 3) := by decide +kernel
theorem dX11_seeds_5 : decode cX11_seeds 5 = .ok (.iload_n 3, 1) := by decide +kernel
theorem dX11_seeds_6 : decode cX11_seeds 6 = .ok (.ifCond .ge 9, 3) := by decide +kernel
theorem dX11_seeds_9 : decode cX11_seeds 9 = .ok (.aload_n 0, 1) := by decide +kernel
theorem dX11_seeds_10 : decode cX11_seeds 10 = .ok (.iconst 4, 1) := by decide +kernel
theorem dX11_seeds_11 : decode cX11_seeds 11 = .ok (.invokevirtual 84, 3) := by decide +kernel
theorem dX11_seeds_14 : decode cX11_seeds 14 = .ok (.ireturn, 1) := by decide +kernel
theorem dX11_seeds_15 : decode cX11_seeds 15 = .ok (.iload_n 1, 1) := by decide +kernel
theorem dX11_seeds_16 : decode cX11_seeds 16 = .ok (.bipush 20, 2) := by decide +kernel
theorem dX11_seeds_18 : decode cX11_seeds 18 = .ok (.if_icmp .gt 10, 3) := by decide +kernel
theorem dX11_seeds_21 : decode cX11_seeds 21 = .ok (.iload_n 3, 1) := by decide +kernel
theorem dX11_seeds_22 : decode cX11_seeds 22 = .ok (.sipush 255, 3) := by decide +kernel
theorem dX11_seeds_25 : decode cX11_seeds 25 = .ok (.if_icmp .le 10, 3) := by decide +kernel
theorem dX11_seeds_28 : decode cX11_seeds 28 = .ok (.aload_n 0, 1) := by decide +kernel
theorem dX11_seeds_29 : decode cX11_seeds 29 = .ok (.bipush 6, 2) := by decide +kernel
theorem dX11_seeds_31 : decode cX11_seeds 31 = .ok (.invokevirtual 84, 3) := by decide +kernel
theorem dX11_seeds_34 : decode cX11_seeds 34 = .ok (.ireturn, 1) := by decide +kernel
theorem dX11_seeds_35 : decode cX11_seeds 35 = .ok (.iload 4, 2) := by decide +kernel
theorem dX11_seeds_37 : decode cX11_seeds 37 = .ok (.ifCond .eq 15, 3) := by decide +kernel
theorem dX11_seeds_40 : decode cX11_seeds 40 = .ok (.iload 4, 2) := by decide +kernel
theorem dX11_seeds_42 : decode cX11_seeds 42 = .ok (.iconst 1, 1) := by decide +kernel
theorem dX11_seeds_43 : decode cX11_seeds 43 = .ok (.if_icmp .eq 9, 3) := by decide +kernel
theorem dX11_seeds_46 : decode cX11_seeds 46 = .ok (.aload_n 0, 1) := by decide +kernel
theorem dX11_seeds_47 : decode cX11_seeds 47 = .ok (.iconst 2, 1) := by decide +kernel
theorem dX11_seeds_48 : decode cX11_seeds 48 = .ok (.invokevirtual 84, 3) := by decide +kernel
theorem dX11_seeds_51 : decode cX11_seeds 51 = .ok (.ireturn, 1) := by decide +kernel
theorem dX11_seeds_52 : decode cX11_seeds 52 = .ok (.aload_n 0, 1) := by decide +kernel
theorem dX11_seeds_53 : decode cX11_seeds 53 = .ok (.iconst (-1), 1) := by decide +kernel
theorem dX11_seeds_54 : decode cX11_seeds 54 = .ok (.invokevirtual 154, 3) := by decide +kernel
theorem dX11_seeds_57 : decode cX11_seeds 57 = .ok (.aload_n 0, 1) := by decide +kernel
theorem dX11_seeds_58 : decode cX11_seeds 58 = .ok (.iload_n 2, 1) := by decide +kernel
theorem dX11_seeds_59 : decode cX11_seeds 59 = .ok (.putfield 81, 3) := by decide +kernel
theorem dX11_seeds_62 : decode cX11_seeds 62 = .ok (.iconst 0, 1) := by decide +kernel
theorem dX11_seeds_63 : decode cX11_seeds 63 = .ok (.istore 5, 2) := by decide +kernel
theorem dX11_seeds_65 : decode cX11_seeds 65 = .ok (.iconst 0, 1) := by decide +kernel
theorem dX11_seeds_66 : decode cX11_seeds 66 = .ok (.istore 6, 2) := by decide +kernel
theorem dX11_seeds_68 : decode cX11_seeds 68 = .ok (.iconst 0, 1) := by decide +kernel
theorem dX11_seeds_69 : decode cX11_seeds 69 = .ok (.istore 7, 2) := by decide +kernel
theorem dX11_seeds_71 : decode cX11_seeds 71 = .ok (.iload 7, 2) := by decide +kernel
theorem dX11_seeds_73 : decode cX11_seeds 73 = .ok (.iload_n 1, 1) := by decide +kernel
theorem dX11_seeds_74 : decode cX11_seeds 74 = .ok (.if_icmp .ge 59, 3) := by decide +kernel
theorem dX11_seeds_77 : decode cX11_seeds 77 = .ok (.aload_n 0, 1) := by decide +kernel
theorem dX11_seeds_78 : decode cX11_seeds 78 = .ok (.getfield 77, 3) := by decide +kernel
theorem dX11_seeds_81 : decode cX11_seeds 81 = .ok (.iconst 0, 1) := by decide +kernel
theorem dX11_seeds_82 : decode cX11_seeds 82 = .ok (.putfield 142, 3) := by decide +kernel
theorem dX11_seeds_85 : decode cX11_seeds 85 = .ok (.aload_n 0, 1) := by decide +kernel
theorem dX11_seeds_86 : decode cX11_seeds 86 = .ok (.iconst 0, 1) := by decide +kernel
theorem dX11_seeds_87 : decode cX11_seeds 87 = .ok (.invokevirtual 221, 3) := by decide +kernel
theorem dX11_seeds_90 : decode cX11_seeds 90 = .ok (.iload 5, 2) := by decide +kernel
theorem dX11_seeds_92 : decode cX11_seeds 92 = .ok (.aload_n 0, 1) := by decide +kernel
theorem dX11_seeds_93 : decode cX11_seeds 93 = .ok (.getfield 77, 3) := by decide +kernel
theorem dX11_seeds_96 : decode cX11_seeds 96 = .ok (.getfield 142, 3) := by decide +kernel
theorem dX11_seeds_99 : decode cX11_seeds 99 = .ok (.iadd, 1) := by decide +kernel
theorem dX11_seeds_100 : decode cX11_seeds 100 = .ok (.istore 5, 2) := by decide +kernel
theorem dX11_seeds_102 : decode cX11_seeds 102 = .ok (.iload 6, 2) := by decide +kernel
theorem dX11_seeds_104 : decode cX11_seeds 104 = .ok (.aload_n 0, 1) := by decide +kernel
theorem dX11_seeds_105 : decode cX11_seeds 105 = .ok (.getfield 56, 3) := by decide +kernel
theorem dX11_seeds_108 : decode cX11_seeds 108 = .ok (.aload_n 0, 1) := by decide +kernel
theorem dX11_seeds_109 : decode cX11_seeds 109 = .ok (.getfield 77, 3) := by decide +kernel
theorem dX11_seeds_112 : decode cX11_seeds 112 = .ok (.invokevirtual 189, 3) := by decide +kernel
theorem dX11_seeds_115 : decode cX11_seeds 115 = .ok (.iload_n 3, 1) := by decide +kernel
theorem dX11_seeds_116 : decode cX11_seeds 116 = .ok (.if_icmp .ne 7, 3) := by decide +kernel
theorem dX11_seeds_119 : decode cX11_seeds 119 = .ok (.iconst 1, 1) := by decide +kernel
theorem dX11_seeds_120 : decode cX11_seeds 120 = .ok (.goto 4, 3) := by decide +kernel
theorem dX11_seeds_123 : decode cX11_seeds 123 = .ok (.iconst 0, 1) := by decide +kernel
theorem dX11_seeds_124 : decode cX11_seeds 124 = .ok (.iadd, 1) := by decide +kernel
theorem dX11_seeds_125 : decode cX11_seeds 125 = .ok (.istore 6, 2) := by decide +kernel
theorem dX11_seeds_127 : decode cX11_seeds 127 = .ok (.iinc 7 1, 3) := by decide +kernel
theorem dX11_seeds_130 : decode cX11_seeds 130 = .ok (.goto (-59), 3) := by decide +kernel
theorem dX11_seeds_133 : decode cX11_seeds 133 = .ok (.iload 4, 2) := by decide +kernel
theorem dX11_seeds_135 : decode cX11_seeds 135 = .ok (.ifCond .ne 8, 3) := by decide +kernel
theorem dX11_seeds_138 : decode cX11_seeds 138 = .ok (.iload 5, 2) := by decide +kernel
theorem dX11_seeds_140 : decode cX11_seeds 140 = .ok (.goto 5, 3) := by decide +kernel
theorem dX11_seeds_143 : decode cX11_seeds 143 = .ok (.iload 6, 2) := by decide +kernel
theorem dX11_seeds_145 : decode cX11_seeds 145 = .ok (.ireturn, 1) := by decide +kernel
theorem dX11_image_0 : decode cX11_image 0 = .ok (.aload_n 0, 1) := by decide +kernel
theorem dX11_image_1 : decode cX11_image 1 = .ok (.getfield 26, 3) := by decide +kernel
theorem dX11_image_4 : decode cX11_image 4 = .ok (.aload_n 0, 1) := by decide +kernel
theorem dX11_image_5 : decode cX11_image 5 = .ok (.getfield 19, 3) := by decide +kernel
theorem dX11_image_8 : decode cX11_image 8 = .ok (.invokevirtual 224, 3) := by decide +kernel
theorem dX11_image_11 : decode cX11_image 11 = .ok (.aload_n 0, 1) := by decide +kernel
theorem dX11_image_12 : decode cX11_image 12 = .ok (.iconst 1, 1) := by decide +kernel
theorem dX11_image_13 : decode cX11_image 13 = .ok (.putfield 29, 3) := by decide +kernel
theorem dX11_image_16 : decode cX11_image 16 = .ok (.aload_n 0, 1) := by decide +kernel
theorem dX11_image_17 : decode cX11_image 17 = .ok (.getfield 19, 3) := by decide +kernel
theorem dX11_image_20 : decode cX11_image 20 = .ok (.getfield 148, 3) := by decide +kernel
theorem dX11_image_23 : decode cX11_image 23 = .ok (.ireturn, 1) := by decide +kernel
theorem dX11_restore_0 : decode cX11_restore 0 = .ok (.aload_n 0, 1) := by decide +kernel
theorem dX11_restore_1 : decode cX11_restore 1 = .ok (.getfield 29, 3) := by decide +kernel
theorem dX11_restore_4 : decode cX11_restore 4 = .ok (.ifCond .ne 9, 3) := by decide +kernel
theorem dX11_restore_7 : decode cX11_restore 7 = .ok (.aload_n 0, 1) := by decide +kernel
theorem dX11_restore_8 : decode cX11_restore 8 = .ok (.iconst 3, 1) := by decide +kernel
theorem dX11_restore_9 : decode cX11_restore 9 = .ok (.invokevirtual 84, 3) := by decide +kernel
theorem dX11_restore_12 : decode cX11_restore 12 = .ok (.ireturn, 1) := by decide +kernel
theorem dX11_restore_13 : decode cX11_restore 13 = .ok (.aload_n 0, 1) := by decide +kernel
theorem dX11_restore_14 : decode cX11_restore 14 = .ok (.getfield 19, 3) := by decide +kernel
theorem dX11_restore_17 : decode cX11_restore 17 = .ok (.aload_n 0, 1) := by decide +kernel
theorem dX11_restore_18 : decode cX11_restore 18 = .ok (.getfield 26, 3) := by decide +kernel
theorem dX11_restore_21 : decode cX11_restore 21 = .ok (.invokevirtual 224, 3) := by decide +kernel
theorem dX11_restore_24 : decode cX11_restore 24 = .ok (.aload_n 0, 1) := by decide +kernel
theorem dX11_restore_25 : decode cX11_restore 25 = .ok (.getfield 19, 3) := by decide +kernel
theorem dX11_restore_28 : decode cX11_restore 28 = .ok (.getfield 148, 3) := by decide +kernel
theorem dX11_restore_31 : decode cX11_restore 31 = .ok (.ireturn, 1) := by decide +kernel
theorem dX11_count_0 : decode cX11_count 0 = .ok (.iload_n 1, 1) := by decide +kernel
theorem dX11_count_1 : decode cX11_count 1 = .ok (.tableswitch 84 0 5 #[39, 47, 55, 63, 71, 79], 39) := by decide +kernel
theorem dX11_count_40 : decode cX11_count 40 = .ok (.aload_n 0, 1) := by decide +kernel
theorem dX11_count_41 : decode cX11_count 41 = .ok (.getfield 19, 3) := by decide +kernel
theorem dX11_count_44 : decode cX11_count 44 = .ok (.getfield 212, 3) := by decide +kernel
theorem dX11_count_47 : decode cX11_count 47 = .ok (.ireturn, 1) := by decide +kernel
theorem dX11_count_48 : decode cX11_count 48 = .ok (.aload_n 0, 1) := by decide +kernel
theorem dX11_count_49 : decode cX11_count 49 = .ok (.getfield 19, 3) := by decide +kernel
theorem dX11_count_52 : decode cX11_count 52 = .ok (.getfield 148, 3) := by decide +kernel
theorem dX11_count_55 : decode cX11_count 55 = .ok (.ireturn, 1) := by decide +kernel
theorem dX11_count_56 : decode cX11_count 56 = .ok (.aload_n 0, 1) := by decide +kernel
theorem dX11_count_57 : decode cX11_count 57 = .ok (.getfield 19, 3) := by decide +kernel
theorem dX11_count_60 : decode cX11_count 60 = .ok (.invokevirtual 227, 3) := by decide +kernel
theorem dX11_count_63 : decode cX11_count 63 = .ok (.ireturn, 1) := by decide +kernel
theorem dX11_count_64 : decode cX11_count 64 = .ok (.aload_n 0, 1) := by decide +kernel
theorem dX11_count_65 : decode cX11_count 65 = .ok (.getfield 19, 3) := by decide +kernel
theorem dX11_count_68 : decode cX11_count 68 = .ok (.invokevirtual 230, 3) := by decide +kernel
theorem dX11_count_71 : decode cX11_count 71 = .ok (.ireturn, 1) := by decide +kernel
theorem dX11_count_72 : decode cX11_count 72 = .ok (.aload_n 0, 1) := by decide +kernel
theorem dX11_count_73 : decode cX11_count 73 = .ok (.getfield 10, 3) := by decide +kernel
theorem dX11_count_76 : decode cX11_count 76 = .ok (.invokevirtual 233, 3) := by decide +kernel
theorem dX11_count_79 : decode cX11_count 79 = .ok (.ireturn, 1) := by decide +kernel
theorem dX11_count_80 : decode cX11_count 80 = .ok (.aload_n 0, 1) := by decide +kernel
theorem dX11_count_81 : decode cX11_count 81 = .ok (.getfield 37, 3) := by decide +kernel
theorem dX11_count_84 : decode cX11_count 84 = .ok (.ireturn, 1) := by decide +kernel
theorem dX11_count_85 : decode cX11_count 85 = .ok (.aload_n 0, 1) := by decide +kernel
theorem dX11_count_86 : decode cX11_count 86 = .ok (.iload_n 1, 1) := by decide +kernel
theorem dX11_count_87 : decode cX11_count 87 = .ok (.invokevirtual 236, 3) := by decide +kernel
theorem dX11_count_90 : decode cX11_count 90 = .ok (.ireturn, 1) := by decide +kernel
theorem dX11_refusalsCounted_0 : decode cX11_refusalsCounted 0 = .ok (.iload_n 1, 1) := by decide +kernel
theorem dX11_refusalsCounted_1 : decode cX11_refusalsCounted 1 = .ok (.bipush 11, 2) := by decide +kernel
theorem dX11_refusalsCounted_3 : decode cX11_refusalsCounted 3 = .ok (.if_icmp .lt 9, 3) := by decide +kernel
theorem dX11_refusalsCounted_6 : decode cX11_refusalsCounted 6 = .ok (.iload_n 1, 1) := by decide +kernel
theorem dX11_refusalsCounted_7 : decode cX11_refusalsCounted 7 = .ok (.bipush 17, 2) := by decide +kernel
theorem dX11_refusalsCounted_9 : decode cX11_refusalsCounted 9 = .ok (.if_icmp .lt 6, 3) := by decide +kernel
theorem dX11_refusalsCounted_12 : decode cX11_refusalsCounted 12 = .ok (.bipush (-9), 2) := by decide +kernel
theorem dX11_refusalsCounted_14 : decode cX11_refusalsCounted 14 = .ok (.ireturn, 1) := by decide +kernel
theorem dX11_refusalsCounted_15 : decode cX11_refusalsCounted 15 = .ok (.aload_n 0, 1) := by decide +kernel
theorem dX11_refusalsCounted_16 : decode cX11_refusalsCounted 16 = .ok (.getfield 41, 3) := by decide +kernel
theorem dX11_refusalsCounted_19 : decode cX11_refusalsCounted 19 = .ok (.iload_n 1, 1) := by decide +kernel
theorem dX11_refusalsCounted_20 : decode cX11_refusalsCounted 20 = .ok (.bipush 11, 2) := by decide +kernel
theorem dX11_refusalsCounted_22 : decode cX11_refusalsCounted 22 = .ok (.isub, 1) := by decide +kernel
theorem dX11_refusalsCounted_23 : decode cX11_refusalsCounted 23 = .ok (.iconst 1, 1) := by decide +kernel
theorem dX11_refusalsCounted_24 : decode cX11_refusalsCounted 24 = .ok (.iadd, 1) := by decide +kernel
theorem dX11_refusalsCounted_25 : decode cX11_refusalsCounted 25 = .ok (.iaload, 1) := by decide +kernel
theorem dX11_refusalsCounted_26 : decode cX11_refusalsCounted 26 = .ok (.ireturn, 1) := by decide +kernel
theorem dX11_refused_0 : decode cX11_refused 0 = .ok (.aload_n 0, 1) := by decide +kernel
theorem dX11_refused_1 : decode cX11_refused 1 = .ok (.getfield 41, 3) := by decide +kernel
theorem dX11_refused_4 : decode cX11_refused 4 = .ok (.iload_n 1, 1) := by decide +kernel
theorem dX11_refused_5 : decode cX11_refused 5 = .ok (.dup2, 1) := by decide +kernel
theorem dX11_refused_6 : decode cX11_refused 6 = .ok (.iaload, 1) := by decide +kernel
theorem dX11_refused_7 : decode cX11_refused 7 = .ok (.iconst 1, 1) := by decide +kernel
theorem dX11_refused_8 : decode cX11_refused 8 = .ok (.iadd, 1) := by decide +kernel
theorem dX11_refused_9 : decode cX11_refused 9 = .ok (.iastore, 1) := by decide +kernel
theorem dX11_refused_10 : decode cX11_refused 10 = .ok (.iload_n 1, 1) := by decide +kernel
theorem dX11_refused_11 : decode cX11_refused 11 = .ok (.ineg, 1) := by decide +kernel
theorem dX11_refused_12 : decode cX11_refused 12 = .ok (.ireturn, 1) := by decide +kernel
theorem dX11_refusedFarOff_0 : decode cX11_refusedFarOff 0 = .ok (.ldc 239, 2) := by decide +kernel
theorem dX11_refusedFarOff_2 : decode cX11_refusedFarOff 2 = .ok (.aload_n 0, 1) := by decide +kernel
theorem dX11_refusedFarOff_3 : decode cX11_refusedFarOff 3 = .ok (.iload_n 1, 1) := by decide +kernel
theorem dX11_refusedFarOff_4 : decode cX11_refusedFarOff 4 = .ok (.invokevirtual 84, 3) := by decide +kernel
theorem dX11_refusedFarOff_7 : decode cX11_refusedFarOff 7 = .ok (.isub, 1) := by decide +kernel
theorem dX11_refusedFarOff_8 : decode cX11_refusedFarOff 8 = .ok (.ireturn, 1) := by decide +kernel
theorem dX11_noStranger_0 : decode cX11_noStranger 0 = .ok (.iload_n 1, 1) := by decide +kernel
theorem dX11_noStranger_1 : decode cX11_noStranger 1 = .ok (.ifCond .lt 14, 3) := by decide +kernel
theorem dX11_noStranger_4 : decode cX11_noStranger 4 = .ok (.iload_n 1, 1) := by decide +kernel
theorem dX11_noStranger_5 : decode cX11_noStranger 5 = .ok (.aload_n 0, 1) := by decide +kernel
theorem dX11_noStranger_6 : decode cX11_noStranger 6 = .ok (.getfield 19, 3) := by decide +kernel
theorem dX11_noStranger_9 : decode cX11_noStranger 9 = .ok (.getfield 212, 3) := by decide +kernel
theorem dX11_noStranger_12 : decode cX11_noStranger 12 = .ok (.if_icmp .lt 7, 3) := by decide +kernel
theorem dX11_noStranger_15 : decode cX11_noStranger 15 = .ok (.iconst 1, 1) := by decide +kernel
theorem dX11_noStranger_16 : decode cX11_noStranger 16 = .ok (.goto 4, 3) := by decide +kernel
theorem dX11_noStranger_19 : decode cX11_noStranger 19 = .ok (.iconst 0, 1) := by decide +kernel
theorem dX11_noStranger_20 : decode cX11_noStranger 20 = .ok (.ireturn, 1) := by decide +kernel
theorem dX11_noListener_0 : decode cX11_noListener 0 = .ok (.iload_n 1, 1) := by decide +kernel
theorem dX11_noListener_1 : decode cX11_noListener 1 = .ok (.iconst (-1), 1) := by decide +kernel
theorem dX11_noListener_2 : decode cX11_noListener 2 = .ok (.if_icmp .eq 15, 3) := by decide +kernel
theorem dX11_noListener_5 : decode cX11_noListener 5 = .ok (.aload_n 0, 1) := by decide +kernel
theorem dX11_noListener_6 : decode cX11_noListener 6 = .ok (.iload_n 1, 1) := by decide +kernel
theorem dX11_noListener_7 : decode cX11_noListener 7 = .ok (.invokevirtual 108, 3) := by decide +kernel
theorem dX11_noListener_10 : decode cX11_noListener 10 = .ok (.ifCond .eq 7, 3) := by decide +kernel
theorem dX11_noListener_13 : decode cX11_noListener 13 = .ok (.iconst 1, 1) := by decide +kernel
theorem dX11_noListener_14 : decode cX11_noListener 14 = .ok (.goto 4, 3) := by decide +kernel
theorem dX11_noListener_17 : decode cX11_noListener 17 = .ok (.iconst 0, 1) := by decide +kernel
theorem dX11_noListener_18 : decode cX11_noListener 18 = .ok (.ireturn, 1) := by decide +kernel
theorem dX11_noScholar_0 : decode cX11_noScholar 0 = .ok (.iload_n 1, 1) := by decide +kernel
theorem dX11_noScholar_1 : decode cX11_noScholar 1 = .ok (.ifCond .lt 14, 3) := by decide +kernel
theorem dX11_noScholar_4 : decode cX11_noScholar 4 = .ok (.iload_n 1, 1) := by decide +kernel
theorem dX11_noScholar_5 : decode cX11_noScholar 5 = .ok (.aload_n 0, 1) := by decide +kernel
theorem dX11_noScholar_6 : decode cX11_noScholar 6 = .ok (.getfield 19, 3) := by decide +kernel
theorem dX11_noScholar_9 : decode cX11_noScholar 9 = .ok (.getfield 148, 3) := by decide +kernel
theorem dX11_noScholar_12 : decode cX11_noScholar 12 = .ok (.if_icmp .lt 7, 3) := by decide +kernel
theorem dX11_noScholar_15 : decode cX11_noScholar 15 = .ok (.iconst 1, 1) := by decide +kernel
theorem dX11_noScholar_16 : decode cX11_noScholar 16 = .ok (.goto 4, 3) := by decide +kernel
theorem dX11_noScholar_19 : decode cX11_noScholar 19 = .ok (.iconst 0, 1) := by decide +kernel
theorem dX11_noScholar_20 : decode cX11_noScholar 20 = .ok (.ireturn, 1) := by decide +kernel
theorem dX11_noName_0 : decode cX11_noName 0 = .ok (.iload_n 0, 1) := by decide +kernel
theorem dX11_noName_1 : decode cX11_noName 1 = .ok (.ifCond .lt 8, 3) := by decide +kernel
theorem dX11_noName_4 : decode cX11_noName 4 = .ok (.iload_n 0, 1) := by decide +kernel
theorem dX11_noName_5 : decode cX11_noName 5 = .ok (.iconst 4, 1) := by decide +kernel
theorem dX11_noName_6 : decode cX11_noName 6 = .ok (.if_icmp .lt 7, 3) := by decide +kernel
theorem dX11_noName_9 : decode cX11_noName 9 = .ok (.iconst 1, 1) := by decide +kernel
theorem dX11_noName_10 : decode cX11_noName 10 = .ok (.goto 4, 3) := by decide +kernel
theorem dX11_noName_13 : decode cX11_noName 13 = .ok (.iconst 0, 1) := by decide +kernel
theorem dX11_noName_14 : decode cX11_noName 14 = .ok (.ireturn, 1) := by decide +kernel
theorem dX11_listenAs_0 : decode cX11_listenAs 0 = .ok (.aload_n 0, 1) := by decide +kernel
theorem dX11_listenAs_1 : decode cX11_listenAs 1 = .ok (.iload_n 1, 1) := by decide +kernel
theorem dX11_listenAs_2 : decode cX11_listenAs 2 = .ok (.invokevirtual 108, 3) := by decide +kernel
theorem dX11_listenAs_5 : decode cX11_listenAs 5 = .ok (.ifCond .eq 26, 3) := by decide +kernel
theorem dX11_listenAs_8 : decode cX11_listenAs 8 = .ok (.aload_n 0, 1) := by decide +kernel
theorem dX11_listenAs_9 : decode cX11_listenAs 9 = .ok (.getfield 56, 3) := by decide +kernel
theorem dX11_listenAs_12 : decode cX11_listenAs 12 = .ok (.aload_n 0, 1) := by decide +kernel
theorem dX11_listenAs_13 : decode cX11_listenAs 13 = .ok (.getfield 49, 3) := by decide +kernel
theorem dX11_listenAs_16 : decode cX11_listenAs 16 = .ok (.aload_n 0, 1) := by decide +kernel
theorem dX11_listenAs_17 : decode cX11_listenAs 17 = .ok (.getfield 19, 3) := by decide +kernel
theorem dX11_listenAs_20 : decode cX11_listenAs 20 = .ok (.getfield 132, 3) := by decide +kernel
theorem dX11_listenAs_23 : decode cX11_listenAs 23 = .ok (.bipush 15, 2) := by decide +kernel
theorem dX11_listenAs_25 : decode cX11_listenAs 25 = .ok (.invokevirtual 240, 3) := by decide +kernel
theorem dX11_listenAs_28 : decode cX11_listenAs 28 = .ok (.goto 35, 3) := by decide +kernel
theorem dX11_listenAs_31 : decode cX11_listenAs 31 = .ok (.aload_n 0, 1) := by decide +kernel
theorem dX11_listenAs_32 : decode cX11_listenAs 32 = .ok (.getfield 56, 3) := by decide +kernel
theorem dX11_listenAs_35 : decode cX11_listenAs 35 = .ok (.aload_n 0, 1) := by decide +kernel
theorem dX11_listenAs_36 : decode cX11_listenAs 36 = .ok (.getfield 19, 3) := by decide +kernel
theorem dX11_listenAs_39 : decode cX11_listenAs 39 = .ok (.getfield 112, 3) := by decide +kernel
theorem dX11_listenAs_42 : decode cX11_listenAs 42 = .ok (.iload_n 1, 1) := by decide +kernel
theorem dX11_listenAs_43 : decode cX11_listenAs 43 = .ok (.aaload, 1) := by decide +kernel
theorem dX11_listenAs_44 : decode cX11_listenAs 44 = .ok (.aload_n 0, 1) := by decide +kernel
theorem dX11_listenAs_45 : decode cX11_listenAs 45 = .ok (.getfield 19, 3) := by decide +kernel
theorem dX11_listenAs_48 : decode cX11_listenAs 48 = .ok (.getfield 132, 3) := by decide +kernel
theorem dX11_listenAs_51 : decode cX11_listenAs 51 = .ok (.aload_n 0, 1) := by decide +kernel
theorem dX11_listenAs_52 : decode cX11_listenAs 52 = .ok (.getfield 19, 3) := by decide +kernel
theorem dX11_listenAs_55 : decode cX11_listenAs 55 = .ok (.getfield 122, 3) := by decide +kernel
theorem dX11_listenAs_58 : decode cX11_listenAs 58 = .ok (.iload_n 1, 1) := by decide +kernel
theorem dX11_listenAs_59 : decode cX11_listenAs 59 = .ok (.iaload, 1) := by decide +kernel
theorem dX11_listenAs_60 : decode cX11_listenAs 60 = .ok (.invokevirtual 240, 3) := by decide +kernel
theorem dX11_listenAs_63 : decode cX11_listenAs 63 = .ok (.return_, 1) := by decide +kernel
theorem dX11_meaningOf_0 : decode cX11_meaningOf 0 = .ok (.aload_n 0, 1) := by decide +kernel
theorem dX11_meaningOf_1 : decode cX11_meaningOf 1 = .ok (.getfield 56, 3) := by decide +kernel
theorem dX11_meaningOf_4 : decode cX11_meaningOf 4 = .ok (.aload_n 0, 1) := by decide +kernel
theorem dX11_meaningOf_5 : decode cX11_meaningOf 5 = .ok (.getfield 19, 3) := by decide +kernel
theorem dX11_meaningOf_8 : decode cX11_meaningOf 8 = .ok (.getfield 138, 3) := by decide +kernel
theorem dX11_meaningOf_11 : decode cX11_meaningOf 11 = .ok (.iload_n 1, 1) := by decide +kernel
theorem dX11_meaningOf_12 : decode cX11_meaningOf 12 = .ok (.aaload, 1) := by decide +kernel
theorem dX11_meaningOf_13 : decode cX11_meaningOf 13 = .ok (.invokevirtual 189, 3) := by decide +kernel
theorem dX11_meaningOf_16 : decode cX11_meaningOf 16 = .ok (.ireturn, 1) := by decide +kernel
theorem dX11_concludeAllAs_0 : decode cX11_concludeAllAs 0 = .ok (.aload_n 0, 1) := by decide +kernel
theorem dX11_concludeAllAs_1 : decode cX11_concludeAllAs 1 = .ok (.iload_n 1, 1) := by decide +kernel
theorem dX11_concludeAllAs_2 : decode cX11_concludeAllAs 2 = .ok (.invokevirtual 154, 3) := by decide +kernel
theorem dX11_concludeAllAs_5 : decode cX11_concludeAllAs 5 = .ok (.iconst 0, 1) := by decide +kernel
theorem dX11_concludeAllAs_6 : decode cX11_concludeAllAs 6 = .ok (.istore_n 2, 1) := by decide +kernel
theorem dX11_concludeAllAs_7 : decode cX11_concludeAllAs 7 = .ok (.iload_n 2, 1) := by decide +kernel
theorem dX11_concludeAllAs_8 : decode cX11_concludeAllAs 8 = .ok (.aload_n 0, 1) := by decide +kernel
theorem dX11_concludeAllAs_9 : decode cX11_concludeAllAs 9 = .ok (.getfield 19, 3) := by decide +kernel
theorem dX11_concludeAllAs_12 : decode cX11_concludeAllAs 12 = .ok (.getfield 148, 3) := by decide +kernel
theorem dX11_concludeAllAs_15 : decode cX11_concludeAllAs 15 = .ok (.if_icmp .ge 20, 3) := by decide +kernel
theorem dX11_concludeAllAs_18 : decode cX11_concludeAllAs 18 = .ok (.aload_n 0, 1) := by decide +kernel
theorem dX11_concludeAllAs_19 : decode cX11_concludeAllAs 19 = .ok (.getfield 60, 3) := by decide +kernel
theorem dX11_concludeAllAs_22 : decode cX11_concludeAllAs 22 = .ok (.iload_n 2, 1) := by decide +kernel
theorem dX11_concludeAllAs_23 : decode cX11_concludeAllAs 23 = .ok (.aload_n 0, 1) := by decide +kernel
theorem dX11_concludeAllAs_24 : decode cX11_concludeAllAs 24 = .ok (.iload_n 2, 1) := by decide +kernel
theorem dX11_concludeAllAs_25 : decode cX11_concludeAllAs 25 = .ok (.invokevirtual 157, 3) := by decide +kernel
theorem dX11_concludeAllAs_28 : decode cX11_concludeAllAs 28 = .ok (.iastore, 1) := by decide +kernel
theorem dX11_concludeAllAs_29 : decode cX11_concludeAllAs 29 = .ok (.iinc 2 1, 3) := by decide +kernel
theorem dX11_concludeAllAs_32 : decode cX11_concludeAllAs 32 = .ok (.goto (-25), 3) := by decide +kernel
theorem dX11_concludeAllAs_35 : decode cX11_concludeAllAs 35 = .ok (.return_, 1) := by decide +kernel
theorem dX11_beats_0 : decode cX11_beats 0 = .ok (.aload_n 0, 1) := by decide +kernel
theorem dX11_beats_1 : decode cX11_beats 1 = .ok (.getfield 19, 3) := by decide +kernel
theorem dX11_beats_4 : decode cX11_beats 4 = .ok (.getfield 138, 3) := by decide +kernel
theorem dX11_beats_7 : decode cX11_beats 7 = .ok (.iload_n 1, 1) := by decide +kernel
theorem dX11_beats_8 : decode cX11_beats 8 = .ok (.aaload, 1) := by decide +kernel
theorem dX11_beats_9 : decode cX11_beats 9 = .ok (.getfield 142, 3) := by decide +kernel
theorem dX11_beats_12 : decode cX11_beats 12 = .ok (.aload_n 0, 1) := by decide +kernel
theorem dX11_beats_13 : decode cX11_beats 13 = .ok (.getfield 19, 3) := by decide +kernel
theorem dX11_beats_16 : decode cX11_beats 16 = .ok (.getfield 138, 3) := by decide +kernel
theorem dX11_beats_19 : decode cX11_beats 19 = .ok (.iload_n 2, 1) := by decide +kernel
theorem dX11_beats_20 : decode cX11_beats 20 = .ok (.aaload, 1) := by decide +kernel
theorem dX11_beats_21 : decode cX11_beats 21 = .ok (.getfield 142, 3) := by decide +kernel
theorem dX11_beats_24 : decode cX11_beats 24 = .ok (.if_icmp .ge 22, 3) := by decide +kernel
theorem dX11_beats_27 : decode cX11_beats 27 = .ok (.aload_n 0, 1) := by decide +kernel
theorem dX11_beats_28 : decode cX11_beats 28 = .ok (.getfield 60, 3) := by decide +kernel
theorem dX11_beats_31 : decode cX11_beats 31 = .ok (.iload_n 1, 1) := by decide +kernel
theorem dX11_beats_32 : decode cX11_beats 32 = .ok (.iaload, 1) := by decide +kernel
theorem dX11_beats_33 : decode cX11_beats 33 = .ok (.aload_n 0, 1) := by decide +kernel
theorem dX11_beats_34 : decode cX11_beats 34 = .ok (.getfield 60, 3) := by decide +kernel
theorem dX11_beats_37 : decode cX11_beats 37 = .ok (.iload_n 2, 1) := by decide +kernel
theorem dX11_beats_38 : decode cX11_beats 38 = .ok (.iaload, 1) := by decide +kernel
theorem dX11_beats_39 : decode cX11_beats 39 = .ok (.if_icmp .ne 7, 3) := by decide +kernel
theorem dX11_beats_42 : decode cX11_beats 42 = .ok (.iconst 1, 1) := by decide +kernel
theorem dX11_beats_43 : decode cX11_beats 43 = .ok (.goto 4, 3) := by decide +kernel
theorem dX11_beats_46 : decode cX11_beats 46 = .ok (.iconst 0, 1) := by decide +kernel
theorem dX11_beats_47 : decode cX11_beats 47 = .ok (.ireturn, 1) := by decide +kernel
theorem dX11_isBeaten_0 : decode cX11_isBeaten 0 = .ok (.iconst 0, 1) := by decide +kernel
theorem dX11_isBeaten_1 : decode cX11_isBeaten 1 = .ok (.istore_n 2, 1) := by decide +kernel
theorem dX11_isBeaten_2 : decode cX11_isBeaten 2 = .ok (.iload_n 2, 1) := by decide +kernel
theorem dX11_isBeaten_3 : decode cX11_isBeaten 3 = .ok (.aload_n 0, 1) := by decide +kernel
theorem dX11_isBeaten_4 : decode cX11_isBeaten 4 = .ok (.getfield 19, 3) := by decide +kernel
theorem dX11_isBeaten_7 : decode cX11_isBeaten 7 = .ok (.getfield 148, 3) := by decide +kernel
theorem dX11_isBeaten_10 : decode cX11_isBeaten 10 = .ok (.if_icmp .ge 20, 3) := by decide +kernel
theorem dX11_isBeaten_13 : decode cX11_isBeaten 13 = .ok (.aload_n 0, 1) := by decide +kernel
theorem dX11_isBeaten_14 : decode cX11_isBeaten 14 = .ok (.iload_n 2, 1) := by decide +kernel
theorem dX11_isBeaten_15 : decode cX11_isBeaten 15 = .ok (.iload_n 1, 1) := by decide +kernel
theorem dX11_isBeaten_16 : decode cX11_isBeaten 16 = .ok (.invokevirtual 163, 3) := by decide +kernel
theorem dX11_isBeaten_19 : decode cX11_isBeaten 19 = .ok (.ifCond .eq 5, 3) := by decide +kernel
theorem dX11_isBeaten_22 : decode cX11_isBeaten 22 = .ok (.iconst 1, 1) := by decide +kernel
theorem dX11_isBeaten_23 : decode cX11_isBeaten 23 = .ok (.ireturn, 1) := by decide +kernel
theorem dX11_isBeaten_24 : decode cX11_isBeaten 24 = .ok (.iinc 2 1, 3) := by decide +kernel
theorem dX11_isBeaten_27 : decode cX11_isBeaten 27 = .ok (.goto (-25), 3) := by decide +kernel
theorem dX11_isBeaten_30 : decode cX11_isBeaten 30 = .ok (.iconst 0, 1) := by decide +kernel
theorem dX11_isBeaten_31 : decode cX11_isBeaten 31 = .ok (.ireturn, 1) := by decide +kernel
theorem dX11_fewestFor_0 : decode cX11_fewestFor 0 = .ok (.aload_n 0, 1) := by decide +kernel
theorem dX11_fewestFor_1 : decode cX11_fewestFor 1 = .ok (.iload_n 1, 1) := by decide +kernel
theorem dX11_fewestFor_2 : decode cX11_fewestFor 2 = .ok (.invokevirtual 154, 3) := by decide +kernel
theorem dX11_fewestFor_5 : decode cX11_fewestFor 5 = .ok (.aload_n 0, 1) := by decide +kernel
theorem dX11_fewestFor_6 : decode cX11_fewestFor 6 = .ok (.getfield 65, 3) := by decide +kernel
theorem dX11_fewestFor_9 : decode cX11_fewestFor 9 = .ok (.aload_n 0, 1) := by decide +kernel
theorem dX11_fewestFor_10 : decode cX11_fewestFor 10 = .ok (.iload_n 1, 1) := by decide +kernel
theorem dX11_fewestFor_11 : decode cX11_fewestFor 11 = .ok (.invokevirtual 108, 3) := by decide +kernel
theorem dX11_fewestFor_14 : decode cX11_fewestFor 14 = .ok (.ifCond .eq 7, 3) := by decide +kernel
theorem dX11_fewestFor_17 : decode cX11_fewestFor 17 = .ok (.iconst 5, 1) := by decide +kernel
theorem dX11_fewestFor_18 : decode cX11_fewestFor 18 = .ok (.goto 4, 3) := by decide +kernel
theorem dX11_fewestFor_21 : decode cX11_fewestFor 21 = .ok (.iload_n 1, 1) := by decide +kernel
theorem dX11_fewestFor_22 : decode cX11_fewestFor 22 = .ok (.aaload, 1) := by decide +kernel
theorem dX11_fewestFor_23 : decode cX11_fewestFor 23 = .ok (.astore_n 2, 1) := by decide +kernel
theorem dX11_fewestFor_24 : decode cX11_fewestFor 24 = .ok (.aload_n 2, 1) := by decide +kernel
theorem dX11_fewestFor_25 : decode cX11_fewestFor 25 = .ok (.aload_n 0, 1) := by decide +kernel
theorem dX11_fewestFor_26 : decode cX11_fewestFor 26 = .ok (.getfield 56, 3) := by decide +kernel
theorem dX11_fewestFor_29 : decode cX11_fewestFor 29 = .ok (.invokevirtual 244, 3) := by decide +kernel
theorem dX11_fewestFor_32 : decode cX11_fewestFor 32 = .ok (.aload_n 2, 1) := by decide +kernel
theorem dX11_fewestFor_33 : decode cX11_fewestFor 33 = .ok (.areturn, 1) := by decide +kernel
theorem dX11_wordsSavedBy_0 : decode cX11_wordsSavedBy 0 = .ok (.aload_n 0, 1) := by decide +kernel
theorem dX11_wordsSavedBy_1 : decode cX11_wordsSavedBy 1 = .ok (.getfield 56, 3) := by decide +kernel
theorem dX11_wordsSavedBy_4 : decode cX11_wordsSavedBy 4 = .ok (.iload_n 1, 1) := by decide +kernel
theorem dX11_wordsSavedBy_5 : decode cX11_wordsSavedBy 5 = .ok (.invokevirtual 248, 3) := by decide +kernel
theorem dX11_wordsSavedBy_8 : decode cX11_wordsSavedBy 8 = .ok (.aload_n 0, 1) := by decide +kernel
theorem dX11_wordsSavedBy_9 : decode cX11_wordsSavedBy 9 = .ok (.getfield 70, 3) := by decide +kernel
theorem dX11_wordsSavedBy_12 : decode cX11_wordsSavedBy 12 = .ok (.aload_n 0, 1) := by decide +kernel
theorem dX11_wordsSavedBy_13 : decode cX11_wordsSavedBy 13 = .ok (.getfield 56, 3) := by decide +kernel
theorem dX11_wordsSavedBy_16 : decode cX11_wordsSavedBy 16 = .ok (.invokevirtual 244, 3) := by decide +kernel
theorem dX11_wordsSavedBy_19 : decode cX11_wordsSavedBy 19 = .ok (.iconst 0, 1) := by decide +kernel
theorem dX11_wordsSavedBy_20 : decode cX11_wordsSavedBy 20 = .ok (.istore_n 3, 1) := by decide +kernel
theorem dX11_wordsSavedBy_21 : decode cX11_wordsSavedBy 21 = .ok (.iconst 0, 1) := by decide +kernel
theorem dX11_wordsSavedBy_22 : decode cX11_wordsSavedBy 22 = .ok (.istore 4, 2) := by decide +kernel
theorem dX11_wordsSavedBy_24 : decode cX11_wordsSavedBy 24 = .ok (.iload 4, 2) := by decide +kernel
theorem dX11_wordsSavedBy_26 : decode cX11_wordsSavedBy 26 = .ok (.aload_n 0, 1) := by decide +kernel
theorem dX11_wordsSavedBy_27 : decode cX11_wordsSavedBy 27 = .ok (.getfield 19, 3) := by decide +kernel
theorem dX11_wordsSavedBy_30 : decode cX11_wordsSavedBy 30 = .ok (.getfield 148, 3) := by decide +kernel
theorem dX11_wordsSavedBy_33 : decode cX11_wordsSavedBy 33 = .ok (.if_icmp .ge 47, 3) := by decide +kernel
theorem dX11_wordsSavedBy_36 : decode cX11_wordsSavedBy 36 = .ok (.aload_n 0, 1) := by decide +kernel
theorem dX11_wordsSavedBy_37 : decode cX11_wordsSavedBy 37 = .ok (.iload 4, 2) := by decide +kernel
theorem dX11_wordsSavedBy_39 : decode cX11_wordsSavedBy 39 = .ok (.invokevirtual 157, 3) := by decide +kernel
theorem dX11_wordsSavedBy_42 : decode cX11_wordsSavedBy 42 = .ok (.istore 5, 2) := by decide +kernel
theorem dX11_wordsSavedBy_44 : decode cX11_wordsSavedBy 44 = .ok (.aload_n 2, 1) := by decide +kernel
theorem dX11_wordsSavedBy_45 : decode cX11_wordsSavedBy 45 = .ok (.iload 5, 2) := by decide +kernel
theorem dX11_wordsSavedBy_47 : decode cX11_wordsSavedBy 47 = .ok (.invokevirtual 173, 3) := by decide +kernel
theorem dX11_wordsSavedBy_50 : decode cX11_wordsSavedBy 50 = .ok (.istore 6, 2) := by decide +kernel
theorem dX11_wordsSavedBy_52 : decode cX11_wordsSavedBy 52 = .ok (.iload 6, 2) := by decide +kernel
theorem dX11_wordsSavedBy_54 : decode cX11_wordsSavedBy 54 = .ok (.bipush (-9), 2) := by decide +kernel
theorem dX11_wordsSavedBy_56 : decode cX11_wordsSavedBy 56 = .ok (.if_icmp .eq 18, 3) := by decide +kernel
theorem dX11_wordsSavedBy_59 : decode cX11_wordsSavedBy 59 = .ok (.iload_n 3, 1) := by decide +kernel
theorem dX11_wordsSavedBy_60 : decode cX11_wordsSavedBy 60 = .ok (.iload 6, 2) := by decide +kernel
theorem dX11_wordsSavedBy_62 : decode cX11_wordsSavedBy 62 = .ok (.aload_n 0, 1) := by decide +kernel
theorem dX11_wordsSavedBy_63 : decode cX11_wordsSavedBy 63 = .ok (.getfield 70, 3) := by decide +kernel
theorem dX11_wordsSavedBy_66 : decode cX11_wordsSavedBy 66 = .ok (.iload 5, 2) := by decide +kernel
theorem dX11_wordsSavedBy_68 : decode cX11_wordsSavedBy 68 = .ok (.invokevirtual 173, 3) := by decide +kernel
theorem dX11_wordsSavedBy_71 : decode cX11_wordsSavedBy 71 = .ok (.isub, 1) := by decide +kernel
theorem dX11_wordsSavedBy_72 : decode cX11_wordsSavedBy 72 = .ok (.iadd, 1) := by decide +kernel
theorem dX11_wordsSavedBy_73 : decode cX11_wordsSavedBy 73 = .ok (.istore_n 3, 1) := by decide +kernel
theorem dX11_wordsSavedBy_74 : decode cX11_wordsSavedBy 74 = .ok (.iinc 4 1, 3) := by decide +kernel
theorem dX11_wordsSavedBy_77 : decode cX11_wordsSavedBy 77 = .ok (.goto (-53), 3) := by decide +kernel
theorem dX11_wordsSavedBy_80 : decode cX11_wordsSavedBy 80 = .ok (.iload_n 3, 1) := by decide +kernel
theorem dX11_wordsSavedBy_81 : decode cX11_wordsSavedBy 81 = .ok (.ireturn, 1) := by decide +kernel
theorem dX11_isConcludedBefore_0 : decode cX11_isConcludedBefore 0 = .ok (.aload_n 0, 1) := by decide +kernel
theorem dX11_isConcludedBefore_1 : decode cX11_isConcludedBefore 1 = .ok (.iload_n 1, 1) := by decide +kernel
theorem dX11_isConcludedBefore_2 : decode cX11_isConcludedBefore 2 = .ok (.invokevirtual 154, 3) := by decide +kernel
theorem dX11_isConcludedBefore_5 : decode cX11_isConcludedBefore 5 = .ok (.aload_n 0, 1) := by decide +kernel
theorem dX11_isConcludedBefore_6 : decode cX11_isConcludedBefore 6 = .ok (.iload_n 2, 1) := by decide +kernel
theorem dX11_isConcludedBefore_7 : decode cX11_isConcludedBefore 7 = .ok (.invokevirtual 157, 3) := by decide +kernel
theorem dX11_isConcludedBefore_10 : decode cX11_isConcludedBefore 10 = .ok (.istore_n 3, 1) := by decide +kernel
theorem dX11_isConcludedBefore_11 : decode cX11_isConcludedBefore 11 = .ok (.iconst 0, 1) := by decide +kernel
theorem dX11_isConcludedBefore_12 : decode cX11_isConcludedBefore 12 = .ok (.istore 4, 2) := by decide +kernel
theorem dX11_isConcludedBefore_14 : decode cX11_isConcludedBefore 14 = .ok (.iload 4, 2) := by decide +kernel
theorem dX11_isConcludedBefore_16 : decode cX11_isConcludedBefore 16 = .ok (.iload_n 1, 1) := by decide +kernel
theorem dX11_isConcludedBefore_17 : decode cX11_isConcludedBefore 17 = .ok (.if_icmp .ge 26, 3) := by decide +kernel
theorem dX11_isConcludedBefore_20 : decode cX11_isConcludedBefore 20 = .ok (.aload_n 0, 1) := by decide +kernel
theorem dX11_isConcludedBefore_21 : decode cX11_isConcludedBefore 21 = .ok (.iload 4, 2) := by decide +kernel
theorem dX11_isConcludedBefore_23 : decode cX11_isConcludedBefore 23 = .ok (.invokevirtual 154, 3) := by decide +kernel
theorem dX11_isConcludedBefore_26 : decode cX11_isConcludedBefore 26 = .ok (.aload_n 0, 1) := by decide +kernel
theorem dX11_isConcludedBefore_27 : decode cX11_isConcludedBefore 27 = .ok (.iload_n 2, 1) := by decide +kernel
theorem dX11_isConcludedBefore_28 : decode cX11_isConcludedBefore 28 = .ok (.invokevirtual 157, 3) := by decide +kernel
theorem dX11_isConcludedBefore_31 : decode cX11_isConcludedBefore 31 = .ok (.iload_n 3, 1) := by decide +kernel
theorem dX11_isConcludedBefore_32 : decode cX11_isConcludedBefore 32 = .ok (.if_icmp .ne 5, 3) := by decide +kernel
theorem dX11_isConcludedBefore_35 : decode cX11_isConcludedBefore 35 = .ok (.iconst 1, 1) := by decide +kernel
theorem dX11_isConcludedBefore_36 : decode cX11_isConcludedBefore 36 = .ok (.ireturn, 1) := by decide +kernel
theorem dX11_isConcludedBefore_37 : decode cX11_isConcludedBefore 37 = .ok (.iinc 4 1, 3) := by decide +kernel
theorem dX11_isConcludedBefore_40 : decode cX11_isConcludedBefore 40 = .ok (.goto (-26), 3) := by decide +kernel
theorem dX11_isConcludedBefore_43 : decode cX11_isConcludedBefore 43 = .ok (.iconst 0, 1) := by decide +kernel
theorem dX11_isConcludedBefore_44 : decode cX11_isConcludedBefore 44 = .ok (.ireturn, 1) := by decide +kernel
theorem dX11_concludeAlike_0 : decode cX11_concludeAlike 0 = .ok (.iconst 0, 1) := by decide +kernel
theorem dX11_concludeAlike_1 : decode cX11_concludeAlike 1 = .ok (.istore_n 3, 1) := by decide +kernel
theorem dX11_concludeAlike_2 : decode cX11_concludeAlike 2 = .ok (.iload_n 3, 1) := by decide +kernel
theorem dX11_concludeAlike_3 : decode cX11_concludeAlike 3 = .ok (.aload_n 0, 1) := by decide +kernel
theorem dX11_concludeAlike_4 : decode cX11_concludeAlike 4 = .ok (.getfield 19, 3) := by decide +kernel
theorem dX11_concludeAlike_7 : decode cX11_concludeAlike 7 = .ok (.getfield 148, 3) := by decide +kernel
theorem dX11_concludeAlike_10 : decode cX11_concludeAlike 10 = .ok (.if_icmp .ge 38, 3) := by decide +kernel
theorem dX11_concludeAlike_13 : decode cX11_concludeAlike 13 = .ok (.aload_n 0, 1) := by decide +kernel
theorem dX11_concludeAlike_14 : decode cX11_concludeAlike 14 = .ok (.iload_n 1, 1) := by decide +kernel
theorem dX11_concludeAlike_15 : decode cX11_concludeAlike 15 = .ok (.invokevirtual 154, 3) := by decide +kernel
theorem dX11_concludeAlike_18 : decode cX11_concludeAlike 18 = .ok (.aload_n 0, 1) := by decide +kernel
theorem dX11_concludeAlike_19 : decode cX11_concludeAlike 19 = .ok (.iload_n 3, 1) := by decide +kernel
theorem dX11_concludeAlike_20 : decode cX11_concludeAlike 20 = .ok (.invokevirtual 157, 3) := by decide +kernel
theorem dX11_concludeAlike_23 : decode cX11_concludeAlike 23 = .ok (.istore 4, 2) := by decide +kernel
theorem dX11_concludeAlike_25 : decode cX11_concludeAlike 25 = .ok (.aload_n 0, 1) := by decide +kernel
theorem dX11_concludeAlike_26 : decode cX11_concludeAlike 26 = .ok (.iload_n 2, 1) := by decide +kernel
theorem dX11_concludeAlike_27 : decode cX11_concludeAlike 27 = .ok (.invokevirtual 154, 3) := by decide +kernel
theorem dX11_concludeAlike_30 : decode cX11_concludeAlike 30 = .ok (.aload_n 0, 1) := by decide +kernel
theorem dX11_concludeAlike_31 : decode cX11_concludeAlike 31 = .ok (.iload_n 3, 1) := by decide +kernel
theorem dX11_concludeAlike_32 : decode cX11_concludeAlike 32 = .ok (.invokevirtual 157, 3) := by decide +kernel
theorem dX11_concludeAlike_35 : decode cX11_concludeAlike 35 = .ok (.iload 4, 2) := by decide +kernel
theorem dX11_concludeAlike_37 : decode cX11_concludeAlike 37 = .ok (.if_icmp .eq 5, 3) := by decide +kernel
theorem dX11_concludeAlike_40 : decode cX11_concludeAlike 40 = .ok (.iconst 0, 1) := by decide +kernel
theorem dX11_concludeAlike_41 : decode cX11_concludeAlike 41 = .ok (.ireturn, 1) := by decide +kernel
theorem dX11_concludeAlike_42 : decode cX11_concludeAlike 42 = .ok (.iinc 3 1, 3) := by decide +kernel
theorem dX11_concludeAlike_45 : decode cX11_concludeAlike 45 = .ok (.goto (-43), 3) := by decide +kernel
theorem dX11_concludeAlike_48 : decode cX11_concludeAlike 48 = .ok (.iconst 1, 1) := by decide +kernel
theorem dX11_concludeAlike_49 : decode cX11_concludeAlike 49 = .ok (.ireturn, 1) := by decide +kernel
theorem dX11_drawSaying_0 : decode cX11_drawSaying 0 = .ok (.getstatic 251, 3) := by decide +kernel
theorem dX11_drawSaying_3 : decode cX11_drawSaying 3 = .ok (.aload_n 0, 1) := by decide +kernel
theorem dX11_drawSaying_4 : decode cX11_drawSaying 4 = .ok (.iload_n 1, 1) := by decide +kernel
theorem dX11_drawSaying_5 : decode cX11_drawSaying 5 = .ok (.iconst 3, 1) := by decide +kernel
theorem dX11_drawSaying_6 : decode cX11_drawSaying 6 = .ok (.if_icmp .ge 10, 3) := by decide +kernel
theorem dX11_drawSaying_9 : decode cX11_drawSaying 9 = .ok (.getstatic 251, 3) := by decide +kernel
theorem dX11_drawSaying_12 : decode cX11_drawSaying 12 = .ok (.arraylength, 1) := by decide +kernel
theorem dX11_drawSaying_13 : decode cX11_drawSaying 13 = .ok (.goto 7, 3) := by decide +kernel
theorem dX11_drawSaying_16 : decode cX11_drawSaying 16 = .ok (.getstatic 254, 3) := by decide +kernel
theorem dX11_drawSaying_19 : decode cX11_drawSaying 19 = .ok (.arraylength, 1) := by decide +kernel
theorem dX11_drawSaying_20 : decode cX11_drawSaying 20 = .ok (.invokevirtual 257, 3) := by decide +kernel
theorem dX11_drawSaying_23 : decode cX11_drawSaying 23 = .ok (.iaload, 1) := by decide +kernel
theorem dX11_drawSaying_24 : decode cX11_drawSaying 24 = .ok (.istore_n 2, 1) := by decide +kernel
theorem dX11_drawSaying_25 : decode cX11_drawSaying 25 = .ok (.aload_n 0, 1) := by decide +kernel
theorem dX11_drawSaying_26 : decode cX11_drawSaying 26 = .ok (.getfield 77, 3) := by decide +kernel
theorem dX11_drawSaying_29 : decode cX11_drawSaying 29 = .ok (.iload_n 2, 1) := by decide +kernel
theorem dX11_drawSaying_30 : decode cX11_drawSaying 30 = .ok (.invokevirtual 260, 3) := by decide +kernel
theorem dX11_drawSaying_33 : decode cX11_drawSaying 33 = .ok (.iload_n 1, 1) := by decide +kernel
theorem dX11_drawSaying_34 : decode cX11_drawSaying 34 = .ok (.iconst 3, 1) := by decide +kernel
theorem dX11_drawSaying_35 : decode cX11_drawSaying 35 = .ok (.if_icmp .ge 10, 3) := by decide +kernel
theorem dX11_drawSaying_38 : decode cX11_drawSaying 38 = .ok (.iload_n 2, 1) := by decide +kernel
theorem dX11_drawSaying_39 : decode cX11_drawSaying 39 = .ok (.invokestatic 192, 3) := by decide +kernel
theorem dX11_drawSaying_42 : decode cX11_drawSaying 42 = .ok (.goto 4, 3) := by decide +kernel
theorem dX11_drawSaying_45 : decode cX11_drawSaying 45 = .ok (.iconst 0, 1) := by decide +kernel
theorem dX11_drawSaying_46 : decode cX11_drawSaying 46 = .ok (.istore_n 3, 1) := by decide +kernel
theorem dX11_drawSaying_47 : decode cX11_drawSaying 47 = .ok (.iconst 0, 1) := by decide +kernel
theorem dX11_drawSaying_48 : decode cX11_drawSaying 48 = .ok (.istore 4, 2) := by decide +kernel
theorem dX11_drawSaying_50 : decode cX11_drawSaying 50 = .ok (.iload 4, 2) := by decide +kernel
theorem dX11_drawSaying_52 : decode cX11_drawSaying 52 = .ok (.iload_n 3, 1) := by decide +kernel
theorem dX11_drawSaying_53 : decode cX11_drawSaying 53 = .ok (.if_icmp .ge 16, 3) := by decide +kernel
theorem dX11_drawSaying_56 : decode cX11_drawSaying 56 = .ok (.aload_n 0, 1) := by decide +kernel
theorem dX11_drawSaying_57 : decode cX11_drawSaying 57 = .ok (.iload_n 1, 1) := by decide +kernel
theorem dX11_drawSaying_58 : decode cX11_drawSaying 58 = .ok (.iconst 1, 1) := by decide +kernel
theorem dX11_drawSaying_59 : decode cX11_drawSaying 59 = .ok (.iadd, 1) := by decide +kernel
theorem dX11_drawSaying_60 : decode cX11_drawSaying 60 = .ok (.invokevirtual 221, 3) := by decide +kernel
theorem dX11_drawSaying_63 : decode cX11_drawSaying 63 = .ok (.iinc 4 1, 3) := by decide +kernel
theorem dX11_drawSaying_66 : decode cX11_drawSaying 66 = .ok (.goto (-16), 3) := by decide +kernel
theorem dX11_drawSaying_69 : decode cX11_drawSaying 69 = .ok (.return_, 1) := by decide +kernel
theorem dX11_drawBelow_0 : decode cX11_drawBelow 0 = .ok (.aload_n 0, 1) := by decide +kernel
theorem dX11_drawBelow_1 : decode cX11_drawBelow 1 = .ok (.aload_n 0, 1) := by decide +kernel
theorem dX11_drawBelow_2 : decode cX11_drawBelow 2 = .ok (.getfield 81, 3) := by decide +kernel
theorem dX11_drawBelow_5 : decode cX11_drawBelow 5 = .ok (.ldc_w 262, 3) := by decide +kernel
theorem dX11_drawBelow_8 : decode cX11_drawBelow 8 = .ok (.imul, 1) := by decide +kernel
theorem dX11_drawBelow_9 : decode cX11_drawBelow 9 = .ok (.sipush 12345, 3) := by decide +kernel
theorem dX11_drawBelow_12 : decode cX11_drawBelow 12 = .ok (.iadd, 1) := by decide +kernel
theorem dX11_drawBelow_13 : decode cX11_drawBelow 13 = .ok (.putfield 81, 3) := by decide +kernel
theorem dX11_drawBelow_16 : decode cX11_drawBelow 16 = .ok (.iload_n 1, 1) := by decide +kernel
theorem dX11_drawBelow_17 : decode cX11_drawBelow 17 = .ok (.ifCond .le 20, 3) := by decide +kernel
theorem dX11_drawBelow_20 : decode cX11_drawBelow 20 = .ok (.aload_n 0, 1) := by decide +kernel
theorem dX11_drawBelow_21 : decode cX11_drawBelow 21 = .ok (.getfield 81, 3) := by decide +kernel
theorem dX11_drawBelow_24 : decode cX11_drawBelow 24 = .ok (.ldc_w 263, 3) := by decide +kernel
theorem dX11_drawBelow_27 : decode cX11_drawBelow 27 = .ok (.iand, 1) := by decide +kernel
theorem dX11_drawBelow_28 : decode cX11_drawBelow 28 = .ok (.ldc_w 264, 3) := by decide +kernel
theorem dX11_drawBelow_31 : decode cX11_drawBelow 31 = .ok (.idiv, 1) := by decide +kernel
theorem dX11_drawBelow_32 : decode cX11_drawBelow 32 = .ok (.iload_n 1, 1) := by decide +kernel
theorem dX11_drawBelow_33 : decode cX11_drawBelow 33 = .ok (.irem, 1) := by decide +kernel
theorem dX11_drawBelow_34 : decode cX11_drawBelow 34 = .ok (.goto 4, 3) := by decide +kernel
theorem dX11_drawBelow_37 : decode cX11_drawBelow 37 = .ok (.iconst 0, 1) := by decide +kernel
theorem dX11_drawBelow_38 : decode cX11_drawBelow 38 = .ok (.ireturn, 1) := by decide +kernel
theorem dX11_tellAll_0 : decode cX11_tellAll 0 = .ok (.aload_n 0, 1) := by decide +kernel
theorem dX11_tellAll_1 : decode cX11_tellAll 1 = .ok (.getfield 23, 3) := by decide +kernel
theorem dX11_tellAll_4 : decode cX11_tellAll 4 = .ok (.aload_n 0, 1) := by decide +kernel
theorem dX11_tellAll_5 : decode cX11_tellAll 5 = .ok (.getfield 19, 3) := by decide +kernel
theorem dX11_tellAll_8 : decode cX11_tellAll 8 = .ok (.invokevirtual 224, 3) := by decide +kernel
theorem dX11_tellAll_11 : decode cX11_tellAll 11 = .ok (.aload_n 0, 1) := by decide +kernel
theorem dX11_tellAll_12 : decode cX11_tellAll 12 = .ok (.getfield 10, 3) := by decide +kernel
theorem dX11_tellAll_15 : decode cX11_tellAll 15 = .ok (.invokevirtual 265, 3) := by decide +kernel
theorem dX11_tellAll_18 : decode cX11_tellAll 18 = .ok (.iconst 0, 1) := by decide +kernel
theorem dX11_tellAll_19 : decode cX11_tellAll 19 = .ok (.istore_n 1, 1) := by decide +kernel
theorem dX11_tellAll_20 : decode cX11_tellAll 20 = .ok (.aload_n 0, 1) := by decide +kernel
theorem dX11_tellAll_21 : decode cX11_tellAll 21 = .ok (.getfield 10, 3) := by decide +kernel
theorem dX11_tellAll_24 : decode cX11_tellAll 24 = .ok (.invokevirtual 268, 3) := by decide +kernel
theorem dX11_tellAll_27 : decode cX11_tellAll 27 = .ok (.ifCond .eq 36, 3) := by decide +kernel
theorem dX11_tellAll_30 : decode cX11_tellAll 30 = .ok (.iload_n 1, 1) := by decide +kernel
theorem dX11_tellAll_31 : decode cX11_tellAll 31 = .ok (.bipush 80, 2) := by decide +kernel
theorem dX11_tellAll_33 : decode cX11_tellAll 33 = .ok (.if_icmp .ge 30, 3) := by decide +kernel
theorem dX11_tellAll_36 : decode cX11_tellAll 36 = .ok (.aload_n 0, 1) := by decide +kernel
theorem dX11_tellAll_37 : decode cX11_tellAll 37 = .ok (.getfield 10, 3) := by decide +kernel
theorem dX11_tellAll_40 : decode cX11_tellAll 40 = .ok (.invokevirtual 102, 3) := by decide +kernel
theorem dX11_tellAll_43 : decode cX11_tellAll 43 = .ok (.istore_n 2, 1) := by decide +kernel
theorem dX11_tellAll_44 : decode cX11_tellAll 44 = .ok (.aload_n 0, 1) := by decide +kernel
theorem dX11_tellAll_45 : decode cX11_tellAll 45 = .ok (.invokevirtual 271, 3) := by decide +kernel
theorem dX11_tellAll_48 : decode cX11_tellAll 48 = .ok (.ifCond .ne 9, 3) := by decide +kernel
theorem dX11_tellAll_51 : decode cX11_tellAll 51 = .ok (.sipush (-2000), 3) := by decide +kernel
theorem dX11_tellAll_54 : decode cX11_tellAll 54 = .ok (.iload_n 2, 1) := by decide +kernel
theorem dX11_tellAll_55 : decode cX11_tellAll 55 = .ok (.isub, 1) := by decide +kernel
theorem dX11_tellAll_56 : decode cX11_tellAll 56 = .ok (.ireturn, 1) := by decide +kernel
theorem dX11_tellAll_57 : decode cX11_tellAll 57 = .ok (.iinc 1 1, 3) := by decide +kernel
theorem dX11_tellAll_60 : decode cX11_tellAll 60 = .ok (.goto (-40), 3) := by decide +kernel
theorem dX11_tellAll_63 : decode cX11_tellAll 63 = .ok (.aload_n 0, 1) := by decide +kernel
theorem dX11_tellAll_64 : decode cX11_tellAll 64 = .ok (.getfield 19, 3) := by decide +kernel
theorem dX11_tellAll_67 : decode cX11_tellAll 67 = .ok (.astore_n 2, 1) := by decide +kernel
theorem dX11_tellAll_68 : decode cX11_tellAll 68 = .ok (.aload_n 0, 1) := by decide +kernel
theorem dX11_tellAll_69 : decode cX11_tellAll 69 = .ok (.aload_n 0, 1) := by decide +kernel
theorem dX11_tellAll_70 : decode cX11_tellAll 70 = .ok (.getfield 23, 3) := by decide +kernel
theorem dX11_tellAll_73 : decode cX11_tellAll 73 = .ok (.putfield 19, 3) := by decide +kernel
theorem dX11_tellAll_76 : decode cX11_tellAll 76 = .ok (.aload_n 0, 1) := by decide +kernel
theorem dX11_tellAll_77 : decode cX11_tellAll 77 = .ok (.aload_n 2, 1) := by decide +kernel
theorem dX11_tellAll_78 : decode cX11_tellAll 78 = .ok (.putfield 23, 3) := by decide +kernel
theorem dX11_tellAll_81 : decode cX11_tellAll 81 = .ok (.iload_n 1, 1) := by decide +kernel
theorem dX11_tellAll_82 : decode cX11_tellAll 82 = .ok (.ireturn, 1) := by decide +kernel
theorem dX11_tellStatement_0 : decode cX11_tellStatement 0 = .ok (.aload_n 0, 1) := by decide +kernel
theorem dX11_tellStatement_1 : decode cX11_tellStatement 1 = .ok (.getfield 10, 3) := by decide +kernel
theorem dX11_tellStatement_4 : decode cX11_tellStatement 4 = .ok (.invokevirtual 274, 3) := by decide +kernel
theorem dX11_tellStatement_7 : decode cX11_tellStatement 7 = .ok (.lookupswitch 152 #[(99, 88), (104, 62), (115, 33)], 33) := by decide +kernel
theorem dX11_tellStatement_40 : decode cX11_tellStatement 40 = .ok (.aload_n 0, 1) := by decide +kernel
theorem dX11_tellStatement_41 : decode cX11_tellStatement 41 = .ok (.getfield 10, 3) := by decide +kernel
theorem dX11_tellStatement_44 : decode cX11_tellStatement 44 = .ok (.invokevirtual 277, 3) := by decide +kernel
theorem dX11_tellStatement_47 : decode cX11_tellStatement 47 = .ok (.istore_n 2, 1) := by decide +kernel
theorem dX11_tellStatement_48 : decode cX11_tellStatement 48 = .ok (.aload_n 0, 1) := by decide +kernel
theorem dX11_tellStatement_49 : decode cX11_tellStatement 49 = .ok (.getfield 10, 3) := by decide +kernel
theorem dX11_tellStatement_52 : decode cX11_tellStatement 52 = .ok (.invokevirtual 277, 3) := by decide +kernel
theorem dX11_tellStatement_55 : decode cX11_tellStatement 55 = .ok (.istore_n 3, 1) := by decide +kernel
theorem dX11_tellStatement_56 : decode cX11_tellStatement 56 = .ok (.aload_n 0, 1) := by decide +kernel
theorem dX11_tellStatement_57 : decode cX11_tellStatement 57 = .ok (.getfield 23, 3) := by decide +kernel
theorem dX11_tellStatement_60 : decode cX11_tellStatement 60 = .ok (.iload_n 2, 1) := by decide +kernel
theorem dX11_tellStatement_61 : decode cX11_tellStatement 61 = .ok (.iload_n 3, 1) := by decide +kernel
theorem dX11_tellStatement_62 : decode cX11_tellStatement 62 = .ok (.invokevirtual 280, 3) := by decide +kernel
theorem dX11_tellStatement_65 : decode cX11_tellStatement 65 = .ok (.istore_n 1, 1) := by decide +kernel
theorem dX11_tellStatement_66 : decode cX11_tellStatement 66 = .ok (.goto 119, 3) := by decide +kernel
theorem dX11_tellStatement_69 : decode cX11_tellStatement 69 = .ok (.aload_n 0, 1) := by decide +kernel
theorem dX11_tellStatement_70 : decode cX11_tellStatement 70 = .ok (.getfield 10, 3) := by decide +kernel
theorem dX11_tellStatement_73 : decode cX11_tellStatement 73 = .ok (.aload_n 0, 1) := by decide +kernel
theorem dX11_tellStatement_74 : decode cX11_tellStatement 74 = .ok (.getfield 77, 3) := by decide +kernel
theorem dX11_tellStatement_77 : decode cX11_tellStatement 77 = .ok (.invokevirtual 283, 3) := by decide +kernel
theorem dX11_tellStatement_80 : decode cX11_tellStatement 80 = .ok (.aload_n 0, 1) := by decide +kernel
theorem dX11_tellStatement_81 : decode cX11_tellStatement 81 = .ok (.getfield 23, 3) := by decide +kernel
theorem dX11_tellStatement_84 : decode cX11_tellStatement 84 = .ok (.aload_n 0, 1) := by decide +kernel
theorem dX11_tellStatement_85 : decode cX11_tellStatement 85 = .ok (.getfield 77, 3) := by decide +kernel
theorem dX11_tellStatement_88 : decode cX11_tellStatement 88 = .ok (.invokevirtual 286, 3) := by decide +kernel
theorem dX11_tellStatement_91 : decode cX11_tellStatement 91 = .ok (.istore_n 1, 1) := by decide +kernel
theorem dX11_tellStatement_92 : decode cX11_tellStatement 92 = .ok (.goto 93, 3) := by decide +kernel
theorem dX11_tellStatement_95 : decode cX11_tellStatement 95 = .ok (.aload_n 0, 1) := by decide +kernel
theorem dX11_tellStatement_96 : decode cX11_tellStatement 96 = .ok (.getfield 10, 3) := by decide +kernel
theorem dX11_tellStatement_99 : decode cX11_tellStatement 99 = .ok (.invokevirtual 290, 3) := by decide +kernel
theorem dX11_tellStatement_102 : decode cX11_tellStatement 102 = .ok (.istore 4, 2) := by decide +kernel
theorem dX11_tellStatement_104 : decode cX11_tellStatement 104 = .ok (.aload_n 0, 1) := by decide +kernel
theorem dX11_tellStatement_105 : decode cX11_tellStatement 105 = .ok (.getfield 10, 3) := by decide +kernel
theorem dX11_tellStatement_108 : decode cX11_tellStatement 108 = .ok (.aload_n 0, 1) := by decide +kernel
theorem dX11_tellStatement_109 : decode cX11_tellStatement 109 = .ok (.getfield 77, 3) := by decide +kernel
theorem dX11_tellStatement_112 : decode cX11_tellStatement 112 = .ok (.invokevirtual 283, 3) := by decide +kernel
theorem dX11_tellStatement_115 : decode cX11_tellStatement 115 = .ok (.aload_n 0, 1) := by decide +kernel
theorem dX11_tellStatement_116 : decode cX11_tellStatement 116 = .ok (.getfield 56, 3) := by decide +kernel
theorem dX11_tellStatement_119 : decode cX11_tellStatement 119 = .ok (.aload_n 0, 1) := by decide +kernel
theorem dX11_tellStatement_120 : decode cX11_tellStatement 120 = .ok (.getfield 49, 3) := by decide +kernel
theorem dX11_tellStatement_123 : decode cX11_tellStatement 123 = .ok (.aload_n 0, 1) := by decide +kernel
theorem dX11_tellStatement_124 : decode cX11_tellStatement 124 = .ok (.getfield 23, 3) := by decide +kernel
theorem dX11_tellStatement_127 : decode cX11_tellStatement 127 = .ok (.getfield 132, 3) := by decide +kernel
theorem dX11_tellStatement_130 : decode cX11_tellStatement 130 = .ok (.bipush 15, 2) := by decide +kernel
theorem dX11_tellStatement_132 : decode cX11_tellStatement 132 = .ok (.invokevirtual 240, 3) := by decide +kernel
theorem dX11_tellStatement_135 : decode cX11_tellStatement 135 = .ok (.aload_n 0, 1) := by decide +kernel
theorem dX11_tellStatement_136 : decode cX11_tellStatement 136 = .ok (.getfield 23, 3) := by decide +kernel
theorem dX11_tellStatement_139 : decode cX11_tellStatement 139 = .ok (.iload 4, 2) := by decide +kernel
theorem dX11_tellStatement_141 : decode cX11_tellStatement 141 = .ok (.aload_n 0, 1) := by decide +kernel
theorem dX11_tellStatement_142 : decode cX11_tellStatement 142 = .ok (.getfield 56, 3) := by decide +kernel
theorem dX11_tellStatement_145 : decode cX11_tellStatement 145 = .ok (.aload_n 0, 1) := by decide +kernel
theorem dX11_tellStatement_146 : decode cX11_tellStatement 146 = .ok (.getfield 77, 3) := by decide +kernel
theorem dX11_tellStatement_149 : decode cX11_tellStatement 149 = .ok (.invokevirtual 189, 3) := by decide +kernel
theorem dX11_tellStatement_152 : decode cX11_tellStatement 152 = .ok (.invokevirtual 293, 3) := by decide +kernel
theorem dX11_tellStatement_155 : decode cX11_tellStatement 155 = .ok (.istore_n 1, 1) := by decide +kernel
theorem dX11_tellStatement_156 : decode cX11_tellStatement 156 = .ok (.goto 29, 3) := by decide +kernel
theorem dX11_tellStatement_159 : decode cX11_tellStatement 159 = .ok (.aload_n 0, 1) := by decide +kernel
theorem dX11_tellStatement_160 : decode cX11_tellStatement 160 = .ok (.getfield 10, 3) := by decide +kernel
theorem dX11_tellStatement_163 : decode cX11_tellStatement 163 = .ok (.invokevirtual 277, 3) := by decide +kernel
theorem dX11_tellStatement_166 : decode cX11_tellStatement 166 = .ok (.istore 5, 2) := by decide +kernel
theorem dX11_tellStatement_168 : decode cX11_tellStatement 168 = .ok (.aload_n 0, 1) := by decide +kernel
theorem dX11_tellStatement_169 : decode cX11_tellStatement 169 = .ok (.getfield 23, 3) := by decide +kernel
theorem dX11_tellStatement_172 : decode cX11_tellStatement 172 = .ok (.iload 5, 2) := by decide +kernel
theorem dX11_tellStatement_174 : decode cX11_tellStatement 174 = .ok (.aload_n 0, 1) := by decide +kernel
theorem dX11_tellStatement_175 : decode cX11_tellStatement 175 = .ok (.getfield 10, 3) := by decide +kernel
theorem dX11_tellStatement_178 : decode cX11_tellStatement 178 = .ok (.invokevirtual 290, 3) := by decide +kernel
theorem dX11_tellStatement_181 : decode cX11_tellStatement 181 = .ok (.invokevirtual 128, 3) := by decide +kernel
theorem dX11_tellStatement_184 : decode cX11_tellStatement 184 = .ok (.istore_n 1, 1) := by decide +kernel
theorem dX11_tellStatement_185 : decode cX11_tellStatement 185 = .ok (.aload_n 0, 1) := by decide +kernel
theorem dX11_tellStatement_186 : decode cX11_tellStatement 186 = .ok (.getfield 10, 3) := by decide +kernel
theorem dX11_tellStatement_189 : decode cX11_tellStatement 189 = .ok (.invokevirtual 274, 3) := by decide +kernel
theorem dX11_tellStatement_192 : decode cX11_tellStatement 192 = .ok (.pop, 1) := by decide +kernel
theorem dX11_tellStatement_193 : decode cX11_tellStatement 193 = .ok (.iload_n 1, 1) := by decide +kernel
theorem dX11_tellStatement_194 : decode cX11_tellStatement 194 = .ok (.ireturn, 1) := by decide +kernel
theorem dX12_init_0 : decode cX12_init 0 = .ok (.aload_n 0, 1) := by decide +kernel
theorem dX12_init_1 : decode cX12_init 1 = .ok (.invokespecial 1, 3) := by decide +kernel
theorem dX12_init_4 : decode cX12_init 4 = .ok (.aload_n 0, 1) := by decide +kernel
theorem dX12_init_5 : decode cX12_init 5 = .ok (.bipush 7, 2) := by decide +kernel
theorem dX12_init_7 : decode cX12_init 7 = .ok (.newarray .int, 2) := by decide +kernel
theorem dX12_init_9 : decode cX12_init 9 = .ok (.putfield 7, 3) := by decide +kernel
theorem dX12_init_12 : decode cX12_init 12 = .ok (.aload_n 0, 1) := by decide +kernel
theorem dX12_init_13 : decode cX12_init 13 = .ok (.bipush 6, 2) := by decide +kernel
theorem dX12_init_15 : decode cX12_init 15 = .ok (.newarray .int, 2) := by decide +kernel
theorem dX12_init_17 : decode cX12_init 17 = .ok (.putfield 13, 3) := by decide +kernel
theorem dX12_init_20 : decode cX12_init 20 = .ok (.aload_n 0, 1) := by decide +kernel
theorem dX12_init_21 : decode cX12_init 21 = .ok (.bipush 6, 2) := by decide +kernel
theorem dX12_init_23 : decode cX12_init 23 = .ok (.newarray .int, 2) := by decide +kernel
theorem dX12_init_25 : decode cX12_init 25 = .ok (.putfield 16, 3) := by decide +kernel
theorem dX12_init_28 : decode cX12_init 28 = .ok (.aload_n 0, 1) := by decide +kernel
theorem dX12_init_29 : decode cX12_init 29 = .ok (.bipush 6, 2) := by decide +kernel
theorem dX12_init_31 : decode cX12_init 31 = .ok (.newarray .int, 2) := by decide +kernel
theorem dX12_init_33 : decode cX12_init 33 = .ok (.putfield 19, 3) := by decide +kernel
theorem dX12_init_36 : decode cX12_init 36 = .ok (.aload_n 0, 1) := by decide +kernel
theorem dX12_init_37 : decode cX12_init 37 = .ok (.iconst 4, 1) := by decide +kernel
theorem dX12_init_38 : decode cX12_init 38 = .ok (.newarray .int, 2) := by decide +kernel
theorem dX12_init_40 : decode cX12_init 40 = .ok (.dup, 1) := by decide +kernel
theorem dX12_init_41 : decode cX12_init 41 = .ok (.iconst 0, 1) := by decide +kernel
theorem dX12_init_42 : decode cX12_init 42 = .ok (.bipush (-9), 2) := by decide +kernel
theorem dX12_init_44 : decode cX12_init 44 = .ok (.iastore, 1) := by decide +kernel
theorem dX12_init_45 : decode cX12_init 45 = .ok (.dup, 1) := by decide +kernel
theorem dX12_init_46 : decode cX12_init 46 = .ok (.iconst 1, 1) := by decide +kernel
theorem dX12_init_47 : decode cX12_init 47 = .ok (.bipush (-9), 2) := by decide +kernel
theorem dX12_init_49 : decode cX12_init 49 = .ok (.iastore, 1) := by decide +kernel
theorem dX12_init_50 : decode cX12_init 50 = .ok (.dup, 1) := by decide +kernel
theorem dX12_init_51 : decode cX12_init 51 = .ok (.iconst 2, 1) := by decide +kernel
theorem dX12_init_52 : decode cX12_init 52 = .ok (.bipush (-9), 2) := by decide +kernel
theorem dX12_init_54 : decode cX12_init 54 = .ok (.iastore, 1) := by decide +kernel
theorem dX12_init_55 : decode cX12_init 55 = .ok (.dup, 1) := by decide +kernel
theorem dX12_init_56 : decode cX12_init 56 = .ok (.iconst 3, 1) := by decide +kernel
theorem dX12_init_57 : decode cX12_init 57 = .ok (.bipush (-9), 2) := by decide +kernel
theorem dX12_init_59 : decode cX12_init 59 = .ok (.iastore, 1) := by decide +kernel
theorem dX12_init_60 : decode cX12_init 60 = .ok (.putfield 22, 3) := by decide +kernel
theorem dX12_init_63 : decode cX12_init 63 = .ok (.aload_n 0, 1) := by decide +kernel
theorem dX12_init_64 : decode cX12_init 64 = .ok (.bipush 6, 2) := by decide +kernel
theorem dX12_init_66 : decode cX12_init 66 = .ok (.newarray .int, 2) := by decide +kernel
theorem dX12_init_68 : decode cX12_init 68 = .ok (.putfield 25, 3) := by decide +kernel
theorem dX12_init_71 : decode cX12_init 71 = .ok (.aload_n 0, 1) := by decide +kernel
theorem dX12_init_72 : decode cX12_init 72 = .ok (.bipush 120, 2) := by decide +kernel
theorem dX12_init_74 : decode cX12_init 74 = .ok (.newarray .int, 2) := by decide +kernel
theorem dX12_init_76 : decode cX12_init 76 = .ok (.putfield 28, 3) := by decide +kernel
theorem dX12_init_79 : decode cX12_init 79 = .ok (.aload_n 0, 1) := by decide +kernel
theorem dX12_init_80 : decode cX12_init 80 = .ok (.bipush 80, 2) := by decide +kernel
theorem dX12_init_82 : decode cX12_init 82 = .ok (.newarray .int, 2) := by decide +kernel
theorem dX12_init_84 : decode cX12_init 84 = .ok (.putfield 31, 3) := by decide +kernel
theorem dX12_init_87 : decode cX12_init 87 = .ok (.aload_n 0, 1) := by decide +kernel
theorem dX12_init_88 : decode cX12_init 88 = .ok (.bipush 40, 2) := by decide +kernel
theorem dX12_init_90 : decode cX12_init 90 = .ok (.newarray .int, 2) := by decide +kernel
theorem dX12_init_92 : decode cX12_init 92 = .ok (.putfield 34, 3) := by decide +kernel
theorem dX12_init_95 : decode cX12_init 95 = .ok (.aload_n 0, 1) := by decide +kernel
theorem dX12_init_96 : decode cX12_init 96 = .ok (.bipush 40, 2) := by decide +kernel
theorem dX12_init_98 : decode cX12_init 98 = .ok (.newarray .int, 2) := by decide +kernel
theorem dX12_init_100 : decode cX12_init 100 = .ok (.putfield 37, 3) := by decide +kernel
theorem dX12_init_103 : decode cX12_init 103 = .ok (.aload_n 0, 1) := by decide +kernel
theorem dX12_init_104 : decode cX12_init 104 = .ok (.bipush 80, 2) := by decide +kernel
theorem dX12_init_106 : decode cX12_init 106 = .ok (.newarray .int, 2) := by decide +kernel
theorem dX12_init_108 : decode cX12_init 108 = .ok (.putfield 40, 3) := by decide +kernel
theorem dX12_init_111 : decode cX12_init 111 = .ok (.aload_n 0, 1) := by decide +kernel
theorem dX12_init_112 : decode cX12_init 112 = .ok (.bipush 40, 2) := by decide +kernel
theorem dX12_init_114 : decode cX12_init 114 = .ok (.newarray .int, 2) := by decide +kernel
theorem dX12_init_116 : decode cX12_init 116 = .ok (.putfield 43, 3) := by decide +kernel
theorem dX12_init_119 : decode cX12_init 119 = .ok (.aload_n 0, 1) := by decide +kernel
theorem dX12_init_120 : decode cX12_init 120 = .ok (.bipush 40, 2) := by decide +kernel
theorem dX12_init_122 : decode cX12_init 122 = .ok (.newarray .int, 2) := by decide +kernel
theorem dX12_init_124 : decode cX12_init 124 = .ok (.putfield 46, 3) := by decide +kernel
theorem dX12_init_127 : decode cX12_init 127 = .ok (.aload_n 0, 1) := by decide +kernel
theorem dX12_init_128 : decode cX12_init 128 = .ok (.sipush 320, 3) := by decide +kernel
theorem dX12_init_131 : decode cX12_init 131 = .ok (.newarray .int, 2) := by decide +kernel
theorem dX12_init_133 : decode cX12_init 133 = .ok (.putfield 49, 3) := by decide +kernel
theorem dX12_init_136 : decode cX12_init 136 = .ok (.aload_n 0, 1) := by decide +kernel
theorem dX12_init_137 : decode cX12_init 137 = .ok (.bipush 24, 2) := by decide +kernel
theorem dX12_init_139 : decode cX12_init 139 = .ok (.newarray .int, 2) := by decide +kernel
theorem dX12_init_141 : decode cX12_init 141 = .ok (.putfield 52, 3) := by decide +kernel
theorem dX12_init_144 : decode cX12_init 144 = .ok (.aload_n 0, 1) := by decide +kernel
theorem dX12_init_145 : decode cX12_init 145 = .ok (.bipush 24, 2) := by decide +kernel
theorem dX12_init_147 : decode cX12_init 147 = .ok (.newarray .int, 2) := by decide +kernel
theorem dX12_init_149 : decode cX12_init 149 = .ok (.putfield 55, 3) := by decide +kernel
theorem dX12_init_152 : decode cX12_init 152 = .ok (.aload_n 0, 1) := by decide +kernel
theorem dX12_init_153 : decode cX12_init 153 = .ok (.sipush 256, 3) := by decide +kernel
theorem dX12_init_156 : decode cX12_init 156 = .ok (.newarray .int, 2) := by decide +kernel
theorem dX12_init_158 : decode cX12_init 158 = .ok (.putfield 58, 3) := by decide +kernel
theorem dX12_init_161 : decode cX12_init 161 = .ok (.aload_n 0, 1) := by decide +kernel
theorem dX12_init_162 : decode cX12_init 162 = .ok (.bipush 6, 2) := by decide +kernel
theorem dX12_init_164 : decode cX12_init 164 = .ok (.newarray .int, 2) := by decide +kernel
theorem dX12_init_166 : decode cX12_init 166 = .ok (.putfield 61, 3) := by decide +kernel
theorem dX12_init_169 : decode cX12_init 169 = .ok (.aload_n 0, 1) := by decide +kernel
theorem dX12_init_170 : decode cX12_init 170 = .ok (.bipush 6, 2) := by decide +kernel
theorem dX12_init_172 : decode cX12_init 172 = .ok (.newarray .int, 2) := by decide +kernel
theorem dX12_init_174 : decode cX12_init 174 = .ok (.putfield 64, 3) := by decide +kernel
theorem dX12_init_177 : decode cX12_init 177 = .ok (.return_, 1) := by decide +kernel
theorem dX12_no_0 : decode cX12_no 0 = .ok (.aload_n 0, 1) := by decide +kernel
theorem dX12_no_1 : decode cX12_no 1 = .ok (.getfield 7, 3) := by decide +kernel
theorem dX12_no_4 : decode cX12_no 4 = .ok (.iload_n 1, 1) := by decide +kernel
theorem dX12_no_5 : decode cX12_no 5 = .ok (.ineg, 1) := by decide +kernel
theorem dX12_no_6 : decode cX12_no 6 = .ok (.dup2, 1) := by decide +kernel
theorem dX12_no_7 : decode cX12_no 7 = .ok (.iaload, 1) := by decide +kernel
theorem dX12_no_8 : decode cX12_no 8 = .ok (.iconst 1, 1) := by decide +kernel
theorem dX12_no_9 : decode cX12_no 9 = .ok (.iadd, 1) := by decide +kernel
theorem dX12_no_10 : decode cX12_no 10 = .ok (.iastore, 1) := by decide +kernel
theorem dX12_no_11 : decode cX12_no 11 = .ok (.iload_n 1, 1) := by decide +kernel
theorem dX12_no_12 : decode cX12_no 12 = .ok (.ireturn, 1) := by decide +kernel
theorem dX12_lower_0 : decode cX12_lower 0 = .ok (.aload_n 0, 1) := by decide +kernel
theorem dX12_lower_1 : decode cX12_lower 1 = .ok (.getfield 7, 3) := by decide +kernel
theorem dX12_lower_4 : decode cX12_lower 4 = .ok (.iload_n 1, 1) := by decide +kernel
theorem dX12_lower_5 : decode cX12_lower 5 = .ok (.ineg, 1) := by decide +kernel
theorem dX12_lower_6 : decode cX12_lower 6 = .ok (.dup2, 1) := by decide +kernel
theorem dX12_lower_7 : decode cX12_lower 7 = .ok (.iaload, 1) := by decide +kernel
theorem dX12_lower_8 : decode cX12_lower 8 = .ok (.iconst 1, 1) := by decide +kernel
theorem dX12_lower_9 : decode cX12_lower 9 = .ok (.iadd, 1) := by decide +kernel
theorem dX12_lower_10 : decode cX12_lower 10 = .ok (.iastore, 1) := by decide +kernel
theorem dX12_lower_11 : decode cX12_lower 11 = .ok (.ldc 67, 2) := by decide +kernel
theorem dX12_lower_13 : decode cX12_lower 13 = .ok (.iload_n 1, 1) := by decide +kernel
theorem dX12_lower_14 : decode cX12_lower 14 = .ok (.isub, 1) := by decide +kernel
theorem dX12_lower_15 : decode cX12_lower 15 = .ok (.ireturn, 1) := by decide +kernel
theorem dX12_isIn_0 : decode cX12_isIn 0 = .ok (.iload_n 0, 1) := by decide +kernel
theorem dX12_isIn_1 : decode cX12_isIn 1 = .ok (.iload_n 1, 1) := by decide +kernel
theorem dX12_isIn_2 : decode cX12_isIn 2 = .ok (.if_icmp .lt 12, 3) := by decide +kernel
theorem dX12_isIn_5 : decode cX12_isIn 5 = .ok (.iload_n 0, 1) := by decide +kernel
theorem dX12_isIn_6 : decode cX12_isIn 6 = .ok (.iload_n 2, 1) := by decide +kernel
theorem dX12_isIn_7 : decode cX12_isIn 7 = .ok (.if_icmp .gt 7, 3) := by decide +kernel
theorem dX12_isIn_10 : decode cX12_isIn 10 = .ok (.iconst 1, 1) := by decide +kernel
theorem dX12_isIn_11 : decode cX12_isIn 11 = .ok (.goto 4, 3) := by decide +kernel
theorem dX12_isIn_14 : decode cX12_isIn 14 = .ok (.iconst 0, 1) := by decide +kernel
theorem dX12_isIn_15 : decode cX12_isIn 15 = .ok (.ireturn, 1) := by decide +kernel
theorem dX12_bound_0 : decode cX12_bound 0 = .ok (.iload_n 0, 1) := by decide +kernel
theorem dX12_bound_1 : decode cX12_bound 1 = .ok (.iload_n 1, 1) := by decide +kernel
theorem dX12_bound_2 : decode cX12_bound 2 = .ok (.if_icmp .ge 8, 3) := by decide +kernel
theorem dX12_bound_5 : decode cX12_bound 5 = .ok (.bipush (-4), 2) := by decide +kernel
theorem dX12_bound_7 : decode cX12_bound 7 = .ok (.goto 14, 3) := by decide +kernel
theorem dX12_bound_10 : decode cX12_bound 10 = .ok (.iload_n 0, 1) := by decide +kernel
theorem dX12_bound_11 : decode cX12_bound 11 = .ok (.iload_n 2, 1) := by decide +kernel
theorem dX12_bound_12 : decode cX12_bound 12 = .ok (.if_icmp .le 8, 3) := by decide +kernel
theorem dX12_bound_15 : decode cX12_bound 15 = .ok (.bipush (-6), 2) := by decide +kernel
theorem dX12_bound_17 : decode cX12_bound 17 = .ok (.goto 4, 3) := by decide +kernel
theorem dX12_bound_20 : decode cX12_bound 20 = .ok (.iconst 0, 1) := by decide +kernel
theorem dX12_bound_21 : decode cX12_bound 21 = .ok (.ireturn, 1) := by decide +kernel
theorem dX12_isWho_0 : decode cX12_isWho 0 = .ok (.iload_n 1, 1) := by decide +kernel
theorem dX12_isWho_1 : decode cX12_isWho 1 = .ok (.iconst (-1), 1) := by decide +kernel
theorem dX12_isWho_2 : decode cX12_isWho 2 = .ok (.if_icmp .lt 15, 3) := by decide +kernel
theorem dX12_isWho_5 : decode cX12_isWho 5 = .ok (.iload_n 1, 1) := by decide +kernel
theorem dX12_isWho_6 : decode cX12_isWho 6 = .ok (.aload_n 0, 1) := by decide +kernel
theorem dX12_isWho_7 : decode cX12_isWho 7 = .ok (.getfield 68, 3) := by decide +kernel
theorem dX12_isWho_10 : decode cX12_isWho 10 = .ok (.if_icmp .ge 7, 3) := by decide +kernel
theorem dX12_isWho_13 : decode cX12_isWho 13 = .ok (.iconst 1, 1) := by decide +kernel
theorem dX12_isWho_14 : decode cX12_isWho 14 = .ok (.goto 4, 3) := by decide +kernel
theorem dX12_isWho_17 : decode cX12_isWho 17 = .ok (.iconst 0, 1) := by decide +kernel
theorem dX12_isWho_18 : decode cX12_isWho 18 = .ok (.ireturn, 1) := by decide +kernel
theorem dX12_isStranger_0 : decode cX12_isStranger 0 = .ok (.iload_n 1, 1) := by decide +kernel
theorem dX12_isStranger_1 : decode cX12_isStranger 1 = .ok (.ifCond .lt 15, 3) := by decide +kernel
theorem dX12_isStranger_4 : decode cX12_isStranger 4 = .ok (.iload_n 1, 1) := by decide +kernel
theorem dX12_isStranger_5 : decode cX12_isStranger 5 = .ok (.aload_n 0, 1) := by decide +kernel
theorem dX12_isStranger_6 : decode cX12_isStranger 6 = .ok (.getfield 68, 3) := by decide +kernel
theorem dX12_isStranger_9 : decode cX12_isStranger 9 = .ok (.if_icmp .ge 7, 3) := by decide +kernel
theorem dX12_isStranger_12 : decode cX12_isStranger 12 = .ok (.iconst 1, 1) := by decide +kernel
theorem dX12_isStranger_13 : decode cX12_isStranger 13 = .ok (.goto 4, 3) := by decide +kernel
theorem dX12_isStranger_16 : decode cX12_isStranger 16 = .ok (.iconst 0, 1) := by decide +kernel
theorem dX12_isStranger_17 : decode cX12_isStranger 17 = .ok (.ireturn, 1) := by decide +kernel
theorem dX12_isScholar_0 : decode cX12_isScholar 0 = .ok (.iload_n 1, 1) := by decide +kernel
theorem dX12_isScholar_1 : decode cX12_isScholar 1 = .ok (.ifCond .lt 15, 3) := by decide +kernel
theorem dX12_isScholar_4 : decode cX12_isScholar 4 = .ok (.iload_n 1, 1) := by decide +kernel
theorem dX12_isScholar_5 : decode cX12_isScholar 5 = .ok (.aload_n 0, 1) := by decide +kernel
theorem dX12_isScholar_6 : decode cX12_isScholar 6 = .ok (.getfield 72, 3) := by decide +kernel
theorem dX12_isScholar_9 : decode cX12_isScholar 9 = .ok (.if_icmp .ge 7, 3) := by decide +kernel
theorem dX12_isScholar_12 : decode cX12_isScholar 12 = .ok (.iconst 1, 1) := by decide +kernel
theorem dX12_isScholar_13 : decode cX12_isScholar 13 = .ok (.goto 4, 3) := by decide +kernel
theorem dX12_isScholar_16 : decode cX12_isScholar 16 = .ok (.iconst 0, 1) := by decide +kernel
theorem dX12_isScholar_17 : decode cX12_isScholar 17 = .ok (.ireturn, 1) := by decide +kernel
theorem dX12_isName_0 : decode cX12_isName 0 = .ok (.iload_n 0, 1) := by decide +kernel
theorem dX12_isName_1 : decode cX12_isName 1 = .ok (.ifCond .lt 12, 3) := by decide +kernel
theorem dX12_isName_4 : decode cX12_isName 4 = .ok (.iload_n 0, 1) := by decide +kernel
theorem dX12_isName_5 : decode cX12_isName 5 = .ok (.iconst 4, 1) := by decide +kernel
theorem dX12_isName_6 : decode cX12_isName 6 = .ok (.if_icmp .ge 7, 3) := by decide +kernel
theorem dX12_isName_9 : decode cX12_isName 9 = .ok (.iconst 1, 1) := by decide +kernel
theorem dX12_isName_10 : decode cX12_isName 10 = .ok (.goto 4, 3) := by decide +kernel
theorem dX12_isName_13 : decode cX12_isName 13 = .ok (.iconst 0, 1) := by decide +kernel
theorem dX12_isName_14 : decode cX12_isName 14 = .ok (.ireturn, 1) := by decide +kernel
theorem dX12_feed_0 : decode cX12_feed 0 = .ok (.iload_n 1, 1) := by decide +kernel
theorem dX12_feed_1 : decode cX12_feed 1 = .ok (.iconst 0, 1) := by decide +kernel
theorem dX12_feed_2 : decode cX12_feed 2 = .ok (.sipush 255, 3) := by decide +kernel
theorem dX12_feed_5 : decode cX12_feed 5 = .ok (.invokestatic 75, 3) := by decide +kernel
theorem dX12_feed_8 : decode cX12_feed 8 = .ok (.istore_n 2, 1) := by decide +kernel
theorem dX12_feed_9 : decode cX12_feed 9 = .ok (.iload_n 2, 1) := by decide +kernel
theorem dX12_feed_10 : decode cX12_feed 10 = .ok (.ifCond .ne 15, 3) := by decide +kernel
theorem dX12_feed_13 : decode cX12_feed 13 = .ok (.aload_n 0, 1) := by decide +kernel
theorem dX12_feed_14 : decode cX12_feed 14 = .ok (.getfield 79, 3) := by decide +kernel
theorem dX12_feed_17 : decode cX12_feed 17 = .ok (.bipush 80, 2) := by decide +kernel
theorem dX12_feed_19 : decode cX12_feed 19 = .ok (.if_icmp .ne 6, 3) := by decide +kernel
theorem dX12_feed_22 : decode cX12_feed 22 = .ok (.bipush (-6), 2) := by decide +kernel
theorem dX12_feed_24 : decode cX12_feed 24 = .ok (.istore_n 2, 1) := by decide +kernel
theorem dX12_feed_25 : decode cX12_feed 25 = .ok (.iload_n 2, 1) := by decide +kernel
theorem dX12_feed_26 : decode cX12_feed 26 = .ok (.ifCond .eq 9, 3) := by decide +kernel
theorem dX12_feed_29 : decode cX12_feed 29 = .ok (.aload_n 0, 1) := by decide +kernel
theorem dX12_feed_30 : decode cX12_feed 30 = .ok (.iload_n 2, 1) := by decide +kernel
theorem dX12_feed_31 : decode cX12_feed 31 = .ok (.invokevirtual 82, 3) := by decide +kernel
theorem dX12_feed_34 : decode cX12_feed 34 = .ok (.ireturn, 1) := by decide +kernel
theorem dX12_feed_35 : decode cX12_feed 35 = .ok (.aload_n 0, 1) := by decide +kernel
theorem dX12_feed_36 : decode cX12_feed 36 = .ok (.getfield 31, 3) := by decide +kernel
theorem dX12_feed_39 : decode cX12_feed 39 = .ok (.aload_n 0, 1) := by decide +kernel
theorem dX12_feed_40 : decode cX12_feed 40 = .ok (.getfield 79, 3) := by decide +kernel
theorem dX12_feed_43 : decode cX12_feed 43 = .ok (.iload_n 1, 1) := by decide +kernel
theorem dX12_feed_44 : decode cX12_feed 44 = .ok (.iastore, 1) := by decide +kernel
theorem dX12_feed_45 : decode cX12_feed 45 = .ok (.aload_n 0, 1) := by decide +kernel
theorem dX12_feed_46 : decode cX12_feed 46 = .ok (.dup, 1) := by decide +kernel
theorem dX12_feed_47 : decode cX12_feed 47 = .ok (.getfield 79, 3) := by decide +kernel
theorem dX12_feed_50 : decode cX12_feed 50 = .ok (.iconst 1, 1) := by decide +kernel
theorem dX12_feed_51 : decode cX12_feed 51 = .ok (.iadd, 1) := by decide +kernel
theorem dX12_feed_52 : decode cX12_feed 52 = .ok (.putfield 79, 3) := by decide +kernel
theorem dX12_feed_55 : decode cX12_feed 55 = .ok (.aload_n 0, 1) := by decide +kernel
theorem dX12_feed_56 : decode cX12_feed 56 = .ok (.getfield 79, 3) := by decide +kernel
theorem dX12_feed_59 : decode cX12_feed 59 = .ok (.ireturn, 1) := by decide +kernel
theorem dX12_next_0 : decode cX12_next 0 = .ok (.aload_n 0, 1) := by decide +kernel
theorem dX12_next_1 : decode cX12_next 1 = .ok (.getfield 86, 3) := by decide +kernel
theorem dX12_next_4 : decode cX12_next 4 = .ok (.aload_n 0, 1) := by decide +kernel
theorem dX12_next_5 : decode cX12_next 5 = .ok (.getfield 79, 3) := by decide +kernel
theorem dX12_next_8 : decode cX12_next 8 = .ok (.if_icmp .ge 15, 3) := by decide +kernel
theorem dX12_next_11 : decode cX12_next 11 = .ok (.aload_n 0, 1) := by decide +kernel
theorem dX12_next_12 : decode cX12_next 12 = .ok (.getfield 31, 3) := by decide +kernel
theorem dX12_next_15 : decode cX12_next 15 = .ok (.aload_n 0, 1) := by decide +kernel
theorem dX12_next_16 : decode cX12_next 16 = .ok (.getfield 86, 3) := by decide +kernel
theorem dX12_next_19 : decode cX12_next 19 = .ok (.iaload, 1) := by decide +kernel
theorem dX12_next_20 : decode cX12_next 20 = .ok (.goto 4, 3) := by decide +kernel
theorem dX12_next_23 : decode cX12_next 23 = .ok (.iconst (-1), 1) := by decide +kernel
theorem dX12_next_24 : decode cX12_next 24 = .ok (.ireturn, 1) := by decide +kernel
theorem dX12_wordOf_0 : decode cX12_wordOf 0 = .ok (.iload_n 0, 1) := by decide +kernel
theorem dX12_wordOf_1 : decode cX12_wordOf 1 = .ok (.bipush 65, 2) := by decide +kernel
theorem dX12_wordOf_3 : decode cX12_wordOf 3 = .ok (.bipush 68, 2) := by decide +kernel
theorem dX12_wordOf_5 : decode cX12_wordOf 5 = .ok (.invokestatic 89, 3) := by decide +kernel
theorem dX12_wordOf_8 : decode cX12_wordOf 8 = .ok (.ifCond .eq 10, 3) := by decide +kernel
theorem dX12_wordOf_11 : decode cX12_wordOf 11 = .ok (.iconst 3, 1) := by decide +kernel
theorem dX12_wordOf_12 : decode cX12_wordOf 12 = .ok (.iload_n 0, 1) := by decide +kernel
theorem dX12_wordOf_13 : decode cX12_wordOf 13 = .ok (.iadd, 1) := by decide +kernel
theorem dX12_wordOf_14 : decode cX12_wordOf 14 = .ok (.bipush 65, 2) := by decide +kernel
theorem dX12_wordOf_16 : decode cX12_wordOf 16 = .ok (.isub, 1) := by decide +kernel
theorem dX12_wordOf_17 : decode cX12_wordOf 17 = .ok (.ireturn, 1) := by decide +kernel
theorem dX12_wordOf_18 : decode cX12_wordOf 18 = .ok (.iload_n 0, 1) := by decide +kernel
theorem dX12_wordOf_19 : decode cX12_wordOf 19 = .ok (.tableswitch 100 97 114 #[94, 100, 100, 100, 100, 100, 100, 100, 100, 100, 100, 100, 100, 91, 97, 85, 87, 89], 85) := by decide +kernel
theorem dX12_wordOf_104 : decode cX12_wordOf 104 = .ok (.iconst 0, 1) := by decide +kernel
theorem dX12_wordOf_105 : decode cX12_wordOf 105 = .ok (.ireturn, 1) := by decide +kernel
theorem dX12_wordOf_106 : decode cX12_wordOf 106 = .ok (.iconst 1, 1) := by decide +kernel
theorem dX12_wordOf_107 : decode cX12_wordOf 107 = .ok (.ireturn, 1) := by decide +kernel
theorem dX12_wordOf_108 : decode cX12_wordOf 108 = .ok (.iconst 2, 1) := by decide +kernel
theorem dX12_wordOf_109 : decode cX12_wordOf 109 = .ok (.ireturn, 1) := by decide +kernel
theorem dX12_wordOf_110 : decode cX12_wordOf 110 = .ok (.bipush 7, 2) := by decide +kernel
theorem dX12_wordOf_112 : decode cX12_wordOf 112 = .ok (.ireturn, 1) := by decide +kernel
theorem dX12_wordOf_113 : decode cX12_wordOf 113 = .ok (.bipush 8, 2) := by decide +kernel
theorem dX12_wordOf_115 : decode cX12_wordOf 115 = .ok (.ireturn, 1) := by decide +kernel
theorem dX12_wordOf_116 : decode cX12_wordOf 116 = .ok (.bipush 9, 2) := by decide +kernel
theorem dX12_wordOf_118 : decode cX12_wordOf 118 = .ok (.ireturn, 1) := by decide +kernel
theorem dX12_wordOf_119 : decode cX12_wordOf 119 = .ok (.iconst (-1), 1) := by decide +kernel
theorem dX12_wordOf_120 : decode cX12_wordOf 120 = .ok (.ireturn, 1) := by decide +kernel
theorem dX12_readsDigit_0 : decode cX12_readsDigit 0 = .ok (.aload_n 0, 1) := by decide +kernel
theorem dX12_readsDigit_1 : decode cX12_readsDigit 1 = .ok (.invokevirtual 93, 3) := by decide +kernel
theorem dX12_readsDigit_4 : decode cX12_readsDigit 4 = .ok (.bipush 48, 2) := by decide +kernel
theorem dX12_readsDigit_6 : decode cX12_readsDigit 6 = .ok (.bipush 57, 2) := by decide +kernel
theorem dX12_readsDigit_8 : decode cX12_readsDigit 8 = .ok (.invokestatic 89, 3) := by decide +kernel
theorem dX12_readsDigit_11 : decode cX12_readsDigit 11 = .ok (.ifCond .ne 5, 3) := by decide +kernel
theorem dX12_readsDigit_14 : decode cX12_readsDigit 14 = .ok (.iconst 0, 1) := by decide +kernel
theorem dX12_readsDigit_15 : decode cX12_readsDigit 15 = .ok (.ireturn, 1) := by decide +kernel
theorem dX12_readsDigit_16 : decode cX12_readsDigit 16 = .ok (.aload_n 0, 1) := by decide +kernel
theorem dX12_readsDigit_17 : decode cX12_readsDigit 17 = .ok (.getfield 40, 3) := by decide +kernel
theorem dX12_readsDigit_20 : decode cX12_readsDigit 20 = .ok (.iload_n 1, 1) := by decide +kernel
theorem dX12_readsDigit_21 : decode cX12_readsDigit 21 = .ok (.aload_n 0, 1) := by decide +kernel
theorem dX12_readsDigit_22 : decode cX12_readsDigit 22 = .ok (.invokevirtual 93, 3) := by decide +kernel
theorem dX12_readsDigit_25 : decode cX12_readsDigit 25 = .ok (.bipush 48, 2) := by decide +kernel
theorem dX12_readsDigit_27 : decode cX12_readsDigit 27 = .ok (.isub, 1) := by decide +kernel
theorem dX12_readsDigit_28 : decode cX12_readsDigit 28 = .ok (.iastore, 1) := by decide +kernel
theorem dX12_readsDigit_29 : decode cX12_readsDigit 29 = .ok (.aload_n 0, 1) := by decide +kernel
theorem dX12_readsDigit_30 : decode cX12_readsDigit 30 = .ok (.dup, 1) := by decide +kernel
theorem dX12_readsDigit_31 : decode cX12_readsDigit 31 = .ok (.getfield 86, 3) := by decide +kernel
theorem dX12_readsDigit_34 : decode cX12_readsDigit 34 = .ok (.iconst 1, 1) := by decide +kernel
theorem dX12_readsDigit_35 : decode cX12_readsDigit 35 = .ok (.iadd, 1) := by decide +kernel
theorem dX12_readsDigit_36 : decode cX12_readsDigit 36 = .ok (.putfield 86, 3) := by decide +kernel
theorem dX12_readsDigit_39 : decode cX12_readsDigit 39 = .ok (.iconst 1, 1) := by decide +kernel
theorem dX12_readsDigit_40 : decode cX12_readsDigit 40 = .ok (.ireturn, 1) := by decide +kernel
theorem dX12_readsName_0 : decode cX12_readsName 0 = .ok (.aload_n 0, 1) := by decide +kernel
theorem dX12_readsName_1 : decode cX12_readsName 1 = .ok (.invokevirtual 93, 3) := by decide +kernel
theorem dX12_readsName_4 : decode cX12_readsName 4 = .ok (.bipush 65, 2) := by decide +kernel
theorem dX12_readsName_6 : decode cX12_readsName 6 = .ok (.bipush 68, 2) := by decide +kernel
theorem dX12_readsName_8 : decode cX12_readsName 8 = .ok (.invokestatic 89, 3) := by decide +kernel
theorem dX12_readsName_11 : decode cX12_readsName 11 = .ok (.ifCond .ne 5, 3) := by decide +kernel
theorem dX12_readsName_14 : decode cX12_readsName 14 = .ok (.iconst 0, 1) := by decide +kernel
theorem dX12_readsName_15 : decode cX12_readsName 15 = .ok (.ireturn, 1) := by decide +kernel
theorem dX12_readsName_16 : decode cX12_readsName 16 = .ok (.aload_n 0, 1) := by decide +kernel
theorem dX12_readsName_17 : decode cX12_readsName 17 = .ok (.getfield 40, 3) := by decide +kernel
theorem dX12_readsName_20 : decode cX12_readsName 20 = .ok (.iload_n 1, 1) := by decide +kernel
theorem dX12_readsName_21 : decode cX12_readsName 21 = .ok (.aload_n 0, 1) := by decide +kernel
theorem dX12_readsName_22 : decode cX12_readsName 22 = .ok (.invokevirtual 93, 3) := by decide +kernel
theorem dX12_readsName_25 : decode cX12_readsName 25 = .ok (.bipush 65, 2) := by decide +kernel
theorem dX12_readsName_27 : decode cX12_readsName 27 = .ok (.isub, 1) := by decide +kernel
theorem dX12_readsName_28 : decode cX12_readsName 28 = .ok (.iastore, 1) := by decide +kernel
theorem dX12_readsName_29 : decode cX12_readsName 29 = .ok (.aload_n 0, 1) := by decide +kernel
theorem dX12_readsName_30 : decode cX12_readsName 30 = .ok (.dup, 1) := by decide +kernel
theorem dX12_readsName_31 : decode cX12_readsName 31 = .ok (.getfield 86, 3) := by decide +kernel
theorem dX12_readsName_34 : decode cX12_readsName 34 = .ok (.iconst 1, 1) := by decide +kernel
theorem dX12_readsName_35 : decode cX12_readsName 35 = .ok (.iadd, 1) := by decide +kernel
theorem dX12_readsName_36 : decode cX12_readsName 36 = .ok (.putfield 86, 3) := by decide +kernel
theorem dX12_readsName_39 : decode cX12_readsName 39 = .ok (.iconst 1, 1) := by decide +kernel
theorem dX12_readsName_40 : decode cX12_readsName 40 = .ok (.ireturn, 1) := by decide +kernel
theorem dX12_readsSaying_0 : decode cX12_readsSaying 0 = .ok (.aload_n 0, 1) := by decide +kernel
theorem dX12_readsSaying_1 : decode cX12_readsSaying 1 = .ok (.getfield 43, 3) := by decide +kernel
theorem dX12_readsSaying_4 : decode cX12_readsSaying 4 = .ok (.aload_n 0, 1) := by decide +kernel
theorem dX12_readsSaying_5 : decode cX12_readsSaying 5 = .ok (.getfield 97, 3) := by decide +kernel
theorem dX12_readsSaying_8 : decode cX12_readsSaying 8 = .ok (.aload_n 0, 1) := by decide +kernel
theorem dX12_readsSaying_9 : decode cX12_readsSaying 9 = .ok (.getfield 86, 3) := by decide +kernel
theorem dX12_readsSaying_12 : decode cX12_readsSaying 12 = .ok (.iastore, 1) := by decide +kernel
theorem dX12_readsSaying_13 : decode cX12_readsSaying 13 = .ok (.iconst 1, 1) := by decide +kernel
theorem dX12_readsSaying_14 : decode cX12_readsSaying 14 = .ok (.istore_n 1, 1) := by decide +kernel
theorem dX12_readsSaying_15 : decode cX12_readsSaying 15 = .ok (.iload_n 1, 1) := by decide +kernel
theorem dX12_readsSaying_16 : decode cX12_readsSaying 16 = .ok (.ifCond .le 73, 3) := by decide +kernel
theorem dX12_readsSaying_19 : decode cX12_readsSaying 19 = .ok (.aload_n 0, 1) := by decide +kernel
theorem dX12_readsSaying_20 : decode cX12_readsSaying 20 = .ok (.invokevirtual 93, 3) := by decide +kernel
theorem dX12_readsSaying_23 : decode cX12_readsSaying 23 = .ok (.invokestatic 100, 3) := by decide +kernel
theorem dX12_readsSaying_26 : decode cX12_readsSaying 26 = .ok (.istore_n 2, 1) := by decide +kernel
theorem dX12_readsSaying_27 : decode cX12_readsSaying 27 = .ok (.iload_n 2, 1) := by decide +kernel
theorem dX12_readsSaying_28 : decode cX12_readsSaying 28 = .ok (.ifCond .lt 22, 3) := by decide +kernel
theorem dX12_readsSaying_31 : decode cX12_readsSaying 31 = .ok (.aload_n 0, 1) := by decide +kernel
theorem dX12_readsSaying_32 : decode cX12_readsSaying 32 = .ok (.getfield 86, 3) := by decide +kernel
theorem dX12_readsSaying_35 : decode cX12_readsSaying 35 = .ok (.aload_n 0, 1) := by decide +kernel
theorem dX12_readsSaying_36 : decode cX12_readsSaying 36 = .ok (.getfield 43, 3) := by decide +kernel
theorem dX12_readsSaying_39 : decode cX12_readsSaying 39 = .ok (.aload_n 0, 1) := by decide +kernel
theorem dX12_readsSaying_40 : decode cX12_readsSaying 40 = .ok (.getfield 97, 3) := by decide +kernel
theorem dX12_readsSaying_43 : decode cX12_readsSaying 43 = .ok (.iaload, 1) := by decide +kernel
theorem dX12_readsSaying_44 : decode cX12_readsSaying 44 = .ok (.isub, 1) := by decide +kernel
theorem dX12_readsSaying_45 : decode cX12_readsSaying 45 = .ok (.bipush 20, 2) := by decide +kernel
theorem dX12_readsSaying_47 : decode cX12_readsSaying 47 = .ok (.if_icmp .ne 5, 3) := by decide +kernel
