theorem dX10_write_11 : decode cX10_write 11 = .ok (.iconst 1, 1) := by decide +kernel
theorem dX10_write_12 : decode cX10_write 12 = .ok (.if_icmp .ne 13, 3) := by decide +kernel
theorem dX10_write_15 : decode cX10_write 15 = .ok (.aload_n 0, 1) := by decide +kernel
theorem dX10_write_16 : decode cX10_write 16 = .ok (.getfield 30, 3) := by decide +kernel
theorem dX10_write_19 : decode cX10_write 19 = .ok (.iload_n 1, 1) := by decide +kernel
theorem dX10_write_20 : decode cX10_write 20 = .ok (.iload_n 2, 1) := by decide +kernel
theorem dX10_write_21 : decode cX10_write 21 = .ok (.lload_n 3, 1) := by decide +kernel
theorem dX10_write_22 : decode cX10_write 22 = .ok (.invokevirtual 85, 3) := by decide +kernel
theorem dX10_write_25 : decode cX10_write 25 = .ok (.iload 5, 2) := by decide +kernel
theorem dX10_write_27 : decode cX10_write 27 = .ok (.ireturn, 1) := by decide +kernel
theorem dX10_requestCommit_0 : decode cX10_requestCommit 0 = .ok (.aload_n 0, 1) := by decide +kernel
theorem dX10_requestCommit_1 : decode cX10_requestCommit 1 = .ok (.iload_n 1, 1) := by decide +kernel
theorem dX10_requestCommit_2 : decode cX10_requestCommit 2 = .ok (.invokevirtual 66, 3) := by decide +kernel
theorem dX10_requestCommit_5 : decode cX10_requestCommit 5 = .ok (.ifCond .ne 5, 3) := by decide +kernel
theorem dX10_requestCommit_8 : decode cX10_requestCommit 8 = .ok (.iconst (-1), 1) := by decide +kernel
theorem dX10_requestCommit_9 : decode cX10_requestCommit 9 = .ok (.ireturn, 1) := by decide +kernel
theorem dX10_requestCommit_10 : decode cX10_requestCommit 10 = .ok (.aload_n 0, 1) := by decide +kernel
theorem dX10_requestCommit_11 : decode cX10_requestCommit 11 = .ok (.getfield 23, 3) := by decide +kernel
theorem dX10_requestCommit_14 : decode cX10_requestCommit 14 = .ok (.getfield 70, 3) := by decide +kernel
theorem dX10_requestCommit_17 : decode cX10_requestCommit 17 = .ok (.iload_n 1, 1) := by decide +kernel
theorem dX10_requestCommit_18 : decode cX10_requestCommit 18 = .ok (.iaload, 1) := by decide +kernel
theorem dX10_requestCommit_19 : decode cX10_requestCommit 19 = .ok (.iconst 1, 1) := by decide +kernel
theorem dX10_requestCommit_20 : decode cX10_requestCommit 20 = .ok (.if_icmp .eq 5, 3) := by decide +kernel
theorem dX10_requestCommit_23 : decode cX10_requestCommit 23 = .ok (.iconst 0, 1) := by decide +kernel
theorem dX10_requestCommit_24 : decode cX10_requestCommit 24 = .ok (.ireturn, 1) := by decide +kernel
theorem dX10_requestCommit_25 : decode cX10_requestCommit 25 = .ok (.aload_n 0, 1) := by decide +kernel
theorem dX10_requestCommit_26 : decode cX10_requestCommit 26 = .ok (.getfield 23, 3) := by decide +kernel
theorem dX10_requestCommit_29 : decode cX10_requestCommit 29 = .ok (.getfield 70, 3) := by decide +kernel
theorem dX10_requestCommit_32 : decode cX10_requestCommit 32 = .ok (.iload_n 1, 1) := by decide +kernel
theorem dX10_requestCommit_33 : decode cX10_requestCommit 33 = .ok (.aload_n 0, 1) := by decide +kernel
theorem dX10_requestCommit_34 : decode cX10_requestCommit 34 = .ok (.getfield 23, 3) := by decide +kernel
theorem dX10_requestCommit_37 : decode cX10_requestCommit 37 = .ok (.iload_n 1, 1) := by decide +kernel
theorem dX10_requestCommit_38 : decode cX10_requestCommit 38 = .ok (.invokevirtual 89, 3) := by decide +kernel
theorem dX10_requestCommit_41 : decode cX10_requestCommit 41 = .ok (.ifCond .eq 7, 3) := by decide +kernel
theorem dX10_requestCommit_44 : decode cX10_requestCommit 44 = .ok (.iconst 3, 1) := by decide +kernel
theorem dX10_requestCommit_45 : decode cX10_requestCommit 45 = .ok (.goto 4, 3) := by decide +kernel
theorem dX10_requestCommit_48 : decode cX10_requestCommit 48 = .ok (.iconst 2, 1) := by decide +kernel
theorem dX10_requestCommit_49 : decode cX10_requestCommit 49 = .ok (.iastore, 1) := by decide +kernel
theorem dX10_requestCommit_50 : decode cX10_requestCommit 50 = .ok (.aload_n 0, 1) := by decide +kernel
theorem dX10_requestCommit_51 : decode cX10_requestCommit 51 = .ok (.getfield 37, 3) := by decide +kernel
theorem dX10_requestCommit_54 : decode cX10_requestCommit 54 = .ok (.iconst 1, 1) := by decide +kernel
theorem dX10_requestCommit_55 : decode cX10_requestCommit 55 = .ok (.iload_n 1, 1) := by decide +kernel
theorem dX10_requestCommit_56 : decode cX10_requestCommit 56 = .ok (.aload_n 0, 1) := by decide +kernel
theorem dX10_requestCommit_57 : decode cX10_requestCommit 57 = .ok (.getfield 12, 3) := by decide +kernel
theorem dX10_requestCommit_60 : decode cX10_requestCommit 60 = .ok (.invokevirtual 92, 3) := by decide +kernel
theorem dX10_requestCommit_63 : decode cX10_requestCommit 63 = .ok (.invokevirtual 96, 3) := by decide +kernel
theorem dX10_requestCommit_66 : decode cX10_requestCommit 66 = .ok (.iconst 0, 1) := by decide +kernel
theorem dX10_requestCommit_67 : decode cX10_requestCommit 67 = .ok (.istore_n 2, 1) := by decide +kernel
theorem dX10_requestCommit_68 : decode cX10_requestCommit 68 = .ok (.iconst 0, 1) := by decide +kernel
theorem dX10_requestCommit_69 : decode cX10_requestCommit 69 = .ok (.istore_n 3, 1) := by decide +kernel
theorem dX10_requestCommit_70 : decode cX10_requestCommit 70 = .ok (.iload_n 3, 1) := by decide +kernel
theorem dX10_requestCommit_71 : decode cX10_requestCommit 71 = .ok (.aload_n 0, 1) := by decide +kernel
theorem dX10_requestCommit_72 : decode cX10_requestCommit 72 = .ok (.getfield 12, 3) := by decide +kernel
theorem dX10_requestCommit_75 : decode cX10_requestCommit 75 = .ok (.getfield 41, 3) := by decide +kernel
theorem dX10_requestCommit_78 : decode cX10_requestCommit 78 = .ok (.if_icmp .ge 40, 3) := by decide +kernel
theorem dX10_requestCommit_81 : decode cX10_requestCommit 81 = .ok (.aload_n 0, 1) := by decide +kernel
theorem dX10_requestCommit_82 : decode cX10_requestCommit 82 = .ok (.getfield 23, 3) := by decide +kernel
theorem dX10_requestCommit_85 : decode cX10_requestCommit 85 = .ok (.iload_n 1, 1) := by decide +kernel
theorem dX10_requestCommit_86 : decode cX10_requestCommit 86 = .ok (.iload_n 3, 1) := by decide +kernel
theorem dX10_requestCommit_87 : decode cX10_requestCommit 87 = .ok (.invokevirtual 100, 3) := by decide +kernel
theorem dX10_requestCommit_90 : decode cX10_requestCommit 90 = .ok (.ifCond .eq 22, 3) := by decide +kernel
theorem dX10_requestCommit_93 : decode cX10_requestCommit 93 = .ok (.aload_n 0, 1) := by decide +kernel
theorem dX10_requestCommit_94 : decode cX10_requestCommit 94 = .ok (.getfield 37, 3) := by decide +kernel
theorem dX10_requestCommit_97 : decode cX10_requestCommit 97 = .ok (.aload_n 0, 1) := by decide +kernel
theorem dX10_requestCommit_98 : decode cX10_requestCommit 98 = .ok (.getfield 37, 3) := by decide +kernel
theorem dX10_requestCommit_101 : decode cX10_requestCommit 101 = .ok (.getfield 104, 3) := by decide +kernel
theorem dX10_requestCommit_104 : decode cX10_requestCommit 104 = .ok (.iload_n 3, 1) := by decide +kernel
theorem dX10_requestCommit_105 : decode cX10_requestCommit 105 = .ok (.invokevirtual 108, 3) := by decide +kernel
theorem dX10_requestCommit_108 : decode cX10_requestCommit 108 = .ok (.pop, 1) := by decide +kernel
theorem dX10_requestCommit_109 : decode cX10_requestCommit 109 = .ok (.iinc 2 1, 3) := by decide +kernel
theorem dX10_requestCommit_112 : decode cX10_requestCommit 112 = .ok (.iinc 3 1, 3) := by decide +kernel
theorem dX10_requestCommit_115 : decode cX10_requestCommit 115 = .ok (.goto (-45), 3) := by decide +kernel
theorem dX10_requestCommit_118 : decode cX10_requestCommit 118 = .ok (.iload_n 2, 1) := by decide +kernel
theorem dX10_requestCommit_119 : decode cX10_requestCommit 119 = .ok (.ireturn, 1) := by decide +kernel
theorem dX10_abort_0 : decode cX10_abort 0 = .ok (.aload_n 0, 1) := by decide +kernel
theorem dX10_abort_1 : decode cX10_abort 1 = .ok (.iload_n 1, 1) := by decide +kernel
theorem dX10_abort_2 : decode cX10_abort 2 = .ok (.invokevirtual 66, 3) := by decide +kernel
theorem dX10_abort_5 : decode cX10_abort 5 = .ok (.ifCond .ne 5, 3) := by decide +kernel
theorem dX10_abort_8 : decode cX10_abort 8 = .ok (.iconst (-1), 1) := by decide +kernel
theorem dX10_abort_9 : decode cX10_abort 9 = .ok (.ireturn, 1) := by decide +kernel
theorem dX10_abort_10 : decode cX10_abort 10 = .ok (.aload_n 0, 1) := by decide +kernel
theorem dX10_abort_11 : decode cX10_abort 11 = .ok (.getfield 23, 3) := by decide +kernel
theorem dX10_abort_14 : decode cX10_abort 14 = .ok (.getfield 70, 3) := by decide +kernel
theorem dX10_abort_17 : decode cX10_abort 17 = .ok (.iload_n 1, 1) := by decide +kernel
theorem dX10_abort_18 : decode cX10_abort 18 = .ok (.iaload, 1) := by decide +kernel
theorem dX10_abort_19 : decode cX10_abort 19 = .ok (.iconst 1, 1) := by decide +kernel
theorem dX10_abort_20 : decode cX10_abort 20 = .ok (.if_icmp .eq 5, 3) := by decide +kernel
theorem dX10_abort_23 : decode cX10_abort 23 = .ok (.iconst 0, 1) := by decide +kernel
theorem dX10_abort_24 : decode cX10_abort 24 = .ok (.ireturn, 1) := by decide +kernel
theorem dX10_abort_25 : decode cX10_abort 25 = .ok (.aload_n 0, 1) := by decide +kernel
theorem dX10_abort_26 : decode cX10_abort 26 = .ok (.getfield 23, 3) := by decide +kernel
theorem dX10_abort_29 : decode cX10_abort 29 = .ok (.getfield 70, 3) := by decide +kernel
theorem dX10_abort_32 : decode cX10_abort 32 = .ok (.iload_n 1, 1) := by decide +kernel
theorem dX10_abort_33 : decode cX10_abort 33 = .ok (.iconst 4, 1) := by decide +kernel
theorem dX10_abort_34 : decode cX10_abort 34 = .ok (.iastore, 1) := by decide +kernel
theorem dX10_abort_35 : decode cX10_abort 35 = .ok (.aload_n 0, 1) := by decide +kernel
theorem dX10_abort_36 : decode cX10_abort 36 = .ok (.getfield 47, 3) := by decide +kernel
theorem dX10_abort_39 : decode cX10_abort 39 = .ok (.astore_n 2, 1) := by decide +kernel
theorem dX10_abort_40 : decode cX10_abort 40 = .ok (.aload_n 2, 1) := by decide +kernel
theorem dX10_abort_41 : decode cX10_abort 41 = .ok (.arraylength, 1) := by decide +kernel
theorem dX10_abort_42 : decode cX10_abort 42 = .ok (.istore_n 3, 1) := by decide +kernel
theorem dX10_abort_43 : decode cX10_abort 43 = .ok (.iconst 0, 1) := by decide +kernel
theorem dX10_abort_44 : decode cX10_abort 44 = .ok (.istore 4, 2) := by decide +kernel
theorem dX10_abort_46 : decode cX10_abort 46 = .ok (.iload 4, 2) := by decide +kernel
theorem dX10_abort_48 : decode cX10_abort 48 = .ok (.iload_n 3, 1) := by decide +kernel
theorem dX10_abort_49 : decode cX10_abort 49 = .ok (.if_icmp .ge 29, 3) := by decide +kernel
theorem dX10_abort_52 : decode cX10_abort 52 = .ok (.aload_n 2, 1) := by decide +kernel
theorem dX10_abort_53 : decode cX10_abort 53 = .ok (.iload 4, 2) := by decide +kernel
theorem dX10_abort_55 : decode cX10_abort 55 = .ok (.aaload, 1) := by decide +kernel
theorem dX10_abort_56 : decode cX10_abort 56 = .ok (.astore 5, 2) := by decide +kernel
theorem dX10_abort_58 : decode cX10_abort 58 = .ok (.aload 5, 2) := by decide +kernel
theorem dX10_abort_60 : decode cX10_abort 60 = .ok (.getfield 112, 3) := by decide +kernel
theorem dX10_abort_63 : decode cX10_abort 63 = .ok (.ifCond .eq 9, 3) := by decide +kernel
theorem dX10_abort_66 : decode cX10_abort 66 = .ok (.aload 5, 2) := by decide +kernel
theorem dX10_abort_68 : decode cX10_abort 68 = .ok (.iload_n 1, 1) := by decide +kernel
theorem dX10_abort_69 : decode cX10_abort 69 = .ok (.invokevirtual 116, 3) := by decide +kernel
theorem dX10_abort_72 : decode cX10_abort 72 = .ok (.iinc 4 1, 3) := by decide +kernel
theorem dX10_abort_75 : decode cX10_abort 75 = .ok (.goto (-29), 3) := by decide +kernel
theorem dX10_abort_78 : decode cX10_abort 78 = .ok (.iconst 1, 1) := by decide +kernel
theorem dX10_abort_79 : decode cX10_abort 79 = .ok (.ireturn, 1) := by decide +kernel
theorem dX10_outcome_0 : decode cX10_outcome 0 = .ok (.aload_n 0, 1) := by decide +kernel
theorem dX10_outcome_1 : decode cX10_outcome 1 = .ok (.iload_n 1, 1) := by decide +kernel
theorem dX10_outcome_2 : decode cX10_outcome 2 = .ok (.invokevirtual 66, 3) := by decide +kernel
theorem dX10_outcome_5 : decode cX10_outcome 5 = .ok (.ifCond .eq 15, 3) := by decide +kernel
theorem dX10_outcome_8 : decode cX10_outcome 8 = .ok (.aload_n 0, 1) := by decide +kernel
theorem dX10_outcome_9 : decode cX10_outcome 9 = .ok (.getfield 23, 3) := by decide +kernel
theorem dX10_outcome_12 : decode cX10_outcome 12 = .ok (.getfield 70, 3) := by decide +kernel
theorem dX10_outcome_15 : decode cX10_outcome 15 = .ok (.iload_n 1, 1) := by decide +kernel
theorem dX10_outcome_16 : decode cX10_outcome 16 = .ok (.iaload, 1) := by decide +kernel
theorem dX10_outcome_17 : decode cX10_outcome 17 = .ok (.goto 4, 3) := by decide +kernel
theorem dX10_outcome_20 : decode cX10_outcome 20 = .ok (.iconst (-1), 1) := by decide +kernel
theorem dX10_outcome_21 : decode cX10_outcome 21 = .ok (.ireturn, 1) := by decide +kernel
theorem dX10_committedValue_0 : decode cX10_committedValue 0 = .ok (.aload_n 0, 1) := by decide +kernel
theorem dX10_committedValue_1 : decode cX10_committedValue 1 = .ok (.iload_n 1, 1) := by decide +kernel
theorem dX10_committedValue_2 : decode cX10_committedValue 2 = .ok (.invokevirtual 120, 3) := by decide +kernel
theorem dX10_committedValue_5 : decode cX10_committedValue 5 = .ok (.ifCond .eq 15, 3) := by decide +kernel
theorem dX10_committedValue_8 : decode cX10_committedValue 8 = .ok (.aload_n 0, 1) := by decide +kernel
theorem dX10_committedValue_9 : decode cX10_committedValue 9 = .ok (.getfield 30, 3) := by decide +kernel
theorem dX10_committedValue_12 : decode cX10_committedValue 12 = .ok (.getfield 123, 3) := by decide +kernel
theorem dX10_committedValue_15 : decode cX10_committedValue 15 = .ok (.iload_n 1, 1) := by decide +kernel
theorem dX10_committedValue_16 : decode cX10_committedValue 16 = .ok (.laload, 1) := by decide +kernel
theorem dX10_committedValue_17 : decode cX10_committedValue 17 = .ok (.goto 4, 3) := by decide +kernel
theorem dX10_committedValue_20 : decode cX10_committedValue 20 = .ok (.lconst 0, 1) := by decide +kernel
theorem dX10_committedValue_21 : decode cX10_committedValue 21 = .ok (.lreturn, 1) := by decide +kernel
theorem dX10_deliver_0 : decode cX10_deliver 0 = .ok (.aload_n 0, 1) := by decide +kernel
theorem dX10_deliver_1 : decode cX10_deliver 1 = .ok (.getfield 37, 3) := by decide +kernel
theorem dX10_deliver_4 : decode cX10_deliver 4 = .ok (.iload_n 1, 1) := by decide +kernel
theorem dX10_deliver_5 : decode cX10_deliver 5 = .ok (.invokevirtual 127, 3) := by decide +kernel
theorem dX10_deliver_8 : decode cX10_deliver 8 = .ok (.ifCond .eq 11, 3) := by decide +kernel
theorem dX10_deliver_11 : decode cX10_deliver 11 = .ok (.aload_n 0, 1) := by decide +kernel
theorem dX10_deliver_12 : decode cX10_deliver 12 = .ok (.iload_n 1, 1) := by decide +kernel
theorem dX10_deliver_13 : decode cX10_deliver 13 = .ok (.invokevirtual 130, 3) := by decide +kernel
theorem dX10_deliver_16 : decode cX10_deliver 16 = .ok (.goto 4, 3) := by decide +kernel
theorem dX10_deliver_19 : decode cX10_deliver 19 = .ok (.iconst (-1), 1) := by decide +kernel
theorem dX10_deliver_20 : decode cX10_deliver 20 = .ok (.ireturn, 1) := by decide +kernel
theorem dX10_drop_0 : decode cX10_drop 0 = .ok (.aload_n 0, 1) := by decide +kernel
theorem dX10_drop_1 : decode cX10_drop 1 = .ok (.getfield 37, 3) := by decide +kernel
theorem dX10_drop_4 : decode cX10_drop 4 = .ok (.iload_n 1, 1) := by decide +kernel
theorem dX10_drop_5 : decode cX10_drop 5 = .ok (.invokevirtual 127, 3) := by decide +kernel
theorem dX10_drop_8 : decode cX10_drop 8 = .ok (.ifCond .eq 17, 3) := by decide +kernel
theorem dX10_drop_11 : decode cX10_drop 11 = .ok (.aload_n 0, 1) := by decide +kernel
theorem dX10_drop_12 : decode cX10_drop 12 = .ok (.getfield 37, 3) := by decide +kernel
theorem dX10_drop_15 : decode cX10_drop 15 = .ok (.iload_n 1, 1) := by decide +kernel
theorem dX10_drop_16 : decode cX10_drop 16 = .ok (.invokevirtual 134, 3) := by decide +kernel
theorem dX10_drop_19 : decode cX10_drop 19 = .ok (.getfield 138, 3) := by decide +kernel
theorem dX10_drop_22 : decode cX10_drop 22 = .ok (.goto 4, 3) := by decide +kernel
theorem dX10_drop_25 : decode cX10_drop 25 = .ok (.iconst (-1), 1) := by decide +kernel
theorem dX10_drop_26 : decode cX10_drop 26 = .ok (.ireturn, 1) := by decide +kernel
theorem dX10_twice_0 : decode cX10_twice 0 = .ok (.aload_n 0, 1) := by decide +kernel
theorem dX10_twice_1 : decode cX10_twice 1 = .ok (.getfield 37, 3) := by decide +kernel
theorem dX10_twice_4 : decode cX10_twice 4 = .ok (.iload_n 1, 1) := by decide +kernel
theorem dX10_twice_5 : decode cX10_twice 5 = .ok (.invokevirtual 127, 3) := by decide +kernel
theorem dX10_twice_8 : decode cX10_twice 8 = .ok (.ifCond .ne 5, 3) := by decide +kernel
theorem dX10_twice_11 : decode cX10_twice 11 = .ok (.iconst (-1), 1) := by decide +kernel
theorem dX10_twice_12 : decode cX10_twice 12 = .ok (.ireturn, 1) := by decide +kernel
theorem dX10_twice_13 : decode cX10_twice 13 = .ok (.aload_n 0, 1) := by decide +kernel
theorem dX10_twice_14 : decode cX10_twice 14 = .ok (.getfield 37, 3) := by decide +kernel
theorem dX10_twice_17 : decode cX10_twice 17 = .ok (.getfield 143, 3) := by decide +kernel
theorem dX10_twice_20 : decode cX10_twice 20 = .ok (.iload_n 1, 1) := by decide +kernel
theorem dX10_twice_21 : decode cX10_twice 21 = .ok (.aaload, 1) := by decide +kernel
theorem dX10_twice_22 : decode cX10_twice 22 = .ok (.astore_n 2, 1) := by decide +kernel
theorem dX10_twice_23 : decode cX10_twice 23 = .ok (.aload_n 0, 1) := by decide +kernel
theorem dX10_twice_24 : decode cX10_twice 24 = .ok (.getfield 37, 3) := by decide +kernel
theorem dX10_twice_27 : decode cX10_twice 27 = .ok (.aload_n 2, 1) := by decide +kernel
theorem dX10_twice_28 : decode cX10_twice 28 = .ok (.aload_n 2, 1) := by decide +kernel
theorem dX10_twice_29 : decode cX10_twice 29 = .ok (.getfield 147, 3) := by decide +kernel
theorem dX10_twice_32 : decode cX10_twice 32 = .ok (.invokevirtual 108, 3) := by decide +kernel
theorem dX10_twice_35 : decode cX10_twice 35 = .ok (.ifCond .eq 13, 3) := by decide +kernel
theorem dX10_twice_38 : decode cX10_twice 38 = .ok (.aload_n 0, 1) := by decide +kernel
theorem dX10_twice_39 : decode cX10_twice 39 = .ok (.getfield 37, 3) := by decide +kernel
theorem dX10_twice_42 : decode cX10_twice 42 = .ok (.getfield 150, 3) := by decide +kernel
theorem dX10_twice_45 : decode cX10_twice 45 = .ok (.goto 4, 3) := by decide +kernel
theorem dX10_twice_48 : decode cX10_twice 48 = .ok (.iconst 0, 1) := by decide +kernel
theorem dX10_twice_49 : decode cX10_twice 49 = .ok (.ireturn, 1) := by decide +kernel
theorem dX10_timeout_0 : decode cX10_timeout 0 = .ok (.aload_n 0, 1) := by decide +kernel
theorem dX10_timeout_1 : decode cX10_timeout 1 = .ok (.iload_n 1, 1) := by decide +kernel
theorem dX10_timeout_2 : decode cX10_timeout 2 = .ok (.invokevirtual 153, 3) := by decide +kernel
theorem dX10_timeout_5 : decode cX10_timeout 5 = .ok (.astore_n 3, 1) := by decide +kernel
theorem dX10_timeout_6 : decode cX10_timeout 6 = .ok (.aload_n 3, 1) := by decide +kernel
theorem dX10_timeout_7 : decode cX10_timeout 7 = .ok (.ifnull 11, 3) := by decide +kernel
theorem dX10_timeout_10 : decode cX10_timeout 10 = .ok (.aload_n 0, 1) := by decide +kernel
theorem dX10_timeout_11 : decode cX10_timeout 11 = .ok (.iload_n 2, 1) := by decide +kernel
theorem dX10_timeout_12 : decode cX10_timeout 12 = .ok (.invokevirtual 66, 3) := by decide +kernel
theorem dX10_timeout_15 : decode cX10_timeout 15 = .ok (.ifCond .ne 5, 3) := by decide +kernel
theorem dX10_timeout_18 : decode cX10_timeout 18 = .ok (.iconst (-1), 1) := by decide +kernel
theorem dX10_timeout_19 : decode cX10_timeout 19 = .ok (.ireturn, 1) := by decide +kernel
theorem dX10_timeout_20 : decode cX10_timeout 20 = .ok (.aload_n 0, 1) := by decide +kernel
theorem dX10_timeout_21 : decode cX10_timeout 21 = .ok (.getfield 23, 3) := by decide +kernel
theorem dX10_timeout_24 : decode cX10_timeout 24 = .ok (.getfield 70, 3) := by decide +kernel
theorem dX10_timeout_27 : decode cX10_timeout 27 = .ok (.iload_n 2, 1) := by decide +kernel
theorem dX10_timeout_28 : decode cX10_timeout 28 = .ok (.iaload, 1) := by decide +kernel
theorem dX10_timeout_29 : decode cX10_timeout 29 = .ok (.istore 4, 2) := by decide +kernel
theorem dX10_timeout_31 : decode cX10_timeout 31 = .ok (.iload 4, 2) := by decide +kernel
theorem dX10_timeout_33 : decode cX10_timeout 33 = .ok (.ifCond .eq 20, 3) := by decide +kernel
theorem dX10_timeout_36 : decode cX10_timeout 36 = .ok (.iload 4, 2) := by decide +kernel
theorem dX10_timeout_38 : decode cX10_timeout 38 = .ok (.iconst 1, 1) := by decide +kernel
theorem dX10_timeout_39 : decode cX10_timeout 39 = .ok (.if_icmp .eq 14, 3) := by decide +kernel
theorem dX10_timeout_42 : decode cX10_timeout 42 = .ok (.aload_n 0, 1) := by decide +kernel
theorem dX10_timeout_43 : decode cX10_timeout 43 = .ok (.getfield 23, 3) := by decide +kernel
theorem dX10_timeout_46 : decode cX10_timeout 46 = .ok (.iload_n 2, 1) := by decide +kernel
theorem dX10_timeout_47 : decode cX10_timeout 47 = .ok (.invokevirtual 89, 3) := by decide +kernel
theorem dX10_timeout_50 : decode cX10_timeout 50 = .ok (.ifCond .eq 5, 3) := by decide +kernel
theorem dX10_timeout_53 : decode cX10_timeout 53 = .ok (.iconst 0, 1) := by decide +kernel
theorem dX10_timeout_54 : decode cX10_timeout 54 = .ok (.ireturn, 1) := by decide +kernel
theorem dX10_timeout_55 : decode cX10_timeout 55 = .ok (.aload_n 3, 1) := by decide +kernel
theorem dX10_timeout_56 : decode cX10_timeout 56 = .ok (.iload_n 2, 1) := by decide +kernel
theorem dX10_timeout_57 : decode cX10_timeout 57 = .ok (.invokevirtual 157, 3) := by decide +kernel
theorem dX10_timeout_60 : decode cX10_timeout 60 = .ok (.ireturn, 1) := by decide +kernel
theorem dX10_crash_0 : decode cX10_crash 0 = .ok (.aload_n 0, 1) := by decide +kernel
theorem dX10_crash_1 : decode cX10_crash 1 = .ok (.iload_n 1, 1) := by decide +kernel
theorem dX10_crash_2 : decode cX10_crash 2 = .ok (.invokevirtual 160, 3) := by decide +kernel
theorem dX10_crash_5 : decode cX10_crash 5 = .ok (.astore_n 2, 1) := by decide +kernel
theorem dX10_crash_6 : decode cX10_crash 6 = .ok (.aload_n 2, 1) := by decide +kernel
theorem dX10_crash_7 : decode cX10_crash 7 = .ok (.ifnonnull 5, 3) := by decide +kernel
theorem dX10_crash_10 : decode cX10_crash 10 = .ok (.iconst (-1), 1) := by decide +kernel
theorem dX10_crash_11 : decode cX10_crash 11 = .ok (.ireturn, 1) := by decide +kernel
theorem dX10_crash_12 : decode cX10_crash 12 = .ok (.aload_n 2, 1) := by decide +kernel
theorem dX10_crash_13 : decode cX10_crash 13 = .ok (.getfield 164, 3) := by decide +kernel
theorem dX10_crash_16 : decode cX10_crash 16 = .ok (.ifCond .ne 5, 3) := by decide +kernel
theorem dX10_crash_19 : decode cX10_crash 19 = .ok (.iconst 0, 1) := by decide +kernel
theorem dX10_crash_20 : decode cX10_crash 20 = .ok (.ireturn, 1) := by decide +kernel
theorem dX10_crash_21 : decode cX10_crash 21 = .ok (.aload_n 2, 1) := by decide +kernel
theorem dX10_crash_22 : decode cX10_crash 22 = .ok (.iconst 0, 1) := by decide +kernel
theorem dX10_crash_23 : decode cX10_crash 23 = .ok (.putfield 164, 3) := by decide +kernel
theorem dX10_crash_26 : decode cX10_crash 26 = .ok (.aload_n 2, 1) := by decide +kernel
theorem dX10_crash_27 : decode cX10_crash 27 = .ok (.invokevirtual 167, 3) := by decide +kernel
theorem dX10_crash_30 : decode cX10_crash 30 = .ok (.iconst 1, 1) := by decide +kernel
theorem dX10_crash_31 : decode cX10_crash 31 = .ok (.ireturn, 1) := by decide +kernel
theorem dX10_restart_0 : decode cX10_restart 0 = .ok (.aload_n 0, 1) := by decide +kernel
theorem dX10_restart_1 : decode cX10_restart 1 = .ok (.iload_n 1, 1) := by decide +kernel
theorem dX10_restart_2 : decode cX10_restart 2 = .ok (.invokevirtual 160, 3) := by decide +kernel
theorem dX10_restart_5 : decode cX10_restart 5 = .ok (.astore_n 2, 1) := by decide +kernel
theorem dX10_restart_6 : decode cX10_restart 6 = .ok (.aload_n 2, 1) := by decide +kernel
theorem dX10_restart_7 : decode cX10_restart 7 = .ok (.ifnonnull 5, 3) := by decide +kernel
theorem dX10_restart_10 : decode cX10_restart 10 = .ok (.iconst (-1), 1) := by decide +kernel
theorem dX10_restart_11 : decode cX10_restart 11 = .ok (.ireturn, 1) := by decide +kernel
theorem dX10_restart_12 : decode cX10_restart 12 = .ok (.aload_n 2, 1) := by decide +kernel
theorem dX10_restart_13 : decode cX10_restart 13 = .ok (.getfield 164, 3) := by decide +kernel
theorem dX10_restart_16 : decode cX10_restart 16 = .ok (.ifCond .eq 5, 3) := by decide +kernel
theorem dX10_restart_19 : decode cX10_restart 19 = .ok (.iconst 0, 1) := by decide +kernel
theorem dX10_restart_20 : decode cX10_restart 20 = .ok (.ireturn, 1) := by decide +kernel
theorem dX10_restart_21 : decode cX10_restart 21 = .ok (.aload_n 2, 1) := by decide +kernel
theorem dX10_restart_22 : decode cX10_restart 22 = .ok (.iconst 1, 1) := by decide +kernel
theorem dX10_restart_23 : decode cX10_restart 23 = .ok (.putfield 164, 3) := by decide +kernel
theorem dX10_restart_26 : decode cX10_restart 26 = .ok (.iconst 1, 1) := by decide +kernel
theorem dX10_restart_27 : decode cX10_restart 27 = .ok (.ireturn, 1) := by decide +kernel
theorem dX10_pending_0 : decode cX10_pending 0 = .ok (.aload_n 0, 1) := by decide +kernel
theorem dX10_pending_1 : decode cX10_pending 1 = .ok (.getfield 37, 3) := by decide +kernel
theorem dX10_pending_4 : decode cX10_pending 4 = .ok (.getfield 150, 3) := by decide +kernel
theorem dX10_pending_7 : decode cX10_pending 7 = .ok (.ireturn, 1) := by decide +kernel
theorem dX10_play_0 : decode cX10_play 0 = .ok (.iload_n 3, 1) := by decide +kernel
theorem dX10_play_1 : decode cX10_play 1 = .ok (.ifCond .lt 10, 3) := by decide +kernel
theorem dX10_play_4 : decode cX10_play 4 = .ok (.iload_n 3, 1) := by decide +kernel
theorem dX10_play_5 : decode cX10_play 5 = .ok (.sipush 400, 3) := by decide +kernel
theorem dX10_play_8 : decode cX10_play 8 = .ok (.if_icmp .le 5, 3) := by decide +kernel
theorem dX10_play_11 : decode cX10_play 11 = .ok (.iconst (-1), 1) := by decide +kernel
theorem dX10_play_12 : decode cX10_play 12 = .ok (.ireturn, 1) := by decide +kernel
theorem dX10_play_13 : decode cX10_play 13 = .ok (.lload_n 1, 1) := by decide +kernel
theorem dX10_play_14 : decode cX10_play 14 = .ok (.lstore 4, 2) := by decide +kernel
theorem dX10_play_16 : decode cX10_play 16 = .ok (.iconst 0, 1) := by decide +kernel
theorem dX10_play_17 : decode cX10_play 17 = .ok (.istore 6, 2) := by decide +kernel
theorem dX10_play_19 : decode cX10_play 19 = .ok (.iload 6, 2) := by decide +kernel
theorem dX10_play_21 : decode cX10_play 21 = .ok (.iload_n 3, 1) := by decide +kernel
theorem dX10_play_22 : decode cX10_play 22 = .ok (.if_icmp .ge 57, 3) := by decide +kernel
theorem dX10_play_25 : decode cX10_play 25 = .ok (.aload_n 0, 1) := by decide +kernel
theorem dX10_play_26 : decode cX10_play 26 = .ok (.getfield 37, 3) := by decide +kernel
theorem dX10_play_29 : decode cX10_play 29 = .ok (.getfield 150, 3) := by decide +kernel
theorem dX10_play_32 : decode cX10_play 32 = .ok (.ifCond .le 47, 3) := by decide +kernel
theorem dX10_play_35 : decode cX10_play 35 = .ok (.lload 4, 2) := by decide +kernel
theorem dX10_play_37 : decode cX10_play 37 = .ok (.ldc2_w 170, 3) := by decide +kernel
theorem dX10_play_40 : decode cX10_play 40 = .ok (.lmul, 1) := by decide +kernel
theorem dX10_play_41 : decode cX10_play 41 = .ok (.ldc2_w 172, 3) := by decide +kernel
theorem dX10_play_44 : decode cX10_play 44 = .ok (.ladd, 1) := by decide +kernel
theorem dX10_play_45 : decode cX10_play 45 = .ok (.lstore 4, 2) := by decide +kernel
theorem dX10_play_47 : decode cX10_play 47 = .ok (.lload 4, 2) := by decide +kernel
theorem dX10_play_49 : decode cX10_play 49 = .ok (.bipush 32, 2) := by decide +kernel
theorem dX10_play_51 : decode cX10_play 51 = .ok (.lushr, 1) := by decide +kernel
theorem dX10_play_52 : decode cX10_play 52 = .ok (.l2i, 1) := by decide +kernel
theorem dX10_play_53 : decode cX10_play 53 = .ok (.ldc 174, 2) := by decide +kernel
theorem dX10_play_55 : decode cX10_play 55 = .ok (.iand, 1) := by decide +kernel
theorem dX10_play_56 : decode cX10_play 56 = .ok (.istore 7, 2) := by decide +kernel
theorem dX10_play_58 : decode cX10_play 58 = .ok (.aload_n 0, 1) := by decide +kernel
theorem dX10_play_59 : decode cX10_play 59 = .ok (.iload 7, 2) := by decide +kernel
theorem dX10_play_61 : decode cX10_play 61 = .ok (.aload_n 0, 1) := by decide +kernel
theorem dX10_play_62 : decode cX10_play 62 = .ok (.getfield 37, 3) := by decide +kernel
theorem dX10_play_65 : decode cX10_play 65 = .ok (.getfield 150, 3) := by decide +kernel
theorem dX10_play_68 : decode cX10_play 68 = .ok (.irem, 1) := by decide +kernel
theorem dX10_play_69 : decode cX10_play 69 = .ok (.invokevirtual 130, 3) := by decide +kernel
theorem dX10_play_72 : decode cX10_play 72 = .ok (.pop, 1) := by decide +kernel
theorem dX10_play_73 : decode cX10_play 73 = .ok (.iinc 6 1, 3) := by decide +kernel
theorem dX10_play_76 : decode cX10_play 76 = .ok (.goto (-57), 3) := by decide +kernel
theorem dX10_play_79 : decode cX10_play 79 = .ok (.iload 6, 2) := by decide +kernel
theorem dX10_play_81 : decode cX10_play 81 = .ok (.ireturn, 1) := by decide +kernel
theorem dX10_message_0 : decode cX10_message 0 = .ok (.aload_n 0, 1) := by decide +kernel
theorem dX10_message_1 : decode cX10_message 1 = .ok (.getfield 37, 3) := by decide +kernel
theorem dX10_message_4 : decode cX10_message 4 = .ok (.iload_n 1, 1) := by decide +kernel
theorem dX10_message_5 : decode cX10_message 5 = .ok (.invokevirtual 127, 3) := by decide +kernel
theorem dX10_message_8 : decode cX10_message 8 = .ok (.ifCond .eq 19, 3) := by decide +kernel
theorem dX10_message_11 : decode cX10_message 11 = .ok (.aload_n 0, 1) := by decide +kernel
theorem dX10_message_12 : decode cX10_message 12 = .ok (.getfield 37, 3) := by decide +kernel
theorem dX10_message_15 : decode cX10_message 15 = .ok (.getfield 143, 3) := by decide +kernel
theorem dX10_message_18 : decode cX10_message 18 = .ok (.iload_n 1, 1) := by decide +kernel
theorem dX10_message_19 : decode cX10_message 19 = .ok (.aaload, 1) := by decide +kernel
theorem dX10_message_20 : decode cX10_message 20 = .ok (.iload_n 2, 1) := by decide +kernel
theorem dX10_message_21 : decode cX10_message 21 = .ok (.invokevirtual 175, 3) := by decide +kernel
theorem dX10_message_24 : decode cX10_message 24 = .ok (.goto 4, 3) := by decide +kernel
theorem dX10_message_27 : decode cX10_message 27 = .ok (.iconst (-1), 1) := by decide +kernel
theorem dX10_message_28 : decode cX10_message 28 = .ok (.ireturn, 1) := by decide +kernel
theorem dX10_lock_0 : decode cX10_lock 0 = .ok (.aload_n 0, 1) := by decide +kernel
theorem dX10_lock_1 : decode cX10_lock 1 = .ok (.iload_n 1, 1) := by decide +kernel
theorem dX10_lock_2 : decode cX10_lock 2 = .ok (.invokevirtual 120, 3) := by decide +kernel
theorem dX10_lock_5 : decode cX10_lock 5 = .ok (.ifCond .ne 5, 3) := by decide +kernel
theorem dX10_lock_8 : decode cX10_lock 8 = .ok (.iconst (-1), 1) := by decide +kernel
theorem dX10_lock_9 : decode cX10_lock 9 = .ok (.ireturn, 1) := by decide +kernel
theorem dX10_lock_10 : decode cX10_lock 10 = .ok (.iload_n 2, 1) := by decide +kernel
theorem dX10_lock_11 : decode cX10_lock 11 = .ok (.tableswitch 60 0 2 #[25, 34, 43], 25) := by decide +kernel
theorem dX10_lock_36 : decode cX10_lock 36 = .ok (.aload_n 0, 1) := by decide +kernel
theorem dX10_lock_37 : decode cX10_lock 37 = .ok (.getfield 30, 3) := by decide +kernel
theorem dX10_lock_40 : decode cX10_lock 40 = .ok (.iload_n 1, 1) := by decide +kernel
theorem dX10_lock_41 : decode cX10_lock 41 = .ok (.invokevirtual 178, 3) := by decide +kernel
theorem dX10_lock_44 : decode cX10_lock 44 = .ok (.ireturn, 1) := by decide +kernel
theorem dX10_lock_45 : decode cX10_lock 45 = .ok (.aload_n 0, 1) := by decide +kernel
theorem dX10_lock_46 : decode cX10_lock 46 = .ok (.getfield 30, 3) := by decide +kernel
theorem dX10_lock_49 : decode cX10_lock 49 = .ok (.iload_n 1, 1) := by decide +kernel
theorem dX10_lock_50 : decode cX10_lock 50 = .ok (.invokevirtual 181, 3) := by decide +kernel
theorem dX10_lock_53 : decode cX10_lock 53 = .ok (.ireturn, 1) := by decide +kernel
theorem dX10_lock_54 : decode cX10_lock 54 = .ok (.aload_n 0, 1) := by decide +kernel
theorem dX10_lock_55 : decode cX10_lock 55 = .ok (.getfield 30, 3) := by decide +kernel
theorem dX10_lock_58 : decode cX10_lock 58 = .ok (.iload_n 1, 1) := by decide +kernel
theorem dX10_lock_59 : decode cX10_lock 59 = .ok (.invokevirtual 184, 3) := by decide +kernel
theorem dX10_lock_62 : decode cX10_lock 62 = .ok (.ifCond .eq 7, 3) := by decide +kernel
theorem dX10_lock_65 : decode cX10_lock 65 = .ok (.iconst 1, 1) := by decide +kernel
theorem dX10_lock_66 : decode cX10_lock 66 = .ok (.goto 4, 3) := by decide +kernel
theorem dX10_lock_69 : decode cX10_lock 69 = .ok (.iconst 0, 1) := by decide +kernel
theorem dX10_lock_70 : decode cX10_lock 70 = .ok (.ireturn, 1) := by decide +kernel
theorem dX10_lock_71 : decode cX10_lock 71 = .ok (.iconst (-1), 1) := by decide +kernel
theorem dX10_lock_72 : decode cX10_lock 72 = .ok (.ireturn, 1) := by decide +kernel
theorem dX10_node_0 : decode cX10_node 0 = .ok (.aload_n 0, 1) := by decide +kernel
theorem dX10_node_1 : decode cX10_node 1 = .ok (.iload_n 1, 1) := by decide +kernel
theorem dX10_node_2 : decode cX10_node 2 = .ok (.invokevirtual 160, 3) := by decide +kernel
theorem dX10_node_5 : decode cX10_node 5 = .ok (.astore_n 3, 1) := by decide +kernel
theorem dX10_node_6 : decode cX10_node 6 = .ok (.aload_n 3, 1) := by decide +kernel
theorem dX10_node_7 : decode cX10_node 7 = .ok (.ifnonnull 5, 3) := by decide +kernel
theorem dX10_node_10 : decode cX10_node 10 = .ok (.iconst (-1), 1) := by decide +kernel
theorem dX10_node_11 : decode cX10_node 11 = .ok (.ireturn, 1) := by decide +kernel
theorem dX10_node_12 : decode cX10_node 12 = .ok (.iload_n 2, 1) := by decide +kernel
theorem dX10_node_13 : decode cX10_node 13 = .ok (.lookupswitch 48 #[(0, 27), (1, 40)], 27) := by decide +kernel
theorem dX10_node_40 : decode cX10_node 40 = .ok (.aload_n 3, 1) := by decide +kernel
theorem dX10_node_41 : decode cX10_node 41 = .ok (.getfield 164, 3) := by decide +kernel
theorem dX10_node_44 : decode cX10_node 44 = .ok (.ifCond .eq 7, 3) := by decide +kernel
theorem dX10_node_47 : decode cX10_node 47 = .ok (.iconst 1, 1) := by decide +kernel
theorem dX10_node_48 : decode cX10_node 48 = .ok (.goto 4, 3) := by decide +kernel
theorem dX10_node_51 : decode cX10_node 51 = .ok (.iconst 0, 1) := by decide +kernel
theorem dX10_node_52 : decode cX10_node 52 = .ok (.ireturn, 1) := by decide +kernel
theorem dX10_node_53 : decode cX10_node 53 = .ok (.aload_n 3, 1) := by decide +kernel
theorem dX10_node_54 : decode cX10_node 54 = .ok (.getfield 187, 3) := by decide +kernel
theorem dX10_node_57 : decode cX10_node 57 = .ok (.getfield 191, 3) := by decide +kernel
theorem dX10_node_60 : decode cX10_node 60 = .ok (.ireturn, 1) := by decide +kernel
theorem dX10_node_61 : decode cX10_node 61 = .ok (.aload_n 3, 1) := by decide +kernel
theorem dX10_node_62 : decode cX10_node 62 = .ok (.iload_n 2, 1) := by decide +kernel
theorem dX10_node_63 : decode cX10_node 63 = .ok (.invokevirtual 196, 3) := by decide +kernel
theorem dX10_node_66 : decode cX10_node 66 = .ok (.ireturn, 1) := by decide +kernel
theorem dX10_entry_0 : decode cX10_entry 0 = .ok (.aload_n 0, 1) := by decide +kernel
theorem dX10_entry_1 : decode cX10_entry 1 = .ok (.iload_n 1, 1) := by decide +kernel
theorem dX10_entry_2 : decode cX10_entry 2 = .ok (.invokevirtual 160, 3) := by decide +kernel
theorem dX10_entry_5 : decode cX10_entry 5 = .ok (.astore 4, 2) := by decide +kernel
theorem dX10_entry_7 : decode cX10_entry 7 = .ok (.aload 4, 2) := by decide +kernel
theorem dX10_entry_9 : decode cX10_entry 9 = .ok (.ifnonnull 7, 3) := by decide +kernel
theorem dX10_entry_12 : decode cX10_entry 12 = .ok (.iconst (-1), 1) := by decide +kernel
theorem dX10_entry_13 : decode cX10_entry 13 = .ok (.goto 13, 3) := by decide +kernel
theorem dX10_entry_16 : decode cX10_entry 16 = .ok (.aload 4, 2) := by decide +kernel
theorem dX10_entry_18 : decode cX10_entry 18 = .ok (.getfield 187, 3) := by decide +kernel
theorem dX10_entry_21 : decode cX10_entry 21 = .ok (.iload_n 2, 1) := by decide +kernel
theorem dX10_entry_22 : decode cX10_entry 22 = .ok (.iload_n 3, 1) := by decide +kernel
theorem dX10_entry_23 : decode cX10_entry 23 = .ok (.invokevirtual 197, 3) := by decide +kernel
theorem dX10_entry_26 : decode cX10_entry 26 = .ok (.ireturn, 1) := by decide +kernel
theorem dX10_ballot_0 : decode cX10_ballot 0 = .ok (.aload_n 0, 1) := by decide +kernel
theorem dX10_ballot_1 : decode cX10_ballot 1 = .ok (.iload_n 1, 1) := by decide +kernel
theorem dX10_ballot_2 : decode cX10_ballot 2 = .ok (.invokevirtual 153, 3) := by decide +kernel
theorem dX10_ballot_5 : decode cX10_ballot 5 = .ok (.astore 4, 2) := by decide +kernel
theorem dX10_ballot_7 : decode cX10_ballot 7 = .ok (.aload 4, 2) := by decide +kernel
theorem dX10_ballot_9 : decode cX10_ballot 9 = .ok (.ifnull 11, 3) := by decide +kernel
theorem dX10_ballot_12 : decode cX10_ballot 12 = .ok (.aload_n 0, 1) := by decide +kernel
theorem dX10_ballot_13 : decode cX10_ballot 13 = .ok (.iload_n 2, 1) := by decide +kernel
theorem dX10_ballot_14 : decode cX10_ballot 14 = .ok (.invokevirtual 66, 3) := by decide +kernel
theorem dX10_ballot_17 : decode cX10_ballot 17 = .ok (.ifCond .ne 5, 3) := by decide +kernel
theorem dX10_ballot_20 : decode cX10_ballot 20 = .ok (.iconst (-1), 1) := by decide +kernel
theorem dX10_ballot_21 : decode cX10_ballot 21 = .ok (.ireturn, 1) := by decide +kernel
theorem dX10_ballot_22 : decode cX10_ballot 22 = .ok (.aload 4, 2) := by decide +kernel
theorem dX10_ballot_24 : decode cX10_ballot 24 = .ok (.getfield 200, 3) := by decide +kernel
theorem dX10_ballot_27 : decode cX10_ballot 27 = .ok (.iload_n 2, 1) := by decide +kernel
theorem dX10_ballot_28 : decode cX10_ballot 28 = .ok (.aaload, 1) := by decide +kernel
theorem dX10_ballot_29 : decode cX10_ballot 29 = .ok (.iload_n 3, 1) := by decide +kernel
theorem dX10_ballot_30 : decode cX10_ballot 30 = .ok (.invokevirtual 204, 3) := by decide +kernel
theorem dX10_ballot_33 : decode cX10_ballot 33 = .ok (.ireturn, 1) := by decide +kernel
theorem dX10_accepted_0 : decode cX10_accepted 0 = .ok (.aload_n 0, 1) := by decide +kernel
theorem dX10_accepted_1 : decode cX10_accepted 1 = .ok (.iload_n 1, 1) := by decide +kernel
theorem dX10_accepted_2 : decode cX10_accepted 2 = .ok (.invokevirtual 153, 3) := by decide +kernel
theorem dX10_accepted_5 : decode cX10_accepted 5 = .ok (.astore 5, 2) := by decide +kernel
theorem dX10_accepted_7 : decode cX10_accepted 7 = .ok (.aload 5, 2) := by decide +kernel
theorem dX10_accepted_9 : decode cX10_accepted 9 = .ok (.ifnull 26, 3) := by decide +kernel
theorem dX10_accepted_12 : decode cX10_accepted 12 = .ok (.aload_n 0, 1) := by decide +kernel
theorem dX10_accepted_13 : decode cX10_accepted 13 = .ok (.iload_n 2, 1) := by decide +kernel
theorem dX10_accepted_14 : decode cX10_accepted 14 = .ok (.invokevirtual 66, 3) := by decide +kernel
theorem dX10_accepted_17 : decode cX10_accepted 17 = .ok (.ifCond .eq 18, 3) := by decide +kernel
theorem dX10_accepted_20 : decode cX10_accepted 20 = .ok (.iload_n 3, 1) := by decide +kernel
theorem dX10_accepted_21 : decode cX10_accepted 21 = .ok (.ifCond .lt 14, 3) := by decide +kernel
theorem dX10_accepted_24 : decode cX10_accepted 24 = .ok (.iload_n 3, 1) := by decide +kernel
theorem dX10_accepted_25 : decode cX10_accepted 25 = .ok (.aload_n 0, 1) := by decide +kernel
theorem dX10_accepted_26 : decode cX10_accepted 26 = .ok (.getfield 12, 3) := by decide +kernel
theorem dX10_accepted_29 : decode cX10_accepted 29 = .ok (.getfield 41, 3) := by decide +kernel
theorem dX10_accepted_32 : decode cX10_accepted 32 = .ok (.if_icmp .lt 5, 3) := by decide +kernel
theorem dX10_accepted_35 : decode cX10_accepted 35 = .ok (.iconst (-1), 1) := by decide +kernel
theorem dX10_accepted_36 : decode cX10_accepted 36 = .ok (.ireturn, 1) := by decide +kernel
theorem dX10_accepted_37 : decode cX10_accepted 37 = .ok (.aload 5, 2) := by decide +kernel
theorem dX10_accepted_39 : decode cX10_accepted 39 = .ok (.getfield 200, 3) := by decide +kernel
theorem dX10_accepted_42 : decode cX10_accepted 42 = .ok (.iload_n 2, 1) := by decide +kernel
theorem dX10_accepted_43 : decode cX10_accepted 43 = .ok (.aaload, 1) := by decide +kernel
theorem dX10_accepted_44 : decode cX10_accepted 44 = .ok (.iload_n 3, 1) := by decide +kernel
theorem dX10_accepted_45 : decode cX10_accepted 45 = .ok (.iload 4, 2) := by decide +kernel
theorem dX10_accepted_47 : decode cX10_accepted 47 = .ok (.invokevirtual 209, 3) := by decide +kernel
theorem dX10_accepted_50 : decode cX10_accepted 50 = .ok (.ireturn, 1) := by decide +kernel
theorem dX10_count_0 : decode cX10_count 0 = .ok (.iload_n 1, 1) := by decide +kernel
theorem dX10_count_1 : decode cX10_count 1 = .ok (.tableswitch 122 0 8 #[51, 59, 67, 72, 81, 90, 98, 106, 114], 51) := by decide +kernel
theorem dX10_count_52 : decode cX10_count 52 = .ok (.aload_n 0, 1) := by decide +kernel
theorem dX10_count_53 : decode cX10_count 53 = .ok (.getfield 37, 3) := by decide +kernel
theorem dX10_count_56 : decode cX10_count 56 = .ok (.getfield 212, 3) := by decide +kernel
theorem dX10_count_59 : decode cX10_count 59 = .ok (.ireturn, 1) := by decide +kernel
theorem dX10_count_60 : decode cX10_count 60 = .ok (.aload_n 0, 1) := by decide +kernel
theorem dX10_count_61 : decode cX10_count 61 = .ok (.getfield 37, 3) := by decide +kernel
theorem dX10_count_64 : decode cX10_count 64 = .ok (.getfield 215, 3) := by decide +kernel
theorem dX10_count_67 : decode cX10_count 67 = .ok (.ireturn, 1) := by decide +kernel
theorem dX10_count_68 : decode cX10_count 68 = .ok (.aload_n 0, 1) := by decide +kernel
theorem dX10_count_69 : decode cX10_count 69 = .ok (.getfield 218, 3) := by decide +kernel
theorem dX10_count_72 : decode cX10_count 72 = .ok (.ireturn, 1) := by decide +kernel
theorem dX10_count_73 : decode cX10_count 73 = .ok (.aload_n 0, 1) := by decide +kernel
theorem dX10_count_74 : decode cX10_count 74 = .ok (.getfield 23, 3) := by decide +kernel
theorem dX10_count_77 : decode cX10_count 77 = .ok (.iconst 3, 1) := by decide +kernel
theorem dX10_count_78 : decode cX10_count 78 = .ok (.invokevirtual 221, 3) := by decide +kernel
theorem dX10_count_81 : decode cX10_count 81 = .ok (.ireturn, 1) := by decide +kernel
theorem dX10_count_82 : decode cX10_count 82 = .ok (.aload_n 0, 1) := by decide +kernel
theorem dX10_count_83 : decode cX10_count 83 = .ok (.getfield 23, 3) := by decide +kernel
theorem dX10_count_86 : decode cX10_count 86 = .ok (.iconst 4, 1) := by decide +kernel
theorem dX10_count_87 : decode cX10_count 87 = .ok (.invokevirtual 221, 3) := by decide +kernel
theorem dX10_count_90 : decode cX10_count 90 = .ok (.ireturn, 1) := by decide +kernel
theorem dX10_count_91 : decode cX10_count 91 = .ok (.aload_n 0, 1) := by decide +kernel
theorem dX10_count_92 : decode cX10_count 92 = .ok (.getfield 12, 3) := by decide +kernel
theorem dX10_count_95 : decode cX10_count 95 = .ok (.getfield 41, 3) := by decide +kernel
theorem dX10_count_98 : decode cX10_count 98 = .ok (.ireturn, 1) := by decide +kernel
theorem dX10_count_99 : decode cX10_count 99 = .ok (.aload_n 0, 1) := by decide +kernel
theorem dX10_count_100 : decode cX10_count 100 = .ok (.getfield 12, 3) := by decide +kernel
theorem dX10_count_103 : decode cX10_count 103 = .ok (.getfield 54, 3) := by decide +kernel
theorem dX10_count_106 : decode cX10_count 106 = .ok (.ireturn, 1) := by decide +kernel
theorem dX10_count_107 : decode cX10_count 107 = .ok (.aload_n 0, 1) := by decide +kernel
theorem dX10_count_108 : decode cX10_count 108 = .ok (.getfield 12, 3) := by decide +kernel
theorem dX10_count_111 : decode cX10_count 111 = .ok (.getfield 224, 3) := by decide +kernel
theorem dX10_count_114 : decode cX10_count 114 = .ok (.ireturn, 1) := by decide +kernel
theorem dX10_count_115 : decode cX10_count 115 = .ok (.aload_n 0, 1) := by decide +kernel
theorem dX10_count_116 : decode cX10_count 116 = .ok (.getfield 12, 3) := by decide +kernel
theorem dX10_count_119 : decode cX10_count 119 = .ok (.getfield 226, 3) := by decide +kernel
theorem dX10_count_122 : decode cX10_count 122 = .ok (.ireturn, 1) := by decide +kernel
theorem dX10_count_123 : decode cX10_count 123 = .ok (.iconst (-1), 1) := by decide +kernel
theorem dX10_count_124 : decode cX10_count 124 = .ok (.ireturn, 1) := by decide +kernel
theorem dX10_isTxn_0 : decode cX10_isTxn 0 = .ok (.iload_n 1, 1) := by decide +kernel
theorem dX10_isTxn_1 : decode cX10_isTxn 1 = .ok (.ifCond .lt 18, 3) := by decide +kernel
theorem dX10_isTxn_4 : decode cX10_isTxn 4 = .ok (.iload_n 1, 1) := by decide +kernel
theorem dX10_isTxn_5 : decode cX10_isTxn 5 = .ok (.aload_n 0, 1) := by decide +kernel
theorem dX10_isTxn_6 : decode cX10_isTxn 6 = .ok (.getfield 12, 3) := by decide +kernel
theorem dX10_isTxn_9 : decode cX10_isTxn 9 = .ok (.getfield 224, 3) := by decide +kernel
theorem dX10_isTxn_12 : decode cX10_isTxn 12 = .ok (.if_icmp .ge 7, 3) := by decide +kernel
theorem dX10_isTxn_15 : decode cX10_isTxn 15 = .ok (.iconst 1, 1) := by decide +kernel
theorem dX10_isTxn_16 : decode cX10_isTxn 16 = .ok (.goto 4, 3) := by decide +kernel
theorem dX10_isTxn_19 : decode cX10_isTxn 19 = .ok (.iconst 0, 1) := by decide +kernel
theorem dX10_isTxn_20 : decode cX10_isTxn 20 = .ok (.ireturn, 1) := by decide +kernel
theorem dX10_isKey_0 : decode cX10_isKey 0 = .ok (.iload_n 1, 1) := by decide +kernel
theorem dX10_isKey_1 : decode cX10_isKey 1 = .ok (.ifCond .lt 18, 3) := by decide +kernel
theorem dX10_isKey_4 : decode cX10_isKey 4 = .ok (.iload_n 1, 1) := by decide +kernel
theorem dX10_isKey_5 : decode cX10_isKey 5 = .ok (.aload_n 0, 1) := by decide +kernel
theorem dX10_isKey_6 : decode cX10_isKey 6 = .ok (.getfield 12, 3) := by decide +kernel
theorem dX10_isKey_9 : decode cX10_isKey 9 = .ok (.getfield 226, 3) := by decide +kernel
theorem dX10_isKey_12 : decode cX10_isKey 12 = .ok (.if_icmp .ge 7, 3) := by decide +kernel
theorem dX10_isKey_15 : decode cX10_isKey 15 = .ok (.iconst 1, 1) := by decide +kernel
theorem dX10_isKey_16 : decode cX10_isKey 16 = .ok (.goto 4, 3) := by decide +kernel
theorem dX10_isKey_19 : decode cX10_isKey 19 = .ok (.iconst 0, 1) := by decide +kernel
theorem dX10_isKey_20 : decode cX10_isKey 20 = .ok (.ireturn, 1) := by decide +kernel
theorem dX10_acceptorAt_0 : decode cX10_acceptorAt 0 = .ok (.iload_n 1, 1) := by decide +kernel
theorem dX10_acceptorAt_1 : decode cX10_acceptorAt 1 = .ok (.aload_n 0, 1) := by decide +kernel
theorem dX10_acceptorAt_2 : decode cX10_acceptorAt 2 = .ok (.getfield 12, 3) := by decide +kernel
theorem dX10_acceptorAt_5 : decode cX10_acceptorAt 5 = .ok (.getfield 41, 3) := by decide +kernel
theorem dX10_acceptorAt_8 : decode cX10_acceptorAt 8 = .ok (.if_icmp .lt 31, 3) := by decide +kernel
theorem dX10_acceptorAt_11 : decode cX10_acceptorAt 11 = .ok (.iload_n 1, 1) := by decide +kernel
theorem dX10_acceptorAt_12 : decode cX10_acceptorAt 12 = .ok (.aload_n 0, 1) := by decide +kernel
theorem dX10_acceptorAt_13 : decode cX10_acceptorAt 13 = .ok (.getfield 12, 3) := by decide +kernel
theorem dX10_acceptorAt_16 : decode cX10_acceptorAt 16 = .ok (.invokevirtual 92, 3) := by decide +kernel
theorem dX10_acceptorAt_19 : decode cX10_acceptorAt 19 = .ok (.if_icmp .ge 20, 3) := by decide +kernel
theorem dX10_acceptorAt_22 : decode cX10_acceptorAt 22 = .ok (.aload_n 0, 1) := by decide +kernel
theorem dX10_acceptorAt_23 : decode cX10_acceptorAt 23 = .ok (.getfield 59, 3) := by decide +kernel
theorem dX10_acceptorAt_26 : decode cX10_acceptorAt 26 = .ok (.iload_n 1, 1) := by decide +kernel
theorem dX10_acceptorAt_27 : decode cX10_acceptorAt 27 = .ok (.aload_n 0, 1) := by decide +kernel
theorem dX10_acceptorAt_28 : decode cX10_acceptorAt 28 = .ok (.getfield 12, 3) := by decide +kernel
theorem dX10_acceptorAt_31 : decode cX10_acceptorAt 31 = .ok (.getfield 41, 3) := by decide +kernel
theorem dX10_acceptorAt_34 : decode cX10_acceptorAt 34 = .ok (.isub, 1) := by decide +kernel
theorem dX10_acceptorAt_35 : decode cX10_acceptorAt 35 = .ok (.aaload, 1) := by decide +kernel
theorem dX10_acceptorAt_36 : decode cX10_acceptorAt 36 = .ok (.goto 4, 3) := by decide +kernel
theorem dX10_acceptorAt_39 : decode cX10_acceptorAt 39 = .ok (.aconst_null, 1) := by decide +kernel
theorem dX10_acceptorAt_40 : decode cX10_acceptorAt 40 = .ok (.areturn, 1) := by decide +kernel
theorem dX10_nodeAt_0 : decode cX10_nodeAt 0 = .ok (.iload_n 1, 1) := by decide +kernel
theorem dX10_nodeAt_1 : decode cX10_nodeAt 1 = .ok (.ifCond .lt 21, 3) := by decide +kernel
theorem dX10_nodeAt_4 : decode cX10_nodeAt 4 = .ok (.iload_n 1, 1) := by decide +kernel
theorem dX10_nodeAt_5 : decode cX10_nodeAt 5 = .ok (.aload_n 0, 1) := by decide +kernel
theorem dX10_nodeAt_6 : decode cX10_nodeAt 6 = .ok (.getfield 12, 3) := by decide +kernel
theorem dX10_nodeAt_9 : decode cX10_nodeAt 9 = .ok (.getfield 41, 3) := by decide +kernel
theorem dX10_nodeAt_12 : decode cX10_nodeAt 12 = .ok (.if_icmp .ge 10, 3) := by decide +kernel
theorem dX10_nodeAt_15 : decode cX10_nodeAt 15 = .ok (.aload_n 0, 1) := by decide +kernel
theorem dX10_nodeAt_16 : decode cX10_nodeAt 16 = .ok (.getfield 47, 3) := by decide +kernel
theorem dX10_nodeAt_19 : decode cX10_nodeAt 19 = .ok (.iload_n 1, 1) := by decide +kernel
theorem dX10_nodeAt_20 : decode cX10_nodeAt 20 = .ok (.aaload, 1) := by decide +kernel
theorem dX10_nodeAt_21 : decode cX10_nodeAt 21 = .ok (.areturn, 1) := by decide +kernel
theorem dX10_nodeAt_22 : decode cX10_nodeAt 22 = .ok (.aload_n 0, 1) := by decide +kernel
theorem dX10_nodeAt_23 : decode cX10_nodeAt 23 = .ok (.iload_n 1, 1) := by decide +kernel
theorem dX10_nodeAt_24 : decode cX10_nodeAt 24 = .ok (.invokevirtual 153, 3) := by decide +kernel
theorem dX10_nodeAt_27 : decode cX10_nodeAt 27 = .ok (.areturn, 1) := by decide +kernel
theorem dX10_access_0 : decode cX10_access 0 = .ok (.aload_n 0, 1) := by decide +kernel
theorem dX10_access_1 : decode cX10_access 1 = .ok (.iload_n 1, 1) := by decide +kernel
theorem dX10_access_2 : decode cX10_access 2 = .ok (.invokevirtual 66, 3) := by decide +kernel
theorem dX10_access_5 : decode cX10_access 5 = .ok (.ifCond .eq 11, 3) := by decide +kernel
theorem dX10_access_8 : decode cX10_access 8 = .ok (.aload_n 0, 1) := by decide +kernel
theorem dX10_access_9 : decode cX10_access 9 = .ok (.iload_n 2, 1) := by decide +kernel
theorem dX10_access_10 : decode cX10_access 10 = .ok (.invokevirtual 120, 3) := by decide +kernel
theorem dX10_access_13 : decode cX10_access 13 = .ok (.ifCond .ne 5, 3) := by decide +kernel
theorem dX10_access_16 : decode cX10_access 16 = .ok (.iconst (-1), 1) := by decide +kernel
theorem dX10_access_17 : decode cX10_access 17 = .ok (.ireturn, 1) := by decide +kernel
theorem dX10_access_18 : decode cX10_access 18 = .ok (.aload_n 0, 1) := by decide +kernel
theorem dX10_access_19 : decode cX10_access 19 = .ok (.getfield 23, 3) := by decide +kernel
theorem dX10_access_22 : decode cX10_access 22 = .ok (.getfield 70, 3) := by decide +kernel
theorem dX10_access_25 : decode cX10_access 25 = .ok (.iload_n 1, 1) := by decide +kernel
theorem dX10_access_26 : decode cX10_access 26 = .ok (.iaload, 1) := by decide +kernel
theorem dX10_access_27 : decode cX10_access 27 = .ok (.iconst 1, 1) := by decide +kernel
theorem dX10_access_28 : decode cX10_access 28 = .ok (.if_icmp .eq 5, 3) := by decide +kernel
theorem dX10_access_31 : decode cX10_access 31 = .ok (.iconst 0, 1) := by decide +kernel
theorem dX10_access_32 : decode cX10_access 32 = .ok (.ireturn, 1) := by decide +kernel
theorem dX10_access_33 : decode cX10_access 33 = .ok (.aload_n 0, 1) := by decide +kernel
theorem dX10_access_34 : decode cX10_access 34 = .ok (.getfield 47, 3) := by decide +kernel
theorem dX10_access_37 : decode cX10_access 37 = .ok (.aload_n 0, 1) := by decide +kernel
theorem dX10_access_38 : decode cX10_access 38 = .ok (.getfield 12, 3) := by decide +kernel
theorem dX10_access_41 : decode cX10_access 41 = .ok (.iload_n 2, 1) := by decide +kernel
theorem dX10_access_42 : decode cX10_access 42 = .ok (.invokevirtual 228, 3) := by decide +kernel
theorem dX10_access_45 : decode cX10_access 45 = .ok (.aaload, 1) := by decide +kernel
theorem dX10_access_46 : decode cX10_access 46 = .ok (.astore 4, 2) := by decide +kernel
theorem dX10_access_48 : decode cX10_access 48 = .ok (.aload 4, 2) := by decide +kernel
theorem dX10_access_50 : decode cX10_access 50 = .ok (.getfield 112, 3) := by decide +kernel
theorem dX10_access_53 : decode cX10_access 53 = .ok (.ifCond .ne 5, 3) := by decide +kernel
theorem dX10_access_56 : decode cX10_access 56 = .ok (.iconst 3, 1) := by decide +kernel
theorem dX10_access_57 : decode cX10_access 57 = .ok (.ireturn, 1) := by decide +kernel
theorem dX10_access_58 : decode cX10_access 58 = .ok (.aload_n 0, 1) := by decide +kernel
theorem dX10_access_59 : decode cX10_access 59 = .ok (.getfield 23, 3) := by decide +kernel
theorem dX10_access_62 : decode cX10_access 62 = .ok (.iload_n 1, 1) := by decide +kernel
theorem dX10_access_63 : decode cX10_access 63 = .ok (.aload 4, 2) := by decide +kernel
theorem dX10_access_65 : decode cX10_access 65 = .ok (.getfield 231, 3) := by decide +kernel
theorem dX10_access_68 : decode cX10_access 68 = .ok (.invokevirtual 100, 3) := by decide +kernel
theorem dX10_access_71 : decode cX10_access 71 = .ok (.ifCond .eq 15, 3) := by decide +kernel
theorem dX10_access_74 : decode cX10_access 74 = .ok (.aload 4, 2) := by decide +kernel
theorem dX10_access_76 : decode cX10_access 76 = .ok (.getfield 234, 3) := by decide +kernel
theorem dX10_access_79 : decode cX10_access 79 = .ok (.iload_n 1, 1) := by decide +kernel
theorem dX10_access_80 : decode cX10_access 80 = .ok (.baload, 1) := by decide +kernel
theorem dX10_access_81 : decode cX10_access 81 = .ok (.ifCond .ne 5, 3) := by decide +kernel
theorem dX10_access_84 : decode cX10_access 84 = .ok (.iconst 4, 1) := by decide +kernel
theorem dX10_access_85 : decode cX10_access 85 = .ok (.ireturn, 1) := by decide +kernel
theorem dX10_access_86 : decode cX10_access 86 = .ok (.aload_n 0, 1) := by decide +kernel
theorem dX10_access_87 : decode cX10_access 87 = .ok (.getfield 30, 3) := by decide +kernel
theorem dX10_access_90 : decode cX10_access 90 = .ok (.iload_n 1, 1) := by decide +kernel
theorem dX10_access_91 : decode cX10_access 91 = .ok (.iload_n 2, 1) := by decide +kernel
theorem dX10_access_92 : decode cX10_access 92 = .ok (.iload_n 3, 1) := by decide +kernel
theorem dX10_access_93 : decode cX10_access 93 = .ok (.invokevirtual 238, 3) := by decide +kernel
theorem dX10_access_96 : decode cX10_access 96 = .ok (.ifCond .ne 5, 3) := by decide +kernel
theorem dX10_access_99 : decode cX10_access 99 = .ok (.iconst 2, 1) := by decide +kernel
theorem dX10_access_100 : decode cX10_access 100 = .ok (.ireturn, 1) := by decide +kernel
theorem dX10_access_101 : decode cX10_access 101 = .ok (.aload_n 0, 1) := by decide +kernel
theorem dX10_access_102 : decode cX10_access 102 = .ok (.getfield 30, 3) := by decide +kernel
theorem dX10_access_105 : decode cX10_access 105 = .ok (.iload_n 1, 1) := by decide +kernel
theorem dX10_access_106 : decode cX10_access 106 = .ok (.iload_n 2, 1) := by decide +kernel
theorem dX10_access_107 : decode cX10_access 107 = .ok (.iload_n 3, 1) := by decide +kernel
theorem dX10_access_108 : decode cX10_access 108 = .ok (.invokevirtual 242, 3) := by decide +kernel
theorem dX10_access_111 : decode cX10_access 111 = .ok (.aload 4, 2) := by decide +kernel
theorem dX10_access_113 : decode cX10_access 113 = .ok (.getfield 234, 3) := by decide +kernel
theorem dX10_access_116 : decode cX10_access 116 = .ok (.iload_n 1, 1) := by decide +kernel
theorem dX10_access_117 : decode cX10_access 117 = .ok (.iconst 1, 1) := by decide +kernel
theorem dX10_access_118 : decode cX10_access 118 = .ok (.bastore, 1) := by decide +kernel
theorem dX10_access_119 : decode cX10_access 119 = .ok (.aload_n 0, 1) := by decide +kernel
theorem dX10_access_120 : decode cX10_access 120 = .ok (.getfield 23, 3) := by decide +kernel
theorem dX10_access_123 : decode cX10_access 123 = .ok (.iload_n 1, 1) := by decide +kernel
theorem dX10_access_124 : decode cX10_access 124 = .ok (.aload 4, 2) := by decide +kernel
theorem dX10_access_126 : decode cX10_access 126 = .ok (.getfield 231, 3) := by decide +kernel
theorem dX10_access_129 : decode cX10_access 129 = .ok (.invokevirtual 245, 3) := by decide +kernel
theorem dX10_access_132 : decode cX10_access 132 = .ok (.iconst 1, 1) := by decide +kernel
theorem dX10_access_133 : decode cX10_access 133 = .ok (.ireturn, 1) := by decide +kernel
theorem dX10_handOver_0 : decode cX10_handOver 0 = .ok (.aload_n 0, 1) := by decide +kernel
theorem dX10_handOver_1 : decode cX10_handOver 1 = .ok (.getfield 37, 3) := by decide +kernel
theorem dX10_handOver_4 : decode cX10_handOver 4 = .ok (.iload_n 1, 1) := by decide +kernel
theorem dX10_handOver_5 : decode cX10_handOver 5 = .ok (.invokevirtual 134, 3) := by decide +kernel
theorem dX10_handOver_8 : decode cX10_handOver 8 = .ok (.astore_n 2, 1) := by decide +kernel
theorem dX10_handOver_9 : decode cX10_handOver 9 = .ok (.aload_n 0, 1) := by decide +kernel
theorem dX10_handOver_10 : decode cX10_handOver 10 = .ok (.dup, 1) := by decide +kernel
theorem dX10_handOver_11 : decode cX10_handOver 11 = .ok (.getfield 218, 3) := by decide +kernel
theorem dX10_handOver_14 : decode cX10_handOver 14 = .ok (.iconst 1, 1) := by decide +kernel
theorem dX10_handOver_15 : decode cX10_handOver 15 = .ok (.iadd, 1) := by decide +kernel
theorem dX10_handOver_16 : decode cX10_handOver 16 = .ok (.putfield 218, 3) := by decide +kernel
theorem dX10_handOver_19 : decode cX10_handOver 19 = .ok (.aload_n 2, 1) := by decide +kernel
theorem dX10_handOver_20 : decode cX10_handOver 20 = .ok (.getfield 147, 3) := by decide +kernel
theorem dX10_handOver_23 : decode cX10_handOver 23 = .ok (.aload_n 0, 1) := by decide +kernel
theorem dX10_handOver_24 : decode cX10_handOver 24 = .ok (.getfield 12, 3) := by decide +kernel
theorem dX10_handOver_27 : decode cX10_handOver 27 = .ok (.invokevirtual 92, 3) := by decide +kernel
theorem dX10_handOver_30 : decode cX10_handOver 30 = .ok (.if_icmp .ne 23, 3) := by decide +kernel
theorem dX10_handOver_33 : decode cX10_handOver 33 = .ok (.aload_n 0, 1) := by decide +kernel
theorem dX10_handOver_34 : decode cX10_handOver 34 = .ok (.getfield 23, 3) := by decide +kernel
theorem dX10_handOver_37 : decode cX10_handOver 37 = .ok (.aload_n 2, 1) := by decide +kernel
theorem dX10_handOver_38 : decode cX10_handOver 38 = .ok (.getfield 249, 3) := by decide +kernel
theorem dX10_handOver_41 : decode cX10_handOver 41 = .ok (.aload_n 2, 1) := by decide +kernel
theorem dX10_handOver_42 : decode cX10_handOver 42 = .ok (.getfield 252, 3) := by decide +kernel
theorem dX10_handOver_45 : decode cX10_handOver 45 = .ok (.invokevirtual 255, 3) := by decide +kernel
theorem dX10_handOver_48 : decode cX10_handOver 48 = .ok (.aload_n 2, 1) := by decide +kernel
theorem dX10_handOver_49 : decode cX10_handOver 49 = .ok (.getfield 138, 3) := by decide +kernel
theorem dX10_handOver_52 : decode cX10_handOver 52 = .ok (.ireturn, 1) := by decide +kernel
theorem dX10_handOver_53 : decode cX10_handOver 53 = .ok (.aload_n 0, 1) := by decide +kernel
theorem dX10_handOver_54 : decode cX10_handOver 54 = .ok (.aload_n 2, 1) := by decide +kernel
theorem dX10_handOver_55 : decode cX10_handOver 55 = .ok (.getfield 147, 3) := by decide +kernel
theorem dX10_handOver_58 : decode cX10_handOver 58 = .ok (.invokevirtual 160, 3) := by decide +kernel
theorem dX10_handOver_61 : decode cX10_handOver 61 = .ok (.astore_n 3, 1) := by decide +kernel
theorem dX10_handOver_62 : decode cX10_handOver 62 = .ok (.aload_n 3, 1) := by decide +kernel
theorem dX10_handOver_63 : decode cX10_handOver 63 = .ok (.ifnull 10, 3) := by decide +kernel
theorem dX10_handOver_66 : decode cX10_handOver 66 = .ok (.aload_n 3, 1) := by decide +kernel
theorem dX10_handOver_67 : decode cX10_handOver 67 = .ok (.getfield 164, 3) := by decide +kernel
theorem dX10_handOver_70 : decode cX10_handOver 70 = .ok (.ifCond .ne 6, 3) := by decide +kernel
theorem dX10_handOver_73 : decode cX10_handOver 73 = .ok (.bipush 9, 2) := by decide +kernel
theorem dX10_handOver_75 : decode cX10_handOver 75 = .ok (.ireturn, 1) := by decide +kernel
theorem dX10_handOver_76 : decode cX10_handOver 76 = .ok (.aload_n 3, 1) := by decide +kernel
theorem dX10_handOver_77 : decode cX10_handOver 77 = .ok (.aload_n 2, 1) := by decide +kernel
theorem dX10_handOver_78 : decode cX10_handOver 78 = .ok (.invokevirtual 258, 3) := by decide +kernel
theorem dX10_handOver_81 : decode cX10_handOver 81 = .ok (.ifCond .eq 10, 3) := by decide +kernel
theorem dX10_handOver_84 : decode cX10_handOver 84 = .ok (.aload_n 2, 1) := by decide +kernel
theorem dX10_handOver_85 : decode cX10_handOver 85 = .ok (.getfield 138, 3) := by decide +kernel
theorem dX10_handOver_88 : decode cX10_handOver 88 = .ok (.goto 5, 3) := by decide +kernel
theorem dX10_handOver_91 : decode cX10_handOver 91 = .ok (.bipush 10, 2) := by decide +kernel
theorem dX10_handOver_93 : decode cX10_handOver 93 = .ok (.ireturn, 1) := by decide +kernel
theorem dX11_init_0 : decode cX11_init 0 = .ok (.aload_n 0, 1) := by decide +kernel
theorem dX11_init_1 : decode cX11_init 1 = .ok (.invokespecial 1, 3) := by decide +kernel
theorem dX11_init_4 : decode cX11_init 4 = .ok (.aload_n 0, 1) := by decide +kernel
theorem dX11_init_5 : decode cX11_init 5 = .ok (.bipush 9, 2) := by decide +kernel
theorem dX11_init_7 : decode cX11_init 7 = .ok (.newarray .boolean, 2) := by decide +kernel
theorem dX11_init_9 : decode cX11_init 9 = .ok (.putfield 7, 3) := by decide +kernel
theorem dX11_init_12 : decode cX11_init 12 = .ok (.aload_n 0, 1) := by decide +kernel
theorem dX11_init_13 : decode cX11_init 13 = .ok (.bipush 9, 2) := by decide +kernel
theorem dX11_init_15 : decode cX11_init 15 = .ok (.newarray .int, 2) := by decide +kernel
theorem dX11_init_17 : decode cX11_init 17 = .ok (.putfield 13, 3) := by decide +kernel
theorem dX11_init_20 : decode cX11_init 20 = .ok (.aload_n 0, 1) := by decide +kernel
theorem dX11_init_21 : decode cX11_init 21 = .ok (.sipush 7200, 3) := by decide +kernel
theorem dX11_init_24 : decode cX11_init 24 = .ok (.newarray .int, 2) := by decide +kernel
theorem dX11_init_26 : decode cX11_init 26 = .ok (.putfield 17, 3) := by decide +kernel
theorem dX11_init_29 : decode cX11_init 29 = .ok (.aload_n 0, 1) := by decide +kernel
theorem dX11_init_30 : decode cX11_init 30 = .ok (.bipush 32, 2) := by decide +kernel
theorem dX11_init_32 : decode cX11_init 32 = .ok (.newarray .long, 2) := by decide +kernel
theorem dX11_init_34 : decode cX11_init 34 = .ok (.putfield 20, 3) := by decide +kernel
theorem dX11_init_37 : decode cX11_init 37 = .ok (.aload_n 0, 1) := by decide +kernel
theorem dX11_init_38 : decode cX11_init 38 = .ok (.bipush 32, 2) := by decide +kernel
theorem dX11_init_40 : decode cX11_init 40 = .ok (.newarray .int, 2) := by decide +kernel
theorem dX11_init_42 : decode cX11_init 42 = .ok (.putfield 24, 3) := by decide +kernel
theorem dX11_init_45 : decode cX11_init 45 = .ok (.aload_n 0, 1) := by decide +kernel
theorem dX11_init_46 : decode cX11_init 46 = .ok (.bipush 32, 2) := by decide +kernel
theorem dX11_init_48 : decode cX11_init 48 = .ok (.newarray .int, 2) := by decide +kernel
theorem dX11_init_50 : decode cX11_init 50 = .ok (.putfield 27, 3) := by decide +kernel
theorem dX11_init_53 : decode cX11_init 53 = .ok (.aload_n 0, 1) := by decide +kernel
theorem dX11_init_54 : decode cX11_init 54 = .ok (.bipush 16, 2) := by decide +kernel
theorem dX11_init_56 : decode cX11_init 56 = .ok (.newarray .int, 2) := by decide +kernel
theorem dX11_init_58 : decode cX11_init 58 = .ok (.putfield 30, 3) := by decide +kernel
theorem dX11_init_61 : decode cX11_init 61 = .ok (.aload_n 0, 1) := by decide +kernel
theorem dX11_init_62 : decode cX11_init 62 = .ok (.bipush 16, 2) := by decide +kernel
theorem dX11_init_64 : decode cX11_init 64 = .ok (.newarray .int, 2) := by decide +kernel
theorem dX11_init_66 : decode cX11_init 66 = .ok (.putfield 33, 3) := by decide +kernel
theorem dX11_init_69 : decode cX11_init 69 = .ok (.aload_n 0, 1) := by decide +kernel
theorem dX11_init_70 : decode cX11_init 70 = .ok (.sipush 512, 3) := by decide +kernel
theorem dX11_init_73 : decode cX11_init 73 = .ok (.newarray .boolean, 2) := by decide +kernel
theorem dX11_init_75 : decode cX11_init 75 = .ok (.putfield 36, 3) := by decide +kernel
theorem dX11_init_78 : decode cX11_init 78 = .ok (.aload_n 0, 1) := by decide +kernel
theorem dX11_init_79 : decode cX11_init 79 = .ok (.sipush 512, 3) := by decide +kernel
theorem dX11_init_82 : decode cX11_init 82 = .ok (.newarray .long, 2) := by decide +kernel
theorem dX11_init_84 : decode cX11_init 84 = .ok (.putfield 39, 3) := by decide +kernel
theorem dX11_init_87 : decode cX11_init 87 = .ok (.aload_n 0, 1) := by decide +kernel
theorem dX11_init_88 : decode cX11_init 88 = .ok (.bipush 64, 2) := by decide +kernel
theorem dX11_init_90 : decode cX11_init 90 = .ok (.newarray .boolean, 2) := by decide +kernel
theorem dX11_init_92 : decode cX11_init 92 = .ok (.putfield 42, 3) := by decide +kernel
theorem dX11_init_95 : decode cX11_init 95 = .ok (.aload_n 0, 1) := by decide +kernel
theorem dX11_init_96 : decode cX11_init 96 = .ok (.bipush 64, 2) := by decide +kernel
theorem dX11_init_98 : decode cX11_init 98 = .ok (.newarray .int, 2) := by decide +kernel
theorem dX11_init_100 : decode cX11_init 100 = .ok (.putfield 45, 3) := by decide +kernel
theorem dX11_init_103 : decode cX11_init 103 = .ok (.aload_n 0, 1) := by decide +kernel
theorem dX11_init_104 : decode cX11_init 104 = .ok (.bipush 64, 2) := by decide +kernel
theorem dX11_init_106 : decode cX11_init 106 = .ok (.newarray .int, 2) := by decide +kernel
theorem dX11_init_108 : decode cX11_init 108 = .ok (.putfield 48, 3) := by decide +kernel
theorem dX11_init_111 : decode cX11_init 111 = .ok (.aload_n 0, 1) := by decide +kernel
theorem dX11_init_112 : decode cX11_init 112 = .ok (.bipush 80, 2) := by decide +kernel
theorem dX11_init_114 : decode cX11_init 114 = .ok (.newarray .int, 2) := by decide +kernel
theorem dX11_init_116 : decode cX11_init 116 = .ok (.putfield 51, 3) := by decide +kernel
theorem dX11_init_119 : decode cX11_init 119 = .ok (.aload_n 0, 1) := by decide +kernel
theorem dX11_init_120 : decode cX11_init 120 = .ok (.bipush 80, 2) := by decide +kernel
theorem dX11_init_122 : decode cX11_init 122 = .ok (.newarray .int, 2) := by decide +kernel
theorem dX11_init_124 : decode cX11_init 124 = .ok (.putfield 54, 3) := by decide +kernel
theorem dX11_init_127 : decode cX11_init 127 = .ok (.aload_n 0, 1) := by decide +kernel
theorem dX11_init_128 : decode cX11_init 128 = .ok (.bipush 80, 2) := by decide +kernel
theorem dX11_init_130 : decode cX11_init 130 = .ok (.newarray .int, 2) := by decide +kernel
theorem dX11_init_132 : decode cX11_init 132 = .ok (.putfield 57, 3) := by decide +kernel
theorem dX11_init_135 : decode cX11_init 135 = .ok (.aload_n 0, 1) := by decide +kernel
theorem dX11_init_136 : decode cX11_init 136 = .ok (.bipush 80, 2) := by decide +kernel
theorem dX11_init_138 : decode cX11_init 138 = .ok (.newarray .int, 2) := by decide +kernel
theorem dX11_init_140 : decode cX11_init 140 = .ok (.putfield 60, 3) := by decide +kernel
theorem dX11_init_143 : decode cX11_init 143 = .ok (.aload_n 0, 1) := by decide +kernel
theorem dX11_init_144 : decode cX11_init 144 = .ok (.sipush 320, 3) := by decide +kernel
theorem dX11_init_147 : decode cX11_init 147 = .ok (.newarray .int, 2) := by decide +kernel
theorem dX11_init_149 : decode cX11_init 149 = .ok (.putfield 63, 3) := by decide +kernel
theorem dX11_init_152 : decode cX11_init 152 = .ok (.aload_n 0, 1) := by decide +kernel
theorem dX11_init_153 : decode cX11_init 153 = .ok (.sipush 320, 3) := by decide +kernel
theorem dX11_init_156 : decode cX11_init 156 = .ok (.newarray .int, 2) := by decide +kernel
theorem dX11_init_158 : decode cX11_init 158 = .ok (.putfield 66, 3) := by decide +kernel
theorem dX11_init_161 : decode cX11_init 161 = .ok (.aload_n 0, 1) := by decide +kernel
theorem dX11_init_162 : decode cX11_init 162 = .ok (.sipush 320, 3) := by decide +kernel
theorem dX11_init_165 : decode cX11_init 165 = .ok (.newarray .int, 2) := by decide +kernel
theorem dX11_init_167 : decode cX11_init 167 = .ok (.putfield 69, 3) := by decide +kernel
theorem dX11_init_170 : decode cX11_init 170 = .ok (.aload_n 0, 1) := by decide +kernel
theorem dX11_init_171 : decode cX11_init 171 = .ok (.sipush 320, 3) := by decide +kernel
theorem dX11_init_174 : decode cX11_init 174 = .ok (.newarray .int, 2) := by decide +kernel
theorem dX11_init_176 : decode cX11_init 176 = .ok (.putfield 72, 3) := by decide +kernel
theorem dX11_init_179 : decode cX11_init 179 = .ok (.aload_n 0, 1) := by decide +kernel
theorem dX11_init_180 : decode cX11_init 180 = .ok (.sipush 320, 3) := by decide +kernel
theorem dX11_init_183 : decode cX11_init 183 = .ok (.newarray .int, 2) := by decide +kernel
theorem dX11_init_185 : decode cX11_init 185 = .ok (.putfield 75, 3) := by decide +kernel
theorem dX11_init_188 : decode cX11_init 188 = .ok (.aload_n 0, 1) := by decide +kernel
theorem dX11_init_189 : decode cX11_init 189 = .ok (.sipush 320, 3) := by decide +kernel
theorem dX11_init_192 : decode cX11_init 192 = .ok (.newarray .int, 2) := by decide +kernel
theorem dX11_init_194 : decode cX11_init 194 = .ok (.putfield 78, 3) := by decide +kernel
theorem dX11_init_197 : decode cX11_init 197 = .ok (.aload_n 0, 1) := by decide +kernel
theorem dX11_init_198 : decode cX11_init 198 = .ok (.sipush 1400, 3) := by decide +kernel
theorem dX11_init_201 : decode cX11_init 201 = .ok (.newarray .int, 2) := by decide +kernel
theorem dX11_init_203 : decode cX11_init 203 = .ok (.putfield 81, 3) := by decide +kernel
theorem dX11_init_206 : decode cX11_init 206 = .ok (.aload_n 0, 1) := by decide +kernel
theorem dX11_init_207 : decode cX11_init 207 = .ok (.sipush 1600, 3) := by decide +kernel
theorem dX11_init_210 : decode cX11_init 210 = .ok (.newarray .int, 2) := by decide +kernel
theorem dX11_init_212 : decode cX11_init 212 = .ok (.putfield 84, 3) := by decide +kernel
theorem dX11_init_215 : decode cX11_init 215 = .ok (.aload_n 0, 1) := by decide +kernel
theorem dX11_init_216 : decode cX11_init 216 = .ok (.bipush 7, 2) := by decide +kernel
theorem dX11_init_218 : decode cX11_init 218 = .ok (.newarray .int, 2) := by decide +kernel
theorem dX11_init_220 : decode cX11_init 220 = .ok (.putfield 87, 3) := by decide +kernel
theorem dX11_init_223 : decode cX11_init 223 = .ok (.aload_n 0, 1) := by decide +kernel
theorem dX11_init_224 : decode cX11_init 224 = .ok (.bipush 8, 2) := by decide +kernel
theorem dX11_init_226 : decode cX11_init 226 = .ok (.newarray .int, 2) := by decide +kernel
theorem dX11_init_228 : decode cX11_init 228 = .ok (.putfield 90, 3) := by decide +kernel
theorem dX11_init_231 : decode cX11_init 231 = .ok (.aload_n 0, 1) := by decide +kernel
theorem dX11_init_232 : decode cX11_init 232 = .ok (.iload_n 1, 1) := by decide +kernel
theorem dX11_init_233 : decode cX11_init 233 = .ok (.iconst 1, 1) := by decide +kernel
theorem dX11_init_234 : decode cX11_init 234 = .ok (.iconst 4, 1) := by decide +kernel
theorem dX11_init_235 : decode cX11_init 235 = .ok (.invokestatic 93, 3) := by decide +kernel
theorem dX11_init_238 : decode cX11_init 238 = .ok (.putfield 97, 3) := by decide +kernel
theorem dX11_init_241 : decode cX11_init 241 = .ok (.aload_n 0, 1) := by decide +kernel
theorem dX11_init_242 : decode cX11_init 242 = .ok (.iload_n 2, 1) := by decide +kernel
theorem dX11_init_243 : decode cX11_init 243 = .ok (.iconst 3, 1) := by decide +kernel
theorem dX11_init_244 : decode cX11_init 244 = .ok (.if_icmp .ge 7, 3) := by decide +kernel
theorem dX11_init_247 : decode cX11_init 247 = .ok (.iconst 1, 1) := by decide +kernel
theorem dX11_init_248 : decode cX11_init 248 = .ok (.goto 13, 3) := by decide +kernel
theorem dX11_init_251 : decode cX11_init 251 = .ok (.iload_n 2, 1) := by decide +kernel
theorem dX11_init_252 : decode cX11_init 252 = .ok (.iconst 5, 1) := by decide +kernel
theorem dX11_init_253 : decode cX11_init 253 = .ok (.if_icmp .ge 7, 3) := by decide +kernel
theorem dX11_init_256 : decode cX11_init 256 = .ok (.iconst 3, 1) := by decide +kernel
theorem dX11_init_257 : decode cX11_init 257 = .ok (.goto 4, 3) := by decide +kernel
theorem dX11_init_260 : decode cX11_init 260 = .ok (.iconst 5, 1) := by decide +kernel
theorem dX11_init_261 : decode cX11_init 261 = .ok (.putfield 101, 3) := by decide +kernel
theorem dX11_init_264 : decode cX11_init 264 = .ok (.aload_n 0, 1) := by decide +kernel
theorem dX11_init_265 : decode cX11_init 265 = .ok (.iload_n 3, 1) := by decide +kernel
theorem dX11_init_266 : decode cX11_init 266 = .ok (.iconst 1, 1) := by decide +kernel
theorem dX11_init_267 : decode cX11_init 267 = .ok (.bipush 16, 2) := by decide +kernel
theorem dX11_init_269 : decode cX11_init 269 = .ok (.invokestatic 93, 3) := by decide +kernel
theorem dX11_init_272 : decode cX11_init 272 = .ok (.putfield 104, 3) := by decide +kernel
theorem dX11_init_275 : decode cX11_init 275 = .ok (.aload_n 0, 1) := by decide +kernel
theorem dX11_init_276 : decode cX11_init 276 = .ok (.iload 4, 2) := by decide +kernel
theorem dX11_init_278 : decode cX11_init 278 = .ok (.iconst 1, 1) := by decide +kernel
theorem dX11_init_279 : decode cX11_init 279 = .ok (.bipush 32, 2) := by decide +kernel
theorem dX11_init_281 : decode cX11_init 281 = .ok (.invokestatic 93, 3) := by decide +kernel
theorem dX11_init_284 : decode cX11_init 284 = .ok (.putfield 107, 3) := by decide +kernel
theorem dX11_init_287 : decode cX11_init 287 = .ok (.aload_n 0, 1) := by decide +kernel
theorem dX11_init_288 : decode cX11_init 288 = .ok (.iload 5, 2) := by decide +kernel
theorem dX11_init_290 : decode cX11_init 290 = .ok (.iconst 1, 1) := by decide +kernel
theorem dX11_init_291 : decode cX11_init 291 = .ok (.sipush 200, 3) := by decide +kernel
theorem dX11_init_294 : decode cX11_init 294 = .ok (.invokestatic 93, 3) := by decide +kernel
theorem dX11_init_297 : decode cX11_init 297 = .ok (.putfield 110, 3) := by decide +kernel
theorem dX11_init_300 : decode cX11_init 300 = .ok (.aload_n 0, 1) := by decide +kernel
theorem dX11_init_301 : decode cX11_init 301 = .ok (.iload 6, 2) := by decide +kernel
theorem dX11_init_303 : decode cX11_init 303 = .ok (.iconst 1, 1) := by decide +kernel
theorem dX11_init_304 : decode cX11_init 304 = .ok (.sipush 200, 3) := by decide +kernel
theorem dX11_init_307 : decode cX11_init 307 = .ok (.invokestatic 93, 3) := by decide +kernel
theorem dX11_init_310 : decode cX11_init 310 = .ok (.putfield 113, 3) := by decide +kernel
theorem dX11_init_313 : decode cX11_init 313 = .ok (.iconst 0, 1) := by decide +kernel
theorem dX11_init_314 : decode cX11_init 314 = .ok (.istore 7, 2) := by decide +kernel
theorem dX11_init_316 : decode cX11_init 316 = .ok (.iload 7, 2) := by decide +kernel
theorem dX11_init_318 : decode cX11_init 318 = .ok (.bipush 9, 2) := by decide +kernel
theorem dX11_init_320 : decode cX11_init 320 = .ok (.if_icmp .ge 17, 3) := by decide +kernel
theorem dX11_init_323 : decode cX11_init 323 = .ok (.aload_n 0, 1) := by decide +kernel
theorem dX11_init_324 : decode cX11_init 324 = .ok (.getfield 7, 3) := by decide +kernel
theorem dX11_init_327 : decode cX11_init 327 = .ok (.iload 7, 2) := by decide +kernel
theorem dX11_init_329 : decode cX11_init 329 = .ok (.iconst 1, 1) := by decide +kernel
theorem dX11_init_330 : decode cX11_init 330 = .ok (.bastore, 1) := by decide +kernel
theorem dX11_init_331 : decode cX11_init 331 = .ok (.iinc 7 1, 3) := by decide +kernel
theorem dX11_init_334 : decode cX11_init 334 = .ok (.goto (-18), 3) := by decide +kernel
theorem dX11_init_337 : decode cX11_init 337 = .ok (.iconst 0, 1) := by decide +kernel
theorem dX11_init_338 : decode cX11_init 338 = .ok (.istore 7, 2) := by decide +kernel
theorem dX11_init_340 : decode cX11_init 340 = .ok (.iload 7, 2) := by decide +kernel
theorem dX11_init_342 : decode cX11_init 342 = .ok (.bipush 32, 2) := by decide +kernel
theorem dX11_init_344 : decode cX11_init 344 = .ok (.if_icmp .ge 17, 3) := by decide +kernel
theorem dX11_init_347 : decode cX11_init 347 = .ok (.aload_n 0, 1) := by decide +kernel
theorem dX11_init_348 : decode cX11_init 348 = .ok (.getfield 27, 3) := by decide +kernel
theorem dX11_init_351 : decode cX11_init 351 = .ok (.iload 7, 2) := by decide +kernel
theorem dX11_init_353 : decode cX11_init 353 = .ok (.iconst (-1), 1) := by decide +kernel
theorem dX11_init_354 : decode cX11_init 354 = .ok (.iastore, 1) := by decide +kernel
theorem dX11_init_355 : decode cX11_init 355 = .ok (.iinc 7 1, 3) := by decide +kernel
theorem dX11_init_358 : decode cX11_init 358 = .ok (.goto (-18), 3) := by decide +kernel
theorem dX11_init_361 : decode cX11_init 361 = .ok (.iconst 0, 1) := by decide +kernel
theorem dX11_init_362 : decode cX11_init 362 = .ok (.istore 7, 2) := by decide +kernel
theorem dX11_init_364 : decode cX11_init 364 = .ok (.iload 7, 2) := by decide +kernel
theorem dX11_init_366 : decode cX11_init 366 = .ok (.sipush 320, 3) := by decide +kernel
theorem dX11_init_369 : decode cX11_init 369 = .ok (.if_icmp .ge 17, 3) := by decide +kernel
theorem dX11_init_372 : decode cX11_init 372 = .ok (.aload_n 0, 1) := by decide +kernel
theorem dX11_init_373 : decode cX11_init 373 = .ok (.getfield 63, 3) := by decide +kernel
theorem dX11_init_376 : decode cX11_init 376 = .ok (.iload 7, 2) := by decide +kernel
theorem dX11_init_378 : decode cX11_init 378 = .ok (.iconst (-1), 1) := by decide +kernel
theorem dX11_init_379 : decode cX11_init 379 = .ok (.iastore, 1) := by decide +kernel
theorem dX11_init_380 : decode cX11_init 380 = .ok (.iinc 7 1, 3) := by decide +kernel
theorem dX11_init_383 : decode cX11_init 383 = .ok (.goto (-19), 3) := by decide +kernel
theorem dX11_init_386 : decode cX11_init 386 = .ok (.iconst 0, 1) := by decide +kernel
theorem dX11_init_387 : decode cX11_init 387 = .ok (.istore 7, 2) := by decide +kernel
theorem dX11_init_389 : decode cX11_init 389 = .ok (.iload 7, 2) := by decide +kernel
theorem dX11_init_391 : decode cX11_init 391 = .ok (.iconst 5, 1) := by decide +kernel
theorem dX11_init_392 : decode cX11_init 392 = .ok (.if_icmp .ge 15, 3) := by decide +kernel
theorem dX11_init_395 : decode cX11_init 395 = .ok (.aload_n 0, 1) := by decide +kernel
theorem dX11_init_396 : decode cX11_init 396 = .ok (.iload 7, 2) := by decide +kernel
theorem dX11_init_398 : decode cX11_init 398 = .ok (.invokevirtual 116, 3) := by decide +kernel
theorem dX11_init_401 : decode cX11_init 401 = .ok (.iinc 7 1, 3) := by decide +kernel
theorem dX11_init_404 : decode cX11_init 404 = .ok (.goto (-15), 3) := by decide +kernel
theorem dX11_init_407 : decode cX11_init 407 = .ok (.return_, 1) := by decide +kernel
theorem dX11_near_0 : decode cX11_near 0 = .ok (.iload_n 0, 1) := by decide +kernel
theorem dX11_near_1 : decode cX11_near 1 = .ok (.iload_n 1, 1) := by decide +kernel
theorem dX11_near_2 : decode cX11_near 2 = .ok (.if_icmp .ge 7, 3) := by decide +kernel
theorem dX11_near_5 : decode cX11_near 5 = .ok (.iload_n 1, 1) := by decide +kernel
theorem dX11_near_6 : decode cX11_near 6 = .ok (.goto 13, 3) := by decide +kernel
theorem dX11_near_9 : decode cX11_near 9 = .ok (.iload_n 0, 1) := by decide +kernel
theorem dX11_near_10 : decode cX11_near 10 = .ok (.iload_n 2, 1) := by decide +kernel
theorem dX11_near_11 : decode cX11_near 11 = .ok (.if_icmp .le 7, 3) := by decide +kernel
theorem dX11_near_14 : decode cX11_near 14 = .ok (.iload_n 2, 1) := by decide +kernel
theorem dX11_near_15 : decode cX11_near 15 = .ok (.goto 4, 3) := by decide +kernel
theorem dX11_near_18 : decode cX11_near 18 = .ok (.iload_n 0, 1) := by decide +kernel
theorem dX11_near_19 : decode cX11_near 19 = .ok (.ireturn, 1) := by decide +kernel
theorem dX11_in_0 : decode cX11_in 0 = .ok (.iload_n 0, 1) := by decide +kernel
theorem dX11_in_1 : decode cX11_in 1 = .ok (.iload_n 1, 1) := by decide +kernel
theorem dX11_in_2 : decode cX11_in 2 = .ok (.if_icmp .lt 12, 3) := by decide +kernel
theorem dX11_in_5 : decode cX11_in 5 = .ok (.iload_n 0, 1) := by decide +kernel
theorem dX11_in_6 : decode cX11_in 6 = .ok (.iload_n 2, 1) := by decide +kernel
theorem dX11_in_7 : decode cX11_in 7 = .ok (.if_icmp .gt 7, 3) := by decide +kernel
theorem dX11_in_10 : decode cX11_in 10 = .ok (.iconst 1, 1) := by decide +kernel
theorem dX11_in_11 : decode cX11_in 11 = .ok (.goto 4, 3) := by decide +kernel
theorem dX11_in_14 : decode cX11_in 14 = .ok (.iconst 0, 1) := by decide +kernel
theorem dX11_in_15 : decode cX11_in 15 = .ok (.ireturn, 1) := by decide +kernel
theorem dX11_isTxn_0 : decode cX11_isTxn 0 = .ok (.iload_n 1, 1) := by decide +kernel
theorem dX11_isTxn_1 : decode cX11_isTxn 1 = .ok (.iconst 0, 1) := by decide +kernel
theorem dX11_isTxn_2 : decode cX11_isTxn 2 = .ok (.aload_n 0, 1) := by decide +kernel
theorem dX11_isTxn_3 : decode cX11_isTxn 3 = .ok (.getfield 104, 3) := by decide +kernel
theorem dX11_isTxn_6 : decode cX11_isTxn 6 = .ok (.iconst 1, 1) := by decide +kernel
theorem dX11_isTxn_7 : decode cX11_isTxn 7 = .ok (.isub, 1) := by decide +kernel
theorem dX11_isTxn_8 : decode cX11_isTxn 8 = .ok (.invokestatic 120, 3) := by decide +kernel
theorem dX11_isTxn_11 : decode cX11_isTxn 11 = .ok (.ireturn, 1) := by decide +kernel
theorem dX11_isKey_0 : decode cX11_isKey 0 = .ok (.iload_n 1, 1) := by decide +kernel
theorem dX11_isKey_1 : decode cX11_isKey 1 = .ok (.iconst 0, 1) := by decide +kernel
theorem dX11_isKey_2 : decode cX11_isKey 2 = .ok (.aload_n 0, 1) := by decide +kernel
theorem dX11_isKey_3 : decode cX11_isKey 3 = .ok (.getfield 107, 3) := by decide +kernel
theorem dX11_isKey_6 : decode cX11_isKey 6 = .ok (.iconst 1, 1) := by decide +kernel
theorem dX11_isKey_7 : decode cX11_isKey 7 = .ok (.isub, 1) := by decide +kernel
theorem dX11_isKey_8 : decode cX11_isKey 8 = .ok (.invokestatic 120, 3) := by decide +kernel
theorem dX11_isKey_11 : decode cX11_isKey 11 = .ok (.ireturn, 1) := by decide +kernel
theorem dX11_isNode_0 : decode cX11_isNode 0 = .ok (.iload_n 1, 1) := by decide +kernel
theorem dX11_isNode_1 : decode cX11_isNode 1 = .ok (.iconst 0, 1) := by decide +kernel
theorem dX11_isNode_2 : decode cX11_isNode 2 = .ok (.aload_n 0, 1) := by decide +kernel
theorem dX11_isNode_3 : decode cX11_isNode 3 = .ok (.getfield 97, 3) := by decide +kernel
theorem dX11_isNode_6 : decode cX11_isNode 6 = .ok (.aload_n 0, 1) := by decide +kernel
theorem dX11_isNode_7 : decode cX11_isNode 7 = .ok (.getfield 101, 3) := by decide +kernel
theorem dX11_isNode_10 : decode cX11_isNode 10 = .ok (.iadd, 1) := by decide +kernel
theorem dX11_isNode_11 : decode cX11_isNode 11 = .ok (.iconst 1, 1) := by decide +kernel
theorem dX11_isNode_12 : decode cX11_isNode 12 = .ok (.isub, 1) := by decide +kernel
theorem dX11_isNode_13 : decode cX11_isNode 13 = .ok (.invokestatic 120, 3) := by decide +kernel
theorem dX11_isNode_16 : decode cX11_isNode 16 = .ok (.ireturn, 1) := by decide +kernel
theorem dX11_isAcceptor_0 : decode cX11_isAcceptor 0 = .ok (.iload_n 1, 1) := by decide +kernel
theorem dX11_isAcceptor_1 : decode cX11_isAcceptor 1 = .ok (.aload_n 0, 1) := by decide +kernel
theorem dX11_isAcceptor_2 : decode cX11_isAcceptor 2 = .ok (.getfield 97, 3) := by decide +kernel
theorem dX11_isAcceptor_5 : decode cX11_isAcceptor 5 = .ok (.aload_n 0, 1) := by decide +kernel
theorem dX11_isAcceptor_6 : decode cX11_isAcceptor 6 = .ok (.getfield 97, 3) := by decide +kernel
theorem dX11_isAcceptor_9 : decode cX11_isAcceptor 9 = .ok (.aload_n 0, 1) := by decide +kernel
theorem dX11_isAcceptor_10 : decode cX11_isAcceptor 10 = .ok (.getfield 101, 3) := by decide +kernel
theorem dX11_isAcceptor_13 : decode cX11_isAcceptor 13 = .ok (.iadd, 1) := by decide +kernel
theorem dX11_isAcceptor_14 : decode cX11_isAcceptor 14 = .ok (.iconst 1, 1) := by decide +kernel
theorem dX11_isAcceptor_15 : decode cX11_isAcceptor 15 = .ok (.isub, 1) := by decide +kernel
theorem dX11_isAcceptor_16 : decode cX11_isAcceptor 16 = .ok (.invokestatic 120, 3) := by decide +kernel
theorem dX11_isAcceptor_19 : decode cX11_isAcceptor 19 = .ok (.ireturn, 1) := by decide +kernel
theorem dX11_touches_0 : decode cX11_touches 0 = .ok (.aload_n 0, 1) := by decide +kernel
theorem dX11_touches_1 : decode cX11_touches 1 = .ok (.getfield 33, 3) := by decide +kernel
theorem dX11_touches_4 : decode cX11_touches 4 = .ok (.iload_n 1, 1) := by decide +kernel
theorem dX11_touches_5 : decode cX11_touches 5 = .ok (.iaload, 1) := by decide +kernel
theorem dX11_touches_6 : decode cX11_touches 6 = .ok (.iload_n 2, 1) := by decide +kernel
theorem dX11_touches_7 : decode cX11_touches 7 = .ok (.ishr, 1) := by decide +kernel
theorem dX11_touches_8 : decode cX11_touches 8 = .ok (.iconst 1, 1) := by decide +kernel
theorem dX11_touches_9 : decode cX11_touches 9 = .ok (.iand, 1) := by decide +kernel
theorem dX11_touches_10 : decode cX11_touches 10 = .ok (.iconst 1, 1) := by decide +kernel
theorem dX11_touches_11 : decode cX11_touches 11 = .ok (.if_icmp .ne 7, 3) := by decide +kernel
theorem dX11_touches_14 : decode cX11_touches 14 = .ok (.iconst 1, 1) := by decide +kernel
theorem dX11_touches_15 : decode cX11_touches 15 = .ok (.goto 4, 3) := by decide +kernel
theorem dX11_touches_18 : decode cX11_touches 18 = .ok (.iconst 0, 1) := by decide +kernel
theorem dX11_touches_19 : decode cX11_touches 19 = .ok (.ireturn, 1) := by decide +kernel
theorem dX11_bits_0 : decode cX11_bits 0 = .ok (.iconst 0, 1) := by decide +kernel
theorem dX11_bits_1 : decode cX11_bits 1 = .ok (.istore_n 1, 1) := by decide +kernel
theorem dX11_bits_2 : decode cX11_bits 2 = .ok (.iconst 0, 1) := by decide +kernel
theorem dX11_bits_3 : decode cX11_bits 3 = .ok (.istore_n 2, 1) := by decide +kernel
theorem dX11_bits_4 : decode cX11_bits 4 = .ok (.iload_n 2, 1) := by decide +kernel
theorem dX11_bits_5 : decode cX11_bits 5 = .ok (.bipush 16, 2) := by decide +kernel
theorem dX11_bits_7 : decode cX11_bits 7 = .ok (.if_icmp .ge 17, 3) := by decide +kernel
theorem dX11_bits_10 : decode cX11_bits 10 = .ok (.iload_n 1, 1) := by decide +kernel
theorem dX11_bits_11 : decode cX11_bits 11 = .ok (.iload_n 0, 1) := by decide +kernel
theorem dX11_bits_12 : decode cX11_bits 12 = .ok (.iload_n 2, 1) := by decide +kernel
theorem dX11_bits_13 : decode cX11_bits 13 = .ok (.ishr, 1) := by decide +kernel
theorem dX11_bits_14 : decode cX11_bits 14 = .ok (.iconst 1, 1) := by decide +kernel
theorem dX11_bits_15 : decode cX11_bits 15 = .ok (.iand, 1) := by decide +kernel
theorem dX11_bits_16 : decode cX11_bits 16 = .ok (.iadd, 1) := by decide +kernel
theorem dX11_bits_17 : decode cX11_bits 17 = .ok (.istore_n 1, 1) := by decide +kernel
theorem dX11_bits_18 : decode cX11_bits 18 = .ok (.iinc 2 1, 3) := by decide +kernel
theorem dX11_bits_21 : decode cX11_bits 21 = .ok (.goto (-17), 3) := by decide +kernel
theorem dX11_bits_24 : decode cX11_bits 24 = .ok (.iload_n 1, 1) := by decide +kernel
theorem dX11_bits_25 : decode cX11_bits 25 = .ok (.ireturn, 1) := by decide +kernel
theorem dX11_isMajority_0 : decode cX11_isMajority 0 = .ok (.iconst 2, 1) := by decide +kernel
theorem dX11_isMajority_1 : decode cX11_isMajority 1 = .ok (.iload_n 1, 1) := by decide +kernel
theorem dX11_isMajority_2 : decode cX11_isMajority 2 = .ok (.invokestatic 124, 3) := by decide +kernel
theorem dX11_isMajority_5 : decode cX11_isMajority 5 = .ok (.imul, 1) := by decide +kernel
theorem dX11_isMajority_6 : decode cX11_isMajority 6 = .ok (.aload_n 0, 1) := by decide +kernel
theorem dX11_isMajority_7 : decode cX11_isMajority 7 = .ok (.getfield 101, 3) := by decide +kernel
theorem dX11_isMajority_10 : decode cX11_isMajority 10 = .ok (.if_icmp .le 7, 3) := by decide +kernel
theorem dX11_isMajority_13 : decode cX11_isMajority 13 = .ok (.iconst 1, 1) := by decide +kernel
theorem dX11_isMajority_14 : decode cX11_isMajority 14 = .ok (.goto 4, 3) := by decide +kernel
theorem dX11_isMajority_17 : decode cX11_isMajority 17 = .ok (.iconst 0, 1) := by decide +kernel
theorem dX11_isMajority_18 : decode cX11_isMajority 18 = .ok (.ireturn, 1) := by decide +kernel
theorem dX11_endSession_0 : decode cX11_endSession 0 = .ok (.aload_n 0, 1) := by decide +kernel
theorem dX11_endSession_1 : decode cX11_endSession 1 = .ok (.getfield 42, 3) := by decide +kernel
theorem dX11_endSession_4 : decode cX11_endSession 4 = .ok (.bipush 16, 2) := by decide +kernel
theorem dX11_endSession_6 : decode cX11_endSession 6 = .ok (.iload_n 1, 1) := by decide +kernel
theorem dX11_endSession_7 : decode cX11_endSession 7 = .ok (.imul, 1) := by decide +kernel
theorem dX11_endSession_8 : decode cX11_endSession 8 = .ok (.iload_n 2, 1) := by decide +kernel
theorem dX11_endSession_9 : decode cX11_endSession 9 = .ok (.iadd, 1) := by decide +kernel
theorem dX11_endSession_10 : decode cX11_endSession 10 = .ok (.iconst 0, 1) := by decide +kernel
theorem dX11_endSession_11 : decode cX11_endSession 11 = .ok (.bastore, 1) := by decide +kernel
theorem dX11_endSession_12 : decode cX11_endSession 12 = .ok (.iload_n 1, 1) := by decide +kernel
theorem dX11_endSession_13 : decode cX11_endSession 13 = .ok (.istore_n 3, 1) := by decide +kernel
theorem dX11_endSession_14 : decode cX11_endSession 14 = .ok (.iload_n 3, 1) := by decide +kernel
theorem dX11_endSession_15 : decode cX11_endSession 15 = .ok (.aload_n 0, 1) := by decide +kernel
theorem dX11_endSession_16 : decode cX11_endSession 16 = .ok (.getfield 107, 3) := by decide +kernel
theorem dX11_endSession_19 : decode cX11_endSession 19 = .ok (.if_icmp .ge 65, 3) := by decide +kernel
theorem dX11_endSession_22 : decode cX11_endSession 22 = .ok (.aload_n 0, 1) := by decide +kernel
theorem dX11_endSession_23 : decode cX11_endSession 23 = .ok (.getfield 24, 3) := by decide +kernel
theorem dX11_endSession_26 : decode cX11_endSession 26 = .ok (.iload_n 3, 1) := by decide +kernel
theorem dX11_endSession_27 : decode cX11_endSession 27 = .ok (.dup2, 1) := by decide +kernel
theorem dX11_endSession_28 : decode cX11_endSession 28 = .ok (.iaload, 1) := by decide +kernel
theorem dX11_endSession_29 : decode cX11_endSession 29 = .ok (.iconst 1, 1) := by decide +kernel
theorem dX11_endSession_30 : decode cX11_endSession 30 = .ok (.iload_n 2, 1) := by decide +kernel
theorem dX11_endSession_31 : decode cX11_endSession 31 = .ok (.ishl, 1) := by decide +kernel
theorem dX11_endSession_32 : decode cX11_endSession 32 = .ok (.iconst (-1), 1) := by decide +kernel
theorem dX11_endSession_33 : decode cX11_endSession 33 = .ok (.ixor, 1) := by decide +kernel
theorem dX11_endSession_34 : decode cX11_endSession 34 = .ok (.iand, 1) := by decide +kernel
theorem dX11_endSession_35 : decode cX11_endSession 35 = .ok (.iastore, 1) := by decide +kernel
theorem dX11_endSession_36 : decode cX11_endSession 36 = .ok (.aload_n 0, 1) := by decide +kernel
theorem dX11_endSession_37 : decode cX11_endSession 37 = .ok (.getfield 27, 3) := by decide +kernel
theorem dX11_endSession_40 : decode cX11_endSession 40 = .ok (.iload_n 3, 1) := by decide +kernel
theorem dX11_endSession_41 : decode cX11_endSession 41 = .ok (.aload_n 0, 1) := by decide +kernel
theorem dX11_endSession_42 : decode cX11_endSession 42 = .ok (.getfield 27, 3) := by decide +kernel
theorem dX11_endSession_45 : decode cX11_endSession 45 = .ok (.iload_n 3, 1) := by decide +kernel
theorem dX11_endSession_46 : decode cX11_endSession 46 = .ok (.iaload, 1) := by decide +kernel
theorem dX11_endSession_47 : decode cX11_endSession 47 = .ok (.iload_n 2, 1) := by decide +kernel
theorem dX11_endSession_48 : decode cX11_endSession 48 = .ok (.if_icmp .ne 7, 3) := by decide +kernel
theorem dX11_endSession_51 : decode cX11_endSession 51 = .ok (.iconst (-1), 1) := by decide +kernel
theorem dX11_endSession_52 : decode cX11_endSession 52 = .ok (.goto 9, 3) := by decide +kernel
theorem dX11_endSession_55 : decode cX11_endSession 55 = .ok (.aload_n 0, 1) := by decide +kernel
theorem dX11_endSession_56 : decode cX11_endSession 56 = .ok (.getfield 27, 3) := by decide +kernel
theorem dX11_endSession_59 : decode cX11_endSession 59 = .ok (.iload_n 3, 1) := by decide +kernel
theorem dX11_endSession_60 : decode cX11_endSession 60 = .ok (.iaload, 1) := by decide +kernel
theorem dX11_endSession_61 : decode cX11_endSession 61 = .ok (.iastore, 1) := by decide +kernel
theorem dX11_endSession_62 : decode cX11_endSession 62 = .ok (.aload_n 0, 1) := by decide +kernel
theorem dX11_endSession_63 : decode cX11_endSession 63 = .ok (.getfield 36, 3) := by decide +kernel
theorem dX11_endSession_66 : decode cX11_endSession 66 = .ok (.bipush 32, 2) := by decide +kernel
theorem dX11_endSession_68 : decode cX11_endSession 68 = .ok (.iload_n 2, 1) := by decide +kernel
theorem dX11_endSession_69 : decode cX11_endSession 69 = .ok (.imul, 1) := by decide +kernel
theorem dX11_endSession_70 : decode cX11_endSession 70 = .ok (.iload_n 3, 1) := by decide +kernel
theorem dX11_endSession_71 : decode cX11_endSession 71 = .ok (.iadd, 1) := by decide +kernel
theorem dX11_endSession_72 : decode cX11_endSession 72 = .ok (.iconst 0, 1) := by decide +kernel
theorem dX11_endSession_73 : decode cX11_endSession 73 = .ok (.bastore, 1) := by decide +kernel
theorem dX11_endSession_74 : decode cX11_endSession 74 = .ok (.iload_n 3, 1) := by decide +kernel
theorem dX11_endSession_75 : decode cX11_endSession 75 = .ok (.aload_n 0, 1) := by decide +kernel
theorem dX11_endSession_76 : decode cX11_endSession 76 = .ok (.getfield 97, 3) := by decide +kernel
theorem dX11_endSession_79 : decode cX11_endSession 79 = .ok (.iadd, 1) := by decide +kernel
theorem dX11_endSession_80 : decode cX11_endSession 80 = .ok (.istore_n 3, 1) := by decide +kernel
theorem dX11_endSession_81 : decode cX11_endSession 81 = .ok (.goto (-67), 3) := by decide +kernel
theorem dX11_endSession_84 : decode cX11_endSession 84 = .ok (.return_, 1) := by decide +kernel
theorem dX11_locks_0 : decode cX11_locks 0 = .ok (.iload_n 2, 1) := by decide +kernel
theorem dX11_locks_1 : decode cX11_locks 1 = .ok (.aload_n 0, 1) := by decide +kernel
theorem dX11_locks_2 : decode cX11_locks 2 = .ok (.getfield 97, 3) := by decide +kernel
theorem dX11_locks_5 : decode cX11_locks 5 = .ok (.irem, 1) := by decide +kernel
theorem dX11_locks_6 : decode cX11_locks 6 = .ok (.istore 4, 2) := by decide +kernel
theorem dX11_locks_8 : decode cX11_locks 8 = .ok (.aload_n 0, 1) := by decide +kernel
theorem dX11_locks_9 : decode cX11_locks 9 = .ok (.getfield 30, 3) := by decide +kernel
theorem dX11_locks_12 : decode cX11_locks 12 = .ok (.iload_n 1, 1) := by decide +kernel
theorem dX11_locks_13 : decode cX11_locks 13 = .ok (.iaload, 1) := by decide +kernel
theorem dX11_locks_14 : decode cX11_locks 14 = .ok (.iconst 1, 1) := by decide +kernel
theorem dX11_locks_15 : decode cX11_locks 15 = .ok (.if_icmp .eq 5, 3) := by decide +kernel
theorem dX11_locks_18 : decode cX11_locks 18 = .ok (.iconst 0, 1) := by decide +kernel
theorem dX11_locks_19 : decode cX11_locks 19 = .ok (.ireturn, 1) := by decide +kernel
theorem dX11_locks_20 : decode cX11_locks 20 = .ok (.aload_n 0, 1) := by decide +kernel
theorem dX11_locks_21 : decode cX11_locks 21 = .ok (.getfield 7, 3) := by decide +kernel
theorem dX11_locks_24 : decode cX11_locks 24 = .ok (.iload 4, 2) := by decide +kernel
theorem dX11_locks_26 : decode cX11_locks 26 = .ok (.baload, 1) := by decide +kernel
theorem dX11_locks_27 : decode cX11_locks 27 = .ok (.ifCond .ne 5, 3) := by decide +kernel
theorem dX11_locks_30 : decode cX11_locks 30 = .ok (.iconst 3, 1) := by decide +kernel
theorem dX11_locks_31 : decode cX11_locks 31 = .ok (.ireturn, 1) := by decide +kernel
theorem dX11_locks_32 : decode cX11_locks 32 = .ok (.aload_n 0, 1) := by decide +kernel
theorem dX11_locks_33 : decode cX11_locks 33 = .ok (.iload_n 1, 1) := by decide +kernel
theorem dX11_locks_34 : decode cX11_locks 34 = .ok (.iload 4, 2) := by decide +kernel
theorem dX11_locks_36 : decode cX11_locks 36 = .ok (.invokevirtual 128, 3) := by decide +kernel
theorem dX11_locks_39 : decode cX11_locks 39 = .ok (.ifCond .eq 20, 3) := by decide +kernel
theorem dX11_locks_42 : decode cX11_locks 42 = .ok (.aload_n 0, 1) := by decide +kernel
theorem dX11_locks_43 : decode cX11_locks 43 = .ok (.getfield 42, 3) := by decide +kernel
theorem dX11_locks_46 : decode cX11_locks 46 = .ok (.bipush 16, 2) := by decide +kernel
theorem dX11_locks_48 : decode cX11_locks 48 = .ok (.iload 4, 2) := by decide +kernel
theorem dX11_locks_50 : decode cX11_locks 50 = .ok (.imul, 1) := by decide +kernel
theorem dX11_locks_51 : decode cX11_locks 51 = .ok (.iload_n 1, 1) := by decide +kernel
theorem dX11_locks_52 : decode cX11_locks 52 = .ok (.iadd, 1) := by decide +kernel
theorem dX11_locks_53 : decode cX11_locks 53 = .ok (.baload, 1) := by decide +kernel
theorem dX11_locks_54 : decode cX11_locks 54 = .ok (.ifCond .ne 5, 3) := by decide +kernel
theorem dX11_locks_57 : decode cX11_locks 57 = .ok (.iconst 4, 1) := by decide +kernel
theorem dX11_locks_58 : decode cX11_locks 58 = .ok (.ireturn, 1) := by decide +kernel
theorem dX11_locks_59 : decode cX11_locks 59 = .ok (.iload_n 3, 1) := by decide +kernel
theorem dX11_locks_60 : decode cX11_locks 60 = .ok (.ifCond .eq 26, 3) := by decide +kernel
theorem dX11_locks_63 : decode cX11_locks 63 = .ok (.aload_n 0, 1) := by decide +kernel
theorem dX11_locks_64 : decode cX11_locks 64 = .ok (.getfield 24, 3) := by decide +kernel
theorem dX11_locks_67 : decode cX11_locks 67 = .ok (.iload_n 2, 1) := by decide +kernel
theorem dX11_locks_68 : decode cX11_locks 68 = .ok (.iaload, 1) := by decide +kernel
theorem dX11_locks_69 : decode cX11_locks 69 = .ok (.iconst 1, 1) := by decide +kernel
theorem dX11_locks_70 : decode cX11_locks 70 = .ok (.iload_n 1, 1) := by decide +kernel
theorem dX11_locks_71 : decode cX11_locks 71 = .ok (.ishl, 1) := by decide +kernel
theorem dX11_locks_72 : decode cX11_locks 72 = .ok (.iconst (-1), 1) := by decide +kernel
theorem dX11_locks_73 : decode cX11_locks 73 = .ok (.ixor, 1) := by decide +kernel
theorem dX11_locks_74 : decode cX11_locks 74 = .ok (.iand, 1) := by decide +kernel
theorem dX11_locks_75 : decode cX11_locks 75 = .ok (.ifCond .eq 7, 3) := by decide +kernel
theorem dX11_locks_78 : decode cX11_locks 78 = .ok (.iconst 1, 1) := by decide +kernel
theorem dX11_locks_79 : decode cX11_locks 79 = .ok (.goto 31, 3) := by decide +kernel
theorem dX11_locks_82 : decode cX11_locks 82 = .ok (.iconst 0, 1) := by decide +kernel
theorem dX11_locks_83 : decode cX11_locks 83 = .ok (.goto 27, 3) := by decide +kernel
theorem dX11_locks_86 : decode cX11_locks 86 = .ok (.aload_n 0, 1) := by decide +kernel
theorem dX11_locks_87 : decode cX11_locks 87 = .ok (.getfield 27, 3) := by decide +kernel
theorem dX11_locks_90 : decode cX11_locks 90 = .ok (.iload_n 2, 1) := by decide +kernel
theorem dX11_locks_91 : decode cX11_locks 91 = .ok (.iaload, 1) := by decide +kernel
theorem dX11_locks_92 : decode cX11_locks 92 = .ok (.ifCond .lt 17, 3) := by decide +kernel
theorem dX11_locks_95 : decode cX11_locks 95 = .ok (.aload_n 0, 1) := by decide +kernel
theorem dX11_locks_96 : decode cX11_locks 96 = .ok (.getfield 27, 3) := by decide +kernel
theorem dX11_locks_99 : decode cX11_locks 99 = .ok (.iload_n 2, 1) := by decide +kernel
theorem dX11_locks_100 : decode cX11_locks 100 = .ok (.iaload, 1) := by decide +kernel
theorem dX11_locks_101 : decode cX11_locks 101 = .ok (.iload_n 1, 1) := by decide +kernel
theorem dX11_locks_102 : decode cX11_locks 102 = .ok (.if_icmp .eq 7, 3) := by decide +kernel
theorem dX11_locks_105 : decode cX11_locks 105 = .ok (.iconst 1, 1) := by decide +kernel
theorem dX11_locks_106 : decode cX11_locks 106 = .ok (.goto 4, 3) := by decide +kernel
theorem dX11_locks_109 : decode cX11_locks 109 = .ok (.iconst 0, 1) := by decide +kernel
theorem dX11_locks_110 : decode cX11_locks 110 = .ok (.istore 5, 2) := by decide +kernel
theorem dX11_locks_112 : decode cX11_locks 112 = .ok (.iload 5, 2) := by decide +kernel
theorem dX11_locks_114 : decode cX11_locks 114 = .ok (.ifCond .eq 5, 3) := by decide +kernel
theorem dX11_locks_117 : decode cX11_locks 117 = .ok (.iconst 2, 1) := by decide +kernel
theorem dX11_locks_118 : decode cX11_locks 118 = .ok (.ireturn, 1) := by decide +kernel
theorem dX11_locks_119 : decode cX11_locks 119 = .ok (.aload_n 0, 1) := by decide +kernel
theorem dX11_locks_120 : decode cX11_locks 120 = .ok (.getfield 42, 3) := by decide +kernel
theorem dX11_locks_123 : decode cX11_locks 123 = .ok (.bipush 16, 2) := by decide +kernel
theorem dX11_locks_125 : decode cX11_locks 125 = .ok (.iload 4, 2) := by decide +kernel
theorem dX11_locks_127 : decode cX11_locks 127 = .ok (.imul, 1) := by decide +kernel
theorem dX11_locks_128 : decode cX11_locks 128 = .ok (.iload_n 1, 1) := by decide +kernel
theorem dX11_locks_129 : decode cX11_locks 129 = .ok (.iadd, 1) := by decide +kernel
theorem dX11_locks_130 : decode cX11_locks 130 = .ok (.iconst 1, 1) := by decide +kernel
theorem dX11_locks_131 : decode cX11_locks 131 = .ok (.bastore, 1) := by decide +kernel
theorem dX11_locks_132 : decode cX11_locks 132 = .ok (.aload_n 0, 1) := by decide +kernel
theorem dX11_locks_133 : decode cX11_locks 133 = .ok (.getfield 33, 3) := by decide +kernel
theorem dX11_locks_136 : decode cX11_locks 136 = .ok (.iload_n 1, 1) := by decide +kernel
theorem dX11_locks_137 : decode cX11_locks 137 = .ok (.dup2, 1) := by decide +kernel
theorem dX11_locks_138 : decode cX11_locks 138 = .ok (.iaload, 1) := by decide +kernel
theorem dX11_locks_139 : decode cX11_locks 139 = .ok (.iconst 1, 1) := by decide +kernel
theorem dX11_locks_140 : decode cX11_locks 140 = .ok (.iload 4, 2) := by decide +kernel
theorem dX11_locks_142 : decode cX11_locks 142 = .ok (.ishl, 1) := by decide +kernel
theorem dX11_locks_143 : decode cX11_locks 143 = .ok (.ior, 1) := by decide +kernel
theorem dX11_locks_144 : decode cX11_locks 144 = .ok (.iastore, 1) := by decide +kernel
theorem dX11_locks_145 : decode cX11_locks 145 = .ok (.aload_n 0, 1) := by decide +kernel
theorem dX11_locks_146 : decode cX11_locks 146 = .ok (.getfield 24, 3) := by decide +kernel
theorem dX11_locks_149 : decode cX11_locks 149 = .ok (.iload_n 2, 1) := by decide +kernel
theorem dX11_locks_150 : decode cX11_locks 150 = .ok (.dup2, 1) := by decide +kernel
theorem dX11_locks_151 : decode cX11_locks 151 = .ok (.iaload, 1) := by decide +kernel
theorem dX11_locks_152 : decode cX11_locks 152 = .ok (.iconst 1, 1) := by decide +kernel
theorem dX11_locks_153 : decode cX11_locks 153 = .ok (.iload_n 1, 1) := by decide +kernel
theorem dX11_locks_154 : decode cX11_locks 154 = .ok (.ishl, 1) := by decide +kernel
theorem dX11_locks_155 : decode cX11_locks 155 = .ok (.ior, 1) := by decide +kernel
theorem dX11_locks_156 : decode cX11_locks 156 = .ok (.iastore, 1) := by decide +kernel
theorem dX11_locks_157 : decode cX11_locks 157 = .ok (.aload_n 0, 1) := by decide +kernel
theorem dX11_locks_158 : decode cX11_locks 158 = .ok (.getfield 27, 3) := by decide +kernel
theorem dX11_locks_161 : decode cX11_locks 161 = .ok (.iload_n 2, 1) := by decide +kernel
theorem dX11_locks_162 : decode cX11_locks 162 = .ok (.iload_n 3, 1) := by decide +kernel
theorem dX11_locks_163 : decode cX11_locks 163 = .ok (.ifCond .eq 7, 3) := by decide +kernel
theorem dX11_locks_166 : decode cX11_locks 166 = .ok (.iload_n 1, 1) := by decide +kernel
theorem dX11_locks_167 : decode cX11_locks 167 = .ok (.goto 9, 3) := by decide +kernel
theorem dX11_locks_170 : decode cX11_locks 170 = .ok (.aload_n 0, 1) := by decide +kernel
theorem dX11_locks_171 : decode cX11_locks 171 = .ok (.getfield 27, 3) := by decide +kernel
theorem dX11_locks_174 : decode cX11_locks 174 = .ok (.iload_n 2, 1) := by decide +kernel
theorem dX11_locks_175 : decode cX11_locks 175 = .ok (.iaload, 1) := by decide +kernel
theorem dX11_locks_176 : decode cX11_locks 176 = .ok (.iastore, 1) := by decide +kernel
theorem dX11_locks_177 : decode cX11_locks 177 = .ok (.iconst 1, 1) := by decide +kernel
theorem dX11_locks_178 : decode cX11_locks 178 = .ok (.ireturn, 1) := by decide +kernel
theorem dX11_begin_0 : decode cX11_begin 0 = .ok (.aload_n 0, 1) := by decide +kernel
theorem dX11_begin_1 : decode cX11_begin 1 = .ok (.iload_n 1, 1) := by decide +kernel
theorem dX11_begin_2 : decode cX11_begin 2 = .ok (.invokevirtual 132, 3) := by decide +kernel
theorem dX11_begin_5 : decode cX11_begin 5 = .ok (.ifCond .ne 5, 3) := by decide +kernel
theorem dX11_begin_8 : decode cX11_begin 8 = .ok (.iconst (-1), 1) := by decide +kernel
theorem dX11_begin_9 : decode cX11_begin 9 = .ok (.ireturn, 1) := by decide +kernel
theorem dX11_begin_10 : decode cX11_begin 10 = .ok (.aload_n 0, 1) := by decide +kernel
theorem dX11_begin_11 : decode cX11_begin 11 = .ok (.getfield 30, 3) := by decide +kernel
theorem dX11_begin_14 : decode cX11_begin 14 = .ok (.iload_n 1, 1) := by decide +kernel
theorem dX11_begin_15 : decode cX11_begin 15 = .ok (.iaload, 1) := by decide +kernel
theorem dX11_begin_16 : decode cX11_begin 16 = .ok (.ifCond .eq 5, 3) := by decide +kernel
theorem dX11_begin_19 : decode cX11_begin 19 = .ok (.iconst 0, 1) := by decide +kernel
theorem dX11_begin_20 : decode cX11_begin 20 = .ok (.ireturn, 1) := by decide +kernel
theorem dX11_begin_21 : decode cX11_begin 21 = .ok (.aload_n 0, 1) := by decide +kernel
theorem dX11_begin_22 : decode cX11_begin 22 = .ok (.getfield 30, 3) := by decide +kernel
theorem dX11_begin_25 : decode cX11_begin 25 = .ok (.iload_n 1, 1) := by decide +kernel
theorem dX11_begin_26 : decode cX11_begin 26 = .ok (.iconst 1, 1) := by decide +kernel
theorem dX11_begin_27 : decode cX11_begin 27 = .ok (.iastore, 1) := by decide +kernel
theorem dX11_begin_28 : decode cX11_begin 28 = .ok (.iconst 1, 1) := by decide +kernel
theorem dX11_begin_29 : decode cX11_begin 29 = .ok (.ireturn, 1) := by decide +kernel
theorem dX11_read_0 : decode cX11_read 0 = .ok (.aload_n 0, 1) := by decide +kernel
theorem dX11_read_1 : decode cX11_read 1 = .ok (.iload_n 1, 1) := by decide +kernel
theorem dX11_read_2 : decode cX11_read 2 = .ok (.invokevirtual 132, 3) := by decide +kernel
theorem dX11_read_5 : decode cX11_read 5 = .ok (.ifCond .eq 11, 3) := by decide +kernel
theorem dX11_read_8 : decode cX11_read 8 = .ok (.aload_n 0, 1) := by decide +kernel
theorem dX11_read_9 : decode cX11_read 9 = .ok (.iload_n 2, 1) := by decide +kernel
theorem dX11_read_10 : decode cX11_read 10 = .ok (.invokevirtual 136, 3) := by decide +kernel
theorem dX11_read_13 : decode cX11_read 13 = .ok (.ifCond .ne 10, 3) := by decide +kernel
theorem dX11_read_16 : decode cX11_read 16 = .ok (.aload_n 0, 1) := by decide +kernel
theorem dX11_read_17 : decode cX11_read 17 = .ok (.iconst (-1), 1) := by decide +kernel
theorem dX11_read_18 : decode cX11_read 18 = .ok (.putfield 139, 3) := by decide +kernel
theorem dX11_read_21 : decode cX11_read 21 = .ok (.lconst 0, 1) := by decide +kernel
theorem dX11_read_22 : decode cX11_read 22 = .ok (.lreturn, 1) := by decide +kernel
theorem dX11_read_23 : decode cX11_read 23 = .ok (.aload_n 0, 1) := by decide +kernel
theorem dX11_read_24 : decode cX11_read 24 = .ok (.aload_n 0, 1) := by decide +kernel
theorem dX11_read_25 : decode cX11_read 25 = .ok (.iload_n 1, 1) := by decide +kernel
theorem dX11_read_26 : decode cX11_read 26 = .ok (.iload_n 2, 1) := by decide +kernel
theorem dX11_read_27 : decode cX11_read 27 = .ok (.iconst 0, 1) := by decide +kernel
theorem dX11_read_28 : decode cX11_read 28 = .ok (.invokevirtual 142, 3) := by decide +kernel
theorem dX11_read_31 : decode cX11_read 31 = .ok (.putfield 139, 3) := by decide +kernel
theorem dX11_read_34 : decode cX11_read 34 = .ok (.aload_n 0, 1) := by decide +kernel
theorem dX11_read_35 : decode cX11_read 35 = .ok (.getfield 139, 3) := by decide +kernel
theorem dX11_read_38 : decode cX11_read 38 = .ok (.iconst 1, 1) := by decide +kernel
theorem dX11_read_39 : decode cX11_read 39 = .ok (.if_icmp .eq 5, 3) := by decide +kernel
theorem dX11_read_42 : decode cX11_read 42 = .ok (.lconst 0, 1) := by decide +kernel
theorem dX11_read_43 : decode cX11_read 43 = .ok (.lreturn, 1) := by decide +kernel
theorem dX11_read_44 : decode cX11_read 44 = .ok (.aload_n 0, 1) := by decide +kernel
theorem dX11_read_45 : decode cX11_read 45 = .ok (.getfield 36, 3) := by decide +kernel
theorem dX11_read_48 : decode cX11_read 48 = .ok (.bipush 32, 2) := by decide +kernel
theorem dX11_read_50 : decode cX11_read 50 = .ok (.iload_n 1, 1) := by decide +kernel
theorem dX11_read_51 : decode cX11_read 51 = .ok (.imul, 1) := by decide +kernel
theorem dX11_read_52 : decode cX11_read 52 = .ok (.iload_n 2, 1) := by decide +kernel
theorem dX11_read_53 : decode cX11_read 53 = .ok (.iadd, 1) := by decide +kernel
theorem dX11_read_54 : decode cX11_read 54 = .ok (.baload, 1) := by decide +kernel
theorem dX11_read_55 : decode cX11_read 55 = .ok (.ifCond .eq 17, 3) := by decide +kernel
theorem dX11_read_58 : decode cX11_read 58 = .ok (.aload_n 0, 1) := by decide +kernel
theorem dX11_read_59 : decode cX11_read 59 = .ok (.getfield 39, 3) := by decide +kernel
theorem dX11_read_62 : decode cX11_read 62 = .ok (.bipush 32, 2) := by decide +kernel
theorem dX11_read_64 : decode cX11_read 64 = .ok (.iload_n 1, 1) := by decide +kernel
theorem dX11_read_65 : decode cX11_read 65 = .ok (.imul, 1) := by decide +kernel
theorem dX11_read_66 : decode cX11_read 66 = .ok (.iload_n 2, 1) := by decide +kernel
theorem dX11_read_67 : decode cX11_read 67 = .ok (.iadd, 1) := by decide +kernel
theorem dX11_read_68 : decode cX11_read 68 = .ok (.laload, 1) := by decide +kernel
theorem dX11_read_69 : decode cX11_read 69 = .ok (.goto 9, 3) := by decide +kernel
theorem dX11_read_72 : decode cX11_read 72 = .ok (.aload_n 0, 1) := by decide +kernel
theorem dX11_read_73 : decode cX11_read 73 = .ok (.getfield 20, 3) := by decide +kernel
theorem dX11_read_76 : decode cX11_read 76 = .ok (.iload_n 2, 1) := by decide +kernel
theorem dX11_read_77 : decode cX11_read 77 = .ok (.laload, 1) := by decide +kernel
theorem dX11_read_78 : decode cX11_read 78 = .ok (.lreturn, 1) := by decide +kernel
theorem dX11_readStatus_0 : decode cX11_readStatus 0 = .ok (.aload_n 0, 1) := by decide +kernel
theorem dX11_readStatus_1 : decode cX11_readStatus 1 = .ok (.getfield 139, 3) := by decide +kernel
theorem dX11_readStatus_4 : decode cX11_readStatus 4 = .ok (.ireturn, 1) := by decide +kernel
theorem dX11_write_0 : decode cX11_write 0 = .ok (.aload_n 0, 1) := by decide +kernel
theorem dX11_write_1 : decode cX11_write 1 = .ok (.iload_n 1, 1) := by decide +kernel
theorem dX11_write_2 : decode cX11_write 2 = .ok (.invokevirtual 132, 3) := by decide +kernel
theorem dX11_write_5 : decode cX11_write 5 = .ok (.ifCond .eq 11, 3) := by decide +kernel
theorem dX11_write_8 : decode cX11_write 8 = .ok (.aload_n 0, 1) := by decide +kernel
theorem dX11_write_9 : decode cX11_write 9 = .ok (.iload_n 2, 1) := by decide +kernel
theorem dX11_write_10 : decode cX11_write 10 = .ok (.invokevirtual 136, 3) := by decide +kernel
theorem dX11_write_13 : decode cX11_write 13 = .ok (.ifCond .ne 5, 3) := by decide +kernel
theorem dX11_write_16 : decode cX11_write 16 = .ok (.iconst (-1), 1) := by decide +kernel
theorem dX11_write_17 : decode cX11_write 17 = .ok (.ireturn, 1) := by decide +kernel
theorem dX11_write_18 : decode cX11_write 18 = .ok (.aload_n 0, 1) := by decide +kernel
theorem dX11_write_19 : decode cX11_write 19 = .ok (.iload_n 1, 1) := by decide +kernel
theorem dX11_write_20 : decode cX11_write 20 = .ok (.iload_n 2, 1) := by decide +kernel
theorem dX11_write_21 : decode cX11_write 21 = .ok (.iconst 1, 1) := by decide +kernel
theorem dX11_write_22 : decode cX11_write 22 = .ok (.invokevirtual 142, 3) := by decide +kernel
theorem dX11_write_25 : decode cX11_write 25 = .ok (.istore 5, 2) := by decide +kernel
theorem dX11_write_27 : decode cX11_write 27 = .ok (.iload 5, 2) := by decide +kernel
theorem dX11_write_29 : decode cX11_write 29 = .ok (.iconst 1, 1) := by decide +kernel
theorem dX11_write_30 : decode cX11_write 30 = .ok (.if_icmp .ne 27, 3) := by decide +kernel
theorem dX11_write_33 : decode cX11_write 33 = .ok (.aload_n 0, 1) := by decide +kernel
theorem dX11_write_34 : decode cX11_write 34 = .ok (.getfield 36, 3) := by decide +kernel
theorem dX11_write_37 : decode cX11_write 37 = .ok (.bipush 32, 2) := by decide +kernel
theorem dX11_write_39 : decode cX11_write 39 = .ok (.iload_n 1, 1) := by decide +kernel
theorem dX11_write_40 : decode cX11_write 40 = .ok (.imul, 1) := by decide +kernel
theorem dX11_write_41 : decode cX11_write 41 = .ok (.iload_n 2, 1) := by decide +kernel
theorem dX11_write_42 : decode cX11_write 42 = .ok (.iadd, 1) := by decide +kernel
theorem dX11_write_43 : decode cX11_write 43 = .ok (.iconst 1, 1) := by decide +kernel
theorem dX11_write_44 : decode cX11_write 44 = .ok (.bastore, 1) := by decide +kernel
theorem dX11_write_45 : decode cX11_write 45 = .ok (.aload_n 0, 1) := by decide +kernel
theorem dX11_write_46 : decode cX11_write 46 = .ok (.getfield 39, 3) := by decide +kernel
theorem dX11_write_49 : decode cX11_write 49 = .ok (.bipush 32, 2) := by decide +kernel
theorem dX11_write_51 : decode cX11_write 51 = .ok (.iload_n 1, 1) := by decide +kernel
theorem dX11_write_52 : decode cX11_write 52 = .ok (.imul, 1) := by decide +kernel
theorem dX11_write_53 : decode cX11_write 53 = .ok (.iload_n 2, 1) := by decide +kernel
theorem dX11_write_54 : decode cX11_write 54 = .ok (.iadd, 1) := by decide +kernel
theorem dX11_write_55 : decode cX11_write 55 = .ok (.lload_n 3, 1) := by decide +kernel
theorem dX11_write_56 : decode cX11_write 56 = .ok (.lastore, 1) := by decide +kernel
theorem dX11_write_57 : decode cX11_write 57 = .ok (.iload 5, 2) := by decide +kernel
theorem dX11_write_59 : decode cX11_write 59 = .ok (.ireturn, 1) := by decide +kernel
theorem dX11_requestCommit_0 : decode cX11_requestCommit 0 = .ok (.aload_n 0, 1) := by decide +kernel
theorem dX11_requestCommit_1 : decode cX11_requestCommit 1 = .ok (.iload_n 1, 1) := by decide +kernel
theorem dX11_requestCommit_2 : decode cX11_requestCommit 2 = .ok (.invokevirtual 132, 3) := by decide +kernel
theorem dX11_requestCommit_5 : decode cX11_requestCommit 5 = .ok (.ifCond .ne 5, 3) := by decide +kernel
theorem dX11_requestCommit_8 : decode cX11_requestCommit 8 = .ok (.iconst (-1), 1) := by decide +kernel
theorem dX11_requestCommit_9 : decode cX11_requestCommit 9 = .ok (.ireturn, 1) := by decide +kernel
theorem dX11_requestCommit_10 : decode cX11_requestCommit 10 = .ok (.aload_n 0, 1) := by decide +kernel
theorem dX11_requestCommit_11 : decode cX11_requestCommit 11 = .ok (.getfield 30, 3) := by decide +kernel
theorem dX11_requestCommit_14 : decode cX11_requestCommit 14 = .ok (.iload_n 1, 1) := by decide +kernel
theorem dX11_requestCommit_15 : decode cX11_requestCommit 15 = .ok (.iaload, 1) := by decide +kernel
theorem dX11_requestCommit_16 : decode cX11_requestCommit 16 = .ok (.iconst 1, 1) := by decide +kernel
theorem dX11_requestCommit_17 : decode cX11_requestCommit 17 = .ok (.if_icmp .eq 5, 3) := by decide +kernel
theorem dX11_requestCommit_20 : decode cX11_requestCommit 20 = .ok (.iconst 0, 1) := by decide +kernel
theorem dX11_requestCommit_21 : decode cX11_requestCommit 21 = .ok (.ireturn, 1) := by decide +kernel
theorem dX11_requestCommit_22 : decode cX11_requestCommit 22 = .ok (.aload_n 0, 1) := by decide +kernel
theorem dX11_requestCommit_23 : decode cX11_requestCommit 23 = .ok (.getfield 30, 3) := by decide +kernel
theorem dX11_requestCommit_26 : decode cX11_requestCommit 26 = .ok (.iload_n 1, 1) := by decide +kernel
theorem dX11_requestCommit_27 : decode cX11_requestCommit 27 = .ok (.aload_n 0, 1) := by decide +kernel
theorem dX11_requestCommit_28 : decode cX11_requestCommit 28 = .ok (.getfield 33, 3) := by decide +kernel
theorem dX11_requestCommit_31 : decode cX11_requestCommit 31 = .ok (.iload_n 1, 1) := by decide +kernel
theorem dX11_requestCommit_32 : decode cX11_requestCommit 32 = .ok (.iaload, 1) := by decide +kernel
theorem dX11_requestCommit_33 : decode cX11_requestCommit 33 = .ok (.ifCond .ne 7, 3) := by decide +kernel
theorem dX11_requestCommit_36 : decode cX11_requestCommit 36 = .ok (.iconst 3, 1) := by decide +kernel
theorem dX11_requestCommit_37 : decode cX11_requestCommit 37 = .ok (.goto 4, 3) := by decide +kernel
theorem dX11_requestCommit_40 : decode cX11_requestCommit 40 = .ok (.iconst 2, 1) := by decide +kernel
theorem dX11_requestCommit_41 : decode cX11_requestCommit 41 = .ok (.iastore, 1) := by decide +kernel
theorem dX11_requestCommit_42 : decode cX11_requestCommit 42 = .ok (.iconst 0, 1) := by decide +kernel
theorem dX11_requestCommit_43 : decode cX11_requestCommit 43 = .ok (.istore_n 2, 1) := by decide +kernel
theorem dX11_requestCommit_44 : decode cX11_requestCommit 44 = .ok (.iconst 0, 1) := by decide +kernel
theorem dX11_requestCommit_45 : decode cX11_requestCommit 45 = .ok (.istore_n 3, 1) := by decide +kernel
theorem dX11_requestCommit_46 : decode cX11_requestCommit 46 = .ok (.iload_n 3, 1) := by decide +kernel
theorem dX11_requestCommit_47 : decode cX11_requestCommit 47 = .ok (.aload_n 0, 1) := by decide +kernel
theorem dX11_requestCommit_48 : decode cX11_requestCommit 48 = .ok (.getfield 97, 3) := by decide +kernel
theorem dX11_requestCommit_51 : decode cX11_requestCommit 51 = .ok (.if_icmp .ge 41, 3) := by decide +kernel
theorem dX11_requestCommit_54 : decode cX11_requestCommit 54 = .ok (.aload_n 0, 1) := by decide +kernel
theorem dX11_requestCommit_55 : decode cX11_requestCommit 55 = .ok (.iload_n 1, 1) := by decide +kernel
theorem dX11_requestCommit_56 : decode cX11_requestCommit 56 = .ok (.iload_n 3, 1) := by decide +kernel
theorem dX11_requestCommit_57 : decode cX11_requestCommit 57 = .ok (.invokevirtual 128, 3) := by decide +kernel
theorem dX11_requestCommit_60 : decode cX11_requestCommit 60 = .ok (.ifCond .eq 26, 3) := by decide +kernel
theorem dX11_requestCommit_63 : decode cX11_requestCommit 63 = .ok (.aload_n 0, 1) := by decide +kernel
theorem dX11_requestCommit_64 : decode cX11_requestCommit 64 = .ok (.iconst 1, 1) := by decide +kernel
theorem dX11_requestCommit_65 : decode cX11_requestCommit 65 = .ok (.iload_n 3, 1) := by decide +kernel
theorem dX11_requestCommit_66 : decode cX11_requestCommit 66 = .ok (.iload_n 1, 1) := by decide +kernel
theorem dX11_requestCommit_67 : decode cX11_requestCommit 67 = .ok (.iconst 0, 1) := by decide +kernel
theorem dX11_requestCommit_68 : decode cX11_requestCommit 68 = .ok (.iconst 0, 1) := by decide +kernel
theorem dX11_requestCommit_69 : decode cX11_requestCommit 69 = .ok (.iconst 0, 1) := by decide +kernel
theorem dX11_requestCommit_70 : decode cX11_requestCommit 70 = .ok (.aload_n 0, 1) := by decide +kernel
theorem dX11_requestCommit_71 : decode cX11_requestCommit 71 = .ok (.getfield 97, 3) := by decide +kernel
theorem dX11_requestCommit_74 : decode cX11_requestCommit 74 = .ok (.aload_n 0, 1) := by decide +kernel
theorem dX11_requestCommit_75 : decode cX11_requestCommit 75 = .ok (.getfield 101, 3) := by decide +kernel
theorem dX11_requestCommit_78 : decode cX11_requestCommit 78 = .ok (.iadd, 1) := by decide +kernel
theorem dX11_requestCommit_79 : decode cX11_requestCommit 79 = .ok (.invokevirtual 146, 3) := by decide +kernel
theorem dX11_requestCommit_82 : decode cX11_requestCommit 82 = .ok (.pop, 1) := by decide +kernel
theorem dX11_requestCommit_83 : decode cX11_requestCommit 83 = .ok (.iinc 2 1, 3) := by decide +kernel
theorem dX11_requestCommit_86 : decode cX11_requestCommit 86 = .ok (.iinc 3 1, 3) := by decide +kernel
theorem dX11_requestCommit_89 : decode cX11_requestCommit 89 = .ok (.goto (-43), 3) := by decide +kernel
theorem dX11_requestCommit_92 : decode cX11_requestCommit 92 = .ok (.iload_n 2, 1) := by decide +kernel
theorem dX11_requestCommit_93 : decode cX11_requestCommit 93 = .ok (.ireturn, 1) := by decide +kernel
theorem dX11_abort_0 : decode cX11_abort 0 = .ok (.aload_n 0, 1) := by decide +kernel
theorem dX11_abort_1 : decode cX11_abort 1 = .ok (.iload_n 1, 1) := by decide +kernel
theorem dX11_abort_2 : decode cX11_abort 2 = .ok (.invokevirtual 132, 3) := by decide +kernel
theorem dX11_abort_5 : decode cX11_abort 5 = .ok (.ifCond .ne 5, 3) := by decide +kernel
theorem dX11_abort_8 : decode cX11_abort 8 = .ok (.iconst (-1), 1) := by decide +kernel
theorem dX11_abort_9 : decode cX11_abort 9 = .ok (.ireturn, 1) := by decide +kernel
theorem dX11_abort_10 : decode cX11_abort 10 = .ok (.aload_n 0, 1) := by decide +kernel
theorem dX11_abort_11 : decode cX11_abort 11 = .ok (.getfield 30, 3) := by decide +kernel
theorem dX11_abort_14 : decode cX11_abort 14 = .ok (.iload_n 1, 1) := by decide +kernel
theorem dX11_abort_15 : decode cX11_abort 15 = .ok (.iaload, 1) := by decide +kernel
theorem dX11_abort_16 : decode cX11_abort 16 = .ok (.iconst 1, 1) := by decide +kernel
theorem dX11_abort_17 : decode cX11_abort 17 = .ok (.if_icmp .eq 5, 3) := by decide +kernel
theorem dX11_abort_20 : decode cX11_abort 20 = .ok (.iconst 0, 1) := by decide +kernel
theorem dX11_abort_21 : decode cX11_abort 21 = .ok (.ireturn, 1) := by decide +kernel
theorem dX11_abort_22 : decode cX11_abort 22 = .ok (.aload_n 0, 1) := by decide +kernel
theorem dX11_abort_23 : decode cX11_abort 23 = .ok (.getfield 30, 3) := by decide +kernel
theorem dX11_abort_26 : decode cX11_abort 26 = .ok (.iload_n 1, 1) := by decide +kernel
theorem dX11_abort_27 : decode cX11_abort 27 = .ok (.iconst 4, 1) := by decide +kernel
theorem dX11_abort_28 : decode cX11_abort 28 = .ok (.iastore, 1) := by decide +kernel
theorem dX11_abort_29 : decode cX11_abort 29 = .ok (.iconst 0, 1) := by decide +kernel
theorem dX11_abort_30 : decode cX11_abort 30 = .ok (.istore_n 2, 1) := by decide +kernel
theorem dX11_abort_31 : decode cX11_abort 31 = .ok (.iload_n 2, 1) := by decide +kernel
theorem dX11_abort_32 : decode cX11_abort 32 = .ok (.aload_n 0, 1) := by decide +kernel
theorem dX11_abort_33 : decode cX11_abort 33 = .ok (.getfield 97, 3) := by decide +kernel
theorem dX11_abort_36 : decode cX11_abort 36 = .ok (.if_icmp .ge 38, 3) := by decide +kernel
theorem dX11_abort_39 : decode cX11_abort 39 = .ok (.aload_n 0, 1) := by decide +kernel
theorem dX11_abort_40 : decode cX11_abort 40 = .ok (.getfield 7, 3) := by decide +kernel
theorem dX11_abort_43 : decode cX11_abort 43 = .ok (.iload_n 2, 1) := by decide +kernel
theorem dX11_abort_44 : decode cX11_abort 44 = .ok (.baload, 1) := by decide +kernel
theorem dX11_abort_45 : decode cX11_abort 45 = .ok (.ifCond .eq 23, 3) := by decide +kernel
theorem dX11_abort_48 : decode cX11_abort 48 = .ok (.aload_n 0, 1) := by decide +kernel
theorem dX11_abort_49 : decode cX11_abort 49 = .ok (.getfield 42, 3) := by decide +kernel
theorem dX11_abort_52 : decode cX11_abort 52 = .ok (.bipush 16, 2) := by decide +kernel
theorem dX11_abort_54 : decode cX11_abort 54 = .ok (.iload_n 2, 1) := by decide +kernel
theorem dX11_abort_55 : decode cX11_abort 55 = .ok (.imul, 1) := by decide +kernel
theorem dX11_abort_56 : decode cX11_abort 56 = .ok (.iload_n 1, 1) := by decide +kernel
theorem dX11_abort_57 : decode cX11_abort 57 = .ok (.iadd, 1) := by decide +kernel
theorem dX11_abort_58 : decode cX11_abort 58 = .ok (.baload, 1) := by decide +kernel
theorem dX11_abort_59 : decode cX11_abort 59 = .ok (.ifCond .eq 9, 3) := by decide +kernel
theorem dX11_abort_62 : decode cX11_abort 62 = .ok (.aload_n 0, 1) := by decide +kernel
theorem dX11_abort_63 : decode cX11_abort 63 = .ok (.iload_n 2, 1) := by decide +kernel
theorem dX11_abort_64 : decode cX11_abort 64 = .ok (.iload_n 1, 1) := by decide +kernel
theorem dX11_abort_65 : decode cX11_abort 65 = .ok (.invokevirtual 150, 3) := by decide +kernel
theorem dX11_abort_68 : decode cX11_abort 68 = .ok (.iinc 2 1, 3) := by decide +kernel
theorem dX11_abort_71 : decode cX11_abort 71 = .ok (.goto (-40), 3) := by decide +kernel
theorem dX11_abort_74 : decode cX11_abort 74 = .ok (.iconst 1, 1) := by decide +kernel
theorem dX11_abort_75 : decode cX11_abort 75 = .ok (.ireturn, 1) := by decide +kernel
theorem dX11_outcome_0 : decode cX11_outcome 0 = .ok (.aload_n 0, 1) := by decide +kernel
theorem dX11_outcome_1 : decode cX11_outcome 1 = .ok (.iload_n 1, 1) := by decide +kernel
theorem dX11_outcome_2 : decode cX11_outcome 2 = .ok (.invokevirtual 132, 3) := by decide +kernel
theorem dX11_outcome_5 : decode cX11_outcome 5 = .ok (.ifCond .eq 12, 3) := by decide +kernel
theorem dX11_outcome_8 : decode cX11_outcome 8 = .ok (.aload_n 0, 1) := by decide +kernel
theorem dX11_outcome_9 : decode cX11_outcome 9 = .ok (.getfield 30, 3) := by decide +kernel
theorem dX11_outcome_12 : decode cX11_outcome 12 = .ok (.iload_n 1, 1) := by decide +kernel
theorem dX11_outcome_13 : decode cX11_outcome 13 = .ok (.iaload, 1) := by decide +kernel
theorem dX11_outcome_14 : decode cX11_outcome 14 = .ok (.goto 4, 3) := by decide +kernel
theorem dX11_outcome_17 : decode cX11_outcome 17 = .ok (.iconst (-1), 1) := by decide +kernel
theorem dX11_outcome_18 : decode cX11_outcome 18 = .ok (.ireturn, 1) := by decide +kernel
theorem dX11_committedValue_0 : decode cX11_committedValue 0 = .ok (.aload_n 0, 1) := by decide +kernel
theorem dX11_committedValue_1 : decode cX11_committedValue 1 = .ok (.iload_n 1, 1) := by decide +kernel
theorem dX11_committedValue_2 : decode cX11_committedValue 2 = .ok (.invokevirtual 136, 3) := by decide +kernel
theorem dX11_committedValue_5 : decode cX11_committedValue 5 = .ok (.ifCond .eq 12, 3) := by decide +kernel
theorem dX11_committedValue_8 : decode cX11_committedValue 8 = .ok (.aload_n 0, 1) := by decide +kernel
theorem dX11_committedValue_9 : decode cX11_committedValue 9 = .ok (.getfield 20, 3) := by decide +kernel
theorem dX11_committedValue_12 : decode cX11_committedValue 12 = .ok (.iload_n 1, 1) := by decide +kernel
theorem dX11_committedValue_13 : decode cX11_committedValue 13 = .ok (.laload, 1) := by decide +kernel
theorem dX11_committedValue_14 : decode cX11_committedValue 14 = .ok (.goto 4, 3) := by decide +kernel
theorem dX11_committedValue_17 : decode cX11_committedValue 17 = .ok (.lconst 0, 1) := by decide +kernel
theorem dX11_committedValue_18 : decode cX11_committedValue 18 = .ok (.lreturn, 1) := by decide +kernel
theorem dX11_post_0 : decode cX11_post 0 = .ok (.aload_n 0, 1) := by decide +kernel
theorem dX11_post_1 : decode cX11_post 1 = .ok (.dup, 1) := by decide +kernel
theorem dX11_post_2 : decode cX11_post 2 = .ok (.getfield 154, 3) := by decide +kernel
theorem dX11_post_5 : decode cX11_post 5 = .ok (.iconst 1, 1) := by decide +kernel
theorem dX11_post_6 : decode cX11_post 6 = .ok (.iadd, 1) := by decide +kernel
theorem dX11_post_7 : decode cX11_post 7 = .ok (.putfield 154, 3) := by decide +kernel
theorem dX11_post_10 : decode cX11_post 10 = .ok (.aload_n 0, 1) := by decide +kernel
theorem dX11_post_11 : decode cX11_post 11 = .ok (.getfield 157, 3) := by decide +kernel
theorem dX11_post_14 : decode cX11_post 14 = .ok (.aload_n 0, 1) := by decide +kernel
theorem dX11_post_15 : decode cX11_post 15 = .ok (.getfield 110, 3) := by decide +kernel
theorem dX11_post_18 : decode cX11_post 18 = .ok (.if_icmp .ne 15, 3) := by decide +kernel
theorem dX11_post_21 : decode cX11_post 21 = .ok (.aload_n 0, 1) := by decide +kernel
theorem dX11_post_22 : decode cX11_post 22 = .ok (.dup, 1) := by decide +kernel
theorem dX11_post_23 : decode cX11_post 23 = .ok (.getfield 160, 3) := by decide +kernel
theorem dX11_post_26 : decode cX11_post 26 = .ok (.iconst 1, 1) := by decide +kernel
theorem dX11_post_27 : decode cX11_post 27 = .ok (.iadd, 1) := by decide +kernel
theorem dX11_post_28 : decode cX11_post 28 = .ok (.putfield 160, 3) := by decide +kernel
theorem dX11_post_31 : decode cX11_post 31 = .ok (.iconst (-1), 1) := by decide +kernel
theorem dX11_post_32 : decode cX11_post 32 = .ok (.ireturn, 1) := by decide +kernel
theorem dX11_post_33 : decode cX11_post 33 = .ok (.bipush 7, 2) := by decide +kernel
theorem dX11_post_35 : decode cX11_post 35 = .ok (.aload_n 0, 1) := by decide +kernel
theorem dX11_post_36 : decode cX11_post 36 = .ok (.getfield 157, 3) := by decide +kernel
theorem dX11_post_39 : decode cX11_post 39 = .ok (.imul, 1) := by decide +kernel
theorem dX11_post_40 : decode cX11_post 40 = .ok (.istore 8, 2) := by decide +kernel
theorem dX11_post_42 : decode cX11_post 42 = .ok (.aload_n 0, 1) := by decide +kernel
theorem dX11_post_43 : decode cX11_post 43 = .ok (.getfield 81, 3) := by decide +kernel
theorem dX11_post_46 : decode cX11_post 46 = .ok (.iload 8, 2) := by decide +kernel
theorem dX11_post_48 : decode cX11_post 48 = .ok (.iload_n 1, 1) := by decide +kernel
theorem dX11_post_49 : decode cX11_post 49 = .ok (.iastore, 1) := by decide +kernel
theorem dX11_post_50 : decode cX11_post 50 = .ok (.aload_n 0, 1) := by decide +kernel
theorem dX11_post_51 : decode cX11_post 51 = .ok (.getfield 81, 3) := by decide +kernel
theorem dX11_post_54 : decode cX11_post 54 = .ok (.iload 8, 2) := by decide +kernel
theorem dX11_post_56 : decode cX11_post 56 = .ok (.iconst 1, 1) := by decide +kernel
theorem dX11_post_57 : decode cX11_post 57 = .ok (.iadd, 1) := by decide +kernel
theorem dX11_post_58 : decode cX11_post 58 = .ok (.iload_n 2, 1) := by decide +kernel
theorem dX11_post_59 : decode cX11_post 59 = .ok (.iastore, 1) := by decide +kernel
theorem dX11_post_60 : decode cX11_post 60 = .ok (.aload_n 0, 1) := by decide +kernel
theorem dX11_post_61 : decode cX11_post 61 = .ok (.getfield 81, 3) := by decide +kernel
theorem dX11_post_64 : decode cX11_post 64 = .ok (.iload 8, 2) := by decide +kernel
theorem dX11_post_66 : decode cX11_post 66 = .ok (.iconst 2, 1) := by decide +kernel
theorem dX11_post_67 : decode cX11_post 67 = .ok (.iadd, 1) := by decide +kernel
theorem dX11_post_68 : decode cX11_post 68 = .ok (.iload_n 3, 1) := by decide +kernel
theorem dX11_post_69 : decode cX11_post 69 = .ok (.iastore, 1) := by decide +kernel
theorem dX11_post_70 : decode cX11_post 70 = .ok (.aload_n 0, 1) := by decide +kernel
theorem dX11_post_71 : decode cX11_post 71 = .ok (.getfield 81, 3) := by decide +kernel
theorem dX11_post_74 : decode cX11_post 74 = .ok (.iload 8, 2) := by decide +kernel
theorem dX11_post_76 : decode cX11_post 76 = .ok (.iconst 3, 1) := by decide +kernel
theorem dX11_post_77 : decode cX11_post 77 = .ok (.iadd, 1) := by decide +kernel
theorem dX11_post_78 : decode cX11_post 78 = .ok (.iload 4, 2) := by decide +kernel
theorem dX11_post_80 : decode cX11_post 80 = .ok (.iastore, 1) := by decide +kernel
theorem dX11_post_81 : decode cX11_post 81 = .ok (.aload_n 0, 1) := by decide +kernel
theorem dX11_post_82 : decode cX11_post 82 = .ok (.getfield 81, 3) := by decide +kernel
theorem dX11_post_85 : decode cX11_post 85 = .ok (.iload 8, 2) := by decide +kernel
theorem dX11_post_87 : decode cX11_post 87 = .ok (.iconst 4, 1) := by decide +kernel
theorem dX11_post_88 : decode cX11_post 88 = .ok (.iadd, 1) := by decide +kernel
theorem dX11_post_89 : decode cX11_post 89 = .ok (.iload 5, 2) := by decide +kernel
theorem dX11_post_91 : decode cX11_post 91 = .ok (.iastore, 1) := by decide +kernel
theorem dX11_post_92 : decode cX11_post 92 = .ok (.aload_n 0, 1) := by decide +kernel
theorem dX11_post_93 : decode cX11_post 93 = .ok (.getfield 81, 3) := by decide +kernel
theorem dX11_post_96 : decode cX11_post 96 = .ok (.iload 8, 2) := by decide +kernel
theorem dX11_post_98 : decode cX11_post 98 = .ok (.iconst 5, 1) := by decide +kernel
theorem dX11_post_99 : decode cX11_post 99 = .ok (.iadd, 1) := by decide +kernel
theorem dX11_post_100 : decode cX11_post 100 = .ok (.iload 6, 2) := by decide +kernel
theorem dX11_post_102 : decode cX11_post 102 = .ok (.iastore, 1) := by decide +kernel
theorem dX11_post_103 : decode cX11_post 103 = .ok (.aload_n 0, 1) := by decide +kernel
theorem dX11_post_104 : decode cX11_post 104 = .ok (.getfield 81, 3) := by decide +kernel
theorem dX11_post_107 : decode cX11_post 107 = .ok (.iload 8, 2) := by decide +kernel
theorem dX11_post_109 : decode cX11_post 109 = .ok (.bipush 6, 2) := by decide +kernel
theorem dX11_post_111 : decode cX11_post 111 = .ok (.iadd, 1) := by decide +kernel
theorem dX11_post_112 : decode cX11_post 112 = .ok (.iload 7, 2) := by decide +kernel
theorem dX11_post_114 : decode cX11_post 114 = .ok (.iastore, 1) := by decide +kernel
theorem dX11_post_115 : decode cX11_post 115 = .ok (.aload_n 0, 1) := by decide +kernel
theorem dX11_post_116 : decode cX11_post 116 = .ok (.dup, 1) := by decide +kernel
theorem dX11_post_117 : decode cX11_post 117 = .ok (.getfield 157, 3) := by decide +kernel
theorem dX11_post_120 : decode cX11_post 120 = .ok (.iconst 1, 1) := by decide +kernel
theorem dX11_post_121 : decode cX11_post 121 = .ok (.iadd, 1) := by decide +kernel
theorem dX11_post_122 : decode cX11_post 122 = .ok (.putfield 157, 3) := by decide +kernel
theorem dX11_post_125 : decode cX11_post 125 = .ok (.aload_n 0, 1) := by decide +kernel
theorem dX11_post_126 : decode cX11_post 126 = .ok (.getfield 157, 3) := by decide +kernel
theorem dX11_post_129 : decode cX11_post 129 = .ok (.iconst 1, 1) := by decide +kernel
theorem dX11_post_130 : decode cX11_post 130 = .ok (.isub, 1) := by decide +kernel
theorem dX11_post_131 : decode cX11_post 131 = .ok (.ireturn, 1) := by decide +kernel
theorem dX11_postAll_0 : decode cX11_postAll 0 = .ok (.iconst 0, 1) := by decide +kernel
theorem dX11_postAll_1 : decode cX11_postAll 1 = .ok (.istore 7, 2) := by decide +kernel
theorem dX11_postAll_3 : decode cX11_postAll 3 = .ok (.iload 7, 2) := by decide +kernel
theorem dX11_postAll_5 : decode cX11_postAll 5 = .ok (.aload_n 0, 1) := by decide +kernel
theorem dX11_postAll_6 : decode cX11_postAll 6 = .ok (.getfield 101, 3) := by decide +kernel
theorem dX11_postAll_9 : decode cX11_postAll 9 = .ok (.if_icmp .ge 31, 3) := by decide +kernel
theorem dX11_postAll_12 : decode cX11_postAll 12 = .ok (.aload_n 0, 1) := by decide +kernel
theorem dX11_postAll_13 : decode cX11_postAll 13 = .ok (.iload_n 1, 1) := by decide +kernel
theorem dX11_postAll_14 : decode cX11_postAll 14 = .ok (.aload_n 0, 1) := by decide +kernel
theorem dX11_postAll_15 : decode cX11_postAll 15 = .ok (.getfield 97, 3) := by decide +kernel
theorem dX11_postAll_18 : decode cX11_postAll 18 = .ok (.iload 7, 2) := by decide +kernel
theorem dX11_postAll_20 : decode cX11_postAll 20 = .ok (.iadd, 1) := by decide +kernel
theorem dX11_postAll_21 : decode cX11_postAll 21 = .ok (.iload_n 2, 1) := by decide +kernel
theorem dX11_postAll_22 : decode cX11_postAll 22 = .ok (.iload_n 3, 1) := by decide +kernel
theorem dX11_postAll_23 : decode cX11_postAll 23 = .ok (.iload 4, 2) := by decide +kernel
theorem dX11_postAll_25 : decode cX11_postAll 25 = .ok (.iload 5, 2) := by decide +kernel
theorem dX11_postAll_27 : decode cX11_postAll 27 = .ok (.iload 6, 2) := by decide +kernel
theorem dX11_postAll_29 : decode cX11_postAll 29 = .ok (.invokevirtual 146, 3) := by decide +kernel
theorem dX11_postAll_32 : decode cX11_postAll 32 = .ok (.istore 8, 2) := by decide +kernel
theorem dX11_postAll_34 : decode cX11_postAll 34 = .ok (.iinc 7 1, 3) := by decide +kernel
theorem dX11_postAll_37 : decode cX11_postAll 37 = .ok (.goto (-34), 3) := by decide +kernel
theorem dX11_postAll_40 : decode cX11_postAll 40 = .ok (.return_, 1) := by decide +kernel
theorem dX11_takeOut_0 : decode cX11_takeOut 0 = .ok (.iconst 0, 1) := by decide +kernel
theorem dX11_takeOut_1 : decode cX11_takeOut 1 = .ok (.istore_n 2, 1) := by decide +kernel
theorem dX11_takeOut_2 : decode cX11_takeOut 2 = .ok (.iload_n 2, 1) := by decide +kernel
theorem dX11_takeOut_3 : decode cX11_takeOut 3 = .ok (.bipush 7, 2) := by decide +kernel
theorem dX11_takeOut_5 : decode cX11_takeOut 5 = .ok (.if_icmp .ge 26, 3) := by decide +kernel
theorem dX11_takeOut_8 : decode cX11_takeOut 8 = .ok (.aload_n 0, 1) := by decide +kernel
theorem dX11_takeOut_9 : decode cX11_takeOut 9 = .ok (.getfield 87, 3) := by decide +kernel
theorem dX11_takeOut_12 : decode cX11_takeOut 12 = .ok (.iload_n 2, 1) := by decide +kernel
theorem dX11_takeOut_13 : decode cX11_takeOut 13 = .ok (.aload_n 0, 1) := by decide +kernel
theorem dX11_takeOut_14 : decode cX11_takeOut 14 = .ok (.getfield 81, 3) := by decide +kernel
theorem dX11_takeOut_17 : decode cX11_takeOut 17 = .ok (.bipush 7, 2) := by decide +kernel
theorem dX11_takeOut_19 : decode cX11_takeOut 19 = .ok (.iload_n 1, 1) := by decide +kernel
theorem dX11_takeOut_20 : decode cX11_takeOut 20 = .ok (.imul, 1) := by decide +kernel
theorem dX11_takeOut_21 : decode cX11_takeOut 21 = .ok (.iload_n 2, 1) := by decide +kernel
theorem dX11_takeOut_22 : decode cX11_takeOut 22 = .ok (.iadd, 1) := by decide +kernel
theorem dX11_takeOut_23 : decode cX11_takeOut 23 = .ok (.iaload, 1) := by decide +kernel
theorem dX11_takeOut_24 : decode cX11_takeOut 24 = .ok (.iastore, 1) := by decide +kernel
theorem dX11_takeOut_25 : decode cX11_takeOut 25 = .ok (.iinc 2 1, 3) := by decide +kernel
theorem dX11_takeOut_28 : decode cX11_takeOut 28 = .ok (.goto (-26), 3) := by decide +kernel
theorem dX11_takeOut_31 : decode cX11_takeOut 31 = .ok (.iconst 0, 1) := by decide +kernel
theorem dX11_takeOut_32 : decode cX11_takeOut 32 = .ok (.istore_n 2, 1) := by decide +kernel
theorem dX11_takeOut_33 : decode cX11_takeOut 33 = .ok (.iload_n 2, 1) := by decide +kernel
theorem dX11_takeOut_34 : decode cX11_takeOut 34 = .ok (.bipush 8, 2) := by decide +kernel
theorem dX11_takeOut_36 : decode cX11_takeOut 36 = .ok (.if_icmp .ge 26, 3) := by decide +kernel
theorem dX11_takeOut_39 : decode cX11_takeOut 39 = .ok (.aload_n 0, 1) := by decide +kernel
theorem dX11_takeOut_40 : decode cX11_takeOut 40 = .ok (.getfield 90, 3) := by decide +kernel
theorem dX11_takeOut_43 : decode cX11_takeOut 43 = .ok (.iload_n 2, 1) := by decide +kernel
theorem dX11_takeOut_44 : decode cX11_takeOut 44 = .ok (.aload_n 0, 1) := by decide +kernel
theorem dX11_takeOut_45 : decode cX11_takeOut 45 = .ok (.getfield 84, 3) := by decide +kernel
theorem dX11_takeOut_48 : decode cX11_takeOut 48 = .ok (.bipush 8, 2) := by decide +kernel
theorem dX11_takeOut_50 : decode cX11_takeOut 50 = .ok (.iload_n 1, 1) := by decide +kernel
theorem dX11_takeOut_51 : decode cX11_takeOut 51 = .ok (.imul, 1) := by decide +kernel
theorem dX11_takeOut_52 : decode cX11_takeOut 52 = .ok (.iload_n 2, 1) := by decide +kernel
theorem dX11_takeOut_53 : decode cX11_takeOut 53 = .ok (.iadd, 1) := by decide +kernel
theorem dX11_takeOut_54 : decode cX11_takeOut 54 = .ok (.iaload, 1) := by decide +kernel
theorem dX11_takeOut_55 : decode cX11_takeOut 55 = .ok (.iastore, 1) := by decide +kernel
theorem dX11_takeOut_56 : decode cX11_takeOut 56 = .ok (.iinc 2 1, 3) := by decide +kernel
theorem dX11_takeOut_59 : decode cX11_takeOut 59 = .ok (.goto (-26), 3) := by decide +kernel
theorem dX11_takeOut_62 : decode cX11_takeOut 62 = .ok (.bipush 7, 2) := by decide +kernel
theorem dX11_takeOut_64 : decode cX11_takeOut 64 = .ok (.iload_n 1, 1) := by decide +kernel
theorem dX11_takeOut_65 : decode cX11_takeOut 65 = .ok (.imul, 1) := by decide +kernel
theorem dX11_takeOut_66 : decode cX11_takeOut 66 = .ok (.istore_n 2, 1) := by decide +kernel
theorem dX11_takeOut_67 : decode cX11_takeOut 67 = .ok (.iload_n 2, 1) := by decide +kernel
theorem dX11_takeOut_68 : decode cX11_takeOut 68 = .ok (.bipush 7, 2) := by decide +kernel
theorem dX11_takeOut_70 : decode cX11_takeOut 70 = .ok (.iadd, 1) := by decide +kernel
theorem dX11_takeOut_71 : decode cX11_takeOut 71 = .ok (.bipush 7, 2) := by decide +kernel
theorem dX11_takeOut_73 : decode cX11_takeOut 73 = .ok (.aload_n 0, 1) := by decide +kernel
theorem dX11_takeOut_74 : decode cX11_takeOut 74 = .ok (.getfield 157, 3) := by decide +kernel
theorem dX11_takeOut_77 : decode cX11_takeOut 77 = .ok (.imul, 1) := by decide +kernel
theorem dX11_takeOut_78 : decode cX11_takeOut 78 = .ok (.if_icmp .ge 24, 3) := by decide +kernel
theorem dX11_takeOut_81 : decode cX11_takeOut 81 = .ok (.aload_n 0, 1) := by decide +kernel
theorem dX11_takeOut_82 : decode cX11_takeOut 82 = .ok (.getfield 81, 3) := by decide +kernel
theorem dX11_takeOut_85 : decode cX11_takeOut 85 = .ok (.iload_n 2, 1) := by decide +kernel
theorem dX11_takeOut_86 : decode cX11_takeOut 86 = .ok (.aload_n 0, 1) := by decide +kernel
theorem dX11_takeOut_87 : decode cX11_takeOut 87 = .ok (.getfield 81, 3) := by decide +kernel
theorem dX11_takeOut_90 : decode cX11_takeOut 90 = .ok (.iload_n 2, 1) := by decide +kernel
theorem dX11_takeOut_91 : decode cX11_takeOut 91 = .ok (.bipush 7, 2) := by decide +kernel
theorem dX11_takeOut_93 : decode cX11_takeOut 93 = .ok (.iadd, 1) := by decide +kernel
theorem dX11_takeOut_94 : decode cX11_takeOut 94 = .ok (.iaload, 1) := by decide +kernel
theorem dX11_takeOut_95 : decode cX11_takeOut 95 = .ok (.iastore, 1) := by decide +kernel
theorem dX11_takeOut_96 : decode cX11_takeOut 96 = .ok (.iinc 2 1, 3) := by decide +kernel
theorem dX11_takeOut_99 : decode cX11_takeOut 99 = .ok (.goto (-32), 3) := by decide +kernel
theorem dX11_takeOut_102 : decode cX11_takeOut 102 = .ok (.bipush 8, 2) := by decide +kernel
theorem dX11_takeOut_104 : decode cX11_takeOut 104 = .ok (.iload_n 1, 1) := by decide +kernel
theorem dX11_takeOut_105 : decode cX11_takeOut 105 = .ok (.imul, 1) := by decide +kernel
theorem dX11_takeOut_106 : decode cX11_takeOut 106 = .ok (.istore_n 2, 1) := by decide +kernel
theorem dX11_takeOut_107 : decode cX11_takeOut 107 = .ok (.iload_n 2, 1) := by decide +kernel
theorem dX11_takeOut_108 : decode cX11_takeOut 108 = .ok (.bipush 8, 2) := by decide +kernel
theorem dX11_takeOut_110 : decode cX11_takeOut 110 = .ok (.iadd, 1) := by decide +kernel
theorem dX11_takeOut_111 : decode cX11_takeOut 111 = .ok (.bipush 8, 2) := by decide +kernel
theorem dX11_takeOut_113 : decode cX11_takeOut 113 = .ok (.aload_n 0, 1) := by decide +kernel
theorem dX11_takeOut_114 : decode cX11_takeOut 114 = .ok (.getfield 157, 3) := by decide +kernel
theorem dX11_takeOut_117 : decode cX11_takeOut 117 = .ok (.imul, 1) := by decide +kernel
theorem dX11_takeOut_118 : decode cX11_takeOut 118 = .ok (.if_icmp .ge 24, 3) := by decide +kernel
theorem dX11_takeOut_121 : decode cX11_takeOut 121 = .ok (.aload_n 0, 1) := by decide +kernel
theorem dX11_takeOut_122 : decode cX11_takeOut 122 = .ok (.getfield 84, 3) := by decide +kernel
theorem dX11_takeOut_125 : decode cX11_takeOut 125 = .ok (.iload_n 2, 1) := by decide +kernel
theorem dX11_takeOut_126 : decode cX11_takeOut 126 = .ok (.aload_n 0, 1) := by decide +kernel
theorem dX11_takeOut_127 : decode cX11_takeOut 127 = .ok (.getfield 84, 3) := by decide +kernel
theorem dX11_takeOut_130 : decode cX11_takeOut 130 = .ok (.iload_n 2, 1) := by decide +kernel
theorem dX11_takeOut_131 : decode cX11_takeOut 131 = .ok (.bipush 8, 2) := by decide +kernel
theorem dX11_takeOut_133 : decode cX11_takeOut 133 = .ok (.iadd, 1) := by decide +kernel
theorem dX11_takeOut_134 : decode cX11_takeOut 134 = .ok (.iaload, 1) := by decide +kernel
theorem dX11_takeOut_135 : decode cX11_takeOut 135 = .ok (.iastore, 1) := by decide +kernel
theorem dX11_takeOut_136 : decode cX11_takeOut 136 = .ok (.iinc 2 1, 3) := by decide +kernel
theorem dX11_takeOut_139 : decode cX11_takeOut 139 = .ok (.goto (-32), 3) := by decide +kernel
theorem dX11_takeOut_142 : decode cX11_takeOut 142 = .ok (.aload_n 0, 1) := by decide +kernel
theorem dX11_takeOut_143 : decode cX11_takeOut 143 = .ok (.dup, 1) := by decide +kernel
theorem dX11_takeOut_144 : decode cX11_takeOut 144 = .ok (.getfield 157, 3) := by decide +kernel
theorem dX11_takeOut_147 : decode cX11_takeOut 147 = .ok (.iconst 1, 1) := by decide +kernel
theorem dX11_takeOut_148 : decode cX11_takeOut 148 = .ok (.isub, 1) := by decide +kernel
theorem dX11_takeOut_149 : decode cX11_takeOut 149 = .ok (.putfield 157, 3) := by decide +kernel
theorem dX11_takeOut_152 : decode cX11_takeOut 152 = .ok (.return_, 1) := by decide +kernel
theorem dX11_isMessage_0 : decode cX11_isMessage 0 = .ok (.iload_n 1, 1) := by decide +kernel
theorem dX11_isMessage_1 : decode cX11_isMessage 1 = .ok (.iconst 0, 1) := by decide +kernel
theorem dX11_isMessage_2 : decode cX11_isMessage 2 = .ok (.aload_n 0, 1) := by decide +kernel
theorem dX11_isMessage_3 : decode cX11_isMessage 3 = .ok (.getfield 157, 3) := by decide +kernel
theorem dX11_isMessage_6 : decode cX11_isMessage 6 = .ok (.iconst 1, 1) := by decide +kernel
theorem dX11_isMessage_7 : decode cX11_isMessage 7 = .ok (.isub, 1) := by decide +kernel
theorem dX11_isMessage_8 : decode cX11_isMessage 8 = .ok (.invokestatic 120, 3) := by decide +kernel
theorem dX11_isMessage_11 : decode cX11_isMessage 11 = .ok (.ireturn, 1) := by decide +kernel
theorem dX11_writes_0 : decode cX11_writes 0 = .ok (.aload_n 0, 1) := by decide +kernel
theorem dX11_writes_1 : decode cX11_writes 1 = .ok (.getfield 13, 3) := by decide +kernel
theorem dX11_writes_4 : decode cX11_writes 4 = .ok (.iload_n 1, 1) := by decide +kernel
theorem dX11_writes_5 : decode cX11_writes 5 = .ok (.iaload, 1) := by decide +kernel
theorem dX11_writes_6 : decode cX11_writes 6 = .ok (.aload_n 0, 1) := by decide +kernel
theorem dX11_writes_7 : decode cX11_writes 7 = .ok (.getfield 113, 3) := by decide +kernel
theorem dX11_writes_10 : decode cX11_writes 10 = .ok (.if_icmp .ne 5, 3) := by decide +kernel
theorem dX11_writes_13 : decode cX11_writes 13 = .ok (.iconst 0, 1) := by decide +kernel
theorem dX11_writes_14 : decode cX11_writes 14 = .ok (.ireturn, 1) := by decide +kernel
theorem dX11_writes_15 : decode cX11_writes 15 = .ok (.sipush 800, 3) := by decide +kernel
theorem dX11_writes_18 : decode cX11_writes 18 = .ok (.iload_n 1, 1) := by decide +kernel
theorem dX11_writes_19 : decode cX11_writes 19 = .ok (.imul, 1) := by decide +kernel
theorem dX11_writes_20 : decode cX11_writes 20 = .ok (.iconst 4, 1) := by decide +kernel
theorem dX11_writes_21 : decode cX11_writes 21 = .ok (.aload_n 0, 1) := by decide +kernel
theorem dX11_writes_22 : decode cX11_writes 22 = .ok (.getfield 13, 3) := by decide +kernel
theorem dX11_writes_25 : decode cX11_writes 25 = .ok (.iload_n 1, 1) := by decide +kernel
theorem dX11_writes_26 : decode cX11_writes 26 = .ok (.iaload, 1) := by decide +kernel
theorem dX11_writes_27 : decode cX11_writes 27 = .ok (.imul, 1) := by decide +kernel
theorem dX11_writes_28 : decode cX11_writes 28 = .ok (.iadd, 1) := by decide +kernel
theorem dX11_writes_29 : decode cX11_writes 29 = .ok (.istore 6, 2) := by decide +kernel
theorem dX11_writes_31 : decode cX11_writes 31 = .ok (.aload_n 0, 1) := by decide +kernel
theorem dX11_writes_32 : decode cX11_writes 32 = .ok (.getfield 17, 3) := by decide +kernel
theorem dX11_writes_35 : decode cX11_writes 35 = .ok (.iload 6, 2) := by decide +kernel
theorem dX11_writes_37 : decode cX11_writes 37 = .ok (.iload_n 2, 1) := by decide +kernel
theorem dX11_writes_38 : decode cX11_writes 38 = .ok (.iastore, 1) := by decide +kernel
theorem dX11_writes_39 : decode cX11_writes 39 = .ok (.aload_n 0, 1) := by decide +kernel
theorem dX11_writes_40 : decode cX11_writes 40 = .ok (.getfield 17, 3) := by decide +kernel
theorem dX11_writes_43 : decode cX11_writes 43 = .ok (.iload 6, 2) := by decide +kernel
theorem dX11_writes_45 : decode cX11_writes 45 = .ok (.iconst 1, 1) := by decide +kernel
theorem dX11_writes_46 : decode cX11_writes 46 = .ok (.iadd, 1) := by decide +kernel
theorem dX11_writes_47 : decode cX11_writes 47 = .ok (.iload_n 3, 1) := by decide +kernel
theorem dX11_writes_48 : decode cX11_writes 48 = .ok (.iastore, 1) := by decide +kernel
theorem dX11_writes_49 : decode cX11_writes 49 = .ok (.aload_n 0, 1) := by decide +kernel
theorem dX11_writes_50 : decode cX11_writes 50 = .ok (.getfield 17, 3) := by decide +kernel
theorem dX11_writes_53 : decode cX11_writes 53 = .ok (.iload 6, 2) := by decide +kernel
theorem dX11_writes_55 : decode cX11_writes 55 = .ok (.iconst 2, 1) := by decide +kernel
theorem dX11_writes_56 : decode cX11_writes 56 = .ok (.iadd, 1) := by decide +kernel
theorem dX11_writes_57 : decode cX11_writes 57 = .ok (.iload 4, 2) := by decide +kernel
theorem dX11_writes_59 : decode cX11_writes 59 = .ok (.iastore, 1) := by decide +kernel
theorem dX11_writes_60 : decode cX11_writes 60 = .ok (.aload_n 0, 1) := by decide +kernel
theorem dX11_writes_61 : decode cX11_writes 61 = .ok (.getfield 17, 3) := by decide +kernel
theorem dX11_writes_64 : decode cX11_writes 64 = .ok (.iload 6, 2) := by decide +kernel
theorem dX11_writes_66 : decode cX11_writes 66 = .ok (.iconst 3, 1) := by decide +kernel
theorem dX11_writes_67 : decode cX11_writes 67 = .ok (.iadd, 1) := by decide +kernel
theorem dX11_writes_68 : decode cX11_writes 68 = .ok (.iload 5, 2) := by decide +kernel
theorem dX11_writes_70 : decode cX11_writes 70 = .ok (.iastore, 1) := by decide +kernel
theorem dX11_writes_71 : decode cX11_writes 71 = .ok (.aload_n 0, 1) := by decide +kernel
theorem dX11_writes_72 : decode cX11_writes 72 = .ok (.getfield 13, 3) := by decide +kernel
theorem dX11_writes_75 : decode cX11_writes 75 = .ok (.iload_n 1, 1) := by decide +kernel
theorem dX11_writes_76 : decode cX11_writes 76 = .ok (.dup2, 1) := by decide +kernel
theorem dX11_writes_77 : decode cX11_writes 77 = .ok (.iaload, 1) := by decide +kernel
theorem dX11_writes_78 : decode cX11_writes 78 = .ok (.iconst 1, 1) := by decide +kernel
theorem dX11_writes_79 : decode cX11_writes 79 = .ok (.iadd, 1) := by decide +kernel
theorem dX11_writes_80 : decode cX11_writes 80 = .ok (.iastore, 1) := by decide +kernel
theorem dX11_writes_81 : decode cX11_writes 81 = .ok (.iconst 1, 1) := by decide +kernel
theorem dX11_writes_82 : decode cX11_writes 82 = .ok (.ireturn, 1) := by decide +kernel
theorem dX11_deliver_0 : decode cX11_deliver 0 = .ok (.aload_n 0, 1) := by decide +kernel
theorem dX11_deliver_1 : decode cX11_deliver 1 = .ok (.iload_n 1, 1) := by decide +kernel
theorem dX11_deliver_2 : decode cX11_deliver 2 = .ok (.invokevirtual 163, 3) := by decide +kernel
theorem dX11_deliver_5 : decode cX11_deliver 5 = .ok (.ifCond .ne 5, 3) := by decide +kernel
theorem dX11_deliver_8 : decode cX11_deliver 8 = .ok (.iconst (-1), 1) := by decide +kernel
theorem dX11_deliver_9 : decode cX11_deliver 9 = .ok (.ireturn, 1) := by decide +kernel
theorem dX11_deliver_10 : decode cX11_deliver 10 = .ok (.aload_n 0, 1) := by decide +kernel
theorem dX11_deliver_11 : decode cX11_deliver 11 = .ok (.iload_n 1, 1) := by decide +kernel
theorem dX11_deliver_12 : decode cX11_deliver 12 = .ok (.invokevirtual 166, 3) := by decide +kernel
theorem dX11_deliver_15 : decode cX11_deliver 15 = .ok (.aload_n 0, 1) := by decide +kernel
theorem dX11_deliver_16 : decode cX11_deliver 16 = .ok (.dup, 1) := by decide +kernel
theorem dX11_deliver_17 : decode cX11_deliver 17 = .ok (.getfield 169, 3) := by decide +kernel
theorem dX11_deliver_20 : decode cX11_deliver 20 = .ok (.iconst 1, 1) := by decide +kernel
theorem dX11_deliver_21 : decode cX11_deliver 21 = .ok (.iadd, 1) := by decide +kernel
theorem dX11_deliver_22 : decode cX11_deliver 22 = .ok (.putfield 169, 3) := by decide +kernel
theorem dX11_deliver_25 : decode cX11_deliver 25 = .ok (.aload_n 0, 1) := by decide +kernel
theorem dX11_deliver_26 : decode cX11_deliver 26 = .ok (.getfield 87, 3) := by decide +kernel
theorem dX11_deliver_29 : decode cX11_deliver 29 = .ok (.iconst 1, 1) := by decide +kernel
theorem dX11_deliver_30 : decode cX11_deliver 30 = .ok (.iaload, 1) := by decide +kernel
theorem dX11_deliver_31 : decode cX11_deliver 31 = .ok (.istore_n 2, 1) := by decide +kernel
theorem dX11_deliver_32 : decode cX11_deliver 32 = .ok (.iload_n 2, 1) := by decide +kernel
theorem dX11_deliver_33 : decode cX11_deliver 33 = .ok (.aload_n 0, 1) := by decide +kernel
theorem dX11_deliver_34 : decode cX11_deliver 34 = .ok (.getfield 97, 3) := by decide +kernel
theorem dX11_deliver_37 : decode cX11_deliver 37 = .ok (.aload_n 0, 1) := by decide +kernel
theorem dX11_deliver_38 : decode cX11_deliver 38 = .ok (.getfield 101, 3) := by decide +kernel
theorem dX11_deliver_41 : decode cX11_deliver 41 = .ok (.iadd, 1) := by decide +kernel
theorem dX11_deliver_42 : decode cX11_deliver 42 = .ok (.if_icmp .ne 52, 3) := by decide +kernel
theorem dX11_deliver_45 : decode cX11_deliver 45 = .ok (.aload_n 0, 1) := by decide +kernel
theorem dX11_deliver_46 : decode cX11_deliver 46 = .ok (.getfield 30, 3) := by decide +kernel
theorem dX11_deliver_49 : decode cX11_deliver 49 = .ok (.aload_n 0, 1) := by decide +kernel
theorem dX11_deliver_50 : decode cX11_deliver 50 = .ok (.getfield 87, 3) := by decide +kernel
theorem dX11_deliver_53 : decode cX11_deliver 53 = .ok (.iconst 2, 1) := by decide +kernel
theorem dX11_deliver_54 : decode cX11_deliver 54 = .ok (.iaload, 1) := by decide +kernel
theorem dX11_deliver_55 : decode cX11_deliver 55 = .ok (.aload_n 0, 1) := by decide +kernel
theorem dX11_deliver_56 : decode cX11_deliver 56 = .ok (.getfield 30, 3) := by decide +kernel
theorem dX11_deliver_59 : decode cX11_deliver 59 = .ok (.aload_n 0, 1) := by decide +kernel
theorem dX11_deliver_60 : decode cX11_deliver 60 = .ok (.getfield 87, 3) := by decide +kernel
theorem dX11_deliver_63 : decode cX11_deliver 63 = .ok (.iconst 2, 1) := by decide +kernel
theorem dX11_deliver_64 : decode cX11_deliver 64 = .ok (.iaload, 1) := by decide +kernel
theorem dX11_deliver_65 : decode cX11_deliver 65 = .ok (.iaload, 1) := by decide +kernel
theorem dX11_deliver_66 : decode cX11_deliver 66 = .ok (.iconst 2, 1) := by decide +kernel
theorem dX11_deliver_67 : decode cX11_deliver 67 = .ok (.if_icmp .ne 12, 3) := by decide +kernel
theorem dX11_deliver_70 : decode cX11_deliver 70 = .ok (.aload_n 0, 1) := by decide +kernel
theorem dX11_deliver_71 : decode cX11_deliver 71 = .ok (.getfield 87, 3) := by decide +kernel
theorem dX11_deliver_74 : decode cX11_deliver 74 = .ok (.iconst 5, 1) := by decide +kernel
theorem dX11_deliver_75 : decode cX11_deliver 75 = .ok (.iaload, 1) := by decide +kernel
theorem dX11_deliver_76 : decode cX11_deliver 76 = .ok (.goto 14, 3) := by decide +kernel
theorem dX11_deliver_79 : decode cX11_deliver 79 = .ok (.aload_n 0, 1) := by decide +kernel
theorem dX11_deliver_80 : decode cX11_deliver 80 = .ok (.getfield 30, 3) := by decide +kernel
theorem dX11_deliver_83 : decode cX11_deliver 83 = .ok (.aload_n 0, 1) := by decide +kernel
theorem dX11_deliver_84 : decode cX11_deliver 84 = .ok (.getfield 87, 3) := by decide +kernel
theorem dX11_deliver_87 : decode cX11_deliver 87 = .ok (.iconst 2, 1) := by decide +kernel
theorem dX11_deliver_88 : decode cX11_deliver 88 = .ok (.iaload, 1) := by decide +kernel
theorem dX11_deliver_89 : decode cX11_deliver 89 = .ok (.iaload, 1) := by decide +kernel
theorem dX11_deliver_90 : decode cX11_deliver 90 = .ok (.iastore, 1) := by decide +kernel
theorem dX11_deliver_91 : decode cX11_deliver 91 = .ok (.bipush 6, 2) := by decide +kernel
theorem dX11_deliver_93 : decode cX11_deliver 93 = .ok (.ireturn, 1) := by decide +kernel
theorem dX11_deliver_94 : decode cX11_deliver 94 = .ok (.aload_n 0, 1) := by decide +kernel
theorem dX11_deliver_95 : decode cX11_deliver 95 = .ok (.getfield 7, 3) := by decide +kernel
theorem dX11_deliver_98 : decode cX11_deliver 98 = .ok (.iload_n 2, 1) := by decide +kernel
theorem dX11_deliver_99 : decode cX11_deliver 99 = .ok (.baload, 1) := by decide +kernel
theorem dX11_deliver_100 : decode cX11_deliver 100 = .ok (.ifCond .ne 6, 3) := by decide +kernel
theorem dX11_deliver_103 : decode cX11_deliver 103 = .ok (.bipush 9, 2) := by decide +kernel
theorem dX11_deliver_105 : decode cX11_deliver 105 = .ok (.ireturn, 1) := by decide +kernel
theorem dX11_deliver_106 : decode cX11_deliver 106 = .ok (.aload_n 0, 1) := by decide +kernel
theorem dX11_deliver_107 : decode cX11_deliver 107 = .ok (.iload_n 2, 1) := by decide +kernel
theorem dX11_deliver_108 : decode cX11_deliver 108 = .ok (.aload_n 0, 1) := by decide +kernel
theorem dX11_deliver_109 : decode cX11_deliver 109 = .ok (.getfield 87, 3) := by decide +kernel
theorem dX11_deliver_112 : decode cX11_deliver 112 = .ok (.iconst 2, 1) := by decide +kernel
theorem dX11_deliver_113 : decode cX11_deliver 113 = .ok (.iaload, 1) := by decide +kernel
theorem dX11_deliver_114 : decode cX11_deliver 114 = .ok (.invokevirtual 172, 3) := by decide +kernel
theorem dX11_deliver_117 : decode cX11_deliver 117 = .ok (.ifCond .eq 12, 3) := by decide +kernel
theorem dX11_deliver_120 : decode cX11_deliver 120 = .ok (.aload_n 0, 1) := by decide +kernel
theorem dX11_deliver_121 : decode cX11_deliver 121 = .ok (.getfield 87, 3) := by decide +kernel
theorem dX11_deliver_124 : decode cX11_deliver 124 = .ok (.iconst 0, 1) := by decide +kernel
theorem dX11_deliver_125 : decode cX11_deliver 125 = .ok (.iaload, 1) := by decide +kernel
theorem dX11_deliver_126 : decode cX11_deliver 126 = .ok (.goto 5, 3) := by decide +kernel
theorem dX11_deliver_129 : decode cX11_deliver 129 = .ok (.bipush 10, 2) := by decide +kernel
theorem dX11_deliver_131 : decode cX11_deliver 131 = .ok (.ireturn, 1) := by decide +kernel
theorem dX11_does_0 : decode cX11_does 0 = .ok (.bipush 16, 2) := by decide +kernel
theorem dX11_does_2 : decode cX11_does 2 = .ok (.iload_n 1, 1) := by decide +kernel
theorem dX11_does_3 : decode cX11_does 3 = .ok (.aload_n 0, 1) := by decide +kernel
theorem dX11_does_4 : decode cX11_does 4 = .ok (.getfield 97, 3) := by decide +kernel
theorem dX11_does_7 : decode cX11_does 7 = .ok (.isub, 1) := by decide +kernel
theorem dX11_does_8 : decode cX11_does 8 = .ok (.imul, 1) := by decide +kernel
theorem dX11_does_9 : decode cX11_does 9 = .ok (.iload_n 2, 1) := by decide +kernel
theorem dX11_does_10 : decode cX11_does 10 = .ok (.iadd, 1) := by decide +kernel
theorem dX11_does_11 : decode cX11_does 11 = .ok (.istore_n 3, 1) := by decide +kernel
theorem dX11_does_12 : decode cX11_does 12 = .ok (.aload_n 0, 1) := by decide +kernel
theorem dX11_does_13 : decode cX11_does 13 = .ok (.getfield 87, 3) := by decide +kernel
theorem dX11_does_16 : decode cX11_does 16 = .ok (.iconst 0, 1) := by decide +kernel
theorem dX11_does_17 : decode cX11_does 17 = .ok (.iaload, 1) := by decide +kernel
theorem dX11_does_18 : decode cX11_does 18 = .ok (.tableswitch 75 1 5 #[34, 41, 49, 58, 66], 34) := by decide +kernel
theorem dX11_does_52 : decode cX11_does 52 = .ok (.aload_n 0, 1) := by decide +kernel
theorem dX11_does_53 : decode cX11_does 53 = .ok (.iload_n 1, 1) := by decide +kernel
theorem dX11_does_54 : decode cX11_does 54 = .ok (.iload_n 2, 1) := by decide +kernel
theorem dX11_does_55 : decode cX11_does 55 = .ok (.invokevirtual 175, 3) := by decide +kernel
theorem dX11_does_58 : decode cX11_does 58 = .ok (.ireturn, 1) := by decide +kernel
theorem dX11_does_59 : decode cX11_does 59 = .ok (.aload_n 0, 1) := by decide +kernel
theorem dX11_does_60 : decode cX11_does 60 = .ok (.iload_n 1, 1) := by decide +kernel
theorem dX11_does_61 : decode cX11_does 61 = .ok (.iload_n 2, 1) := by decide +kernel
theorem dX11_does_62 : decode cX11_does 62 = .ok (.iload_n 3, 1) := by decide +kernel
theorem dX11_does_63 : decode cX11_does 63 = .ok (.invokevirtual 178, 3) := by decide +kernel
theorem dX11_does_66 : decode cX11_does 66 = .ok (.ireturn, 1) := by decide +kernel
theorem dX11_does_67 : decode cX11_does 67 = .ok (.aload_n 0, 1) := by decide +kernel
theorem dX11_does_68 : decode cX11_does 68 = .ok (.iload_n 1, 1) := by decide +kernel
theorem dX11_does_69 : decode cX11_does 69 = .ok (.iload_n 2, 1) := by decide +kernel
theorem dX11_does_70 : decode cX11_does 70 = .ok (.iload_n 3, 1) := by decide +kernel
theorem dX11_does_71 : decode cX11_does 71 = .ok (.invokevirtual 181, 3) := by decide +kernel
theorem dX11_does_74 : decode cX11_does 74 = .ok (.iconst 1, 1) := by decide +kernel
theorem dX11_does_75 : decode cX11_does 75 = .ok (.ireturn, 1) := by decide +kernel
theorem dX11_does_76 : decode cX11_does 76 = .ok (.aload_n 0, 1) := by decide +kernel
theorem dX11_does_77 : decode cX11_does 77 = .ok (.iload_n 1, 1) := by decide +kernel
theorem dX11_does_78 : decode cX11_does 78 = .ok (.iload_n 2, 1) := by decide +kernel
theorem dX11_does_79 : decode cX11_does 79 = .ok (.iload_n 3, 1) := by decide +kernel
theorem dX11_does_80 : decode cX11_does 80 = .ok (.invokevirtual 185, 3) := by decide +kernel
theorem dX11_does_83 : decode cX11_does 83 = .ok (.ireturn, 1) := by decide +kernel
theorem dX11_does_84 : decode cX11_does 84 = .ok (.aload_n 0, 1) := by decide +kernel
theorem dX11_does_85 : decode cX11_does 85 = .ok (.iload_n 1, 1) := by decide +kernel
theorem dX11_does_86 : decode cX11_does 86 = .ok (.iload_n 2, 1) := by decide +kernel
theorem dX11_does_87 : decode cX11_does 87 = .ok (.iload_n 3, 1) := by decide +kernel
theorem dX11_does_88 : decode cX11_does 88 = .ok (.invokevirtual 188, 3) := by decide +kernel
theorem dX11_does_91 : decode cX11_does 91 = .ok (.iconst 1, 1) := by decide +kernel
theorem dX11_does_92 : decode cX11_does 92 = .ok (.ireturn, 1) := by decide +kernel
theorem dX11_does_93 : decode cX11_does 93 = .ok (.aload_n 0, 1) := by decide +kernel
theorem dX11_does_94 : decode cX11_does 94 = .ok (.iload_n 1, 1) := by decide +kernel
theorem dX11_does_95 : decode cX11_does 95 = .ok (.iload_n 2, 1) := by decide +kernel
theorem dX11_does_96 : decode cX11_does 96 = .ok (.invokevirtual 191, 3) := by decide +kernel
theorem dX11_does_99 : decode cX11_does 99 = .ok (.ireturn, 1) := by decide +kernel
theorem dX11_prepare_0 : decode cX11_prepare 0 = .ok (.bipush 16, 2) := by decide +kernel
theorem dX11_prepare_2 : decode cX11_prepare 2 = .ok (.iload_n 1, 1) := by decide +kernel
theorem dX11_prepare_3 : decode cX11_prepare 3 = .ok (.imul, 1) := by decide +kernel
theorem dX11_prepare_4 : decode cX11_prepare 4 = .ok (.iload_n 2, 1) := by decide +kernel
theorem dX11_prepare_5 : decode cX11_prepare 5 = .ok (.iadd, 1) := by decide +kernel
theorem dX11_prepare_6 : decode cX11_prepare 6 = .ok (.istore_n 3, 1) := by decide +kernel
theorem dX11_prepare_7 : decode cX11_prepare 7 = .ok (.aload_n 0, 1) := by decide +kernel
theorem dX11_prepare_8 : decode cX11_prepare 8 = .ok (.getfield 48, 3) := by decide +kernel
theorem dX11_prepare_11 : decode cX11_prepare 11 = .ok (.iload_n 3, 1) := by decide +kernel
theorem dX11_prepare_12 : decode cX11_prepare 12 = .ok (.iaload, 1) := by decide +kernel
theorem dX11_prepare_13 : decode cX11_prepare 13 = .ok (.ifCond .eq 5, 3) := by decide +kernel
theorem dX11_prepare_16 : decode cX11_prepare 16 = .ok (.iconst 1, 1) := by decide +kernel
theorem dX11_prepare_17 : decode cX11_prepare 17 = .ok (.ireturn, 1) := by decide +kernel
theorem dX11_prepare_18 : decode cX11_prepare 18 = .ok (.aload_n 0, 1) := by decide +kernel
theorem dX11_prepare_19 : decode cX11_prepare 19 = .ok (.getfield 45, 3) := by decide +kernel
theorem dX11_prepare_22 : decode cX11_prepare 22 = .ok (.iload_n 3, 1) := by decide +kernel
theorem dX11_prepare_23 : decode cX11_prepare 23 = .ok (.iaload, 1) := by decide +kernel
theorem dX11_prepare_24 : decode cX11_prepare 24 = .ok (.ifCond .ne 102, 3) := by decide +kernel
theorem dX11_prepare_27 : decode cX11_prepare 27 = .ok (.aload_n 0, 1) := by decide +kernel
theorem dX11_prepare_28 : decode cX11_prepare 28 = .ok (.getfield 42, 3) := by decide +kernel
theorem dX11_prepare_31 : decode cX11_prepare 31 = .ok (.iload_n 3, 1) := by decide +kernel
theorem dX11_prepare_32 : decode cX11_prepare 32 = .ok (.baload, 1) := by decide +kernel
theorem dX11_prepare_33 : decode cX11_prepare 33 = .ok (.ifCond .eq 7, 3) := by decide +kernel
theorem dX11_prepare_36 : decode cX11_prepare 36 = .ok (.iconst 1, 1) := by decide +kernel
theorem dX11_prepare_37 : decode cX11_prepare 37 = .ok (.goto 4, 3) := by decide +kernel
theorem dX11_prepare_40 : decode cX11_prepare 40 = .ok (.iconst 2, 1) := by decide +kernel
theorem dX11_prepare_41 : decode cX11_prepare 41 = .ok (.istore 4, 2) := by decide +kernel
theorem dX11_prepare_43 : decode cX11_prepare 43 = .ok (.aload_n 0, 1) := by decide +kernel
theorem dX11_prepare_44 : decode cX11_prepare 44 = .ok (.iload_n 1, 1) := by decide +kernel
theorem dX11_prepare_45 : decode cX11_prepare 45 = .ok (.iconst 1, 1) := by decide +kernel
theorem dX11_prepare_46 : decode cX11_prepare 46 = .ok (.iload_n 2, 1) := by decide +kernel
theorem dX11_prepare_47 : decode cX11_prepare 47 = .ok (.iload 4, 2) := by decide +kernel
theorem dX11_prepare_49 : decode cX11_prepare 49 = .ok (.iconst 0, 1) := by decide +kernel
theorem dX11_prepare_50 : decode cX11_prepare 50 = .ok (.invokevirtual 194, 3) := by decide +kernel
theorem dX11_prepare_53 : decode cX11_prepare 53 = .ok (.ifCond .ne 5, 3) := by decide +kernel
theorem dX11_prepare_56 : decode cX11_prepare 56 = .ok (.iconst 0, 1) := by decide +kernel
theorem dX11_prepare_57 : decode cX11_prepare 57 = .ok (.ireturn, 1) := by decide +kernel
theorem dX11_prepare_58 : decode cX11_prepare 58 = .ok (.aload_n 0, 1) := by decide +kernel
theorem dX11_prepare_59 : decode cX11_prepare 59 = .ok (.getfield 45, 3) := by decide +kernel
theorem dX11_prepare_62 : decode cX11_prepare 62 = .ok (.iload_n 3, 1) := by decide +kernel
theorem dX11_prepare_63 : decode cX11_prepare 63 = .ok (.iload 4, 2) := by decide +kernel
theorem dX11_prepare_65 : decode cX11_prepare 65 = .ok (.iastore, 1) := by decide +kernel
theorem dX11_prepare_66 : decode cX11_prepare 66 = .ok (.iload_n 1, 1) := by decide +kernel
theorem dX11_prepare_67 : decode cX11_prepare 67 = .ok (.istore 5, 2) := by decide +kernel
theorem dX11_prepare_69 : decode cX11_prepare 69 = .ok (.iload 5, 2) := by decide +kernel
theorem dX11_prepare_71 : decode cX11_prepare 71 = .ok (.aload_n 0, 1) := by decide +kernel
theorem dX11_prepare_72 : decode cX11_prepare 72 = .ok (.getfield 107, 3) := by decide +kernel
theorem dX11_prepare_75 : decode cX11_prepare 75 = .ok (.if_icmp .ge 51, 3) := by decide +kernel
theorem dX11_prepare_78 : decode cX11_prepare 78 = .ok (.iload 4, 2) := by decide +kernel
theorem dX11_prepare_80 : decode cX11_prepare 80 = .ok (.iconst 1, 1) := by decide +kernel
theorem dX11_prepare_81 : decode cX11_prepare 81 = .ok (.if_icmp .ne 45, 3) := by decide +kernel
theorem dX11_prepare_84 : decode cX11_prepare 84 = .ok (.aload_n 0, 1) := by decide +kernel
theorem dX11_prepare_85 : decode cX11_prepare 85 = .ok (.getfield 24, 3) := by decide +kernel
theorem dX11_prepare_88 : decode cX11_prepare 88 = .ok (.iload 5, 2) := by decide +kernel
theorem dX11_prepare_90 : decode cX11_prepare 90 = .ok (.dup2, 1) := by decide +kernel
theorem dX11_prepare_91 : decode cX11_prepare 91 = .ok (.iaload, 1) := by decide +kernel
theorem dX11_prepare_92 : decode cX11_prepare 92 = .ok (.aload_n 0, 1) := by decide +kernel
theorem dX11_prepare_93 : decode cX11_prepare 93 = .ok (.getfield 27, 3) := by decide +kernel
theorem dX11_prepare_96 : decode cX11_prepare 96 = .ok (.iload 5, 2) := by decide +kernel
theorem dX11_prepare_98 : decode cX11_prepare 98 = .ok (.iaload, 1) := by decide +kernel
theorem dX11_prepare_99 : decode cX11_prepare 99 = .ok (.iload_n 2, 1) := by decide +kernel
theorem dX11_prepare_100 : decode cX11_prepare 100 = .ok (.if_icmp .ne 7, 3) := by decide +kernel
theorem dX11_prepare_103 : decode cX11_prepare 103 = .ok (.iconst (-1), 1) := by decide +kernel
theorem dX11_prepare_104 : decode cX11_prepare 104 = .ok (.goto 8, 3) := by decide +kernel
theorem dX11_prepare_107 : decode cX11_prepare 107 = .ok (.iconst 1, 1) := by decide +kernel
theorem dX11_prepare_108 : decode cX11_prepare 108 = .ok (.iload_n 2, 1) := by decide +kernel
theorem dX11_prepare_109 : decode cX11_prepare 109 = .ok (.ishl, 1) := by decide +kernel
theorem dX11_prepare_110 : decode cX11_prepare 110 = .ok (.iconst (-1), 1) := by decide +kernel
theorem dX11_prepare_111 : decode cX11_prepare 111 = .ok (.ixor, 1) := by decide +kernel
theorem dX11_prepare_112 : decode cX11_prepare 112 = .ok (.iand, 1) := by decide +kernel
theorem dX11_prepare_113 : decode cX11_prepare 113 = .ok (.iastore, 1) := by decide +kernel
theorem dX11_prepare_114 : decode cX11_prepare 114 = .ok (.iload 5, 2) := by decide +kernel
theorem dX11_prepare_116 : decode cX11_prepare 116 = .ok (.aload_n 0, 1) := by decide +kernel
theorem dX11_prepare_117 : decode cX11_prepare 117 = .ok (.getfield 97, 3) := by decide +kernel
theorem dX11_prepare_120 : decode cX11_prepare 120 = .ok (.iadd, 1) := by decide +kernel
theorem dX11_prepare_121 : decode cX11_prepare 121 = .ok (.istore 5, 2) := by decide +kernel
theorem dX11_prepare_123 : decode cX11_prepare 123 = .ok (.goto (-54), 3) := by decide +kernel
theorem dX11_prepare_126 : decode cX11_prepare 126 = .ok (.aload_n 0, 1) := by decide +kernel
theorem dX11_prepare_127 : decode cX11_prepare 127 = .ok (.iconst 2, 1) := by decide +kernel
theorem dX11_prepare_128 : decode cX11_prepare 128 = .ok (.iload_n 2, 1) := by decide +kernel
theorem dX11_prepare_129 : decode cX11_prepare 129 = .ok (.iconst 0, 1) := by decide +kernel
theorem dX11_prepare_130 : decode cX11_prepare 130 = .ok (.iload_n 1, 1) := by decide +kernel
theorem dX11_prepare_131 : decode cX11_prepare 131 = .ok (.aload_n 0, 1) := by decide +kernel
theorem dX11_prepare_132 : decode cX11_prepare 132 = .ok (.getfield 45, 3) := by decide +kernel
theorem dX11_prepare_135 : decode cX11_prepare 135 = .ok (.iload_n 3, 1) := by decide +kernel
theorem dX11_prepare_136 : decode cX11_prepare 136 = .ok (.iaload, 1) := by decide +kernel
theorem dX11_prepare_137 : decode cX11_prepare 137 = .ok (.iload_n 1, 1) := by decide +kernel
theorem dX11_prepare_138 : decode cX11_prepare 138 = .ok (.invokevirtual 198, 3) := by decide +kernel
theorem dX11_prepare_141 : decode cX11_prepare 141 = .ok (.iconst 1, 1) := by decide +kernel
theorem dX11_prepare_142 : decode cX11_prepare 142 = .ok (.ireturn, 1) := by decide +kernel
theorem dX11_vote_0 : decode cX11_vote 0 = .ok (.aload_n 0, 1) := by decide +kernel
theorem dX11_vote_1 : decode cX11_vote 1 = .ok (.getfield 87, 3) := by decide +kernel
theorem dX11_vote_4 : decode cX11_vote 4 = .ok (.iconst 3, 1) := by decide +kernel
theorem dX11_vote_5 : decode cX11_vote 5 = .ok (.iaload, 1) := by decide +kernel
theorem dX11_vote_6 : decode cX11_vote 6 = .ok (.istore 4, 2) := by decide +kernel
theorem dX11_vote_8 : decode cX11_vote 8 = .ok (.aload_n 0, 1) := by decide +kernel
theorem dX11_vote_9 : decode cX11_vote 9 = .ok (.getfield 87, 3) := by decide +kernel
theorem dX11_vote_12 : decode cX11_vote 12 = .ok (.iconst 4, 1) := by decide +kernel
theorem dX11_vote_13 : decode cX11_vote 13 = .ok (.iaload, 1) := by decide +kernel
theorem dX11_vote_14 : decode cX11_vote 14 = .ok (.istore 5, 2) := by decide +kernel
theorem dX11_vote_16 : decode cX11_vote 16 = .ok (.aload_n 0, 1) := by decide +kernel
theorem dX11_vote_17 : decode cX11_vote 17 = .ok (.getfield 87, 3) := by decide +kernel
theorem dX11_vote_20 : decode cX11_vote 20 = .ok (.iconst 5, 1) := by decide +kernel
theorem dX11_vote_21 : decode cX11_vote 21 = .ok (.iaload, 1) := by decide +kernel
theorem dX11_vote_22 : decode cX11_vote 22 = .ok (.istore 6, 2) := by decide +kernel
theorem dX11_vote_24 : decode cX11_vote 24 = .ok (.iload 4, 2) := by decide +kernel
theorem dX11_vote_26 : decode cX11_vote 26 = .ok (.aload_n 0, 1) := by decide +kernel
theorem dX11_vote_27 : decode cX11_vote 27 = .ok (.getfield 51, 3) := by decide +kernel
theorem dX11_vote_30 : decode cX11_vote 30 = .ok (.iload_n 3, 1) := by decide +kernel
theorem dX11_vote_31 : decode cX11_vote 31 = .ok (.iaload, 1) := by decide +kernel
theorem dX11_vote_32 : decode cX11_vote 32 = .ok (.if_icmp .ge 5, 3) := by decide +kernel
theorem dX11_vote_35 : decode cX11_vote 35 = .ok (.iconst 1, 1) := by decide +kernel
theorem dX11_vote_36 : decode cX11_vote 36 = .ok (.ireturn, 1) := by decide +kernel
theorem dX11_vote_37 : decode cX11_vote 37 = .ok (.iconst 4, 1) := by decide +kernel
theorem dX11_vote_38 : decode cX11_vote 38 = .ok (.iload_n 3, 1) := by decide +kernel
theorem dX11_vote_39 : decode cX11_vote 39 = .ok (.imul, 1) := by decide +kernel
theorem dX11_vote_40 : decode cX11_vote 40 = .ok (.iload 5, 2) := by decide +kernel
theorem dX11_vote_42 : decode cX11_vote 42 = .ok (.iadd, 1) := by decide +kernel
theorem dX11_vote_43 : decode cX11_vote 43 = .ok (.istore 7, 2) := by decide +kernel
theorem dX11_vote_45 : decode cX11_vote 45 = .ok (.aload_n 0, 1) := by decide +kernel
theorem dX11_vote_46 : decode cX11_vote 46 = .ok (.getfield 63, 3) := by decide +kernel
theorem dX11_vote_49 : decode cX11_vote 49 = .ok (.iload 7, 2) := by decide +kernel
theorem dX11_vote_51 : decode cX11_vote 51 = .ok (.iaload, 1) := by decide +kernel
theorem dX11_vote_52 : decode cX11_vote 52 = .ok (.iload 4, 2) := by decide +kernel
theorem dX11_vote_54 : decode cX11_vote 54 = .ok (.if_icmp .ne 15, 3) := by decide +kernel
theorem dX11_vote_57 : decode cX11_vote 57 = .ok (.aload_n 0, 1) := by decide +kernel
theorem dX11_vote_58 : decode cX11_vote 58 = .ok (.getfield 66, 3) := by decide +kernel
theorem dX11_vote_61 : decode cX11_vote 61 = .ok (.iload 7, 2) := by decide +kernel
theorem dX11_vote_63 : decode cX11_vote 63 = .ok (.iaload, 1) := by decide +kernel
theorem dX11_vote_64 : decode cX11_vote 64 = .ok (.iload 6, 2) := by decide +kernel
theorem dX11_vote_66 : decode cX11_vote 66 = .ok (.if_icmp .eq 51, 3) := by decide +kernel
theorem dX11_vote_69 : decode cX11_vote 69 = .ok (.aload_n 0, 1) := by decide +kernel
theorem dX11_vote_70 : decode cX11_vote 70 = .ok (.iload_n 1, 1) := by decide +kernel
theorem dX11_vote_71 : decode cX11_vote 71 = .ok (.iconst 4, 1) := by decide +kernel
theorem dX11_vote_72 : decode cX11_vote 72 = .ok (.iload_n 2, 1) := by decide +kernel
theorem dX11_vote_73 : decode cX11_vote 73 = .ok (.iload 4, 2) := by decide +kernel
theorem dX11_vote_75 : decode cX11_vote 75 = .ok (.bipush 10, 2) := by decide +kernel
theorem dX11_vote_77 : decode cX11_vote 77 = .ok (.iload 5, 2) := by decide +kernel
theorem dX11_vote_79 : decode cX11_vote 79 = .ok (.imul, 1) := by decide +kernel
theorem dX11_vote_80 : decode cX11_vote 80 = .ok (.iload 6, 2) := by decide +kernel
theorem dX11_vote_82 : decode cX11_vote 82 = .ok (.iadd, 1) := by decide +kernel
theorem dX11_vote_83 : decode cX11_vote 83 = .ok (.invokevirtual 194, 3) := by decide +kernel
theorem dX11_vote_86 : decode cX11_vote 86 = .ok (.ifCond .ne 5, 3) := by decide +kernel
theorem dX11_vote_89 : decode cX11_vote 89 = .ok (.iconst 0, 1) := by decide +kernel
theorem dX11_vote_90 : decode cX11_vote 90 = .ok (.ireturn, 1) := by decide +kernel
theorem dX11_vote_91 : decode cX11_vote 91 = .ok (.aload_n 0, 1) := by decide +kernel
theorem dX11_vote_92 : decode cX11_vote 92 = .ok (.getfield 51, 3) := by decide +kernel
theorem dX11_vote_95 : decode cX11_vote 95 = .ok (.iload_n 3, 1) := by decide +kernel
theorem dX11_vote_96 : decode cX11_vote 96 = .ok (.iload 4, 2) := by decide +kernel
theorem dX11_vote_98 : decode cX11_vote 98 = .ok (.iastore, 1) := by decide +kernel
theorem dX11_vote_99 : decode cX11_vote 99 = .ok (.aload_n 0, 1) := by decide +kernel
theorem dX11_vote_100 : decode cX11_vote 100 = .ok (.getfield 63, 3) := by decide +kernel
theorem dX11_vote_103 : decode cX11_vote 103 = .ok (.iload 7, 2) := by decide +kernel
theorem dX11_vote_105 : decode cX11_vote 105 = .ok (.iload 4, 2) := by decide +kernel
theorem dX11_vote_107 : decode cX11_vote 107 = .ok (.iastore, 1) := by decide +kernel
theorem dX11_vote_108 : decode cX11_vote 108 = .ok (.aload_n 0, 1) := by decide +kernel
theorem dX11_vote_109 : decode cX11_vote 109 = .ok (.getfield 66, 3) := by decide +kernel
theorem dX11_vote_112 : decode cX11_vote 112 = .ok (.iload 7, 2) := by decide +kernel
theorem dX11_vote_114 : decode cX11_vote 114 = .ok (.iload 6, 2) := by decide +kernel
theorem dX11_vote_116 : decode cX11_vote 116 = .ok (.iastore, 1) := by decide +kernel
theorem dX11_vote_117 : decode cX11_vote 117 = .ok (.aload_n 0, 1) := by decide +kernel
theorem dX11_vote_118 : decode cX11_vote 118 = .ok (.iconst 3, 1) := by decide +kernel
theorem dX11_vote_119 : decode cX11_vote 119 = .ok (.aload_n 0, 1) := by decide +kernel
theorem dX11_vote_120 : decode cX11_vote 120 = .ok (.getfield 97, 3) := by decide +kernel
theorem dX11_vote_123 : decode cX11_vote 123 = .ok (.iload 4, 2) := by decide +kernel
theorem dX11_vote_125 : decode cX11_vote 125 = .ok (.aload_n 0, 1) := by decide +kernel
theorem dX11_vote_126 : decode cX11_vote 126 = .ok (.getfield 101, 3) := by decide +kernel
theorem dX11_vote_129 : decode cX11_vote 129 = .ok (.irem, 1) := by decide +kernel
theorem dX11_vote_130 : decode cX11_vote 130 = .ok (.iadd, 1) := by decide +kernel
theorem dX11_vote_131 : decode cX11_vote 131 = .ok (.iload_n 2, 1) := by decide +kernel
theorem dX11_vote_132 : decode cX11_vote 132 = .ok (.iload 4, 2) := by decide +kernel
theorem dX11_vote_134 : decode cX11_vote 134 = .ok (.iload 5, 2) := by decide +kernel
theorem dX11_vote_136 : decode cX11_vote 136 = .ok (.iload 6, 2) := by decide +kernel
theorem dX11_vote_138 : decode cX11_vote 138 = .ok (.iload_n 1, 1) := by decide +kernel
theorem dX11_vote_139 : decode cX11_vote 139 = .ok (.invokevirtual 146, 3) := by decide +kernel
theorem dX11_vote_142 : decode cX11_vote 142 = .ok (.istore 8, 2) := by decide +kernel
theorem dX11_vote_144 : decode cX11_vote 144 = .ok (.iconst 1, 1) := by decide +kernel
theorem dX11_vote_145 : decode cX11_vote 145 = .ok (.ireturn, 1) := by decide +kernel
theorem dX11_accept_0 : decode cX11_accept 0 = .ok (.aload_n 0, 1) := by decide +kernel
theorem dX11_accept_1 : decode cX11_accept 1 = .ok (.getfield 87, 3) := by decide +kernel
theorem dX11_accept_4 : decode cX11_accept 4 = .ok (.iconst 4, 1) := by decide +kernel
theorem dX11_accept_5 : decode cX11_accept 5 = .ok (.iaload, 1) := by decide +kernel
theorem dX11_accept_6 : decode cX11_accept 6 = .ok (.istore 4, 2) := by decide +kernel
theorem dX11_accept_8 : decode cX11_accept 8 = .ok (.aload_n 0, 1) := by decide +kernel
theorem dX11_accept_9 : decode cX11_accept 9 = .ok (.getfield 54, 3) := by decide +kernel
theorem dX11_accept_12 : decode cX11_accept 12 = .ok (.iload_n 3, 1) := by decide +kernel
theorem dX11_accept_13 : decode cX11_accept 13 = .ok (.iaload, 1) := by decide +kernel
theorem dX11_accept_14 : decode cX11_accept 14 = .ok (.aload_n 0, 1) := by decide +kernel
theorem dX11_accept_15 : decode cX11_accept 15 = .ok (.getfield 87, 3) := by decide +kernel
theorem dX11_accept_18 : decode cX11_accept 18 = .ok (.iconst 3, 1) := by decide +kernel
theorem dX11_accept_19 : decode cX11_accept 19 = .ok (.iaload, 1) := by decide +kernel
theorem dX11_accept_20 : decode cX11_accept 20 = .ok (.if_icmp .ne 12, 3) := by decide +kernel
theorem dX11_accept_23 : decode cX11_accept 23 = .ok (.aload_n 0, 1) := by decide +kernel
theorem dX11_accept_24 : decode cX11_accept 24 = .ok (.getfield 57, 3) := by decide +kernel
theorem dX11_accept_27 : decode cX11_accept 27 = .ok (.iload_n 3, 1) := by decide +kernel
theorem dX11_accept_28 : decode cX11_accept 28 = .ok (.iaload, 1) := by decide +kernel
theorem dX11_accept_29 : decode cX11_accept 29 = .ok (.ifCond .eq 4, 3) := by decide +kernel
theorem dX11_accept_32 : decode cX11_accept 32 = .ok (.return_, 1) := by decide +kernel
theorem dX11_accept_33 : decode cX11_accept 33 = .ok (.iconst 1, 1) := by decide +kernel
theorem dX11_accept_34 : decode cX11_accept 34 = .ok (.aload_n 0, 1) := by decide +kernel
theorem dX11_accept_35 : decode cX11_accept 35 = .ok (.getfield 87, 3) := by decide +kernel
theorem dX11_accept_38 : decode cX11_accept 38 = .ok (.bipush 6, 2) := by decide +kernel
theorem dX11_accept_40 : decode cX11_accept 40 = .ok (.iaload, 1) := by decide +kernel
theorem dX11_accept_41 : decode cX11_accept 41 = .ok (.aload_n 0, 1) := by decide +kernel
theorem dX11_accept_42 : decode cX11_accept 42 = .ok (.getfield 97, 3) := by decide +kernel
theorem dX11_accept_45 : decode cX11_accept 45 = .ok (.isub, 1) := by decide +kernel
theorem dX11_accept_46 : decode cX11_accept 46 = .ok (.ishl, 1) := by decide +kernel
theorem dX11_accept_47 : decode cX11_accept 47 = .ok (.istore 5, 2) := by decide +kernel
theorem dX11_accept_49 : decode cX11_accept 49 = .ok (.iconst 4, 1) := by decide +kernel
theorem dX11_accept_50 : decode cX11_accept 50 = .ok (.iload_n 3, 1) := by decide +kernel
theorem dX11_accept_51 : decode cX11_accept 51 = .ok (.imul, 1) := by decide +kernel
theorem dX11_accept_52 : decode cX11_accept 52 = .ok (.iload 4, 2) := by decide +kernel
theorem dX11_accept_54 : decode cX11_accept 54 = .ok (.iadd, 1) := by decide +kernel
theorem dX11_accept_55 : decode cX11_accept 55 = .ok (.istore 6, 2) := by decide +kernel
theorem dX11_accept_57 : decode cX11_accept 57 = .ok (.aload_n 0, 1) := by decide +kernel
theorem dX11_accept_58 : decode cX11_accept 58 = .ok (.getfield 69, 3) := by decide +kernel
theorem dX11_accept_61 : decode cX11_accept 61 = .ok (.iload 6, 2) := by decide +kernel
theorem dX11_accept_63 : decode cX11_accept 63 = .ok (.iaload, 1) := by decide +kernel
theorem dX11_accept_64 : decode cX11_accept 64 = .ok (.aload_n 0, 1) := by decide +kernel
theorem dX11_accept_65 : decode cX11_accept 65 = .ok (.getfield 72, 3) := by decide +kernel
theorem dX11_accept_68 : decode cX11_accept 68 = .ok (.iload 6, 2) := by decide +kernel
theorem dX11_accept_70 : decode cX11_accept 70 = .ok (.iaload, 1) := by decide +kernel
theorem dX11_accept_71 : decode cX11_accept 71 = .ok (.ior, 1) := by decide +kernel
theorem dX11_accept_72 : decode cX11_accept 72 = .ok (.iload 5, 2) := by decide +kernel
theorem dX11_accept_74 : decode cX11_accept 74 = .ok (.iand, 1) := by decide +kernel
theorem dX11_accept_75 : decode cX11_accept 75 = .ok (.ifCond .ne 55, 3) := by decide +kernel
theorem dX11_accept_78 : decode cX11_accept 78 = .ok (.aload_n 0, 1) := by decide +kernel
theorem dX11_accept_79 : decode cX11_accept 79 = .ok (.getfield 69, 3) := by decide +kernel
theorem dX11_accept_82 : decode cX11_accept 82 = .ok (.iload 6, 2) := by decide +kernel
