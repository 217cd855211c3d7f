theorem dX0_init_0 : decode cX0_init 0 = .ok (.aload_n 0, 1) := by decide +kernel
theorem dX0_init_1 : decode cX0_init 1 = .ok (.aload_n 2, 1) := by decide +kernel
theorem dX0_init_2 : decode cX0_init 2 = .ok (.getfield 3, 3) := by decide +kernel
theorem dX0_init_5 : decode cX0_init 5 = .ok (.iload_n 1, 1) := by decide +kernel
theorem dX0_init_6 : decode cX0_init 6 = .ok (.iadd, 1) := by decide +kernel
theorem dX0_init_7 : decode cX0_init 7 = .ok (.aload_n 2, 1) := by decide +kernel
theorem dX0_init_8 : decode cX0_init 8 = .ok (.aload 4, 2) := by decide +kernel
theorem dX0_init_10 : decode cX0_init 10 = .ok (.invokespecial 9, 3) := by decide +kernel
theorem dX0_init_13 : decode cX0_init 13 = .ok (.aload_n 0, 1) := by decide +kernel
theorem dX0_init_14 : decode cX0_init 14 = .ok (.iload_n 1, 1) := by decide +kernel
theorem dX0_init_15 : decode cX0_init 15 = .ok (.putfield 15, 3) := by decide +kernel
theorem dX0_init_18 : decode cX0_init 18 = .ok (.aload_n 0, 1) := by decide +kernel
theorem dX0_init_19 : decode cX0_init 19 = .ok (.aload_n 3, 1) := by decide +kernel
theorem dX0_init_20 : decode cX0_init 20 = .ok (.putfield 20, 3) := by decide +kernel
theorem dX0_init_23 : decode cX0_init 23 = .ok (.aload_n 0, 1) := by decide +kernel
theorem dX0_init_24 : decode cX0_init 24 = .ok (.aload_n 2, 1) := by decide +kernel
theorem dX0_init_25 : decode cX0_init 25 = .ok (.getfield 24, 3) := by decide +kernel
theorem dX0_init_28 : decode cX0_init 28 = .ok (.anewarray 26, 3) := by decide +kernel
theorem dX0_init_31 : decode cX0_init 31 = .ok (.putfield 28, 3) := by decide +kernel
theorem dX0_init_34 : decode cX0_init 34 = .ok (.iconst 0, 1) := by decide +kernel
theorem dX0_init_35 : decode cX0_init 35 = .ok (.istore 5, 2) := by decide +kernel
theorem dX0_init_37 : decode cX0_init 37 = .ok (.iload 5, 2) := by decide +kernel
theorem dX0_init_39 : decode cX0_init 39 = .ok (.aload_n 0, 1) := by decide +kernel
theorem dX0_init_40 : decode cX0_init 40 = .ok (.getfield 28, 3) := by decide +kernel
theorem dX0_init_43 : decode cX0_init 43 = .ok (.arraylength, 1) := by decide +kernel
theorem dX0_init_44 : decode cX0_init 44 = .ok (.if_icmp .ge 36, 3) := by decide +kernel
theorem dX0_init_47 : decode cX0_init 47 = .ok (.aload_n 0, 1) := by decide +kernel
theorem dX0_init_48 : decode cX0_init 48 = .ok (.getfield 28, 3) := by decide +kernel
theorem dX0_init_51 : decode cX0_init 51 = .ok (.iload 5, 2) := by decide +kernel
theorem dX0_init_53 : decode cX0_init 53 = .ok (.new 26, 3) := by decide +kernel
theorem dX0_init_56 : decode cX0_init 56 = .ok (.dup, 1) := by decide +kernel
theorem dX0_init_57 : decode cX0_init 57 = .ok (.iload_n 1, 1) := by decide +kernel
theorem dX0_init_58 : decode cX0_init 58 = .ok (.ifCond .ne 7, 3) := by decide +kernel
theorem dX0_init_61 : decode cX0_init 61 = .ok (.iconst 0, 1) := by decide +kernel
theorem dX0_init_62 : decode cX0_init 62 = .ok (.goto 4, 3) := by decide +kernel
theorem dX0_init_65 : decode cX0_init 65 = .ok (.iconst (-1), 1) := by decide +kernel
theorem dX0_init_66 : decode cX0_init 66 = .ok (.aload_n 2, 1) := by decide +kernel
theorem dX0_init_67 : decode cX0_init 67 = .ok (.getfield 3, 3) := by decide +kernel
theorem dX0_init_70 : decode cX0_init 70 = .ok (.invokespecial 32, 3) := by decide +kernel
theorem dX0_init_73 : decode cX0_init 73 = .ok (.aastore, 1) := by decide +kernel
theorem dX0_init_74 : decode cX0_init 74 = .ok (.iinc 5 1, 3) := by decide +kernel
theorem dX0_init_77 : decode cX0_init 77 = .ok (.goto (-40), 3) := by decide +kernel
theorem dX0_init_80 : decode cX0_init 80 = .ok (.return_, 1) := by decide +kernel
theorem dX0_hear_0 : decode cX0_hear 0 = .ok (.aload_n 0, 1) := by decide +kernel
theorem dX0_hear_1 : decode cX0_hear 1 = .ok (.getfield 28, 3) := by decide +kernel
theorem dX0_hear_4 : decode cX0_hear 4 = .ok (.aload_n 1, 1) := by decide +kernel
theorem dX0_hear_5 : decode cX0_hear 5 = .ok (.getfield 35, 3) := by decide +kernel
theorem dX0_hear_8 : decode cX0_hear 8 = .ok (.aaload, 1) := by decide +kernel
theorem dX0_hear_9 : decode cX0_hear 9 = .ok (.astore_n 2, 1) := by decide +kernel
theorem dX0_hear_10 : decode cX0_hear 10 = .ok (.aload_n 1, 1) := by decide +kernel
theorem dX0_hear_11 : decode cX0_hear 11 = .ok (.getfield 40, 3) := by decide +kernel
theorem dX0_hear_14 : decode cX0_hear 14 = .ok (.tableswitch 60 2 5 #[30, 37, 45, 52], 30) := by decide +kernel
theorem dX0_hear_44 : decode cX0_hear 44 = .ok (.aload_n 0, 1) := by decide +kernel
theorem dX0_hear_45 : decode cX0_hear 45 = .ok (.aload_n 1, 1) := by decide +kernel
theorem dX0_hear_46 : decode cX0_hear 46 = .ok (.aload_n 2, 1) := by decide +kernel
theorem dX0_hear_47 : decode cX0_hear 47 = .ok (.invokevirtual 43, 3) := by decide +kernel
theorem dX0_hear_50 : decode cX0_hear 50 = .ok (.ireturn, 1) := by decide +kernel
theorem dX0_hear_51 : decode cX0_hear 51 = .ok (.aload_n 0, 1) := by decide +kernel
theorem dX0_hear_52 : decode cX0_hear 52 = .ok (.aload_n 1, 1) := by decide +kernel
theorem dX0_hear_53 : decode cX0_hear 53 = .ok (.aload_n 2, 1) := by decide +kernel
theorem dX0_hear_54 : decode cX0_hear 54 = .ok (.invokevirtual 47, 3) := by decide +kernel
theorem dX0_hear_57 : decode cX0_hear 57 = .ok (.iconst 1, 1) := by decide +kernel
theorem dX0_hear_58 : decode cX0_hear 58 = .ok (.ireturn, 1) := by decide +kernel
theorem dX0_hear_59 : decode cX0_hear 59 = .ok (.aload_n 0, 1) := by decide +kernel
theorem dX0_hear_60 : decode cX0_hear 60 = .ok (.aload_n 1, 1) := by decide +kernel
theorem dX0_hear_61 : decode cX0_hear 61 = .ok (.aload_n 2, 1) := by decide +kernel
theorem dX0_hear_62 : decode cX0_hear 62 = .ok (.invokevirtual 51, 3) := by decide +kernel
theorem dX0_hear_65 : decode cX0_hear 65 = .ok (.ireturn, 1) := by decide +kernel
theorem dX0_hear_66 : decode cX0_hear 66 = .ok (.aload_n 0, 1) := by decide +kernel
theorem dX0_hear_67 : decode cX0_hear 67 = .ok (.aload_n 1, 1) := by decide +kernel
theorem dX0_hear_68 : decode cX0_hear 68 = .ok (.aload_n 2, 1) := by decide +kernel
theorem dX0_hear_69 : decode cX0_hear 69 = .ok (.invokevirtual 54, 3) := by decide +kernel
theorem dX0_hear_72 : decode cX0_hear 72 = .ok (.iconst 1, 1) := by decide +kernel
theorem dX0_hear_73 : decode cX0_hear 73 = .ok (.ireturn, 1) := by decide +kernel
theorem dX0_hear_74 : decode cX0_hear 74 = .ok (.iconst 1, 1) := by decide +kernel
theorem dX0_hear_75 : decode cX0_hear 75 = .ok (.ireturn, 1) := by decide +kernel
theorem dX0_hearVote_0 : decode cX0_hearVote 0 = .ok (.aload_n 1, 1) := by decide +kernel
theorem dX0_hearVote_1 : decode cX0_hearVote 1 = .ok (.getfield 57, 3) := by decide +kernel
theorem dX0_hearVote_4 : decode cX0_hearVote 4 = .ok (.aload_n 2, 1) := by decide +kernel
theorem dX0_hearVote_5 : decode cX0_hearVote 5 = .ok (.getfield 60, 3) := by decide +kernel
theorem dX0_hearVote_8 : decode cX0_hearVote 8 = .ok (.if_icmp .ge 5, 3) := by decide +kernel
theorem dX0_hearVote_11 : decode cX0_hearVote 11 = .ok (.iconst 1, 1) := by decide +kernel
theorem dX0_hearVote_12 : decode cX0_hearVote 12 = .ok (.ireturn, 1) := by decide +kernel
theorem dX0_hearVote_13 : decode cX0_hearVote 13 = .ok (.aload_n 2, 1) := by decide +kernel
theorem dX0_hearVote_14 : decode cX0_hearVote 14 = .ok (.aload_n 1, 1) := by decide +kernel
theorem dX0_hearVote_15 : decode cX0_hearVote 15 = .ok (.getfield 57, 3) := by decide +kernel
theorem dX0_hearVote_18 : decode cX0_hearVote 18 = .ok (.aload_n 1, 1) := by decide +kernel
theorem dX0_hearVote_19 : decode cX0_hearVote 19 = .ok (.getfield 63, 3) := by decide +kernel
theorem dX0_hearVote_22 : decode cX0_hearVote 22 = .ok (.aload_n 1, 1) := by decide +kernel
theorem dX0_hearVote_23 : decode cX0_hearVote 23 = .ok (.getfield 66, 3) := by decide +kernel
theorem dX0_hearVote_26 : decode cX0_hearVote 26 = .ok (.invokevirtual 69, 3) := by decide +kernel
theorem dX0_hearVote_29 : decode cX0_hearVote 29 = .ok (.ifCond .ne 59, 3) := by decide +kernel
theorem dX0_hearVote_32 : decode cX0_hearVote 32 = .ok (.aload_n 0, 1) := by decide +kernel
theorem dX0_hearVote_33 : decode cX0_hearVote 33 = .ok (.getfield 73, 3) := by decide +kernel
theorem dX0_hearVote_36 : decode cX0_hearVote 36 = .ok (.invokevirtual 77, 3) := by decide +kernel
theorem dX0_hearVote_39 : decode cX0_hearVote 39 = .ok (.ifCond .eq 5, 3) := by decide +kernel
theorem dX0_hearVote_42 : decode cX0_hearVote 42 = .ok (.iconst 0, 1) := by decide +kernel
theorem dX0_hearVote_43 : decode cX0_hearVote 43 = .ok (.ireturn, 1) := by decide +kernel
theorem dX0_hearVote_44 : decode cX0_hearVote 44 = .ok (.aload_n 0, 1) := by decide +kernel
theorem dX0_hearVote_45 : decode cX0_hearVote 45 = .ok (.getfield 73, 3) := by decide +kernel
theorem dX0_hearVote_48 : decode cX0_hearVote 48 = .ok (.iconst 4, 1) := by decide +kernel
theorem dX0_hearVote_49 : decode cX0_hearVote 49 = .ok (.aload_n 1, 1) := by decide +kernel
theorem dX0_hearVote_50 : decode cX0_hearVote 50 = .ok (.getfield 35, 3) := by decide +kernel
theorem dX0_hearVote_53 : decode cX0_hearVote 53 = .ok (.aload_n 1, 1) := by decide +kernel
theorem dX0_hearVote_54 : decode cX0_hearVote 54 = .ok (.getfield 57, 3) := by decide +kernel
theorem dX0_hearVote_57 : decode cX0_hearVote 57 = .ok (.bipush 10, 2) := by decide +kernel
theorem dX0_hearVote_59 : decode cX0_hearVote 59 = .ok (.aload_n 1, 1) := by decide +kernel
theorem dX0_hearVote_60 : decode cX0_hearVote 60 = .ok (.getfield 63, 3) := by decide +kernel
theorem dX0_hearVote_63 : decode cX0_hearVote 63 = .ok (.imul, 1) := by decide +kernel
theorem dX0_hearVote_64 : decode cX0_hearVote 64 = .ok (.aload_n 1, 1) := by decide +kernel
theorem dX0_hearVote_65 : decode cX0_hearVote 65 = .ok (.getfield 66, 3) := by decide +kernel
theorem dX0_hearVote_68 : decode cX0_hearVote 68 = .ok (.iadd, 1) := by decide +kernel
theorem dX0_hearVote_69 : decode cX0_hearVote 69 = .ok (.invokevirtual 83, 3) := by decide +kernel
theorem dX0_hearVote_72 : decode cX0_hearVote 72 = .ok (.aload_n 2, 1) := by decide +kernel
theorem dX0_hearVote_73 : decode cX0_hearVote 73 = .ok (.aload_n 1, 1) := by decide +kernel
theorem dX0_hearVote_74 : decode cX0_hearVote 74 = .ok (.getfield 57, 3) := by decide +kernel
theorem dX0_hearVote_77 : decode cX0_hearVote 77 = .ok (.aload_n 1, 1) := by decide +kernel
theorem dX0_hearVote_78 : decode cX0_hearVote 78 = .ok (.getfield 63, 3) := by decide +kernel
theorem dX0_hearVote_81 : decode cX0_hearVote 81 = .ok (.aload_n 1, 1) := by decide +kernel
theorem dX0_hearVote_82 : decode cX0_hearVote 82 = .ok (.getfield 66, 3) := by decide +kernel
theorem dX0_hearVote_85 : decode cX0_hearVote 85 = .ok (.invokevirtual 87, 3) := by decide +kernel
theorem dX0_hearVote_88 : decode cX0_hearVote 88 = .ok (.aload_n 0, 1) := by decide +kernel
theorem dX0_hearVote_89 : decode cX0_hearVote 89 = .ok (.getfield 91, 3) := by decide +kernel
theorem dX0_hearVote_92 : decode cX0_hearVote 92 = .ok (.iconst 3, 1) := by decide +kernel
theorem dX0_hearVote_93 : decode cX0_hearVote 93 = .ok (.aload_n 1, 1) := by decide +kernel
theorem dX0_hearVote_94 : decode cX0_hearVote 94 = .ok (.getfield 35, 3) := by decide +kernel
theorem dX0_hearVote_97 : decode cX0_hearVote 97 = .ok (.aload_n 0, 1) := by decide +kernel
theorem dX0_hearVote_98 : decode cX0_hearVote 98 = .ok (.getfield 95, 3) := by decide +kernel
theorem dX0_hearVote_101 : decode cX0_hearVote 101 = .ok (.aload_n 1, 1) := by decide +kernel
theorem dX0_hearVote_102 : decode cX0_hearVote 102 = .ok (.getfield 57, 3) := by decide +kernel
theorem dX0_hearVote_105 : decode cX0_hearVote 105 = .ok (.aload_n 1, 1) := by decide +kernel
theorem dX0_hearVote_106 : decode cX0_hearVote 106 = .ok (.getfield 63, 3) := by decide +kernel
theorem dX0_hearVote_109 : decode cX0_hearVote 109 = .ok (.aload_n 1, 1) := by decide +kernel
theorem dX0_hearVote_110 : decode cX0_hearVote 110 = .ok (.getfield 66, 3) := by decide +kernel
theorem dX0_hearVote_113 : decode cX0_hearVote 113 = .ok (.invokevirtual 98, 3) := by decide +kernel
theorem dX0_hearVote_116 : decode cX0_hearVote 116 = .ok (.aload_n 0, 1) := by decide +kernel
theorem dX0_hearVote_117 : decode cX0_hearVote 117 = .ok (.getfield 91, 3) := by decide +kernel
theorem dX0_hearVote_120 : decode cX0_hearVote 120 = .ok (.aload_n 0, 1) := by decide +kernel
theorem dX0_hearVote_121 : decode cX0_hearVote 121 = .ok (.getfield 91, 3) := by decide +kernel
theorem dX0_hearVote_124 : decode cX0_hearVote 124 = .ok (.getfield 104, 3) := by decide +kernel
theorem dX0_hearVote_127 : decode cX0_hearVote 127 = .ok (.aload_n 0, 1) := by decide +kernel
theorem dX0_hearVote_128 : decode cX0_hearVote 128 = .ok (.getfield 108, 3) := by decide +kernel
theorem dX0_hearVote_131 : decode cX0_hearVote 131 = .ok (.aload_n 1, 1) := by decide +kernel
theorem dX0_hearVote_132 : decode cX0_hearVote 132 = .ok (.getfield 57, 3) := by decide +kernel
theorem dX0_hearVote_135 : decode cX0_hearVote 135 = .ok (.invokevirtual 112, 3) := by decide +kernel
theorem dX0_hearVote_138 : decode cX0_hearVote 138 = .ok (.invokevirtual 116, 3) := by decide +kernel
theorem dX0_hearVote_141 : decode cX0_hearVote 141 = .ok (.pop, 1) := by decide +kernel
theorem dX0_hearVote_142 : decode cX0_hearVote 142 = .ok (.iconst 1, 1) := by decide +kernel
theorem dX0_hearVote_143 : decode cX0_hearVote 143 = .ok (.ireturn, 1) := by decide +kernel
theorem dX0_hearAccepted_0 : decode cX0_hearAccepted 0 = .ok (.aload_n 2, 1) := by decide +kernel
theorem dX0_hearAccepted_1 : decode cX0_hearAccepted 1 = .ok (.aload_n 1, 1) := by decide +kernel
theorem dX0_hearAccepted_2 : decode cX0_hearAccepted 2 = .ok (.getfield 57, 3) := by decide +kernel
theorem dX0_hearAccepted_5 : decode cX0_hearAccepted 5 = .ok (.invokevirtual 120, 3) := by decide +kernel
theorem dX0_hearAccepted_8 : decode cX0_hearAccepted 8 = .ok (.ifCond .ne 4, 3) := by decide +kernel
theorem dX0_hearAccepted_11 : decode cX0_hearAccepted 11 = .ok (.return_, 1) := by decide +kernel
theorem dX0_hearAccepted_12 : decode cX0_hearAccepted 12 = .ok (.aload_n 2, 1) := by decide +kernel
theorem dX0_hearAccepted_13 : decode cX0_hearAccepted 13 = .ok (.aload_n 1, 1) := by decide +kernel
theorem dX0_hearAccepted_14 : decode cX0_hearAccepted 14 = .ok (.getfield 63, 3) := by decide +kernel
theorem dX0_hearAccepted_17 : decode cX0_hearAccepted 17 = .ok (.aload_n 1, 1) := by decide +kernel
theorem dX0_hearAccepted_18 : decode cX0_hearAccepted 18 = .ok (.getfield 66, 3) := by decide +kernel
theorem dX0_hearAccepted_21 : decode cX0_hearAccepted 21 = .ok (.aload_n 0, 1) := by decide +kernel
theorem dX0_hearAccepted_22 : decode cX0_hearAccepted 22 = .ok (.aload_n 1, 1) := by decide +kernel
theorem dX0_hearAccepted_23 : decode cX0_hearAccepted 23 = .ok (.getfield 124, 3) := by decide +kernel
theorem dX0_hearAccepted_26 : decode cX0_hearAccepted 26 = .ok (.invokevirtual 127, 3) := by decide +kernel
theorem dX0_hearAccepted_29 : decode cX0_hearAccepted 29 = .ok (.invokevirtual 130, 3) := by decide +kernel
theorem dX0_hearAccepted_32 : decode cX0_hearAccepted 32 = .ok (.aload_n 0, 1) := by decide +kernel
theorem dX0_hearAccepted_33 : decode cX0_hearAccepted 33 = .ok (.aload_n 1, 1) := by decide +kernel
theorem dX0_hearAccepted_34 : decode cX0_hearAccepted 34 = .ok (.getfield 35, 3) := by decide +kernel
theorem dX0_hearAccepted_37 : decode cX0_hearAccepted 37 = .ok (.aload_n 2, 1) := by decide +kernel
theorem dX0_hearAccepted_38 : decode cX0_hearAccepted 38 = .ok (.invokevirtual 133, 3) := by decide +kernel
theorem dX0_hearAccepted_41 : decode cX0_hearAccepted 41 = .ok (.istore_n 3, 1) := by decide +kernel
theorem dX0_hearAccepted_42 : decode cX0_hearAccepted 42 = .ok (.iload_n 3, 1) := by decide +kernel
theorem dX0_hearAccepted_43 : decode cX0_hearAccepted 43 = .ok (.ifCond .eq 17, 3) := by decide +kernel
theorem dX0_hearAccepted_46 : decode cX0_hearAccepted 46 = .ok (.aload_n 2, 1) := by decide +kernel
theorem dX0_hearAccepted_47 : decode cX0_hearAccepted 47 = .ok (.iload_n 3, 1) := by decide +kernel
theorem dX0_hearAccepted_48 : decode cX0_hearAccepted 48 = .ok (.putfield 137, 3) := by decide +kernel
theorem dX0_hearAccepted_51 : decode cX0_hearAccepted 51 = .ok (.aload_n 0, 1) := by decide +kernel
theorem dX0_hearAccepted_52 : decode cX0_hearAccepted 52 = .ok (.aload_n 1, 1) := by decide +kernel
theorem dX0_hearAccepted_53 : decode cX0_hearAccepted 53 = .ok (.getfield 35, 3) := by decide +kernel
theorem dX0_hearAccepted_56 : decode cX0_hearAccepted 56 = .ok (.iload_n 3, 1) := by decide +kernel
theorem dX0_hearAccepted_57 : decode cX0_hearAccepted 57 = .ok (.invokevirtual 140, 3) := by decide +kernel
theorem dX0_hearAccepted_60 : decode cX0_hearAccepted 60 = .ok (.return_, 1) := by decide +kernel
theorem dX0_endOf_0 : decode cX0_endOf 0 = .ok (.iconst 1, 1) := by decide +kernel
theorem dX0_endOf_1 : decode cX0_endOf 1 = .ok (.istore_n 3, 1) := by decide +kernel
theorem dX0_endOf_2 : decode cX0_endOf 2 = .ok (.iconst 0, 1) := by decide +kernel
theorem dX0_endOf_3 : decode cX0_endOf 3 = .ok (.istore 4, 2) := by decide +kernel
theorem dX0_endOf_5 : decode cX0_endOf 5 = .ok (.iload 4, 2) := by decide +kernel
theorem dX0_endOf_7 : decode cX0_endOf 7 = .ok (.aload_n 0, 1) := by decide +kernel
theorem dX0_endOf_8 : decode cX0_endOf 8 = .ok (.getfield 108, 3) := by decide +kernel
theorem dX0_endOf_11 : decode cX0_endOf 11 = .ok (.getfield 3, 3) := by decide +kernel
theorem dX0_endOf_14 : decode cX0_endOf 14 = .ok (.if_icmp .ge 68, 3) := by decide +kernel
theorem dX0_endOf_17 : decode cX0_endOf 17 = .ok (.aload_n 0, 1) := by decide +kernel
theorem dX0_endOf_18 : decode cX0_endOf 18 = .ok (.getfield 20, 3) := by decide +kernel
theorem dX0_endOf_21 : decode cX0_endOf 21 = .ok (.iload_n 1, 1) := by decide +kernel
theorem dX0_endOf_22 : decode cX0_endOf 22 = .ok (.iload 4, 2) := by decide +kernel
theorem dX0_endOf_24 : decode cX0_endOf 24 = .ok (.invokevirtual 143, 3) := by decide +kernel
theorem dX0_endOf_27 : decode cX0_endOf 27 = .ok (.ifCond .eq 49, 3) := by decide +kernel
theorem dX0_endOf_30 : decode cX0_endOf 30 = .ok (.aload_n 0, 1) := by decide +kernel
theorem dX0_endOf_31 : decode cX0_endOf 31 = .ok (.getfield 108, 3) := by decide +kernel
theorem dX0_endOf_34 : decode cX0_endOf 34 = .ok (.aload_n 2, 1) := by decide +kernel
theorem dX0_endOf_35 : decode cX0_endOf 35 = .ok (.getfield 149, 3) := by decide +kernel
theorem dX0_endOf_38 : decode cX0_endOf 38 = .ok (.iload 4, 2) := by decide +kernel
theorem dX0_endOf_40 : decode cX0_endOf 40 = .ok (.iaload, 1) := by decide +kernel
theorem dX0_endOf_41 : decode cX0_endOf 41 = .ok (.invokevirtual 153, 3) := by decide +kernel
theorem dX0_endOf_44 : decode cX0_endOf 44 = .ok (.ifCond .eq 5, 3) := by decide +kernel
theorem dX0_endOf_47 : decode cX0_endOf 47 = .ok (.iconst 4, 1) := by decide +kernel
theorem dX0_endOf_48 : decode cX0_endOf 48 = .ok (.ireturn, 1) := by decide +kernel
theorem dX0_endOf_49 : decode cX0_endOf 49 = .ok (.iload_n 3, 1) := by decide +kernel
theorem dX0_endOf_50 : decode cX0_endOf 50 = .ok (.ifCond .eq 24, 3) := by decide +kernel
theorem dX0_endOf_53 : decode cX0_endOf 53 = .ok (.aload_n 0, 1) := by decide +kernel
theorem dX0_endOf_54 : decode cX0_endOf 54 = .ok (.getfield 108, 3) := by decide +kernel
theorem dX0_endOf_57 : decode cX0_endOf 57 = .ok (.aload_n 2, 1) := by decide +kernel
theorem dX0_endOf_58 : decode cX0_endOf 58 = .ok (.getfield 156, 3) := by decide +kernel
theorem dX0_endOf_61 : decode cX0_endOf 61 = .ok (.iload 4, 2) := by decide +kernel
theorem dX0_endOf_63 : decode cX0_endOf 63 = .ok (.iaload, 1) := by decide +kernel
theorem dX0_endOf_64 : decode cX0_endOf 64 = .ok (.invokevirtual 153, 3) := by decide +kernel
theorem dX0_endOf_67 : decode cX0_endOf 67 = .ok (.ifCond .eq 7, 3) := by decide +kernel
theorem dX0_endOf_70 : decode cX0_endOf 70 = .ok (.iconst 1, 1) := by decide +kernel
theorem dX0_endOf_71 : decode cX0_endOf 71 = .ok (.goto 4, 3) := by decide +kernel
theorem dX0_endOf_74 : decode cX0_endOf 74 = .ok (.iconst 0, 1) := by decide +kernel
theorem dX0_endOf_75 : decode cX0_endOf 75 = .ok (.istore_n 3, 1) := by decide +kernel
theorem dX0_endOf_76 : decode cX0_endOf 76 = .ok (.iinc 4 1, 3) := by decide +kernel
theorem dX0_endOf_79 : decode cX0_endOf 79 = .ok (.goto (-74), 3) := by decide +kernel
theorem dX0_endOf_82 : decode cX0_endOf 82 = .ok (.iload_n 3, 1) := by decide +kernel
theorem dX0_endOf_83 : decode cX0_endOf 83 = .ok (.ifCond .eq 7, 3) := by decide +kernel
theorem dX0_endOf_86 : decode cX0_endOf 86 = .ok (.iconst 3, 1) := by decide +kernel
theorem dX0_endOf_87 : decode cX0_endOf 87 = .ok (.goto 4, 3) := by decide +kernel
theorem dX0_endOf_90 : decode cX0_endOf 90 = .ok (.iconst 0, 1) := by decide +kernel
theorem dX0_endOf_91 : decode cX0_endOf 91 = .ok (.ireturn, 1) := by decide +kernel
theorem dX0_postEnd_0 : decode cX0_postEnd 0 = .ok (.aload_n 0, 1) := by decide +kernel
theorem dX0_postEnd_1 : decode cX0_postEnd 1 = .ok (.getfield 91, 3) := by decide +kernel
theorem dX0_postEnd_4 : decode cX0_postEnd 4 = .ok (.bipush 6, 2) := by decide +kernel
theorem dX0_postEnd_6 : decode cX0_postEnd 6 = .ok (.iload_n 1, 1) := by decide +kernel
theorem dX0_postEnd_7 : decode cX0_postEnd 7 = .ok (.aload_n 0, 1) := by decide +kernel
theorem dX0_postEnd_8 : decode cX0_postEnd 8 = .ok (.getfield 95, 3) := by decide +kernel
theorem dX0_postEnd_11 : decode cX0_postEnd 11 = .ok (.invokevirtual 159, 3) := by decide +kernel
theorem dX0_postEnd_14 : decode cX0_postEnd 14 = .ok (.aload_n 0, 1) := by decide +kernel
theorem dX0_postEnd_15 : decode cX0_postEnd 15 = .ok (.getfield 91, 3) := by decide +kernel
theorem dX0_postEnd_18 : decode cX0_postEnd 18 = .ok (.getfield 104, 3) := by decide +kernel
theorem dX0_postEnd_21 : decode cX0_postEnd 21 = .ok (.iload_n 2, 1) := by decide +kernel
theorem dX0_postEnd_22 : decode cX0_postEnd 22 = .ok (.putfield 66, 3) := by decide +kernel
theorem dX0_postEnd_25 : decode cX0_postEnd 25 = .ok (.iconst 0, 1) := by decide +kernel
theorem dX0_postEnd_26 : decode cX0_postEnd 26 = .ok (.istore_n 3, 1) := by decide +kernel
theorem dX0_postEnd_27 : decode cX0_postEnd 27 = .ok (.iload_n 3, 1) := by decide +kernel
theorem dX0_postEnd_28 : decode cX0_postEnd 28 = .ok (.aload_n 0, 1) := by decide +kernel
theorem dX0_postEnd_29 : decode cX0_postEnd 29 = .ok (.getfield 108, 3) := by decide +kernel
theorem dX0_postEnd_32 : decode cX0_postEnd 32 = .ok (.getfield 3, 3) := by decide +kernel
theorem dX0_postEnd_35 : decode cX0_postEnd 35 = .ok (.if_icmp .ge 37, 3) := by decide +kernel
theorem dX0_postEnd_38 : decode cX0_postEnd 38 = .ok (.aload_n 0, 1) := by decide +kernel
theorem dX0_postEnd_39 : decode cX0_postEnd 39 = .ok (.getfield 20, 3) := by decide +kernel
theorem dX0_postEnd_42 : decode cX0_postEnd 42 = .ok (.iload_n 1, 1) := by decide +kernel
theorem dX0_postEnd_43 : decode cX0_postEnd 43 = .ok (.iload_n 3, 1) := by decide +kernel
theorem dX0_postEnd_44 : decode cX0_postEnd 44 = .ok (.invokevirtual 143, 3) := by decide +kernel
theorem dX0_postEnd_47 : decode cX0_postEnd 47 = .ok (.ifCond .eq 19, 3) := by decide +kernel
theorem dX0_postEnd_50 : decode cX0_postEnd 50 = .ok (.aload_n 0, 1) := by decide +kernel
theorem dX0_postEnd_51 : decode cX0_postEnd 51 = .ok (.getfield 91, 3) := by decide +kernel
theorem dX0_postEnd_54 : decode cX0_postEnd 54 = .ok (.aload_n 0, 1) := by decide +kernel
theorem dX0_postEnd_55 : decode cX0_postEnd 55 = .ok (.getfield 91, 3) := by decide +kernel
theorem dX0_postEnd_58 : decode cX0_postEnd 58 = .ok (.getfield 104, 3) := by decide +kernel
theorem dX0_postEnd_61 : decode cX0_postEnd 61 = .ok (.iload_n 3, 1) := by decide +kernel
theorem dX0_postEnd_62 : decode cX0_postEnd 62 = .ok (.invokevirtual 116, 3) := by decide +kernel
theorem dX0_postEnd_65 : decode cX0_postEnd 65 = .ok (.pop, 1) := by decide +kernel
theorem dX0_postEnd_66 : decode cX0_postEnd 66 = .ok (.iinc 3 1, 3) := by decide +kernel
theorem dX0_postEnd_69 : decode cX0_postEnd 69 = .ok (.goto (-42), 3) := by decide +kernel
theorem dX0_postEnd_72 : decode cX0_postEnd 72 = .ok (.aload_n 0, 1) := by decide +kernel
theorem dX0_postEnd_73 : decode cX0_postEnd 73 = .ok (.getfield 91, 3) := by decide +kernel
theorem dX0_postEnd_76 : decode cX0_postEnd 76 = .ok (.aload_n 0, 1) := by decide +kernel
theorem dX0_postEnd_77 : decode cX0_postEnd 77 = .ok (.getfield 91, 3) := by decide +kernel
theorem dX0_postEnd_80 : decode cX0_postEnd 80 = .ok (.getfield 104, 3) := by decide +kernel
theorem dX0_postEnd_83 : decode cX0_postEnd 83 = .ok (.aload_n 0, 1) := by decide +kernel
theorem dX0_postEnd_84 : decode cX0_postEnd 84 = .ok (.getfield 108, 3) := by decide +kernel
theorem dX0_postEnd_87 : decode cX0_postEnd 87 = .ok (.invokevirtual 162, 3) := by decide +kernel
theorem dX0_postEnd_90 : decode cX0_postEnd 90 = .ok (.invokevirtual 116, 3) := by decide +kernel
theorem dX0_postEnd_93 : decode cX0_postEnd 93 = .ok (.pop, 1) := by decide +kernel
theorem dX0_postEnd_94 : decode cX0_postEnd 94 = .ok (.return_, 1) := by decide +kernel
theorem dX0_hearAsk_0 : decode cX0_hearAsk 0 = .ok (.aload_n 1, 1) := by decide +kernel
theorem dX0_hearAsk_1 : decode cX0_hearAsk 1 = .ok (.getfield 57, 3) := by decide +kernel
theorem dX0_hearAsk_4 : decode cX0_hearAsk 4 = .ok (.aload_n 2, 1) := by decide +kernel
theorem dX0_hearAsk_5 : decode cX0_hearAsk 5 = .ok (.getfield 60, 3) := by decide +kernel
theorem dX0_hearAsk_8 : decode cX0_hearAsk 8 = .ok (.if_icmp .ge 5, 3) := by decide +kernel
theorem dX0_hearAsk_11 : decode cX0_hearAsk 11 = .ok (.iconst 1, 1) := by decide +kernel
theorem dX0_hearAsk_12 : decode cX0_hearAsk 12 = .ok (.ireturn, 1) := by decide +kernel
theorem dX0_hearAsk_13 : decode cX0_hearAsk 13 = .ok (.aload_n 1, 1) := by decide +kernel
theorem dX0_hearAsk_14 : decode cX0_hearAsk 14 = .ok (.getfield 57, 3) := by decide +kernel
theorem dX0_hearAsk_17 : decode cX0_hearAsk 17 = .ok (.aload_n 2, 1) := by decide +kernel
theorem dX0_hearAsk_18 : decode cX0_hearAsk 18 = .ok (.getfield 60, 3) := by decide +kernel
theorem dX0_hearAsk_21 : decode cX0_hearAsk 21 = .ok (.if_icmp .le 27, 3) := by decide +kernel
theorem dX0_hearAsk_24 : decode cX0_hearAsk 24 = .ok (.aload_n 0, 1) := by decide +kernel
theorem dX0_hearAsk_25 : decode cX0_hearAsk 25 = .ok (.getfield 73, 3) := by decide +kernel
theorem dX0_hearAsk_28 : decode cX0_hearAsk 28 = .ok (.invokevirtual 77, 3) := by decide +kernel
theorem dX0_hearAsk_31 : decode cX0_hearAsk 31 = .ok (.ifCond .eq 5, 3) := by decide +kernel
theorem dX0_hearAsk_34 : decode cX0_hearAsk 34 = .ok (.iconst 0, 1) := by decide +kernel
theorem dX0_hearAsk_35 : decode cX0_hearAsk 35 = .ok (.ireturn, 1) := by decide +kernel
theorem dX0_hearAsk_36 : decode cX0_hearAsk 36 = .ok (.aload_n 0, 1) := by decide +kernel
theorem dX0_hearAsk_37 : decode cX0_hearAsk 37 = .ok (.aload_n 1, 1) := by decide +kernel
theorem dX0_hearAsk_38 : decode cX0_hearAsk 38 = .ok (.getfield 35, 3) := by decide +kernel
theorem dX0_hearAsk_41 : decode cX0_hearAsk 41 = .ok (.aload_n 1, 1) := by decide +kernel
theorem dX0_hearAsk_42 : decode cX0_hearAsk 42 = .ok (.getfield 57, 3) := by decide +kernel
theorem dX0_hearAsk_45 : decode cX0_hearAsk 45 = .ok (.invokevirtual 166, 3) := by decide +kernel
theorem dX0_hearAsk_48 : decode cX0_hearAsk 48 = .ok (.aload_n 0, 1) := by decide +kernel
theorem dX0_hearAsk_49 : decode cX0_hearAsk 49 = .ok (.getfield 91, 3) := by decide +kernel
theorem dX0_hearAsk_52 : decode cX0_hearAsk 52 = .ok (.iconst 5, 1) := by decide +kernel
theorem dX0_hearAsk_53 : decode cX0_hearAsk 53 = .ok (.aload_n 1, 1) := by decide +kernel
theorem dX0_hearAsk_54 : decode cX0_hearAsk 54 = .ok (.getfield 35, 3) := by decide +kernel
theorem dX0_hearAsk_57 : decode cX0_hearAsk 57 = .ok (.aload_n 0, 1) := by decide +kernel
theorem dX0_hearAsk_58 : decode cX0_hearAsk 58 = .ok (.getfield 95, 3) := by decide +kernel
theorem dX0_hearAsk_61 : decode cX0_hearAsk 61 = .ok (.invokevirtual 159, 3) := by decide +kernel
theorem dX0_hearAsk_64 : decode cX0_hearAsk 64 = .ok (.aload_n 0, 1) := by decide +kernel
theorem dX0_hearAsk_65 : decode cX0_hearAsk 65 = .ok (.getfield 91, 3) := by decide +kernel
theorem dX0_hearAsk_68 : decode cX0_hearAsk 68 = .ok (.getfield 104, 3) := by decide +kernel
theorem dX0_hearAsk_71 : decode cX0_hearAsk 71 = .ok (.aload_n 1, 1) := by decide +kernel
theorem dX0_hearAsk_72 : decode cX0_hearAsk 72 = .ok (.getfield 57, 3) := by decide +kernel
theorem dX0_hearAsk_75 : decode cX0_hearAsk 75 = .ok (.putfield 57, 3) := by decide +kernel
theorem dX0_hearAsk_78 : decode cX0_hearAsk 78 = .ok (.aload_n 0, 1) := by decide +kernel
theorem dX0_hearAsk_79 : decode cX0_hearAsk 79 = .ok (.getfield 91, 3) := by decide +kernel
theorem dX0_hearAsk_82 : decode cX0_hearAsk 82 = .ok (.getfield 104, 3) := by decide +kernel
theorem dX0_hearAsk_85 : decode cX0_hearAsk 85 = .ok (.aload_n 2, 1) := by decide +kernel
theorem dX0_hearAsk_86 : decode cX0_hearAsk 86 = .ok (.getfield 169, 3) := by decide +kernel
theorem dX0_hearAsk_89 : decode cX0_hearAsk 89 = .ok (.aload_n 2, 1) := by decide +kernel
theorem dX0_hearAsk_90 : decode cX0_hearAsk 90 = .ok (.getfield 172, 3) := by decide +kernel
theorem dX0_hearAsk_93 : decode cX0_hearAsk 93 = .ok (.invokevirtual 175, 3) := by decide +kernel
theorem dX0_hearAsk_96 : decode cX0_hearAsk 96 = .ok (.aload_n 0, 1) := by decide +kernel
theorem dX0_hearAsk_97 : decode cX0_hearAsk 97 = .ok (.getfield 91, 3) := by decide +kernel
theorem dX0_hearAsk_100 : decode cX0_hearAsk 100 = .ok (.aload_n 0, 1) := by decide +kernel
theorem dX0_hearAsk_101 : decode cX0_hearAsk 101 = .ok (.getfield 91, 3) := by decide +kernel
theorem dX0_hearAsk_104 : decode cX0_hearAsk 104 = .ok (.getfield 104, 3) := by decide +kernel
theorem dX0_hearAsk_107 : decode cX0_hearAsk 107 = .ok (.aload_n 0, 1) := by decide +kernel
theorem dX0_hearAsk_108 : decode cX0_hearAsk 108 = .ok (.getfield 108, 3) := by decide +kernel
theorem dX0_hearAsk_111 : decode cX0_hearAsk 111 = .ok (.aload_n 1, 1) := by decide +kernel
theorem dX0_hearAsk_112 : decode cX0_hearAsk 112 = .ok (.getfield 57, 3) := by decide +kernel
theorem dX0_hearAsk_115 : decode cX0_hearAsk 115 = .ok (.invokevirtual 112, 3) := by decide +kernel
theorem dX0_hearAsk_118 : decode cX0_hearAsk 118 = .ok (.invokevirtual 116, 3) := by decide +kernel
theorem dX0_hearAsk_121 : decode cX0_hearAsk 121 = .ok (.pop, 1) := by decide +kernel
theorem dX0_hearAsk_122 : decode cX0_hearAsk 122 = .ok (.iconst 1, 1) := by decide +kernel
theorem dX0_hearAsk_123 : decode cX0_hearAsk 123 = .ok (.ireturn, 1) := by decide +kernel
theorem dX0_promise_0 : decode cX0_promise 0 = .ok (.aload_n 0, 1) := by decide +kernel
theorem dX0_promise_1 : decode cX0_promise 1 = .ok (.getfield 73, 3) := by decide +kernel
theorem dX0_promise_4 : decode cX0_promise 4 = .ok (.iconst 3, 1) := by decide +kernel
theorem dX0_promise_5 : decode cX0_promise 5 = .ok (.iload_n 1, 1) := by decide +kernel
theorem dX0_promise_6 : decode cX0_promise 6 = .ok (.iload_n 2, 1) := by decide +kernel
theorem dX0_promise_7 : decode cX0_promise 7 = .ok (.iconst 0, 1) := by decide +kernel
theorem dX0_promise_8 : decode cX0_promise 8 = .ok (.invokevirtual 83, 3) := by decide +kernel
theorem dX0_promise_11 : decode cX0_promise 11 = .ok (.aload_n 0, 1) := by decide +kernel
theorem dX0_promise_12 : decode cX0_promise 12 = .ok (.getfield 28, 3) := by decide +kernel
theorem dX0_promise_15 : decode cX0_promise 15 = .ok (.iload_n 1, 1) := by decide +kernel
theorem dX0_promise_16 : decode cX0_promise 16 = .ok (.aaload, 1) := by decide +kernel
theorem dX0_promise_17 : decode cX0_promise 17 = .ok (.iload_n 2, 1) := by decide +kernel
theorem dX0_promise_18 : decode cX0_promise 18 = .ok (.putfield 60, 3) := by decide +kernel
theorem dX0_promise_21 : decode cX0_promise 21 = .ok (.return_, 1) := by decide +kernel
theorem dX0_hearPromise_0 : decode cX0_hearPromise 0 = .ok (.aload_n 2, 1) := by decide +kernel
theorem dX0_hearPromise_1 : decode cX0_hearPromise 1 = .ok (.aload_n 1, 1) := by decide +kernel
theorem dX0_hearPromise_2 : decode cX0_hearPromise 2 = .ok (.getfield 57, 3) := by decide +kernel
theorem dX0_hearPromise_5 : decode cX0_hearPromise 5 = .ok (.invokevirtual 120, 3) := by decide +kernel
theorem dX0_hearPromise_8 : decode cX0_hearPromise 8 = .ok (.ifCond .eq 17, 3) := by decide +kernel
theorem dX0_hearPromise_11 : decode cX0_hearPromise 11 = .ok (.aload_n 0, 1) := by decide +kernel
theorem dX0_hearPromise_12 : decode cX0_hearPromise 12 = .ok (.getfield 108, 3) := by decide +kernel
theorem dX0_hearPromise_15 : decode cX0_hearPromise 15 = .ok (.aload_n 2, 1) := by decide +kernel
theorem dX0_hearPromise_16 : decode cX0_hearPromise 16 = .ok (.getfield 179, 3) := by decide +kernel
theorem dX0_hearPromise_19 : decode cX0_hearPromise 19 = .ok (.invokevirtual 153, 3) := by decide +kernel
theorem dX0_hearPromise_22 : decode cX0_hearPromise 22 = .ok (.ifCond .eq 4, 3) := by decide +kernel
theorem dX0_hearPromise_25 : decode cX0_hearPromise 25 = .ok (.return_, 1) := by decide +kernel
theorem dX0_hearPromise_26 : decode cX0_hearPromise 26 = .ok (.aload_n 2, 1) := by decide +kernel
theorem dX0_hearPromise_27 : decode cX0_hearPromise 27 = .ok (.dup, 1) := by decide +kernel
theorem dX0_hearPromise_28 : decode cX0_hearPromise 28 = .ok (.getfield 179, 3) := by decide +kernel
theorem dX0_hearPromise_31 : decode cX0_hearPromise 31 = .ok (.aload_n 0, 1) := by decide +kernel
theorem dX0_hearPromise_32 : decode cX0_hearPromise 32 = .ok (.aload_n 1, 1) := by decide +kernel
theorem dX0_hearPromise_33 : decode cX0_hearPromise 33 = .ok (.getfield 124, 3) := by decide +kernel
theorem dX0_hearPromise_36 : decode cX0_hearPromise 36 = .ok (.invokevirtual 127, 3) := by decide +kernel
theorem dX0_hearPromise_39 : decode cX0_hearPromise 39 = .ok (.ior, 1) := by decide +kernel
theorem dX0_hearPromise_40 : decode cX0_hearPromise 40 = .ok (.putfield 179, 3) := by decide +kernel
theorem dX0_hearPromise_43 : decode cX0_hearPromise 43 = .ok (.aload_n 2, 1) := by decide +kernel
theorem dX0_hearPromise_44 : decode cX0_hearPromise 44 = .ok (.aload_n 1, 1) := by decide +kernel
theorem dX0_hearPromise_45 : decode cX0_hearPromise 45 = .ok (.getfield 182, 3) := by decide +kernel
theorem dX0_hearPromise_48 : decode cX0_hearPromise 48 = .ok (.aload_n 1, 1) := by decide +kernel
theorem dX0_hearPromise_49 : decode cX0_hearPromise 49 = .ok (.getfield 185, 3) := by decide +kernel
theorem dX0_hearPromise_52 : decode cX0_hearPromise 52 = .ok (.invokevirtual 188, 3) := by decide +kernel
theorem dX0_hearPromise_55 : decode cX0_hearPromise 55 = .ok (.aload_n 0, 1) := by decide +kernel
theorem dX0_hearPromise_56 : decode cX0_hearPromise 56 = .ok (.getfield 108, 3) := by decide +kernel
theorem dX0_hearPromise_59 : decode cX0_hearPromise 59 = .ok (.aload_n 2, 1) := by decide +kernel
theorem dX0_hearPromise_60 : decode cX0_hearPromise 60 = .ok (.getfield 179, 3) := by decide +kernel
theorem dX0_hearPromise_63 : decode cX0_hearPromise 63 = .ok (.invokevirtual 153, 3) := by decide +kernel
theorem dX0_hearPromise_66 : decode cX0_hearPromise 66 = .ok (.ifCond .ne 4, 3) := by decide +kernel
theorem dX0_hearPromise_69 : decode cX0_hearPromise 69 = .ok (.return_, 1) := by decide +kernel
theorem dX0_hearPromise_70 : decode cX0_hearPromise 70 = .ok (.iconst 0, 1) := by decide +kernel
theorem dX0_hearPromise_71 : decode cX0_hearPromise 71 = .ok (.istore_n 3, 1) := by decide +kernel
theorem dX0_hearPromise_72 : decode cX0_hearPromise 72 = .ok (.iload_n 3, 1) := by decide +kernel
theorem dX0_hearPromise_73 : decode cX0_hearPromise 73 = .ok (.aload_n 0, 1) := by decide +kernel
theorem dX0_hearPromise_74 : decode cX0_hearPromise 74 = .ok (.getfield 108, 3) := by decide +kernel
theorem dX0_hearPromise_77 : decode cX0_hearPromise 77 = .ok (.getfield 3, 3) := by decide +kernel
theorem dX0_hearPromise_80 : decode cX0_hearPromise 80 = .ok (.if_icmp .ge 57, 3) := by decide +kernel
theorem dX0_hearPromise_83 : decode cX0_hearPromise 83 = .ok (.aload_n 0, 1) := by decide +kernel
theorem dX0_hearPromise_84 : decode cX0_hearPromise 84 = .ok (.getfield 20, 3) := by decide +kernel
theorem dX0_hearPromise_87 : decode cX0_hearPromise 87 = .ok (.aload_n 1, 1) := by decide +kernel
theorem dX0_hearPromise_88 : decode cX0_hearPromise 88 = .ok (.getfield 35, 3) := by decide +kernel
theorem dX0_hearPromise_91 : decode cX0_hearPromise 91 = .ok (.iload_n 3, 1) := by decide +kernel
theorem dX0_hearPromise_92 : decode cX0_hearPromise 92 = .ok (.invokevirtual 143, 3) := by decide +kernel
theorem dX0_hearPromise_95 : decode cX0_hearPromise 95 = .ok (.ifCond .eq 36, 3) := by decide +kernel
theorem dX0_hearPromise_98 : decode cX0_hearPromise 98 = .ok (.aload_n 0, 1) := by decide +kernel
theorem dX0_hearPromise_99 : decode cX0_hearPromise 99 = .ok (.getfield 91, 3) := by decide +kernel
theorem dX0_hearPromise_102 : decode cX0_hearPromise 102 = .ok (.iconst 2, 1) := by decide +kernel
theorem dX0_hearPromise_103 : decode cX0_hearPromise 103 = .ok (.aload_n 1, 1) := by decide +kernel
theorem dX0_hearPromise_104 : decode cX0_hearPromise 104 = .ok (.getfield 35, 3) := by decide +kernel
theorem dX0_hearPromise_107 : decode cX0_hearPromise 107 = .ok (.aload_n 0, 1) := by decide +kernel
theorem dX0_hearPromise_108 : decode cX0_hearPromise 108 = .ok (.getfield 95, 3) := by decide +kernel
theorem dX0_hearPromise_111 : decode cX0_hearPromise 111 = .ok (.aload_n 1, 1) := by decide +kernel
theorem dX0_hearPromise_112 : decode cX0_hearPromise 112 = .ok (.getfield 57, 3) := by decide +kernel
theorem dX0_hearPromise_115 : decode cX0_hearPromise 115 = .ok (.iload_n 3, 1) := by decide +kernel
theorem dX0_hearPromise_116 : decode cX0_hearPromise 116 = .ok (.aload_n 2, 1) := by decide +kernel
theorem dX0_hearPromise_117 : decode cX0_hearPromise 117 = .ok (.iload_n 3, 1) := by decide +kernel
theorem dX0_hearPromise_118 : decode cX0_hearPromise 118 = .ok (.invokevirtual 191, 3) := by decide +kernel
theorem dX0_hearPromise_121 : decode cX0_hearPromise 121 = .ok (.invokevirtual 98, 3) := by decide +kernel
theorem dX0_hearPromise_124 : decode cX0_hearPromise 124 = .ok (.aload_n 0, 1) := by decide +kernel
theorem dX0_hearPromise_125 : decode cX0_hearPromise 125 = .ok (.getfield 91, 3) := by decide +kernel
theorem dX0_hearPromise_128 : decode cX0_hearPromise 128 = .ok (.invokevirtual 194, 3) := by decide +kernel
theorem dX0_hearPromise_131 : decode cX0_hearPromise 131 = .ok (.iinc 3 1, 3) := by decide +kernel
theorem dX0_hearPromise_134 : decode cX0_hearPromise 134 = .ok (.goto (-62), 3) := by decide +kernel
theorem dX0_hearPromise_137 : decode cX0_hearPromise 137 = .ok (.return_, 1) := by decide +kernel
theorem dX0_takeOver_0 : decode cX0_takeOver 0 = .ok (.aload_n 0, 1) := by decide +kernel
theorem dX0_takeOver_1 : decode cX0_takeOver 1 = .ok (.getfield 28, 3) := by decide +kernel
theorem dX0_takeOver_4 : decode cX0_takeOver 4 = .ok (.iload_n 1, 1) := by decide +kernel
theorem dX0_takeOver_5 : decode cX0_takeOver 5 = .ok (.aaload, 1) := by decide +kernel
theorem dX0_takeOver_6 : decode cX0_takeOver 6 = .ok (.astore_n 2, 1) := by decide +kernel
theorem dX0_takeOver_7 : decode cX0_takeOver 7 = .ok (.aload_n 0, 1) := by decide +kernel
theorem dX0_takeOver_8 : decode cX0_takeOver 8 = .ok (.getfield 198, 3) := by decide +kernel
theorem dX0_takeOver_11 : decode cX0_takeOver 11 = .ok (.ifCond .eq 20, 3) := by decide +kernel
theorem dX0_takeOver_14 : decode cX0_takeOver 14 = .ok (.aload_n 2, 1) := by decide +kernel
theorem dX0_takeOver_15 : decode cX0_takeOver 15 = .ok (.getfield 137, 3) := by decide +kernel
theorem dX0_takeOver_18 : decode cX0_takeOver 18 = .ok (.ifCond .ne 13, 3) := by decide +kernel
theorem dX0_takeOver_21 : decode cX0_takeOver 21 = .ok (.aload_n 0, 1) := by decide +kernel
theorem dX0_takeOver_22 : decode cX0_takeOver 22 = .ok (.getfield 73, 3) := by decide +kernel
theorem dX0_takeOver_25 : decode cX0_takeOver 25 = .ok (.invokevirtual 77, 3) := by decide +kernel
theorem dX0_takeOver_28 : decode cX0_takeOver 28 = .ok (.ifCond .eq 5, 3) := by decide +kernel
theorem dX0_takeOver_31 : decode cX0_takeOver 31 = .ok (.iconst 0, 1) := by decide +kernel
theorem dX0_takeOver_32 : decode cX0_takeOver 32 = .ok (.ireturn, 1) := by decide +kernel
theorem dX0_takeOver_33 : decode cX0_takeOver 33 = .ok (.aload_n 0, 1) := by decide +kernel
theorem dX0_takeOver_34 : decode cX0_takeOver 34 = .ok (.iconst 0, 1) := by decide +kernel
theorem dX0_takeOver_35 : decode cX0_takeOver 35 = .ok (.aload_n 2, 1) := by decide +kernel
theorem dX0_takeOver_36 : decode cX0_takeOver 36 = .ok (.getfield 202, 3) := by decide +kernel
theorem dX0_takeOver_39 : decode cX0_takeOver 39 = .ok (.aload_n 2, 1) := by decide +kernel
theorem dX0_takeOver_40 : decode cX0_takeOver 40 = .ok (.getfield 60, 3) := by decide +kernel
theorem dX0_takeOver_43 : decode cX0_takeOver 43 = .ok (.invokestatic 205, 3) := by decide +kernel
theorem dX0_takeOver_46 : decode cX0_takeOver 46 = .ok (.invokestatic 205, 3) := by decide +kernel
theorem dX0_takeOver_49 : decode cX0_takeOver 49 = .ok (.invokevirtual 211, 3) := by decide +kernel
theorem dX0_takeOver_52 : decode cX0_takeOver 52 = .ok (.istore_n 3, 1) := by decide +kernel
theorem dX0_takeOver_53 : decode cX0_takeOver 53 = .ok (.aload_n 2, 1) := by decide +kernel
theorem dX0_takeOver_54 : decode cX0_takeOver 54 = .ok (.iload_n 3, 1) := by decide +kernel
theorem dX0_takeOver_55 : decode cX0_takeOver 55 = .ok (.invokevirtual 214, 3) := by decide +kernel
theorem dX0_takeOver_58 : decode cX0_takeOver 58 = .ok (.aload_n 0, 1) := by decide +kernel
theorem dX0_takeOver_59 : decode cX0_takeOver 59 = .ok (.iload_n 1, 1) := by decide +kernel
theorem dX0_takeOver_60 : decode cX0_takeOver 60 = .ok (.iload_n 3, 1) := by decide +kernel
theorem dX0_takeOver_61 : decode cX0_takeOver 61 = .ok (.invokevirtual 166, 3) := by decide +kernel
theorem dX0_takeOver_64 : decode cX0_takeOver 64 = .ok (.aload_n 0, 1) := by decide +kernel
theorem dX0_takeOver_65 : decode cX0_takeOver 65 = .ok (.getfield 91, 3) := by decide +kernel
theorem dX0_takeOver_68 : decode cX0_takeOver 68 = .ok (.iconst 4, 1) := by decide +kernel
theorem dX0_takeOver_69 : decode cX0_takeOver 69 = .ok (.iload_n 1, 1) := by decide +kernel
theorem dX0_takeOver_70 : decode cX0_takeOver 70 = .ok (.aload_n 0, 1) := by decide +kernel
theorem dX0_takeOver_71 : decode cX0_takeOver 71 = .ok (.getfield 95, 3) := by decide +kernel
theorem dX0_takeOver_74 : decode cX0_takeOver 74 = .ok (.invokevirtual 159, 3) := by decide +kernel
theorem dX0_takeOver_77 : decode cX0_takeOver 77 = .ok (.aload_n 0, 1) := by decide +kernel
theorem dX0_takeOver_78 : decode cX0_takeOver 78 = .ok (.getfield 91, 3) := by decide +kernel
theorem dX0_takeOver_81 : decode cX0_takeOver 81 = .ok (.getfield 104, 3) := by decide +kernel
theorem dX0_takeOver_84 : decode cX0_takeOver 84 = .ok (.iload_n 3, 1) := by decide +kernel
theorem dX0_takeOver_85 : decode cX0_takeOver 85 = .ok (.putfield 57, 3) := by decide +kernel
theorem dX0_takeOver_88 : decode cX0_takeOver 88 = .ok (.aload_n 0, 1) := by decide +kernel
theorem dX0_takeOver_89 : decode cX0_takeOver 89 = .ok (.getfield 91, 3) := by decide +kernel
theorem dX0_takeOver_92 : decode cX0_takeOver 92 = .ok (.invokevirtual 194, 3) := by decide +kernel
theorem dX0_takeOver_95 : decode cX0_takeOver 95 = .ok (.iload_n 3, 1) := by decide +kernel
theorem dX0_takeOver_96 : decode cX0_takeOver 96 = .ok (.ireturn, 1) := by decide +kernel
theorem dX0_nextOwn_0 : decode cX0_nextOwn 0 = .ok (.iload_n 1, 1) := by decide +kernel
theorem dX0_nextOwn_1 : decode cX0_nextOwn 1 = .ok (.iconst 1, 1) := by decide +kernel
theorem dX0_nextOwn_2 : decode cX0_nextOwn 2 = .ok (.iadd, 1) := by decide +kernel
theorem dX0_nextOwn_3 : decode cX0_nextOwn 3 = .ok (.istore_n 2, 1) := by decide +kernel
theorem dX0_nextOwn_4 : decode cX0_nextOwn 4 = .ok (.iload_n 2, 1) := by decide +kernel
theorem dX0_nextOwn_5 : decode cX0_nextOwn 5 = .ok (.aload_n 0, 1) := by decide +kernel
theorem dX0_nextOwn_6 : decode cX0_nextOwn 6 = .ok (.getfield 15, 3) := by decide +kernel
theorem dX0_nextOwn_9 : decode cX0_nextOwn 9 = .ok (.iload_n 2, 1) := by decide +kernel
theorem dX0_nextOwn_10 : decode cX0_nextOwn 10 = .ok (.isub, 1) := by decide +kernel
theorem dX0_nextOwn_11 : decode cX0_nextOwn 11 = .ok (.aload_n 0, 1) := by decide +kernel
theorem dX0_nextOwn_12 : decode cX0_nextOwn 12 = .ok (.getfield 108, 3) := by decide +kernel
theorem dX0_nextOwn_15 : decode cX0_nextOwn 15 = .ok (.getfield 218, 3) := by decide +kernel
theorem dX0_nextOwn_18 : decode cX0_nextOwn 18 = .ok (.invokestatic 221, 3) := by decide +kernel
theorem dX0_nextOwn_21 : decode cX0_nextOwn 21 = .ok (.iadd, 1) := by decide +kernel
theorem dX0_nextOwn_22 : decode cX0_nextOwn 22 = .ok (.ireturn, 1) := by decide +kernel
theorem dX0_bitOf_0 : decode cX0_bitOf 0 = .ok (.iconst 1, 1) := by decide +kernel
theorem dX0_bitOf_1 : decode cX0_bitOf 1 = .ok (.iload_n 1, 1) := by decide +kernel
theorem dX0_bitOf_2 : decode cX0_bitOf 2 = .ok (.aload_n 0, 1) := by decide +kernel
theorem dX0_bitOf_3 : decode cX0_bitOf 3 = .ok (.getfield 108, 3) := by decide +kernel
theorem dX0_bitOf_6 : decode cX0_bitOf 6 = .ok (.getfield 3, 3) := by decide +kernel
theorem dX0_bitOf_9 : decode cX0_bitOf 9 = .ok (.isub, 1) := by decide +kernel
theorem dX0_bitOf_10 : decode cX0_bitOf 10 = .ok (.ishl, 1) := by decide +kernel
theorem dX0_bitOf_11 : decode cX0_bitOf 11 = .ok (.ireturn, 1) := by decide +kernel
theorem dX0_forget_0 : decode cX0_forget 0 = .ok (.aload_n 0, 1) := by decide +kernel
theorem dX0_forget_1 : decode cX0_forget 1 = .ok (.getfield 28, 3) := by decide +kernel
theorem dX0_forget_4 : decode cX0_forget 4 = .ok (.astore_n 1, 1) := by decide +kernel
theorem dX0_forget_5 : decode cX0_forget 5 = .ok (.aload_n 1, 1) := by decide +kernel
theorem dX0_forget_6 : decode cX0_forget 6 = .ok (.arraylength, 1) := by decide +kernel
theorem dX0_forget_7 : decode cX0_forget 7 = .ok (.istore_n 2, 1) := by decide +kernel
theorem dX0_forget_8 : decode cX0_forget 8 = .ok (.iconst 0, 1) := by decide +kernel
theorem dX0_forget_9 : decode cX0_forget 9 = .ok (.istore_n 3, 1) := by decide +kernel
theorem dX0_forget_10 : decode cX0_forget 10 = .ok (.iload_n 3, 1) := by decide +kernel
theorem dX0_forget_11 : decode cX0_forget 11 = .ok (.iload_n 2, 1) := by decide +kernel
theorem dX0_forget_12 : decode cX0_forget 12 = .ok (.if_icmp .ge 19, 3) := by decide +kernel
theorem dX0_forget_15 : decode cX0_forget 15 = .ok (.aload_n 1, 1) := by decide +kernel
theorem dX0_forget_16 : decode cX0_forget 16 = .ok (.iload_n 3, 1) := by decide +kernel
theorem dX0_forget_17 : decode cX0_forget 17 = .ok (.aaload, 1) := by decide +kernel
theorem dX0_forget_18 : decode cX0_forget 18 = .ok (.astore 4, 2) := by decide +kernel
theorem dX0_forget_20 : decode cX0_forget 20 = .ok (.aload 4, 2) := by decide +kernel
theorem dX0_forget_22 : decode cX0_forget 22 = .ok (.invokevirtual 224, 3) := by decide +kernel
theorem dX0_forget_25 : decode cX0_forget 25 = .ok (.iinc 3 1, 3) := by decide +kernel
theorem dX0_forget_28 : decode cX0_forget 28 = .ok (.goto (-18), 3) := by decide +kernel
theorem dX0_forget_31 : decode cX0_forget 31 = .ok (.return_, 1) := by decide +kernel
theorem dX0_told_0 : decode cX0_told 0 = .ok (.iload_n 1, 1) := by decide +kernel
theorem dX0_told_1 : decode cX0_told 1 = .ok (.lookupswitch 37 #[(3, 27), (4, 32)], 27) := by decide +kernel
theorem dX0_told_28 : decode cX0_told 28 = .ok (.aload_n 0, 1) := by decide +kernel
theorem dX0_told_29 : decode cX0_told 29 = .ok (.invokevirtual 227, 3) := by decide +kernel
theorem dX0_told_32 : decode cX0_told 32 = .ok (.ireturn, 1) := by decide +kernel
theorem dX0_told_33 : decode cX0_told 33 = .ok (.aload_n 0, 1) := by decide +kernel
theorem dX0_told_34 : decode cX0_told 34 = .ok (.invokevirtual 230, 3) := by decide +kernel
theorem dX0_told_37 : decode cX0_told 37 = .ok (.ireturn, 1) := by decide +kernel
theorem dX0_told_38 : decode cX0_told 38 = .ok (.iconst (-1), 1) := by decide +kernel
theorem dX0_told_39 : decode cX0_told 39 = .ok (.ireturn, 1) := by decide +kernel
theorem dX0_unpromised_0 : decode cX0_unpromised 0 = .ok (.iconst 0, 1) := by decide +kernel
theorem dX0_unpromised_1 : decode cX0_unpromised 1 = .ok (.istore_n 1, 1) := by decide +kernel
theorem dX0_unpromised_2 : decode cX0_unpromised 2 = .ok (.aload_n 0, 1) := by decide +kernel
theorem dX0_unpromised_3 : decode cX0_unpromised 3 = .ok (.getfield 28, 3) := by decide +kernel
theorem dX0_unpromised_6 : decode cX0_unpromised 6 = .ok (.astore_n 2, 1) := by decide +kernel
theorem dX0_unpromised_7 : decode cX0_unpromised 7 = .ok (.aload_n 2, 1) := by decide +kernel
theorem dX0_unpromised_8 : decode cX0_unpromised 8 = .ok (.arraylength, 1) := by decide +kernel
theorem dX0_unpromised_9 : decode cX0_unpromised 9 = .ok (.istore_n 3, 1) := by decide +kernel
theorem dX0_unpromised_10 : decode cX0_unpromised 10 = .ok (.iconst 0, 1) := by decide +kernel
theorem dX0_unpromised_11 : decode cX0_unpromised 11 = .ok (.istore 4, 2) := by decide +kernel
theorem dX0_unpromised_13 : decode cX0_unpromised 13 = .ok (.iload 4, 2) := by decide +kernel
theorem dX0_unpromised_15 : decode cX0_unpromised 15 = .ok (.iload_n 3, 1) := by decide +kernel
theorem dX0_unpromised_16 : decode cX0_unpromised 16 = .ok (.if_icmp .ge 26, 3) := by decide +kernel
theorem dX0_unpromised_19 : decode cX0_unpromised 19 = .ok (.aload_n 2, 1) := by decide +kernel
theorem dX0_unpromised_20 : decode cX0_unpromised 20 = .ok (.iload 4, 2) := by decide +kernel
theorem dX0_unpromised_22 : decode cX0_unpromised 22 = .ok (.aaload, 1) := by decide +kernel
theorem dX0_unpromised_23 : decode cX0_unpromised 23 = .ok (.astore 5, 2) := by decide +kernel
theorem dX0_unpromised_25 : decode cX0_unpromised 25 = .ok (.aload 5, 2) := by decide +kernel
theorem dX0_unpromised_27 : decode cX0_unpromised 27 = .ok (.getfield 60, 3) := by decide +kernel
theorem dX0_unpromised_30 : decode cX0_unpromised 30 = .ok (.ifCond .ne 6, 3) := by decide +kernel
theorem dX0_unpromised_33 : decode cX0_unpromised 33 = .ok (.iinc 1 1, 3) := by decide +kernel
theorem dX0_unpromised_36 : decode cX0_unpromised 36 = .ok (.iinc 4 1, 3) := by decide +kernel
theorem dX0_unpromised_39 : decode cX0_unpromised 39 = .ok (.goto (-26), 3) := by decide +kernel
theorem dX0_unpromised_42 : decode cX0_unpromised 42 = .ok (.iload_n 1, 1) := by decide +kernel
theorem dX0_unpromised_43 : decode cX0_unpromised 43 = .ok (.ireturn, 1) := by decide +kernel
theorem dX0_ended_0 : decode cX0_ended 0 = .ok (.iconst 0, 1) := by decide +kernel
theorem dX0_ended_1 : decode cX0_ended 1 = .ok (.istore_n 1, 1) := by decide +kernel
theorem dX0_ended_2 : decode cX0_ended 2 = .ok (.aload_n 0, 1) := by decide +kernel
theorem dX0_ended_3 : decode cX0_ended 3 = .ok (.getfield 28, 3) := by decide +kernel
theorem dX0_ended_6 : decode cX0_ended 6 = .ok (.astore_n 2, 1) := by decide +kernel
theorem dX0_ended_7 : decode cX0_ended 7 = .ok (.aload_n 2, 1) := by decide +kernel
theorem dX0_ended_8 : decode cX0_ended 8 = .ok (.arraylength, 1) := by decide +kernel
theorem dX0_ended_9 : decode cX0_ended 9 = .ok (.istore_n 3, 1) := by decide +kernel
theorem dX0_ended_10 : decode cX0_ended 10 = .ok (.iconst 0, 1) := by decide +kernel
theorem dX0_ended_11 : decode cX0_ended 11 = .ok (.istore 4, 2) := by decide +kernel
theorem dX0_ended_13 : decode cX0_ended 13 = .ok (.iload 4, 2) := by decide +kernel
theorem dX0_ended_15 : decode cX0_ended 15 = .ok (.iload_n 3, 1) := by decide +kernel
theorem dX0_ended_16 : decode cX0_ended 16 = .ok (.if_icmp .ge 26, 3) := by decide +kernel
theorem dX0_ended_19 : decode cX0_ended 19 = .ok (.aload_n 2, 1) := by decide +kernel
theorem dX0_ended_20 : decode cX0_ended 20 = .ok (.iload 4, 2) := by decide +kernel
theorem dX0_ended_22 : decode cX0_ended 22 = .ok (.aaload, 1) := by decide +kernel
theorem dX0_ended_23 : decode cX0_ended 23 = .ok (.astore 5, 2) := by decide +kernel
theorem dX0_ended_25 : decode cX0_ended 25 = .ok (.aload 5, 2) := by decide +kernel
theorem dX0_ended_27 : decode cX0_ended 27 = .ok (.getfield 137, 3) := by decide +kernel
theorem dX0_ended_30 : decode cX0_ended 30 = .ok (.ifCond .eq 6, 3) := by decide +kernel
theorem dX0_ended_33 : decode cX0_ended 33 = .ok (.iinc 1 1, 3) := by decide +kernel
theorem dX0_ended_36 : decode cX0_ended 36 = .ok (.iinc 4 1, 3) := by decide +kernel
theorem dX0_ended_39 : decode cX0_ended 39 = .ok (.goto (-26), 3) := by decide +kernel
theorem dX0_ended_42 : decode cX0_ended 42 = .ok (.iload_n 1, 1) := by decide +kernel
theorem dX0_ended_43 : decode cX0_ended 43 = .ok (.ireturn, 1) := by decide +kernel
theorem dX1_init_0 : decode cX1_init 0 = .ok (.aload_n 0, 1) := by decide +kernel
theorem dX1_init_1 : decode cX1_init 1 = .ok (.invokespecial 3, 3) := by decide +kernel
theorem dX1_init_4 : decode cX1_init 4 = .ok (.aload_n 0, 1) := by decide +kernel
theorem dX1_init_5 : decode cX1_init 5 = .ok (.aload_n 1, 1) := by decide +kernel
theorem dX1_init_6 : decode cX1_init 6 = .ok (.putfield 9, 3) := by decide +kernel
theorem dX1_init_9 : decode cX1_init 9 = .ok (.aload_n 0, 1) := by decide +kernel
theorem dX1_init_10 : decode cX1_init 10 = .ok (.aload_n 1, 1) := by decide +kernel
theorem dX1_init_11 : decode cX1_init 11 = .ok (.getfield 15, 3) := by decide +kernel
theorem dX1_init_14 : decode cX1_init 14 = .ok (.newarray .long, 2) := by decide +kernel
theorem dX1_init_16 : decode cX1_init 16 = .ok (.putfield 21, 3) := by decide +kernel
theorem dX1_init_19 : decode cX1_init 19 = .ok (.aload_n 0, 1) := by decide +kernel
theorem dX1_init_20 : decode cX1_init 20 = .ok (.aload_n 1, 1) := by decide +kernel
theorem dX1_init_21 : decode cX1_init 21 = .ok (.getfield 25, 3) := by decide +kernel
theorem dX1_init_24 : decode cX1_init 24 = .ok (.aload_n 1, 1) := by decide +kernel
theorem dX1_init_25 : decode cX1_init 25 = .ok (.getfield 15, 3) := by decide +kernel
theorem dX1_init_28 : decode cX1_init 28 = .ok (.multianewarray 28 2, 4) := by decide +kernel
theorem dX1_init_32 : decode cX1_init 32 = .ok (.putfield 30, 3) := by decide +kernel
theorem dX1_init_35 : decode cX1_init 35 = .ok (.aload_n 0, 1) := by decide +kernel
theorem dX1_init_36 : decode cX1_init 36 = .ok (.aload_n 1, 1) := by decide +kernel
theorem dX1_init_37 : decode cX1_init 37 = .ok (.getfield 25, 3) := by decide +kernel
theorem dX1_init_40 : decode cX1_init 40 = .ok (.aload_n 1, 1) := by decide +kernel
theorem dX1_init_41 : decode cX1_init 41 = .ok (.getfield 15, 3) := by decide +kernel
theorem dX1_init_44 : decode cX1_init 44 = .ok (.multianewarray 33 2, 4) := by decide +kernel
theorem dX1_init_48 : decode cX1_init 48 = .ok (.putfield 35, 3) := by decide +kernel
theorem dX1_init_51 : decode cX1_init 51 = .ok (.return_, 1) := by decide +kernel
theorem dX1_canGrant_0 : decode cX1_canGrant 0 = .ok (.iconst 0, 1) := by decide +kernel
theorem dX1_canGrant_1 : decode cX1_canGrant 1 = .ok (.istore 4, 2) := by decide +kernel
theorem dX1_canGrant_3 : decode cX1_canGrant 3 = .ok (.iload 4, 2) := by decide +kernel
theorem dX1_canGrant_5 : decode cX1_canGrant 5 = .ok (.aload_n 0, 1) := by decide +kernel
theorem dX1_canGrant_6 : decode cX1_canGrant 6 = .ok (.getfield 30, 3) := by decide +kernel
theorem dX1_canGrant_9 : decode cX1_canGrant 9 = .ok (.arraylength, 1) := by decide +kernel
theorem dX1_canGrant_10 : decode cX1_canGrant 10 = .ok (.if_icmp .ge 45, 3) := by decide +kernel
theorem dX1_canGrant_13 : decode cX1_canGrant 13 = .ok (.aload_n 0, 1) := by decide +kernel
theorem dX1_canGrant_14 : decode cX1_canGrant 14 = .ok (.getfield 30, 3) := by decide +kernel
theorem dX1_canGrant_17 : decode cX1_canGrant 17 = .ok (.iload 4, 2) := by decide +kernel
theorem dX1_canGrant_19 : decode cX1_canGrant 19 = .ok (.aaload, 1) := by decide +kernel
theorem dX1_canGrant_20 : decode cX1_canGrant 20 = .ok (.iload_n 2, 1) := by decide +kernel
theorem dX1_canGrant_21 : decode cX1_canGrant 21 = .ok (.iaload, 1) := by decide +kernel
theorem dX1_canGrant_22 : decode cX1_canGrant 22 = .ok (.istore 5, 2) := by decide +kernel
theorem dX1_canGrant_24 : decode cX1_canGrant 24 = .ok (.iload 4, 2) := by decide +kernel
theorem dX1_canGrant_26 : decode cX1_canGrant 26 = .ok (.iload_n 1, 1) := by decide +kernel
theorem dX1_canGrant_27 : decode cX1_canGrant 27 = .ok (.if_icmp .eq 22, 3) := by decide +kernel
theorem dX1_canGrant_30 : decode cX1_canGrant 30 = .ok (.iload 5, 2) := by decide +kernel
theorem dX1_canGrant_32 : decode cX1_canGrant 32 = .ok (.iconst 2, 1) := by decide +kernel
theorem dX1_canGrant_33 : decode cX1_canGrant 33 = .ok (.if_icmp .eq 14, 3) := by decide +kernel
theorem dX1_canGrant_36 : decode cX1_canGrant 36 = .ok (.iload 5, 2) := by decide +kernel
theorem dX1_canGrant_38 : decode cX1_canGrant 38 = .ok (.iconst 1, 1) := by decide +kernel
theorem dX1_canGrant_39 : decode cX1_canGrant 39 = .ok (.if_icmp .ne 10, 3) := by decide +kernel
theorem dX1_canGrant_42 : decode cX1_canGrant 42 = .ok (.iload_n 3, 1) := by decide +kernel
theorem dX1_canGrant_43 : decode cX1_canGrant 43 = .ok (.iconst 2, 1) := by decide +kernel
theorem dX1_canGrant_44 : decode cX1_canGrant 44 = .ok (.if_icmp .ne 5, 3) := by decide +kernel
theorem dX1_canGrant_47 : decode cX1_canGrant 47 = .ok (.iconst 0, 1) := by decide +kernel
theorem dX1_canGrant_48 : decode cX1_canGrant 48 = .ok (.ireturn, 1) := by decide +kernel
theorem dX1_canGrant_49 : decode cX1_canGrant 49 = .ok (.iinc 4 1, 3) := by decide +kernel
theorem dX1_canGrant_52 : decode cX1_canGrant 52 = .ok (.goto (-49), 3) := by decide +kernel
theorem dX1_canGrant_55 : decode cX1_canGrant 55 = .ok (.iconst 1, 1) := by decide +kernel
theorem dX1_canGrant_56 : decode cX1_canGrant 56 = .ok (.ireturn, 1) := by decide +kernel
theorem dX1_grant_0 : decode cX1_grant 0 = .ok (.aload_n 0, 1) := by decide +kernel
theorem dX1_grant_1 : decode cX1_grant 1 = .ok (.getfield 30, 3) := by decide +kernel
theorem dX1_grant_4 : decode cX1_grant 4 = .ok (.iload_n 1, 1) := by decide +kernel
theorem dX1_grant_5 : decode cX1_grant 5 = .ok (.aaload, 1) := by decide +kernel
theorem dX1_grant_6 : decode cX1_grant 6 = .ok (.iload_n 2, 1) := by decide +kernel
theorem dX1_grant_7 : decode cX1_grant 7 = .ok (.iload_n 3, 1) := by decide +kernel
theorem dX1_grant_8 : decode cX1_grant 8 = .ok (.aload_n 0, 1) := by decide +kernel
theorem dX1_grant_9 : decode cX1_grant 9 = .ok (.getfield 30, 3) := by decide +kernel
theorem dX1_grant_12 : decode cX1_grant 12 = .ok (.iload_n 1, 1) := by decide +kernel
theorem dX1_grant_13 : decode cX1_grant 13 = .ok (.aaload, 1) := by decide +kernel
theorem dX1_grant_14 : decode cX1_grant 14 = .ok (.iload_n 2, 1) := by decide +kernel
theorem dX1_grant_15 : decode cX1_grant 15 = .ok (.iaload, 1) := by decide +kernel
theorem dX1_grant_16 : decode cX1_grant 16 = .ok (.invokestatic 38, 3) := by decide +kernel
theorem dX1_grant_19 : decode cX1_grant 19 = .ok (.iastore, 1) := by decide +kernel
theorem dX1_grant_20 : decode cX1_grant 20 = .ok (.return_, 1) := by decide +kernel
theorem dX1_renew_0 : decode cX1_renew 0 = .ok (.aload_n 0, 1) := by decide +kernel
theorem dX1_renew_1 : decode cX1_renew 1 = .ok (.getfield 35, 3) := by decide +kernel
theorem dX1_renew_4 : decode cX1_renew 4 = .ok (.iload_n 1, 1) := by decide +kernel
theorem dX1_renew_5 : decode cX1_renew 5 = .ok (.aaload, 1) := by decide +kernel
theorem dX1_renew_6 : decode cX1_renew 6 = .ok (.iload_n 2, 1) := by decide +kernel
theorem dX1_renew_7 : decode cX1_renew 7 = .ok (.lload_n 3, 1) := by decide +kernel
theorem dX1_renew_8 : decode cX1_renew 8 = .ok (.lastore, 1) := by decide +kernel
theorem dX1_renew_9 : decode cX1_renew 9 = .ok (.return_, 1) := by decide +kernel
theorem dX1_seenBy_0 : decode cX1_seenBy 0 = .ok (.aload_n 0, 1) := by decide +kernel
theorem dX1_seenBy_1 : decode cX1_seenBy 1 = .ok (.getfield 30, 3) := by decide +kernel
theorem dX1_seenBy_4 : decode cX1_seenBy 4 = .ok (.iload_n 1, 1) := by decide +kernel
theorem dX1_seenBy_5 : decode cX1_seenBy 5 = .ok (.aaload, 1) := by decide +kernel
theorem dX1_seenBy_6 : decode cX1_seenBy 6 = .ok (.iload_n 2, 1) := by decide +kernel
theorem dX1_seenBy_7 : decode cX1_seenBy 7 = .ok (.iaload, 1) := by decide +kernel
theorem dX1_seenBy_8 : decode cX1_seenBy 8 = .ok (.iconst 2, 1) := by decide +kernel
theorem dX1_seenBy_9 : decode cX1_seenBy 9 = .ok (.if_icmp .ne 14, 3) := by decide +kernel
theorem dX1_seenBy_12 : decode cX1_seenBy 12 = .ok (.aload_n 0, 1) := by decide +kernel
theorem dX1_seenBy_13 : decode cX1_seenBy 13 = .ok (.getfield 35, 3) := by decide +kernel
theorem dX1_seenBy_16 : decode cX1_seenBy 16 = .ok (.iload_n 1, 1) := by decide +kernel
theorem dX1_seenBy_17 : decode cX1_seenBy 17 = .ok (.aaload, 1) := by decide +kernel
theorem dX1_seenBy_18 : decode cX1_seenBy 18 = .ok (.iload_n 2, 1) := by decide +kernel
theorem dX1_seenBy_19 : decode cX1_seenBy 19 = .ok (.laload, 1) := by decide +kernel
theorem dX1_seenBy_20 : decode cX1_seenBy 20 = .ok (.goto 9, 3) := by decide +kernel
theorem dX1_seenBy_23 : decode cX1_seenBy 23 = .ok (.aload_n 0, 1) := by decide +kernel
theorem dX1_seenBy_24 : decode cX1_seenBy 24 = .ok (.getfield 21, 3) := by decide +kernel
theorem dX1_seenBy_27 : decode cX1_seenBy 27 = .ok (.iload_n 2, 1) := by decide +kernel
theorem dX1_seenBy_28 : decode cX1_seenBy 28 = .ok (.laload, 1) := by decide +kernel
theorem dX1_seenBy_29 : decode cX1_seenBy 29 = .ok (.lreturn, 1) := by decide +kernel
theorem dX1_install_0 : decode cX1_install 0 = .ok (.iconst 0, 1) := by decide +kernel
theorem dX1_install_1 : decode cX1_install 1 = .ok (.istore_n 3, 1) := by decide +kernel
theorem dX1_install_2 : decode cX1_install 2 = .ok (.iload_n 3, 1) := by decide +kernel
theorem dX1_install_3 : decode cX1_install 3 = .ok (.aload_n 0, 1) := by decide +kernel
theorem dX1_install_4 : decode cX1_install 4 = .ok (.getfield 21, 3) := by decide +kernel
theorem dX1_install_7 : decode cX1_install 7 = .ok (.arraylength, 1) := by decide +kernel
theorem dX1_install_8 : decode cX1_install 8 = .ok (.if_icmp .ge 33, 3) := by decide +kernel
theorem dX1_install_11 : decode cX1_install 11 = .ok (.aload_n 0, 1) := by decide +kernel
theorem dX1_install_12 : decode cX1_install 12 = .ok (.getfield 9, 3) := by decide +kernel
theorem dX1_install_15 : decode cX1_install 15 = .ok (.iload_n 3, 1) := by decide +kernel
theorem dX1_install_16 : decode cX1_install 16 = .ok (.invokevirtual 44, 3) := by decide +kernel
theorem dX1_install_19 : decode cX1_install 19 = .ok (.iload_n 2, 1) := by decide +kernel
theorem dX1_install_20 : decode cX1_install 20 = .ok (.if_icmp .ne 15, 3) := by decide +kernel
theorem dX1_install_23 : decode cX1_install 23 = .ok (.aload_n 0, 1) := by decide +kernel
theorem dX1_install_24 : decode cX1_install 24 = .ok (.getfield 21, 3) := by decide +kernel
theorem dX1_install_27 : decode cX1_install 27 = .ok (.iload_n 3, 1) := by decide +kernel
theorem dX1_install_28 : decode cX1_install 28 = .ok (.aload_n 0, 1) := by decide +kernel
theorem dX1_install_29 : decode cX1_install 29 = .ok (.iload_n 1, 1) := by decide +kernel
theorem dX1_install_30 : decode cX1_install 30 = .ok (.iload_n 3, 1) := by decide +kernel
theorem dX1_install_31 : decode cX1_install 31 = .ok (.invokevirtual 48, 3) := by decide +kernel
theorem dX1_install_34 : decode cX1_install 34 = .ok (.lastore, 1) := by decide +kernel
theorem dX1_install_35 : decode cX1_install 35 = .ok (.iinc 3 1, 3) := by decide +kernel
theorem dX1_install_38 : decode cX1_install 38 = .ok (.goto (-36), 3) := by decide +kernel
theorem dX1_install_41 : decode cX1_install 41 = .ok (.return_, 1) := by decide +kernel
theorem dX1_dropShared_0 : decode cX1_dropShared 0 = .ok (.iconst 0, 1) := by decide +kernel
theorem dX1_dropShared_1 : decode cX1_dropShared 1 = .ok (.istore_n 3, 1) := by decide +kernel
theorem dX1_dropShared_2 : decode cX1_dropShared 2 = .ok (.iload_n 3, 1) := by decide +kernel
theorem dX1_dropShared_3 : decode cX1_dropShared 3 = .ok (.aload_n 0, 1) := by decide +kernel
theorem dX1_dropShared_4 : decode cX1_dropShared 4 = .ok (.getfield 21, 3) := by decide +kernel
theorem dX1_dropShared_7 : decode cX1_dropShared 7 = .ok (.arraylength, 1) := by decide +kernel
theorem dX1_dropShared_8 : decode cX1_dropShared 8 = .ok (.if_icmp .ge 42, 3) := by decide +kernel
theorem dX1_dropShared_11 : decode cX1_dropShared 11 = .ok (.aload_n 0, 1) := by decide +kernel
theorem dX1_dropShared_12 : decode cX1_dropShared 12 = .ok (.getfield 9, 3) := by decide +kernel
theorem dX1_dropShared_15 : decode cX1_dropShared 15 = .ok (.iload_n 3, 1) := by decide +kernel
theorem dX1_dropShared_16 : decode cX1_dropShared 16 = .ok (.invokevirtual 44, 3) := by decide +kernel
theorem dX1_dropShared_19 : decode cX1_dropShared 19 = .ok (.iload_n 2, 1) := by decide +kernel
theorem dX1_dropShared_20 : decode cX1_dropShared 20 = .ok (.if_icmp .ne 24, 3) := by decide +kernel
theorem dX1_dropShared_23 : decode cX1_dropShared 23 = .ok (.aload_n 0, 1) := by decide +kernel
theorem dX1_dropShared_24 : decode cX1_dropShared 24 = .ok (.getfield 30, 3) := by decide +kernel
theorem dX1_dropShared_27 : decode cX1_dropShared 27 = .ok (.iload_n 1, 1) := by decide +kernel
theorem dX1_dropShared_28 : decode cX1_dropShared 28 = .ok (.aaload, 1) := by decide +kernel
theorem dX1_dropShared_29 : decode cX1_dropShared 29 = .ok (.iload_n 3, 1) := by decide +kernel
theorem dX1_dropShared_30 : decode cX1_dropShared 30 = .ok (.iaload, 1) := by decide +kernel
theorem dX1_dropShared_31 : decode cX1_dropShared 31 = .ok (.iconst 1, 1) := by decide +kernel
theorem dX1_dropShared_32 : decode cX1_dropShared 32 = .ok (.if_icmp .ne 12, 3) := by decide +kernel
theorem dX1_dropShared_35 : decode cX1_dropShared 35 = .ok (.aload_n 0, 1) := by decide +kernel
theorem dX1_dropShared_36 : decode cX1_dropShared 36 = .ok (.getfield 30, 3) := by decide +kernel
theorem dX1_dropShared_39 : decode cX1_dropShared 39 = .ok (.iload_n 1, 1) := by decide +kernel
theorem dX1_dropShared_40 : decode cX1_dropShared 40 = .ok (.aaload, 1) := by decide +kernel
theorem dX1_dropShared_41 : decode cX1_dropShared 41 = .ok (.iload_n 3, 1) := by decide +kernel
theorem dX1_dropShared_42 : decode cX1_dropShared 42 = .ok (.iconst 0, 1) := by decide +kernel
theorem dX1_dropShared_43 : decode cX1_dropShared 43 = .ok (.iastore, 1) := by decide +kernel
theorem dX1_dropShared_44 : decode cX1_dropShared 44 = .ok (.iinc 3 1, 3) := by decide +kernel
theorem dX1_dropShared_47 : decode cX1_dropShared 47 = .ok (.goto (-45), 3) := by decide +kernel
theorem dX1_dropShared_50 : decode cX1_dropShared 50 = .ok (.return_, 1) := by decide +kernel
theorem dX1_dropAll_0 : decode cX1_dropAll 0 = .ok (.iconst 0, 1) := by decide +kernel
theorem dX1_dropAll_1 : decode cX1_dropAll 1 = .ok (.istore_n 3, 1) := by decide +kernel
theorem dX1_dropAll_2 : decode cX1_dropAll 2 = .ok (.iload_n 3, 1) := by decide +kernel
theorem dX1_dropAll_3 : decode cX1_dropAll 3 = .ok (.aload_n 0, 1) := by decide +kernel
theorem dX1_dropAll_4 : decode cX1_dropAll 4 = .ok (.getfield 21, 3) := by decide +kernel
theorem dX1_dropAll_7 : decode cX1_dropAll 7 = .ok (.arraylength, 1) := by decide +kernel
theorem dX1_dropAll_8 : decode cX1_dropAll 8 = .ok (.if_icmp .ge 30, 3) := by decide +kernel
theorem dX1_dropAll_11 : decode cX1_dropAll 11 = .ok (.aload_n 0, 1) := by decide +kernel
theorem dX1_dropAll_12 : decode cX1_dropAll 12 = .ok (.getfield 9, 3) := by decide +kernel
theorem dX1_dropAll_15 : decode cX1_dropAll 15 = .ok (.iload_n 3, 1) := by decide +kernel
theorem dX1_dropAll_16 : decode cX1_dropAll 16 = .ok (.invokevirtual 44, 3) := by decide +kernel
theorem dX1_dropAll_19 : decode cX1_dropAll 19 = .ok (.iload_n 2, 1) := by decide +kernel
theorem dX1_dropAll_20 : decode cX1_dropAll 20 = .ok (.if_icmp .ne 12, 3) := by decide +kernel
theorem dX1_dropAll_23 : decode cX1_dropAll 23 = .ok (.aload_n 0, 1) := by decide +kernel
theorem dX1_dropAll_24 : decode cX1_dropAll 24 = .ok (.getfield 30, 3) := by decide +kernel
theorem dX1_dropAll_27 : decode cX1_dropAll 27 = .ok (.iload_n 1, 1) := by decide +kernel
theorem dX1_dropAll_28 : decode cX1_dropAll 28 = .ok (.aaload, 1) := by decide +kernel
theorem dX1_dropAll_29 : decode cX1_dropAll 29 = .ok (.iload_n 3, 1) := by decide +kernel
theorem dX1_dropAll_30 : decode cX1_dropAll 30 = .ok (.iconst 0, 1) := by decide +kernel
theorem dX1_dropAll_31 : decode cX1_dropAll 31 = .ok (.iastore, 1) := by decide +kernel
theorem dX1_dropAll_32 : decode cX1_dropAll 32 = .ok (.iinc 3 1, 3) := by decide +kernel
theorem dX1_dropAll_35 : decode cX1_dropAll 35 = .ok (.goto (-33), 3) := by decide +kernel
theorem dX1_dropAll_38 : decode cX1_dropAll 38 = .ok (.return_, 1) := by decide +kernel
theorem dX1_holders_0 : decode cX1_holders 0 = .ok (.iconst 0, 1) := by decide +kernel
theorem dX1_holders_1 : decode cX1_holders 1 = .ok (.istore_n 2, 1) := by decide +kernel
theorem dX1_holders_2 : decode cX1_holders 2 = .ok (.iconst 0, 1) := by decide +kernel
theorem dX1_holders_3 : decode cX1_holders 3 = .ok (.istore_n 3, 1) := by decide +kernel
theorem dX1_holders_4 : decode cX1_holders 4 = .ok (.iload_n 3, 1) := by decide +kernel
theorem dX1_holders_5 : decode cX1_holders 5 = .ok (.aload_n 0, 1) := by decide +kernel
theorem dX1_holders_6 : decode cX1_holders 6 = .ok (.getfield 30, 3) := by decide +kernel
theorem dX1_holders_9 : decode cX1_holders 9 = .ok (.arraylength, 1) := by decide +kernel
theorem dX1_holders_10 : decode cX1_holders 10 = .ok (.if_icmp .ge 23, 3) := by decide +kernel
theorem dX1_holders_13 : decode cX1_holders 13 = .ok (.aload_n 0, 1) := by decide +kernel
theorem dX1_holders_14 : decode cX1_holders 14 = .ok (.getfield 30, 3) := by decide +kernel
theorem dX1_holders_17 : decode cX1_holders 17 = .ok (.iload_n 3, 1) := by decide +kernel
theorem dX1_holders_18 : decode cX1_holders 18 = .ok (.aaload, 1) := by decide +kernel
theorem dX1_holders_19 : decode cX1_holders 19 = .ok (.iload_n 1, 1) := by decide +kernel
theorem dX1_holders_20 : decode cX1_holders 20 = .ok (.iaload, 1) := by decide +kernel
theorem dX1_holders_21 : decode cX1_holders 21 = .ok (.ifCond .eq 6, 3) := by decide +kernel
theorem dX1_holders_24 : decode cX1_holders 24 = .ok (.iinc 2 1, 3) := by decide +kernel
theorem dX1_holders_27 : decode cX1_holders 27 = .ok (.iinc 3 1, 3) := by decide +kernel
theorem dX1_holders_30 : decode cX1_holders 30 = .ok (.goto (-26), 3) := by decide +kernel
theorem dX1_holders_33 : decode cX1_holders 33 = .ok (.iload_n 2, 1) := by decide +kernel
theorem dX1_holders_34 : decode cX1_holders 34 = .ok (.ireturn, 1) := by decide +kernel
theorem dX1_leastHolder_0 : decode cX1_leastHolder 0 = .ok (.iconst 0, 1) := by decide +kernel
theorem dX1_leastHolder_1 : decode cX1_leastHolder 1 = .ok (.istore_n 2, 1) := by decide +kernel
theorem dX1_leastHolder_2 : decode cX1_leastHolder 2 = .ok (.iload_n 2, 1) := by decide +kernel
theorem dX1_leastHolder_3 : decode cX1_leastHolder 3 = .ok (.aload_n 0, 1) := by decide +kernel
theorem dX1_leastHolder_4 : decode cX1_leastHolder 4 = .ok (.getfield 30, 3) := by decide +kernel
theorem dX1_leastHolder_7 : decode cX1_leastHolder 7 = .ok (.arraylength, 1) := by decide +kernel
theorem dX1_leastHolder_8 : decode cX1_leastHolder 8 = .ok (.if_icmp .ge 22, 3) := by decide +kernel
theorem dX1_leastHolder_11 : decode cX1_leastHolder 11 = .ok (.aload_n 0, 1) := by decide +kernel
theorem dX1_leastHolder_12 : decode cX1_leastHolder 12 = .ok (.getfield 30, 3) := by decide +kernel
theorem dX1_leastHolder_15 : decode cX1_leastHolder 15 = .ok (.iload_n 2, 1) := by decide +kernel
theorem dX1_leastHolder_16 : decode cX1_leastHolder 16 = .ok (.aaload, 1) := by decide +kernel
theorem dX1_leastHolder_17 : decode cX1_leastHolder 17 = .ok (.iload_n 1, 1) := by decide +kernel
theorem dX1_leastHolder_18 : decode cX1_leastHolder 18 = .ok (.iaload, 1) := by decide +kernel
theorem dX1_leastHolder_19 : decode cX1_leastHolder 19 = .ok (.ifCond .eq 5, 3) := by decide +kernel
theorem dX1_leastHolder_22 : decode cX1_leastHolder 22 = .ok (.iload_n 2, 1) := by decide +kernel
theorem dX1_leastHolder_23 : decode cX1_leastHolder 23 = .ok (.ireturn, 1) := by decide +kernel
theorem dX1_leastHolder_24 : decode cX1_leastHolder 24 = .ok (.iinc 2 1, 3) := by decide +kernel
theorem dX1_leastHolder_27 : decode cX1_leastHolder 27 = .ok (.goto (-25), 3) := by decide +kernel
theorem dX1_leastHolder_30 : decode cX1_leastHolder 30 = .ok (.iconst (-1), 1) := by decide +kernel
theorem dX1_leastHolder_31 : decode cX1_leastHolder 31 = .ok (.ireturn, 1) := by decide +kernel
theorem dX1_isExclusive_0 : decode cX1_isExclusive 0 = .ok (.iconst 0, 1) := by decide +kernel
theorem dX1_isExclusive_1 : decode cX1_isExclusive 1 = .ok (.istore_n 2, 1) := by decide +kernel
theorem dX1_isExclusive_2 : decode cX1_isExclusive 2 = .ok (.iload_n 2, 1) := by decide +kernel
theorem dX1_isExclusive_3 : decode cX1_isExclusive 3 = .ok (.aload_n 0, 1) := by decide +kernel
theorem dX1_isExclusive_4 : decode cX1_isExclusive 4 = .ok (.getfield 30, 3) := by decide +kernel
theorem dX1_isExclusive_7 : decode cX1_isExclusive 7 = .ok (.arraylength, 1) := by decide +kernel
theorem dX1_isExclusive_8 : decode cX1_isExclusive 8 = .ok (.if_icmp .ge 23, 3) := by decide +kernel
theorem dX1_isExclusive_11 : decode cX1_isExclusive 11 = .ok (.aload_n 0, 1) := by decide +kernel
theorem dX1_isExclusive_12 : decode cX1_isExclusive 12 = .ok (.getfield 30, 3) := by decide +kernel
theorem dX1_isExclusive_15 : decode cX1_isExclusive 15 = .ok (.iload_n 2, 1) := by decide +kernel
theorem dX1_isExclusive_16 : decode cX1_isExclusive 16 = .ok (.aaload, 1) := by decide +kernel
theorem dX1_isExclusive_17 : decode cX1_isExclusive 17 = .ok (.iload_n 1, 1) := by decide +kernel
theorem dX1_isExclusive_18 : decode cX1_isExclusive 18 = .ok (.iaload, 1) := by decide +kernel
theorem dX1_isExclusive_19 : decode cX1_isExclusive 19 = .ok (.iconst 2, 1) := by decide +kernel
theorem dX1_isExclusive_20 : decode cX1_isExclusive 20 = .ok (.if_icmp .ne 5, 3) := by decide +kernel
theorem dX1_isExclusive_23 : decode cX1_isExclusive 23 = .ok (.iconst 1, 1) := by decide +kernel
theorem dX1_isExclusive_24 : decode cX1_isExclusive 24 = .ok (.ireturn, 1) := by decide +kernel
theorem dX1_isExclusive_25 : decode cX1_isExclusive 25 = .ok (.iinc 2 1, 3) := by decide +kernel
theorem dX1_isExclusive_28 : decode cX1_isExclusive 28 = .ok (.goto (-26), 3) := by decide +kernel
theorem dX1_isExclusive_31 : decode cX1_isExclusive 31 = .ok (.iconst 0, 1) := by decide +kernel
theorem dX1_isExclusive_32 : decode cX1_isExclusive 32 = .ok (.ireturn, 1) := by decide +kernel
theorem dX2_init_0 : decode cX2_init 0 = .ok (.aload_n 0, 1) := by decide +kernel
theorem dX2_init_1 : decode cX2_init 1 = .ok (.invokespecial 3, 3) := by decide +kernel
theorem dX2_init_4 : decode cX2_init 4 = .ok (.aload_n 0, 1) := by decide +kernel
theorem dX2_init_5 : decode cX2_init 5 = .ok (.iload_n 1, 1) := by decide +kernel
theorem dX2_init_6 : decode cX2_init 6 = .ok (.iconst 4, 1) := by decide +kernel
theorem dX2_init_7 : decode cX2_init 7 = .ok (.multianewarray 9 2, 4) := by decide +kernel
theorem dX2_init_11 : decode cX2_init 11 = .ok (.putfield 11, 3) := by decide +kernel
theorem dX2_init_14 : decode cX2_init 14 = .ok (.return_, 1) := by decide +kernel
theorem dX2_isFull_0 : decode cX2_isFull 0 = .ok (.aload_n 0, 1) := by decide +kernel
theorem dX2_isFull_1 : decode cX2_isFull 1 = .ok (.getfield 16, 3) := by decide +kernel
theorem dX2_isFull_4 : decode cX2_isFull 4 = .ok (.aload_n 0, 1) := by decide +kernel
theorem dX2_isFull_5 : decode cX2_isFull 5 = .ok (.getfield 11, 3) := by decide +kernel
theorem dX2_isFull_8 : decode cX2_isFull 8 = .ok (.arraylength, 1) := by decide +kernel
theorem dX2_isFull_9 : decode cX2_isFull 9 = .ok (.if_icmp .lt 7, 3) := by decide +kernel
theorem dX2_isFull_12 : decode cX2_isFull 12 = .ok (.iconst 1, 1) := by decide +kernel
theorem dX2_isFull_13 : decode cX2_isFull 13 = .ok (.goto 4, 3) := by decide +kernel
theorem dX2_isFull_16 : decode cX2_isFull 16 = .ok (.iconst 0, 1) := by decide +kernel
theorem dX2_isFull_17 : decode cX2_isFull 17 = .ok (.ireturn, 1) := by decide +kernel
theorem dX2_put_0 : decode cX2_put 0 = .ok (.aload_n 0, 1) := by decide +kernel
theorem dX2_put_1 : decode cX2_put 1 = .ok (.invokevirtual 20, 3) := by decide +kernel
theorem dX2_put_4 : decode cX2_put 4 = .ok (.ifCond .eq 4, 3) := by decide +kernel
theorem dX2_put_7 : decode cX2_put 7 = .ok (.return_, 1) := by decide +kernel
theorem dX2_put_8 : decode cX2_put 8 = .ok (.aload_n 0, 1) := by decide +kernel
theorem dX2_put_9 : decode cX2_put 9 = .ok (.getfield 11, 3) := by decide +kernel
theorem dX2_put_12 : decode cX2_put 12 = .ok (.aload_n 0, 1) := by decide +kernel
theorem dX2_put_13 : decode cX2_put 13 = .ok (.getfield 16, 3) := by decide +kernel
theorem dX2_put_16 : decode cX2_put 16 = .ok (.aaload, 1) := by decide +kernel
theorem dX2_put_17 : decode cX2_put 17 = .ok (.iconst 0, 1) := by decide +kernel
theorem dX2_put_18 : decode cX2_put 18 = .ok (.iload_n 1, 1) := by decide +kernel
theorem dX2_put_19 : decode cX2_put 19 = .ok (.iastore, 1) := by decide +kernel
theorem dX2_put_20 : decode cX2_put 20 = .ok (.aload_n 0, 1) := by decide +kernel
theorem dX2_put_21 : decode cX2_put 21 = .ok (.getfield 11, 3) := by decide +kernel
theorem dX2_put_24 : decode cX2_put 24 = .ok (.aload_n 0, 1) := by decide +kernel
theorem dX2_put_25 : decode cX2_put 25 = .ok (.getfield 16, 3) := by decide +kernel
theorem dX2_put_28 : decode cX2_put 28 = .ok (.aaload, 1) := by decide +kernel
theorem dX2_put_29 : decode cX2_put 29 = .ok (.iconst 1, 1) := by decide +kernel
theorem dX2_put_30 : decode cX2_put 30 = .ok (.iload_n 2, 1) := by decide +kernel
theorem dX2_put_31 : decode cX2_put 31 = .ok (.iastore, 1) := by decide +kernel
theorem dX2_put_32 : decode cX2_put 32 = .ok (.aload_n 0, 1) := by decide +kernel
theorem dX2_put_33 : decode cX2_put 33 = .ok (.getfield 11, 3) := by decide +kernel
theorem dX2_put_36 : decode cX2_put 36 = .ok (.aload_n 0, 1) := by decide +kernel
theorem dX2_put_37 : decode cX2_put 37 = .ok (.getfield 16, 3) := by decide +kernel
theorem dX2_put_40 : decode cX2_put 40 = .ok (.aaload, 1) := by decide +kernel
theorem dX2_put_41 : decode cX2_put 41 = .ok (.iconst 2, 1) := by decide +kernel
theorem dX2_put_42 : decode cX2_put 42 = .ok (.iload_n 3, 1) := by decide +kernel
theorem dX2_put_43 : decode cX2_put 43 = .ok (.iastore, 1) := by decide +kernel
theorem dX2_put_44 : decode cX2_put 44 = .ok (.aload_n 0, 1) := by decide +kernel
theorem dX2_put_45 : decode cX2_put 45 = .ok (.getfield 11, 3) := by decide +kernel
theorem dX2_put_48 : decode cX2_put 48 = .ok (.aload_n 0, 1) := by decide +kernel
theorem dX2_put_49 : decode cX2_put 49 = .ok (.getfield 16, 3) := by decide +kernel
theorem dX2_put_52 : decode cX2_put 52 = .ok (.aaload, 1) := by decide +kernel
theorem dX2_put_53 : decode cX2_put 53 = .ok (.iconst 3, 1) := by decide +kernel
theorem dX2_put_54 : decode cX2_put 54 = .ok (.iload 4, 2) := by decide +kernel
theorem dX2_put_56 : decode cX2_put 56 = .ok (.iastore, 1) := by decide +kernel
theorem dX2_put_57 : decode cX2_put 57 = .ok (.aload_n 0, 1) := by decide +kernel
theorem dX2_put_58 : decode cX2_put 58 = .ok (.dup, 1) := by decide +kernel
theorem dX2_put_59 : decode cX2_put 59 = .ok (.getfield 16, 3) := by decide +kernel
theorem dX2_put_62 : decode cX2_put 62 = .ok (.iconst 1, 1) := by decide +kernel
theorem dX2_put_63 : decode cX2_put 63 = .ok (.iadd, 1) := by decide +kernel
theorem dX2_put_64 : decode cX2_put 64 = .ok (.putfield 16, 3) := by decide +kernel
theorem dX2_put_67 : decode cX2_put 67 = .ok (.return_, 1) := by decide +kernel
theorem dX2_told_0 : decode cX2_told 0 = .ok (.iload_n 1, 1) := by decide +kernel
theorem dX2_told_1 : decode cX2_told 1 = .ok (.ifCond .lt 31, 3) := by decide +kernel
theorem dX2_told_4 : decode cX2_told 4 = .ok (.iload_n 1, 1) := by decide +kernel
theorem dX2_told_5 : decode cX2_told 5 = .ok (.aload_n 0, 1) := by decide +kernel
theorem dX2_told_6 : decode cX2_told 6 = .ok (.getfield 16, 3) := by decide +kernel
theorem dX2_told_9 : decode cX2_told 9 = .ok (.if_icmp .ge 23, 3) := by decide +kernel
theorem dX2_told_12 : decode cX2_told 12 = .ok (.iload_n 2, 1) := by decide +kernel
theorem dX2_told_13 : decode cX2_told 13 = .ok (.ifCond .lt 19, 3) := by decide +kernel
theorem dX2_told_16 : decode cX2_told 16 = .ok (.iload_n 2, 1) := by decide +kernel
theorem dX2_told_17 : decode cX2_told 17 = .ok (.iconst 4, 1) := by decide +kernel
theorem dX2_told_18 : decode cX2_told 18 = .ok (.if_icmp .ge 14, 3) := by decide +kernel
theorem dX2_told_21 : decode cX2_told 21 = .ok (.aload_n 0, 1) := by decide +kernel
theorem dX2_told_22 : decode cX2_told 22 = .ok (.getfield 11, 3) := by decide +kernel
theorem dX2_told_25 : decode cX2_told 25 = .ok (.iload_n 1, 1) := by decide +kernel
theorem dX2_told_26 : decode cX2_told 26 = .ok (.aaload, 1) := by decide +kernel
theorem dX2_told_27 : decode cX2_told 27 = .ok (.iload_n 2, 1) := by decide +kernel
theorem dX2_told_28 : decode cX2_told 28 = .ok (.iaload, 1) := by decide +kernel
theorem dX2_told_29 : decode cX2_told 29 = .ok (.goto 4, 3) := by decide +kernel
theorem dX2_told_32 : decode cX2_told 32 = .ok (.iconst (-1), 1) := by decide +kernel
theorem dX2_told_33 : decode cX2_told 33 = .ok (.ireturn, 1) := by decide +kernel
theorem dX3_init_0 : decode cX3_init 0 = .ok (.aload_n 0, 1) := by decide +kernel
theorem dX3_init_1 : decode cX3_init 1 = .ok (.invokespecial 3, 3) := by decide +kernel
theorem dX3_init_4 : decode cX3_init 4 = .ok (.aload_n 0, 1) := by decide +kernel
theorem dX3_init_5 : decode cX3_init 5 = .ok (.iload_n 1, 1) := by decide +kernel
theorem dX3_init_6 : decode cX3_init 6 = .ok (.newarray .int, 2) := by decide +kernel
theorem dX3_init_8 : decode cX3_init 8 = .ok (.putfield 9, 3) := by decide +kernel
theorem dX3_init_11 : decode cX3_init 11 = .ok (.aload_n 0, 1) := by decide +kernel
theorem dX3_init_12 : decode cX3_init 12 = .ok (.iload_n 1, 1) := by decide +kernel
theorem dX3_init_13 : decode cX3_init 13 = .ok (.newarray .int, 2) := by decide +kernel
theorem dX3_init_15 : decode cX3_init 15 = .ok (.putfield 15, 3) := by decide +kernel
theorem dX3_init_18 : decode cX3_init 18 = .ok (.return_, 1) := by decide +kernel
theorem dX3_copyFrom_0 : decode cX3_copyFrom 0 = .ok (.aload_n 0, 1) := by decide +kernel
theorem dX3_copyFrom_1 : decode cX3_copyFrom 1 = .ok (.aload_n 1, 1) := by decide +kernel
theorem dX3_copyFrom_2 : decode cX3_copyFrom 2 = .ok (.getfield 18, 3) := by decide +kernel
theorem dX3_copyFrom_5 : decode cX3_copyFrom 5 = .ok (.putfield 18, 3) := by decide +kernel
theorem dX3_copyFrom_8 : decode cX3_copyFrom 8 = .ok (.aload_n 0, 1) := by decide +kernel
theorem dX3_copyFrom_9 : decode cX3_copyFrom 9 = .ok (.iload_n 2, 1) := by decide +kernel
theorem dX3_copyFrom_10 : decode cX3_copyFrom 10 = .ok (.putfield 22, 3) := by decide +kernel
theorem dX3_copyFrom_13 : decode cX3_copyFrom 13 = .ok (.aload_n 0, 1) := by decide +kernel
theorem dX3_copyFrom_14 : decode cX3_copyFrom 14 = .ok (.aload_n 1, 1) := by decide +kernel
theorem dX3_copyFrom_15 : decode cX3_copyFrom 15 = .ok (.getfield 25, 3) := by decide +kernel
theorem dX3_copyFrom_18 : decode cX3_copyFrom 18 = .ok (.putfield 25, 3) := by decide +kernel
theorem dX3_copyFrom_21 : decode cX3_copyFrom 21 = .ok (.aload_n 0, 1) := by decide +kernel
theorem dX3_copyFrom_22 : decode cX3_copyFrom 22 = .ok (.aload_n 1, 1) := by decide +kernel
theorem dX3_copyFrom_23 : decode cX3_copyFrom 23 = .ok (.getfield 28, 3) := by decide +kernel
theorem dX3_copyFrom_26 : decode cX3_copyFrom 26 = .ok (.putfield 28, 3) := by decide +kernel
theorem dX3_copyFrom_29 : decode cX3_copyFrom 29 = .ok (.aload_n 0, 1) := by decide +kernel
theorem dX3_copyFrom_30 : decode cX3_copyFrom 30 = .ok (.aload_n 1, 1) := by decide +kernel
theorem dX3_copyFrom_31 : decode cX3_copyFrom 31 = .ok (.getfield 31, 3) := by decide +kernel
theorem dX3_copyFrom_34 : decode cX3_copyFrom 34 = .ok (.putfield 31, 3) := by decide +kernel
theorem dX3_copyFrom_37 : decode cX3_copyFrom 37 = .ok (.aload_n 0, 1) := by decide +kernel
theorem dX3_copyFrom_38 : decode cX3_copyFrom 38 = .ok (.aload_n 1, 1) := by decide +kernel
theorem dX3_copyFrom_39 : decode cX3_copyFrom 39 = .ok (.getfield 34, 3) := by decide +kernel
theorem dX3_copyFrom_42 : decode cX3_copyFrom 42 = .ok (.putfield 34, 3) := by decide +kernel
theorem dX3_copyFrom_45 : decode cX3_copyFrom 45 = .ok (.aload_n 0, 1) := by decide +kernel
theorem dX3_copyFrom_46 : decode cX3_copyFrom 46 = .ok (.aload_n 1, 1) := by decide +kernel
theorem dX3_copyFrom_47 : decode cX3_copyFrom 47 = .ok (.getfield 37, 3) := by decide +kernel
theorem dX3_copyFrom_50 : decode cX3_copyFrom 50 = .ok (.putfield 37, 3) := by decide +kernel
theorem dX3_copyFrom_53 : decode cX3_copyFrom 53 = .ok (.iconst 0, 1) := by decide +kernel
theorem dX3_copyFrom_54 : decode cX3_copyFrom 54 = .ok (.istore_n 3, 1) := by decide +kernel
theorem dX3_copyFrom_55 : decode cX3_copyFrom 55 = .ok (.iload_n 3, 1) := by decide +kernel
theorem dX3_copyFrom_56 : decode cX3_copyFrom 56 = .ok (.aload_n 0, 1) := by decide +kernel
theorem dX3_copyFrom_57 : decode cX3_copyFrom 57 = .ok (.getfield 9, 3) := by decide +kernel
theorem dX3_copyFrom_60 : decode cX3_copyFrom 60 = .ok (.arraylength, 1) := by decide +kernel
theorem dX3_copyFrom_61 : decode cX3_copyFrom 61 = .ok (.if_icmp .ge 33, 3) := by decide +kernel
theorem dX3_copyFrom_64 : decode cX3_copyFrom 64 = .ok (.aload_n 0, 1) := by decide +kernel
theorem dX3_copyFrom_65 : decode cX3_copyFrom 65 = .ok (.getfield 9, 3) := by decide +kernel
theorem dX3_copyFrom_68 : decode cX3_copyFrom 68 = .ok (.iload_n 3, 1) := by decide +kernel
theorem dX3_copyFrom_69 : decode cX3_copyFrom 69 = .ok (.aload_n 1, 1) := by decide +kernel
theorem dX3_copyFrom_70 : decode cX3_copyFrom 70 = .ok (.getfield 9, 3) := by decide +kernel
theorem dX3_copyFrom_73 : decode cX3_copyFrom 73 = .ok (.iload_n 3, 1) := by decide +kernel
theorem dX3_copyFrom_74 : decode cX3_copyFrom 74 = .ok (.iaload, 1) := by decide +kernel
theorem dX3_copyFrom_75 : decode cX3_copyFrom 75 = .ok (.iastore, 1) := by decide +kernel
theorem dX3_copyFrom_76 : decode cX3_copyFrom 76 = .ok (.aload_n 0, 1) := by decide +kernel
theorem dX3_copyFrom_77 : decode cX3_copyFrom 77 = .ok (.getfield 15, 3) := by decide +kernel
theorem dX3_copyFrom_80 : decode cX3_copyFrom 80 = .ok (.iload_n 3, 1) := by decide +kernel
theorem dX3_copyFrom_81 : decode cX3_copyFrom 81 = .ok (.aload_n 1, 1) := by decide +kernel
theorem dX3_copyFrom_82 : decode cX3_copyFrom 82 = .ok (.getfield 15, 3) := by decide +kernel
theorem dX3_copyFrom_85 : decode cX3_copyFrom 85 = .ok (.iload_n 3, 1) := by decide +kernel
theorem dX3_copyFrom_86 : decode cX3_copyFrom 86 = .ok (.iaload, 1) := by decide +kernel
theorem dX3_copyFrom_87 : decode cX3_copyFrom 87 = .ok (.iastore, 1) := by decide +kernel
theorem dX3_copyFrom_88 : decode cX3_copyFrom 88 = .ok (.iinc 3 1, 3) := by decide +kernel
theorem dX3_copyFrom_91 : decode cX3_copyFrom 91 = .ok (.goto (-36), 3) := by decide +kernel
theorem dX3_copyFrom_94 : decode cX3_copyFrom 94 = .ok (.return_, 1) := by decide +kernel
theorem dX3_tell_0 : decode cX3_tell 0 = .ok (.iconst 0, 1) := by decide +kernel
theorem dX3_tell_1 : decode cX3_tell 1 = .ok (.istore_n 3, 1) := by decide +kernel
theorem dX3_tell_2 : decode cX3_tell 2 = .ok (.iload_n 3, 1) := by decide +kernel
theorem dX3_tell_3 : decode cX3_tell 3 = .ok (.aload_n 0, 1) := by decide +kernel
theorem dX3_tell_4 : decode cX3_tell 4 = .ok (.getfield 9, 3) := by decide +kernel
theorem dX3_tell_7 : decode cX3_tell 7 = .ok (.arraylength, 1) := by decide +kernel
theorem dX3_tell_8 : decode cX3_tell 8 = .ok (.if_icmp .ge 27, 3) := by decide +kernel
theorem dX3_tell_11 : decode cX3_tell 11 = .ok (.aload_n 0, 1) := by decide +kernel
theorem dX3_tell_12 : decode cX3_tell 12 = .ok (.getfield 9, 3) := by decide +kernel
theorem dX3_tell_15 : decode cX3_tell 15 = .ok (.iload_n 3, 1) := by decide +kernel
theorem dX3_tell_16 : decode cX3_tell 16 = .ok (.aload_n 1, 1) := by decide +kernel
theorem dX3_tell_17 : decode cX3_tell 17 = .ok (.iload_n 3, 1) := by decide +kernel
theorem dX3_tell_18 : decode cX3_tell 18 = .ok (.iaload, 1) := by decide +kernel
theorem dX3_tell_19 : decode cX3_tell 19 = .ok (.iastore, 1) := by decide +kernel
theorem dX3_tell_20 : decode cX3_tell 20 = .ok (.aload_n 0, 1) := by decide +kernel
theorem dX3_tell_21 : decode cX3_tell 21 = .ok (.getfield 15, 3) := by decide +kernel
theorem dX3_tell_24 : decode cX3_tell 24 = .ok (.iload_n 3, 1) := by decide +kernel
theorem dX3_tell_25 : decode cX3_tell 25 = .ok (.aload_n 2, 1) := by decide +kernel
theorem dX3_tell_26 : decode cX3_tell 26 = .ok (.iload_n 3, 1) := by decide +kernel
theorem dX3_tell_27 : decode cX3_tell 27 = .ok (.iaload, 1) := by decide +kernel
theorem dX3_tell_28 : decode cX3_tell 28 = .ok (.iastore, 1) := by decide +kernel
theorem dX3_tell_29 : decode cX3_tell 29 = .ok (.iinc 3 1, 3) := by decide +kernel
theorem dX3_tell_32 : decode cX3_tell 32 = .ok (.goto (-30), 3) := by decide +kernel
theorem dX3_tell_35 : decode cX3_tell 35 = .ok (.return_, 1) := by decide +kernel
theorem dX3_told_0 : decode cX3_told 0 = .ok (.iload_n 1, 1) := by decide +kernel
theorem dX3_told_1 : decode cX3_told 1 = .ok (.tableswitch 78 0 6 #[43, 48, 53, 58, 63, 68, 73], 43) := by decide +kernel
theorem dX3_told_44 : decode cX3_told 44 = .ok (.aload_n 0, 1) := by decide +kernel
theorem dX3_told_45 : decode cX3_told 45 = .ok (.getfield 18, 3) := by decide +kernel
theorem dX3_told_48 : decode cX3_told 48 = .ok (.ireturn, 1) := by decide +kernel
theorem dX3_told_49 : decode cX3_told 49 = .ok (.aload_n 0, 1) := by decide +kernel
theorem dX3_told_50 : decode cX3_told 50 = .ok (.getfield 22, 3) := by decide +kernel
theorem dX3_told_53 : decode cX3_told 53 = .ok (.ireturn, 1) := by decide +kernel
theorem dX3_told_54 : decode cX3_told 54 = .ok (.aload_n 0, 1) := by decide +kernel
theorem dX3_told_55 : decode cX3_told 55 = .ok (.getfield 25, 3) := by decide +kernel
theorem dX3_told_58 : decode cX3_told 58 = .ok (.ireturn, 1) := by decide +kernel
theorem dX3_told_59 : decode cX3_told 59 = .ok (.aload_n 0, 1) := by decide +kernel
theorem dX3_told_60 : decode cX3_told 60 = .ok (.getfield 28, 3) := by decide +kernel
theorem dX3_told_63 : decode cX3_told 63 = .ok (.ireturn, 1) := by decide +kernel
theorem dX3_told_64 : decode cX3_told 64 = .ok (.aload_n 0, 1) := by decide +kernel
theorem dX3_told_65 : decode cX3_told 65 = .ok (.getfield 31, 3) := by decide +kernel
theorem dX3_told_68 : decode cX3_told 68 = .ok (.ireturn, 1) := by decide +kernel
theorem dX3_told_69 : decode cX3_told 69 = .ok (.aload_n 0, 1) := by decide +kernel
theorem dX3_told_70 : decode cX3_told 70 = .ok (.getfield 34, 3) := by decide +kernel
theorem dX3_told_73 : decode cX3_told 73 = .ok (.ireturn, 1) := by decide +kernel
theorem dX3_told_74 : decode cX3_told 74 = .ok (.aload_n 0, 1) := by decide +kernel
theorem dX3_told_75 : decode cX3_told 75 = .ok (.getfield 37, 3) := by decide +kernel
theorem dX3_told_78 : decode cX3_told 78 = .ok (.ireturn, 1) := by decide +kernel
theorem dX3_told_79 : decode cX3_told 79 = .ok (.iconst (-1), 1) := by decide +kernel
theorem dX3_told_80 : decode cX3_told 80 = .ok (.ireturn, 1) := by decide +kernel
theorem dX4_init_0 : decode cX4_init 0 = .ok (.aload_n 0, 1) := by decide +kernel
theorem dX4_init_1 : decode cX4_init 1 = .ok (.invokespecial 1, 3) := by decide +kernel
theorem dX4_init_4 : decode cX4_init 4 = .ok (.aload_n 0, 1) := by decide +kernel
theorem dX4_init_5 : decode cX4_init 5 = .ok (.iconst 1, 1) := by decide +kernel
theorem dX4_init_6 : decode cX4_init 6 = .ok (.putfield 7, 3) := by decide +kernel
theorem dX4_init_9 : decode cX4_init 9 = .ok (.aload_n 0, 1) := by decide +kernel
theorem dX4_init_10 : decode cX4_init 10 = .ok (.iload_n 1, 1) := by decide +kernel
theorem dX4_init_11 : decode cX4_init 11 = .ok (.putfield 13, 3) := by decide +kernel
theorem dX4_init_14 : decode cX4_init 14 = .ok (.aload_n 0, 1) := by decide +kernel
theorem dX4_init_15 : decode cX4_init 15 = .ok (.aload_n 2, 1) := by decide +kernel
theorem dX4_init_16 : decode cX4_init 16 = .ok (.putfield 17, 3) := by decide +kernel
theorem dX4_init_19 : decode cX4_init 19 = .ok (.aload_n 0, 1) := by decide +kernel
theorem dX4_init_20 : decode cX4_init 20 = .ok (.aload_n 3, 1) := by decide +kernel
theorem dX4_init_21 : decode cX4_init 21 = .ok (.putfield 21, 3) := by decide +kernel
theorem dX4_init_24 : decode cX4_init 24 = .ok (.aload_n 0, 1) := by decide +kernel
theorem dX4_init_25 : decode cX4_init 25 = .ok (.new 25, 3) := by decide +kernel
theorem dX4_init_28 : decode cX4_init 28 = .ok (.dup, 1) := by decide +kernel
theorem dX4_init_29 : decode cX4_init 29 = .ok (.aload_n 2, 1) := by decide +kernel
theorem dX4_init_30 : decode cX4_init 30 = .ok (.getfield 27, 3) := by decide +kernel
theorem dX4_init_33 : decode cX4_init 33 = .ok (.invokespecial 32, 3) := by decide +kernel
theorem dX4_init_36 : decode cX4_init 36 = .ok (.putfield 35, 3) := by decide +kernel
theorem dX4_init_39 : decode cX4_init 39 = .ok (.return_, 1) := by decide +kernel
theorem dX5_init_0 : decode cX5_init 0 = .ok (.aload_n 0, 1) := by decide +kernel
theorem dX5_init_1 : decode cX5_init 1 = .ok (.invokespecial 1, 3) := by decide +kernel
theorem dX5_init_4 : decode cX5_init 4 = .ok (.aload_n 0, 1) := by decide +kernel
theorem dX5_init_5 : decode cX5_init 5 = .ok (.aload_n 1, 1) := by decide +kernel
theorem dX5_init_6 : decode cX5_init 6 = .ok (.putfield 7, 3) := by decide +kernel
theorem dX5_init_9 : decode cX5_init 9 = .ok (.aload_n 0, 1) := by decide +kernel
theorem dX5_init_10 : decode cX5_init 10 = .ok (.aload_n 1, 1) := by decide +kernel
theorem dX5_init_11 : decode cX5_init 11 = .ok (.getfield 13, 3) := by decide +kernel
theorem dX5_init_14 : decode cX5_init 14 = .ok (.anewarray 19, 3) := by decide +kernel
theorem dX5_init_17 : decode cX5_init 17 = .ok (.putfield 21, 3) := by decide +kernel
theorem dX5_init_20 : decode cX5_init 20 = .ok (.iconst 0, 1) := by decide +kernel
theorem dX5_init_21 : decode cX5_init 21 = .ok (.istore_n 2, 1) := by decide +kernel
theorem dX5_init_22 : decode cX5_init 22 = .ok (.iload_n 2, 1) := by decide +kernel
theorem dX5_init_23 : decode cX5_init 23 = .ok (.aload_n 0, 1) := by decide +kernel
theorem dX5_init_24 : decode cX5_init 24 = .ok (.getfield 21, 3) := by decide +kernel
theorem dX5_init_27 : decode cX5_init 27 = .ok (.arraylength, 1) := by decide +kernel
theorem dX5_init_28 : decode cX5_init 28 = .ok (.if_icmp .ge 26, 3) := by decide +kernel
theorem dX5_init_31 : decode cX5_init 31 = .ok (.aload_n 0, 1) := by decide +kernel
theorem dX5_init_32 : decode cX5_init 32 = .ok (.getfield 21, 3) := by decide +kernel
theorem dX5_init_35 : decode cX5_init 35 = .ok (.iload_n 2, 1) := by decide +kernel
theorem dX5_init_36 : decode cX5_init 36 = .ok (.new 19, 3) := by decide +kernel
theorem dX5_init_39 : decode cX5_init 39 = .ok (.dup, 1) := by decide +kernel
theorem dX5_init_40 : decode cX5_init 40 = .ok (.aload_n 1, 1) := by decide +kernel
theorem dX5_init_41 : decode cX5_init 41 = .ok (.getfield 25, 3) := by decide +kernel
theorem dX5_init_44 : decode cX5_init 44 = .ok (.invokespecial 28, 3) := by decide +kernel
theorem dX5_init_47 : decode cX5_init 47 = .ok (.aastore, 1) := by decide +kernel
theorem dX5_init_48 : decode cX5_init 48 = .ok (.iinc 2 1, 3) := by decide +kernel
theorem dX5_init_51 : decode cX5_init 51 = .ok (.goto (-29), 3) := by decide +kernel
theorem dX5_init_54 : decode cX5_init 54 = .ok (.aload_n 0, 1) := by decide +kernel
theorem dX5_init_55 : decode cX5_init 55 = .ok (.new 19, 3) := by decide +kernel
theorem dX5_init_58 : decode cX5_init 58 = .ok (.dup, 1) := by decide +kernel
theorem dX5_init_59 : decode cX5_init 59 = .ok (.aload_n 1, 1) := by decide +kernel
theorem dX5_init_60 : decode cX5_init 60 = .ok (.getfield 25, 3) := by decide +kernel
theorem dX5_init_63 : decode cX5_init 63 = .ok (.invokespecial 28, 3) := by decide +kernel
theorem dX5_init_66 : decode cX5_init 66 = .ok (.putfield 31, 3) := by decide +kernel
theorem dX5_init_69 : decode cX5_init 69 = .ok (.aload_n 0, 1) := by decide +kernel
theorem dX5_init_70 : decode cX5_init 70 = .ok (.new 19, 3) := by decide +kernel
theorem dX5_init_73 : decode cX5_init 73 = .ok (.dup, 1) := by decide +kernel
theorem dX5_init_74 : decode cX5_init 74 = .ok (.aload_n 1, 1) := by decide +kernel
theorem dX5_init_75 : decode cX5_init 75 = .ok (.getfield 25, 3) := by decide +kernel
theorem dX5_init_78 : decode cX5_init 78 = .ok (.invokespecial 28, 3) := by decide +kernel
theorem dX5_init_81 : decode cX5_init 81 = .ok (.putfield 35, 3) := by decide +kernel
theorem dX5_init_84 : decode cX5_init 84 = .ok (.return_, 1) := by decide +kernel
theorem dX5_has_0 : decode cX5_has 0 = .ok (.iload_n 1, 1) := by decide +kernel
theorem dX5_has_1 : decode cX5_has 1 = .ok (.ifCond .lt 15, 3) := by decide +kernel
theorem dX5_has_4 : decode cX5_has 4 = .ok (.iload_n 1, 1) := by decide +kernel
theorem dX5_has_5 : decode cX5_has 5 = .ok (.aload_n 0, 1) := by decide +kernel
theorem dX5_has_6 : decode cX5_has 6 = .ok (.getfield 38, 3) := by decide +kernel
theorem dX5_has_9 : decode cX5_has 9 = .ok (.if_icmp .ge 7, 3) := by decide +kernel
theorem dX5_has_12 : decode cX5_has 12 = .ok (.iconst 1, 1) := by decide +kernel
theorem dX5_has_13 : decode cX5_has 13 = .ok (.goto 4, 3) := by decide +kernel
theorem dX5_has_16 : decode cX5_has 16 = .ok (.iconst 0, 1) := by decide +kernel
theorem dX5_has_17 : decode cX5_has 17 = .ok (.ireturn, 1) := by decide +kernel
theorem dX5_take_0 : decode cX5_take 0 = .ok (.aload_n 0, 1) := by decide +kernel
theorem dX5_take_1 : decode cX5_take 1 = .ok (.getfield 21, 3) := by decide +kernel
theorem dX5_take_4 : decode cX5_take 4 = .ok (.iload_n 1, 1) := by decide +kernel
theorem dX5_take_5 : decode cX5_take 5 = .ok (.aaload, 1) := by decide +kernel
theorem dX5_take_6 : decode cX5_take 6 = .ok (.astore_n 2, 1) := by decide +kernel
theorem dX5_take_7 : decode cX5_take 7 = .ok (.iload_n 1, 1) := by decide +kernel
theorem dX5_take_8 : decode cX5_take 8 = .ok (.iconst 1, 1) := by decide +kernel
theorem dX5_take_9 : decode cX5_take 9 = .ok (.iadd, 1) := by decide +kernel
theorem dX5_take_10 : decode cX5_take 10 = .ok (.istore_n 3, 1) := by decide +kernel
theorem dX5_take_11 : decode cX5_take 11 = .ok (.iload_n 3, 1) := by decide +kernel
theorem dX5_take_12 : decode cX5_take 12 = .ok (.aload_n 0, 1) := by decide +kernel
theorem dX5_take_13 : decode cX5_take 13 = .ok (.getfield 38, 3) := by decide +kernel
theorem dX5_take_16 : decode cX5_take 16 = .ok (.if_icmp .ge 23, 3) := by decide +kernel
theorem dX5_take_19 : decode cX5_take 19 = .ok (.aload_n 0, 1) := by decide +kernel
theorem dX5_take_20 : decode cX5_take 20 = .ok (.getfield 21, 3) := by decide +kernel
theorem dX5_take_23 : decode cX5_take 23 = .ok (.iload_n 3, 1) := by decide +kernel
theorem dX5_take_24 : decode cX5_take 24 = .ok (.iconst 1, 1) := by decide +kernel
theorem dX5_take_25 : decode cX5_take 25 = .ok (.isub, 1) := by decide +kernel
theorem dX5_take_26 : decode cX5_take 26 = .ok (.aload_n 0, 1) := by decide +kernel
theorem dX5_take_27 : decode cX5_take 27 = .ok (.getfield 21, 3) := by decide +kernel
theorem dX5_take_30 : decode cX5_take 30 = .ok (.iload_n 3, 1) := by decide +kernel
theorem dX5_take_31 : decode cX5_take 31 = .ok (.aaload, 1) := by decide +kernel
theorem dX5_take_32 : decode cX5_take 32 = .ok (.aastore, 1) := by decide +kernel
theorem dX5_take_33 : decode cX5_take 33 = .ok (.iinc 3 1, 3) := by decide +kernel
theorem dX5_take_36 : decode cX5_take 36 = .ok (.goto (-25), 3) := by decide +kernel
theorem dX5_take_39 : decode cX5_take 39 = .ok (.aload_n 0, 1) := by decide +kernel
theorem dX5_take_40 : decode cX5_take 40 = .ok (.dup, 1) := by decide +kernel
theorem dX5_take_41 : decode cX5_take 41 = .ok (.getfield 38, 3) := by decide +kernel
theorem dX5_take_44 : decode cX5_take 44 = .ok (.iconst 1, 1) := by decide +kernel
theorem dX5_take_45 : decode cX5_take 45 = .ok (.isub, 1) := by decide +kernel
theorem dX5_take_46 : decode cX5_take 46 = .ok (.putfield 38, 3) := by decide +kernel
theorem dX5_take_49 : decode cX5_take 49 = .ok (.aload_n 0, 1) := by decide +kernel
theorem dX5_take_50 : decode cX5_take 50 = .ok (.getfield 21, 3) := by decide +kernel
theorem dX5_take_53 : decode cX5_take 53 = .ok (.aload_n 0, 1) := by decide +kernel
theorem dX5_take_54 : decode cX5_take 54 = .ok (.getfield 38, 3) := by decide +kernel
theorem dX5_take_57 : decode cX5_take 57 = .ok (.aload_n 0, 1) := by decide +kernel
theorem dX5_take_58 : decode cX5_take 58 = .ok (.getfield 35, 3) := by decide +kernel
theorem dX5_take_61 : decode cX5_take 61 = .ok (.aastore, 1) := by decide +kernel
theorem dX5_take_62 : decode cX5_take 62 = .ok (.aload_n 0, 1) := by decide +kernel
theorem dX5_take_63 : decode cX5_take 63 = .ok (.aload_n 2, 1) := by decide +kernel
theorem dX5_take_64 : decode cX5_take 64 = .ok (.putfield 35, 3) := by decide +kernel
theorem dX5_take_67 : decode cX5_take 67 = .ok (.aload_n 2, 1) := by decide +kernel
theorem dX5_take_68 : decode cX5_take 68 = .ok (.areturn, 1) := by decide +kernel
theorem dX5_startDraft_0 : decode cX5_startDraft 0 = .ok (.aload_n 0, 1) := by decide +kernel
theorem dX5_startDraft_1 : decode cX5_startDraft 1 = .ok (.getfield 31, 3) := by decide +kernel
theorem dX5_startDraft_4 : decode cX5_startDraft 4 = .ok (.iload_n 1, 1) := by decide +kernel
theorem dX5_startDraft_5 : decode cX5_startDraft 5 = .ok (.putfield 41, 3) := by decide +kernel
theorem dX5_startDraft_8 : decode cX5_startDraft 8 = .ok (.aload_n 0, 1) := by decide +kernel
theorem dX5_startDraft_9 : decode cX5_startDraft 9 = .ok (.getfield 31, 3) := by decide +kernel
theorem dX5_startDraft_12 : decode cX5_startDraft 12 = .ok (.iload_n 2, 1) := by decide +kernel
theorem dX5_startDraft_13 : decode cX5_startDraft 13 = .ok (.putfield 44, 3) := by decide +kernel
theorem dX5_startDraft_16 : decode cX5_startDraft 16 = .ok (.aload_n 0, 1) := by decide +kernel
theorem dX5_startDraft_17 : decode cX5_startDraft 17 = .ok (.getfield 31, 3) := by decide +kernel
theorem dX5_startDraft_20 : decode cX5_startDraft 20 = .ok (.iload_n 3, 1) := by decide +kernel
theorem dX5_startDraft_21 : decode cX5_startDraft 21 = .ok (.putfield 47, 3) := by decide +kernel
theorem dX5_startDraft_24 : decode cX5_startDraft 24 = .ok (.aload_n 0, 1) := by decide +kernel
theorem dX5_startDraft_25 : decode cX5_startDraft 25 = .ok (.getfield 31, 3) := by decide +kernel
theorem dX5_startDraft_28 : decode cX5_startDraft 28 = .ok (.iconst 0, 1) := by decide +kernel
theorem dX5_startDraft_29 : decode cX5_startDraft 29 = .ok (.putfield 50, 3) := by decide +kernel
theorem dX5_startDraft_32 : decode cX5_startDraft 32 = .ok (.aload_n 0, 1) := by decide +kernel
theorem dX5_startDraft_33 : decode cX5_startDraft 33 = .ok (.getfield 31, 3) := by decide +kernel
theorem dX5_startDraft_36 : decode cX5_startDraft 36 = .ok (.iconst 0, 1) := by decide +kernel
theorem dX5_startDraft_37 : decode cX5_startDraft 37 = .ok (.putfield 53, 3) := by decide +kernel
theorem dX5_startDraft_40 : decode cX5_startDraft 40 = .ok (.aload_n 0, 1) := by decide +kernel
theorem dX5_startDraft_41 : decode cX5_startDraft 41 = .ok (.getfield 31, 3) := by decide +kernel
theorem dX5_startDraft_44 : decode cX5_startDraft 44 = .ok (.iconst 0, 1) := by decide +kernel
theorem dX5_startDraft_45 : decode cX5_startDraft 45 = .ok (.putfield 56, 3) := by decide +kernel
theorem dX5_startDraft_48 : decode cX5_startDraft 48 = .ok (.return_, 1) := by decide +kernel
theorem dX5_startDraftOfVote_0 : decode cX5_startDraftOfVote 0 = .ok (.aload_n 0, 1) := by decide +kernel
theorem dX5_startDraftOfVote_1 : decode cX5_startDraftOfVote 1 = .ok (.iload_n 1, 1) := by decide +kernel
theorem dX5_startDraftOfVote_2 : decode cX5_startDraftOfVote 2 = .ok (.iload_n 2, 1) := by decide +kernel
theorem dX5_startDraftOfVote_3 : decode cX5_startDraftOfVote 3 = .ok (.iload_n 3, 1) := by decide +kernel
theorem dX5_startDraftOfVote_4 : decode cX5_startDraftOfVote 4 = .ok (.invokevirtual 59, 3) := by decide +kernel
theorem dX5_startDraftOfVote_7 : decode cX5_startDraftOfVote 7 = .ok (.aload_n 0, 1) := by decide +kernel
theorem dX5_startDraftOfVote_8 : decode cX5_startDraftOfVote 8 = .ok (.getfield 31, 3) := by decide +kernel
theorem dX5_startDraftOfVote_11 : decode cX5_startDraftOfVote 11 = .ok (.iload 4, 2) := by decide +kernel
theorem dX5_startDraftOfVote_13 : decode cX5_startDraftOfVote 13 = .ok (.putfield 50, 3) := by decide +kernel
theorem dX5_startDraftOfVote_16 : decode cX5_startDraftOfVote 16 = .ok (.aload_n 0, 1) := by decide +kernel
theorem dX5_startDraftOfVote_17 : decode cX5_startDraftOfVote 17 = .ok (.getfield 31, 3) := by decide +kernel
theorem dX5_startDraftOfVote_20 : decode cX5_startDraftOfVote 20 = .ok (.iload 5, 2) := by decide +kernel
theorem dX5_startDraftOfVote_22 : decode cX5_startDraftOfVote 22 = .ok (.putfield 53, 3) := by decide +kernel
theorem dX5_startDraftOfVote_25 : decode cX5_startDraftOfVote 25 = .ok (.aload_n 0, 1) := by decide +kernel
theorem dX5_startDraftOfVote_26 : decode cX5_startDraftOfVote 26 = .ok (.getfield 31, 3) := by decide +kernel
theorem dX5_startDraftOfVote_29 : decode cX5_startDraftOfVote 29 = .ok (.iload 6, 2) := by decide +kernel
theorem dX5_startDraftOfVote_31 : decode cX5_startDraftOfVote 31 = .ok (.putfield 56, 3) := by decide +kernel
theorem dX5_startDraftOfVote_34 : decode cX5_startDraftOfVote 34 = .ok (.return_, 1) := by decide +kernel
theorem dX5_postDraftToAcceptors_0 : decode cX5_postDraftToAcceptors 0 = .ok (.iconst 0, 1) := by decide +kernel
theorem dX5_postDraftToAcceptors_1 : decode cX5_postDraftToAcceptors 1 = .ok (.istore_n 1, 1) := by decide +kernel
theorem dX5_postDraftToAcceptors_2 : decode cX5_postDraftToAcceptors 2 = .ok (.iload_n 1, 1) := by decide +kernel
theorem dX5_postDraftToAcceptors_3 : decode cX5_postDraftToAcceptors 3 = .ok (.aload_n 0, 1) := by decide +kernel
theorem dX5_postDraftToAcceptors_4 : decode cX5_postDraftToAcceptors 4 = .ok (.getfield 7, 3) := by decide +kernel
theorem dX5_postDraftToAcceptors_7 : decode cX5_postDraftToAcceptors 7 = .ok (.getfield 63, 3) := by decide +kernel
theorem dX5_postDraftToAcceptors_10 : decode cX5_postDraftToAcceptors 10 = .ok (.if_icmp .ge 27, 3) := by decide +kernel
theorem dX5_postDraftToAcceptors_13 : decode cX5_postDraftToAcceptors 13 = .ok (.aload_n 0, 1) := by decide +kernel
theorem dX5_postDraftToAcceptors_14 : decode cX5_postDraftToAcceptors 14 = .ok (.aload_n 0, 1) := by decide +kernel
theorem dX5_postDraftToAcceptors_15 : decode cX5_postDraftToAcceptors 15 = .ok (.getfield 31, 3) := by decide +kernel
theorem dX5_postDraftToAcceptors_18 : decode cX5_postDraftToAcceptors 18 = .ok (.aload_n 0, 1) := by decide +kernel
theorem dX5_postDraftToAcceptors_19 : decode cX5_postDraftToAcceptors 19 = .ok (.getfield 7, 3) := by decide +kernel
theorem dX5_postDraftToAcceptors_22 : decode cX5_postDraftToAcceptors 22 = .ok (.getfield 25, 3) := by decide +kernel
theorem dX5_postDraftToAcceptors_25 : decode cX5_postDraftToAcceptors 25 = .ok (.iload_n 1, 1) := by decide +kernel
theorem dX5_postDraftToAcceptors_26 : decode cX5_postDraftToAcceptors 26 = .ok (.iadd, 1) := by decide +kernel
theorem dX5_postDraftToAcceptors_27 : decode cX5_postDraftToAcceptors 27 = .ok (.invokevirtual 66, 3) := by decide +kernel
theorem dX5_postDraftToAcceptors_30 : decode cX5_postDraftToAcceptors 30 = .ok (.pop, 1) := by decide +kernel
theorem dX5_postDraftToAcceptors_31 : decode cX5_postDraftToAcceptors 31 = .ok (.iinc 1 1, 3) := by decide +kernel
theorem dX5_postDraftToAcceptors_34 : decode cX5_postDraftToAcceptors 34 = .ok (.goto (-32), 3) := by decide +kernel
theorem dX5_postDraftToAcceptors_37 : decode cX5_postDraftToAcceptors 37 = .ok (.return_, 1) := by decide +kernel
theorem dX5_post_0 : decode cX5_post 0 = .ok (.aload_n 0, 1) := by decide +kernel
theorem dX5_post_1 : decode cX5_post 1 = .ok (.dup, 1) := by decide +kernel
theorem dX5_post_2 : decode cX5_post 2 = .ok (.getfield 70, 3) := by decide +kernel
theorem dX5_post_5 : decode cX5_post 5 = .ok (.iconst 1, 1) := by decide +kernel
theorem dX5_post_6 : decode cX5_post 6 = .ok (.iadd, 1) := by decide +kernel
theorem dX5_post_7 : decode cX5_post 7 = .ok (.putfield 70, 3) := by decide +kernel
theorem dX5_post_10 : decode cX5_post 10 = .ok (.aload_n 0, 1) := by decide +kernel
theorem dX5_post_11 : decode cX5_post 11 = .ok (.getfield 38, 3) := by decide +kernel
theorem dX5_post_14 : decode cX5_post 14 = .ok (.aload_n 0, 1) := by decide +kernel
theorem dX5_post_15 : decode cX5_post 15 = .ok (.getfield 21, 3) := by decide +kernel
theorem dX5_post_18 : decode cX5_post 18 = .ok (.arraylength, 1) := by decide +kernel
theorem dX5_post_19 : decode cX5_post 19 = .ok (.if_icmp .lt 15, 3) := by decide +kernel
theorem dX5_post_22 : decode cX5_post 22 = .ok (.aload_n 0, 1) := by decide +kernel
theorem dX5_post_23 : decode cX5_post 23 = .ok (.dup, 1) := by decide +kernel
theorem dX5_post_24 : decode cX5_post 24 = .ok (.getfield 73, 3) := by decide +kernel
theorem dX5_post_27 : decode cX5_post 27 = .ok (.iconst 1, 1) := by decide +kernel
theorem dX5_post_28 : decode cX5_post 28 = .ok (.iadd, 1) := by decide +kernel
theorem dX5_post_29 : decode cX5_post 29 = .ok (.putfield 73, 3) := by decide +kernel
theorem dX5_post_32 : decode cX5_post 32 = .ok (.iconst 0, 1) := by decide +kernel
theorem dX5_post_33 : decode cX5_post 33 = .ok (.ireturn, 1) := by decide +kernel
theorem dX5_post_34 : decode cX5_post 34 = .ok (.aload_n 0, 1) := by decide +kernel
theorem dX5_post_35 : decode cX5_post 35 = .ok (.getfield 21, 3) := by decide +kernel
theorem dX5_post_38 : decode cX5_post 38 = .ok (.aload_n 0, 1) := by decide +kernel
theorem dX5_post_39 : decode cX5_post 39 = .ok (.getfield 38, 3) := by decide +kernel
theorem dX5_post_42 : decode cX5_post 42 = .ok (.aaload, 1) := by decide +kernel
theorem dX5_post_43 : decode cX5_post 43 = .ok (.aload_n 1, 1) := by decide +kernel
theorem dX5_post_44 : decode cX5_post 44 = .ok (.iload_n 2, 1) := by decide +kernel
theorem dX5_post_45 : decode cX5_post 45 = .ok (.invokevirtual 76, 3) := by decide +kernel
theorem dX5_post_48 : decode cX5_post 48 = .ok (.aload_n 0, 1) := by decide +kernel
theorem dX5_post_49 : decode cX5_post 49 = .ok (.dup, 1) := by decide +kernel
theorem dX5_post_50 : decode cX5_post 50 = .ok (.getfield 38, 3) := by decide +kernel
theorem dX5_post_53 : decode cX5_post 53 = .ok (.iconst 1, 1) := by decide +kernel
theorem dX5_post_54 : decode cX5_post 54 = .ok (.iadd, 1) := by decide +kernel
theorem dX5_post_55 : decode cX5_post 55 = .ok (.putfield 38, 3) := by decide +kernel
theorem dX5_post_58 : decode cX5_post 58 = .ok (.iconst 1, 1) := by decide +kernel
theorem dX5_post_59 : decode cX5_post 59 = .ok (.ireturn, 1) := by decide +kernel
theorem dX6_init_0 : decode cX6_init 0 = .ok (.aload_n 0, 1) := by decide +kernel
theorem dX6_init_1 : decode cX6_init 1 = .ok (.iload_n 1, 1) := by decide +kernel
theorem dX6_init_2 : decode cX6_init 2 = .ok (.aload_n 2, 1) := by decide +kernel
theorem dX6_init_3 : decode cX6_init 3 = .ok (.aload 4, 2) := by decide +kernel
theorem dX6_init_5 : decode cX6_init 5 = .ok (.invokespecial 3, 3) := by decide +kernel
theorem dX6_init_8 : decode cX6_init 8 = .ok (.aload_n 0, 1) := by decide +kernel
theorem dX6_init_9 : decode cX6_init 9 = .ok (.aload_n 3, 1) := by decide +kernel
theorem dX6_init_10 : decode cX6_init 10 = .ok (.putfield 9, 3) := by decide +kernel
theorem dX6_init_13 : decode cX6_init 13 = .ok (.aload_n 0, 1) := by decide +kernel
theorem dX6_init_14 : decode cX6_init 14 = .ok (.aload_n 2, 1) := by decide +kernel
theorem dX6_init_15 : decode cX6_init 15 = .ok (.getfield 15, 3) := by decide +kernel
theorem dX6_init_18 : decode cX6_init 18 = .ok (.newarray .boolean, 2) := by decide +kernel
theorem dX6_init_20 : decode cX6_init 20 = .ok (.putfield 21, 3) := by decide +kernel
theorem dX6_init_23 : decode cX6_init 23 = .ok (.aload_n 0, 1) := by decide +kernel
theorem dX6_init_24 : decode cX6_init 24 = .ok (.aload_n 2, 1) := by decide +kernel
theorem dX6_init_25 : decode cX6_init 25 = .ok (.getfield 15, 3) := by decide +kernel
theorem dX6_init_28 : decode cX6_init 28 = .ok (.newarray .int, 2) := by decide +kernel
theorem dX6_init_30 : decode cX6_init 30 = .ok (.putfield 25, 3) := by decide +kernel
theorem dX6_init_33 : decode cX6_init 33 = .ok (.aload_n 0, 1) := by decide +kernel
theorem dX6_init_34 : decode cX6_init 34 = .ok (.aload_n 2, 1) := by decide +kernel
theorem dX6_init_35 : decode cX6_init 35 = .ok (.getfield 15, 3) := by decide +kernel
theorem dX6_init_38 : decode cX6_init 38 = .ok (.newarray .int, 2) := by decide +kernel
theorem dX6_init_40 : decode cX6_init 40 = .ok (.putfield 29, 3) := by decide +kernel
theorem dX6_init_43 : decode cX6_init 43 = .ok (.return_, 1) := by decide +kernel
theorem dX6_hear_0 : decode cX6_hear 0 = .ok (.aload_n 1, 1) := by decide +kernel
theorem dX6_hear_1 : decode cX6_hear 1 = .ok (.getfield 32, 3) := by decide +kernel
theorem dX6_hear_4 : decode cX6_hear 4 = .ok (.lookupswitch 50 #[(1, 28), (6, 37)], 28) := by decide +kernel
theorem dX6_hear_32 : decode cX6_hear 32 = .ok (.aload_n 0, 1) := by decide +kernel
theorem dX6_hear_33 : decode cX6_hear 33 = .ok (.aload_n 1, 1) := by decide +kernel
theorem dX6_hear_34 : decode cX6_hear 34 = .ok (.getfield 37, 3) := by decide +kernel
theorem dX6_hear_37 : decode cX6_hear 37 = .ok (.invokevirtual 40, 3) := by decide +kernel
theorem dX6_hear_40 : decode cX6_hear 40 = .ok (.ireturn, 1) := by decide +kernel
theorem dX6_hear_41 : decode cX6_hear 41 = .ok (.aload_n 0, 1) := by decide +kernel
theorem dX6_hear_42 : decode cX6_hear 42 = .ok (.aload_n 1, 1) := by decide +kernel
theorem dX6_hear_43 : decode cX6_hear 43 = .ok (.getfield 37, 3) := by decide +kernel
theorem dX6_hear_46 : decode cX6_hear 46 = .ok (.aload_n 1, 1) := by decide +kernel
theorem dX6_hear_47 : decode cX6_hear 47 = .ok (.getfield 44, 3) := by decide +kernel
theorem dX6_hear_50 : decode cX6_hear 50 = .ok (.invokevirtual 47, 3) := by decide +kernel
theorem dX6_hear_53 : decode cX6_hear 53 = .ok (.ireturn, 1) := by decide +kernel
theorem dX6_hear_54 : decode cX6_hear 54 = .ok (.iconst 1, 1) := by decide +kernel
theorem dX6_hear_55 : decode cX6_hear 55 = .ok (.ireturn, 1) := by decide +kernel
theorem dX6_hearPrepare_0 : decode cX6_hearPrepare 0 = .ok (.aload_n 0, 1) := by decide +kernel
theorem dX6_hearPrepare_1 : decode cX6_hearPrepare 1 = .ok (.getfield 29, 3) := by decide +kernel
theorem dX6_hearPrepare_4 : decode cX6_hearPrepare 4 = .ok (.iload_n 1, 1) := by decide +kernel
theorem dX6_hearPrepare_5 : decode cX6_hearPrepare 5 = .ok (.iaload, 1) := by decide +kernel
theorem dX6_hearPrepare_6 : decode cX6_hearPrepare 6 = .ok (.ifCond .eq 5, 3) := by decide +kernel
theorem dX6_hearPrepare_9 : decode cX6_hearPrepare 9 = .ok (.iconst 1, 1) := by decide +kernel
theorem dX6_hearPrepare_10 : decode cX6_hearPrepare 10 = .ok (.ireturn, 1) := by decide +kernel
theorem dX6_hearPrepare_11 : decode cX6_hearPrepare 11 = .ok (.aload_n 0, 1) := by decide +kernel
theorem dX6_hearPrepare_12 : decode cX6_hearPrepare 12 = .ok (.getfield 25, 3) := by decide +kernel
theorem dX6_hearPrepare_15 : decode cX6_hearPrepare 15 = .ok (.iload_n 1, 1) := by decide +kernel
theorem dX6_hearPrepare_16 : decode cX6_hearPrepare 16 = .ok (.iaload, 1) := by decide +kernel
theorem dX6_hearPrepare_17 : decode cX6_hearPrepare 17 = .ok (.ifCond .ne 20, 3) := by decide +kernel
theorem dX6_hearPrepare_20 : decode cX6_hearPrepare 20 = .ok (.aload_n 0, 1) := by decide +kernel
theorem dX6_hearPrepare_21 : decode cX6_hearPrepare 21 = .ok (.getfield 51, 3) := by decide +kernel
theorem dX6_hearPrepare_24 : decode cX6_hearPrepare 24 = .ok (.invokevirtual 55, 3) := by decide +kernel
theorem dX6_hearPrepare_27 : decode cX6_hearPrepare 27 = .ok (.ifCond .eq 5, 3) := by decide +kernel
theorem dX6_hearPrepare_30 : decode cX6_hearPrepare 30 = .ok (.iconst 0, 1) := by decide +kernel
theorem dX6_hearPrepare_31 : decode cX6_hearPrepare 31 = .ok (.ireturn, 1) := by decide +kernel
theorem dX6_hearPrepare_32 : decode cX6_hearPrepare 32 = .ok (.aload_n 0, 1) := by decide +kernel
theorem dX6_hearPrepare_33 : decode cX6_hearPrepare 33 = .ok (.iload_n 1, 1) := by decide +kernel
theorem dX6_hearPrepare_34 : decode cX6_hearPrepare 34 = .ok (.invokevirtual 61, 3) := by decide +kernel
theorem dX6_hearPrepare_37 : decode cX6_hearPrepare 37 = .ok (.aload_n 0, 1) := by decide +kernel
theorem dX6_hearPrepare_38 : decode cX6_hearPrepare 38 = .ok (.getfield 64, 3) := by decide +kernel
theorem dX6_hearPrepare_41 : decode cX6_hearPrepare 41 = .ok (.iconst 2, 1) := by decide +kernel
theorem dX6_hearPrepare_42 : decode cX6_hearPrepare 42 = .ok (.iload_n 1, 1) := by decide +kernel
theorem dX6_hearPrepare_43 : decode cX6_hearPrepare 43 = .ok (.aload_n 0, 1) := by decide +kernel
theorem dX6_hearPrepare_44 : decode cX6_hearPrepare 44 = .ok (.getfield 68, 3) := by decide +kernel
theorem dX6_hearPrepare_47 : decode cX6_hearPrepare 47 = .ok (.iconst 0, 1) := by decide +kernel
theorem dX6_hearPrepare_48 : decode cX6_hearPrepare 48 = .ok (.aload_n 0, 1) := by decide +kernel
theorem dX6_hearPrepare_49 : decode cX6_hearPrepare 49 = .ok (.getfield 68, 3) := by decide +kernel
theorem dX6_hearPrepare_52 : decode cX6_hearPrepare 52 = .ok (.aload_n 0, 1) := by decide +kernel
theorem dX6_hearPrepare_53 : decode cX6_hearPrepare 53 = .ok (.getfield 25, 3) := by decide +kernel
theorem dX6_hearPrepare_56 : decode cX6_hearPrepare 56 = .ok (.iload_n 1, 1) := by decide +kernel
theorem dX6_hearPrepare_57 : decode cX6_hearPrepare 57 = .ok (.iaload, 1) := by decide +kernel
theorem dX6_hearPrepare_58 : decode cX6_hearPrepare 58 = .ok (.invokevirtual 71, 3) := by decide +kernel
theorem dX6_hearPrepare_61 : decode cX6_hearPrepare 61 = .ok (.aload_n 0, 1) := by decide +kernel
theorem dX6_hearPrepare_62 : decode cX6_hearPrepare 62 = .ok (.getfield 64, 3) := by decide +kernel
theorem dX6_hearPrepare_65 : decode cX6_hearPrepare 65 = .ok (.invokevirtual 77, 3) := by decide +kernel
theorem dX6_hearPrepare_68 : decode cX6_hearPrepare 68 = .ok (.iconst 1, 1) := by decide +kernel
theorem dX6_hearPrepare_69 : decode cX6_hearPrepare 69 = .ok (.ireturn, 1) := by decide +kernel
theorem dX6_vote_0 : decode cX6_vote 0 = .ok (.aload_n 0, 1) := by decide +kernel
theorem dX6_vote_1 : decode cX6_vote 1 = .ok (.getfield 25, 3) := by decide +kernel
theorem dX6_vote_4 : decode cX6_vote 4 = .ok (.iload_n 1, 1) := by decide +kernel
theorem dX6_vote_5 : decode cX6_vote 5 = .ok (.aload_n 0, 1) := by decide +kernel
theorem dX6_vote_6 : decode cX6_vote 6 = .ok (.getfield 21, 3) := by decide +kernel
theorem dX6_vote_9 : decode cX6_vote 9 = .ok (.iload_n 1, 1) := by decide +kernel
theorem dX6_vote_10 : decode cX6_vote 10 = .ok (.baload, 1) := by decide +kernel
theorem dX6_vote_11 : decode cX6_vote 11 = .ok (.ifCond .eq 7, 3) := by decide +kernel
theorem dX6_vote_14 : decode cX6_vote 14 = .ok (.iconst 1, 1) := by decide +kernel
theorem dX6_vote_15 : decode cX6_vote 15 = .ok (.goto 4, 3) := by decide +kernel
theorem dX6_vote_18 : decode cX6_vote 18 = .ok (.iconst 2, 1) := by decide +kernel
theorem dX6_vote_19 : decode cX6_vote 19 = .ok (.iastore, 1) := by decide +kernel
theorem dX6_vote_20 : decode cX6_vote 20 = .ok (.aload_n 0, 1) := by decide +kernel
theorem dX6_vote_21 : decode cX6_vote 21 = .ok (.getfield 51, 3) := by decide +kernel
theorem dX6_vote_24 : decode cX6_vote 24 = .ok (.iconst 1, 1) := by decide +kernel
theorem dX6_vote_25 : decode cX6_vote 25 = .ok (.iload_n 1, 1) := by decide +kernel
theorem dX6_vote_26 : decode cX6_vote 26 = .ok (.aload_n 0, 1) := by decide +kernel
theorem dX6_vote_27 : decode cX6_vote 27 = .ok (.getfield 25, 3) := by decide +kernel
theorem dX6_vote_30 : decode cX6_vote 30 = .ok (.iload_n 1, 1) := by decide +kernel
theorem dX6_vote_31 : decode cX6_vote 31 = .ok (.iaload, 1) := by decide +kernel
theorem dX6_vote_32 : decode cX6_vote 32 = .ok (.iconst 0, 1) := by decide +kernel
theorem dX6_vote_33 : decode cX6_vote 33 = .ok (.invokevirtual 81, 3) := by decide +kernel
theorem dX6_vote_36 : decode cX6_vote 36 = .ok (.aload_n 0, 1) := by decide +kernel
theorem dX6_vote_37 : decode cX6_vote 37 = .ok (.getfield 21, 3) := by decide +kernel
theorem dX6_vote_40 : decode cX6_vote 40 = .ok (.iload_n 1, 1) := by decide +kernel
theorem dX6_vote_41 : decode cX6_vote 41 = .ok (.baload, 1) := by decide +kernel
theorem dX6_vote_42 : decode cX6_vote 42 = .ok (.ifCond .eq 15, 3) := by decide +kernel
theorem dX6_vote_45 : decode cX6_vote 45 = .ok (.aload_n 0, 1) := by decide +kernel
theorem dX6_vote_46 : decode cX6_vote 46 = .ok (.getfield 9, 3) := by decide +kernel
theorem dX6_vote_49 : decode cX6_vote 49 = .ok (.iload_n 1, 1) := by decide +kernel
theorem dX6_vote_50 : decode cX6_vote 50 = .ok (.aload_n 0, 1) := by decide +kernel
theorem dX6_vote_51 : decode cX6_vote 51 = .ok (.getfield 68, 3) := by decide +kernel
theorem dX6_vote_54 : decode cX6_vote 54 = .ok (.invokevirtual 85, 3) := by decide +kernel
theorem dX6_vote_57 : decode cX6_vote 57 = .ok (.return_, 1) := by decide +kernel
theorem dX6_hearEnd_0 : decode cX6_hearEnd 0 = .ok (.aload_n 0, 1) := by decide +kernel
theorem dX6_hearEnd_1 : decode cX6_hearEnd 1 = .ok (.getfield 29, 3) := by decide +kernel
theorem dX6_hearEnd_4 : decode cX6_hearEnd 4 = .ok (.iload_n 1, 1) := by decide +kernel
theorem dX6_hearEnd_5 : decode cX6_hearEnd 5 = .ok (.iaload, 1) := by decide +kernel
theorem dX6_hearEnd_6 : decode cX6_hearEnd 6 = .ok (.ifCond .eq 5, 3) := by decide +kernel
theorem dX6_hearEnd_9 : decode cX6_hearEnd 9 = .ok (.iconst 1, 1) := by decide +kernel
theorem dX6_hearEnd_10 : decode cX6_hearEnd 10 = .ok (.ireturn, 1) := by decide +kernel
theorem dX6_hearEnd_11 : decode cX6_hearEnd 11 = .ok (.aload_n 0, 1) := by decide +kernel
theorem dX6_hearEnd_12 : decode cX6_hearEnd 12 = .ok (.getfield 51, 3) := by decide +kernel
theorem dX6_hearEnd_15 : decode cX6_hearEnd 15 = .ok (.invokevirtual 55, 3) := by decide +kernel
theorem dX6_hearEnd_18 : decode cX6_hearEnd 18 = .ok (.ifCond .eq 5, 3) := by decide +kernel
theorem dX6_hearEnd_21 : decode cX6_hearEnd 21 = .ok (.iconst 0, 1) := by decide +kernel
theorem dX6_hearEnd_22 : decode cX6_hearEnd 22 = .ok (.ireturn, 1) := by decide +kernel
theorem dX6_hearEnd_23 : decode cX6_hearEnd 23 = .ok (.aload_n 0, 1) := by decide +kernel
theorem dX6_hearEnd_24 : decode cX6_hearEnd 24 = .ok (.getfield 29, 3) := by decide +kernel
theorem dX6_hearEnd_27 : decode cX6_hearEnd 27 = .ok (.iload_n 1, 1) := by decide +kernel
theorem dX6_hearEnd_28 : decode cX6_hearEnd 28 = .ok (.iload_n 2, 1) := by decide +kernel
theorem dX6_hearEnd_29 : decode cX6_hearEnd 29 = .ok (.iastore, 1) := by decide +kernel
theorem dX6_hearEnd_30 : decode cX6_hearEnd 30 = .ok (.aload_n 0, 1) := by decide +kernel
theorem dX6_hearEnd_31 : decode cX6_hearEnd 31 = .ok (.getfield 51, 3) := by decide +kernel
theorem dX6_hearEnd_34 : decode cX6_hearEnd 34 = .ok (.iconst 2, 1) := by decide +kernel
theorem dX6_hearEnd_35 : decode cX6_hearEnd 35 = .ok (.iload_n 1, 1) := by decide +kernel
theorem dX6_hearEnd_36 : decode cX6_hearEnd 36 = .ok (.iload_n 2, 1) := by decide +kernel
theorem dX6_hearEnd_37 : decode cX6_hearEnd 37 = .ok (.iconst 0, 1) := by decide +kernel
theorem dX6_hearEnd_38 : decode cX6_hearEnd 38 = .ok (.invokevirtual 81, 3) := by decide +kernel
theorem dX6_hearEnd_41 : decode cX6_hearEnd 41 = .ok (.iload_n 2, 1) := by decide +kernel
theorem dX6_hearEnd_42 : decode cX6_hearEnd 42 = .ok (.iconst 3, 1) := by decide +kernel
theorem dX6_hearEnd_43 : decode cX6_hearEnd 43 = .ok (.if_icmp .ne 24, 3) := by decide +kernel
theorem dX6_hearEnd_46 : decode cX6_hearEnd 46 = .ok (.aload_n 0, 1) := by decide +kernel
theorem dX6_hearEnd_47 : decode cX6_hearEnd 47 = .ok (.getfield 21, 3) := by decide +kernel
theorem dX6_hearEnd_50 : decode cX6_hearEnd 50 = .ok (.iload_n 1, 1) := by decide +kernel
theorem dX6_hearEnd_51 : decode cX6_hearEnd 51 = .ok (.baload, 1) := by decide +kernel
theorem dX6_hearEnd_52 : decode cX6_hearEnd 52 = .ok (.ifCond .eq 15, 3) := by decide +kernel
theorem dX6_hearEnd_55 : decode cX6_hearEnd 55 = .ok (.aload_n 0, 1) := by decide +kernel
theorem dX6_hearEnd_56 : decode cX6_hearEnd 56 = .ok (.getfield 9, 3) := by decide +kernel
theorem dX6_hearEnd_59 : decode cX6_hearEnd 59 = .ok (.iload_n 1, 1) := by decide +kernel
theorem dX6_hearEnd_60 : decode cX6_hearEnd 60 = .ok (.aload_n 0, 1) := by decide +kernel
theorem dX6_hearEnd_61 : decode cX6_hearEnd 61 = .ok (.getfield 68, 3) := by decide +kernel
theorem dX6_hearEnd_64 : decode cX6_hearEnd 64 = .ok (.invokevirtual 91, 3) := by decide +kernel
theorem dX6_hearEnd_67 : decode cX6_hearEnd 67 = .ok (.aload_n 0, 1) := by decide +kernel
theorem dX6_hearEnd_68 : decode cX6_hearEnd 68 = .ok (.iload_n 1, 1) := by decide +kernel
theorem dX6_hearEnd_69 : decode cX6_hearEnd 69 = .ok (.invokevirtual 94, 3) := by decide +kernel
theorem dX6_hearEnd_72 : decode cX6_hearEnd 72 = .ok (.iconst 1, 1) := by decide +kernel
theorem dX6_hearEnd_73 : decode cX6_hearEnd 73 = .ok (.ireturn, 1) := by decide +kernel
theorem dX6_endSession_0 : decode cX6_endSession 0 = .ok (.aload_n 0, 1) := by decide +kernel
theorem dX6_endSession_1 : decode cX6_endSession 1 = .ok (.getfield 21, 3) := by decide +kernel
theorem dX6_endSession_4 : decode cX6_endSession 4 = .ok (.iload_n 1, 1) := by decide +kernel
theorem dX6_endSession_5 : decode cX6_endSession 5 = .ok (.baload, 1) := by decide +kernel
theorem dX6_endSession_6 : decode cX6_endSession 6 = .ok (.ifCond .eq 22, 3) := by decide +kernel
theorem dX6_endSession_9 : decode cX6_endSession 9 = .ok (.aload_n 0, 1) := by decide +kernel
theorem dX6_endSession_10 : decode cX6_endSession 10 = .ok (.getfield 21, 3) := by decide +kernel
theorem dX6_endSession_13 : decode cX6_endSession 13 = .ok (.iload_n 1, 1) := by decide +kernel
theorem dX6_endSession_14 : decode cX6_endSession 14 = .ok (.iconst 0, 1) := by decide +kernel
theorem dX6_endSession_15 : decode cX6_endSession 15 = .ok (.bastore, 1) := by decide +kernel
theorem dX6_endSession_16 : decode cX6_endSession 16 = .ok (.aload_n 0, 1) := by decide +kernel
theorem dX6_endSession_17 : decode cX6_endSession 17 = .ok (.getfield 9, 3) := by decide +kernel
theorem dX6_endSession_20 : decode cX6_endSession 20 = .ok (.iload_n 1, 1) := by decide +kernel
theorem dX6_endSession_21 : decode cX6_endSession 21 = .ok (.aload_n 0, 1) := by decide +kernel
theorem dX6_endSession_22 : decode cX6_endSession 22 = .ok (.getfield 68, 3) := by decide +kernel
theorem dX6_endSession_25 : decode cX6_endSession 25 = .ok (.invokevirtual 97, 3) := by decide +kernel
theorem dX6_endSession_28 : decode cX6_endSession 28 = .ok (.return_, 1) := by decide +kernel
theorem dX6_forget_0 : decode cX6_forget 0 = .ok (.iconst 0, 1) := by decide +kernel
theorem dX6_forget_1 : decode cX6_forget 1 = .ok (.istore_n 1, 1) := by decide +kernel
theorem dX6_forget_2 : decode cX6_forget 2 = .ok (.iload_n 1, 1) := by decide +kernel
theorem dX6_forget_3 : decode cX6_forget 3 = .ok (.aload_n 0, 1) := by decide +kernel
theorem dX6_forget_4 : decode cX6_forget 4 = .ok (.getfield 21, 3) := by decide +kernel
theorem dX6_forget_7 : decode cX6_forget 7 = .ok (.arraylength, 1) := by decide +kernel
theorem dX6_forget_8 : decode cX6_forget 8 = .ok (.if_icmp .ge 43, 3) := by decide +kernel
theorem dX6_forget_11 : decode cX6_forget 11 = .ok (.aload_n 0, 1) := by decide +kernel
theorem dX6_forget_12 : decode cX6_forget 12 = .ok (.getfield 25, 3) := by decide +kernel
theorem dX6_forget_15 : decode cX6_forget 15 = .ok (.iload_n 1, 1) := by decide +kernel
theorem dX6_forget_16 : decode cX6_forget 16 = .ok (.iaload, 1) := by decide +kernel
theorem dX6_forget_17 : decode cX6_forget 17 = .ok (.iconst 1, 1) := by decide +kernel
theorem dX6_forget_18 : decode cX6_forget 18 = .ok (.if_icmp .ne 16, 3) := by decide +kernel
theorem dX6_forget_21 : decode cX6_forget 21 = .ok (.aload_n 0, 1) := by decide +kernel
theorem dX6_forget_22 : decode cX6_forget 22 = .ok (.getfield 29, 3) := by decide +kernel
theorem dX6_forget_25 : decode cX6_forget 25 = .ok (.iload_n 1, 1) := by decide +kernel
theorem dX6_forget_26 : decode cX6_forget 26 = .ok (.iaload, 1) := by decide +kernel
theorem dX6_forget_27 : decode cX6_forget 27 = .ok (.ifCond .ne 7, 3) := by decide +kernel
theorem dX6_forget_30 : decode cX6_forget 30 = .ok (.iconst 1, 1) := by decide +kernel
theorem dX6_forget_31 : decode cX6_forget 31 = .ok (.goto 4, 3) := by decide +kernel
theorem dX6_forget_34 : decode cX6_forget 34 = .ok (.iconst 0, 1) := by decide +kernel
theorem dX6_forget_35 : decode cX6_forget 35 = .ok (.istore_n 2, 1) := by decide +kernel
theorem dX6_forget_36 : decode cX6_forget 36 = .ok (.iload_n 2, 1) := by decide +kernel
theorem dX6_forget_37 : decode cX6_forget 37 = .ok (.ifCond .ne 8, 3) := by decide +kernel
theorem dX6_forget_40 : decode cX6_forget 40 = .ok (.aload_n 0, 1) := by decide +kernel
theorem dX6_forget_41 : decode cX6_forget 41 = .ok (.iload_n 1, 1) := by decide +kernel
theorem dX6_forget_42 : decode cX6_forget 42 = .ok (.invokevirtual 94, 3) := by decide +kernel
theorem dX6_forget_45 : decode cX6_forget 45 = .ok (.iinc 1 1, 3) := by decide +kernel
theorem dX6_forget_48 : decode cX6_forget 48 = .ok (.goto (-46), 3) := by decide +kernel
theorem dX6_forget_51 : decode cX6_forget 51 = .ok (.return_, 1) := by decide +kernel
theorem dX6_told_0 : decode cX6_told 0 = .ok (.iload_n 1, 1) := by decide +kernel
theorem dX6_told_1 : decode cX6_told 1 = .ok (.iconst 2, 1) := by decide +kernel
theorem dX6_told_2 : decode cX6_told 2 = .ok (.if_icmp .ne 10, 3) := by decide +kernel
theorem dX6_told_5 : decode cX6_told 5 = .ok (.aload_n 0, 1) := by decide +kernel
theorem dX6_told_6 : decode cX6_told 6 = .ok (.invokevirtual 100, 3) := by decide +kernel
theorem dX6_told_9 : decode cX6_told 9 = .ok (.goto 4, 3) := by decide +kernel
theorem dX6_told_12 : decode cX6_told 12 = .ok (.iconst (-1), 1) := by decide +kernel
theorem dX6_told_13 : decode cX6_told 13 = .ok (.ireturn, 1) := by decide +kernel
theorem dX6_openSessions_0 : decode cX6_openSessions 0 = .ok (.iconst 0, 1) := by decide +kernel
theorem dX6_openSessions_1 : decode cX6_openSessions 1 = .ok (.istore_n 1, 1) := by decide +kernel
theorem dX6_openSessions_2 : decode cX6_openSessions 2 = .ok (.aload_n 0, 1) := by decide +kernel
theorem dX6_openSessions_3 : decode cX6_openSessions 3 = .ok (.getfield 21, 3) := by decide +kernel
theorem dX6_openSessions_6 : decode cX6_openSessions 6 = .ok (.astore_n 2, 1) := by decide +kernel
theorem dX6_openSessions_7 : decode cX6_openSessions 7 = .ok (.aload_n 2, 1) := by decide +kernel
theorem dX6_openSessions_8 : decode cX6_openSessions 8 = .ok (.arraylength, 1) := by decide +kernel
theorem dX6_openSessions_9 : decode cX6_openSessions 9 = .ok (.istore_n 3, 1) := by decide +kernel
theorem dX6_openSessions_10 : decode cX6_openSessions 10 = .ok (.iconst 0, 1) := by decide +kernel
theorem dX6_openSessions_11 : decode cX6_openSessions 11 = .ok (.istore 4, 2) := by decide +kernel
theorem dX6_openSessions_13 : decode cX6_openSessions 13 = .ok (.iload 4, 2) := by decide +kernel
theorem dX6_openSessions_15 : decode cX6_openSessions 15 = .ok (.iload_n 3, 1) := by decide +kernel
theorem dX6_openSessions_16 : decode cX6_openSessions 16 = .ok (.if_icmp .ge 23, 3) := by decide +kernel
theorem dX6_openSessions_19 : decode cX6_openSessions 19 = .ok (.aload_n 2, 1) := by decide +kernel
theorem dX6_openSessions_20 : decode cX6_openSessions 20 = .ok (.iload 4, 2) := by decide +kernel
theorem dX6_openSessions_22 : decode cX6_openSessions 22 = .ok (.baload, 1) := by decide +kernel
theorem dX6_openSessions_23 : decode cX6_openSessions 23 = .ok (.istore 5, 2) := by decide +kernel
theorem dX6_openSessions_25 : decode cX6_openSessions 25 = .ok (.iload 5, 2) := by decide +kernel
theorem dX6_openSessions_27 : decode cX6_openSessions 27 = .ok (.ifCond .eq 6, 3) := by decide +kernel
theorem dX6_openSessions_30 : decode cX6_openSessions 30 = .ok (.iinc 1 1, 3) := by decide +kernel
theorem dX6_openSessions_33 : decode cX6_openSessions 33 = .ok (.iinc 4 1, 3) := by decide +kernel
theorem dX6_openSessions_36 : decode cX6_openSessions 36 = .ok (.goto (-23), 3) := by decide +kernel
theorem dX6_openSessions_39 : decode cX6_openSessions 39 = .ok (.iload_n 1, 1) := by decide +kernel
theorem dX6_openSessions_40 : decode cX6_openSessions 40 = .ok (.ireturn, 1) := by decide +kernel
theorem dX7_init_0 : decode cX7_init 0 = .ok (.aload_n 0, 1) := by decide +kernel
theorem dX7_init_1 : decode cX7_init 1 = .ok (.invokespecial 1, 3) := by decide +kernel
theorem dX7_init_4 : decode cX7_init 4 = .ok (.aload_n 0, 1) := by decide +kernel
theorem dX7_init_5 : decode cX7_init 5 = .ok (.iload_n 1, 1) := by decide +kernel
theorem dX7_init_6 : decode cX7_init 6 = .ok (.iconst 4, 1) := by decide +kernel
theorem dX7_init_7 : decode cX7_init 7 = .ok (.invokestatic 7, 3) := by decide +kernel
theorem dX7_init_10 : decode cX7_init 10 = .ok (.putfield 13, 3) := by decide +kernel
theorem dX7_init_13 : decode cX7_init 13 = .ok (.aload_n 0, 1) := by decide +kernel
theorem dX7_init_14 : decode cX7_init 14 = .ok (.iload_n 2, 1) := by decide +kernel
theorem dX7_init_15 : decode cX7_init 15 = .ok (.invokestatic 17, 3) := by decide +kernel
theorem dX7_init_18 : decode cX7_init 18 = .ok (.putfield 21, 3) := by decide +kernel
theorem dX7_init_21 : decode cX7_init 21 = .ok (.aload_n 0, 1) := by decide +kernel
theorem dX7_init_22 : decode cX7_init 22 = .ok (.iload_n 3, 1) := by decide +kernel
theorem dX7_init_23 : decode cX7_init 23 = .ok (.bipush 16, 2) := by decide +kernel
theorem dX7_init_25 : decode cX7_init 25 = .ok (.invokestatic 7, 3) := by decide +kernel
theorem dX7_init_28 : decode cX7_init 28 = .ok (.putfield 24, 3) := by decide +kernel
theorem dX7_init_31 : decode cX7_init 31 = .ok (.aload_n 0, 1) := by decide +kernel
theorem dX7_init_32 : decode cX7_init 32 = .ok (.iload 4, 2) := by decide +kernel
theorem dX7_init_34 : decode cX7_init 34 = .ok (.bipush 32, 2) := by decide +kernel
theorem dX7_init_36 : decode cX7_init 36 = .ok (.invokestatic 7, 3) := by decide +kernel
theorem dX7_init_39 : decode cX7_init 39 = .ok (.putfield 27, 3) := by decide +kernel
theorem dX7_init_42 : decode cX7_init 42 = .ok (.aload_n 0, 1) := by decide +kernel
theorem dX7_init_43 : decode cX7_init 43 = .ok (.iload 5, 2) := by decide +kernel
theorem dX7_init_45 : decode cX7_init 45 = .ok (.sipush 200, 3) := by decide +kernel
theorem dX7_init_48 : decode cX7_init 48 = .ok (.invokestatic 7, 3) := by decide +kernel
theorem dX7_init_51 : decode cX7_init 51 = .ok (.putfield 30, 3) := by decide +kernel
theorem dX7_init_54 : decode cX7_init 54 = .ok (.aload_n 0, 1) := by decide +kernel
theorem dX7_init_55 : decode cX7_init 55 = .ok (.iload 6, 2) := by decide +kernel
theorem dX7_init_57 : decode cX7_init 57 = .ok (.sipush 200, 3) := by decide +kernel
theorem dX7_init_60 : decode cX7_init 60 = .ok (.invokestatic 7, 3) := by decide +kernel
theorem dX7_init_63 : decode cX7_init 63 = .ok (.putfield 33, 3) := by decide +kernel
theorem dX7_init_66 : decode cX7_init 66 = .ok (.return_, 1) := by decide +kernel
theorem dX7_nearest_0 : decode cX7_nearest 0 = .ok (.iconst 1, 1) := by decide +kernel
theorem dX7_nearest_1 : decode cX7_nearest 1 = .ok (.iload_n 1, 1) := by decide +kernel
theorem dX7_nearest_2 : decode cX7_nearest 2 = .ok (.iload_n 0, 1) := by decide +kernel
theorem dX7_nearest_3 : decode cX7_nearest 3 = .ok (.invokestatic 36, 3) := by decide +kernel
theorem dX7_nearest_6 : decode cX7_nearest 6 = .ok (.invokestatic 41, 3) := by decide +kernel
theorem dX7_nearest_9 : decode cX7_nearest 9 = .ok (.ireturn, 1) := by decide +kernel
theorem dX7_nearestOdd_0 : decode cX7_nearestOdd 0 = .ok (.iload_n 0, 1) := by decide +kernel
theorem dX7_nearestOdd_1 : decode cX7_nearestOdd 1 = .ok (.iconst 2, 1) := by decide +kernel
theorem dX7_nearestOdd_2 : decode cX7_nearestOdd 2 = .ok (.if_icmp .gt 5, 3) := by decide +kernel
theorem dX7_nearestOdd_5 : decode cX7_nearestOdd 5 = .ok (.iconst 1, 1) := by decide +kernel
theorem dX7_nearestOdd_6 : decode cX7_nearestOdd 6 = .ok (.ireturn, 1) := by decide +kernel
theorem dX7_nearestOdd_7 : decode cX7_nearestOdd 7 = .ok (.iload_n 0, 1) := by decide +kernel
theorem dX7_nearestOdd_8 : decode cX7_nearestOdd 8 = .ok (.iconst 4, 1) := by decide +kernel
theorem dX7_nearestOdd_9 : decode cX7_nearestOdd 9 = .ok (.if_icmp .gt 7, 3) := by decide +kernel
theorem dX7_nearestOdd_12 : decode cX7_nearestOdd 12 = .ok (.iconst 3, 1) := by decide +kernel
theorem dX7_nearestOdd_13 : decode cX7_nearestOdd 13 = .ok (.goto 4, 3) := by decide +kernel
theorem dX7_nearestOdd_16 : decode cX7_nearestOdd 16 = .ok (.iconst 5, 1) := by decide +kernel
theorem dX7_nearestOdd_17 : decode cX7_nearestOdd 17 = .ok (.ireturn, 1) := by decide +kernel
theorem dX7_client_0 : decode cX7_client 0 = .ok (.aload_n 0, 1) := by decide +kernel
theorem dX7_client_1 : decode cX7_client 1 = .ok (.getfield 13, 3) := by decide +kernel
theorem dX7_client_4 : decode cX7_client 4 = .ok (.aload_n 0, 1) := by decide +kernel
theorem dX7_client_5 : decode cX7_client 5 = .ok (.getfield 21, 3) := by decide +kernel
theorem dX7_client_8 : decode cX7_client 8 = .ok (.iadd, 1) := by decide +kernel
theorem dX7_client_9 : decode cX7_client 9 = .ok (.ireturn, 1) := by decide +kernel
theorem dX7_shardOf_0 : decode cX7_shardOf 0 = .ok (.iload_n 1, 1) := by decide +kernel
theorem dX7_shardOf_1 : decode cX7_shardOf 1 = .ok (.aload_n 0, 1) := by decide +kernel
theorem dX7_shardOf_2 : decode cX7_shardOf 2 = .ok (.getfield 13, 3) := by decide +kernel
theorem dX7_shardOf_5 : decode cX7_shardOf 5 = .ok (.irem, 1) := by decide +kernel
theorem dX7_shardOf_6 : decode cX7_shardOf 6 = .ok (.ireturn, 1) := by decide +kernel
theorem dX7_acceptorOf_0 : decode cX7_acceptorOf 0 = .ok (.aload_n 0, 1) := by decide +kernel
theorem dX7_acceptorOf_1 : decode cX7_acceptorOf 1 = .ok (.getfield 13, 3) := by decide +kernel
theorem dX7_acceptorOf_4 : decode cX7_acceptorOf 4 = .ok (.iload_n 1, 1) := by decide +kernel
theorem dX7_acceptorOf_5 : decode cX7_acceptorOf 5 = .ok (.aload_n 0, 1) := by decide +kernel
theorem dX7_acceptorOf_6 : decode cX7_acceptorOf 6 = .ok (.getfield 21, 3) := by decide +kernel
theorem dX7_acceptorOf_9 : decode cX7_acceptorOf 9 = .ok (.irem, 1) := by decide +kernel
theorem dX7_acceptorOf_10 : decode cX7_acceptorOf 10 = .ok (.iadd, 1) := by decide +kernel
theorem dX7_acceptorOf_11 : decode cX7_acceptorOf 11 = .ok (.ireturn, 1) := by decide +kernel
theorem dX7_isMajority_0 : decode cX7_isMajority 0 = .ok (.iload_n 1, 1) := by decide +kernel
theorem dX7_isMajority_1 : decode cX7_isMajority 1 = .ok (.invokestatic 44, 3) := by decide +kernel
theorem dX7_isMajority_4 : decode cX7_isMajority 4 = .ok (.aload_n 0, 1) := by decide +kernel
theorem dX7_isMajority_5 : decode cX7_isMajority 5 = .ok (.getfield 21, 3) := by decide +kernel
theorem dX7_isMajority_8 : decode cX7_isMajority 8 = .ok (.iconst 2, 1) := by decide +kernel
theorem dX7_isMajority_9 : decode cX7_isMajority 9 = .ok (.idiv, 1) := by decide +kernel
theorem dX7_isMajority_10 : decode cX7_isMajority 10 = .ok (.if_icmp .le 7, 3) := by decide +kernel
theorem dX7_isMajority_13 : decode cX7_isMajority 13 = .ok (.iconst 1, 1) := by decide +kernel
theorem dX7_isMajority_14 : decode cX7_isMajority 14 = .ok (.goto 4, 3) := by decide +kernel
theorem dX7_isMajority_17 : decode cX7_isMajority 17 = .ok (.iconst 0, 1) := by decide +kernel
theorem dX7_isMajority_18 : decode cX7_isMajority 18 = .ok (.ireturn, 1) := by decide +kernel
theorem dX8_init_0 : decode cX8_init 0 = .ok (.aload_n 0, 1) := by decide +kernel
theorem dX8_init_1 : decode cX8_init 1 = .ok (.invokespecial 3, 3) := by decide +kernel
theorem dX8_init_4 : decode cX8_init 4 = .ok (.aload_n 0, 1) := by decide +kernel
theorem dX8_init_5 : decode cX8_init 5 = .ok (.aload_n 1, 1) := by decide +kernel
theorem dX8_init_6 : decode cX8_init 6 = .ok (.getfield 9, 3) := by decide +kernel
theorem dX8_init_9 : decode cX8_init 9 = .ok (.newarray .int, 2) := by decide +kernel
theorem dX8_init_11 : decode cX8_init 11 = .ok (.putfield 15, 3) := by decide +kernel
theorem dX8_init_14 : decode cX8_init 14 = .ok (.aload_n 0, 1) := by decide +kernel
theorem dX8_init_15 : decode cX8_init 15 = .ok (.aload_n 1, 1) := by decide +kernel
theorem dX8_init_16 : decode cX8_init 16 = .ok (.getfield 9, 3) := by decide +kernel
theorem dX8_init_19 : decode cX8_init 19 = .ok (.newarray .int, 2) := by decide +kernel
theorem dX8_init_21 : decode cX8_init 21 = .ok (.putfield 21, 3) := by decide +kernel
theorem dX8_init_24 : decode cX8_init 24 = .ok (.return_, 1) := by decide +kernel
theorem dX8_touch_0 : decode cX8_touch 0 = .ok (.aload_n 0, 1) := by decide +kernel
theorem dX8_touch_1 : decode cX8_touch 1 = .ok (.getfield 21, 3) := by decide +kernel
theorem dX8_touch_4 : decode cX8_touch 4 = .ok (.iload_n 1, 1) := by decide +kernel
theorem dX8_touch_5 : decode cX8_touch 5 = .ok (.dup2, 1) := by decide +kernel
theorem dX8_touch_6 : decode cX8_touch 6 = .ok (.iaload, 1) := by decide +kernel
theorem dX8_touch_7 : decode cX8_touch 7 = .ok (.iconst 1, 1) := by decide +kernel
theorem dX8_touch_8 : decode cX8_touch 8 = .ok (.iload_n 2, 1) := by decide +kernel
theorem dX8_touch_9 : decode cX8_touch 9 = .ok (.ishl, 1) := by decide +kernel
theorem dX8_touch_10 : decode cX8_touch 10 = .ok (.ior, 1) := by decide +kernel
theorem dX8_touch_11 : decode cX8_touch 11 = .ok (.iastore, 1) := by decide +kernel
theorem dX8_touch_12 : decode cX8_touch 12 = .ok (.return_, 1) := by decide +kernel
theorem dX8_touches_0 : decode cX8_touches 0 = .ok (.aload_n 0, 1) := by decide +kernel
theorem dX8_touches_1 : decode cX8_touches 1 = .ok (.getfield 21, 3) := by decide +kernel
theorem dX8_touches_4 : decode cX8_touches 4 = .ok (.iload_n 1, 1) := by decide +kernel
theorem dX8_touches_5 : decode cX8_touches 5 = .ok (.iaload, 1) := by decide +kernel
theorem dX8_touches_6 : decode cX8_touches 6 = .ok (.iconst 1, 1) := by decide +kernel
theorem dX8_touches_7 : decode cX8_touches 7 = .ok (.iload_n 2, 1) := by decide +kernel
theorem dX8_touches_8 : decode cX8_touches 8 = .ok (.ishl, 1) := by decide +kernel
theorem dX8_touches_9 : decode cX8_touches 9 = .ok (.iand, 1) := by decide +kernel
theorem dX8_touches_10 : decode cX8_touches 10 = .ok (.ifCond .eq 7, 3) := by decide +kernel
theorem dX8_touches_13 : decode cX8_touches 13 = .ok (.iconst 1, 1) := by decide +kernel
theorem dX8_touches_14 : decode cX8_touches 14 = .ok (.goto 4, 3) := by decide +kernel
theorem dX8_touches_17 : decode cX8_touches 17 = .ok (.iconst 0, 1) := by decide +kernel
theorem dX8_touches_18 : decode cX8_touches 18 = .ok (.ireturn, 1) := by decide +kernel
theorem dX8_touchesNone_0 : decode cX8_touchesNone 0 = .ok (.aload_n 0, 1) := by decide +kernel
theorem dX8_touchesNone_1 : decode cX8_touchesNone 1 = .ok (.getfield 21, 3) := by decide +kernel
theorem dX8_touchesNone_4 : decode cX8_touchesNone 4 = .ok (.iload_n 1, 1) := by decide +kernel
theorem dX8_touchesNone_5 : decode cX8_touchesNone 5 = .ok (.iaload, 1) := by decide +kernel
theorem dX8_touchesNone_6 : decode cX8_touchesNone 6 = .ok (.ifCond .ne 7, 3) := by decide +kernel
theorem dX8_touchesNone_9 : decode cX8_touchesNone 9 = .ok (.iconst 1, 1) := by decide +kernel
theorem dX8_touchesNone_10 : decode cX8_touchesNone 10 = .ok (.goto 4, 3) := by decide +kernel
theorem dX8_touchesNone_13 : decode cX8_touchesNone 13 = .ok (.iconst 0, 1) := by decide +kernel
theorem dX8_touchesNone_14 : decode cX8_touchesNone 14 = .ok (.ireturn, 1) := by decide +kernel
theorem dX8_hearEnd_0 : decode cX8_hearEnd 0 = .ok (.aload_n 0, 1) := by decide +kernel
theorem dX8_hearEnd_1 : decode cX8_hearEnd 1 = .ok (.getfield 15, 3) := by decide +kernel
theorem dX8_hearEnd_4 : decode cX8_hearEnd 4 = .ok (.iload_n 1, 1) := by decide +kernel
theorem dX8_hearEnd_5 : decode cX8_hearEnd 5 = .ok (.iaload, 1) := by decide +kernel
theorem dX8_hearEnd_6 : decode cX8_hearEnd 6 = .ok (.iconst 2, 1) := by decide +kernel
theorem dX8_hearEnd_7 : decode cX8_hearEnd 7 = .ok (.if_icmp .ne 10, 3) := by decide +kernel
theorem dX8_hearEnd_10 : decode cX8_hearEnd 10 = .ok (.aload_n 0, 1) := by decide +kernel
theorem dX8_hearEnd_11 : decode cX8_hearEnd 11 = .ok (.getfield 15, 3) := by decide +kernel
theorem dX8_hearEnd_14 : decode cX8_hearEnd 14 = .ok (.iload_n 1, 1) := by decide +kernel
theorem dX8_hearEnd_15 : decode cX8_hearEnd 15 = .ok (.iload_n 2, 1) := by decide +kernel
theorem dX8_hearEnd_16 : decode cX8_hearEnd 16 = .ok (.iastore, 1) := by decide +kernel
theorem dX8_hearEnd_17 : decode cX8_hearEnd 17 = .ok (.return_, 1) := by decide +kernel
theorem dX8_in_0 : decode cX8_in 0 = .ok (.iconst 0, 1) := by decide +kernel
theorem dX8_in_1 : decode cX8_in 1 = .ok (.istore_n 2, 1) := by decide +kernel
theorem dX8_in_2 : decode cX8_in 2 = .ok (.aload_n 0, 1) := by decide +kernel
theorem dX8_in_3 : decode cX8_in 3 = .ok (.getfield 15, 3) := by decide +kernel
theorem dX8_in_6 : decode cX8_in 6 = .ok (.astore_n 3, 1) := by decide +kernel
theorem dX8_in_7 : decode cX8_in 7 = .ok (.aload_n 3, 1) := by decide +kernel
theorem dX8_in_8 : decode cX8_in 8 = .ok (.arraylength, 1) := by decide +kernel
theorem dX8_in_9 : decode cX8_in 9 = .ok (.istore 4, 2) := by decide +kernel
theorem dX8_in_11 : decode cX8_in 11 = .ok (.iconst 0, 1) := by decide +kernel
theorem dX8_in_12 : decode cX8_in 12 = .ok (.istore 5, 2) := by decide +kernel
theorem dX8_in_14 : decode cX8_in 14 = .ok (.iload 5, 2) := by decide +kernel
theorem dX8_in_16 : decode cX8_in 16 = .ok (.iload 4, 2) := by decide +kernel
theorem dX8_in_18 : decode cX8_in 18 = .ok (.if_icmp .ge 24, 3) := by decide +kernel
theorem dX8_in_21 : decode cX8_in 21 = .ok (.aload_n 3, 1) := by decide +kernel
theorem dX8_in_22 : decode cX8_in 22 = .ok (.iload 5, 2) := by decide +kernel
theorem dX8_in_24 : decode cX8_in 24 = .ok (.iaload, 1) := by decide +kernel
theorem dX8_in_25 : decode cX8_in 25 = .ok (.istore 6, 2) := by decide +kernel
theorem dX8_in_27 : decode cX8_in 27 = .ok (.iload 6, 2) := by decide +kernel
theorem dX8_in_29 : decode cX8_in 29 = .ok (.iload_n 1, 1) := by decide +kernel
theorem dX8_in_30 : decode cX8_in 30 = .ok (.if_icmp .ne 6, 3) := by decide +kernel
theorem dX8_in_33 : decode cX8_in 33 = .ok (.iinc 2 1, 3) := by decide +kernel
theorem dX8_in_36 : decode cX8_in 36 = .ok (.iinc 5 1, 3) := by decide +kernel
theorem dX8_in_39 : decode cX8_in 39 = .ok (.goto (-25), 3) := by decide +kernel
theorem dX8_in_42 : decode cX8_in 42 = .ok (.iload_n 2, 1) := by decide +kernel
theorem dX8_in_43 : decode cX8_in 43 = .ok (.ireturn, 1) := by decide +kernel
theorem dX9_init_0 : decode cX9_init 0 = .ok (.aload_n 0, 1) := by decide +kernel
theorem dX9_init_1 : decode cX9_init 1 = .ok (.invokespecial 3, 3) := by decide +kernel
theorem dX9_init_4 : decode cX9_init 4 = .ok (.aload_n 0, 1) := by decide +kernel
theorem dX9_init_5 : decode cX9_init 5 = .ok (.iload_n 1, 1) := by decide +kernel
theorem dX9_init_6 : decode cX9_init 6 = .ok (.putfield 9, 3) := by decide +kernel
theorem dX9_init_9 : decode cX9_init 9 = .ok (.aload_n 0, 1) := by decide +kernel
theorem dX9_init_10 : decode cX9_init 10 = .ok (.iload_n 1, 1) := by decide +kernel
theorem dX9_init_11 : decode cX9_init 11 = .ok (.putfield 15, 3) := by decide +kernel
theorem dX9_init_14 : decode cX9_init 14 = .ok (.aload_n 0, 1) := by decide +kernel
theorem dX9_init_15 : decode cX9_init 15 = .ok (.iload_n 2, 1) := by decide +kernel
theorem dX9_init_16 : decode cX9_init 16 = .ok (.newarray .int, 2) := by decide +kernel
theorem dX9_init_18 : decode cX9_init 18 = .ok (.putfield 18, 3) := by decide +kernel
theorem dX9_init_21 : decode cX9_init 21 = .ok (.aload_n 0, 1) := by decide +kernel
theorem dX9_init_22 : decode cX9_init 22 = .ok (.iload_n 2, 1) := by decide +kernel
theorem dX9_init_23 : decode cX9_init 23 = .ok (.newarray .int, 2) := by decide +kernel
theorem dX9_init_25 : decode cX9_init 25 = .ok (.putfield 22, 3) := by decide +kernel
theorem dX9_init_28 : decode cX9_init 28 = .ok (.aload_n 0, 1) := by decide +kernel
theorem dX9_init_29 : decode cX9_init 29 = .ok (.iload_n 2, 1) := by decide +kernel
theorem dX9_init_30 : decode cX9_init 30 = .ok (.newarray .int, 2) := by decide +kernel
theorem dX9_init_32 : decode cX9_init 32 = .ok (.putfield 25, 3) := by decide +kernel
theorem dX9_init_35 : decode cX9_init 35 = .ok (.aload_n 0, 1) := by decide +kernel
theorem dX9_init_36 : decode cX9_init 36 = .ok (.iload_n 2, 1) := by decide +kernel
theorem dX9_init_37 : decode cX9_init 37 = .ok (.newarray .int, 2) := by decide +kernel
theorem dX9_init_39 : decode cX9_init 39 = .ok (.putfield 28, 3) := by decide +kernel
theorem dX9_init_42 : decode cX9_init 42 = .ok (.aload_n 0, 1) := by decide +kernel
theorem dX9_init_43 : decode cX9_init 43 = .ok (.iload_n 2, 1) := by decide +kernel
theorem dX9_init_44 : decode cX9_init 44 = .ok (.newarray .int, 2) := by decide +kernel
theorem dX9_init_46 : decode cX9_init 46 = .ok (.putfield 31, 3) := by decide +kernel
theorem dX9_init_49 : decode cX9_init 49 = .ok (.aload_n 0, 1) := by decide +kernel
theorem dX9_init_50 : decode cX9_init 50 = .ok (.iload_n 2, 1) := by decide +kernel
theorem dX9_init_51 : decode cX9_init 51 = .ok (.newarray .int, 2) := by decide +kernel
theorem dX9_init_53 : decode cX9_init 53 = .ok (.putfield 34, 3) := by decide +kernel
theorem dX9_init_56 : decode cX9_init 56 = .ok (.aload_n 0, 1) := by decide +kernel
theorem dX9_init_57 : decode cX9_init 57 = .ok (.getfield 18, 3) := by decide +kernel
theorem dX9_init_60 : decode cX9_init 60 = .ok (.iconst (-1), 1) := by decide +kernel
theorem dX9_init_61 : decode cX9_init 61 = .ok (.invokestatic 37, 3) := by decide +kernel
theorem dX9_init_64 : decode cX9_init 64 = .ok (.aload_n 0, 1) := by decide +kernel
theorem dX9_init_65 : decode cX9_init 65 = .ok (.getfield 25, 3) := by decide +kernel
theorem dX9_init_68 : decode cX9_init 68 = .ok (.iconst (-1), 1) := by decide +kernel
theorem dX9_init_69 : decode cX9_init 69 = .ok (.invokestatic 37, 3) := by decide +kernel
theorem dX9_init_72 : decode cX9_init 72 = .ok (.return_, 1) := by decide +kernel
theorem dX9_lead_0 : decode cX9_lead 0 = .ok (.aload_n 0, 1) := by decide +kernel
theorem dX9_lead_1 : decode cX9_lead 1 = .ok (.iload_n 1, 1) := by decide +kernel
theorem dX9_lead_2 : decode cX9_lead 2 = .ok (.putfield 15, 3) := by decide +kernel
theorem dX9_lead_5 : decode cX9_lead 5 = .ok (.aload_n 0, 1) := by decide +kernel
theorem dX9_lead_6 : decode cX9_lead 6 = .ok (.iconst 0, 1) := by decide +kernel
theorem dX9_lead_7 : decode cX9_lead 7 = .ok (.putfield 43, 3) := by decide +kernel
theorem dX9_lead_10 : decode cX9_lead 10 = .ok (.aload_n 0, 1) := by decide +kernel
theorem dX9_lead_11 : decode cX9_lead 11 = .ok (.getfield 25, 3) := by decide +kernel
theorem dX9_lead_14 : decode cX9_lead 14 = .ok (.iconst (-1), 1) := by decide +kernel
theorem dX9_lead_15 : decode cX9_lead 15 = .ok (.invokestatic 37, 3) := by decide +kernel
theorem dX9_lead_18 : decode cX9_lead 18 = .ok (.aload_n 0, 1) := by decide +kernel
theorem dX9_lead_19 : decode cX9_lead 19 = .ok (.getfield 28, 3) := by decide +kernel
theorem dX9_lead_22 : decode cX9_lead 22 = .ok (.iconst 0, 1) := by decide +kernel
theorem dX9_lead_23 : decode cX9_lead 23 = .ok (.invokestatic 37, 3) := by decide +kernel
theorem dX9_lead_26 : decode cX9_lead 26 = .ok (.aload_n 0, 1) := by decide +kernel
theorem dX9_lead_27 : decode cX9_lead 27 = .ok (.getfield 31, 3) := by decide +kernel
theorem dX9_lead_30 : decode cX9_lead 30 = .ok (.iconst 0, 1) := by decide +kernel
theorem dX9_lead_31 : decode cX9_lead 31 = .ok (.invokestatic 37, 3) := by decide +kernel
theorem dX9_lead_34 : decode cX9_lead 34 = .ok (.aload_n 0, 1) := by decide +kernel
theorem dX9_lead_35 : decode cX9_lead 35 = .ok (.getfield 34, 3) := by decide +kernel
theorem dX9_lead_38 : decode cX9_lead 38 = .ok (.iconst 0, 1) := by decide +kernel
theorem dX9_lead_39 : decode cX9_lead 39 = .ok (.invokestatic 37, 3) := by decide +kernel
theorem dX9_lead_42 : decode cX9_lead 42 = .ok (.return_, 1) := by decide +kernel
theorem dX9_forget_0 : decode cX9_forget 0 = .ok (.aload_n 0, 1) := by decide +kernel
theorem dX9_forget_1 : decode cX9_forget 1 = .ok (.iconst 0, 1) := by decide +kernel
theorem dX9_forget_2 : decode cX9_forget 2 = .ok (.putfield 46, 3) := by decide +kernel
theorem dX9_forget_5 : decode cX9_forget 5 = .ok (.aload_n 0, 1) := by decide +kernel
theorem dX9_forget_6 : decode cX9_forget 6 = .ok (.aload_n 0, 1) := by decide +kernel
theorem dX9_forget_7 : decode cX9_forget 7 = .ok (.getfield 9, 3) := by decide +kernel
theorem dX9_forget_10 : decode cX9_forget 10 = .ok (.invokevirtual 49, 3) := by decide +kernel
theorem dX9_forget_13 : decode cX9_forget 13 = .ok (.return_, 1) := by decide +kernel
theorem dX9_hasAccepted_0 : decode cX9_hasAccepted 0 = .ok (.aload_n 0, 1) := by decide +kernel
theorem dX9_hasAccepted_1 : decode cX9_hasAccepted 1 = .ok (.getfield 18, 3) := by decide +kernel
theorem dX9_hasAccepted_4 : decode cX9_hasAccepted 4 = .ok (.iload_n 2, 1) := by decide +kernel
theorem dX9_hasAccepted_5 : decode cX9_hasAccepted 5 = .ok (.iaload, 1) := by decide +kernel
theorem dX9_hasAccepted_6 : decode cX9_hasAccepted 6 = .ok (.iload_n 1, 1) := by decide +kernel
theorem dX9_hasAccepted_7 : decode cX9_hasAccepted 7 = .ok (.if_icmp .ne 17, 3) := by decide +kernel
theorem dX9_hasAccepted_10 : decode cX9_hasAccepted 10 = .ok (.aload_n 0, 1) := by decide +kernel
theorem dX9_hasAccepted_11 : decode cX9_hasAccepted 11 = .ok (.getfield 22, 3) := by decide +kernel
theorem dX9_hasAccepted_14 : decode cX9_hasAccepted 14 = .ok (.iload_n 2, 1) := by decide +kernel
theorem dX9_hasAccepted_15 : decode cX9_hasAccepted 15 = .ok (.iaload, 1) := by decide +kernel
theorem dX9_hasAccepted_16 : decode cX9_hasAccepted 16 = .ok (.iload_n 3, 1) := by decide +kernel
theorem dX9_hasAccepted_17 : decode cX9_hasAccepted 17 = .ok (.if_icmp .ne 7, 3) := by decide +kernel
theorem dX9_hasAccepted_20 : decode cX9_hasAccepted 20 = .ok (.iconst 1, 1) := by decide +kernel
theorem dX9_hasAccepted_21 : decode cX9_hasAccepted 21 = .ok (.goto 4, 3) := by decide +kernel
theorem dX9_hasAccepted_24 : decode cX9_hasAccepted 24 = .ok (.iconst 0, 1) := by decide +kernel
theorem dX9_hasAccepted_25 : decode cX9_hasAccepted 25 = .ok (.ireturn, 1) := by decide +kernel
theorem dX9_take_0 : decode cX9_take 0 = .ok (.aload_n 0, 1) := by decide +kernel
theorem dX9_take_1 : decode cX9_take 1 = .ok (.iload_n 1, 1) := by decide +kernel
theorem dX9_take_2 : decode cX9_take 2 = .ok (.putfield 53, 3) := by decide +kernel
theorem dX9_take_5 : decode cX9_take 5 = .ok (.aload_n 0, 1) := by decide +kernel
theorem dX9_take_6 : decode cX9_take 6 = .ok (.getfield 18, 3) := by decide +kernel
theorem dX9_take_9 : decode cX9_take 9 = .ok (.iload_n 2, 1) := by decide +kernel
theorem dX9_take_10 : decode cX9_take 10 = .ok (.iload_n 1, 1) := by decide +kernel
theorem dX9_take_11 : decode cX9_take 11 = .ok (.iastore, 1) := by decide +kernel
theorem dX9_take_12 : decode cX9_take 12 = .ok (.aload_n 0, 1) := by decide +kernel
theorem dX9_take_13 : decode cX9_take 13 = .ok (.getfield 22, 3) := by decide +kernel
theorem dX9_take_16 : decode cX9_take 16 = .ok (.iload_n 2, 1) := by decide +kernel
theorem dX9_take_17 : decode cX9_take 17 = .ok (.iload_n 3, 1) := by decide +kernel
theorem dX9_take_18 : decode cX9_take 18 = .ok (.iastore, 1) := by decide +kernel
theorem dX9_take_19 : decode cX9_take 19 = .ok (.return_, 1) := by decide +kernel
theorem dX9_listensFor_0 : decode cX9_listensFor 0 = .ok (.aload_n 0, 1) := by decide +kernel
theorem dX9_listensFor_1 : decode cX9_listensFor 1 = .ok (.getfield 15, 3) := by decide +kernel
theorem dX9_listensFor_4 : decode cX9_listensFor 4 = .ok (.iload_n 1, 1) := by decide +kernel
theorem dX9_listensFor_5 : decode cX9_listensFor 5 = .ok (.if_icmp .ne 14, 3) := by decide +kernel
theorem dX9_listensFor_8 : decode cX9_listensFor 8 = .ok (.aload_n 0, 1) := by decide +kernel
theorem dX9_listensFor_9 : decode cX9_listensFor 9 = .ok (.getfield 46, 3) := by decide +kernel
theorem dX9_listensFor_12 : decode cX9_listensFor 12 = .ok (.ifCond .ne 7, 3) := by decide +kernel
theorem dX9_listensFor_15 : decode cX9_listensFor 15 = .ok (.iconst 1, 1) := by decide +kernel
theorem dX9_listensFor_16 : decode cX9_listensFor 16 = .ok (.goto 4, 3) := by decide +kernel
theorem dX9_listensFor_19 : decode cX9_listensFor 19 = .ok (.iconst 0, 1) := by decide +kernel
theorem dX9_listensFor_20 : decode cX9_listensFor 20 = .ok (.ireturn, 1) := by decide +kernel
theorem dX9_countVoter_0 : decode cX9_countVoter 0 = .ok (.aload_n 0, 1) := by decide +kernel
theorem dX9_countVoter_1 : decode cX9_countVoter 1 = .ok (.getfield 31, 3) := by decide +kernel
theorem dX9_countVoter_4 : decode cX9_countVoter 4 = .ok (.iload_n 1, 1) := by decide +kernel
theorem dX9_countVoter_5 : decode cX9_countVoter 5 = .ok (.iaload, 1) := by decide +kernel
theorem dX9_countVoter_6 : decode cX9_countVoter 6 = .ok (.aload_n 0, 1) := by decide +kernel
theorem dX9_countVoter_7 : decode cX9_countVoter 7 = .ok (.getfield 34, 3) := by decide +kernel
theorem dX9_countVoter_10 : decode cX9_countVoter 10 = .ok (.iload_n 1, 1) := by decide +kernel
theorem dX9_countVoter_11 : decode cX9_countVoter 11 = .ok (.iaload, 1) := by decide +kernel
theorem dX9_countVoter_12 : decode cX9_countVoter 12 = .ok (.ior, 1) := by decide +kernel
theorem dX9_countVoter_13 : decode cX9_countVoter 13 = .ok (.iload_n 3, 1) := by decide +kernel
theorem dX9_countVoter_14 : decode cX9_countVoter 14 = .ok (.iand, 1) := by decide +kernel
theorem dX9_countVoter_15 : decode cX9_countVoter 15 = .ok (.ifCond .eq 4, 3) := by decide +kernel
theorem dX9_countVoter_18 : decode cX9_countVoter 18 = .ok (.return_, 1) := by decide +kernel
theorem dX9_countVoter_19 : decode cX9_countVoter 19 = .ok (.iload_n 2, 1) := by decide +kernel
theorem dX9_countVoter_20 : decode cX9_countVoter 20 = .ok (.iconst 1, 1) := by decide +kernel
theorem dX9_countVoter_21 : decode cX9_countVoter 21 = .ok (.if_icmp .ne 16, 3) := by decide +kernel
theorem dX9_countVoter_24 : decode cX9_countVoter 24 = .ok (.aload_n 0, 1) := by decide +kernel
theorem dX9_countVoter_25 : decode cX9_countVoter 25 = .ok (.getfield 31, 3) := by decide +kernel
theorem dX9_countVoter_28 : decode cX9_countVoter 28 = .ok (.iload_n 1, 1) := by decide +kernel
theorem dX9_countVoter_29 : decode cX9_countVoter 29 = .ok (.dup2, 1) := by decide +kernel
theorem dX9_countVoter_30 : decode cX9_countVoter 30 = .ok (.iaload, 1) := by decide +kernel
theorem dX9_countVoter_31 : decode cX9_countVoter 31 = .ok (.iload_n 3, 1) := by decide +kernel
theorem dX9_countVoter_32 : decode cX9_countVoter 32 = .ok (.ior, 1) := by decide +kernel
theorem dX9_countVoter_33 : decode cX9_countVoter 33 = .ok (.iastore, 1) := by decide +kernel
theorem dX9_countVoter_34 : decode cX9_countVoter 34 = .ok (.goto 13, 3) := by decide +kernel
theorem dX9_countVoter_37 : decode cX9_countVoter 37 = .ok (.aload_n 0, 1) := by decide +kernel
theorem dX9_countVoter_38 : decode cX9_countVoter 38 = .ok (.getfield 34, 3) := by decide +kernel
theorem dX9_countVoter_41 : decode cX9_countVoter 41 = .ok (.iload_n 1, 1) := by decide +kernel
theorem dX9_countVoter_42 : decode cX9_countVoter 42 = .ok (.dup2, 1) := by decide +kernel
theorem dX9_countVoter_43 : decode cX9_countVoter 43 = .ok (.iaload, 1) := by decide +kernel
theorem dX9_countVoter_44 : decode cX9_countVoter 44 = .ok (.iload_n 3, 1) := by decide +kernel
theorem dX9_countVoter_45 : decode cX9_countVoter 45 = .ok (.ior, 1) := by decide +kernel
theorem dX9_countVoter_46 : decode cX9_countVoter 46 = .ok (.iastore, 1) := by decide +kernel
theorem dX9_countVoter_47 : decode cX9_countVoter 47 = .ok (.return_, 1) := by decide +kernel
theorem dX9_keepGreatest_0 : decode cX9_keepGreatest 0 = .ok (.iconst 0, 1) := by decide +kernel
theorem dX9_keepGreatest_1 : decode cX9_keepGreatest 1 = .ok (.istore_n 3, 1) := by decide +kernel
theorem dX9_keepGreatest_2 : decode cX9_keepGreatest 2 = .ok (.iload_n 3, 1) := by decide +kernel
theorem dX9_keepGreatest_3 : decode cX9_keepGreatest 3 = .ok (.aload_n 0, 1) := by decide +kernel
theorem dX9_keepGreatest_4 : decode cX9_keepGreatest 4 = .ok (.getfield 25, 3) := by decide +kernel
theorem dX9_keepGreatest_7 : decode cX9_keepGreatest 7 = .ok (.arraylength, 1) := by decide +kernel
theorem dX9_keepGreatest_8 : decode cX9_keepGreatest 8 = .ok (.if_icmp .ge 39, 3) := by decide +kernel
theorem dX9_keepGreatest_11 : decode cX9_keepGreatest 11 = .ok (.aload_n 1, 1) := by decide +kernel
theorem dX9_keepGreatest_12 : decode cX9_keepGreatest 12 = .ok (.iload_n 3, 1) := by decide +kernel
theorem dX9_keepGreatest_13 : decode cX9_keepGreatest 13 = .ok (.iaload, 1) := by decide +kernel
theorem dX9_keepGreatest_14 : decode cX9_keepGreatest 14 = .ok (.aload_n 0, 1) := by decide +kernel
theorem dX9_keepGreatest_15 : decode cX9_keepGreatest 15 = .ok (.getfield 25, 3) := by decide +kernel
theorem dX9_keepGreatest_18 : decode cX9_keepGreatest 18 = .ok (.iload_n 3, 1) := by decide +kernel
theorem dX9_keepGreatest_19 : decode cX9_keepGreatest 19 = .ok (.iaload, 1) := by decide +kernel
theorem dX9_keepGreatest_20 : decode cX9_keepGreatest 20 = .ok (.if_icmp .le 21, 3) := by decide +kernel
theorem dX9_keepGreatest_23 : decode cX9_keepGreatest 23 = .ok (.aload_n 0, 1) := by decide +kernel
theorem dX9_keepGreatest_24 : decode cX9_keepGreatest 24 = .ok (.getfield 25, 3) := by decide +kernel
theorem dX9_keepGreatest_27 : decode cX9_keepGreatest 27 = .ok (.iload_n 3, 1) := by decide +kernel
theorem dX9_keepGreatest_28 : decode cX9_keepGreatest 28 = .ok (.aload_n 1, 1) := by decide +kernel
theorem dX9_keepGreatest_29 : decode cX9_keepGreatest 29 = .ok (.iload_n 3, 1) := by decide +kernel
theorem dX9_keepGreatest_30 : decode cX9_keepGreatest 30 = .ok (.iaload, 1) := by decide +kernel
theorem dX9_keepGreatest_31 : decode cX9_keepGreatest 31 = .ok (.iastore, 1) := by decide +kernel
theorem dX9_keepGreatest_32 : decode cX9_keepGreatest 32 = .ok (.aload_n 0, 1) := by decide +kernel
theorem dX9_keepGreatest_33 : decode cX9_keepGreatest 33 = .ok (.getfield 28, 3) := by decide +kernel
theorem dX9_keepGreatest_36 : decode cX9_keepGreatest 36 = .ok (.iload_n 3, 1) := by decide +kernel
theorem dX9_keepGreatest_37 : decode cX9_keepGreatest 37 = .ok (.aload_n 2, 1) := by decide +kernel
theorem dX9_keepGreatest_38 : decode cX9_keepGreatest 38 = .ok (.iload_n 3, 1) := by decide +kernel
theorem dX9_keepGreatest_39 : decode cX9_keepGreatest 39 = .ok (.iaload, 1) := by decide +kernel
theorem dX9_keepGreatest_40 : decode cX9_keepGreatest 40 = .ok (.iastore, 1) := by decide +kernel
theorem dX9_keepGreatest_41 : decode cX9_keepGreatest 41 = .ok (.iinc 3 1, 3) := by decide +kernel
theorem dX9_keepGreatest_44 : decode cX9_keepGreatest 44 = .ok (.goto (-42), 3) := by decide +kernel
theorem dX9_keepGreatest_47 : decode cX9_keepGreatest 47 = .ok (.return_, 1) := by decide +kernel
theorem dX9_keptOrNo_0 : decode cX9_keptOrNo 0 = .ok (.aload_n 0, 1) := by decide +kernel
theorem dX9_keptOrNo_1 : decode cX9_keptOrNo 1 = .ok (.getfield 28, 3) := by decide +kernel
theorem dX9_keptOrNo_4 : decode cX9_keptOrNo 4 = .ok (.iload_n 1, 1) := by decide +kernel
theorem dX9_keptOrNo_5 : decode cX9_keptOrNo 5 = .ok (.iaload, 1) := by decide +kernel
theorem dX9_keptOrNo_6 : decode cX9_keptOrNo 6 = .ok (.ifCond .ne 7, 3) := by decide +kernel
theorem dX9_keptOrNo_9 : decode cX9_keptOrNo 9 = .ok (.iconst 2, 1) := by decide +kernel
theorem dX9_keptOrNo_10 : decode cX9_keptOrNo 10 = .ok (.goto 9, 3) := by decide +kernel
theorem dX9_keptOrNo_13 : decode cX9_keptOrNo 13 = .ok (.aload_n 0, 1) := by decide +kernel
theorem dX9_keptOrNo_14 : decode cX9_keptOrNo 14 = .ok (.getfield 28, 3) := by decide +kernel
theorem dX9_keptOrNo_17 : decode cX9_keptOrNo 17 = .ok (.iload_n 1, 1) := by decide +kernel
theorem dX9_keptOrNo_18 : decode cX9_keptOrNo 18 = .ok (.iaload, 1) := by decide +kernel
theorem dX9_keptOrNo_19 : decode cX9_keptOrNo 19 = .ok (.ireturn, 1) := by decide +kernel
theorem dX9_toldOfBallot_0 : decode cX9_toldOfBallot 0 = .ok (.iload_n 1, 1) := by decide +kernel
theorem dX9_toldOfBallot_1 : decode cX9_toldOfBallot 1 = .ok (.tableswitch 54 0 3 #[31, 36, 41, 46], 31) := by decide +kernel
theorem dX9_toldOfBallot_32 : decode cX9_toldOfBallot 32 = .ok (.aload_n 0, 1) := by decide +kernel
theorem dX9_toldOfBallot_33 : decode cX9_toldOfBallot 33 = .ok (.getfield 53, 3) := by decide +kernel
theorem dX9_toldOfBallot_36 : decode cX9_toldOfBallot 36 = .ok (.ireturn, 1) := by decide +kernel
theorem dX9_toldOfBallot_37 : decode cX9_toldOfBallot 37 = .ok (.aload_n 0, 1) := by decide +kernel
theorem dX9_toldOfBallot_38 : decode cX9_toldOfBallot 38 = .ok (.getfield 15, 3) := by decide +kernel
theorem dX9_toldOfBallot_41 : decode cX9_toldOfBallot 41 = .ok (.ireturn, 1) := by decide +kernel
theorem dX9_toldOfBallot_42 : decode cX9_toldOfBallot 42 = .ok (.aload_n 0, 1) := by decide +kernel
theorem dX9_toldOfBallot_43 : decode cX9_toldOfBallot 43 = .ok (.getfield 46, 3) := by decide +kernel
theorem dX9_toldOfBallot_46 : decode cX9_toldOfBallot 46 = .ok (.ireturn, 1) := by decide +kernel
theorem dX9_toldOfBallot_47 : decode cX9_toldOfBallot 47 = .ok (.aload_n 0, 1) := by decide +kernel
theorem dX9_toldOfBallot_48 : decode cX9_toldOfBallot 48 = .ok (.getfield 43, 3) := by decide +kernel
theorem dX9_toldOfBallot_51 : decode cX9_toldOfBallot 51 = .ok (.invokestatic 56, 3) := by decide +kernel
theorem dX9_toldOfBallot_54 : decode cX9_toldOfBallot 54 = .ok (.ireturn, 1) := by decide +kernel
theorem dX9_toldOfBallot_55 : decode cX9_toldOfBallot 55 = .ok (.iconst (-1), 1) := by decide +kernel
theorem dX9_toldOfBallot_56 : decode cX9_toldOfBallot 56 = .ok (.ireturn, 1) := by decide +kernel
theorem dX9_toldOfShard_0 : decode cX9_toldOfShard 0 = .ok (.iload_n 2, 1) := by decide +kernel
theorem dX9_toldOfShard_1 : decode cX9_toldOfShard 1 = .ok (.tableswitch 58 0 2 #[27, 34, 41], 27) := by decide +kernel
theorem dX9_toldOfShard_28 : decode cX9_toldOfShard 28 = .ok (.aload_n 0, 1) := by decide +kernel
theorem dX9_toldOfShard_29 : decode cX9_toldOfShard 29 = .ok (.getfield 18, 3) := by decide +kernel
theorem dX9_toldOfShard_32 : decode cX9_toldOfShard 32 = .ok (.iload_n 1, 1) := by decide +kernel
theorem dX9_toldOfShard_33 : decode cX9_toldOfShard 33 = .ok (.iaload, 1) := by decide +kernel
theorem dX9_toldOfShard_34 : decode cX9_toldOfShard 34 = .ok (.ireturn, 1) := by decide +kernel
theorem dX9_toldOfShard_35 : decode cX9_toldOfShard 35 = .ok (.aload_n 0, 1) := by decide +kernel
theorem dX9_toldOfShard_36 : decode cX9_toldOfShard 36 = .ok (.getfield 22, 3) := by decide +kernel
theorem dX9_toldOfShard_39 : decode cX9_toldOfShard 39 = .ok (.iload_n 1, 1) := by decide +kernel
theorem dX9_toldOfShard_40 : decode cX9_toldOfShard 40 = .ok (.iaload, 1) := by decide +kernel
theorem dX9_toldOfShard_41 : decode cX9_toldOfShard 41 = .ok (.ireturn, 1) := by decide +kernel
theorem dX9_toldOfShard_42 : decode cX9_toldOfShard 42 = .ok (.aload_n 0, 1) := by decide +kernel
theorem dX9_toldOfShard_43 : decode cX9_toldOfShard 43 = .ok (.getfield 31, 3) := by decide +kernel
theorem dX9_toldOfShard_46 : decode cX9_toldOfShard 46 = .ok (.iload_n 1, 1) := by decide +kernel
theorem dX9_toldOfShard_47 : decode cX9_toldOfShard 47 = .ok (.iaload, 1) := by decide +kernel
theorem dX9_toldOfShard_48 : decode cX9_toldOfShard 48 = .ok (.aload_n 0, 1) := by decide +kernel
theorem dX9_toldOfShard_49 : decode cX9_toldOfShard 49 = .ok (.getfield 34, 3) := by decide +kernel
theorem dX9_toldOfShard_52 : decode cX9_toldOfShard 52 = .ok (.iload_n 1, 1) := by decide +kernel
theorem dX9_toldOfShard_53 : decode cX9_toldOfShard 53 = .ok (.iaload, 1) := by decide +kernel
theorem dX9_toldOfShard_54 : decode cX9_toldOfShard 54 = .ok (.ior, 1) := by decide +kernel
theorem dX9_toldOfShard_55 : decode cX9_toldOfShard 55 = .ok (.invokestatic 56, 3) := by decide +kernel
theorem dX9_toldOfShard_58 : decode cX9_toldOfShard 58 = .ok (.ireturn, 1) := by decide +kernel
theorem dX9_toldOfShard_59 : decode cX9_toldOfShard 59 = .ok (.iconst (-1), 1) := by decide +kernel
theorem dX9_toldOfShard_60 : decode cX9_toldOfShard 60 = .ok (.ireturn, 1) := by decide +kernel
theorem dX10_init_0 : decode cX10_init 0 = .ok (.aload_n 0, 1) := by decide +kernel
theorem dX10_init_1 : decode cX10_init 1 = .ok (.invokespecial 1, 3) := by decide +kernel
theorem dX10_init_4 : decode cX10_init 4 = .ok (.aload_n 0, 1) := by decide +kernel
theorem dX10_init_5 : decode cX10_init 5 = .ok (.new 7, 3) := by decide +kernel
theorem dX10_init_8 : decode cX10_init 8 = .ok (.dup, 1) := by decide +kernel
theorem dX10_init_9 : decode cX10_init 9 = .ok (.iload_n 1, 1) := by decide +kernel
theorem dX10_init_10 : decode cX10_init 10 = .ok (.iload_n 2, 1) := by decide +kernel
theorem dX10_init_11 : decode cX10_init 11 = .ok (.iload_n 3, 1) := by decide +kernel
theorem dX10_init_12 : decode cX10_init 12 = .ok (.iload 4, 2) := by decide +kernel
theorem dX10_init_14 : decode cX10_init 14 = .ok (.iload 5, 2) := by decide +kernel
theorem dX10_init_16 : decode cX10_init 16 = .ok (.iload 6, 2) := by decide +kernel
theorem dX10_init_18 : decode cX10_init 18 = .ok (.invokespecial 9, 3) := by decide +kernel
theorem dX10_init_21 : decode cX10_init 21 = .ok (.putfield 12, 3) := by decide +kernel
theorem dX10_init_24 : decode cX10_init 24 = .ok (.aload_n 0, 1) := by decide +kernel
theorem dX10_init_25 : decode cX10_init 25 = .ok (.new 18, 3) := by decide +kernel
theorem dX10_init_28 : decode cX10_init 28 = .ok (.dup, 1) := by decide +kernel
theorem dX10_init_29 : decode cX10_init 29 = .ok (.aload_n 0, 1) := by decide +kernel
theorem dX10_init_30 : decode cX10_init 30 = .ok (.getfield 12, 3) := by decide +kernel
theorem dX10_init_33 : decode cX10_init 33 = .ok (.invokespecial 20, 3) := by decide +kernel
theorem dX10_init_36 : decode cX10_init 36 = .ok (.putfield 23, 3) := by decide +kernel
theorem dX10_init_39 : decode cX10_init 39 = .ok (.aload_n 0, 1) := by decide +kernel
theorem dX10_init_40 : decode cX10_init 40 = .ok (.new 27, 3) := by decide +kernel
theorem dX10_init_43 : decode cX10_init 43 = .ok (.dup, 1) := by decide +kernel
theorem dX10_init_44 : decode cX10_init 44 = .ok (.aload_n 0, 1) := by decide +kernel
theorem dX10_init_45 : decode cX10_init 45 = .ok (.getfield 12, 3) := by decide +kernel
theorem dX10_init_48 : decode cX10_init 48 = .ok (.invokespecial 29, 3) := by decide +kernel
theorem dX10_init_51 : decode cX10_init 51 = .ok (.putfield 30, 3) := by decide +kernel
theorem dX10_init_54 : decode cX10_init 54 = .ok (.aload_n 0, 1) := by decide +kernel
theorem dX10_init_55 : decode cX10_init 55 = .ok (.new 34, 3) := by decide +kernel
theorem dX10_init_58 : decode cX10_init 58 = .ok (.dup, 1) := by decide +kernel
theorem dX10_init_59 : decode cX10_init 59 = .ok (.aload_n 0, 1) := by decide +kernel
theorem dX10_init_60 : decode cX10_init 60 = .ok (.getfield 12, 3) := by decide +kernel
theorem dX10_init_63 : decode cX10_init 63 = .ok (.invokespecial 36, 3) := by decide +kernel
theorem dX10_init_66 : decode cX10_init 66 = .ok (.putfield 37, 3) := by decide +kernel
theorem dX10_init_69 : decode cX10_init 69 = .ok (.aload_n 0, 1) := by decide +kernel
theorem dX10_init_70 : decode cX10_init 70 = .ok (.aload_n 0, 1) := by decide +kernel
theorem dX10_init_71 : decode cX10_init 71 = .ok (.getfield 12, 3) := by decide +kernel
theorem dX10_init_74 : decode cX10_init 74 = .ok (.getfield 41, 3) := by decide +kernel
theorem dX10_init_77 : decode cX10_init 77 = .ok (.anewarray 45, 3) := by decide +kernel
theorem dX10_init_80 : decode cX10_init 80 = .ok (.putfield 47, 3) := by decide +kernel
theorem dX10_init_83 : decode cX10_init 83 = .ok (.iconst 0, 1) := by decide +kernel
theorem dX10_init_84 : decode cX10_init 84 = .ok (.istore 7, 2) := by decide +kernel
theorem dX10_init_86 : decode cX10_init 86 = .ok (.iload 7, 2) := by decide +kernel
theorem dX10_init_88 : decode cX10_init 88 = .ok (.aload_n 0, 1) := by decide +kernel
theorem dX10_init_89 : decode cX10_init 89 = .ok (.getfield 47, 3) := by decide +kernel
theorem dX10_init_92 : decode cX10_init 92 = .ok (.arraylength, 1) := by decide +kernel
theorem dX10_init_93 : decode cX10_init 93 = .ok (.if_icmp .ge 37, 3) := by decide +kernel
theorem dX10_init_96 : decode cX10_init 96 = .ok (.aload_n 0, 1) := by decide +kernel
theorem dX10_init_97 : decode cX10_init 97 = .ok (.getfield 47, 3) := by decide +kernel
theorem dX10_init_100 : decode cX10_init 100 = .ok (.iload 7, 2) := by decide +kernel
theorem dX10_init_102 : decode cX10_init 102 = .ok (.new 45, 3) := by decide +kernel
theorem dX10_init_105 : decode cX10_init 105 = .ok (.dup, 1) := by decide +kernel
theorem dX10_init_106 : decode cX10_init 106 = .ok (.iload 7, 2) := by decide +kernel
theorem dX10_init_108 : decode cX10_init 108 = .ok (.aload_n 0, 1) := by decide +kernel
theorem dX10_init_109 : decode cX10_init 109 = .ok (.getfield 12, 3) := by decide +kernel
theorem dX10_init_112 : decode cX10_init 112 = .ok (.aload_n 0, 1) := by decide +kernel
theorem dX10_init_113 : decode cX10_init 113 = .ok (.getfield 30, 3) := by decide +kernel
theorem dX10_init_116 : decode cX10_init 116 = .ok (.aload_n 0, 1) := by decide +kernel
theorem dX10_init_117 : decode cX10_init 117 = .ok (.getfield 37, 3) := by decide +kernel
theorem dX10_init_120 : decode cX10_init 120 = .ok (.invokespecial 51, 3) := by decide +kernel
theorem dX10_init_123 : decode cX10_init 123 = .ok (.aastore, 1) := by decide +kernel
theorem dX10_init_124 : decode cX10_init 124 = .ok (.iinc 7 1, 3) := by decide +kernel
theorem dX10_init_127 : decode cX10_init 127 = .ok (.goto (-41), 3) := by decide +kernel
theorem dX10_init_130 : decode cX10_init 130 = .ok (.aload_n 0, 1) := by decide +kernel
theorem dX10_init_131 : decode cX10_init 131 = .ok (.aload_n 0, 1) := by decide +kernel
theorem dX10_init_132 : decode cX10_init 132 = .ok (.getfield 12, 3) := by decide +kernel
theorem dX10_init_135 : decode cX10_init 135 = .ok (.getfield 54, 3) := by decide +kernel
theorem dX10_init_138 : decode cX10_init 138 = .ok (.anewarray 57, 3) := by decide +kernel
theorem dX10_init_141 : decode cX10_init 141 = .ok (.putfield 59, 3) := by decide +kernel
theorem dX10_init_144 : decode cX10_init 144 = .ok (.iconst 0, 1) := by decide +kernel
theorem dX10_init_145 : decode cX10_init 145 = .ok (.istore 7, 2) := by decide +kernel
theorem dX10_init_147 : decode cX10_init 147 = .ok (.iload 7, 2) := by decide +kernel
theorem dX10_init_149 : decode cX10_init 149 = .ok (.aload_n 0, 1) := by decide +kernel
theorem dX10_init_150 : decode cX10_init 150 = .ok (.getfield 59, 3) := by decide +kernel
theorem dX10_init_153 : decode cX10_init 153 = .ok (.arraylength, 1) := by decide +kernel
theorem dX10_init_154 : decode cX10_init 154 = .ok (.if_icmp .ge 37, 3) := by decide +kernel
theorem dX10_init_157 : decode cX10_init 157 = .ok (.aload_n 0, 1) := by decide +kernel
theorem dX10_init_158 : decode cX10_init 158 = .ok (.getfield 59, 3) := by decide +kernel
theorem dX10_init_161 : decode cX10_init 161 = .ok (.iload 7, 2) := by decide +kernel
theorem dX10_init_163 : decode cX10_init 163 = .ok (.new 57, 3) := by decide +kernel
theorem dX10_init_166 : decode cX10_init 166 = .ok (.dup, 1) := by decide +kernel
theorem dX10_init_167 : decode cX10_init 167 = .ok (.iload 7, 2) := by decide +kernel
theorem dX10_init_169 : decode cX10_init 169 = .ok (.aload_n 0, 1) := by decide +kernel
theorem dX10_init_170 : decode cX10_init 170 = .ok (.getfield 12, 3) := by decide +kernel
theorem dX10_init_173 : decode cX10_init 173 = .ok (.aload_n 0, 1) := by decide +kernel
theorem dX10_init_174 : decode cX10_init 174 = .ok (.getfield 23, 3) := by decide +kernel
theorem dX10_init_177 : decode cX10_init 177 = .ok (.aload_n 0, 1) := by decide +kernel
theorem dX10_init_178 : decode cX10_init 178 = .ok (.getfield 37, 3) := by decide +kernel
theorem dX10_init_181 : decode cX10_init 181 = .ok (.invokespecial 63, 3) := by decide +kernel
theorem dX10_init_184 : decode cX10_init 184 = .ok (.aastore, 1) := by decide +kernel
theorem dX10_init_185 : decode cX10_init 185 = .ok (.iinc 7 1, 3) := by decide +kernel
theorem dX10_init_188 : decode cX10_init 188 = .ok (.goto (-41), 3) := by decide +kernel
theorem dX10_init_191 : decode cX10_init 191 = .ok (.return_, 1) := by decide +kernel
theorem dX10_begin_0 : decode cX10_begin 0 = .ok (.aload_n 0, 1) := by decide +kernel
theorem dX10_begin_1 : decode cX10_begin 1 = .ok (.iload_n 1, 1) := by decide +kernel
theorem dX10_begin_2 : decode cX10_begin 2 = .ok (.invokevirtual 66, 3) := by decide +kernel
theorem dX10_begin_5 : decode cX10_begin 5 = .ok (.ifCond .ne 5, 3) := by decide +kernel
theorem dX10_begin_8 : decode cX10_begin 8 = .ok (.iconst (-1), 1) := by decide +kernel
theorem dX10_begin_9 : decode cX10_begin 9 = .ok (.ireturn, 1) := by decide +kernel
theorem dX10_begin_10 : decode cX10_begin 10 = .ok (.aload_n 0, 1) := by decide +kernel
theorem dX10_begin_11 : decode cX10_begin 11 = .ok (.getfield 23, 3) := by decide +kernel
theorem dX10_begin_14 : decode cX10_begin 14 = .ok (.getfield 70, 3) := by decide +kernel
theorem dX10_begin_17 : decode cX10_begin 17 = .ok (.iload_n 1, 1) := by decide +kernel
theorem dX10_begin_18 : decode cX10_begin 18 = .ok (.iaload, 1) := by decide +kernel
theorem dX10_begin_19 : decode cX10_begin 19 = .ok (.ifCond .eq 5, 3) := by decide +kernel
theorem dX10_begin_22 : decode cX10_begin 22 = .ok (.iconst 0, 1) := by decide +kernel
theorem dX10_begin_23 : decode cX10_begin 23 = .ok (.ireturn, 1) := by decide +kernel
theorem dX10_begin_24 : decode cX10_begin 24 = .ok (.aload_n 0, 1) := by decide +kernel
theorem dX10_begin_25 : decode cX10_begin 25 = .ok (.getfield 23, 3) := by decide +kernel
theorem dX10_begin_28 : decode cX10_begin 28 = .ok (.getfield 70, 3) := by decide +kernel
theorem dX10_begin_31 : decode cX10_begin 31 = .ok (.iload_n 1, 1) := by decide +kernel
theorem dX10_begin_32 : decode cX10_begin 32 = .ok (.iconst 1, 1) := by decide +kernel
theorem dX10_begin_33 : decode cX10_begin 33 = .ok (.iastore, 1) := by decide +kernel
theorem dX10_begin_34 : decode cX10_begin 34 = .ok (.iconst 1, 1) := by decide +kernel
theorem dX10_begin_35 : decode cX10_begin 35 = .ok (.ireturn, 1) := by decide +kernel
theorem dX10_read_0 : decode cX10_read 0 = .ok (.aload_n 0, 1) := by decide +kernel
theorem dX10_read_1 : decode cX10_read 1 = .ok (.aload_n 0, 1) := by decide +kernel
theorem dX10_read_2 : decode cX10_read 2 = .ok (.iload_n 1, 1) := by decide +kernel
theorem dX10_read_3 : decode cX10_read 3 = .ok (.iload_n 2, 1) := by decide +kernel
theorem dX10_read_4 : decode cX10_read 4 = .ok (.iconst 1, 1) := by decide +kernel
theorem dX10_read_5 : decode cX10_read 5 = .ok (.invokevirtual 74, 3) := by decide +kernel
theorem dX10_read_8 : decode cX10_read 8 = .ok (.putfield 78, 3) := by decide +kernel
theorem dX10_read_11 : decode cX10_read 11 = .ok (.aload_n 0, 1) := by decide +kernel
theorem dX10_read_12 : decode cX10_read 12 = .ok (.getfield 78, 3) := by decide +kernel
theorem dX10_read_15 : decode cX10_read 15 = .ok (.iconst 1, 1) := by decide +kernel
theorem dX10_read_16 : decode cX10_read 16 = .ok (.if_icmp .ne 15, 3) := by decide +kernel
theorem dX10_read_19 : decode cX10_read 19 = .ok (.aload_n 0, 1) := by decide +kernel
theorem dX10_read_20 : decode cX10_read 20 = .ok (.getfield 30, 3) := by decide +kernel
theorem dX10_read_23 : decode cX10_read 23 = .ok (.iload_n 1, 1) := by decide +kernel
theorem dX10_read_24 : decode cX10_read 24 = .ok (.iload_n 2, 1) := by decide +kernel
theorem dX10_read_25 : decode cX10_read 25 = .ok (.invokevirtual 81, 3) := by decide +kernel
theorem dX10_read_28 : decode cX10_read 28 = .ok (.goto 4, 3) := by decide +kernel
theorem dX10_read_31 : decode cX10_read 31 = .ok (.lconst 0, 1) := by decide +kernel
theorem dX10_read_32 : decode cX10_read 32 = .ok (.lreturn, 1) := by decide +kernel
theorem dX10_readStatus_0 : decode cX10_readStatus 0 = .ok (.aload_n 0, 1) := by decide +kernel
theorem dX10_readStatus_1 : decode cX10_readStatus 1 = .ok (.getfield 78, 3) := by decide +kernel
theorem dX10_readStatus_4 : decode cX10_readStatus 4 = .ok (.ireturn, 1) := by decide +kernel
theorem dX10_write_0 : decode cX10_write 0 = .ok (.aload_n 0, 1) := by decide +kernel
theorem dX10_write_1 : decode cX10_write 1 = .ok (.iload_n 1, 1) := by decide +kernel
theorem dX10_write_2 : decode cX10_write 2 = .ok (.iload_n 2, 1) := by decide +kernel
theorem dX10_write_3 : decode cX10_write 3 = .ok (.iconst 2, 1) := by decide +kernel
theorem dX10_write_4 : decode cX10_write 4 = .ok (.invokevirtual 74, 3) := by decide +kernel
theorem dX10_write_7 : decode cX10_write 7 = .ok (.istore 5, 2) := by decide +kernel
theorem dX10_write_9 : decode cX10_write 9 = .ok (.iload 5, 2) := by decide +kernel
