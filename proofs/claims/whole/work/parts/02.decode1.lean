theorem dX0_init_0 : decode cX0_init 0 = .ok (.aload_n 0, 1) := by decide +kernel
theorem dX0_init_1 : decode cX0_init 1 = .ok (.invokespecial 3, 3) := by decide +kernel
theorem dX0_init_4 : decode cX0_init 4 = .ok (.return_, 1) := by decide +kernel
theorem dX0_fill_0 : decode cX0_fill 0 = .ok (.aload_n 0, 1) := by decide +kernel
theorem dX0_fill_1 : decode cX0_fill 1 = .ok (.iload_n 1, 1) := by decide +kernel
theorem dX0_fill_2 : decode cX0_fill 2 = .ok (.putfield 9, 3) := by decide +kernel
theorem dX0_fill_5 : decode cX0_fill 5 = .ok (.aload_n 0, 1) := by decide +kernel
theorem dX0_fill_6 : decode cX0_fill 6 = .ok (.iload_n 2, 1) := by decide +kernel
theorem dX0_fill_7 : decode cX0_fill 7 = .ok (.putfield 15, 3) := by decide +kernel
theorem dX0_fill_10 : decode cX0_fill 10 = .ok (.aload_n 0, 1) := by decide +kernel
theorem dX0_fill_11 : decode cX0_fill 11 = .ok (.iload_n 3, 1) := by decide +kernel
theorem dX0_fill_12 : decode cX0_fill 12 = .ok (.putfield 18, 3) := by decide +kernel
theorem dX0_fill_15 : decode cX0_fill 15 = .ok (.aload_n 0, 1) := by decide +kernel
theorem dX0_fill_16 : decode cX0_fill 16 = .ok (.iload_n 1, 1) := by decide +kernel
theorem dX0_fill_17 : decode cX0_fill 17 = .ok (.ifCond .le 8, 3) := by decide +kernel
theorem dX0_fill_20 : decode cX0_fill 20 = .ok (.iload 4, 2) := by decide +kernel
theorem dX0_fill_22 : decode cX0_fill 22 = .ok (.goto 4, 3) := by decide +kernel
theorem dX0_fill_25 : decode cX0_fill 25 = .ok (.iconst 0, 1) := by decide +kernel
theorem dX0_fill_26 : decode cX0_fill 26 = .ok (.putfield 21, 3) := by decide +kernel
theorem dX0_fill_29 : decode cX0_fill 29 = .ok (.aload_n 0, 1) := by decide +kernel
theorem dX0_fill_30 : decode cX0_fill 30 = .ok (.iconst 0, 1) := by decide +kernel
theorem dX0_fill_31 : decode cX0_fill 31 = .ok (.putfield 24, 3) := by decide +kernel
theorem dX0_fill_34 : decode cX0_fill 34 = .ok (.aload_n 0, 1) := by decide +kernel
theorem dX0_fill_35 : decode cX0_fill 35 = .ok (.bipush (-6), 2) := by decide +kernel
theorem dX0_fill_37 : decode cX0_fill 37 = .ok (.putfield 27, 3) := by decide +kernel
theorem dX0_fill_40 : decode cX0_fill 40 = .ok (.aload_n 0, 1) := by decide +kernel
theorem dX0_fill_41 : decode cX0_fill 41 = .ok (.bipush (-6), 2) := by decide +kernel
theorem dX0_fill_43 : decode cX0_fill 43 = .ok (.putfield 30, 3) := by decide +kernel
theorem dX0_fill_46 : decode cX0_fill 46 = .ok (.aload_n 0, 1) := by decide +kernel
theorem dX0_fill_47 : decode cX0_fill 47 = .ok (.bipush (-6), 2) := by decide +kernel
theorem dX0_fill_49 : decode cX0_fill 49 = .ok (.putfield 33, 3) := by decide +kernel
theorem dX0_fill_52 : decode cX0_fill 52 = .ok (.return_, 1) := by decide +kernel
theorem dX0_passMinute_0 : decode cX0_passMinute 0 = .ok (.aload_n 0, 1) := by decide +kernel
theorem dX0_passMinute_1 : decode cX0_passMinute 1 = .ok (.getfield 21, 3) := by decide +kernel
theorem dX0_passMinute_4 : decode cX0_passMinute 4 = .ok (.ifCond .ne 14, 3) := by decide +kernel
theorem dX0_passMinute_7 : decode cX0_passMinute 7 = .ok (.aload_n 0, 1) := by decide +kernel
theorem dX0_passMinute_8 : decode cX0_passMinute 8 = .ok (.iload_n 2, 1) := by decide +kernel
theorem dX0_passMinute_9 : decode cX0_passMinute 9 = .ok (.putfield 27, 3) := by decide +kernel
theorem dX0_passMinute_12 : decode cX0_passMinute 12 = .ok (.aload_n 0, 1) := by decide +kernel
theorem dX0_passMinute_13 : decode cX0_passMinute 13 = .ok (.iconst 0, 1) := by decide +kernel
theorem dX0_passMinute_14 : decode cX0_passMinute 14 = .ok (.putfield 24, 3) := by decide +kernel
theorem dX0_passMinute_17 : decode cX0_passMinute 17 = .ok (.return_, 1) := by decide +kernel
theorem dX0_passMinute_18 : decode cX0_passMinute 18 = .ok (.aload_n 1, 1) := by decide +kernel
theorem dX0_passMinute_19 : decode cX0_passMinute 19 = .ok (.iconst 0, 1) := by decide +kernel
theorem dX0_passMinute_20 : decode cX0_passMinute 20 = .ok (.invokevirtual 38, 3) := by decide +kernel
theorem dX0_passMinute_23 : decode cX0_passMinute 23 = .ok (.istore 5, 2) := by decide +kernel
theorem dX0_passMinute_25 : decode cX0_passMinute 25 = .ok (.aload_n 1, 1) := by decide +kernel
theorem dX0_passMinute_26 : decode cX0_passMinute 26 = .ok (.bipush 100, 2) := by decide +kernel
theorem dX0_passMinute_28 : decode cX0_passMinute 28 = .ok (.iload 5, 2) := by decide +kernel
theorem dX0_passMinute_30 : decode cX0_passMinute 30 = .ok (.aload_n 0, 1) := by decide +kernel
theorem dX0_passMinute_31 : decode cX0_passMinute 31 = .ok (.getfield 21, 3) := by decide +kernel
theorem dX0_passMinute_34 : decode cX0_passMinute 34 = .ok (.isub, 1) := by decide +kernel
theorem dX0_passMinute_35 : decode cX0_passMinute 35 = .ok (.imul, 1) := by decide +kernel
theorem dX0_passMinute_36 : decode cX0_passMinute 36 = .ok (.iload 5, 2) := by decide +kernel
theorem dX0_passMinute_38 : decode cX0_passMinute 38 = .ok (.invokestatic 42, 3) := by decide +kernel
theorem dX0_passMinute_41 : decode cX0_passMinute 41 = .ok (.invokevirtual 46, 3) := by decide +kernel
theorem dX0_passMinute_44 : decode cX0_passMinute 44 = .ok (.istore 6, 2) := by decide +kernel
theorem dX0_passMinute_46 : decode cX0_passMinute 46 = .ok (.aload_n 0, 1) := by decide +kernel
theorem dX0_passMinute_47 : decode cX0_passMinute 47 = .ok (.aload_n 0, 1) := by decide +kernel
theorem dX0_passMinute_48 : decode cX0_passMinute 48 = .ok (.iload_n 2, 1) := by decide +kernel
theorem dX0_passMinute_49 : decode cX0_passMinute 49 = .ok (.iload 6, 2) := by decide +kernel
theorem dX0_passMinute_51 : decode cX0_passMinute 51 = .ok (.iload_n 3, 1) := by decide +kernel
theorem dX0_passMinute_52 : decode cX0_passMinute 52 = .ok (.aload_n 1, 1) := by decide +kernel
theorem dX0_passMinute_53 : decode cX0_passMinute 53 = .ok (.iconst 3, 1) := by decide +kernel
theorem dX0_passMinute_54 : decode cX0_passMinute 54 = .ok (.invokevirtual 38, 3) := by decide +kernel
theorem dX0_passMinute_57 : decode cX0_passMinute 57 = .ok (.invokevirtual 49, 3) := by decide +kernel
theorem dX0_passMinute_60 : decode cX0_passMinute 60 = .ok (.putfield 27, 3) := by decide +kernel
theorem dX0_passMinute_63 : decode cX0_passMinute 63 = .ok (.aload_n 0, 1) := by decide +kernel
theorem dX0_passMinute_64 : decode cX0_passMinute 64 = .ok (.aload_n 0, 1) := by decide +kernel
theorem dX0_passMinute_65 : decode cX0_passMinute 65 = .ok (.getfield 21, 3) := by decide +kernel
theorem dX0_passMinute_68 : decode cX0_passMinute 68 = .ok (.aload_n 0, 1) := by decide +kernel
theorem dX0_passMinute_69 : decode cX0_passMinute 69 = .ok (.getfield 27, 3) := by decide +kernel
theorem dX0_passMinute_72 : decode cX0_passMinute 72 = .ok (.iload 6, 2) := by decide +kernel
theorem dX0_passMinute_74 : decode cX0_passMinute 74 = .ok (.iload_n 3, 1) := by decide +kernel
theorem dX0_passMinute_75 : decode cX0_passMinute 75 = .ok (.invokestatic 53, 3) := by decide +kernel
theorem dX0_passMinute_78 : decode cX0_passMinute 78 = .ok (.invokestatic 57, 3) := by decide +kernel
theorem dX0_passMinute_81 : decode cX0_passMinute 81 = .ok (.putfield 24, 3) := by decide +kernel
theorem dX0_passMinute_84 : decode cX0_passMinute 84 = .ok (.aload_n 0, 1) := by decide +kernel
theorem dX0_passMinute_85 : decode cX0_passMinute 85 = .ok (.dup, 1) := by decide +kernel
theorem dX0_passMinute_86 : decode cX0_passMinute 86 = .ok (.getfield 21, 3) := by decide +kernel
theorem dX0_passMinute_89 : decode cX0_passMinute 89 = .ok (.aload_n 0, 1) := by decide +kernel
theorem dX0_passMinute_90 : decode cX0_passMinute 90 = .ok (.getfield 24, 3) := by decide +kernel
theorem dX0_passMinute_93 : decode cX0_passMinute 93 = .ok (.isub, 1) := by decide +kernel
theorem dX0_passMinute_94 : decode cX0_passMinute 94 = .ok (.putfield 21, 3) := by decide +kernel
theorem dX0_passMinute_97 : decode cX0_passMinute 97 = .ok (.aload_n 0, 1) := by decide +kernel
theorem dX0_passMinute_98 : decode cX0_passMinute 98 = .ok (.getfield 21, 3) := by decide +kernel
theorem dX0_passMinute_101 : decode cX0_passMinute 101 = .ok (.ifCond .ne 9, 3) := by decide +kernel
theorem dX0_passMinute_104 : decode cX0_passMinute 104 = .ok (.aload_n 0, 1) := by decide +kernel
theorem dX0_passMinute_105 : decode cX0_passMinute 105 = .ok (.iload 4, 2) := by decide +kernel
theorem dX0_passMinute_107 : decode cX0_passMinute 107 = .ok (.putfield 33, 3) := by decide +kernel
theorem dX0_passMinute_110 : decode cX0_passMinute 110 = .ok (.aload_n 0, 1) := by decide +kernel
theorem dX0_passMinute_111 : decode cX0_passMinute 111 = .ok (.getfield 30, 3) := by decide +kernel
theorem dX0_passMinute_114 : decode cX0_passMinute 114 = .ok (.bipush (-6), 2) := by decide +kernel
theorem dX0_passMinute_116 : decode cX0_passMinute 116 = .ok (.if_icmp .ne 22, 3) := by decide +kernel
theorem dX0_passMinute_119 : decode cX0_passMinute 119 = .ok (.aload_n 0, 1) := by decide +kernel
theorem dX0_passMinute_120 : decode cX0_passMinute 120 = .ok (.getfield 27, 3) := by decide +kernel
theorem dX0_passMinute_123 : decode cX0_passMinute 123 = .ok (.aload_n 1, 1) := by decide +kernel
theorem dX0_passMinute_124 : decode cX0_passMinute 124 = .ok (.bipush 6, 2) := by decide +kernel
theorem dX0_passMinute_126 : decode cX0_passMinute 126 = .ok (.invokevirtual 38, 3) := by decide +kernel
theorem dX0_passMinute_129 : decode cX0_passMinute 129 = .ok (.if_icmp .le 9, 3) := by decide +kernel
theorem dX0_passMinute_132 : decode cX0_passMinute 132 = .ok (.aload_n 0, 1) := by decide +kernel
theorem dX0_passMinute_133 : decode cX0_passMinute 133 = .ok (.iload 4, 2) := by decide +kernel
theorem dX0_passMinute_135 : decode cX0_passMinute 135 = .ok (.putfield 30, 3) := by decide +kernel
theorem dX0_passMinute_138 : decode cX0_passMinute 138 = .ok (.return_, 1) := by decide +kernel
theorem dX0_balance_0 : decode cX0_balance 0 = .ok (.sipush (-600), 3) := by decide +kernel
theorem dX0_balance_3 : decode cX0_balance 3 = .ok (.istore 5, 2) := by decide +kernel
theorem dX0_balance_5 : decode cX0_balance 5 = .ok (.sipush 512, 3) := by decide +kernel
theorem dX0_balance_8 : decode cX0_balance 8 = .ok (.istore 6, 2) := by decide +kernel
theorem dX0_balance_10 : decode cX0_balance 10 = .ok (.iload 6, 2) := by decide +kernel
theorem dX0_balance_12 : decode cX0_balance 12 = .ok (.ifCond .le 53, 3) := by decide +kernel
theorem dX0_balance_15 : decode cX0_balance 15 = .ok (.iload 5, 2) := by decide +kernel
theorem dX0_balance_17 : decode cX0_balance 17 = .ok (.iload 6, 2) := by decide +kernel
theorem dX0_balance_19 : decode cX0_balance 19 = .ok (.iadd, 1) := by decide +kernel
theorem dX0_balance_20 : decode cX0_balance 20 = .ok (.istore 7, 2) := by decide +kernel
theorem dX0_balance_22 : decode cX0_balance 22 = .ok (.iload 7, 2) := by decide +kernel
theorem dX0_balance_24 : decode cX0_balance 24 = .ok (.ifCond .gt 32, 3) := by decide +kernel
theorem dX0_balance_27 : decode cX0_balance 27 = .ok (.iload 7, 2) := by decide +kernel
theorem dX0_balance_29 : decode cX0_balance 29 = .ok (.iload_n 2, 1) := by decide +kernel
theorem dX0_balance_30 : decode cX0_balance 30 = .ok (.iload_n 3, 1) := by decide +kernel
theorem dX0_balance_31 : decode cX0_balance 31 = .ok (.invokestatic 53, 3) := by decide +kernel
theorem dX0_balance_34 : decode cX0_balance 34 = .ok (.iload 4, 2) := by decide +kernel
theorem dX0_balance_36 : decode cX0_balance 36 = .ok (.imul, 1) := by decide +kernel
theorem dX0_balance_37 : decode cX0_balance 37 = .ok (.aload_n 0, 1) := by decide +kernel
theorem dX0_balance_38 : decode cX0_balance 38 = .ok (.getfield 18, 3) := by decide +kernel
theorem dX0_balance_41 : decode cX0_balance 41 = .ok (.iload_n 1, 1) := by decide +kernel
theorem dX0_balance_42 : decode cX0_balance 42 = .ok (.iload 7, 2) := by decide +kernel
theorem dX0_balance_44 : decode cX0_balance 44 = .ok (.isub, 1) := by decide +kernel
theorem dX0_balance_45 : decode cX0_balance 45 = .ok (.imul, 1) := by decide +kernel
theorem dX0_balance_46 : decode cX0_balance 46 = .ok (.bipush 10, 2) := by decide +kernel
theorem dX0_balance_48 : decode cX0_balance 48 = .ok (.idiv, 1) := by decide +kernel
theorem dX0_balance_49 : decode cX0_balance 49 = .ok (.if_icmp .gt 7, 3) := by decide +kernel
theorem dX0_balance_52 : decode cX0_balance 52 = .ok (.iload 7, 2) := by decide +kernel
theorem dX0_balance_54 : decode cX0_balance 54 = .ok (.istore 5, 2) := by decide +kernel
theorem dX0_balance_56 : decode cX0_balance 56 = .ok (.iload 6, 2) := by decide +kernel
theorem dX0_balance_58 : decode cX0_balance 58 = .ok (.iconst 2, 1) := by decide +kernel
theorem dX0_balance_59 : decode cX0_balance 59 = .ok (.idiv, 1) := by decide +kernel
theorem dX0_balance_60 : decode cX0_balance 60 = .ok (.istore 6, 2) := by decide +kernel
theorem dX0_balance_62 : decode cX0_balance 62 = .ok (.goto (-52), 3) := by decide +kernel
theorem dX0_balance_65 : decode cX0_balance 65 = .ok (.iload 5, 2) := by decide +kernel
theorem dX0_balance_67 : decode cX0_balance 67 = .ok (.ireturn, 1) := by decide +kernel
theorem dX0_tell_0 : decode cX0_tell 0 = .ok (.iload_n 1, 1) := by decide +kernel
theorem dX0_tell_1 : decode cX0_tell 1 = .ok (.tableswitch 51 0 3 #[31, 36, 41, 46], 31) := by decide +kernel
theorem dX0_tell_32 : decode cX0_tell 32 = .ok (.aload_n 0, 1) := by decide +kernel
theorem dX0_tell_33 : decode cX0_tell 33 = .ok (.getfield 21, 3) := by decide +kernel
theorem dX0_tell_36 : decode cX0_tell 36 = .ok (.ireturn, 1) := by decide +kernel
theorem dX0_tell_37 : decode cX0_tell 37 = .ok (.aload_n 0, 1) := by decide +kernel
theorem dX0_tell_38 : decode cX0_tell 38 = .ok (.getfield 27, 3) := by decide +kernel
theorem dX0_tell_41 : decode cX0_tell 41 = .ok (.ireturn, 1) := by decide +kernel
theorem dX0_tell_42 : decode cX0_tell 42 = .ok (.aload_n 0, 1) := by decide +kernel
theorem dX0_tell_43 : decode cX0_tell 43 = .ok (.getfield 24, 3) := by decide +kernel
theorem dX0_tell_46 : decode cX0_tell 46 = .ok (.ireturn, 1) := by decide +kernel
theorem dX0_tell_47 : decode cX0_tell 47 = .ok (.aload_n 0, 1) := by decide +kernel
theorem dX0_tell_48 : decode cX0_tell 48 = .ok (.getfield 30, 3) := by decide +kernel
theorem dX0_tell_51 : decode cX0_tell 51 = .ok (.ireturn, 1) := by decide +kernel
theorem dX0_tell_52 : decode cX0_tell 52 = .ok (.aload_n 0, 1) := by decide +kernel
theorem dX0_tell_53 : decode cX0_tell 53 = .ok (.getfield 33, 3) := by decide +kernel
theorem dX0_tell_56 : decode cX0_tell 56 = .ok (.ireturn, 1) := by decide +kernel
theorem dX1_init_0 : decode cX1_init 0 = .ok (.aload_n 0, 1) := by decide +kernel
theorem dX1_init_1 : decode cX1_init 1 = .ok (.invokespecial 3, 3) := by decide +kernel
theorem dX1_init_4 : decode cX1_init 4 = .ok (.aload_n 0, 1) := by decide +kernel
theorem dX1_init_5 : decode cX1_init 5 = .ok (.sipush 2001, 3) := by decide +kernel
theorem dX1_init_8 : decode cX1_init 8 = .ok (.newarray .int, 2) := by decide +kernel
theorem dX1_init_10 : decode cX1_init 10 = .ok (.putfield 9, 3) := by decide +kernel
theorem dX1_init_13 : decode cX1_init 13 = .ok (.aload_n 0, 1) := by decide +kernel
theorem dX1_init_14 : decode cX1_init 14 = .ok (.sipush 2001, 3) := by decide +kernel
theorem dX1_init_17 : decode cX1_init 17 = .ok (.newarray .int, 2) := by decide +kernel
theorem dX1_init_19 : decode cX1_init 19 = .ok (.putfield 15, 3) := by decide +kernel
theorem dX1_init_22 : decode cX1_init 22 = .ok (.aload_n 0, 1) := by decide +kernel
theorem dX1_init_23 : decode cX1_init 23 = .ok (.sipush 2001, 3) := by decide +kernel
theorem dX1_init_26 : decode cX1_init 26 = .ok (.newarray .int, 2) := by decide +kernel
theorem dX1_init_28 : decode cX1_init 28 = .ok (.putfield 18, 3) := by decide +kernel
theorem dX1_init_31 : decode cX1_init 31 = .ok (.return_, 1) := by decide +kernel
theorem dX1_note_0 : decode cX1_note 0 = .ok (.aload_n 1, 1) := by decide +kernel
theorem dX1_note_1 : decode cX1_note 1 = .ok (.getfield 21, 3) := by decide +kernel
theorem dX1_note_4 : decode cX1_note 4 = .ok (.istore_n 3, 1) := by decide +kernel
theorem dX1_note_5 : decode cX1_note 5 = .ok (.iload_n 3, 1) := by decide +kernel
theorem dX1_note_6 : decode cX1_note 6 = .ok (.invokestatic 27, 3) := by decide +kernel
theorem dX1_note_9 : decode cX1_note 9 = .ok (.ifCond .eq 34, 3) := by decide +kernel
theorem dX1_note_12 : decode cX1_note 12 = .ok (.aload_n 0, 1) := by decide +kernel
theorem dX1_note_13 : decode cX1_note 13 = .ok (.getfield 9, 3) := by decide +kernel
theorem dX1_note_16 : decode cX1_note 16 = .ok (.iload_n 3, 1) := by decide +kernel
theorem dX1_note_17 : decode cX1_note 17 = .ok (.aload_n 1, 1) := by decide +kernel
theorem dX1_note_18 : decode cX1_note 18 = .ok (.getfield 31, 3) := by decide +kernel
theorem dX1_note_21 : decode cX1_note 21 = .ok (.iastore, 1) := by decide +kernel
theorem dX1_note_22 : decode cX1_note 22 = .ok (.aload_n 0, 1) := by decide +kernel
theorem dX1_note_23 : decode cX1_note 23 = .ok (.getfield 15, 3) := by decide +kernel
theorem dX1_note_26 : decode cX1_note 26 = .ok (.iload_n 3, 1) := by decide +kernel
theorem dX1_note_27 : decode cX1_note 27 = .ok (.aload_n 1, 1) := by decide +kernel
theorem dX1_note_28 : decode cX1_note 28 = .ok (.aload_n 2, 1) := by decide +kernel
theorem dX1_note_29 : decode cX1_note 29 = .ok (.invokevirtual 34, 3) := by decide +kernel
theorem dX1_note_32 : decode cX1_note 32 = .ok (.iastore, 1) := by decide +kernel
theorem dX1_note_33 : decode cX1_note 33 = .ok (.aload_n 0, 1) := by decide +kernel
theorem dX1_note_34 : decode cX1_note 34 = .ok (.getfield 18, 3) := by decide +kernel
theorem dX1_note_37 : decode cX1_note 37 = .ok (.iload_n 3, 1) := by decide +kernel
theorem dX1_note_38 : decode cX1_note 38 = .ok (.aload_n 1, 1) := by decide +kernel
theorem dX1_note_39 : decode cX1_note 39 = .ok (.invokevirtual 38, 3) := by decide +kernel
theorem dX1_note_42 : decode cX1_note 42 = .ok (.iastore, 1) := by decide +kernel
theorem dX1_note_43 : decode cX1_note 43 = .ok (.return_, 1) := by decide +kernel
theorem dX1_oneAt_0 : decode cX1_oneAt 0 = .ok (.iload_n 1, 1) := by decide +kernel
theorem dX1_oneAt_1 : decode cX1_oneAt 1 = .ok (.invokestatic 27, 3) := by decide +kernel
theorem dX1_oneAt_4 : decode cX1_oneAt 4 = .ok (.ifCond .eq 12, 3) := by decide +kernel
theorem dX1_oneAt_7 : decode cX1_oneAt 7 = .ok (.aload_n 0, 1) := by decide +kernel
theorem dX1_oneAt_8 : decode cX1_oneAt 8 = .ok (.getfield 9, 3) := by decide +kernel
theorem dX1_oneAt_11 : decode cX1_oneAt 11 = .ok (.iload_n 1, 1) := by decide +kernel
theorem dX1_oneAt_12 : decode cX1_oneAt 12 = .ok (.iaload, 1) := by decide +kernel
theorem dX1_oneAt_13 : decode cX1_oneAt 13 = .ok (.goto 4, 3) := by decide +kernel
theorem dX1_oneAt_16 : decode cX1_oneAt 16 = .ok (.iconst (-1), 1) := by decide +kernel
theorem dX1_oneAt_17 : decode cX1_oneAt 17 = .ok (.ireturn, 1) := by decide +kernel
theorem dX1_otherAt_0 : decode cX1_otherAt 0 = .ok (.iload_n 1, 1) := by decide +kernel
theorem dX1_otherAt_1 : decode cX1_otherAt 1 = .ok (.invokestatic 27, 3) := by decide +kernel
theorem dX1_otherAt_4 : decode cX1_otherAt 4 = .ok (.ifCond .eq 12, 3) := by decide +kernel
theorem dX1_otherAt_7 : decode cX1_otherAt 7 = .ok (.aload_n 0, 1) := by decide +kernel
theorem dX1_otherAt_8 : decode cX1_otherAt 8 = .ok (.getfield 15, 3) := by decide +kernel
theorem dX1_otherAt_11 : decode cX1_otherAt 11 = .ok (.iload_n 1, 1) := by decide +kernel
theorem dX1_otherAt_12 : decode cX1_otherAt 12 = .ok (.iaload, 1) := by decide +kernel
theorem dX1_otherAt_13 : decode cX1_otherAt 13 = .ok (.goto 4, 3) := by decide +kernel
theorem dX1_otherAt_16 : decode cX1_otherAt 16 = .ok (.iconst (-1), 1) := by decide +kernel
theorem dX1_otherAt_17 : decode cX1_otherAt 17 = .ok (.ireturn, 1) := by decide +kernel
theorem dX1_withIceAt_0 : decode cX1_withIceAt 0 = .ok (.iload_n 1, 1) := by decide +kernel
theorem dX1_withIceAt_1 : decode cX1_withIceAt 1 = .ok (.invokestatic 27, 3) := by decide +kernel
theorem dX1_withIceAt_4 : decode cX1_withIceAt 4 = .ok (.ifCond .eq 12, 3) := by decide +kernel
theorem dX1_withIceAt_7 : decode cX1_withIceAt 7 = .ok (.aload_n 0, 1) := by decide +kernel
theorem dX1_withIceAt_8 : decode cX1_withIceAt 8 = .ok (.getfield 18, 3) := by decide +kernel
theorem dX1_withIceAt_11 : decode cX1_withIceAt 11 = .ok (.iload_n 1, 1) := by decide +kernel
theorem dX1_withIceAt_12 : decode cX1_withIceAt 12 = .ok (.iaload, 1) := by decide +kernel
theorem dX1_withIceAt_13 : decode cX1_withIceAt 13 = .ok (.goto 4, 3) := by decide +kernel
theorem dX1_withIceAt_16 : decode cX1_withIceAt 16 = .ok (.iconst (-1), 1) := by decide +kernel
theorem dX1_withIceAt_17 : decode cX1_withIceAt 17 = .ok (.ireturn, 1) := by decide +kernel
theorem dX1_findEnd_0 : decode cX1_findEnd 0 = .ok (.iconst 0, 1) := by decide +kernel
theorem dX1_findEnd_1 : decode cX1_findEnd 1 = .ok (.istore 4, 2) := by decide +kernel
theorem dX1_findEnd_3 : decode cX1_findEnd 3 = .ok (.iconst 1, 1) := by decide +kernel
theorem dX1_findEnd_4 : decode cX1_findEnd 4 = .ok (.istore 5, 2) := by decide +kernel
theorem dX1_findEnd_6 : decode cX1_findEnd 6 = .ok (.iload 5, 2) := by decide +kernel
theorem dX1_findEnd_8 : decode cX1_findEnd 8 = .ok (.iload_n 1, 1) := by decide +kernel
theorem dX1_findEnd_9 : decode cX1_findEnd 9 = .ok (.if_icmp .gt 45, 3) := by decide +kernel
theorem dX1_findEnd_12 : decode cX1_findEnd 12 = .ok (.aload_n 0, 1) := by decide +kernel
theorem dX1_findEnd_13 : decode cX1_findEnd 13 = .ok (.iload 5, 2) := by decide +kernel
theorem dX1_findEnd_15 : decode cX1_findEnd 15 = .ok (.invokevirtual 42, 3) := by decide +kernel
theorem dX1_findEnd_18 : decode cX1_findEnd 18 = .ok (.aload_n 0, 1) := by decide +kernel
theorem dX1_findEnd_19 : decode cX1_findEnd 19 = .ok (.iload 5, 2) := by decide +kernel
theorem dX1_findEnd_21 : decode cX1_findEnd 21 = .ok (.invokevirtual 46, 3) := by decide +kernel
theorem dX1_findEnd_24 : decode cX1_findEnd 24 = .ok (.isub, 1) := by decide +kernel
theorem dX1_findEnd_25 : decode cX1_findEnd 25 = .ok (.iload_n 2, 1) := by decide +kernel
theorem dX1_findEnd_26 : decode cX1_findEnd 26 = .ok (.if_icmp .gt 10, 3) := by decide +kernel
theorem dX1_findEnd_29 : decode cX1_findEnd 29 = .ok (.iload 4, 2) := by decide +kernel
theorem dX1_findEnd_31 : decode cX1_findEnd 31 = .ok (.iconst 1, 1) := by decide +kernel
theorem dX1_findEnd_32 : decode cX1_findEnd 32 = .ok (.iadd, 1) := by decide +kernel
theorem dX1_findEnd_33 : decode cX1_findEnd 33 = .ok (.goto 4, 3) := by decide +kernel
theorem dX1_findEnd_36 : decode cX1_findEnd 36 = .ok (.iconst 0, 1) := by decide +kernel
theorem dX1_findEnd_37 : decode cX1_findEnd 37 = .ok (.istore 4, 2) := by decide +kernel
theorem dX1_findEnd_39 : decode cX1_findEnd 39 = .ok (.iload 4, 2) := by decide +kernel
theorem dX1_findEnd_41 : decode cX1_findEnd 41 = .ok (.iload_n 3, 1) := by decide +kernel
theorem dX1_findEnd_42 : decode cX1_findEnd 42 = .ok (.if_icmp .lt 6, 3) := by decide +kernel
theorem dX1_findEnd_45 : decode cX1_findEnd 45 = .ok (.iload 5, 2) := by decide +kernel
theorem dX1_findEnd_47 : decode cX1_findEnd 47 = .ok (.ireturn, 1) := by decide +kernel
theorem dX1_findEnd_48 : decode cX1_findEnd 48 = .ok (.iinc 5 1, 3) := by decide +kernel
theorem dX1_findEnd_51 : decode cX1_findEnd 51 = .ok (.goto (-45), 3) := by decide +kernel
theorem dX1_findEnd_54 : decode cX1_findEnd 54 = .ok (.bipush (-6), 2) := by decide +kernel
theorem dX1_findEnd_56 : decode cX1_findEnd 56 = .ok (.ireturn, 1) := by decide +kernel
theorem dX1_holds_0 : decode cX1_holds 0 = .ok (.iload_n 0, 1) := by decide +kernel
theorem dX1_holds_1 : decode cX1_holds 1 = .ok (.iconst 0, 1) := by decide +kernel
theorem dX1_holds_2 : decode cX1_holds 2 = .ok (.sipush 2000, 3) := by decide +kernel
theorem dX1_holds_5 : decode cX1_holds 5 = .ok (.invokestatic 49, 3) := by decide +kernel
theorem dX1_holds_8 : decode cX1_holds 8 = .ok (.ireturn, 1) := by decide +kernel
theorem dX2_init_0 : decode cX2_init 0 = .ok (.aload_n 0, 1) := by decide +kernel
theorem dX2_init_1 : decode cX2_init 1 = .ok (.invokespecial 3, 3) := by decide +kernel
theorem dX2_init_4 : decode cX2_init 4 = .ok (.aload_n 0, 1) := by decide +kernel
theorem dX2_init_5 : decode cX2_init 5 = .ok (.new 9, 3) := by decide +kernel
theorem dX2_init_8 : decode cX2_init 8 = .ok (.dup, 1) := by decide +kernel
theorem dX2_init_9 : decode cX2_init 9 = .ok (.invokespecial 11, 3) := by decide +kernel
theorem dX2_init_12 : decode cX2_init 12 = .ok (.putfield 12, 3) := by decide +kernel
theorem dX2_init_15 : decode cX2_init 15 = .ok (.aload_n 0, 1) := by decide +kernel
theorem dX2_init_16 : decode cX2_init 16 = .ok (.new 9, 3) := by decide +kernel
theorem dX2_init_19 : decode cX2_init 19 = .ok (.dup, 1) := by decide +kernel
theorem dX2_init_20 : decode cX2_init 20 = .ok (.invokespecial 11, 3) := by decide +kernel
theorem dX2_init_23 : decode cX2_init 23 = .ok (.putfield 18, 3) := by decide +kernel
theorem dX2_init_26 : decode cX2_init 26 = .ok (.return_, 1) := by decide +kernel
theorem dX2_start_0 : decode cX2_start 0 = .ok (.iconst 0, 1) := by decide +kernel
theorem dX2_start_1 : decode cX2_start 1 = .ok (.iload_n 2, 1) := by decide +kernel
theorem dX2_start_2 : decode cX2_start 2 = .ok (.iconst 2, 1) := by decide +kernel
theorem dX2_start_3 : decode cX2_start 3 = .ok (.isub, 1) := by decide +kernel
theorem dX2_start_4 : decode cX2_start 4 = .ok (.invokestatic 21, 3) := by decide +kernel
theorem dX2_start_7 : decode cX2_start 7 = .ok (.iconst 0, 1) := by decide +kernel
theorem dX2_start_8 : decode cX2_start 8 = .ok (.iload_n 3, 1) := by decide +kernel
theorem dX2_start_9 : decode cX2_start 9 = .ok (.iconst 2, 1) := by decide +kernel
theorem dX2_start_10 : decode cX2_start 10 = .ok (.isub, 1) := by decide +kernel
theorem dX2_start_11 : decode cX2_start 11 = .ok (.invokestatic 21, 3) := by decide +kernel
theorem dX2_start_14 : decode cX2_start 14 = .ok (.imul, 1) := by decide +kernel
theorem dX2_start_15 : decode cX2_start 15 = .ok (.istore 5, 2) := by decide +kernel
theorem dX2_start_17 : decode cX2_start 17 = .ok (.aload_n 1, 1) := by decide +kernel
theorem dX2_start_18 : decode cX2_start 18 = .ok (.iconst 1, 1) := by decide +kernel
theorem dX2_start_19 : decode cX2_start 19 = .ok (.invokevirtual 29, 3) := by decide +kernel
theorem dX2_start_22 : decode cX2_start 22 = .ok (.istore 6, 2) := by decide +kernel
theorem dX2_start_24 : decode cX2_start 24 = .ok (.aload_n 1, 1) := by decide +kernel
theorem dX2_start_25 : decode cX2_start 25 = .ok (.iconst 0, 1) := by decide +kernel
theorem dX2_start_26 : decode cX2_start 26 = .ok (.invokevirtual 29, 3) := by decide +kernel
theorem dX2_start_29 : decode cX2_start 29 = .ok (.istore 7, 2) := by decide +kernel
theorem dX2_start_31 : decode cX2_start 31 = .ok (.aload_n 0, 1) := by decide +kernel
theorem dX2_start_32 : decode cX2_start 32 = .ok (.getfield 12, 3) := by decide +kernel
theorem dX2_start_35 : decode cX2_start 35 = .ok (.iload_n 2, 1) := by decide +kernel
theorem dX2_start_36 : decode cX2_start 36 = .ok (.iload_n 3, 1) := by decide +kernel
theorem dX2_start_37 : decode cX2_start 37 = .ok (.imul, 1) := by decide +kernel
theorem dX2_start_38 : decode cX2_start 38 = .ok (.iload 5, 2) := by decide +kernel
theorem dX2_start_40 : decode cX2_start 40 = .ok (.isub, 1) := by decide +kernel
theorem dX2_start_41 : decode cX2_start 41 = .ok (.iconst 0, 1) := by decide +kernel
theorem dX2_start_42 : decode cX2_start 42 = .ok (.iload 6, 2) := by decide +kernel
theorem dX2_start_44 : decode cX2_start 44 = .ok (.aload_n 1, 1) := by decide +kernel
theorem dX2_start_45 : decode cX2_start 45 = .ok (.iconst 2, 1) := by decide +kernel
theorem dX2_start_46 : decode cX2_start 46 = .ok (.invokevirtual 29, 3) := by decide +kernel
theorem dX2_start_49 : decode cX2_start 49 = .ok (.iadd, 1) := by decide +kernel
theorem dX2_start_50 : decode cX2_start 50 = .ok (.iload 7, 2) := by decide +kernel
theorem dX2_start_52 : decode cX2_start 52 = .ok (.invokevirtual 33, 3) := by decide +kernel
theorem dX2_start_55 : decode cX2_start 55 = .ok (.aload_n 0, 1) := by decide +kernel
theorem dX2_start_56 : decode cX2_start 56 = .ok (.getfield 18, 3) := by decide +kernel
theorem dX2_start_59 : decode cX2_start 59 = .ok (.iload 5, 2) := by decide +kernel
theorem dX2_start_61 : decode cX2_start 61 = .ok (.iload_n 3, 1) := by decide +kernel
theorem dX2_start_62 : decode cX2_start 62 = .ok (.iconst 1, 1) := by decide +kernel
theorem dX2_start_63 : decode cX2_start 63 = .ok (.iadd, 1) := by decide +kernel
theorem dX2_start_64 : decode cX2_start 64 = .ok (.iload 6, 2) := by decide +kernel
theorem dX2_start_66 : decode cX2_start 66 = .ok (.iload 7, 2) := by decide +kernel
theorem dX2_start_68 : decode cX2_start 68 = .ok (.invokevirtual 33, 3) := by decide +kernel
theorem dX2_start_71 : decode cX2_start 71 = .ok (.aload_n 0, 1) := by decide +kernel
theorem dX2_start_72 : decode cX2_start 72 = .ok (.iconst 0, 1) := by decide +kernel
theorem dX2_start_73 : decode cX2_start 73 = .ok (.putfield 37, 3) := by decide +kernel
theorem dX2_start_76 : decode cX2_start 76 = .ok (.aload_n 0, 1) := by decide +kernel
theorem dX2_start_77 : decode cX2_start 77 = .ok (.iload 4, 2) := by decide +kernel
theorem dX2_start_79 : decode cX2_start 79 = .ok (.putfield 41, 3) := by decide +kernel
theorem dX2_start_82 : decode cX2_start 82 = .ok (.aload_n 0, 1) := by decide +kernel
theorem dX2_start_83 : decode cX2_start 83 = .ok (.iload 4, 2) := by decide +kernel
theorem dX2_start_85 : decode cX2_start 85 = .ok (.putfield 44, 3) := by decide +kernel
theorem dX2_start_88 : decode cX2_start 88 = .ok (.aload_n 0, 1) := by decide +kernel
theorem dX2_start_89 : decode cX2_start 89 = .ok (.iconst 0, 1) := by decide +kernel
theorem dX2_start_90 : decode cX2_start 90 = .ok (.putfield 47, 3) := by decide +kernel
theorem dX2_start_93 : decode cX2_start 93 = .ok (.aload_n 0, 1) := by decide +kernel
theorem dX2_start_94 : decode cX2_start 94 = .ok (.iconst 0, 1) := by decide +kernel
theorem dX2_start_95 : decode cX2_start 95 = .ok (.putfield 50, 3) := by decide +kernel
theorem dX2_start_98 : decode cX2_start 98 = .ok (.return_, 1) := by decide +kernel
theorem dX2_passMinute_0 : decode cX2_passMinute 0 = .ok (.aload_n 0, 1) := by decide +kernel
theorem dX2_passMinute_1 : decode cX2_passMinute 1 = .ok (.getfield 12, 3) := by decide +kernel
theorem dX2_passMinute_4 : decode cX2_passMinute 4 = .ok (.aload_n 1, 1) := by decide +kernel
theorem dX2_passMinute_5 : decode cX2_passMinute 5 = .ok (.iload_n 2, 1) := by decide +kernel
theorem dX2_passMinute_6 : decode cX2_passMinute 6 = .ok (.aload_n 0, 1) := by decide +kernel
theorem dX2_passMinute_7 : decode cX2_passMinute 7 = .ok (.getfield 41, 3) := by decide +kernel
theorem dX2_passMinute_10 : decode cX2_passMinute 10 = .ok (.aload_n 0, 1) := by decide +kernel
theorem dX2_passMinute_11 : decode cX2_passMinute 11 = .ok (.getfield 37, 3) := by decide +kernel
theorem dX2_passMinute_14 : decode cX2_passMinute 14 = .ok (.invokevirtual 53, 3) := by decide +kernel
theorem dX2_passMinute_17 : decode cX2_passMinute 17 = .ok (.aload_n 0, 1) := by decide +kernel
theorem dX2_passMinute_18 : decode cX2_passMinute 18 = .ok (.getfield 18, 3) := by decide +kernel
theorem dX2_passMinute_21 : decode cX2_passMinute 21 = .ok (.aload_n 1, 1) := by decide +kernel
theorem dX2_passMinute_22 : decode cX2_passMinute 22 = .ok (.iload_n 2, 1) := by decide +kernel
theorem dX2_passMinute_23 : decode cX2_passMinute 23 = .ok (.aload_n 0, 1) := by decide +kernel
theorem dX2_passMinute_24 : decode cX2_passMinute 24 = .ok (.getfield 41, 3) := by decide +kernel
theorem dX2_passMinute_27 : decode cX2_passMinute 27 = .ok (.aload_n 0, 1) := by decide +kernel
theorem dX2_passMinute_28 : decode cX2_passMinute 28 = .ok (.getfield 37, 3) := by decide +kernel
theorem dX2_passMinute_31 : decode cX2_passMinute 31 = .ok (.invokevirtual 53, 3) := by decide +kernel
theorem dX2_passMinute_34 : decode cX2_passMinute 34 = .ok (.aload_n 0, 1) := by decide +kernel
theorem dX2_passMinute_35 : decode cX2_passMinute 35 = .ok (.aload_n 0, 1) := by decide +kernel
theorem dX2_passMinute_36 : decode cX2_passMinute 36 = .ok (.getfield 12, 3) := by decide +kernel
theorem dX2_passMinute_39 : decode cX2_passMinute 39 = .ok (.getfield 57, 3) := by decide +kernel
theorem dX2_passMinute_42 : decode cX2_passMinute 42 = .ok (.aload_n 0, 1) := by decide +kernel
theorem dX2_passMinute_43 : decode cX2_passMinute 43 = .ok (.getfield 12, 3) := by decide +kernel
theorem dX2_passMinute_46 : decode cX2_passMinute 46 = .ok (.getfield 60, 3) := by decide +kernel
theorem dX2_passMinute_49 : decode cX2_passMinute 49 = .ok (.imul, 1) := by decide +kernel
theorem dX2_passMinute_50 : decode cX2_passMinute 50 = .ok (.aload_n 0, 1) := by decide +kernel
theorem dX2_passMinute_51 : decode cX2_passMinute 51 = .ok (.getfield 18, 3) := by decide +kernel
theorem dX2_passMinute_54 : decode cX2_passMinute 54 = .ok (.getfield 57, 3) := by decide +kernel
theorem dX2_passMinute_57 : decode cX2_passMinute 57 = .ok (.aload_n 0, 1) := by decide +kernel
theorem dX2_passMinute_58 : decode cX2_passMinute 58 = .ok (.getfield 18, 3) := by decide +kernel
theorem dX2_passMinute_61 : decode cX2_passMinute 61 = .ok (.getfield 60, 3) := by decide +kernel
theorem dX2_passMinute_64 : decode cX2_passMinute 64 = .ok (.imul, 1) := by decide +kernel
theorem dX2_passMinute_65 : decode cX2_passMinute 65 = .ok (.iadd, 1) := by decide +kernel
theorem dX2_passMinute_66 : decode cX2_passMinute 66 = .ok (.putfield 47, 3) := by decide +kernel
theorem dX2_passMinute_69 : decode cX2_passMinute 69 = .ok (.aload_n 0, 1) := by decide +kernel
theorem dX2_passMinute_70 : decode cX2_passMinute 70 = .ok (.dup, 1) := by decide +kernel
theorem dX2_passMinute_71 : decode cX2_passMinute 71 = .ok (.getfield 50, 3) := by decide +kernel
theorem dX2_passMinute_74 : decode cX2_passMinute 74 = .ok (.aload_n 0, 1) := by decide +kernel
theorem dX2_passMinute_75 : decode cX2_passMinute 75 = .ok (.getfield 47, 3) := by decide +kernel
theorem dX2_passMinute_78 : decode cX2_passMinute 78 = .ok (.iadd, 1) := by decide +kernel
theorem dX2_passMinute_79 : decode cX2_passMinute 79 = .ok (.putfield 50, 3) := by decide +kernel
theorem dX2_passMinute_82 : decode cX2_passMinute 82 = .ok (.aload_n 0, 1) := by decide +kernel
theorem dX2_passMinute_83 : decode cX2_passMinute 83 = .ok (.iload_n 3, 1) := by decide +kernel
theorem dX2_passMinute_84 : decode cX2_passMinute 84 = .ok (.aload_n 0, 1) := by decide +kernel
theorem dX2_passMinute_85 : decode cX2_passMinute 85 = .ok (.aload_n 1, 1) := by decide +kernel
theorem dX2_passMinute_86 : decode cX2_passMinute 86 = .ok (.invokevirtual 63, 3) := by decide +kernel
theorem dX2_passMinute_89 : decode cX2_passMinute 89 = .ok (.invokestatic 21, 3) := by decide +kernel
theorem dX2_passMinute_92 : decode cX2_passMinute 92 = .ok (.putfield 41, 3) := by decide +kernel
theorem dX2_passMinute_95 : decode cX2_passMinute 95 = .ok (.aload_n 0, 1) := by decide +kernel
theorem dX2_passMinute_96 : decode cX2_passMinute 96 = .ok (.aload_n 0, 1) := by decide +kernel
theorem dX2_passMinute_97 : decode cX2_passMinute 97 = .ok (.getfield 44, 3) := by decide +kernel
theorem dX2_passMinute_100 : decode cX2_passMinute 100 = .ok (.aload_n 0, 1) := by decide +kernel
theorem dX2_passMinute_101 : decode cX2_passMinute 101 = .ok (.getfield 41, 3) := by decide +kernel
theorem dX2_passMinute_104 : decode cX2_passMinute 104 = .ok (.invokestatic 21, 3) := by decide +kernel
theorem dX2_passMinute_107 : decode cX2_passMinute 107 = .ok (.putfield 44, 3) := by decide +kernel
theorem dX2_passMinute_110 : decode cX2_passMinute 110 = .ok (.aload_n 0, 1) := by decide +kernel
theorem dX2_passMinute_111 : decode cX2_passMinute 111 = .ok (.dup, 1) := by decide +kernel
theorem dX2_passMinute_112 : decode cX2_passMinute 112 = .ok (.getfield 37, 3) := by decide +kernel
theorem dX2_passMinute_115 : decode cX2_passMinute 115 = .ok (.iconst 1, 1) := by decide +kernel
theorem dX2_passMinute_116 : decode cX2_passMinute 116 = .ok (.iadd, 1) := by decide +kernel
theorem dX2_passMinute_117 : decode cX2_passMinute 117 = .ok (.putfield 37, 3) := by decide +kernel
theorem dX2_passMinute_120 : decode cX2_passMinute 120 = .ok (.return_, 1) := by decide +kernel
theorem dX2_pressureBehind_0 : decode cX2_pressureBehind 0 = .ok (.aload_n 0, 1) := by decide +kernel
theorem dX2_pressureBehind_1 : decode cX2_pressureBehind 1 = .ok (.getfield 47, 3) := by decide +kernel
theorem dX2_pressureBehind_4 : decode cX2_pressureBehind 4 = .ok (.aload_n 1, 1) := by decide +kernel
theorem dX2_pressureBehind_5 : decode cX2_pressureBehind 5 = .ok (.bipush 7, 2) := by decide +kernel
theorem dX2_pressureBehind_7 : decode cX2_pressureBehind 7 = .ok (.invokevirtual 29, 3) := by decide +kernel
theorem dX2_pressureBehind_10 : decode cX2_pressureBehind 10 = .ok (.isub, 1) := by decide +kernel
theorem dX2_pressureBehind_11 : decode cX2_pressureBehind 11 = .ok (.istore_n 2, 1) := by decide +kernel
theorem dX2_pressureBehind_12 : decode cX2_pressureBehind 12 = .ok (.iload_n 2, 1) := by decide +kernel
theorem dX2_pressureBehind_13 : decode cX2_pressureBehind 13 = .ok (.ifCond .le 25, 3) := by decide +kernel
theorem dX2_pressureBehind_16 : decode cX2_pressureBehind 16 = .ok (.sipush 20000, 3) := by decide +kernel
theorem dX2_pressureBehind_19 : decode cX2_pressureBehind 19 = .ok (.aload_n 0, 1) := by decide +kernel
theorem dX2_pressureBehind_20 : decode cX2_pressureBehind 20 = .ok (.getfield 41, 3) := by decide +kernel
theorem dX2_pressureBehind_23 : decode cX2_pressureBehind 23 = .ok (.iload_n 2, 1) := by decide +kernel
theorem dX2_pressureBehind_24 : decode cX2_pressureBehind 24 = .ok (.aload_n 1, 1) := by decide +kernel
theorem dX2_pressureBehind_25 : decode cX2_pressureBehind 25 = .ok (.bipush 8, 2) := by decide +kernel
theorem dX2_pressureBehind_27 : decode cX2_pressureBehind 27 = .ok (.invokevirtual 29, 3) := by decide +kernel
theorem dX2_pressureBehind_30 : decode cX2_pressureBehind 30 = .ok (.invokestatic 67, 3) := by decide +kernel
theorem dX2_pressureBehind_33 : decode cX2_pressureBehind 33 = .ok (.iadd, 1) := by decide +kernel
theorem dX2_pressureBehind_34 : decode cX2_pressureBehind 34 = .ok (.invokestatic 70, 3) := by decide +kernel
theorem dX2_pressureBehind_37 : decode cX2_pressureBehind 37 = .ok (.ireturn, 1) := by decide +kernel
theorem dX2_pressureBehind_38 : decode cX2_pressureBehind 38 = .ok (.aload_n 0, 1) := by decide +kernel
theorem dX2_pressureBehind_39 : decode cX2_pressureBehind 39 = .ok (.getfield 41, 3) := by decide +kernel
theorem dX2_pressureBehind_42 : decode cX2_pressureBehind 42 = .ok (.aload_n 1, 1) := by decide +kernel
theorem dX2_pressureBehind_43 : decode cX2_pressureBehind 43 = .ok (.bipush 9, 2) := by decide +kernel
theorem dX2_pressureBehind_45 : decode cX2_pressureBehind 45 = .ok (.invokevirtual 29, 3) := by decide +kernel
theorem dX2_pressureBehind_48 : decode cX2_pressureBehind 48 = .ok (.isub, 1) := by decide +kernel
theorem dX2_pressureBehind_49 : decode cX2_pressureBehind 49 = .ok (.ireturn, 1) := by decide +kernel
theorem dX2_otherGauge_0 : decode cX2_otherGauge 0 = .ok (.bipush 60, 2) := by decide +kernel
theorem dX2_otherGauge_2 : decode cX2_otherGauge 2 = .ok (.aload_n 0, 1) := by decide +kernel
theorem dX2_otherGauge_3 : decode cX2_otherGauge 3 = .ok (.getfield 47, 3) := by decide +kernel
theorem dX2_otherGauge_6 : decode cX2_otherGauge 6 = .ok (.imul, 1) := by decide +kernel
theorem dX2_otherGauge_7 : decode cX2_otherGauge 7 = .ok (.aload_n 0, 1) := by decide +kernel
theorem dX2_otherGauge_8 : decode cX2_otherGauge 8 = .ok (.getfield 47, 3) := by decide +kernel
theorem dX2_otherGauge_11 : decode cX2_otherGauge 11 = .ok (.aload_n 1, 1) := by decide +kernel
theorem dX2_otherGauge_12 : decode cX2_otherGauge 12 = .ok (.bipush 10, 2) := by decide +kernel
theorem dX2_otherGauge_14 : decode cX2_otherGauge 14 = .ok (.invokevirtual 29, 3) := by decide +kernel
theorem dX2_otherGauge_17 : decode cX2_otherGauge 17 = .ok (.iadd, 1) := by decide +kernel
theorem dX2_otherGauge_18 : decode cX2_otherGauge 18 = .ok (.invokestatic 67, 3) := by decide +kernel
theorem dX2_otherGauge_21 : decode cX2_otherGauge 21 = .ok (.istore_n 2, 1) := by decide +kernel
theorem dX2_otherGauge_22 : decode cX2_otherGauge 22 = .ok (.aload_n 0, 1) := by decide +kernel
theorem dX2_otherGauge_23 : decode cX2_otherGauge 23 = .ok (.getfield 41, 3) := by decide +kernel
theorem dX2_otherGauge_26 : decode cX2_otherGauge 26 = .ok (.bipush 100, 2) := by decide +kernel
theorem dX2_otherGauge_28 : decode cX2_otherGauge 28 = .ok (.iload_n 2, 1) := by decide +kernel
theorem dX2_otherGauge_29 : decode cX2_otherGauge 29 = .ok (.iadd, 1) := by decide +kernel
theorem dX2_otherGauge_30 : decode cX2_otherGauge 30 = .ok (.imul, 1) := by decide +kernel
theorem dX2_otherGauge_31 : decode cX2_otherGauge 31 = .ok (.bipush 100, 2) := by decide +kernel
theorem dX2_otherGauge_33 : decode cX2_otherGauge 33 = .ok (.idiv, 1) := by decide +kernel
theorem dX2_otherGauge_34 : decode cX2_otherGauge 34 = .ok (.ireturn, 1) := by decide +kernel
theorem dX2_vialsWithIce_0 : decode cX2_vialsWithIce 0 = .ok (.aload_n 0, 1) := by decide +kernel
theorem dX2_vialsWithIce_1 : decode cX2_vialsWithIce 1 = .ok (.getfield 12, 3) := by decide +kernel
theorem dX2_vialsWithIce_4 : decode cX2_vialsWithIce 4 = .ok (.getfield 73, 3) := by decide +kernel
theorem dX2_vialsWithIce_7 : decode cX2_vialsWithIce 7 = .ok (.ifCond .le 13, 3) := by decide +kernel
theorem dX2_vialsWithIce_10 : decode cX2_vialsWithIce 10 = .ok (.aload_n 0, 1) := by decide +kernel
theorem dX2_vialsWithIce_11 : decode cX2_vialsWithIce 11 = .ok (.getfield 12, 3) := by decide +kernel
theorem dX2_vialsWithIce_14 : decode cX2_vialsWithIce 14 = .ok (.getfield 60, 3) := by decide +kernel
theorem dX2_vialsWithIce_17 : decode cX2_vialsWithIce 17 = .ok (.goto 4, 3) := by decide +kernel
theorem dX2_vialsWithIce_20 : decode cX2_vialsWithIce 20 = .ok (.iconst 0, 1) := by decide +kernel
theorem dX2_vialsWithIce_21 : decode cX2_vialsWithIce 21 = .ok (.aload_n 0, 1) := by decide +kernel
theorem dX2_vialsWithIce_22 : decode cX2_vialsWithIce 22 = .ok (.getfield 18, 3) := by decide +kernel
theorem dX2_vialsWithIce_25 : decode cX2_vialsWithIce 25 = .ok (.getfield 73, 3) := by decide +kernel
theorem dX2_vialsWithIce_28 : decode cX2_vialsWithIce 28 = .ok (.ifCond .le 13, 3) := by decide +kernel
theorem dX2_vialsWithIce_31 : decode cX2_vialsWithIce 31 = .ok (.aload_n 0, 1) := by decide +kernel
theorem dX2_vialsWithIce_32 : decode cX2_vialsWithIce 32 = .ok (.getfield 18, 3) := by decide +kernel
theorem dX2_vialsWithIce_35 : decode cX2_vialsWithIce 35 = .ok (.getfield 60, 3) := by decide +kernel
theorem dX2_vialsWithIce_38 : decode cX2_vialsWithIce 38 = .ok (.goto 4, 3) := by decide +kernel
theorem dX2_vialsWithIce_41 : decode cX2_vialsWithIce 41 = .ok (.iconst 0, 1) := by decide +kernel
theorem dX2_vialsWithIce_42 : decode cX2_vialsWithIce 42 = .ok (.iadd, 1) := by decide +kernel
theorem dX2_vialsWithIce_43 : decode cX2_vialsWithIce 43 = .ok (.ireturn, 1) := by decide +kernel
theorem dX2_fallenVials_0 : decode cX2_fallenVials 0 = .ok (.aload_n 0, 1) := by decide +kernel
theorem dX2_fallenVials_1 : decode cX2_fallenVials 1 = .ok (.getfield 12, 3) := by decide +kernel
theorem dX2_fallenVials_4 : decode cX2_fallenVials 4 = .ok (.getfield 76, 3) := by decide +kernel
theorem dX2_fallenVials_7 : decode cX2_fallenVials 7 = .ok (.bipush (-6), 2) := by decide +kernel
theorem dX2_fallenVials_9 : decode cX2_fallenVials 9 = .ok (.if_icmp .eq 13, 3) := by decide +kernel
theorem dX2_fallenVials_12 : decode cX2_fallenVials 12 = .ok (.aload_n 0, 1) := by decide +kernel
theorem dX2_fallenVials_13 : decode cX2_fallenVials 13 = .ok (.getfield 12, 3) := by decide +kernel
theorem dX2_fallenVials_16 : decode cX2_fallenVials 16 = .ok (.getfield 60, 3) := by decide +kernel
theorem dX2_fallenVials_19 : decode cX2_fallenVials 19 = .ok (.goto 4, 3) := by decide +kernel
theorem dX2_fallenVials_22 : decode cX2_fallenVials 22 = .ok (.iconst 0, 1) := by decide +kernel
theorem dX2_fallenVials_23 : decode cX2_fallenVials 23 = .ok (.aload_n 0, 1) := by decide +kernel
theorem dX2_fallenVials_24 : decode cX2_fallenVials 24 = .ok (.getfield 18, 3) := by decide +kernel
theorem dX2_fallenVials_27 : decode cX2_fallenVials 27 = .ok (.getfield 76, 3) := by decide +kernel
theorem dX2_fallenVials_30 : decode cX2_fallenVials 30 = .ok (.bipush (-6), 2) := by decide +kernel
theorem dX2_fallenVials_32 : decode cX2_fallenVials 32 = .ok (.if_icmp .eq 13, 3) := by decide +kernel
theorem dX2_fallenVials_35 : decode cX2_fallenVials 35 = .ok (.aload_n 0, 1) := by decide +kernel
theorem dX2_fallenVials_36 : decode cX2_fallenVials 36 = .ok (.getfield 18, 3) := by decide +kernel
theorem dX2_fallenVials_39 : decode cX2_fallenVials 39 = .ok (.getfield 60, 3) := by decide +kernel
theorem dX2_fallenVials_42 : decode cX2_fallenVials 42 = .ok (.goto 4, 3) := by decide +kernel
theorem dX2_fallenVials_45 : decode cX2_fallenVials 45 = .ok (.iconst 0, 1) := by decide +kernel
theorem dX2_fallenVials_46 : decode cX2_fallenVials 46 = .ok (.iadd, 1) := by decide +kernel
theorem dX2_fallenVials_47 : decode cX2_fallenVials 47 = .ok (.ireturn, 1) := by decide +kernel
theorem dX2_firstToFall_0 : decode cX2_firstToFall 0 = .ok (.aload_n 0, 1) := by decide +kernel
theorem dX2_firstToFall_1 : decode cX2_firstToFall 1 = .ok (.getfield 18, 3) := by decide +kernel
theorem dX2_firstToFall_4 : decode cX2_firstToFall 4 = .ok (.getfield 76, 3) := by decide +kernel
theorem dX2_firstToFall_7 : decode cX2_firstToFall 7 = .ok (.bipush (-6), 2) := by decide +kernel
theorem dX2_firstToFall_9 : decode cX2_firstToFall 9 = .ok (.if_icmp .eq 36, 3) := by decide +kernel
theorem dX2_firstToFall_12 : decode cX2_firstToFall 12 = .ok (.aload_n 0, 1) := by decide +kernel
theorem dX2_firstToFall_13 : decode cX2_firstToFall 13 = .ok (.getfield 12, 3) := by decide +kernel
theorem dX2_firstToFall_16 : decode cX2_firstToFall 16 = .ok (.getfield 76, 3) := by decide +kernel
theorem dX2_firstToFall_19 : decode cX2_firstToFall 19 = .ok (.bipush (-6), 2) := by decide +kernel
theorem dX2_firstToFall_21 : decode cX2_firstToFall 21 = .ok (.if_icmp .eq 20, 3) := by decide +kernel
theorem dX2_firstToFall_24 : decode cX2_firstToFall 24 = .ok (.aload_n 0, 1) := by decide +kernel
theorem dX2_firstToFall_25 : decode cX2_firstToFall 25 = .ok (.getfield 18, 3) := by decide +kernel
theorem dX2_firstToFall_28 : decode cX2_firstToFall 28 = .ok (.getfield 76, 3) := by decide +kernel
theorem dX2_firstToFall_31 : decode cX2_firstToFall 31 = .ok (.aload_n 0, 1) := by decide +kernel
theorem dX2_firstToFall_32 : decode cX2_firstToFall 32 = .ok (.getfield 12, 3) := by decide +kernel
theorem dX2_firstToFall_35 : decode cX2_firstToFall 35 = .ok (.getfield 76, 3) := by decide +kernel
theorem dX2_firstToFall_38 : decode cX2_firstToFall 38 = .ok (.if_icmp .ge 7, 3) := by decide +kernel
theorem dX2_firstToFall_41 : decode cX2_firstToFall 41 = .ok (.iconst 1, 1) := by decide +kernel
theorem dX2_firstToFall_42 : decode cX2_firstToFall 42 = .ok (.goto 4, 3) := by decide +kernel
theorem dX2_firstToFall_45 : decode cX2_firstToFall 45 = .ok (.iconst 0, 1) := by decide +kernel
theorem dX2_firstToFall_46 : decode cX2_firstToFall 46 = .ok (.istore_n 1, 1) := by decide +kernel
theorem dX2_firstToFall_47 : decode cX2_firstToFall 47 = .ok (.iload_n 1, 1) := by decide +kernel
theorem dX2_firstToFall_48 : decode cX2_firstToFall 48 = .ok (.ifCond .eq 10, 3) := by decide +kernel
theorem dX2_firstToFall_51 : decode cX2_firstToFall 51 = .ok (.aload_n 0, 1) := by decide +kernel
theorem dX2_firstToFall_52 : decode cX2_firstToFall 52 = .ok (.getfield 18, 3) := by decide +kernel
theorem dX2_firstToFall_55 : decode cX2_firstToFall 55 = .ok (.goto 7, 3) := by decide +kernel
theorem dX2_firstToFall_58 : decode cX2_firstToFall 58 = .ok (.aload_n 0, 1) := by decide +kernel
theorem dX2_firstToFall_59 : decode cX2_firstToFall 59 = .ok (.getfield 12, 3) := by decide +kernel
theorem dX2_firstToFall_62 : decode cX2_firstToFall 62 = .ok (.areturn, 1) := by decide +kernel
theorem dX2_firstVialToFall_0 : decode cX2_firstVialToFall 0 = .ok (.aload_n 0, 1) := by decide +kernel
theorem dX2_firstVialToFall_1 : decode cX2_firstVialToFall 1 = .ok (.invokevirtual 79, 3) := by decide +kernel
theorem dX2_firstVialToFall_4 : decode cX2_firstVialToFall 4 = .ok (.astore_n 1, 1) := by decide +kernel
theorem dX2_firstVialToFall_5 : decode cX2_firstVialToFall 5 = .ok (.aload_n 1, 1) := by decide +kernel
theorem dX2_firstVialToFall_6 : decode cX2_firstVialToFall 6 = .ok (.getfield 76, 3) := by decide +kernel
theorem dX2_firstVialToFall_9 : decode cX2_firstVialToFall 9 = .ok (.bipush (-6), 2) := by decide +kernel
theorem dX2_firstVialToFall_11 : decode cX2_firstVialToFall 11 = .ok (.if_icmp .ne 8, 3) := by decide +kernel
theorem dX2_firstVialToFall_14 : decode cX2_firstVialToFall 14 = .ok (.bipush (-6), 2) := by decide +kernel
theorem dX2_firstVialToFall_16 : decode cX2_firstVialToFall 16 = .ok (.goto 7, 3) := by decide +kernel
theorem dX2_firstVialToFall_19 : decode cX2_firstVialToFall 19 = .ok (.aload_n 1, 1) := by decide +kernel
theorem dX2_firstVialToFall_20 : decode cX2_firstVialToFall 20 = .ok (.getfield 83, 3) := by decide +kernel
theorem dX2_firstVialToFall_23 : decode cX2_firstVialToFall 23 = .ok (.ireturn, 1) := by decide +kernel
theorem dX2_tell_0 : decode cX2_tell 0 = .ok (.iload_n 1, 1) := by decide +kernel
theorem dX2_tell_1 : decode cX2_tell 1 = .ok (.tableswitch 105 0 6 #[43, 48, 53, 85, 90, 95, 100], 43) := by decide +kernel
theorem dX2_tell_44 : decode cX2_tell 44 = .ok (.aload_n 0, 1) := by decide +kernel
theorem dX2_tell_45 : decode cX2_tell 45 = .ok (.getfield 37, 3) := by decide +kernel
theorem dX2_tell_48 : decode cX2_tell 48 = .ok (.ireturn, 1) := by decide +kernel
theorem dX2_tell_49 : decode cX2_tell 49 = .ok (.aload_n 0, 1) := by decide +kernel
theorem dX2_tell_50 : decode cX2_tell 50 = .ok (.getfield 41, 3) := by decide +kernel
theorem dX2_tell_53 : decode cX2_tell 53 = .ok (.ireturn, 1) := by decide +kernel
theorem dX2_tell_54 : decode cX2_tell 54 = .ok (.aload_n 0, 1) := by decide +kernel
theorem dX2_tell_55 : decode cX2_tell 55 = .ok (.getfield 12, 3) := by decide +kernel
theorem dX2_tell_58 : decode cX2_tell 58 = .ok (.getfield 73, 3) := by decide +kernel
theorem dX2_tell_61 : decode cX2_tell 61 = .ok (.aload_n 0, 1) := by decide +kernel
theorem dX2_tell_62 : decode cX2_tell 62 = .ok (.getfield 12, 3) := by decide +kernel
theorem dX2_tell_65 : decode cX2_tell 65 = .ok (.getfield 60, 3) := by decide +kernel
theorem dX2_tell_68 : decode cX2_tell 68 = .ok (.imul, 1) := by decide +kernel
theorem dX2_tell_69 : decode cX2_tell 69 = .ok (.aload_n 0, 1) := by decide +kernel
theorem dX2_tell_70 : decode cX2_tell 70 = .ok (.getfield 18, 3) := by decide +kernel
theorem dX2_tell_73 : decode cX2_tell 73 = .ok (.getfield 73, 3) := by decide +kernel
theorem dX2_tell_76 : decode cX2_tell 76 = .ok (.aload_n 0, 1) := by decide +kernel
theorem dX2_tell_77 : decode cX2_tell 77 = .ok (.getfield 18, 3) := by decide +kernel
theorem dX2_tell_80 : decode cX2_tell 80 = .ok (.getfield 60, 3) := by decide +kernel
theorem dX2_tell_83 : decode cX2_tell 83 = .ok (.imul, 1) := by decide +kernel
theorem dX2_tell_84 : decode cX2_tell 84 = .ok (.iadd, 1) := by decide +kernel
theorem dX2_tell_85 : decode cX2_tell 85 = .ok (.ireturn, 1) := by decide +kernel
theorem dX2_tell_86 : decode cX2_tell 86 = .ok (.aload_n 0, 1) := by decide +kernel
theorem dX2_tell_87 : decode cX2_tell 87 = .ok (.getfield 50, 3) := by decide +kernel
theorem dX2_tell_90 : decode cX2_tell 90 = .ok (.ireturn, 1) := by decide +kernel
theorem dX2_tell_91 : decode cX2_tell 91 = .ok (.aload_n 0, 1) := by decide +kernel
theorem dX2_tell_92 : decode cX2_tell 92 = .ok (.getfield 47, 3) := by decide +kernel
theorem dX2_tell_95 : decode cX2_tell 95 = .ok (.ireturn, 1) := by decide +kernel
theorem dX2_tell_96 : decode cX2_tell 96 = .ok (.aload_n 0, 1) := by decide +kernel
theorem dX2_tell_97 : decode cX2_tell 97 = .ok (.getfield 44, 3) := by decide +kernel
theorem dX2_tell_100 : decode cX2_tell 100 = .ok (.ireturn, 1) := by decide +kernel
theorem dX2_tell_101 : decode cX2_tell 101 = .ok (.aload_n 0, 1) := by decide +kernel
theorem dX2_tell_102 : decode cX2_tell 102 = .ok (.invokevirtual 86, 3) := by decide +kernel
theorem dX2_tell_105 : decode cX2_tell 105 = .ok (.ireturn, 1) := by decide +kernel
theorem dX2_tell_106 : decode cX2_tell 106 = .ok (.aload_n 0, 1) := by decide +kernel
theorem dX2_tell_107 : decode cX2_tell 107 = .ok (.getfield 12, 3) := by decide +kernel
theorem dX2_tell_110 : decode cX2_tell 110 = .ok (.getfield 60, 3) := by decide +kernel
theorem dX2_tell_113 : decode cX2_tell 113 = .ok (.aload_n 0, 1) := by decide +kernel
theorem dX2_tell_114 : decode cX2_tell 114 = .ok (.getfield 18, 3) := by decide +kernel
theorem dX2_tell_117 : decode cX2_tell 117 = .ok (.getfield 60, 3) := by decide +kernel
theorem dX2_tell_120 : decode cX2_tell 120 = .ok (.iadd, 1) := by decide +kernel
theorem dX2_tell_121 : decode cX2_tell 121 = .ok (.aload_n 0, 1) := by decide +kernel
theorem dX2_tell_122 : decode cX2_tell 122 = .ok (.invokevirtual 90, 3) := by decide +kernel
theorem dX2_tell_125 : decode cX2_tell 125 = .ok (.isub, 1) := by decide +kernel
theorem dX2_tell_126 : decode cX2_tell 126 = .ok (.ireturn, 1) := by decide +kernel
theorem dX3_init_0 : decode cX3_init 0 = .ok (.aload_n 0, 1) := by decide +kernel
theorem dX3_init_1 : decode cX3_init 1 = .ok (.invokespecial 1, 3) := by decide +kernel
theorem dX3_init_4 : decode cX3_init 4 = .ok (.aload_n 0, 1) := by decide +kernel
theorem dX3_init_5 : decode cX3_init 5 = .ok (.bipush 11, 2) := by decide +kernel
theorem dX3_init_7 : decode cX3_init 7 = .ok (.newarray .int, 2) := by decide +kernel
theorem dX3_init_9 : decode cX3_init 9 = .ok (.putfield 9, 3) := by decide +kernel
theorem dX3_init_12 : decode cX3_init 12 = .ok (.getstatic 13, 3) := by decide +kernel
theorem dX3_init_15 : decode cX3_init 15 = .ok (.iconst 0, 1) := by decide +kernel
theorem dX3_init_16 : decode cX3_init 16 = .ok (.aload_n 0, 1) := by decide +kernel
theorem dX3_init_17 : decode cX3_init 17 = .ok (.getfield 9, 3) := by decide +kernel
theorem dX3_init_20 : decode cX3_init 20 = .ok (.iconst 0, 1) := by decide +kernel
theorem dX3_init_21 : decode cX3_init 21 = .ok (.bipush 11, 2) := by decide +kernel
theorem dX3_init_23 : decode cX3_init 23 = .ok (.invokestatic 16, 3) := by decide +kernel
theorem dX3_init_26 : decode cX3_init 26 = .ok (.return_, 1) := by decide +kernel
theorem dX3_has_0 : decode cX3_has 0 = .ok (.iload_n 0, 1) := by decide +kernel
theorem dX3_has_1 : decode cX3_has 1 = .ok (.iconst 0, 1) := by decide +kernel
theorem dX3_has_2 : decode cX3_has 2 = .ok (.bipush 10, 2) := by decide +kernel
theorem dX3_has_4 : decode cX3_has 4 = .ok (.invokestatic 22, 3) := by decide +kernel
theorem dX3_has_7 : decode cX3_has 7 = .ok (.ireturn, 1) := by decide +kernel
theorem dX3_allows_0 : decode cX3_allows 0 = .ok (.iload_n 0, 1) := by decide +kernel
theorem dX3_allows_1 : decode cX3_allows 1 = .ok (.invokestatic 28, 3) := by decide +kernel
theorem dX3_allows_4 : decode cX3_allows 4 = .ok (.ifCond .eq 24, 3) := by decide +kernel
theorem dX3_allows_7 : decode cX3_allows 7 = .ok (.iload_n 1, 1) := by decide +kernel
theorem dX3_allows_8 : decode cX3_allows 8 = .ok (.getstatic 32, 3) := by decide +kernel
theorem dX3_allows_11 : decode cX3_allows 11 = .ok (.iload_n 0, 1) := by decide +kernel
theorem dX3_allows_12 : decode cX3_allows 12 = .ok (.iaload, 1) := by decide +kernel
theorem dX3_allows_13 : decode cX3_allows 13 = .ok (.getstatic 35, 3) := by decide +kernel
theorem dX3_allows_16 : decode cX3_allows 16 = .ok (.iload_n 0, 1) := by decide +kernel
theorem dX3_allows_17 : decode cX3_allows 17 = .ok (.iaload, 1) := by decide +kernel
theorem dX3_allows_18 : decode cX3_allows 18 = .ok (.invokestatic 22, 3) := by decide +kernel
theorem dX3_allows_21 : decode cX3_allows 21 = .ok (.ifCond .eq 7, 3) := by decide +kernel
theorem dX3_allows_24 : decode cX3_allows 24 = .ok (.iconst 1, 1) := by decide +kernel
theorem dX3_allows_25 : decode cX3_allows 25 = .ok (.goto 4, 3) := by decide +kernel
theorem dX3_allows_28 : decode cX3_allows 28 = .ok (.iconst 0, 1) := by decide +kernel
theorem dX3_allows_29 : decode cX3_allows 29 = .ok (.ireturn, 1) := by decide +kernel
theorem dX3_valueOf_0 : decode cX3_valueOf 0 = .ok (.iload_n 1, 1) := by decide +kernel
theorem dX3_valueOf_1 : decode cX3_valueOf 1 = .ok (.invokestatic 28, 3) := by decide +kernel
theorem dX3_valueOf_4 : decode cX3_valueOf 4 = .ok (.ifCond .eq 12, 3) := by decide +kernel
theorem dX3_valueOf_7 : decode cX3_valueOf 7 = .ok (.aload_n 0, 1) := by decide +kernel
theorem dX3_valueOf_8 : decode cX3_valueOf 8 = .ok (.getfield 9, 3) := by decide +kernel
theorem dX3_valueOf_11 : decode cX3_valueOf 11 = .ok (.iload_n 1, 1) := by decide +kernel
theorem dX3_valueOf_12 : decode cX3_valueOf 12 = .ok (.iaload, 1) := by decide +kernel
theorem dX3_valueOf_13 : decode cX3_valueOf 13 = .ok (.goto 4, 3) := by decide +kernel
theorem dX3_valueOf_16 : decode cX3_valueOf 16 = .ok (.iconst 0, 1) := by decide +kernel
theorem dX3_valueOf_17 : decode cX3_valueOf 17 = .ok (.ireturn, 1) := by decide +kernel
theorem dX3_change_0 : decode cX3_change 0 = .ok (.aload_n 0, 1) := by decide +kernel
theorem dX3_change_1 : decode cX3_change 1 = .ok (.iload_n 1, 1) := by decide +kernel
theorem dX3_change_2 : decode cX3_change 2 = .ok (.invokevirtual 38, 3) := by decide +kernel
theorem dX3_change_5 : decode cX3_change 5 = .ok (.istore_n 3, 1) := by decide +kernel
theorem dX3_change_6 : decode cX3_change 6 = .ok (.iload_n 1, 1) := by decide +kernel
theorem dX3_change_7 : decode cX3_change 7 = .ok (.iload_n 2, 1) := by decide +kernel
theorem dX3_change_8 : decode cX3_change 8 = .ok (.invokestatic 42, 3) := by decide +kernel
theorem dX3_change_11 : decode cX3_change 11 = .ok (.ifCond .eq 10, 3) := by decide +kernel
theorem dX3_change_14 : decode cX3_change 14 = .ok (.aload_n 0, 1) := by decide +kernel
theorem dX3_change_15 : decode cX3_change 15 = .ok (.getfield 9, 3) := by decide +kernel
theorem dX3_change_18 : decode cX3_change 18 = .ok (.iload_n 1, 1) := by decide +kernel
theorem dX3_change_19 : decode cX3_change 19 = .ok (.iload_n 2, 1) := by decide +kernel
theorem dX3_change_20 : decode cX3_change 20 = .ok (.iastore, 1) := by decide +kernel
theorem dX3_change_21 : decode cX3_change 21 = .ok (.iload_n 3, 1) := by decide +kernel
theorem dX3_change_22 : decode cX3_change 22 = .ok (.ireturn, 1) := by decide +kernel
theorem dX3_bars_0 : decode cX3_bars 0 = .ok (.aload_n 0, 1) := by decide +kernel
theorem dX3_bars_1 : decode cX3_bars 1 = .ok (.getfield 9, 3) := by decide +kernel
theorem dX3_bars_4 : decode cX3_bars 4 = .ok (.iconst 4, 1) := by decide +kernel
theorem dX3_bars_5 : decode cX3_bars 5 = .ok (.iaload, 1) := by decide +kernel
theorem dX3_bars_6 : decode cX3_bars 6 = .ok (.aload_n 0, 1) := by decide +kernel
theorem dX3_bars_7 : decode cX3_bars 7 = .ok (.getfield 9, 3) := by decide +kernel
theorem dX3_bars_10 : decode cX3_bars 10 = .ok (.iconst 5, 1) := by decide +kernel
theorem dX3_bars_11 : decode cX3_bars 11 = .ok (.iaload, 1) := by decide +kernel
theorem dX3_bars_12 : decode cX3_bars 12 = .ok (.iload_n 1, 1) := by decide +kernel
theorem dX3_bars_13 : decode cX3_bars 13 = .ok (.imul, 1) := by decide +kernel
theorem dX3_bars_14 : decode cX3_bars 14 = .ok (.iadd, 1) := by decide +kernel
theorem dX3_bars_15 : decode cX3_bars 15 = .ok (.ireturn, 1) := by decide +kernel
theorem dX4_init_0 : decode cX4_init 0 = .ok (.aload_n 0, 1) := by decide +kernel
theorem dX4_init_1 : decode cX4_init 1 = .ok (.invokespecial 1, 3) := by decide +kernel
theorem dX4_init_4 : decode cX4_init 4 = .ok (.aload_n 0, 1) := by decide +kernel
theorem dX4_init_5 : decode cX4_init 5 = .ok (.new 7, 3) := by decide +kernel
theorem dX4_init_8 : decode cX4_init 8 = .ok (.dup, 1) := by decide +kernel
theorem dX4_init_9 : decode cX4_init 9 = .ok (.invokespecial 9, 3) := by decide +kernel
theorem dX4_init_12 : decode cX4_init 12 = .ok (.putfield 10, 3) := by decide +kernel
theorem dX4_init_15 : decode cX4_init 15 = .ok (.aload_n 0, 1) := by decide +kernel
theorem dX4_init_16 : decode cX4_init 16 = .ok (.new 16, 3) := by decide +kernel
theorem dX4_init_19 : decode cX4_init 19 = .ok (.dup, 1) := by decide +kernel
theorem dX4_init_20 : decode cX4_init 20 = .ok (.invokespecial 18, 3) := by decide +kernel
theorem dX4_init_23 : decode cX4_init 23 = .ok (.putfield 19, 3) := by decide +kernel
theorem dX4_init_26 : decode cX4_init 26 = .ok (.aload_n 0, 1) := by decide +kernel
theorem dX4_init_27 : decode cX4_init 27 = .ok (.new 16, 3) := by decide +kernel
theorem dX4_init_30 : decode cX4_init 30 = .ok (.dup, 1) := by decide +kernel
theorem dX4_init_31 : decode cX4_init 31 = .ok (.invokespecial 18, 3) := by decide +kernel
theorem dX4_init_34 : decode cX4_init 34 = .ok (.putfield 23, 3) := by decide +kernel
theorem dX4_init_37 : decode cX4_init 37 = .ok (.aload_n 0, 1) := by decide +kernel
theorem dX4_init_38 : decode cX4_init 38 = .ok (.new 26, 3) := by decide +kernel
theorem dX4_init_41 : decode cX4_init 41 = .ok (.dup, 1) := by decide +kernel
theorem dX4_init_42 : decode cX4_init 42 = .ok (.invokespecial 28, 3) := by decide +kernel
theorem dX4_init_45 : decode cX4_init 45 = .ok (.putfield 29, 3) := by decide +kernel
theorem dX4_init_48 : decode cX4_init 48 = .ok (.aload_n 0, 1) := by decide +kernel
theorem dX4_init_49 : decode cX4_init 49 = .ok (.iconst 2, 1) := by decide +kernel
theorem dX4_init_50 : decode cX4_init 50 = .ok (.putfield 33, 3) := by decide +kernel
theorem dX4_init_53 : decode cX4_init 53 = .ok (.aload_n 0, 1) := by decide +kernel
theorem dX4_init_54 : decode cX4_init 54 = .ok (.iconst 3, 1) := by decide +kernel
theorem dX4_init_55 : decode cX4_init 55 = .ok (.putfield 37, 3) := by decide +kernel
theorem dX4_init_58 : decode cX4_init 58 = .ok (.aload_n 0, 1) := by decide +kernel
theorem dX4_init_59 : decode cX4_init 59 = .ok (.sipush (-400), 3) := by decide +kernel
theorem dX4_init_62 : decode cX4_init 62 = .ok (.putfield 40, 3) := by decide +kernel
theorem dX4_init_65 : decode cX4_init 65 = .ok (.aload_n 0, 1) := by decide +kernel
theorem dX4_init_66 : decode cX4_init 66 = .ok (.bipush 100, 2) := by decide +kernel
theorem dX4_init_68 : decode cX4_init 68 = .ok (.putfield 43, 3) := by decide +kernel
theorem dX4_init_71 : decode cX4_init 71 = .ok (.aload_n 0, 1) := by decide +kernel
theorem dX4_init_72 : decode cX4_init 72 = .ok (.iconst 0, 1) := by decide +kernel
theorem dX4_init_73 : decode cX4_init 73 = .ok (.putfield 46, 3) := by decide +kernel
theorem dX4_init_76 : decode cX4_init 76 = .ok (.aload_n 0, 1) := by decide +kernel
theorem dX4_init_77 : decode cX4_init 77 = .ok (.iconst 0, 1) := by decide +kernel
theorem dX4_init_78 : decode cX4_init 78 = .ok (.putfield 50, 3) := by decide +kernel
theorem dX4_init_81 : decode cX4_init 81 = .ok (.return_, 1) := by decide +kernel
theorem dX4_shelf_0 : decode cX4_shelf 0 = .ok (.iload_n 1, 1) := by decide +kernel
theorem dX4_shelf_1 : decode cX4_shelf 1 = .ok (.iconst 1, 1) := by decide +kernel
theorem dX4_shelf_2 : decode cX4_shelf 2 = .ok (.iconst 4, 1) := by decide +kernel
theorem dX4_shelf_3 : decode cX4_shelf 3 = .ok (.invokestatic 53, 3) := by decide +kernel
theorem dX4_shelf_6 : decode cX4_shelf 6 = .ok (.ifCond .eq 13, 3) := by decide +kernel
theorem dX4_shelf_9 : decode cX4_shelf 9 = .ok (.iload_n 2, 1) := by decide +kernel
theorem dX4_shelf_10 : decode cX4_shelf 10 = .ok (.iconst 1, 1) := by decide +kernel
theorem dX4_shelf_11 : decode cX4_shelf 11 = .ok (.bipush 6, 2) := by decide +kernel
theorem dX4_shelf_13 : decode cX4_shelf 13 = .ok (.invokestatic 53, 3) := by decide +kernel
theorem dX4_shelf_16 : decode cX4_shelf 16 = .ok (.ifCond .ne 6, 3) := by decide +kernel
theorem dX4_shelf_19 : decode cX4_shelf 19 = .ok (.bipush (-2), 2) := by decide +kernel
theorem dX4_shelf_21 : decode cX4_shelf 21 = .ok (.ireturn, 1) := by decide +kernel
theorem dX4_shelf_22 : decode cX4_shelf 22 = .ok (.aload_n 0, 1) := by decide +kernel
theorem dX4_shelf_23 : decode cX4_shelf 23 = .ok (.getfield 46, 3) := by decide +kernel
theorem dX4_shelf_26 : decode cX4_shelf 26 = .ok (.ifCond .eq 6, 3) := by decide +kernel
theorem dX4_shelf_29 : decode cX4_shelf 29 = .ok (.bipush (-3), 2) := by decide +kernel
theorem dX4_shelf_31 : decode cX4_shelf 31 = .ok (.ireturn, 1) := by decide +kernel
theorem dX4_shelf_32 : decode cX4_shelf 32 = .ok (.aload_n 0, 1) := by decide +kernel
theorem dX4_shelf_33 : decode cX4_shelf 33 = .ok (.iload_n 1, 1) := by decide +kernel
theorem dX4_shelf_34 : decode cX4_shelf 34 = .ok (.putfield 33, 3) := by decide +kernel
theorem dX4_shelf_37 : decode cX4_shelf 37 = .ok (.aload_n 0, 1) := by decide +kernel
theorem dX4_shelf_38 : decode cX4_shelf 38 = .ok (.iload_n 2, 1) := by decide +kernel
theorem dX4_shelf_39 : decode cX4_shelf 39 = .ok (.putfield 37, 3) := by decide +kernel
theorem dX4_shelf_42 : decode cX4_shelf 42 = .ok (.aload_n 0, 1) := by decide +kernel
theorem dX4_shelf_43 : decode cX4_shelf 43 = .ok (.invokevirtual 57, 3) := by decide +kernel
theorem dX4_shelf_46 : decode cX4_shelf 46 = .ok (.ireturn, 1) := by decide +kernel
theorem dX4_rule_0 : decode cX4_rule 0 = .ok (.iload_n 1, 1) := by decide +kernel
theorem dX4_rule_1 : decode cX4_rule 1 = .ok (.invokestatic 61, 3) := by decide +kernel
theorem dX4_rule_4 : decode cX4_rule 4 = .ok (.ifCond .ne 7, 3) := by decide +kernel
theorem dX4_rule_7 : decode cX4_rule 7 = .ok (.sipush (-10001), 3) := by decide +kernel
theorem dX4_rule_10 : decode cX4_rule 10 = .ok (.ireturn, 1) := by decide +kernel
theorem dX4_rule_11 : decode cX4_rule 11 = .ok (.iload_n 1, 1) := by decide +kernel
theorem dX4_rule_12 : decode cX4_rule 12 = .ok (.iload_n 2, 1) := by decide +kernel
theorem dX4_rule_13 : decode cX4_rule 13 = .ok (.invokestatic 65, 3) := by decide +kernel
theorem dX4_rule_16 : decode cX4_rule 16 = .ok (.ifCond .ne 7, 3) := by decide +kernel
theorem dX4_rule_19 : decode cX4_rule 19 = .ok (.sipush (-10002), 3) := by decide +kernel
theorem dX4_rule_22 : decode cX4_rule 22 = .ok (.ireturn, 1) := by decide +kernel
theorem dX4_rule_23 : decode cX4_rule 23 = .ok (.aload_n 0, 1) := by decide +kernel
theorem dX4_rule_24 : decode cX4_rule 24 = .ok (.getfield 46, 3) := by decide +kernel
theorem dX4_rule_27 : decode cX4_rule 27 = .ok (.ifCond .eq 7, 3) := by decide +kernel
theorem dX4_rule_30 : decode cX4_rule 30 = .ok (.sipush (-10003), 3) := by decide +kernel
theorem dX4_rule_33 : decode cX4_rule 33 = .ok (.ireturn, 1) := by decide +kernel
theorem dX4_rule_34 : decode cX4_rule 34 = .ok (.aload_n 0, 1) := by decide +kernel
theorem dX4_rule_35 : decode cX4_rule 35 = .ok (.getfield 10, 3) := by decide +kernel
theorem dX4_rule_38 : decode cX4_rule 38 = .ok (.iload_n 1, 1) := by decide +kernel
theorem dX4_rule_39 : decode cX4_rule 39 = .ok (.iload_n 2, 1) := by decide +kernel
theorem dX4_rule_40 : decode cX4_rule 40 = .ok (.invokevirtual 69, 3) := by decide +kernel
theorem dX4_rule_43 : decode cX4_rule 43 = .ok (.ireturn, 1) := by decide +kernel
theorem dX4_vapour_0 : decode cX4_vapour 0 = .ok (.iload_n 1, 1) := by decide +kernel
theorem dX4_vapour_1 : decode cX4_vapour 1 = .ok (.sipush (-600), 3) := by decide +kernel
theorem dX4_vapour_4 : decode cX4_vapour 4 = .ok (.iconst 0, 1) := by decide +kernel
theorem dX4_vapour_5 : decode cX4_vapour 5 = .ok (.invokestatic 53, 3) := by decide +kernel
theorem dX4_vapour_8 : decode cX4_vapour 8 = .ok (.ifCond .eq 10, 3) := by decide +kernel
theorem dX4_vapour_11 : decode cX4_vapour 11 = .ok (.iload_n 1, 1) := by decide +kernel
theorem dX4_vapour_12 : decode cX4_vapour 12 = .ok (.invokestatic 73, 3) := by decide +kernel
theorem dX4_vapour_15 : decode cX4_vapour 15 = .ok (.goto 5, 3) := by decide +kernel
theorem dX4_vapour_18 : decode cX4_vapour 18 = .ok (.bipush (-2), 2) := by decide +kernel
theorem dX4_vapour_20 : decode cX4_vapour 20 = .ok (.ireturn, 1) := by decide +kernel
theorem dX4_steam_0 : decode cX4_steam 0 = .ok (.iload_n 1, 1) := by decide +kernel
theorem dX4_steam_1 : decode cX4_steam 1 = .ok (.sipush (-600), 3) := by decide +kernel
theorem dX4_steam_4 : decode cX4_steam 4 = .ok (.iconst 0, 1) := by decide +kernel
theorem dX4_steam_5 : decode cX4_steam 5 = .ok (.invokestatic 53, 3) := by decide +kernel
theorem dX4_steam_8 : decode cX4_steam 8 = .ok (.ifCond .eq 24, 3) := by decide +kernel
theorem dX4_steam_11 : decode cX4_steam 11 = .ok (.iload_n 2, 1) := by decide +kernel
theorem dX4_steam_12 : decode cX4_steam 12 = .ok (.iconst 0, 1) := by decide +kernel
theorem dX4_steam_13 : decode cX4_steam 13 = .ok (.bipush 100, 2) := by decide +kernel
theorem dX4_steam_15 : decode cX4_steam 15 = .ok (.invokestatic 53, 3) := by decide +kernel
theorem dX4_steam_18 : decode cX4_steam 18 = .ok (.ifCond .eq 14, 3) := by decide +kernel
theorem dX4_steam_21 : decode cX4_steam 21 = .ok (.iload_n 3, 1) := by decide +kernel
theorem dX4_steam_22 : decode cX4_steam 22 = .ok (.iconst 0, 1) := by decide +kernel
theorem dX4_steam_23 : decode cX4_steam 23 = .ok (.sipush 20000, 3) := by decide +kernel
theorem dX4_steam_26 : decode cX4_steam 26 = .ok (.invokestatic 53, 3) := by decide +kernel
theorem dX4_steam_29 : decode cX4_steam 29 = .ok (.ifCond .ne 6, 3) := by decide +kernel
theorem dX4_steam_32 : decode cX4_steam 32 = .ok (.bipush (-2), 2) := by decide +kernel
theorem dX4_steam_34 : decode cX4_steam 34 = .ok (.ireturn, 1) := by decide +kernel
theorem dX4_steam_35 : decode cX4_steam 35 = .ok (.iload_n 1, 1) := by decide +kernel
theorem dX4_steam_36 : decode cX4_steam 36 = .ok (.aload_n 0, 1) := by decide +kernel
theorem dX4_steam_37 : decode cX4_steam 37 = .ok (.getfield 10, 3) := by decide +kernel
theorem dX4_steam_40 : decode cX4_steam 40 = .ok (.iload_n 2, 1) := by decide +kernel
theorem dX4_steam_41 : decode cX4_steam 41 = .ok (.invokevirtual 77, 3) := by decide +kernel
theorem dX4_steam_44 : decode cX4_steam 44 = .ok (.iload_n 3, 1) := by decide +kernel
theorem dX4_steam_45 : decode cX4_steam 45 = .ok (.invokestatic 80, 3) := by decide +kernel
theorem dX4_steam_48 : decode cX4_steam 48 = .ok (.ireturn, 1) := by decide +kernel
theorem dX4_rim_0 : decode cX4_rim 0 = .ok (.iload_n 1, 1) := by decide +kernel
theorem dX4_rim_1 : decode cX4_rim 1 = .ok (.iconst 0, 1) := by decide +kernel
theorem dX4_rim_2 : decode cX4_rim 2 = .ok (.aload_n 0, 1) := by decide +kernel
theorem dX4_rim_3 : decode cX4_rim 3 = .ok (.invokevirtual 57, 3) := by decide +kernel
theorem dX4_rim_6 : decode cX4_rim 6 = .ok (.iconst 1, 1) := by decide +kernel
theorem dX4_rim_7 : decode cX4_rim 7 = .ok (.isub, 1) := by decide +kernel
theorem dX4_rim_8 : decode cX4_rim 8 = .ok (.invokestatic 53, 3) := by decide +kernel
theorem dX4_rim_11 : decode cX4_rim 11 = .ok (.ifCond .ne 5, 3) := by decide +kernel
theorem dX4_rim_14 : decode cX4_rim 14 = .ok (.iconst (-1), 1) := by decide +kernel
theorem dX4_rim_15 : decode cX4_rim 15 = .ok (.ireturn, 1) := by decide +kernel
theorem dX4_rim_16 : decode cX4_rim 16 = .ok (.aload_n 0, 1) := by decide +kernel
theorem dX4_rim_17 : decode cX4_rim 17 = .ok (.iload_n 1, 1) := by decide +kernel
theorem dX4_rim_18 : decode cX4_rim 18 = .ok (.invokevirtual 84, 3) := by decide +kernel
theorem dX4_rim_21 : decode cX4_rim 21 = .ok (.ifCond .eq 7, 3) := by decide +kernel
theorem dX4_rim_24 : decode cX4_rim 24 = .ok (.iconst 1, 1) := by decide +kernel
theorem dX4_rim_25 : decode cX4_rim 25 = .ok (.goto 4, 3) := by decide +kernel
theorem dX4_rim_28 : decode cX4_rim 28 = .ok (.iconst 0, 1) := by decide +kernel
theorem dX4_rim_29 : decode cX4_rim 29 = .ok (.ireturn, 1) := by decide +kernel
theorem dX4_load_0 : decode cX4_load 0 = .ok (.aload_n 0, 1) := by decide +kernel
theorem dX4_load_1 : decode cX4_load 1 = .ok (.getfield 46, 3) := by decide +kernel
theorem dX4_load_4 : decode cX4_load 4 = .ok (.ifCond .eq 6, 3) := by decide +kernel
theorem dX4_load_7 : decode cX4_load 7 = .ok (.bipush (-3), 2) := by decide +kernel
theorem dX4_load_9 : decode cX4_load 9 = .ok (.ireturn, 1) := by decide +kernel
theorem dX4_load_10 : decode cX4_load 10 = .ok (.aload_n 0, 1) := by decide +kernel
theorem dX4_load_11 : decode cX4_load 11 = .ok (.getfield 19, 3) := by decide +kernel
theorem dX4_load_14 : decode cX4_load 14 = .ok (.aload_n 0, 1) := by decide +kernel
theorem dX4_load_15 : decode cX4_load 15 = .ok (.getfield 10, 3) := by decide +kernel
theorem dX4_load_18 : decode cX4_load 18 = .ok (.aload_n 0, 1) := by decide +kernel
theorem dX4_load_19 : decode cX4_load 19 = .ok (.getfield 33, 3) := by decide +kernel
theorem dX4_load_22 : decode cX4_load 22 = .ok (.aload_n 0, 1) := by decide +kernel
theorem dX4_load_23 : decode cX4_load 23 = .ok (.getfield 37, 3) := by decide +kernel
theorem dX4_load_26 : decode cX4_load 26 = .ok (.aload_n 0, 1) := by decide +kernel
theorem dX4_load_27 : decode cX4_load 27 = .ok (.getfield 43, 3) := by decide +kernel
theorem dX4_load_30 : decode cX4_load 30 = .ok (.invokevirtual 87, 3) := by decide +kernel
theorem dX4_load_33 : decode cX4_load 33 = .ok (.aload_n 0, 1) := by decide +kernel
theorem dX4_load_34 : decode cX4_load 34 = .ok (.getfield 29, 3) := by decide +kernel
theorem dX4_load_37 : decode cX4_load 37 = .ok (.aload_n 0, 1) := by decide +kernel
theorem dX4_load_38 : decode cX4_load 38 = .ok (.getfield 19, 3) := by decide +kernel
theorem dX4_load_41 : decode cX4_load 41 = .ok (.aload_n 0, 1) := by decide +kernel
theorem dX4_load_42 : decode cX4_load 42 = .ok (.getfield 10, 3) := by decide +kernel
theorem dX4_load_45 : decode cX4_load 45 = .ok (.invokevirtual 91, 3) := by decide +kernel
theorem dX4_load_48 : decode cX4_load 48 = .ok (.aload_n 0, 1) := by decide +kernel
theorem dX4_load_49 : decode cX4_load 49 = .ok (.iconst 1, 1) := by decide +kernel
theorem dX4_load_50 : decode cX4_load 50 = .ok (.putfield 46, 3) := by decide +kernel
theorem dX4_load_53 : decode cX4_load 53 = .ok (.aload_n 0, 1) := by decide +kernel
theorem dX4_load_54 : decode cX4_load 54 = .ok (.invokevirtual 57, 3) := by decide +kernel
theorem dX4_load_57 : decode cX4_load 57 = .ok (.ireturn, 1) := by decide +kernel
theorem dX4_warm_0 : decode cX4_warm 0 = .ok (.iload_n 1, 1) := by decide +kernel
theorem dX4_warm_1 : decode cX4_warm 1 = .ok (.sipush (-600), 3) := by decide +kernel
theorem dX4_warm_4 : decode cX4_warm 4 = .ok (.sipush 400, 3) := by decide +kernel
theorem dX4_warm_7 : decode cX4_warm 7 = .ok (.invokestatic 53, 3) := by decide +kernel
theorem dX4_warm_10 : decode cX4_warm 10 = .ok (.ifCond .ne 7, 3) := by decide +kernel
theorem dX4_warm_13 : decode cX4_warm 13 = .ok (.sipush (-10002), 3) := by decide +kernel
theorem dX4_warm_16 : decode cX4_warm 16 = .ok (.ireturn, 1) := by decide +kernel
theorem dX4_warm_17 : decode cX4_warm 17 = .ok (.aload_n 0, 1) := by decide +kernel
theorem dX4_warm_18 : decode cX4_warm 18 = .ok (.getfield 40, 3) := by decide +kernel
theorem dX4_warm_21 : decode cX4_warm 21 = .ok (.istore_n 2, 1) := by decide +kernel
theorem dX4_warm_22 : decode cX4_warm 22 = .ok (.aload_n 0, 1) := by decide +kernel
theorem dX4_warm_23 : decode cX4_warm 23 = .ok (.iload_n 1, 1) := by decide +kernel
theorem dX4_warm_24 : decode cX4_warm 24 = .ok (.putfield 40, 3) := by decide +kernel
theorem dX4_warm_27 : decode cX4_warm 27 = .ok (.iload_n 2, 1) := by decide +kernel
theorem dX4_warm_28 : decode cX4_warm 28 = .ok (.ireturn, 1) := by decide +kernel
theorem dX4_set_0 : decode cX4_set 0 = .ok (.iload_n 1, 1) := by decide +kernel
theorem dX4_set_1 : decode cX4_set 1 = .ok (.iconst 0, 1) := by decide +kernel
theorem dX4_set_2 : decode cX4_set 2 = .ok (.sipush 5000, 3) := by decide +kernel
theorem dX4_set_5 : decode cX4_set 5 = .ok (.invokestatic 53, 3) := by decide +kernel
theorem dX4_set_8 : decode cX4_set 8 = .ok (.ifCond .ne 6, 3) := by decide +kernel
theorem dX4_set_11 : decode cX4_set 11 = .ok (.bipush (-2), 2) := by decide +kernel
theorem dX4_set_13 : decode cX4_set 13 = .ok (.ireturn, 1) := by decide +kernel
theorem dX4_set_14 : decode cX4_set 14 = .ok (.aload_n 0, 1) := by decide +kernel
theorem dX4_set_15 : decode cX4_set 15 = .ok (.getfield 43, 3) := by decide +kernel
theorem dX4_set_18 : decode cX4_set 18 = .ok (.istore_n 2, 1) := by decide +kernel
theorem dX4_set_19 : decode cX4_set 19 = .ok (.aload_n 0, 1) := by decide +kernel
theorem dX4_set_20 : decode cX4_set 20 = .ok (.iload_n 1, 1) := by decide +kernel
theorem dX4_set_21 : decode cX4_set 21 = .ok (.putfield 43, 3) := by decide +kernel
theorem dX4_set_24 : decode cX4_set 24 = .ok (.iload_n 2, 1) := by decide +kernel
theorem dX4_set_25 : decode cX4_set 25 = .ok (.ireturn, 1) := by decide +kernel
theorem dX4_run_0 : decode cX4_run 0 = .ok (.iload_n 1, 1) := by decide +kernel
theorem dX4_run_1 : decode cX4_run 1 = .ok (.iconst 1, 1) := by decide +kernel
theorem dX4_run_2 : decode cX4_run 2 = .ok (.sipush 500, 3) := by decide +kernel
theorem dX4_run_5 : decode cX4_run 5 = .ok (.invokestatic 53, 3) := by decide +kernel
theorem dX4_run_8 : decode cX4_run 8 = .ok (.ifCond .ne 6, 3) := by decide +kernel
theorem dX4_run_11 : decode cX4_run 11 = .ok (.bipush (-2), 2) := by decide +kernel
theorem dX4_run_13 : decode cX4_run 13 = .ok (.ireturn, 1) := by decide +kernel
theorem dX4_run_14 : decode cX4_run 14 = .ok (.aload_n 0, 1) := by decide +kernel
theorem dX4_run_15 : decode cX4_run 15 = .ok (.getfield 46, 3) := by decide +kernel
theorem dX4_run_18 : decode cX4_run 18 = .ok (.ifCond .eq 18, 3) := by decide +kernel
theorem dX4_run_21 : decode cX4_run 21 = .ok (.aload_n 0, 1) := by decide +kernel
theorem dX4_run_22 : decode cX4_run 22 = .ok (.getfield 19, 3) := by decide +kernel
theorem dX4_run_25 : decode cX4_run 25 = .ok (.getfield 95, 3) := by decide +kernel
theorem dX4_run_28 : decode cX4_run 28 = .ok (.iload_n 1, 1) := by decide +kernel
theorem dX4_run_29 : decode cX4_run 29 = .ok (.iadd, 1) := by decide +kernel
theorem dX4_run_30 : decode cX4_run 30 = .ok (.sipush 2000, 3) := by decide +kernel
theorem dX4_run_33 : decode cX4_run 33 = .ok (.if_icmp .le 6, 3) := by decide +kernel
theorem dX4_run_36 : decode cX4_run 36 = .ok (.bipush (-3), 2) := by decide +kernel
theorem dX4_run_38 : decode cX4_run 38 = .ok (.ireturn, 1) := by decide +kernel
theorem dX4_run_39 : decode cX4_run 39 = .ok (.iconst 0, 1) := by decide +kernel
theorem dX4_run_40 : decode cX4_run 40 = .ok (.istore_n 2, 1) := by decide +kernel
theorem dX4_run_41 : decode cX4_run 41 = .ok (.iload_n 2, 1) := by decide +kernel
theorem dX4_run_42 : decode cX4_run 42 = .ok (.iload_n 1, 1) := by decide +kernel
theorem dX4_run_43 : decode cX4_run 43 = .ok (.if_icmp .ge 43, 3) := by decide +kernel
theorem dX4_run_46 : decode cX4_run 46 = .ok (.aload_n 0, 1) := by decide +kernel
theorem dX4_run_47 : decode cX4_run 47 = .ok (.getfield 19, 3) := by decide +kernel
theorem dX4_run_50 : decode cX4_run 50 = .ok (.aload_n 0, 1) := by decide +kernel
theorem dX4_run_51 : decode cX4_run 51 = .ok (.getfield 10, 3) := by decide +kernel
theorem dX4_run_54 : decode cX4_run 54 = .ok (.aload_n 0, 1) := by decide +kernel
theorem dX4_run_55 : decode cX4_run 55 = .ok (.getfield 40, 3) := by decide +kernel
theorem dX4_run_58 : decode cX4_run 58 = .ok (.aload_n 0, 1) := by decide +kernel
theorem dX4_run_59 : decode cX4_run 59 = .ok (.getfield 43, 3) := by decide +kernel
theorem dX4_run_62 : decode cX4_run 62 = .ok (.invokevirtual 98, 3) := by decide +kernel
theorem dX4_run_65 : decode cX4_run 65 = .ok (.aload_n 0, 1) := by decide +kernel
theorem dX4_run_66 : decode cX4_run 66 = .ok (.getfield 29, 3) := by decide +kernel
theorem dX4_run_69 : decode cX4_run 69 = .ok (.aload_n 0, 1) := by decide +kernel
theorem dX4_run_70 : decode cX4_run 70 = .ok (.getfield 19, 3) := by decide +kernel
theorem dX4_run_73 : decode cX4_run 73 = .ok (.aload_n 0, 1) := by decide +kernel
theorem dX4_run_74 : decode cX4_run 74 = .ok (.getfield 10, 3) := by decide +kernel
theorem dX4_run_77 : decode cX4_run 77 = .ok (.invokevirtual 91, 3) := by decide +kernel
theorem dX4_run_80 : decode cX4_run 80 = .ok (.iinc 2 1, 3) := by decide +kernel
theorem dX4_run_83 : decode cX4_run 83 = .ok (.goto (-42), 3) := by decide +kernel
theorem dX4_run_86 : decode cX4_run 86 = .ok (.aload_n 0, 1) := by decide +kernel
theorem dX4_run_87 : decode cX4_run 87 = .ok (.getfield 19, 3) := by decide +kernel
theorem dX4_run_90 : decode cX4_run 90 = .ok (.getfield 95, 3) := by decide +kernel
theorem dX4_run_93 : decode cX4_run 93 = .ok (.ireturn, 1) := by decide +kernel
theorem dX4_unload_0 : decode cX4_unload 0 = .ok (.aload_n 0, 1) := by decide +kernel
theorem dX4_unload_1 : decode cX4_unload 1 = .ok (.getfield 46, 3) := by decide +kernel
theorem dX4_unload_4 : decode cX4_unload 4 = .ok (.ifCond .ne 6, 3) := by decide +kernel
theorem dX4_unload_7 : decode cX4_unload 7 = .ok (.bipush (-3), 2) := by decide +kernel
theorem dX4_unload_9 : decode cX4_unload 9 = .ok (.ireturn, 1) := by decide +kernel
theorem dX4_unload_10 : decode cX4_unload 10 = .ok (.aload_n 0, 1) := by decide +kernel
theorem dX4_unload_11 : decode cX4_unload 11 = .ok (.iconst 0, 1) := by decide +kernel
theorem dX4_unload_12 : decode cX4_unload 12 = .ok (.putfield 46, 3) := by decide +kernel
theorem dX4_unload_15 : decode cX4_unload 15 = .ok (.aload_n 0, 1) := by decide +kernel
theorem dX4_unload_16 : decode cX4_unload 16 = .ok (.getfield 19, 3) := by decide +kernel
theorem dX4_unload_19 : decode cX4_unload 19 = .ok (.invokevirtual 102, 3) := by decide +kernel
theorem dX4_unload_22 : decode cX4_unload 22 = .ok (.ireturn, 1) := by decide +kernel
theorem dX4_vial_0 : decode cX4_vial 0 = .ok (.aload_n 0, 1) := by decide +kernel
theorem dX4_vial_1 : decode cX4_vial 1 = .ok (.getfield 46, 3) := by decide +kernel
theorem dX4_vial_4 : decode cX4_vial 4 = .ok (.ifCond .ne 7, 3) := by decide +kernel
theorem dX4_vial_7 : decode cX4_vial 7 = .ok (.sipush (-10003), 3) := by decide +kernel
theorem dX4_vial_10 : decode cX4_vial 10 = .ok (.ireturn, 1) := by decide +kernel
theorem dX4_vial_11 : decode cX4_vial 11 = .ok (.iload_n 1, 1) := by decide +kernel
theorem dX4_vial_12 : decode cX4_vial 12 = .ok (.iconst 0, 1) := by decide +kernel
theorem dX4_vial_13 : decode cX4_vial 13 = .ok (.aload_n 0, 1) := by decide +kernel
theorem dX4_vial_14 : decode cX4_vial 14 = .ok (.invokevirtual 57, 3) := by decide +kernel
theorem dX4_vial_17 : decode cX4_vial 17 = .ok (.iconst 1, 1) := by decide +kernel
theorem dX4_vial_18 : decode cX4_vial 18 = .ok (.isub, 1) := by decide +kernel
theorem dX4_vial_19 : decode cX4_vial 19 = .ok (.invokestatic 53, 3) := by decide +kernel
theorem dX4_vial_22 : decode cX4_vial 22 = .ok (.ifCond .ne 7, 3) := by decide +kernel
theorem dX4_vial_25 : decode cX4_vial 25 = .ok (.sipush (-10001), 3) := by decide +kernel
theorem dX4_vial_28 : decode cX4_vial 28 = .ok (.ireturn, 1) := by decide +kernel
theorem dX4_vial_29 : decode cX4_vial 29 = .ok (.iload_n 2, 1) := by decide +kernel
theorem dX4_vial_30 : decode cX4_vial 30 = .ok (.iconst 0, 1) := by decide +kernel
theorem dX4_vial_31 : decode cX4_vial 31 = .ok (.iconst 4, 1) := by decide +kernel
theorem dX4_vial_32 : decode cX4_vial 32 = .ok (.invokestatic 53, 3) := by decide +kernel
theorem dX4_vial_35 : decode cX4_vial 35 = .ok (.ifCond .ne 7, 3) := by decide +kernel
theorem dX4_vial_38 : decode cX4_vial 38 = .ok (.sipush (-10002), 3) := by decide +kernel
theorem dX4_vial_41 : decode cX4_vial 41 = .ok (.ireturn, 1) := by decide +kernel
theorem dX4_vial_42 : decode cX4_vial 42 = .ok (.aload_n 0, 1) := by decide +kernel
theorem dX4_vial_43 : decode cX4_vial 43 = .ok (.iload_n 1, 1) := by decide +kernel
theorem dX4_vial_44 : decode cX4_vial 44 = .ok (.invokevirtual 84, 3) := by decide +kernel
theorem dX4_vial_47 : decode cX4_vial 47 = .ok (.ifCond .eq 13, 3) := by decide +kernel
theorem dX4_vial_50 : decode cX4_vial 50 = .ok (.aload_n 0, 1) := by decide +kernel
theorem dX4_vial_51 : decode cX4_vial 51 = .ok (.getfield 19, 3) := by decide +kernel
theorem dX4_vial_54 : decode cX4_vial 54 = .ok (.getfield 105, 3) := by decide +kernel
theorem dX4_vial_57 : decode cX4_vial 57 = .ok (.goto 10, 3) := by decide +kernel
theorem dX4_vial_60 : decode cX4_vial 60 = .ok (.aload_n 0, 1) := by decide +kernel
theorem dX4_vial_61 : decode cX4_vial 61 = .ok (.getfield 19, 3) := by decide +kernel
theorem dX4_vial_64 : decode cX4_vial 64 = .ok (.getfield 109, 3) := by decide +kernel
theorem dX4_vial_67 : decode cX4_vial 67 = .ok (.astore_n 3, 1) := by decide +kernel
theorem dX4_vial_68 : decode cX4_vial 68 = .ok (.aload_n 3, 1) := by decide +kernel
theorem dX4_vial_69 : decode cX4_vial 69 = .ok (.iload_n 2, 1) := by decide +kernel
theorem dX4_vial_70 : decode cX4_vial 70 = .ok (.invokevirtual 112, 3) := by decide +kernel
theorem dX4_vial_73 : decode cX4_vial 73 = .ok (.ireturn, 1) := by decide +kernel
theorem dX4_about_0 : decode cX4_about 0 = .ok (.iload_n 1, 1) := by decide +kernel
theorem dX4_about_1 : decode cX4_about 1 = .ok (.iconst 0, 1) := by decide +kernel
theorem dX4_about_2 : decode cX4_about 2 = .ok (.bipush 9, 2) := by decide +kernel
theorem dX4_about_4 : decode cX4_about 4 = .ok (.invokestatic 53, 3) := by decide +kernel
theorem dX4_about_7 : decode cX4_about 7 = .ok (.ifCond .ne 7, 3) := by decide +kernel
theorem dX4_about_10 : decode cX4_about 10 = .ok (.sipush (-10002), 3) := by decide +kernel
theorem dX4_about_13 : decode cX4_about 13 = .ok (.ireturn, 1) := by decide +kernel
theorem dX4_about_14 : decode cX4_about 14 = .ok (.iload_n 1, 1) := by decide +kernel
theorem dX4_about_15 : decode cX4_about 15 = .ok (.bipush 8, 2) := by decide +kernel
theorem dX4_about_17 : decode cX4_about 17 = .ok (.if_icmp .ne 8, 3) := by decide +kernel
theorem dX4_about_20 : decode cX4_about 20 = .ok (.aload_n 0, 1) := by decide +kernel
theorem dX4_about_21 : decode cX4_about 21 = .ok (.getfield 40, 3) := by decide +kernel
theorem dX4_about_24 : decode cX4_about 24 = .ok (.ireturn, 1) := by decide +kernel
theorem dX4_about_25 : decode cX4_about 25 = .ok (.iload_n 1, 1) := by decide +kernel
theorem dX4_about_26 : decode cX4_about 26 = .ok (.bipush 9, 2) := by decide +kernel
theorem dX4_about_28 : decode cX4_about 28 = .ok (.if_icmp .ne 8, 3) := by decide +kernel
theorem dX4_about_31 : decode cX4_about 31 = .ok (.aload_n 0, 1) := by decide +kernel
theorem dX4_about_32 : decode cX4_about 32 = .ok (.getfield 43, 3) := by decide +kernel
theorem dX4_about_35 : decode cX4_about 35 = .ok (.ireturn, 1) := by decide +kernel
theorem dX4_about_36 : decode cX4_about 36 = .ok (.aload_n 0, 1) := by decide +kernel
theorem dX4_about_37 : decode cX4_about 37 = .ok (.getfield 46, 3) := by decide +kernel
theorem dX4_about_40 : decode cX4_about 40 = .ok (.ifCond .eq 14, 3) := by decide +kernel
theorem dX4_about_43 : decode cX4_about 43 = .ok (.aload_n 0, 1) := by decide +kernel
theorem dX4_about_44 : decode cX4_about 44 = .ok (.getfield 19, 3) := by decide +kernel
theorem dX4_about_47 : decode cX4_about 47 = .ok (.iload_n 1, 1) := by decide +kernel
theorem dX4_about_48 : decode cX4_about 48 = .ok (.invokevirtual 117, 3) := by decide +kernel
theorem dX4_about_51 : decode cX4_about 51 = .ok (.goto 6, 3) := by decide +kernel
theorem dX4_about_54 : decode cX4_about 54 = .ok (.sipush (-10003), 3) := by decide +kernel
theorem dX4_about_57 : decode cX4_about 57 = .ok (.ireturn, 1) := by decide +kernel
theorem dX4_gauge_0 : decode cX4_gauge 0 = .ok (.aload_n 0, 1) := by decide +kernel
theorem dX4_gauge_1 : decode cX4_gauge 1 = .ok (.getfield 46, 3) := by decide +kernel
theorem dX4_gauge_4 : decode cX4_gauge 4 = .ok (.ifCond .ne 6, 3) := by decide +kernel
theorem dX4_gauge_7 : decode cX4_gauge 7 = .ok (.bipush (-3), 2) := by decide +kernel
theorem dX4_gauge_9 : decode cX4_gauge 9 = .ok (.ireturn, 1) := by decide +kernel
theorem dX4_gauge_10 : decode cX4_gauge 10 = .ok (.iload_n 1, 1) := by decide +kernel
theorem dX4_gauge_11 : decode cX4_gauge 11 = .ok (.iconst 1, 1) := by decide +kernel
theorem dX4_gauge_12 : decode cX4_gauge 12 = .ok (.aload_n 0, 1) := by decide +kernel
theorem dX4_gauge_13 : decode cX4_gauge 13 = .ok (.getfield 19, 3) := by decide +kernel
theorem dX4_gauge_16 : decode cX4_gauge 16 = .ok (.getfield 95, 3) := by decide +kernel
theorem dX4_gauge_19 : decode cX4_gauge 19 = .ok (.invokestatic 53, 3) := by decide +kernel
theorem dX4_gauge_22 : decode cX4_gauge 22 = .ok (.ifCond .ne 5, 3) := by decide +kernel
theorem dX4_gauge_25 : decode cX4_gauge 25 = .ok (.iconst (-1), 1) := by decide +kernel
theorem dX4_gauge_26 : decode cX4_gauge 26 = .ok (.ireturn, 1) := by decide +kernel
theorem dX4_gauge_27 : decode cX4_gauge 27 = .ok (.iload_n 2, 1) := by decide +kernel
theorem dX4_gauge_28 : decode cX4_gauge 28 = .ok (.iconst 0, 1) := by decide +kernel
theorem dX4_gauge_29 : decode cX4_gauge 29 = .ok (.iconst 1, 1) := by decide +kernel
theorem dX4_gauge_30 : decode cX4_gauge 30 = .ok (.invokestatic 53, 3) := by decide +kernel
theorem dX4_gauge_33 : decode cX4_gauge 33 = .ok (.ifCond .ne 6, 3) := by decide +kernel
theorem dX4_gauge_36 : decode cX4_gauge 36 = .ok (.bipush (-2), 2) := by decide +kernel
theorem dX4_gauge_38 : decode cX4_gauge 38 = .ok (.ireturn, 1) := by decide +kernel
theorem dX4_gauge_39 : decode cX4_gauge 39 = .ok (.iload_n 2, 1) := by decide +kernel
theorem dX4_gauge_40 : decode cX4_gauge 40 = .ok (.ifCond .ne 14, 3) := by decide +kernel
theorem dX4_gauge_43 : decode cX4_gauge 43 = .ok (.aload_n 0, 1) := by decide +kernel
theorem dX4_gauge_44 : decode cX4_gauge 44 = .ok (.getfield 29, 3) := by decide +kernel
theorem dX4_gauge_47 : decode cX4_gauge 47 = .ok (.iload_n 1, 1) := by decide +kernel
theorem dX4_gauge_48 : decode cX4_gauge 48 = .ok (.invokevirtual 118, 3) := by decide +kernel
theorem dX4_gauge_51 : decode cX4_gauge 51 = .ok (.goto 11, 3) := by decide +kernel
theorem dX4_gauge_54 : decode cX4_gauge 54 = .ok (.aload_n 0, 1) := by decide +kernel
theorem dX4_gauge_55 : decode cX4_gauge 55 = .ok (.getfield 29, 3) := by decide +kernel
theorem dX4_gauge_58 : decode cX4_gauge 58 = .ok (.iload_n 1, 1) := by decide +kernel
theorem dX4_gauge_59 : decode cX4_gauge 59 = .ok (.invokevirtual 121, 3) := by decide +kernel
theorem dX4_gauge_62 : decode cX4_gauge 62 = .ok (.ireturn, 1) := by decide +kernel
theorem dX4_end_0 : decode cX4_end 0 = .ok (.iload_n 1, 1) := by decide +kernel
theorem dX4_end_1 : decode cX4_end 1 = .ok (.iconst 0, 1) := by decide +kernel
theorem dX4_end_2 : decode cX4_end 2 = .ok (.bipush 100, 2) := by decide +kernel
theorem dX4_end_4 : decode cX4_end 4 = .ok (.invokestatic 53, 3) := by decide +kernel
theorem dX4_end_7 : decode cX4_end 7 = .ok (.ifCond .eq 13, 3) := by decide +kernel
theorem dX4_end_10 : decode cX4_end 10 = .ok (.iload_n 2, 1) := by decide +kernel
theorem dX4_end_11 : decode cX4_end 11 = .ok (.iconst 1, 1) := by decide +kernel
theorem dX4_end_12 : decode cX4_end 12 = .ok (.bipush 60, 2) := by decide +kernel
theorem dX4_end_14 : decode cX4_end 14 = .ok (.invokestatic 53, 3) := by decide +kernel
theorem dX4_end_17 : decode cX4_end 17 = .ok (.ifCond .ne 6, 3) := by decide +kernel
theorem dX4_end_20 : decode cX4_end 20 = .ok (.bipush (-2), 2) := by decide +kernel
theorem dX4_end_22 : decode cX4_end 22 = .ok (.ireturn, 1) := by decide +kernel
theorem dX4_end_23 : decode cX4_end 23 = .ok (.aload_n 0, 1) := by decide +kernel
theorem dX4_end_24 : decode cX4_end 24 = .ok (.getfield 46, 3) := by decide +kernel
theorem dX4_end_27 : decode cX4_end 27 = .ok (.ifCond .eq 22, 3) := by decide +kernel
theorem dX4_end_30 : decode cX4_end 30 = .ok (.aload_n 0, 1) := by decide +kernel
theorem dX4_end_31 : decode cX4_end 31 = .ok (.getfield 29, 3) := by decide +kernel
theorem dX4_end_34 : decode cX4_end 34 = .ok (.aload_n 0, 1) := by decide +kernel
theorem dX4_end_35 : decode cX4_end 35 = .ok (.getfield 19, 3) := by decide +kernel
theorem dX4_end_38 : decode cX4_end 38 = .ok (.getfield 95, 3) := by decide +kernel
theorem dX4_end_41 : decode cX4_end 41 = .ok (.iload_n 1, 1) := by decide +kernel
theorem dX4_end_42 : decode cX4_end 42 = .ok (.iload_n 2, 1) := by decide +kernel
theorem dX4_end_43 : decode cX4_end 43 = .ok (.invokevirtual 124, 3) := by decide +kernel
theorem dX4_end_46 : decode cX4_end 46 = .ok (.goto 5, 3) := by decide +kernel
theorem dX4_end_49 : decode cX4_end 49 = .ok (.bipush (-3), 2) := by decide +kernel
theorem dX4_end_51 : decode cX4_end 51 = .ok (.ireturn, 1) := by decide +kernel
theorem dX4_wet_0 : decode cX4_wet 0 = .ok (.aload_n 0, 1) := by decide +kernel
theorem dX4_wet_1 : decode cX4_wet 1 = .ok (.getfield 46, 3) := by decide +kernel
theorem dX4_wet_4 : decode cX4_wet 4 = .ok (.ifCond .ne 6, 3) := by decide +kernel
theorem dX4_wet_7 : decode cX4_wet 7 = .ok (.bipush (-3), 2) := by decide +kernel
theorem dX4_wet_9 : decode cX4_wet 9 = .ok (.ireturn, 1) := by decide +kernel
theorem dX4_wet_10 : decode cX4_wet 10 = .ok (.iload_n 1, 1) := by decide +kernel
theorem dX4_wet_11 : decode cX4_wet 11 = .ok (.iconst 0, 1) := by decide +kernel
theorem dX4_wet_12 : decode cX4_wet 12 = .ok (.aload_n 0, 1) := by decide +kernel
theorem dX4_wet_13 : decode cX4_wet 13 = .ok (.getfield 19, 3) := by decide +kernel
theorem dX4_wet_16 : decode cX4_wet 16 = .ok (.getfield 95, 3) := by decide +kernel
theorem dX4_wet_19 : decode cX4_wet 19 = .ok (.invokestatic 53, 3) := by decide +kernel
theorem dX4_wet_22 : decode cX4_wet 22 = .ok (.ifCond .eq 14, 3) := by decide +kernel
theorem dX4_wet_25 : decode cX4_wet 25 = .ok (.aload_n 0, 1) := by decide +kernel
theorem dX4_wet_26 : decode cX4_wet 26 = .ok (.getfield 29, 3) := by decide +kernel
theorem dX4_wet_29 : decode cX4_wet 29 = .ok (.iload_n 1, 1) := by decide +kernel
theorem dX4_wet_30 : decode cX4_wet 30 = .ok (.invokevirtual 127, 3) := by decide +kernel
theorem dX4_wet_33 : decode cX4_wet 33 = .ok (.goto 4, 3) := by decide +kernel
theorem dX4_wet_36 : decode cX4_wet 36 = .ok (.iconst (-1), 1) := by decide +kernel
theorem dX4_wet_37 : decode cX4_wet 37 = .ok (.ireturn, 1) := by decide +kernel
theorem dX4_firstFallen_0 : decode cX4_firstFallen 0 = .ok (.aload_n 0, 1) := by decide +kernel
theorem dX4_firstFallen_1 : decode cX4_firstFallen 1 = .ok (.getfield 46, 3) := by decide +kernel
theorem dX4_firstFallen_4 : decode cX4_firstFallen 4 = .ok (.ifCond .eq 13, 3) := by decide +kernel
theorem dX4_firstFallen_7 : decode cX4_firstFallen 7 = .ok (.aload_n 0, 1) := by decide +kernel
theorem dX4_firstFallen_8 : decode cX4_firstFallen 8 = .ok (.getfield 19, 3) := by decide +kernel
theorem dX4_firstFallen_11 : decode cX4_firstFallen 11 = .ok (.invokevirtual 130, 3) := by decide +kernel
theorem dX4_firstFallen_14 : decode cX4_firstFallen 14 = .ok (.goto 5, 3) := by decide +kernel
theorem dX4_firstFallen_17 : decode cX4_firstFallen 17 = .ok (.bipush (-3), 2) := by decide +kernel
theorem dX4_firstFallen_19 : decode cX4_firstFallen 19 = .ok (.ireturn, 1) := by decide +kernel
theorem dX4_trial_0 : decode cX4_trial 0 = .ok (.iload_n 1, 1) := by decide +kernel
theorem dX4_trial_1 : decode cX4_trial 1 = .ok (.sipush (-600), 3) := by decide +kernel
theorem dX4_trial_4 : decode cX4_trial 4 = .ok (.sipush 400, 3) := by decide +kernel
theorem dX4_trial_7 : decode cX4_trial 7 = .ok (.invokestatic 53, 3) := by decide +kernel
theorem dX4_trial_10 : decode cX4_trial 10 = .ok (.ifCond .eq 11, 3) := by decide +kernel
theorem dX4_trial_13 : decode cX4_trial 13 = .ok (.iload_n 2, 1) := by decide +kernel
theorem dX4_trial_14 : decode cX4_trial 14 = .ok (.iload_n 3, 1) := by decide +kernel
theorem dX4_trial_15 : decode cX4_trial 15 = .ok (.invokestatic 133, 3) := by decide +kernel
theorem dX4_trial_18 : decode cX4_trial 18 = .ok (.ifCond .ne 6, 3) := by decide +kernel
theorem dX4_trial_21 : decode cX4_trial 21 = .ok (.bipush (-2), 2) := by decide +kernel
theorem dX4_trial_23 : decode cX4_trial 23 = .ok (.ireturn, 1) := by decide +kernel
theorem dX4_trial_24 : decode cX4_trial 24 = .ok (.aload_n 0, 1) := by decide +kernel
theorem dX4_trial_25 : decode cX4_trial 25 = .ok (.iload_n 1, 1) := by decide +kernel
theorem dX4_trial_26 : decode cX4_trial 26 = .ok (.iload_n 2, 1) := by decide +kernel
theorem dX4_trial_27 : decode cX4_trial 27 = .ok (.iload_n 3, 1) := by decide +kernel
theorem dX4_trial_28 : decode cX4_trial 28 = .ok (.invokevirtual 136, 3) := by decide +kernel
theorem dX4_trial_31 : decode cX4_trial 31 = .ok (.ifCond .eq 7, 3) := by decide +kernel
theorem dX4_trial_34 : decode cX4_trial 34 = .ok (.iconst 1, 1) := by decide +kernel
theorem dX4_trial_35 : decode cX4_trial 35 = .ok (.goto 4, 3) := by decide +kernel
theorem dX4_trial_38 : decode cX4_trial 38 = .ok (.iconst 0, 1) := by decide +kernel
theorem dX4_trial_39 : decode cX4_trial 39 = .ok (.ireturn, 1) := by decide +kernel
theorem dX4_tried_0 : decode cX4_tried 0 = .ok (.iload_n 1, 1) := by decide +kernel
theorem dX4_tried_1 : decode cX4_tried 1 = .ok (.iconst 0, 1) := by decide +kernel
theorem dX4_tried_2 : decode cX4_tried 2 = .ok (.iconst 4, 1) := by decide +kernel
theorem dX4_tried_3 : decode cX4_tried 3 = .ok (.invokestatic 53, 3) := by decide +kernel
theorem dX4_tried_6 : decode cX4_tried 6 = .ok (.ifCond .ne 6, 3) := by decide +kernel
theorem dX4_tried_9 : decode cX4_tried 9 = .ok (.bipush (-2), 2) := by decide +kernel
theorem dX4_tried_11 : decode cX4_tried 11 = .ok (.ireturn, 1) := by decide +kernel
theorem dX4_tried_12 : decode cX4_tried 12 = .ok (.aload_n 0, 1) := by decide +kernel
theorem dX4_tried_13 : decode cX4_tried 13 = .ok (.getfield 50, 3) := by decide +kernel
theorem dX4_tried_16 : decode cX4_tried 16 = .ok (.ifCond .ne 6, 3) := by decide +kernel
theorem dX4_tried_19 : decode cX4_tried 19 = .ok (.bipush (-3), 2) := by decide +kernel
theorem dX4_tried_21 : decode cX4_tried 21 = .ok (.ireturn, 1) := by decide +kernel
theorem dX4_tried_22 : decode cX4_tried 22 = .ok (.iload_n 1, 1) := by decide +kernel
theorem dX4_tried_23 : decode cX4_tried 23 = .ok (.tableswitch 64 0 3 #[29, 37, 45, 56], 29) := by decide +kernel
theorem dX4_tried_52 : decode cX4_tried 52 = .ok (.aload_n 0, 1) := by decide +kernel
theorem dX4_tried_53 : decode cX4_tried 53 = .ok (.getfield 23, 3) := by decide +kernel
theorem dX4_tried_56 : decode cX4_tried 56 = .ok (.getfield 95, 3) := by decide +kernel
theorem dX4_tried_59 : decode cX4_tried 59 = .ok (.ireturn, 1) := by decide +kernel
theorem dX4_tried_60 : decode cX4_tried 60 = .ok (.aload_n 0, 1) := by decide +kernel
theorem dX4_tried_61 : decode cX4_tried 61 = .ok (.getfield 23, 3) := by decide +kernel
theorem dX4_tried_64 : decode cX4_tried 64 = .ok (.invokevirtual 130, 3) := by decide +kernel
theorem dX4_tried_67 : decode cX4_tried 67 = .ok (.ireturn, 1) := by decide +kernel
theorem dX4_tried_68 : decode cX4_tried 68 = .ok (.aload_n 0, 1) := by decide +kernel
theorem dX4_tried_69 : decode cX4_tried 69 = .ok (.getfield 23, 3) := by decide +kernel
theorem dX4_tried_72 : decode cX4_tried 72 = .ok (.invokevirtual 139, 3) := by decide +kernel
theorem dX4_tried_75 : decode cX4_tried 75 = .ok (.getfield 143, 3) := by decide +kernel
theorem dX4_tried_78 : decode cX4_tried 78 = .ok (.ireturn, 1) := by decide +kernel
theorem dX4_tried_79 : decode cX4_tried 79 = .ok (.aload_n 0, 1) := by decide +kernel
theorem dX4_tried_80 : decode cX4_tried 80 = .ok (.getfield 23, 3) := by decide +kernel
theorem dX4_tried_83 : decode cX4_tried 83 = .ok (.getfield 146, 3) := by decide +kernel
theorem dX4_tried_86 : decode cX4_tried 86 = .ok (.ireturn, 1) := by decide +kernel
theorem dX4_tried_87 : decode cX4_tried 87 = .ok (.aload_n 0, 1) := by decide +kernel
theorem dX4_tried_88 : decode cX4_tried 88 = .ok (.getfield 23, 3) := by decide +kernel
theorem dX4_tried_91 : decode cX4_tried 91 = .ok (.invokevirtual 102, 3) := by decide +kernel
theorem dX4_tried_94 : decode cX4_tried 94 = .ok (.ireturn, 1) := by decide +kernel
theorem dX4_edge_0 : decode cX4_edge 0 = .ok (.iload_n 1, 1) := by decide +kernel
theorem dX4_edge_1 : decode cX4_edge 1 = .ok (.iload_n 2, 1) := by decide +kernel
theorem dX4_edge_2 : decode cX4_edge 2 = .ok (.invokestatic 133, 3) := by decide +kernel
theorem dX4_edge_5 : decode cX4_edge 5 = .ok (.ifCond .ne 7, 3) := by decide +kernel
theorem dX4_edge_8 : decode cX4_edge 8 = .ok (.sipush (-10002), 3) := by decide +kernel
theorem dX4_edge_11 : decode cX4_edge 11 = .ok (.ireturn, 1) := by decide +kernel
theorem dX4_edge_12 : decode cX4_edge 12 = .ok (.sipush (-10000), 3) := by decide +kernel
theorem dX4_edge_15 : decode cX4_edge 15 = .ok (.istore_n 3, 1) := by decide +kernel
theorem dX4_edge_16 : decode cX4_edge 16 = .ok (.sipush (-600), 3) := by decide +kernel
theorem dX4_edge_19 : decode cX4_edge 19 = .ok (.istore 4, 2) := by decide +kernel
theorem dX4_edge_21 : decode cX4_edge 21 = .ok (.iload 4, 2) := by decide +kernel
theorem dX4_edge_23 : decode cX4_edge 23 = .ok (.sipush 400, 3) := by decide +kernel
theorem dX4_edge_26 : decode cX4_edge 26 = .ok (.if_icmp .gt 25, 3) := by decide +kernel
theorem dX4_edge_29 : decode cX4_edge 29 = .ok (.aload_n 0, 1) := by decide +kernel
theorem dX4_edge_30 : decode cX4_edge 30 = .ok (.iload 4, 2) := by decide +kernel
theorem dX4_edge_32 : decode cX4_edge 32 = .ok (.iload_n 1, 1) := by decide +kernel
theorem dX4_edge_33 : decode cX4_edge 33 = .ok (.iload_n 2, 1) := by decide +kernel
theorem dX4_edge_34 : decode cX4_edge 34 = .ok (.invokevirtual 136, 3) := by decide +kernel
theorem dX4_edge_37 : decode cX4_edge 37 = .ok (.ifCond .ne 5, 3) := by decide +kernel
theorem dX4_edge_40 : decode cX4_edge 40 = .ok (.iload_n 3, 1) := by decide +kernel
theorem dX4_edge_41 : decode cX4_edge 41 = .ok (.ireturn, 1) := by decide +kernel
theorem dX4_edge_42 : decode cX4_edge 42 = .ok (.iload 4, 2) := by decide +kernel
theorem dX4_edge_44 : decode cX4_edge 44 = .ok (.istore_n 3, 1) := by decide +kernel
theorem dX4_edge_45 : decode cX4_edge 45 = .ok (.iinc 4 50, 3) := by decide +kernel
theorem dX4_edge_48 : decode cX4_edge 48 = .ok (.goto (-27), 3) := by decide +kernel
theorem dX4_edge_51 : decode cX4_edge 51 = .ok (.iload_n 3, 1) := by decide +kernel
theorem dX4_edge_52 : decode cX4_edge 52 = .ok (.ireturn, 1) := by decide +kernel
theorem dX4_told_0 : decode cX4_told 0 = .ok (.iload_n 1, 1) := by decide +kernel
theorem dX4_told_1 : decode cX4_told 1 = .ok (.bipush 10, 2) := by decide +kernel
theorem dX4_told_3 : decode cX4_told 3 = .ok (.if_icmp .lt 25, 3) := by decide +kernel
theorem dX4_told_6 : decode cX4_told 6 = .ok (.iload_n 1, 1) := by decide +kernel
theorem dX4_told_7 : decode cX4_told 7 = .ok (.bipush 10, 2) := by decide +kernel
theorem dX4_told_9 : decode cX4_told 9 = .ok (.isub, 1) := by decide +kernel
theorem dX4_told_10 : decode cX4_told 10 = .ok (.invokestatic 61, 3) := by decide +kernel
theorem dX4_told_13 : decode cX4_told 13 = .ok (.ifCond .eq 15, 3) := by decide +kernel
theorem dX4_told_16 : decode cX4_told 16 = .ok (.aload_n 0, 1) := by decide +kernel
theorem dX4_told_17 : decode cX4_told 17 = .ok (.getfield 10, 3) := by decide +kernel
theorem dX4_told_20 : decode cX4_told 20 = .ok (.iload_n 1, 1) := by decide +kernel
theorem dX4_told_21 : decode cX4_told 21 = .ok (.bipush 10, 2) := by decide +kernel
theorem dX4_told_23 : decode cX4_told 23 = .ok (.isub, 1) := by decide +kernel
theorem dX4_told_24 : decode cX4_told 24 = .ok (.invokevirtual 149, 3) := by decide +kernel
theorem dX4_told_27 : decode cX4_told 27 = .ok (.ireturn, 1) := by decide +kernel
theorem dX4_told_28 : decode cX4_told 28 = .ok (.iload_n 1, 1) := by decide +kernel
theorem dX4_told_29 : decode cX4_told 29 = .ok (.tableswitch 59 0 3 #[31, 36, 41, 46], 31) := by decide +kernel
theorem dX4_told_60 : decode cX4_told 60 = .ok (.aload_n 0, 1) := by decide +kernel
theorem dX4_told_61 : decode cX4_told 61 = .ok (.getfield 33, 3) := by decide +kernel
theorem dX4_told_64 : decode cX4_told 64 = .ok (.ireturn, 1) := by decide +kernel
theorem dX4_told_65 : decode cX4_told 65 = .ok (.aload_n 0, 1) := by decide +kernel
theorem dX4_told_66 : decode cX4_told 66 = .ok (.getfield 37, 3) := by decide +kernel
theorem dX4_told_69 : decode cX4_told 69 = .ok (.ireturn, 1) := by decide +kernel
theorem dX4_told_70 : decode cX4_told 70 = .ok (.aload_n 0, 1) := by decide +kernel
theorem dX4_told_71 : decode cX4_told 71 = .ok (.invokevirtual 57, 3) := by decide +kernel
theorem dX4_told_74 : decode cX4_told 74 = .ok (.ireturn, 1) := by decide +kernel
theorem dX4_told_75 : decode cX4_told 75 = .ok (.aload_n 0, 1) := by decide +kernel
theorem dX4_told_76 : decode cX4_told 76 = .ok (.getfield 46, 3) := by decide +kernel
theorem dX4_told_79 : decode cX4_told 79 = .ok (.ifCond .eq 7, 3) := by decide +kernel
theorem dX4_told_82 : decode cX4_told 82 = .ok (.iconst 1, 1) := by decide +kernel
theorem dX4_told_83 : decode cX4_told 83 = .ok (.goto 4, 3) := by decide +kernel
theorem dX4_told_86 : decode cX4_told 86 = .ok (.iconst 0, 1) := by decide +kernel
theorem dX4_told_87 : decode cX4_told 87 = .ok (.ireturn, 1) := by decide +kernel
theorem dX4_told_88 : decode cX4_told 88 = .ok (.sipush (-10002), 3) := by decide +kernel
theorem dX4_told_91 : decode cX4_told 91 = .ok (.ireturn, 1) := by decide +kernel
theorem dX4_places_0 : decode cX4_places 0 = .ok (.aload_n 0, 1) := by decide +kernel
theorem dX4_places_1 : decode cX4_places 1 = .ok (.getfield 33, 3) := by decide +kernel
theorem dX4_places_4 : decode cX4_places 4 = .ok (.aload_n 0, 1) := by decide +kernel
theorem dX4_places_5 : decode cX4_places 5 = .ok (.getfield 37, 3) := by decide +kernel
theorem dX4_places_8 : decode cX4_places 8 = .ok (.imul, 1) := by decide +kernel
theorem dX4_places_9 : decode cX4_places 9 = .ok (.ireturn, 1) := by decide +kernel
theorem dX4_isAtRim_0 : decode cX4_isAtRim 0 = .ok (.iload_n 1, 1) := by decide +kernel
theorem dX4_isAtRim_1 : decode cX4_isAtRim 1 = .ok (.aload_n 0, 1) := by decide +kernel
theorem dX4_isAtRim_2 : decode cX4_isAtRim 2 = .ok (.getfield 37, 3) := by decide +kernel
theorem dX4_isAtRim_5 : decode cX4_isAtRim 5 = .ok (.invokestatic 152, 3) := by decide +kernel
theorem dX4_isAtRim_8 : decode cX4_isAtRim 8 = .ok (.istore_n 2, 1) := by decide +kernel
theorem dX4_isAtRim_9 : decode cX4_isAtRim 9 = .ok (.iload_n 1, 1) := by decide +kernel
theorem dX4_isAtRim_10 : decode cX4_isAtRim 10 = .ok (.iload_n 2, 1) := by decide +kernel
theorem dX4_isAtRim_11 : decode cX4_isAtRim 11 = .ok (.aload_n 0, 1) := by decide +kernel
theorem dX4_isAtRim_12 : decode cX4_isAtRim 12 = .ok (.getfield 37, 3) := by decide +kernel
theorem dX4_isAtRim_15 : decode cX4_isAtRim 15 = .ok (.imul, 1) := by decide +kernel
theorem dX4_isAtRim_16 : decode cX4_isAtRim 16 = .ok (.isub, 1) := by decide +kernel
theorem dX4_isAtRim_17 : decode cX4_isAtRim 17 = .ok (.istore_n 3, 1) := by decide +kernel
theorem dX4_isAtRim_18 : decode cX4_isAtRim 18 = .ok (.iload_n 2, 1) := by decide +kernel
theorem dX4_isAtRim_19 : decode cX4_isAtRim 19 = .ok (.ifCond .eq 27, 3) := by decide +kernel
theorem dX4_isAtRim_22 : decode cX4_isAtRim 22 = .ok (.iload_n 2, 1) := by decide +kernel
theorem dX4_isAtRim_23 : decode cX4_isAtRim 23 = .ok (.aload_n 0, 1) := by decide +kernel
theorem dX4_isAtRim_24 : decode cX4_isAtRim 24 = .ok (.getfield 33, 3) := by decide +kernel
theorem dX4_isAtRim_27 : decode cX4_isAtRim 27 = .ok (.iconst 1, 1) := by decide +kernel
theorem dX4_isAtRim_28 : decode cX4_isAtRim 28 = .ok (.isub, 1) := by decide +kernel
theorem dX4_isAtRim_29 : decode cX4_isAtRim 29 = .ok (.if_icmp .eq 17, 3) := by decide +kernel
theorem dX4_isAtRim_32 : decode cX4_isAtRim 32 = .ok (.iload_n 3, 1) := by decide +kernel
theorem dX4_isAtRim_33 : decode cX4_isAtRim 33 = .ok (.ifCond .eq 13, 3) := by decide +kernel
theorem dX4_isAtRim_36 : decode cX4_isAtRim 36 = .ok (.iload_n 3, 1) := by decide +kernel
theorem dX4_isAtRim_37 : decode cX4_isAtRim 37 = .ok (.aload_n 0, 1) := by decide +kernel
theorem dX4_isAtRim_38 : decode cX4_isAtRim 38 = .ok (.getfield 37, 3) := by decide +kernel
theorem dX4_isAtRim_41 : decode cX4_isAtRim 41 = .ok (.iconst 1, 1) := by decide +kernel
theorem dX4_isAtRim_42 : decode cX4_isAtRim 42 = .ok (.isub, 1) := by decide +kernel
theorem dX4_isAtRim_43 : decode cX4_isAtRim 43 = .ok (.if_icmp .ne 7, 3) := by decide +kernel
theorem dX4_isAtRim_46 : decode cX4_isAtRim 46 = .ok (.iconst 1, 1) := by decide +kernel
theorem dX4_isAtRim_47 : decode cX4_isAtRim 47 = .ok (.goto 4, 3) := by decide +kernel
theorem dX4_isAtRim_50 : decode cX4_isAtRim 50 = .ok (.iconst 0, 1) := by decide +kernel
theorem dX4_isAtRim_51 : decode cX4_isAtRim 51 = .ok (.ireturn, 1) := by decide +kernel
theorem dX4_isMapped_0 : decode cX4_isMapped 0 = .ok (.iload_n 0, 1) := by decide +kernel
theorem dX4_isMapped_1 : decode cX4_isMapped 1 = .ok (.iconst 0, 1) := by decide +kernel
theorem dX4_isMapped_2 : decode cX4_isMapped 2 = .ok (.sipush 5000, 3) := by decide +kernel
theorem dX4_isMapped_5 : decode cX4_isMapped 5 = .ok (.invokestatic 53, 3) := by decide +kernel
theorem dX4_isMapped_8 : decode cX4_isMapped 8 = .ok (.ifCond .eq 17, 3) := by decide +kernel
theorem dX4_isMapped_11 : decode cX4_isMapped 11 = .ok (.iload_n 1, 1) := by decide +kernel
theorem dX4_isMapped_12 : decode cX4_isMapped 12 = .ok (.iconst 1, 1) := by decide +kernel
theorem dX4_isMapped_13 : decode cX4_isMapped 13 = .ok (.bipush 100, 2) := by decide +kernel
theorem dX4_isMapped_15 : decode cX4_isMapped 15 = .ok (.invokestatic 53, 3) := by decide +kernel
theorem dX4_isMapped_18 : decode cX4_isMapped 18 = .ok (.ifCond .eq 7, 3) := by decide +kernel
theorem dX4_isMapped_21 : decode cX4_isMapped 21 = .ok (.iconst 1, 1) := by decide +kernel
theorem dX4_isMapped_22 : decode cX4_isMapped 22 = .ok (.goto 4, 3) := by decide +kernel
theorem dX4_isMapped_25 : decode cX4_isMapped 25 = .ok (.iconst 0, 1) := by decide +kernel
theorem dX4_isMapped_26 : decode cX4_isMapped 26 = .ok (.ireturn, 1) := by decide +kernel
theorem dX4_noneFalls_0 : decode cX4_noneFalls 0 = .ok (.aload_n 0, 1) := by decide +kernel
theorem dX4_noneFalls_1 : decode cX4_noneFalls 1 = .ok (.getfield 23, 3) := by decide +kernel
theorem dX4_noneFalls_4 : decode cX4_noneFalls 4 = .ok (.aload_n 0, 1) := by decide +kernel
theorem dX4_noneFalls_5 : decode cX4_noneFalls 5 = .ok (.getfield 10, 3) := by decide +kernel
theorem dX4_noneFalls_8 : decode cX4_noneFalls 8 = .ok (.aload_n 0, 1) := by decide +kernel
theorem dX4_noneFalls_9 : decode cX4_noneFalls 9 = .ok (.getfield 33, 3) := by decide +kernel
theorem dX4_noneFalls_12 : decode cX4_noneFalls 12 = .ok (.aload_n 0, 1) := by decide +kernel
theorem dX4_noneFalls_13 : decode cX4_noneFalls 13 = .ok (.getfield 37, 3) := by decide +kernel
theorem dX4_noneFalls_16 : decode cX4_noneFalls 16 = .ok (.iload_n 2, 1) := by decide +kernel
theorem dX4_noneFalls_17 : decode cX4_noneFalls 17 = .ok (.invokevirtual 87, 3) := by decide +kernel
theorem dX4_noneFalls_20 : decode cX4_noneFalls 20 = .ok (.iconst 0, 1) := by decide +kernel
theorem dX4_noneFalls_21 : decode cX4_noneFalls 21 = .ok (.istore 4, 2) := by decide +kernel
theorem dX4_noneFalls_23 : decode cX4_noneFalls 23 = .ok (.iload 4, 2) := by decide +kernel
theorem dX4_noneFalls_25 : decode cX4_noneFalls 25 = .ok (.iload_n 3, 1) := by decide +kernel
theorem dX4_noneFalls_26 : decode cX4_noneFalls 26 = .ok (.if_icmp .ge 32, 3) := by decide +kernel
theorem dX4_noneFalls_29 : decode cX4_noneFalls 29 = .ok (.aload_n 0, 1) := by decide +kernel
theorem dX4_noneFalls_30 : decode cX4_noneFalls 30 = .ok (.getfield 23, 3) := by decide +kernel
theorem dX4_noneFalls_33 : decode cX4_noneFalls 33 = .ok (.invokevirtual 102, 3) := by decide +kernel
theorem dX4_noneFalls_36 : decode cX4_noneFalls 36 = .ok (.ifCond .le 22, 3) := by decide +kernel
theorem dX4_noneFalls_39 : decode cX4_noneFalls 39 = .ok (.aload_n 0, 1) := by decide +kernel
theorem dX4_noneFalls_40 : decode cX4_noneFalls 40 = .ok (.getfield 23, 3) := by decide +kernel
theorem dX4_noneFalls_43 : decode cX4_noneFalls 43 = .ok (.aload_n 0, 1) := by decide +kernel
theorem dX4_noneFalls_44 : decode cX4_noneFalls 44 = .ok (.getfield 10, 3) := by decide +kernel
theorem dX4_noneFalls_47 : decode cX4_noneFalls 47 = .ok (.iload_n 1, 1) := by decide +kernel
theorem dX4_noneFalls_48 : decode cX4_noneFalls 48 = .ok (.iload_n 2, 1) := by decide +kernel
theorem dX4_noneFalls_49 : decode cX4_noneFalls 49 = .ok (.invokevirtual 98, 3) := by decide +kernel
theorem dX4_noneFalls_52 : decode cX4_noneFalls 52 = .ok (.iinc 4 1, 3) := by decide +kernel
theorem dX4_noneFalls_55 : decode cX4_noneFalls 55 = .ok (.goto (-32), 3) := by decide +kernel
theorem dX4_noneFalls_58 : decode cX4_noneFalls 58 = .ok (.aload_n 0, 1) := by decide +kernel
theorem dX4_noneFalls_59 : decode cX4_noneFalls 59 = .ok (.iconst 1, 1) := by decide +kernel
theorem dX4_noneFalls_60 : decode cX4_noneFalls 60 = .ok (.putfield 50, 3) := by decide +kernel
theorem dX4_noneFalls_63 : decode cX4_noneFalls 63 = .ok (.aload_n 0, 1) := by decide +kernel
theorem dX4_noneFalls_64 : decode cX4_noneFalls 64 = .ok (.getfield 23, 3) := by decide +kernel
theorem dX4_noneFalls_67 : decode cX4_noneFalls 67 = .ok (.invokevirtual 155, 3) := by decide +kernel
theorem dX4_noneFalls_70 : decode cX4_noneFalls 70 = .ok (.ifCond .ne 7, 3) := by decide +kernel
theorem dX4_noneFalls_73 : decode cX4_noneFalls 73 = .ok (.iconst 1, 1) := by decide +kernel
theorem dX4_noneFalls_74 : decode cX4_noneFalls 74 = .ok (.goto 4, 3) := by decide +kernel
theorem dX4_noneFalls_77 : decode cX4_noneFalls 77 = .ok (.iconst 0, 1) := by decide +kernel
theorem dX4_noneFalls_78 : decode cX4_noneFalls 78 = .ok (.ireturn, 1) := by decide +kernel
theorem dX4_within_0 : decode cX4_within 0 = .ok (.iload_n 0, 1) := by decide +kernel
theorem dX4_within_1 : decode cX4_within 1 = .ok (.iload_n 1, 1) := by decide +kernel
theorem dX4_within_2 : decode cX4_within 2 = .ok (.if_icmp .lt 12, 3) := by decide +kernel
theorem dX4_within_5 : decode cX4_within 5 = .ok (.iload_n 0, 1) := by decide +kernel
theorem dX4_within_6 : decode cX4_within 6 = .ok (.iload_n 2, 1) := by decide +kernel
theorem dX4_within_7 : decode cX4_within 7 = .ok (.if_icmp .gt 7, 3) := by decide +kernel
theorem dX4_within_10 : decode cX4_within 10 = .ok (.iconst 1, 1) := by decide +kernel
theorem dX4_within_11 : decode cX4_within 11 = .ok (.goto 4, 3) := by decide +kernel
theorem dX4_within_14 : decode cX4_within 14 = .ok (.iconst 0, 1) := by decide +kernel
theorem dX4_within_15 : decode cX4_within 15 = .ok (.ireturn, 1) := by decide +kernel
theorem dX4_quotient_0 : decode cX4_quotient 0 = .ok (.iload_n 1, 1) := by decide +kernel
theorem dX4_quotient_1 : decode cX4_quotient 1 = .ok (.ifCond .ne 7, 3) := by decide +kernel
theorem dX4_quotient_4 : decode cX4_quotient 4 = .ok (.iconst 0, 1) := by decide +kernel
theorem dX4_quotient_5 : decode cX4_quotient 5 = .ok (.goto 6, 3) := by decide +kernel
theorem dX4_quotient_8 : decode cX4_quotient 8 = .ok (.iload_n 0, 1) := by decide +kernel
theorem dX4_quotient_9 : decode cX4_quotient 9 = .ok (.iload_n 1, 1) := by decide +kernel
theorem dX4_quotient_10 : decode cX4_quotient 10 = .ok (.idiv, 1) := by decide +kernel
theorem dX4_quotient_11 : decode cX4_quotient 11 = .ok (.ireturn, 1) := by decide +kernel
theorem dX4_vapourAt_0 : decode cX4_vapourAt 0 = .ok (.iload_n 0, 1) := by decide +kernel
theorem dX4_vapourAt_1 : decode cX4_vapourAt 1 = .ok (.sipush (-600), 3) := by decide +kernel
theorem dX4_vapourAt_4 : decode cX4_vapourAt 4 = .ok (.isub, 1) := by decide +kernel
theorem dX4_vapourAt_5 : decode cX4_vapourAt 5 = .ok (.istore_n 1, 1) := by decide +kernel
theorem dX4_vapourAt_6 : decode cX4_vapourAt 6 = .ok (.iload_n 1, 1) := by decide +kernel
theorem dX4_vapourAt_7 : decode cX4_vapourAt 7 = .ok (.bipush 10, 2) := by decide +kernel
theorem dX4_vapourAt_9 : decode cX4_vapourAt 9 = .ok (.idiv, 1) := by decide +kernel
theorem dX4_vapourAt_10 : decode cX4_vapourAt 10 = .ok (.istore_n 2, 1) := by decide +kernel
theorem dX4_vapourAt_11 : decode cX4_vapourAt 11 = .ok (.iload_n 1, 1) := by decide +kernel
theorem dX4_vapourAt_12 : decode cX4_vapourAt 12 = .ok (.bipush 10, 2) := by decide +kernel
theorem dX4_vapourAt_14 : decode cX4_vapourAt 14 = .ok (.irem, 1) := by decide +kernel
theorem dX4_vapourAt_15 : decode cX4_vapourAt 15 = .ok (.istore_n 3, 1) := by decide +kernel
theorem dX4_vapourAt_16 : decode cX4_vapourAt 16 = .ok (.iload_n 2, 1) := by decide +kernel
theorem dX4_vapourAt_17 : decode cX4_vapourAt 17 = .ok (.iconst 2, 1) := by decide +kernel
theorem dX4_vapourAt_18 : decode cX4_vapourAt 18 = .ok (.iadd, 1) := by decide +kernel
theorem dX4_vapourAt_19 : decode cX4_vapourAt 19 = .ok (.istore 4, 2) := by decide +kernel
theorem dX4_vapourAt_21 : decode cX4_vapourAt 21 = .ok (.iload_n 2, 1) := by decide +kernel
theorem dX4_vapourAt_22 : decode cX4_vapourAt 22 = .ok (.iconst 3, 1) := by decide +kernel
theorem dX4_vapourAt_23 : decode cX4_vapourAt 23 = .ok (.iadd, 1) := by decide +kernel
theorem dX4_vapourAt_24 : decode cX4_vapourAt 24 = .ok (.istore 5, 2) := by decide +kernel
theorem dX4_vapourAt_26 : decode cX4_vapourAt 26 = .ok (.iload 4, 2) := by decide +kernel
theorem dX4_vapourAt_28 : decode cX4_vapourAt 28 = .ok (.iload 4, 2) := by decide +kernel
theorem dX4_vapourAt_30 : decode cX4_vapourAt 30 = .ok (.imul, 1) := by decide +kernel
theorem dX4_vapourAt_31 : decode cX4_vapourAt 31 = .ok (.iload 4, 2) := by decide +kernel
theorem dX4_vapourAt_33 : decode cX4_vapourAt 33 = .ok (.imul, 1) := by decide +kernel
theorem dX4_vapourAt_34 : decode cX4_vapourAt 34 = .ok (.bipush 20, 2) := by decide +kernel
theorem dX4_vapourAt_36 : decode cX4_vapourAt 36 = .ok (.idiv, 1) := by decide +kernel
theorem dX4_vapourAt_37 : decode cX4_vapourAt 37 = .ok (.istore 6, 2) := by decide +kernel
theorem dX4_vapourAt_39 : decode cX4_vapourAt 39 = .ok (.iload 5, 2) := by decide +kernel
theorem dX4_vapourAt_41 : decode cX4_vapourAt 41 = .ok (.iload 5, 2) := by decide +kernel
theorem dX4_vapourAt_43 : decode cX4_vapourAt 43 = .ok (.imul, 1) := by decide +kernel
theorem dX4_vapourAt_44 : decode cX4_vapourAt 44 = .ok (.iload 5, 2) := by decide +kernel
theorem dX4_vapourAt_46 : decode cX4_vapourAt 46 = .ok (.imul, 1) := by decide +kernel
theorem dX4_vapourAt_47 : decode cX4_vapourAt 47 = .ok (.bipush 20, 2) := by decide +kernel
theorem dX4_vapourAt_49 : decode cX4_vapourAt 49 = .ok (.idiv, 1) := by decide +kernel
theorem dX4_vapourAt_50 : decode cX4_vapourAt 50 = .ok (.istore 7, 2) := by decide +kernel
theorem dX4_vapourAt_52 : decode cX4_vapourAt 52 = .ok (.iload 6, 2) := by decide +kernel
theorem dX4_vapourAt_54 : decode cX4_vapourAt 54 = .ok (.bipush 10, 2) := by decide +kernel
theorem dX4_vapourAt_56 : decode cX4_vapourAt 56 = .ok (.iload_n 3, 1) := by decide +kernel
theorem dX4_vapourAt_57 : decode cX4_vapourAt 57 = .ok (.isub, 1) := by decide +kernel
theorem dX4_vapourAt_58 : decode cX4_vapourAt 58 = .ok (.imul, 1) := by decide +kernel
theorem dX4_vapourAt_59 : decode cX4_vapourAt 59 = .ok (.iload 7, 2) := by decide +kernel
theorem dX4_vapourAt_61 : decode cX4_vapourAt 61 = .ok (.iload_n 3, 1) := by decide +kernel
theorem dX4_vapourAt_62 : decode cX4_vapourAt 62 = .ok (.imul, 1) := by decide +kernel
theorem dX4_vapourAt_63 : decode cX4_vapourAt 63 = .ok (.iadd, 1) := by decide +kernel
theorem dX4_vapourAt_64 : decode cX4_vapourAt 64 = .ok (.bipush 10, 2) := by decide +kernel
theorem dX4_vapourAt_66 : decode cX4_vapourAt 66 = .ok (.idiv, 1) := by decide +kernel
theorem dX4_vapourAt_67 : decode cX4_vapourAt 67 = .ok (.ireturn, 1) := by decide +kernel
theorem dX4_steamAt_0 : decode cX4_steamAt 0 = .ok (.iconst 0, 1) := by decide +kernel
theorem dX4_steamAt_1 : decode cX4_steamAt 1 = .ok (.iload_n 0, 1) := by decide +kernel
theorem dX4_steamAt_2 : decode cX4_steamAt 2 = .ok (.invokestatic 73, 3) := by decide +kernel
theorem dX4_steamAt_5 : decode cX4_steamAt 5 = .ok (.iload_n 2, 1) := by decide +kernel
theorem dX4_steamAt_6 : decode cX4_steamAt 6 = .ok (.isub, 1) := by decide +kernel
theorem dX4_steamAt_7 : decode cX4_steamAt 7 = .ok (.invokestatic 158, 3) := by decide +kernel
theorem dX4_steamAt_10 : decode cX4_steamAt 10 = .ok (.bipush 10, 2) := by decide +kernel
theorem dX4_steamAt_12 : decode cX4_steamAt 12 = .ok (.imul, 1) := by decide +kernel
theorem dX4_steamAt_13 : decode cX4_steamAt 13 = .ok (.iload_n 1, 1) := by decide +kernel
theorem dX4_steamAt_14 : decode cX4_steamAt 14 = .ok (.invokestatic 152, 3) := by decide +kernel
theorem dX4_steamAt_17 : decode cX4_steamAt 17 = .ok (.ireturn, 1) := by decide +kernel
