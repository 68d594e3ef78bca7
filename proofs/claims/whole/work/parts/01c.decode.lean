theorem dX3_init_0 : decode cX3_init 0 = .ok (.aload_n 0, 1) := by decide +kernel
theorem dX3_init_1 : decode cX3_init 1 = .ok (.invokespecial 3, 3) := by decide +kernel
theorem dX3_init_4 : decode cX3_init 4 = .ok (.aload_n 0, 1) := by decide +kernel
theorem dX3_init_5 : decode cX3_init 5 = .ok (.sipush 401, 3) := by decide +kernel
theorem dX3_init_8 : decode cX3_init 8 = .ok (.newarray .int, 2) := by decide +kernel
theorem dX3_init_10 : decode cX3_init 10 = .ok (.putfield 9, 3) := by decide +kernel
theorem dX3_init_13 : decode cX3_init 13 = .ok (.aload_n 0, 1) := by decide +kernel
theorem dX3_init_14 : decode cX3_init 14 = .ok (.sipush 401, 3) := by decide +kernel
theorem dX3_init_17 : decode cX3_init 17 = .ok (.newarray .int, 2) := by decide +kernel
theorem dX3_init_19 : decode cX3_init 19 = .ok (.putfield 15, 3) := by decide +kernel
theorem dX3_init_22 : decode cX3_init 22 = .ok (.aload_n 0, 1) := by decide +kernel
theorem dX3_init_23 : decode cX3_init 23 = .ok (.sipush 401, 3) := by decide +kernel
theorem dX3_init_26 : decode cX3_init 26 = .ok (.newarray .int, 2) := by decide +kernel
theorem dX3_init_28 : decode cX3_init 28 = .ok (.putfield 18, 3) := by decide +kernel
theorem dX3_init_31 : decode cX3_init 31 = .ok (.aload_n 0, 1) := by decide +kernel
theorem dX3_init_32 : decode cX3_init 32 = .ok (.iconst 0, 1) := by decide +kernel
theorem dX3_init_33 : decode cX3_init 33 = .ok (.putfield 21, 3) := by decide +kernel
theorem dX3_init_36 : decode cX3_init 36 = .ok (.aload_n 0, 1) := by decide +kernel
theorem dX3_init_37 : decode cX3_init 37 = .ok (.iconst 0, 1) := by decide +kernel
theorem dX3_init_38 : decode cX3_init 38 = .ok (.putfield 25, 3) := by decide +kernel
theorem dX3_init_41 : decode cX3_init 41 = .ok (.aload_n 0, 1) := by decide +kernel
theorem dX3_init_42 : decode cX3_init 42 = .ok (.iconst (-1), 1) := by decide +kernel
theorem dX3_init_43 : decode cX3_init 43 = .ok (.putfield 28, 3) := by decide +kernel
theorem dX3_init_46 : decode cX3_init 46 = .ok (.aload_n 0, 1) := by decide +kernel
theorem dX3_init_47 : decode cX3_init 47 = .ok (.iconst 0, 1) := by decide +kernel
theorem dX3_init_48 : decode cX3_init 48 = .ok (.putfield 31, 3) := by decide +kernel
theorem dX3_init_51 : decode cX3_init 51 = .ok (.aload_n 0, 1) := by decide +kernel
theorem dX3_init_52 : decode cX3_init 52 = .ok (.iconst 0, 1) := by decide +kernel
theorem dX3_init_53 : decode cX3_init 53 = .ok (.putfield 34, 3) := by decide +kernel
theorem dX3_init_56 : decode cX3_init 56 = .ok (.aload_n 0, 1) := by decide +kernel
theorem dX3_init_57 : decode cX3_init 57 = .ok (.iconst (-1), 1) := by decide +kernel
theorem dX3_init_58 : decode cX3_init 58 = .ok (.putfield 38, 3) := by decide +kernel
theorem dX3_init_61 : decode cX3_init 61 = .ok (.aload_n 0, 1) := by decide +kernel
theorem dX3_init_62 : decode cX3_init 62 = .ok (.new 41, 3) := by decide +kernel
theorem dX3_init_65 : decode cX3_init 65 = .ok (.dup, 1) := by decide +kernel
theorem dX3_init_66 : decode cX3_init 66 = .ok (.bipush 60, 2) := by decide +kernel
theorem dX3_init_68 : decode cX3_init 68 = .ok (.newarray .int, 2) := by decide +kernel
theorem dX3_init_70 : decode cX3_init 70 = .ok (.sipush 872, 3) := by decide +kernel
theorem dX3_init_73 : decode cX3_init 73 = .ok (.newarray .int, 2) := by decide +kernel
theorem dX3_init_75 : decode cX3_init 75 = .ok (.invokespecial 43, 3) := by decide +kernel
theorem dX3_init_78 : decode cX3_init 78 = .ok (.putfield 46, 3) := by decide +kernel
theorem dX3_init_81 : decode cX3_init 81 = .ok (.return_, 1) := by decide +kernel
theorem dX3_reads_0 : decode cX3_reads 0 = .ok (.aload_n 0, 1) := by decide +kernel
theorem dX3_reads_1 : decode cX3_reads 1 = .ok (.aload_n 1, 1) := by decide +kernel
theorem dX3_reads_2 : decode cX3_reads 2 = .ok (.invokevirtual 50, 3) := by decide +kernel
theorem dX3_reads_5 : decode cX3_reads 5 = .ok (.aload_n 1, 1) := by decide +kernel
theorem dX3_reads_6 : decode cX3_reads 6 = .ok (.iconst 0, 1) := by decide +kernel
theorem dX3_reads_7 : decode cX3_reads 7 = .ok (.putfield 54, 3) := by decide +kernel
theorem dX3_reads_10 : decode cX3_reads 10 = .ok (.aload_n 0, 1) := by decide +kernel
theorem dX3_reads_11 : decode cX3_reads 11 = .ok (.iconst 0, 1) := by decide +kernel
theorem dX3_reads_12 : decode cX3_reads 12 = .ok (.putfield 25, 3) := by decide +kernel
theorem dX3_reads_15 : decode cX3_reads 15 = .ok (.aload_n 0, 1) := by decide +kernel
theorem dX3_reads_16 : decode cX3_reads 16 = .ok (.aload_n 0, 1) := by decide +kernel
theorem dX3_reads_17 : decode cX3_reads 17 = .ok (.getfield 9, 3) := by decide +kernel
theorem dX3_reads_20 : decode cX3_reads 20 = .ok (.iconst 0, 1) := by decide +kernel
theorem dX3_reads_21 : decode cX3_reads 21 = .ok (.iaload, 1) := by decide +kernel
theorem dX3_reads_22 : decode cX3_reads 22 = .ok (.putfield 28, 3) := by decide +kernel
theorem dX3_reads_25 : decode cX3_reads 25 = .ok (.aload_n 0, 1) := by decide +kernel
theorem dX3_reads_26 : decode cX3_reads 26 = .ok (.iconst 0, 1) := by decide +kernel
theorem dX3_reads_27 : decode cX3_reads 27 = .ok (.putfield 31, 3) := by decide +kernel
theorem dX3_reads_30 : decode cX3_reads 30 = .ok (.aload_n 0, 1) := by decide +kernel
theorem dX3_reads_31 : decode cX3_reads 31 = .ok (.iload_n 2, 1) := by decide +kernel
theorem dX3_reads_32 : decode cX3_reads 32 = .ok (.putfield 34, 3) := by decide +kernel
theorem dX3_reads_35 : decode cX3_reads 35 = .ok (.aload_n 0, 1) := by decide +kernel
theorem dX3_reads_36 : decode cX3_reads 36 = .ok (.getfield 46, 3) := by decide +kernel
theorem dX3_reads_39 : decode cX3_reads 39 = .ok (.iconst 0, 1) := by decide +kernel
theorem dX3_reads_40 : decode cX3_reads 40 = .ok (.putfield 59, 3) := by decide +kernel
theorem dX3_reads_43 : decode cX3_reads 43 = .ok (.aload_n 0, 1) := by decide +kernel
theorem dX3_reads_44 : decode cX3_reads 44 = .ok (.getfield 46, 3) := by decide +kernel
theorem dX3_reads_47 : decode cX3_reads 47 = .ok (.iconst 0, 1) := by decide +kernel
theorem dX3_reads_48 : decode cX3_reads 48 = .ok (.putfield 62, 3) := by decide +kernel
theorem dX3_reads_51 : decode cX3_reads 51 = .ok (.aload_n 0, 1) := by decide +kernel
theorem dX3_reads_52 : decode cX3_reads 52 = .ok (.invokevirtual 63, 3) := by decide +kernel
theorem dX3_reads_55 : decode cX3_reads 55 = .ok (.istore_n 3, 1) := by decide +kernel
theorem dX3_reads_56 : decode cX3_reads 56 = .ok (.iconst 1, 1) := by decide +kernel
theorem dX3_reads_57 : decode cX3_reads 57 = .ok (.istore 4, 2) := by decide +kernel
theorem dX3_reads_59 : decode cX3_reads 59 = .ok (.iload 4, 2) := by decide +kernel
theorem dX3_reads_61 : decode cX3_reads 61 = .ok (.bipush 12, 2) := by decide +kernel
theorem dX3_reads_63 : decode cX3_reads 63 = .ok (.if_icmp .gt 46, 3) := by decide +kernel
theorem dX3_reads_66 : decode cX3_reads 66 = .ok (.iload_n 3, 1) := by decide +kernel
theorem dX3_reads_67 : decode cX3_reads 67 = .ok (.ifCond .eq 42, 3) := by decide +kernel
theorem dX3_reads_70 : decode cX3_reads 70 = .ok (.aload_n 0, 1) := by decide +kernel
theorem dX3_reads_71 : decode cX3_reads 71 = .ok (.getfield 28, 3) := by decide +kernel
theorem dX3_reads_74 : decode cX3_reads 74 = .ok (.bipush 59, 2) := by decide +kernel
theorem dX3_reads_76 : decode cX3_reads 76 = .ok (.if_icmp .ne 33, 3) := by decide +kernel
theorem dX3_reads_79 : decode cX3_reads 79 = .ok (.aload_n 0, 1) := by decide +kernel
theorem dX3_reads_80 : decode cX3_reads 80 = .ok (.invokevirtual 67, 3) := by decide +kernel
theorem dX3_reads_83 : decode cX3_reads 83 = .ok (.iload 4, 2) := by decide +kernel
theorem dX3_reads_85 : decode cX3_reads 85 = .ok (.bipush 12, 2) := by decide +kernel
theorem dX3_reads_87 : decode cX3_reads 87 = .ok (.if_icmp .ge 14, 3) := by decide +kernel
theorem dX3_reads_90 : decode cX3_reads 90 = .ok (.aload_n 0, 1) := by decide +kernel
theorem dX3_reads_91 : decode cX3_reads 91 = .ok (.invokevirtual 63, 3) := by decide +kernel
theorem dX3_reads_94 : decode cX3_reads 94 = .ok (.ifCond .eq 7, 3) := by decide +kernel
theorem dX3_reads_97 : decode cX3_reads 97 = .ok (.iconst 1, 1) := by decide +kernel
theorem dX3_reads_98 : decode cX3_reads 98 = .ok (.goto 4, 3) := by decide +kernel
theorem dX3_reads_101 : decode cX3_reads 101 = .ok (.iconst 0, 1) := by decide +kernel
theorem dX3_reads_102 : decode cX3_reads 102 = .ok (.istore_n 3, 1) := by decide +kernel
theorem dX3_reads_103 : decode cX3_reads 103 = .ok (.iinc 4 1, 3) := by decide +kernel
theorem dX3_reads_106 : decode cX3_reads 106 = .ok (.goto (-47), 3) := by decide +kernel
theorem dX3_reads_109 : decode cX3_reads 109 = .ok (.iload_n 3, 1) := by decide +kernel
theorem dX3_reads_110 : decode cX3_reads 110 = .ok (.ifCond .eq 15, 3) := by decide +kernel
theorem dX3_reads_113 : decode cX3_reads 113 = .ok (.aload_n 0, 1) := by decide +kernel
theorem dX3_reads_114 : decode cX3_reads 114 = .ok (.getfield 28, 3) := by decide +kernel
theorem dX3_reads_117 : decode cX3_reads 117 = .ok (.iconst (-1), 1) := by decide +kernel
theorem dX3_reads_118 : decode cX3_reads 118 = .ok (.if_icmp .ne 7, 3) := by decide +kernel
theorem dX3_reads_121 : decode cX3_reads 121 = .ok (.iconst 1, 1) := by decide +kernel
theorem dX3_reads_122 : decode cX3_reads 122 = .ok (.goto 4, 3) := by decide +kernel
theorem dX3_reads_125 : decode cX3_reads 125 = .ok (.iconst 0, 1) := by decide +kernel
theorem dX3_reads_126 : decode cX3_reads 126 = .ok (.istore_n 3, 1) := by decide +kernel
theorem dX3_reads_127 : decode cX3_reads 127 = .ok (.aload_n 0, 1) := by decide +kernel
theorem dX3_reads_128 : decode cX3_reads 128 = .ok (.iload_n 3, 1) := by decide +kernel
theorem dX3_reads_129 : decode cX3_reads 129 = .ok (.ifCond .eq 7, 3) := by decide +kernel
theorem dX3_reads_132 : decode cX3_reads 132 = .ok (.iconst (-1), 1) := by decide +kernel
theorem dX3_reads_133 : decode cX3_reads 133 = .ok (.goto 12, 3) := by decide +kernel
theorem dX3_reads_136 : decode cX3_reads 136 = .ok (.aload_n 0, 1) := by decide +kernel
theorem dX3_reads_137 : decode cX3_reads 137 = .ok (.getfield 15, 3) := by decide +kernel
theorem dX3_reads_140 : decode cX3_reads 140 = .ok (.aload_n 0, 1) := by decide +kernel
theorem dX3_reads_141 : decode cX3_reads 141 = .ok (.getfield 25, 3) := by decide +kernel
theorem dX3_reads_144 : decode cX3_reads 144 = .ok (.iaload, 1) := by decide +kernel
theorem dX3_reads_145 : decode cX3_reads 145 = .ok (.putfield 38, 3) := by decide +kernel
theorem dX3_reads_148 : decode cX3_reads 148 = .ok (.iload_n 3, 1) := by decide +kernel
theorem dX3_reads_149 : decode cX3_reads 149 = .ok (.ireturn, 1) := by decide +kernel
theorem dX3_split_0 : decode cX3_split 0 = .ok (.aload_n 0, 1) := by decide +kernel
theorem dX3_split_1 : decode cX3_split 1 = .ok (.iconst 0, 1) := by decide +kernel
theorem dX3_split_2 : decode cX3_split 2 = .ok (.putfield 21, 3) := by decide +kernel
theorem dX3_split_5 : decode cX3_split 5 = .ok (.iconst 0, 1) := by decide +kernel
theorem dX3_split_6 : decode cX3_split 6 = .ok (.istore_n 2, 1) := by decide +kernel
theorem dX3_split_7 : decode cX3_split 7 = .ok (.iconst 0, 1) := by decide +kernel
theorem dX3_split_8 : decode cX3_split 8 = .ok (.istore_n 3, 1) := by decide +kernel
theorem dX3_split_9 : decode cX3_split 9 = .ok (.iload_n 3, 1) := by decide +kernel
theorem dX3_split_10 : decode cX3_split 10 = .ok (.sipush 400, 3) := by decide +kernel
theorem dX3_split_13 : decode cX3_split 13 = .ok (.if_icmp .ge 100, 3) := by decide +kernel
theorem dX3_split_16 : decode cX3_split 16 = .ok (.iload_n 2, 1) := by decide +kernel
theorem dX3_split_17 : decode cX3_split 17 = .ok (.aload_n 1, 1) := by decide +kernel
theorem dX3_split_18 : decode cX3_split 18 = .ok (.getfield 54, 3) := by decide +kernel
theorem dX3_split_21 : decode cX3_split 21 = .ok (.if_icmp .ge 92, 3) := by decide +kernel
theorem dX3_split_24 : decode cX3_split 24 = .ok (.aload_n 1, 1) := by decide +kernel
theorem dX3_split_25 : decode cX3_split 25 = .ok (.iload_n 2, 1) := by decide +kernel
theorem dX3_split_26 : decode cX3_split 26 = .ok (.invokestatic 70, 3) := by decide +kernel
theorem dX3_split_29 : decode cX3_split 29 = .ok (.istore 4, 2) := by decide +kernel
theorem dX3_split_31 : decode cX3_split 31 = .ok (.aload_n 1, 1) := by decide +kernel
theorem dX3_split_32 : decode cX3_split 32 = .ok (.getfield 74, 3) := by decide +kernel
theorem dX3_split_35 : decode cX3_split 35 = .ok (.iload_n 2, 1) := by decide +kernel
theorem dX3_split_36 : decode cX3_split 36 = .ok (.iaload, 1) := by decide +kernel
theorem dX3_split_37 : decode cX3_split 37 = .ok (.istore 5, 2) := by decide +kernel
theorem dX3_split_39 : decode cX3_split 39 = .ok (.iload 5, 2) := by decide +kernel
theorem dX3_split_41 : decode cX3_split 41 = .ok (.invokestatic 77, 3) := by decide +kernel
theorem dX3_split_44 : decode cX3_split 44 = .ok (.ifCond .eq 19, 3) := by decide +kernel
theorem dX3_split_47 : decode cX3_split 47 = .ok (.aload_n 0, 1) := by decide +kernel
theorem dX3_split_48 : decode cX3_split 48 = .ok (.aload_n 1, 1) := by decide +kernel
theorem dX3_split_49 : decode cX3_split 49 = .ok (.iload_n 2, 1) := by decide +kernel
theorem dX3_split_50 : decode cX3_split 50 = .ok (.iload 4, 2) := by decide +kernel
theorem dX3_split_52 : decode cX3_split 52 = .ok (.invokestatic 81, 3) := by decide +kernel
theorem dX3_split_55 : decode cX3_split 55 = .ok (.iload_n 2, 1) := by decide +kernel
theorem dX3_split_56 : decode cX3_split 56 = .ok (.iconst 0, 1) := by decide +kernel
theorem dX3_split_57 : decode cX3_split 57 = .ok (.invokevirtual 85, 3) := by decide +kernel
theorem dX3_split_60 : decode cX3_split 60 = .ok (.goto 44, 3) := by decide +kernel
theorem dX3_split_63 : decode cX3_split 63 = .ok (.iload 5, 2) := by decide +kernel
theorem dX3_split_65 : decode cX3_split 65 = .ok (.invokestatic 89, 3) := by decide +kernel
theorem dX3_split_68 : decode cX3_split 68 = .ok (.ifCond .eq 21, 3) := by decide +kernel
theorem dX3_split_71 : decode cX3_split 71 = .ok (.aload_n 0, 1) := by decide +kernel
theorem dX3_split_72 : decode cX3_split 72 = .ok (.sipush 256, 3) := by decide +kernel
theorem dX3_split_75 : decode cX3_split 75 = .ok (.iload_n 2, 1) := by decide +kernel
theorem dX3_split_76 : decode cX3_split 76 = .ok (.aload_n 1, 1) := by decide +kernel
theorem dX3_split_77 : decode cX3_split 77 = .ok (.iload_n 2, 1) := by decide +kernel
theorem dX3_split_78 : decode cX3_split 78 = .ok (.iload 4, 2) := by decide +kernel
theorem dX3_split_80 : decode cX3_split 80 = .ok (.invokestatic 92, 3) := by decide +kernel
theorem dX3_split_83 : decode cX3_split 83 = .ok (.invokevirtual 85, 3) := by decide +kernel
theorem dX3_split_86 : decode cX3_split 86 = .ok (.goto 18, 3) := by decide +kernel
theorem dX3_split_89 : decode cX3_split 89 = .ok (.iload 5, 2) := by decide +kernel
theorem dX3_split_91 : decode cX3_split 91 = .ok (.bipush 32, 2) := by decide +kernel
theorem dX3_split_93 : decode cX3_split 93 = .ok (.if_icmp .eq 11, 3) := by decide +kernel
theorem dX3_split_96 : decode cX3_split 96 = .ok (.aload_n 0, 1) := by decide +kernel
theorem dX3_split_97 : decode cX3_split 97 = .ok (.iload 5, 2) := by decide +kernel
theorem dX3_split_99 : decode cX3_split 99 = .ok (.iload_n 2, 1) := by decide +kernel
theorem dX3_split_100 : decode cX3_split 100 = .ok (.iconst 0, 1) := by decide +kernel
theorem dX3_split_101 : decode cX3_split 101 = .ok (.invokevirtual 85, 3) := by decide +kernel
theorem dX3_split_104 : decode cX3_split 104 = .ok (.iload 4, 2) := by decide +kernel
theorem dX3_split_106 : decode cX3_split 106 = .ok (.istore_n 2, 1) := by decide +kernel
theorem dX3_split_107 : decode cX3_split 107 = .ok (.iinc 3 1, 3) := by decide +kernel
theorem dX3_split_110 : decode cX3_split 110 = .ok (.goto (-101), 3) := by decide +kernel
theorem dX3_split_113 : decode cX3_split 113 = .ok (.aload_n 0, 1) := by decide +kernel
theorem dX3_split_114 : decode cX3_split 114 = .ok (.iconst (-1), 1) := by decide +kernel
theorem dX3_split_115 : decode cX3_split 115 = .ok (.aload_n 1, 1) := by decide +kernel
theorem dX3_split_116 : decode cX3_split 116 = .ok (.getfield 54, 3) := by decide +kernel
theorem dX3_split_119 : decode cX3_split 119 = .ok (.iconst 0, 1) := by decide +kernel
theorem dX3_split_120 : decode cX3_split 120 = .ok (.invokevirtual 85, 3) := by decide +kernel
theorem dX3_split_123 : decode cX3_split 123 = .ok (.return_, 1) := by decide +kernel
theorem dX3_note_0 : decode cX3_note 0 = .ok (.aload_n 0, 1) := by decide +kernel
theorem dX3_note_1 : decode cX3_note 1 = .ok (.getfield 21, 3) := by decide +kernel
theorem dX3_note_4 : decode cX3_note 4 = .ok (.sipush 400, 3) := by decide +kernel
theorem dX3_note_7 : decode cX3_note 7 = .ok (.if_icmp .le 4, 3) := by decide +kernel
theorem dX3_note_10 : decode cX3_note 10 = .ok (.return_, 1) := by decide +kernel
theorem dX3_note_11 : decode cX3_note 11 = .ok (.aload_n 0, 1) := by decide +kernel
theorem dX3_note_12 : decode cX3_note 12 = .ok (.getfield 9, 3) := by decide +kernel
theorem dX3_note_15 : decode cX3_note 15 = .ok (.aload_n 0, 1) := by decide +kernel
theorem dX3_note_16 : decode cX3_note 16 = .ok (.getfield 21, 3) := by decide +kernel
theorem dX3_note_19 : decode cX3_note 19 = .ok (.iload_n 1, 1) := by decide +kernel
theorem dX3_note_20 : decode cX3_note 20 = .ok (.iastore, 1) := by decide +kernel
theorem dX3_note_21 : decode cX3_note 21 = .ok (.aload_n 0, 1) := by decide +kernel
theorem dX3_note_22 : decode cX3_note 22 = .ok (.getfield 15, 3) := by decide +kernel
theorem dX3_note_25 : decode cX3_note 25 = .ok (.aload_n 0, 1) := by decide +kernel
theorem dX3_note_26 : decode cX3_note 26 = .ok (.getfield 21, 3) := by decide +kernel
theorem dX3_note_29 : decode cX3_note 29 = .ok (.iload_n 2, 1) := by decide +kernel
theorem dX3_note_30 : decode cX3_note 30 = .ok (.iastore, 1) := by decide +kernel
theorem dX3_note_31 : decode cX3_note 31 = .ok (.aload_n 0, 1) := by decide +kernel
theorem dX3_note_32 : decode cX3_note 32 = .ok (.getfield 18, 3) := by decide +kernel
theorem dX3_note_35 : decode cX3_note 35 = .ok (.aload_n 0, 1) := by decide +kernel
theorem dX3_note_36 : decode cX3_note 36 = .ok (.getfield 21, 3) := by decide +kernel
theorem dX3_note_39 : decode cX3_note 39 = .ok (.iload_n 3, 1) := by decide +kernel
theorem dX3_note_40 : decode cX3_note 40 = .ok (.iastore, 1) := by decide +kernel
theorem dX3_note_41 : decode cX3_note 41 = .ok (.aload_n 0, 1) := by decide +kernel
theorem dX3_note_42 : decode cX3_note 42 = .ok (.dup, 1) := by decide +kernel
theorem dX3_note_43 : decode cX3_note 43 = .ok (.getfield 21, 3) := by decide +kernel
theorem dX3_note_46 : decode cX3_note 46 = .ok (.iconst 1, 1) := by decide +kernel
theorem dX3_note_47 : decode cX3_note 47 = .ok (.iadd, 1) := by decide +kernel
theorem dX3_note_48 : decode cX3_note 48 = .ok (.putfield 21, 3) := by decide +kernel
theorem dX3_note_51 : decode cX3_note 51 = .ok (.return_, 1) := by decide +kernel
theorem dX3_isLetter_0 : decode cX3_isLetter 0 = .ok (.iload_n 0, 1) := by decide +kernel
theorem dX3_isLetter_1 : decode cX3_isLetter 1 = .ok (.bipush 97, 2) := by decide +kernel
theorem dX3_isLetter_3 : decode cX3_isLetter 3 = .ok (.if_icmp .lt 13, 3) := by decide +kernel
theorem dX3_isLetter_6 : decode cX3_isLetter 6 = .ok (.iload_n 0, 1) := by decide +kernel
theorem dX3_isLetter_7 : decode cX3_isLetter 7 = .ok (.bipush 122, 2) := by decide +kernel
theorem dX3_isLetter_9 : decode cX3_isLetter 9 = .ok (.if_icmp .gt 7, 3) := by decide +kernel
theorem dX3_isLetter_12 : decode cX3_isLetter 12 = .ok (.iconst 1, 1) := by decide +kernel
theorem dX3_isLetter_13 : decode cX3_isLetter 13 = .ok (.goto 4, 3) := by decide +kernel
theorem dX3_isLetter_16 : decode cX3_isLetter 16 = .ok (.iconst 0, 1) := by decide +kernel
theorem dX3_isLetter_17 : decode cX3_isLetter 17 = .ok (.ireturn, 1) := by decide +kernel
theorem dX3_isDigit_0 : decode cX3_isDigit 0 = .ok (.iload_n 0, 1) := by decide +kernel
theorem dX3_isDigit_1 : decode cX3_isDigit 1 = .ok (.bipush 48, 2) := by decide +kernel
theorem dX3_isDigit_3 : decode cX3_isDigit 3 = .ok (.if_icmp .lt 13, 3) := by decide +kernel
theorem dX3_isDigit_6 : decode cX3_isDigit 6 = .ok (.iload_n 0, 1) := by decide +kernel
theorem dX3_isDigit_7 : decode cX3_isDigit 7 = .ok (.bipush 57, 2) := by decide +kernel
theorem dX3_isDigit_9 : decode cX3_isDigit 9 = .ok (.if_icmp .gt 7, 3) := by decide +kernel
theorem dX3_isDigit_12 : decode cX3_isDigit 12 = .ok (.iconst 1, 1) := by decide +kernel
theorem dX3_isDigit_13 : decode cX3_isDigit 13 = .ok (.goto 4, 3) := by decide +kernel
theorem dX3_isDigit_16 : decode cX3_isDigit 16 = .ok (.iconst 0, 1) := by decide +kernel
theorem dX3_isDigit_17 : decode cX3_isDigit 17 = .ok (.ireturn, 1) := by decide +kernel
theorem dX3_endOf_0 : decode cX3_endOf 0 = .ok (.aload_n 0, 1) := by decide +kernel
theorem dX3_endOf_1 : decode cX3_endOf 1 = .ok (.getfield 74, 3) := by decide +kernel
theorem dX3_endOf_4 : decode cX3_endOf 4 = .ok (.iload_n 1, 1) := by decide +kernel
theorem dX3_endOf_5 : decode cX3_endOf 5 = .ok (.iaload, 1) := by decide +kernel
theorem dX3_endOf_6 : decode cX3_endOf 6 = .ok (.istore_n 2, 1) := by decide +kernel
theorem dX3_endOf_7 : decode cX3_endOf 7 = .ok (.iload_n 1, 1) := by decide +kernel
theorem dX3_endOf_8 : decode cX3_endOf 8 = .ok (.iconst 1, 1) := by decide +kernel
theorem dX3_endOf_9 : decode cX3_endOf 9 = .ok (.iadd, 1) := by decide +kernel
theorem dX3_endOf_10 : decode cX3_endOf 10 = .ok (.istore_n 3, 1) := by decide +kernel
theorem dX3_endOf_11 : decode cX3_endOf 11 = .ok (.iload_n 2, 1) := by decide +kernel
theorem dX3_endOf_12 : decode cX3_endOf 12 = .ok (.invokestatic 77, 3) := by decide +kernel
theorem dX3_endOf_15 : decode cX3_endOf 15 = .ok (.ifCond .eq 29, 3) := by decide +kernel
theorem dX3_endOf_18 : decode cX3_endOf 18 = .ok (.iload_n 3, 1) := by decide +kernel
theorem dX3_endOf_19 : decode cX3_endOf 19 = .ok (.aload_n 0, 1) := by decide +kernel
theorem dX3_endOf_20 : decode cX3_endOf 20 = .ok (.getfield 54, 3) := by decide +kernel
theorem dX3_endOf_23 : decode cX3_endOf 23 = .ok (.if_icmp .ge 54, 3) := by decide +kernel
theorem dX3_endOf_26 : decode cX3_endOf 26 = .ok (.aload_n 0, 1) := by decide +kernel
theorem dX3_endOf_27 : decode cX3_endOf 27 = .ok (.getfield 74, 3) := by decide +kernel
theorem dX3_endOf_30 : decode cX3_endOf 30 = .ok (.iload_n 3, 1) := by decide +kernel
theorem dX3_endOf_31 : decode cX3_endOf 31 = .ok (.iaload, 1) := by decide +kernel
theorem dX3_endOf_32 : decode cX3_endOf 32 = .ok (.invokestatic 77, 3) := by decide +kernel
theorem dX3_endOf_35 : decode cX3_endOf 35 = .ok (.ifCond .eq 42, 3) := by decide +kernel
theorem dX3_endOf_38 : decode cX3_endOf 38 = .ok (.iinc 3 1, 3) := by decide +kernel
theorem dX3_endOf_41 : decode cX3_endOf 41 = .ok (.goto (-23), 3) := by decide +kernel
theorem dX3_endOf_44 : decode cX3_endOf 44 = .ok (.iload_n 2, 1) := by decide +kernel
theorem dX3_endOf_45 : decode cX3_endOf 45 = .ok (.invokestatic 89, 3) := by decide +kernel
theorem dX3_endOf_48 : decode cX3_endOf 48 = .ok (.ifCond .eq 29, 3) := by decide +kernel
theorem dX3_endOf_51 : decode cX3_endOf 51 = .ok (.iload_n 3, 1) := by decide +kernel
theorem dX3_endOf_52 : decode cX3_endOf 52 = .ok (.aload_n 0, 1) := by decide +kernel
theorem dX3_endOf_53 : decode cX3_endOf 53 = .ok (.getfield 54, 3) := by decide +kernel
theorem dX3_endOf_56 : decode cX3_endOf 56 = .ok (.if_icmp .ge 21, 3) := by decide +kernel
theorem dX3_endOf_59 : decode cX3_endOf 59 = .ok (.aload_n 0, 1) := by decide +kernel
theorem dX3_endOf_60 : decode cX3_endOf 60 = .ok (.getfield 74, 3) := by decide +kernel
theorem dX3_endOf_63 : decode cX3_endOf 63 = .ok (.iload_n 3, 1) := by decide +kernel
theorem dX3_endOf_64 : decode cX3_endOf 64 = .ok (.iaload, 1) := by decide +kernel
theorem dX3_endOf_65 : decode cX3_endOf 65 = .ok (.invokestatic 89, 3) := by decide +kernel
theorem dX3_endOf_68 : decode cX3_endOf 68 = .ok (.ifCond .eq 9, 3) := by decide +kernel
theorem dX3_endOf_71 : decode cX3_endOf 71 = .ok (.iinc 3 1, 3) := by decide +kernel
theorem dX3_endOf_74 : decode cX3_endOf 74 = .ok (.goto (-23), 3) := by decide +kernel
theorem dX3_endOf_77 : decode cX3_endOf 77 = .ok (.iload_n 3, 1) := by decide +kernel
theorem dX3_endOf_78 : decode cX3_endOf 78 = .ok (.ireturn, 1) := by decide +kernel
theorem dX3_numberIn_0 : decode cX3_numberIn 0 = .ok (.iconst 0, 1) := by decide +kernel
theorem dX3_numberIn_1 : decode cX3_numberIn 1 = .ok (.istore_n 3, 1) := by decide +kernel
theorem dX3_numberIn_2 : decode cX3_numberIn 2 = .ok (.iload_n 1, 1) := by decide +kernel
theorem dX3_numberIn_3 : decode cX3_numberIn 3 = .ok (.istore 4, 2) := by decide +kernel
theorem dX3_numberIn_5 : decode cX3_numberIn 5 = .ok (.iload 4, 2) := by decide +kernel
theorem dX3_numberIn_7 : decode cX3_numberIn 7 = .ok (.iload_n 2, 1) := by decide +kernel
theorem dX3_numberIn_8 : decode cX3_numberIn 8 = .ok (.if_icmp .ge 30, 3) := by decide +kernel
theorem dX3_numberIn_11 : decode cX3_numberIn 11 = .ok (.iload_n 3, 1) := by decide +kernel
theorem dX3_numberIn_12 : decode cX3_numberIn 12 = .ok (.bipush 10, 2) := by decide +kernel
theorem dX3_numberIn_14 : decode cX3_numberIn 14 = .ok (.imul, 1) := by decide +kernel
theorem dX3_numberIn_15 : decode cX3_numberIn 15 = .ok (.aload_n 0, 1) := by decide +kernel
theorem dX3_numberIn_16 : decode cX3_numberIn 16 = .ok (.getfield 74, 3) := by decide +kernel
theorem dX3_numberIn_19 : decode cX3_numberIn 19 = .ok (.iload 4, 2) := by decide +kernel
theorem dX3_numberIn_21 : decode cX3_numberIn 21 = .ok (.iaload, 1) := by decide +kernel
theorem dX3_numberIn_22 : decode cX3_numberIn 22 = .ok (.iadd, 1) := by decide +kernel
theorem dX3_numberIn_23 : decode cX3_numberIn 23 = .ok (.bipush 48, 2) := by decide +kernel
theorem dX3_numberIn_25 : decode cX3_numberIn 25 = .ok (.isub, 1) := by decide +kernel
theorem dX3_numberIn_26 : decode cX3_numberIn 26 = .ok (.ldc 95, 2) := by decide +kernel
theorem dX3_numberIn_28 : decode cX3_numberIn 28 = .ok (.invokestatic 96, 3) := by decide +kernel
theorem dX3_numberIn_31 : decode cX3_numberIn 31 = .ok (.istore_n 3, 1) := by decide +kernel
theorem dX3_numberIn_32 : decode cX3_numberIn 32 = .ok (.iinc 4 1, 3) := by decide +kernel
theorem dX3_numberIn_35 : decode cX3_numberIn 35 = .ok (.goto (-30), 3) := by decide +kernel
theorem dX3_numberIn_38 : decode cX3_numberIn 38 = .ok (.iload_n 3, 1) := by decide +kernel
theorem dX3_numberIn_39 : decode cX3_numberIn 39 = .ok (.ireturn, 1) := by decide +kernel
theorem dX3_wordIn_0 : decode cX3_wordIn 0 = .ok (.iconst 0, 1) := by decide +kernel
theorem dX3_wordIn_1 : decode cX3_wordIn 1 = .ok (.istore_n 3, 1) := by decide +kernel
theorem dX3_wordIn_2 : decode cX3_wordIn 2 = .ok (.iconst 0, 1) := by decide +kernel
theorem dX3_wordIn_3 : decode cX3_wordIn 3 = .ok (.istore 4, 2) := by decide +kernel
theorem dX3_wordIn_5 : decode cX3_wordIn 5 = .ok (.iconst 1, 1) := by decide +kernel
theorem dX3_wordIn_6 : decode cX3_wordIn 6 = .ok (.istore 5, 2) := by decide +kernel
theorem dX3_wordIn_8 : decode cX3_wordIn 8 = .ok (.iconst 0, 1) := by decide +kernel
theorem dX3_wordIn_9 : decode cX3_wordIn 9 = .ok (.istore 6, 2) := by decide +kernel
theorem dX3_wordIn_11 : decode cX3_wordIn 11 = .ok (.iload 6, 2) := by decide +kernel
theorem dX3_wordIn_13 : decode cX3_wordIn 13 = .ok (.ldc 102, 2) := by decide +kernel
theorem dX3_wordIn_15 : decode cX3_wordIn 15 = .ok (.invokevirtual 104, 3) := by decide +kernel
theorem dX3_wordIn_18 : decode cX3_wordIn 18 = .ok (.if_icmp .ge 93, 3) := by decide +kernel
theorem dX3_wordIn_21 : decode cX3_wordIn 21 = .ok (.ldc 102, 2) := by decide +kernel
theorem dX3_wordIn_23 : decode cX3_wordIn 23 = .ok (.iload 6, 2) := by decide +kernel
theorem dX3_wordIn_25 : decode cX3_wordIn 25 = .ok (.invokevirtual 109, 3) := by decide +kernel
theorem dX3_wordIn_28 : decode cX3_wordIn 28 = .ok (.istore 7, 2) := by decide +kernel
theorem dX3_wordIn_30 : decode cX3_wordIn 30 = .ok (.iload 7, 2) := by decide +kernel
theorem dX3_wordIn_32 : decode cX3_wordIn 32 = .ok (.bipush 32, 2) := by decide +kernel
theorem dX3_wordIn_34 : decode cX3_wordIn 34 = .ok (.if_icmp .ne 34, 3) := by decide +kernel
theorem dX3_wordIn_37 : decode cX3_wordIn 37 = .ok (.iload 5, 2) := by decide +kernel
theorem dX3_wordIn_39 : decode cX3_wordIn 39 = .ok (.ifCond .eq 17, 3) := by decide +kernel
theorem dX3_wordIn_42 : decode cX3_wordIn 42 = .ok (.iload_n 1, 1) := by decide +kernel
theorem dX3_wordIn_43 : decode cX3_wordIn 43 = .ok (.iload 4, 2) := by decide +kernel
theorem dX3_wordIn_45 : decode cX3_wordIn 45 = .ok (.iadd, 1) := by decide +kernel
theorem dX3_wordIn_46 : decode cX3_wordIn 46 = .ok (.iload_n 2, 1) := by decide +kernel
theorem dX3_wordIn_47 : decode cX3_wordIn 47 = .ok (.if_icmp .ne 9, 3) := by decide +kernel
theorem dX3_wordIn_50 : decode cX3_wordIn 50 = .ok (.sipush 258, 3) := by decide +kernel
theorem dX3_wordIn_53 : decode cX3_wordIn 53 = .ok (.iload_n 3, 1) := by decide +kernel
theorem dX3_wordIn_54 : decode cX3_wordIn 54 = .ok (.iadd, 1) := by decide +kernel
theorem dX3_wordIn_55 : decode cX3_wordIn 55 = .ok (.ireturn, 1) := by decide +kernel
theorem dX3_wordIn_56 : decode cX3_wordIn 56 = .ok (.iinc 3 1, 3) := by decide +kernel
theorem dX3_wordIn_59 : decode cX3_wordIn 59 = .ok (.iconst 0, 1) := by decide +kernel
theorem dX3_wordIn_60 : decode cX3_wordIn 60 = .ok (.istore 4, 2) := by decide +kernel
theorem dX3_wordIn_62 : decode cX3_wordIn 62 = .ok (.iconst 1, 1) := by decide +kernel
theorem dX3_wordIn_63 : decode cX3_wordIn 63 = .ok (.istore 5, 2) := by decide +kernel
theorem dX3_wordIn_65 : decode cX3_wordIn 65 = .ok (.goto 40, 3) := by decide +kernel
theorem dX3_wordIn_68 : decode cX3_wordIn 68 = .ok (.iload 5, 2) := by decide +kernel
theorem dX3_wordIn_70 : decode cX3_wordIn 70 = .ok (.ifCond .eq 29, 3) := by decide +kernel
theorem dX3_wordIn_73 : decode cX3_wordIn 73 = .ok (.iload_n 1, 1) := by decide +kernel
theorem dX3_wordIn_74 : decode cX3_wordIn 74 = .ok (.iload 4, 2) := by decide +kernel
theorem dX3_wordIn_76 : decode cX3_wordIn 76 = .ok (.iadd, 1) := by decide +kernel
theorem dX3_wordIn_77 : decode cX3_wordIn 77 = .ok (.iload_n 2, 1) := by decide +kernel
theorem dX3_wordIn_78 : decode cX3_wordIn 78 = .ok (.if_icmp .ge 21, 3) := by decide +kernel
theorem dX3_wordIn_81 : decode cX3_wordIn 81 = .ok (.aload_n 0, 1) := by decide +kernel
theorem dX3_wordIn_82 : decode cX3_wordIn 82 = .ok (.getfield 74, 3) := by decide +kernel
theorem dX3_wordIn_85 : decode cX3_wordIn 85 = .ok (.iload_n 1, 1) := by decide +kernel
theorem dX3_wordIn_86 : decode cX3_wordIn 86 = .ok (.iload 4, 2) := by decide +kernel
theorem dX3_wordIn_88 : decode cX3_wordIn 88 = .ok (.iadd, 1) := by decide +kernel
theorem dX3_wordIn_89 : decode cX3_wordIn 89 = .ok (.iaload, 1) := by decide +kernel
theorem dX3_wordIn_90 : decode cX3_wordIn 90 = .ok (.iload 7, 2) := by decide +kernel
theorem dX3_wordIn_92 : decode cX3_wordIn 92 = .ok (.if_icmp .ne 7, 3) := by decide +kernel
theorem dX3_wordIn_95 : decode cX3_wordIn 95 = .ok (.iconst 1, 1) := by decide +kernel
theorem dX3_wordIn_96 : decode cX3_wordIn 96 = .ok (.goto 4, 3) := by decide +kernel
theorem dX3_wordIn_99 : decode cX3_wordIn 99 = .ok (.iconst 0, 1) := by decide +kernel
theorem dX3_wordIn_100 : decode cX3_wordIn 100 = .ok (.istore 5, 2) := by decide +kernel
theorem dX3_wordIn_102 : decode cX3_wordIn 102 = .ok (.iinc 4 1, 3) := by decide +kernel
theorem dX3_wordIn_105 : decode cX3_wordIn 105 = .ok (.iinc 6 1, 3) := by decide +kernel
theorem dX3_wordIn_108 : decode cX3_wordIn 108 = .ok (.goto (-97), 3) := by decide +kernel
theorem dX3_wordIn_111 : decode cX3_wordIn 111 = .ok (.sipush 257, 3) := by decide +kernel
theorem dX3_wordIn_114 : decode cX3_wordIn 114 = .ok (.ireturn, 1) := by decide +kernel
theorem dX3_advance_0 : decode cX3_advance 0 = .ok (.aload_n 0, 1) := by decide +kernel
theorem dX3_advance_1 : decode cX3_advance 1 = .ok (.getfield 25, 3) := by decide +kernel
theorem dX3_advance_4 : decode cX3_advance 4 = .ok (.iconst 1, 1) := by decide +kernel
theorem dX3_advance_5 : decode cX3_advance 5 = .ok (.iadd, 1) := by decide +kernel
theorem dX3_advance_6 : decode cX3_advance 6 = .ok (.aload_n 0, 1) := by decide +kernel
theorem dX3_advance_7 : decode cX3_advance 7 = .ok (.getfield 21, 3) := by decide +kernel
theorem dX3_advance_10 : decode cX3_advance 10 = .ok (.if_icmp .lt 4, 3) := by decide +kernel
theorem dX3_advance_13 : decode cX3_advance 13 = .ok (.return_, 1) := by decide +kernel
theorem dX3_advance_14 : decode cX3_advance 14 = .ok (.aload_n 0, 1) := by decide +kernel
theorem dX3_advance_15 : decode cX3_advance 15 = .ok (.dup, 1) := by decide +kernel
theorem dX3_advance_16 : decode cX3_advance 16 = .ok (.getfield 25, 3) := by decide +kernel
theorem dX3_advance_19 : decode cX3_advance 19 = .ok (.iconst 1, 1) := by decide +kernel
theorem dX3_advance_20 : decode cX3_advance 20 = .ok (.iadd, 1) := by decide +kernel
theorem dX3_advance_21 : decode cX3_advance 21 = .ok (.putfield 25, 3) := by decide +kernel
theorem dX3_advance_24 : decode cX3_advance 24 = .ok (.aload_n 0, 1) := by decide +kernel
theorem dX3_advance_25 : decode cX3_advance 25 = .ok (.aload_n 0, 1) := by decide +kernel
theorem dX3_advance_26 : decode cX3_advance 26 = .ok (.getfield 9, 3) := by decide +kernel
theorem dX3_advance_29 : decode cX3_advance 29 = .ok (.aload_n 0, 1) := by decide +kernel
theorem dX3_advance_30 : decode cX3_advance 30 = .ok (.getfield 25, 3) := by decide +kernel
theorem dX3_advance_33 : decode cX3_advance 33 = .ok (.iaload, 1) := by decide +kernel
theorem dX3_advance_34 : decode cX3_advance 34 = .ok (.putfield 28, 3) := by decide +kernel
theorem dX3_advance_37 : decode cX3_advance 37 = .ok (.return_, 1) := by decide +kernel
theorem dX3_numberFrom_0 : decode cX3_numberFrom 0 = .ok (.aload_n 0, 1) := by decide +kernel
theorem dX3_numberFrom_1 : decode cX3_numberFrom 1 = .ok (.getfield 28, 3) := by decide +kernel
theorem dX3_numberFrom_4 : decode cX3_numberFrom 4 = .ok (.sipush 256, 3) := by decide +kernel
theorem dX3_numberFrom_7 : decode cX3_numberFrom 7 = .ok (.if_icmp .ne 41, 3) := by decide +kernel
theorem dX3_numberFrom_10 : decode cX3_numberFrom 10 = .ok (.aload_n 0, 1) := by decide +kernel
theorem dX3_numberFrom_11 : decode cX3_numberFrom 11 = .ok (.getfield 18, 3) := by decide +kernel
theorem dX3_numberFrom_14 : decode cX3_numberFrom 14 = .ok (.aload_n 0, 1) := by decide +kernel
theorem dX3_numberFrom_15 : decode cX3_numberFrom 15 = .ok (.getfield 25, 3) := by decide +kernel
theorem dX3_numberFrom_18 : decode cX3_numberFrom 18 = .ok (.iaload, 1) := by decide +kernel
theorem dX3_numberFrom_19 : decode cX3_numberFrom 19 = .ok (.iload_n 1, 1) := by decide +kernel
theorem dX3_numberFrom_20 : decode cX3_numberFrom 20 = .ok (.if_icmp .lt 28, 3) := by decide +kernel
theorem dX3_numberFrom_23 : decode cX3_numberFrom 23 = .ok (.aload_n 0, 1) := by decide +kernel
theorem dX3_numberFrom_24 : decode cX3_numberFrom 24 = .ok (.getfield 18, 3) := by decide +kernel
theorem dX3_numberFrom_27 : decode cX3_numberFrom 27 = .ok (.aload_n 0, 1) := by decide +kernel
theorem dX3_numberFrom_28 : decode cX3_numberFrom 28 = .ok (.getfield 25, 3) := by decide +kernel
theorem dX3_numberFrom_31 : decode cX3_numberFrom 31 = .ok (.iaload, 1) := by decide +kernel
theorem dX3_numberFrom_32 : decode cX3_numberFrom 32 = .ok (.iload_n 2, 1) := by decide +kernel
theorem dX3_numberFrom_33 : decode cX3_numberFrom 33 = .ok (.if_icmp .gt 15, 3) := by decide +kernel
theorem dX3_numberFrom_36 : decode cX3_numberFrom 36 = .ok (.aload_n 0, 1) := by decide +kernel
theorem dX3_numberFrom_37 : decode cX3_numberFrom 37 = .ok (.getfield 18, 3) := by decide +kernel
theorem dX3_numberFrom_40 : decode cX3_numberFrom 40 = .ok (.aload_n 0, 1) := by decide +kernel
theorem dX3_numberFrom_41 : decode cX3_numberFrom 41 = .ok (.getfield 25, 3) := by decide +kernel
theorem dX3_numberFrom_44 : decode cX3_numberFrom 44 = .ok (.iaload, 1) := by decide +kernel
theorem dX3_numberFrom_45 : decode cX3_numberFrom 45 = .ok (.goto 4, 3) := by decide +kernel
theorem dX3_numberFrom_48 : decode cX3_numberFrom 48 = .ok (.iconst (-1), 1) := by decide +kernel
theorem dX3_numberFrom_49 : decode cX3_numberFrom 49 = .ok (.ireturn, 1) := by decide +kernel
theorem dX3_clause_0 : decode cX3_clause 0 = .ok (.aload_n 0, 1) := by decide +kernel
theorem dX3_clause_1 : decode cX3_clause 1 = .ok (.getfield 34, 3) := by decide +kernel
theorem dX3_clause_4 : decode cX3_clause 4 = .ok (.ifCond .eq 17, 3) := by decide +kernel
theorem dX3_clause_7 : decode cX3_clause 7 = .ok (.aload_n 0, 1) := by decide +kernel
theorem dX3_clause_8 : decode cX3_clause 8 = .ok (.getfield 28, 3) := by decide +kernel
theorem dX3_clause_11 : decode cX3_clause 11 = .ok (.sipush 258, 3) := by decide +kernel
theorem dX3_clause_14 : decode cX3_clause 14 = .ok (.isub, 1) := by decide +kernel
theorem dX3_clause_15 : decode cX3_clause 15 = .ok (.invokestatic 113, 3) := by decide +kernel
theorem dX3_clause_18 : decode cX3_clause 18 = .ok (.goto 14, 3) := by decide +kernel
theorem dX3_clause_21 : decode cX3_clause 21 = .ok (.aload_n 0, 1) := by decide +kernel
theorem dX3_clause_22 : decode cX3_clause 22 = .ok (.getfield 28, 3) := by decide +kernel
theorem dX3_clause_25 : decode cX3_clause 25 = .ok (.sipush 258, 3) := by decide +kernel
theorem dX3_clause_28 : decode cX3_clause 28 = .ok (.isub, 1) := by decide +kernel
theorem dX3_clause_29 : decode cX3_clause 29 = .ok (.invokestatic 117, 3) := by decide +kernel
theorem dX3_clause_32 : decode cX3_clause 32 = .ok (.istore_n 1, 1) := by decide +kernel
theorem dX3_clause_33 : decode cX3_clause 33 = .ok (.iload_n 1, 1) := by decide +kernel
theorem dX3_clause_34 : decode cX3_clause 34 = .ok (.iconst (-1), 1) := by decide +kernel
theorem dX3_clause_35 : decode cX3_clause 35 = .ok (.if_icmp .ne 5, 3) := by decide +kernel
theorem dX3_clause_38 : decode cX3_clause 38 = .ok (.iconst 0, 1) := by decide +kernel
theorem dX3_clause_39 : decode cX3_clause 39 = .ok (.ireturn, 1) := by decide +kernel
theorem dX3_clause_40 : decode cX3_clause 40 = .ok (.aload_n 0, 1) := by decide +kernel
theorem dX3_clause_41 : decode cX3_clause 41 = .ok (.invokevirtual 67, 3) := by decide +kernel
theorem dX3_clause_44 : decode cX3_clause 44 = .ok (.aload_n 0, 1) := by decide +kernel
theorem dX3_clause_45 : decode cX3_clause 45 = .ok (.getfield 46, 3) := by decide +kernel
theorem dX3_clause_48 : decode cX3_clause 48 = .ok (.iload_n 1, 1) := by decide +kernel
theorem dX3_clause_49 : decode cX3_clause 49 = .ok (.invokevirtual 120, 3) := by decide +kernel
theorem dX3_clause_52 : decode cX3_clause 52 = .ok (.aload_n 0, 1) := by decide +kernel
theorem dX3_clause_53 : decode cX3_clause 53 = .ok (.getfield 34, 3) := by decide +kernel
theorem dX3_clause_56 : decode cX3_clause 56 = .ok (.ifCond .eq 16, 3) := by decide +kernel
theorem dX3_clause_59 : decode cX3_clause 59 = .ok (.iload_n 1, 1) := by decide +kernel
theorem dX3_clause_60 : decode cX3_clause 60 = .ok (.iconst 4, 1) := by decide +kernel
theorem dX3_clause_61 : decode cX3_clause 61 = .ok (.if_icmp .eq 7, 3) := by decide +kernel
theorem dX3_clause_64 : decode cX3_clause 64 = .ok (.iconst 1, 1) := by decide +kernel
theorem dX3_clause_65 : decode cX3_clause 65 = .ok (.goto 21, 3) := by decide +kernel
theorem dX3_clause_68 : decode cX3_clause 68 = .ok (.iconst 0, 1) := by decide +kernel
theorem dX3_clause_69 : decode cX3_clause 69 = .ok (.goto 17, 3) := by decide +kernel
theorem dX3_clause_72 : decode cX3_clause 72 = .ok (.iload_n 1, 1) := by decide +kernel
theorem dX3_clause_73 : decode cX3_clause 73 = .ok (.ifCond .eq 8, 3) := by decide +kernel
theorem dX3_clause_76 : decode cX3_clause 76 = .ok (.iload_n 1, 1) := by decide +kernel
theorem dX3_clause_77 : decode cX3_clause 77 = .ok (.iconst 1, 1) := by decide +kernel
theorem dX3_clause_78 : decode cX3_clause 78 = .ok (.if_icmp .ne 7, 3) := by decide +kernel
theorem dX3_clause_81 : decode cX3_clause 81 = .ok (.iconst 1, 1) := by decide +kernel
theorem dX3_clause_82 : decode cX3_clause 82 = .ok (.goto 4, 3) := by decide +kernel
theorem dX3_clause_85 : decode cX3_clause 85 = .ok (.iconst 0, 1) := by decide +kernel
theorem dX3_clause_86 : decode cX3_clause 86 = .ok (.istore_n 2, 1) := by decide +kernel
theorem dX3_clause_87 : decode cX3_clause 87 = .ok (.iload_n 2, 1) := by decide +kernel
theorem dX3_clause_88 : decode cX3_clause 88 = .ok (.ifCond .eq 13, 3) := by decide +kernel
theorem dX3_clause_91 : decode cX3_clause 91 = .ok (.aload_n 0, 1) := by decide +kernel
theorem dX3_clause_92 : decode cX3_clause 92 = .ok (.iconst 1, 1) := by decide +kernel
theorem dX3_clause_93 : decode cX3_clause 93 = .ok (.invokevirtual 124, 3) := by decide +kernel
theorem dX3_clause_96 : decode cX3_clause 96 = .ok (.ifCond .ne 5, 3) := by decide +kernel
theorem dX3_clause_99 : decode cX3_clause 99 = .ok (.iconst 0, 1) := by decide +kernel
theorem dX3_clause_100 : decode cX3_clause 100 = .ok (.ireturn, 1) := by decide +kernel
theorem dX3_clause_101 : decode cX3_clause 101 = .ok (.aload_n 0, 1) := by decide +kernel
theorem dX3_clause_102 : decode cX3_clause 102 = .ok (.getfield 34, 3) := by decide +kernel
theorem dX3_clause_105 : decode cX3_clause 105 = .ok (.ifCond .eq 52, 3) := by decide +kernel
theorem dX3_clause_108 : decode cX3_clause 108 = .ok (.iload_n 1, 1) := by decide +kernel
theorem dX3_clause_109 : decode cX3_clause 109 = .ok (.iconst 1, 1) := by decide +kernel
theorem dX3_clause_110 : decode cX3_clause 110 = .ok (.if_icmp .eq 8, 3) := by decide +kernel
theorem dX3_clause_113 : decode cX3_clause 113 = .ok (.iload_n 1, 1) := by decide +kernel
theorem dX3_clause_114 : decode cX3_clause 114 = .ok (.iconst 3, 1) := by decide +kernel
theorem dX3_clause_115 : decode cX3_clause 115 = .ok (.if_icmp .ne 42, 3) := by decide +kernel
theorem dX3_clause_118 : decode cX3_clause 118 = .ok (.aload_n 0, 1) := by decide +kernel
theorem dX3_clause_119 : decode cX3_clause 119 = .ok (.getfield 28, 3) := by decide +kernel
theorem dX3_clause_122 : decode cX3_clause 122 = .ok (.sipush 258, 3) := by decide +kernel
theorem dX3_clause_125 : decode cX3_clause 125 = .ok (.isub, 1) := by decide +kernel
theorem dX3_clause_126 : decode cX3_clause 126 = .ok (.iload_n 1, 1) := by decide +kernel
theorem dX3_clause_127 : decode cX3_clause 127 = .ok (.iconst 1, 1) := by decide +kernel
theorem dX3_clause_128 : decode cX3_clause 128 = .ok (.if_icmp .ne 8, 3) := by decide +kernel
theorem dX3_clause_131 : decode cX3_clause 131 = .ok (.bipush 23, 2) := by decide +kernel
theorem dX3_clause_133 : decode cX3_clause 133 = .ok (.goto 5, 3) := by decide +kernel
theorem dX3_clause_136 : decode cX3_clause 136 = .ok (.bipush 24, 2) := by decide +kernel
theorem dX3_clause_138 : decode cX3_clause 138 = .ok (.if_icmp .eq 5, 3) := by decide +kernel
theorem dX3_clause_141 : decode cX3_clause 141 = .ok (.iconst 0, 1) := by decide +kernel
theorem dX3_clause_142 : decode cX3_clause 142 = .ok (.ireturn, 1) := by decide +kernel
theorem dX3_clause_143 : decode cX3_clause 143 = .ok (.aload_n 0, 1) := by decide +kernel
theorem dX3_clause_144 : decode cX3_clause 144 = .ok (.invokevirtual 67, 3) := by decide +kernel
theorem dX3_clause_147 : decode cX3_clause 147 = .ok (.aload_n 0, 1) := by decide +kernel
theorem dX3_clause_148 : decode cX3_clause 148 = .ok (.iconst 2, 1) := by decide +kernel
theorem dX3_clause_149 : decode cX3_clause 149 = .ok (.invokevirtual 124, 3) := by decide +kernel
theorem dX3_clause_152 : decode cX3_clause 152 = .ok (.ifCond .ne 5, 3) := by decide +kernel
theorem dX3_clause_155 : decode cX3_clause 155 = .ok (.iconst 0, 1) := by decide +kernel
theorem dX3_clause_156 : decode cX3_clause 156 = .ok (.ireturn, 1) := by decide +kernel
theorem dX3_clause_157 : decode cX3_clause 157 = .ok (.aload_n 0, 1) := by decide +kernel
theorem dX3_clause_158 : decode cX3_clause 158 = .ok (.getfield 34, 3) := by decide +kernel
theorem dX3_clause_161 : decode cX3_clause 161 = .ok (.ifCond .eq 48, 3) := by decide +kernel
theorem dX3_clause_164 : decode cX3_clause 164 = .ok (.aload_n 0, 1) := by decide +kernel
theorem dX3_clause_165 : decode cX3_clause 165 = .ok (.getfield 28, 3) := by decide +kernel
theorem dX3_clause_168 : decode cX3_clause 168 = .ok (.sipush 258, 3) := by decide +kernel
theorem dX3_clause_171 : decode cX3_clause 171 = .ok (.isub, 1) := by decide +kernel
theorem dX3_clause_172 : decode cX3_clause 172 = .ok (.bipush 25, 2) := by decide +kernel
theorem dX3_clause_174 : decode cX3_clause 174 = .ok (.if_icmp .ne 35, 3) := by decide +kernel
theorem dX3_clause_177 : decode cX3_clause 177 = .ok (.aload_n 0, 1) := by decide +kernel
theorem dX3_clause_178 : decode cX3_clause 178 = .ok (.invokevirtual 67, 3) := by decide +kernel
theorem dX3_clause_181 : decode cX3_clause 181 = .ok (.aload_n 0, 1) := by decide +kernel
theorem dX3_clause_182 : decode cX3_clause 182 = .ok (.iconst 1, 1) := by decide +kernel
theorem dX3_clause_183 : decode cX3_clause 183 = .ok (.bipush 20, 2) := by decide +kernel
theorem dX3_clause_185 : decode cX3_clause 185 = .ok (.invokevirtual 127, 3) := by decide +kernel
theorem dX3_clause_188 : decode cX3_clause 188 = .ok (.istore_n 3, 1) := by decide +kernel
theorem dX3_clause_189 : decode cX3_clause 189 = .ok (.iload_n 3, 1) := by decide +kernel
theorem dX3_clause_190 : decode cX3_clause 190 = .ok (.iconst (-1), 1) := by decide +kernel
theorem dX3_clause_191 : decode cX3_clause 191 = .ok (.if_icmp .ne 5, 3) := by decide +kernel
theorem dX3_clause_194 : decode cX3_clause 194 = .ok (.iconst 0, 1) := by decide +kernel
theorem dX3_clause_195 : decode cX3_clause 195 = .ok (.ireturn, 1) := by decide +kernel
theorem dX3_clause_196 : decode cX3_clause 196 = .ok (.aload_n 0, 1) := by decide +kernel
theorem dX3_clause_197 : decode cX3_clause 197 = .ok (.getfield 46, 3) := by decide +kernel
theorem dX3_clause_200 : decode cX3_clause 200 = .ok (.iconst 3, 1) := by decide +kernel
theorem dX3_clause_201 : decode cX3_clause 201 = .ok (.iload_n 3, 1) := by decide +kernel
theorem dX3_clause_202 : decode cX3_clause 202 = .ok (.invokevirtual 130, 3) := by decide +kernel
theorem dX3_clause_205 : decode cX3_clause 205 = .ok (.aload_n 0, 1) := by decide +kernel
theorem dX3_clause_206 : decode cX3_clause 206 = .ok (.invokevirtual 67, 3) := by decide +kernel
theorem dX3_clause_209 : decode cX3_clause 209 = .ok (.aload_n 0, 1) := by decide +kernel
theorem dX3_clause_210 : decode cX3_clause 210 = .ok (.getfield 28, 3) := by decide +kernel
theorem dX3_clause_213 : decode cX3_clause 213 = .ok (.sipush 258, 3) := by decide +kernel
theorem dX3_clause_216 : decode cX3_clause 216 = .ok (.isub, 1) := by decide +kernel
theorem dX3_clause_217 : decode cX3_clause 217 = .ok (.bipush 26, 2) := by decide +kernel
theorem dX3_clause_219 : decode cX3_clause 219 = .ok (.if_icmp .eq 5, 3) := by decide +kernel
theorem dX3_clause_222 : decode cX3_clause 222 = .ok (.iconst 1, 1) := by decide +kernel
theorem dX3_clause_223 : decode cX3_clause 223 = .ok (.ireturn, 1) := by decide +kernel
theorem dX3_clause_224 : decode cX3_clause 224 = .ok (.aload_n 0, 1) := by decide +kernel
theorem dX3_clause_225 : decode cX3_clause 225 = .ok (.invokevirtual 67, 3) := by decide +kernel
theorem dX3_clause_228 : decode cX3_clause 228 = .ok (.aload_n 0, 1) := by decide +kernel
theorem dX3_clause_229 : decode cX3_clause 229 = .ok (.getfield 46, 3) := by decide +kernel
theorem dX3_clause_232 : decode cX3_clause 232 = .ok (.iconst 4, 1) := by decide +kernel
theorem dX3_clause_233 : decode cX3_clause 233 = .ok (.aload_n 0, 1) := by decide +kernel
theorem dX3_clause_234 : decode cX3_clause 234 = .ok (.getfield 46, 3) := by decide +kernel
theorem dX3_clause_237 : decode cX3_clause 237 = .ok (.getfield 62, 3) := by decide +kernel
theorem dX3_clause_240 : decode cX3_clause 240 = .ok (.invokevirtual 130, 3) := by decide +kernel
theorem dX3_clause_243 : decode cX3_clause 243 = .ok (.aload_n 0, 1) := by decide +kernel
theorem dX3_clause_244 : decode cX3_clause 244 = .ok (.iconst 0, 1) := by decide +kernel
theorem dX3_clause_245 : decode cX3_clause 245 = .ok (.invokevirtual 134, 3) := by decide +kernel
theorem dX3_clause_248 : decode cX3_clause 248 = .ok (.istore_n 3, 1) := by decide +kernel
theorem dX3_clause_249 : decode cX3_clause 249 = .ok (.aload_n 0, 1) := by decide +kernel
theorem dX3_clause_250 : decode cX3_clause 250 = .ok (.getfield 46, 3) := by decide +kernel
theorem dX3_clause_253 : decode cX3_clause 253 = .ok (.iconst 0, 1) := by decide +kernel
theorem dX3_clause_254 : decode cX3_clause 254 = .ok (.iconst 0, 1) := by decide +kernel
theorem dX3_clause_255 : decode cX3_clause 255 = .ok (.invokevirtual 137, 3) := by decide +kernel
theorem dX3_clause_258 : decode cX3_clause 258 = .ok (.iload_n 3, 1) := by decide +kernel
theorem dX3_clause_259 : decode cX3_clause 259 = .ok (.ireturn, 1) := by decide +kernel
theorem dX3_lawVerb_0 : decode cX3_lawVerb 0 = .ok (.iload_n 0, 1) := by decide +kernel
theorem dX3_lawVerb_1 : decode cX3_lawVerb 1 = .ok (.bipush 15, 2) := by decide +kernel
theorem dX3_lawVerb_3 : decode cX3_lawVerb 3 = .ok (.if_icmp .lt 16, 3) := by decide +kernel
theorem dX3_lawVerb_6 : decode cX3_lawVerb 6 = .ok (.iload_n 0, 1) := by decide +kernel
theorem dX3_lawVerb_7 : decode cX3_lawVerb 7 = .ok (.bipush 18, 2) := by decide +kernel
theorem dX3_lawVerb_9 : decode cX3_lawVerb 9 = .ok (.if_icmp .gt 10, 3) := by decide +kernel
theorem dX3_lawVerb_12 : decode cX3_lawVerb 12 = .ok (.iload_n 0, 1) := by decide +kernel
theorem dX3_lawVerb_13 : decode cX3_lawVerb 13 = .ok (.bipush 15, 2) := by decide +kernel
theorem dX3_lawVerb_15 : decode cX3_lawVerb 15 = .ok (.isub, 1) := by decide +kernel
theorem dX3_lawVerb_16 : decode cX3_lawVerb 16 = .ok (.goto 4, 3) := by decide +kernel
theorem dX3_lawVerb_19 : decode cX3_lawVerb 19 = .ok (.iconst (-1), 1) := by decide +kernel
theorem dX3_lawVerb_20 : decode cX3_lawVerb 20 = .ok (.ireturn, 1) := by decide +kernel
theorem dX3_orderVerb_0 : decode cX3_orderVerb 0 = .ok (.iload_n 0, 1) := by decide +kernel
theorem dX3_orderVerb_1 : decode cX3_orderVerb 1 = .ok (.lookupswitch 61 #[(7, 55), (19, 51), (20, 53), (21, 57), (22, 59)], 51) := by decide +kernel
theorem dX3_orderVerb_52 : decode cX3_orderVerb 52 = .ok (.iconst 0, 1) := by decide +kernel
theorem dX3_orderVerb_53 : decode cX3_orderVerb 53 = .ok (.ireturn, 1) := by decide +kernel
theorem dX3_orderVerb_54 : decode cX3_orderVerb 54 = .ok (.iconst 1, 1) := by decide +kernel
theorem dX3_orderVerb_55 : decode cX3_orderVerb 55 = .ok (.ireturn, 1) := by decide +kernel
theorem dX3_orderVerb_56 : decode cX3_orderVerb 56 = .ok (.iconst 2, 1) := by decide +kernel
theorem dX3_orderVerb_57 : decode cX3_orderVerb 57 = .ok (.ireturn, 1) := by decide +kernel
theorem dX3_orderVerb_58 : decode cX3_orderVerb 58 = .ok (.iconst 3, 1) := by decide +kernel
theorem dX3_orderVerb_59 : decode cX3_orderVerb 59 = .ok (.ireturn, 1) := by decide +kernel
theorem dX3_orderVerb_60 : decode cX3_orderVerb 60 = .ok (.iconst 4, 1) := by decide +kernel
theorem dX3_orderVerb_61 : decode cX3_orderVerb 61 = .ok (.ireturn, 1) := by decide +kernel
theorem dX3_orderVerb_62 : decode cX3_orderVerb 62 = .ok (.iconst (-1), 1) := by decide +kernel
theorem dX3_orderVerb_63 : decode cX3_orderVerb 63 = .ok (.ireturn, 1) := by decide +kernel
theorem dX3_sumOf_0 : decode cX3_sumOf 0 = .ok (.aload_n 0, 1) := by decide +kernel
theorem dX3_sumOf_1 : decode cX3_sumOf 1 = .ok (.getfield 46, 3) := by decide +kernel
theorem dX3_sumOf_4 : decode cX3_sumOf 4 = .ok (.iload_n 1, 1) := by decide +kernel
theorem dX3_sumOf_5 : decode cX3_sumOf 5 = .ok (.aload_n 0, 1) := by decide +kernel
theorem dX3_sumOf_6 : decode cX3_sumOf 6 = .ok (.getfield 46, 3) := by decide +kernel
theorem dX3_sumOf_9 : decode cX3_sumOf 9 = .ok (.getfield 62, 3) := by decide +kernel
theorem dX3_sumOf_12 : decode cX3_sumOf 12 = .ok (.invokevirtual 130, 3) := by decide +kernel
theorem dX3_sumOf_15 : decode cX3_sumOf 15 = .ok (.aload_n 0, 1) := by decide +kernel
theorem dX3_sumOf_16 : decode cX3_sumOf 16 = .ok (.iconst 0, 1) := by decide +kernel
theorem dX3_sumOf_17 : decode cX3_sumOf 17 = .ok (.invokevirtual 140, 3) := by decide +kernel
theorem dX3_sumOf_20 : decode cX3_sumOf 20 = .ok (.istore_n 2, 1) := by decide +kernel
theorem dX3_sumOf_21 : decode cX3_sumOf 21 = .ok (.aload_n 0, 1) := by decide +kernel
theorem dX3_sumOf_22 : decode cX3_sumOf 22 = .ok (.getfield 46, 3) := by decide +kernel
theorem dX3_sumOf_25 : decode cX3_sumOf 25 = .ok (.iconst 0, 1) := by decide +kernel
theorem dX3_sumOf_26 : decode cX3_sumOf 26 = .ok (.iconst 0, 1) := by decide +kernel
theorem dX3_sumOf_27 : decode cX3_sumOf 27 = .ok (.invokevirtual 137, 3) := by decide +kernel
theorem dX3_sumOf_30 : decode cX3_sumOf 30 = .ok (.iload_n 2, 1) := by decide +kernel
theorem dX3_sumOf_31 : decode cX3_sumOf 31 = .ok (.ireturn, 1) := by decide +kernel
theorem dX3_test_0 : decode cX3_test 0 = .ok (.aload_n 0, 1) := by decide +kernel
theorem dX3_test_1 : decode cX3_test 1 = .ok (.iload_n 1, 1) := by decide +kernel
theorem dX3_test_2 : decode cX3_test 2 = .ok (.invokevirtual 143, 3) := by decide +kernel
theorem dX3_test_5 : decode cX3_test 5 = .ok (.istore_n 2, 1) := by decide +kernel
theorem dX3_test_6 : decode cX3_test 6 = .ok (.iconst (-1), 1) := by decide +kernel
theorem dX3_test_7 : decode cX3_test 7 = .ok (.istore_n 3, 1) := by decide +kernel
theorem dX3_test_8 : decode cX3_test 8 = .ok (.iconst 0, 1) := by decide +kernel
theorem dX3_test_9 : decode cX3_test 9 = .ok (.istore 4, 2) := by decide +kernel
theorem dX3_test_11 : decode cX3_test 11 = .ok (.iload 4, 2) := by decide +kernel
theorem dX3_test_13 : decode cX3_test 13 = .ok (.sipush 400, 3) := by decide +kernel
theorem dX3_test_16 : decode cX3_test 16 = .ok (.if_icmp .ge 131, 3) := by decide +kernel
theorem dX3_test_19 : decode cX3_test 19 = .ok (.iload_n 2, 1) := by decide +kernel
theorem dX3_test_20 : decode cX3_test 20 = .ok (.ifCond .eq 127, 3) := by decide +kernel
theorem dX3_test_23 : decode cX3_test 23 = .ok (.aload_n 0, 1) := by decide +kernel
theorem dX3_test_24 : decode cX3_test 24 = .ok (.getfield 28, 3) := by decide +kernel
theorem dX3_test_27 : decode cX3_test 27 = .ok (.sipush 258, 3) := by decide +kernel
theorem dX3_test_30 : decode cX3_test 30 = .ok (.isub, 1) := by decide +kernel
theorem dX3_test_31 : decode cX3_test 31 = .ok (.bipush 27, 2) := by decide +kernel
theorem dX3_test_33 : decode cX3_test 33 = .ok (.if_icmp .eq 16, 3) := by decide +kernel
theorem dX3_test_36 : decode cX3_test 36 = .ok (.aload_n 0, 1) := by decide +kernel
theorem dX3_test_37 : decode cX3_test 37 = .ok (.getfield 28, 3) := by decide +kernel
theorem dX3_test_40 : decode cX3_test 40 = .ok (.sipush 258, 3) := by decide +kernel
theorem dX3_test_43 : decode cX3_test 43 = .ok (.isub, 1) := by decide +kernel
theorem dX3_test_44 : decode cX3_test 44 = .ok (.bipush 28, 2) := by decide +kernel
theorem dX3_test_46 : decode cX3_test 46 = .ok (.if_icmp .ne 101, 3) := by decide +kernel
theorem dX3_test_49 : decode cX3_test 49 = .ok (.aload_n 0, 1) := by decide +kernel
theorem dX3_test_50 : decode cX3_test 50 = .ok (.getfield 28, 3) := by decide +kernel
theorem dX3_test_53 : decode cX3_test 53 = .ok (.sipush 258, 3) := by decide +kernel
theorem dX3_test_56 : decode cX3_test 56 = .ok (.isub, 1) := by decide +kernel
theorem dX3_test_57 : decode cX3_test 57 = .ok (.bipush 27, 2) := by decide +kernel
theorem dX3_test_59 : decode cX3_test 59 = .ok (.if_icmp .ne 7, 3) := by decide +kernel
theorem dX3_test_62 : decode cX3_test 62 = .ok (.iconst 1, 1) := by decide +kernel
theorem dX3_test_63 : decode cX3_test 63 = .ok (.goto 4, 3) := by decide +kernel
theorem dX3_test_66 : decode cX3_test 66 = .ok (.iconst 0, 1) := by decide +kernel
theorem dX3_test_67 : decode cX3_test 67 = .ok (.istore 5, 2) := by decide +kernel
theorem dX3_test_69 : decode cX3_test 69 = .ok (.aload_n 0, 1) := by decide +kernel
theorem dX3_test_70 : decode cX3_test 70 = .ok (.invokevirtual 67, 3) := by decide +kernel
theorem dX3_test_73 : decode cX3_test 73 = .ok (.iload 5, 2) := by decide +kernel
theorem dX3_test_75 : decode cX3_test 75 = .ok (.ifCond .eq 11, 3) := by decide +kernel
theorem dX3_test_78 : decode cX3_test 78 = .ok (.aload_n 0, 1) := by decide +kernel
theorem dX3_test_79 : decode cX3_test 79 = .ok (.getfield 46, 3) := by decide +kernel
theorem dX3_test_82 : decode cX3_test 82 = .ok (.iload_n 3, 1) := by decide +kernel
theorem dX3_test_83 : decode cX3_test 83 = .ok (.invokevirtual 146, 3) := by decide +kernel
theorem dX3_test_86 : decode cX3_test 86 = .ok (.aload_n 0, 1) := by decide +kernel
theorem dX3_test_87 : decode cX3_test 87 = .ok (.getfield 46, 3) := by decide +kernel
theorem dX3_test_90 : decode cX3_test 90 = .ok (.getfield 62, 3) := by decide +kernel
theorem dX3_test_93 : decode cX3_test 93 = .ok (.iconst 1, 1) := by decide +kernel
theorem dX3_test_94 : decode cX3_test 94 = .ok (.iadd, 1) := by decide +kernel
theorem dX3_test_95 : decode cX3_test 95 = .ok (.istore 6, 2) := by decide +kernel
theorem dX3_test_97 : decode cX3_test 97 = .ok (.aload_n 0, 1) := by decide +kernel
theorem dX3_test_98 : decode cX3_test 98 = .ok (.getfield 46, 3) := by decide +kernel
theorem dX3_test_101 : decode cX3_test 101 = .ok (.iload 5, 2) := by decide +kernel
theorem dX3_test_103 : decode cX3_test 103 = .ok (.ifCond .eq 7, 3) := by decide +kernel
theorem dX3_test_106 : decode cX3_test 106 = .ok (.iconst 4, 1) := by decide +kernel
theorem dX3_test_107 : decode cX3_test 107 = .ok (.goto 4, 3) := by decide +kernel
theorem dX3_test_110 : decode cX3_test 110 = .ok (.iconst 5, 1) := by decide +kernel
theorem dX3_test_111 : decode cX3_test 111 = .ok (.iconst 0, 1) := by decide +kernel
theorem dX3_test_112 : decode cX3_test 112 = .ok (.invokevirtual 137, 3) := by decide +kernel
theorem dX3_test_115 : decode cX3_test 115 = .ok (.aload_n 0, 1) := by decide +kernel
theorem dX3_test_116 : decode cX3_test 116 = .ok (.iload_n 1, 1) := by decide +kernel
theorem dX3_test_117 : decode cX3_test 117 = .ok (.invokevirtual 143, 3) := by decide +kernel
theorem dX3_test_120 : decode cX3_test 120 = .ok (.istore_n 2, 1) := by decide +kernel
theorem dX3_test_121 : decode cX3_test 121 = .ok (.iload 5, 2) := by decide +kernel
theorem dX3_test_123 : decode cX3_test 123 = .ok (.ifCond .eq 9, 3) := by decide +kernel
theorem dX3_test_126 : decode cX3_test 126 = .ok (.iload 6, 2) := by decide +kernel
theorem dX3_test_128 : decode cX3_test 128 = .ok (.istore_n 3, 1) := by decide +kernel
theorem dX3_test_129 : decode cX3_test 129 = .ok (.goto 12, 3) := by decide +kernel
theorem dX3_test_132 : decode cX3_test 132 = .ok (.aload_n 0, 1) := by decide +kernel
theorem dX3_test_133 : decode cX3_test 133 = .ok (.getfield 46, 3) := by decide +kernel
theorem dX3_test_136 : decode cX3_test 136 = .ok (.iload 6, 2) := by decide +kernel
theorem dX3_test_138 : decode cX3_test 138 = .ok (.invokevirtual 146, 3) := by decide +kernel
theorem dX3_test_141 : decode cX3_test 141 = .ok (.iinc 4 1, 3) := by decide +kernel
theorem dX3_test_144 : decode cX3_test 144 = .ok (.goto (-133), 3) := by decide +kernel
theorem dX3_test_147 : decode cX3_test 147 = .ok (.aload_n 0, 1) := by decide +kernel
theorem dX3_test_148 : decode cX3_test 148 = .ok (.getfield 46, 3) := by decide +kernel
theorem dX3_test_151 : decode cX3_test 151 = .ok (.iload_n 3, 1) := by decide +kernel
theorem dX3_test_152 : decode cX3_test 152 = .ok (.invokevirtual 146, 3) := by decide +kernel
theorem dX3_test_155 : decode cX3_test 155 = .ok (.iload_n 2, 1) := by decide +kernel
theorem dX3_test_156 : decode cX3_test 156 = .ok (.ireturn, 1) := by decide +kernel
theorem dX3_plain_0 : decode cX3_plain 0 = .ok (.iconst 0, 1) := by decide +kernel
theorem dX3_plain_1 : decode cX3_plain 1 = .ok (.istore_n 2, 1) := by decide +kernel
theorem dX3_plain_2 : decode cX3_plain 2 = .ok (.iconst 0, 1) := by decide +kernel
theorem dX3_plain_3 : decode cX3_plain 3 = .ok (.istore_n 3, 1) := by decide +kernel
theorem dX3_plain_4 : decode cX3_plain 4 = .ok (.iload_n 3, 1) := by decide +kernel
theorem dX3_plain_5 : decode cX3_plain 5 = .ok (.sipush 400, 3) := by decide +kernel
theorem dX3_plain_8 : decode cX3_plain 8 = .ok (.if_icmp .ge 36, 3) := by decide +kernel
theorem dX3_plain_11 : decode cX3_plain 11 = .ok (.aload_n 0, 1) := by decide +kernel
theorem dX3_plain_12 : decode cX3_plain 12 = .ok (.getfield 28, 3) := by decide +kernel
theorem dX3_plain_15 : decode cX3_plain 15 = .ok (.sipush 258, 3) := by decide +kernel
theorem dX3_plain_18 : decode cX3_plain 18 = .ok (.isub, 1) := by decide +kernel
theorem dX3_plain_19 : decode cX3_plain 19 = .ok (.bipush 29, 2) := by decide +kernel
theorem dX3_plain_21 : decode cX3_plain 21 = .ok (.if_icmp .ne 23, 3) := by decide +kernel
theorem dX3_plain_24 : decode cX3_plain 24 = .ok (.iload_n 2, 1) := by decide +kernel
theorem dX3_plain_25 : decode cX3_plain 25 = .ok (.ifCond .ne 7, 3) := by decide +kernel
theorem dX3_plain_28 : decode cX3_plain 28 = .ok (.iconst 1, 1) := by decide +kernel
theorem dX3_plain_29 : decode cX3_plain 29 = .ok (.goto 4, 3) := by decide +kernel
theorem dX3_plain_32 : decode cX3_plain 32 = .ok (.iconst 0, 1) := by decide +kernel
theorem dX3_plain_33 : decode cX3_plain 33 = .ok (.istore_n 2, 1) := by decide +kernel
theorem dX3_plain_34 : decode cX3_plain 34 = .ok (.aload_n 0, 1) := by decide +kernel
theorem dX3_plain_35 : decode cX3_plain 35 = .ok (.invokevirtual 67, 3) := by decide +kernel
theorem dX3_plain_38 : decode cX3_plain 38 = .ok (.iinc 3 1, 3) := by decide +kernel
theorem dX3_plain_41 : decode cX3_plain 41 = .ok (.goto (-37), 3) := by decide +kernel
theorem dX3_plain_44 : decode cX3_plain 44 = .ok (.aload_n 0, 1) := by decide +kernel
theorem dX3_plain_45 : decode cX3_plain 45 = .ok (.getfield 28, 3) := by decide +kernel
theorem dX3_plain_48 : decode cX3_plain 48 = .ok (.bipush 40, 2) := by decide +kernel
theorem dX3_plain_50 : decode cX3_plain 50 = .ok (.if_icmp .ne 43, 3) := by decide +kernel
theorem dX3_plain_53 : decode cX3_plain 53 = .ok (.iload_n 1, 1) := by decide +kernel
theorem dX3_plain_54 : decode cX3_plain 54 = .ok (.bipush 8, 2) := by decide +kernel
theorem dX3_plain_56 : decode cX3_plain 56 = .ok (.if_icmp .lt 5, 3) := by decide +kernel
theorem dX3_plain_59 : decode cX3_plain 59 = .ok (.iconst 0, 1) := by decide +kernel
theorem dX3_plain_60 : decode cX3_plain 60 = .ok (.ireturn, 1) := by decide +kernel
theorem dX3_plain_61 : decode cX3_plain 61 = .ok (.aload_n 0, 1) := by decide +kernel
theorem dX3_plain_62 : decode cX3_plain 62 = .ok (.invokevirtual 67, 3) := by decide +kernel
theorem dX3_plain_65 : decode cX3_plain 65 = .ok (.aload_n 0, 1) := by decide +kernel
theorem dX3_plain_66 : decode cX3_plain 66 = .ok (.iload_n 1, 1) := by decide +kernel
theorem dX3_plain_67 : decode cX3_plain 67 = .ok (.iconst 1, 1) := by decide +kernel
theorem dX3_plain_68 : decode cX3_plain 68 = .ok (.iadd, 1) := by decide +kernel
theorem dX3_plain_69 : decode cX3_plain 69 = .ok (.invokevirtual 134, 3) := by decide +kernel
theorem dX3_plain_72 : decode cX3_plain 72 = .ok (.ifCond .eq 12, 3) := by decide +kernel
theorem dX3_plain_75 : decode cX3_plain 75 = .ok (.aload_n 0, 1) := by decide +kernel
theorem dX3_plain_76 : decode cX3_plain 76 = .ok (.getfield 28, 3) := by decide +kernel
theorem dX3_plain_79 : decode cX3_plain 79 = .ok (.bipush 41, 2) := by decide +kernel
theorem dX3_plain_81 : decode cX3_plain 81 = .ok (.if_icmp .eq 5, 3) := by decide +kernel
theorem dX3_plain_84 : decode cX3_plain 84 = .ok (.iconst 0, 1) := by decide +kernel
theorem dX3_plain_85 : decode cX3_plain 85 = .ok (.ireturn, 1) := by decide +kernel
theorem dX3_plain_86 : decode cX3_plain 86 = .ok (.aload_n 0, 1) := by decide +kernel
theorem dX3_plain_87 : decode cX3_plain 87 = .ok (.invokevirtual 67, 3) := by decide +kernel
theorem dX3_plain_90 : decode cX3_plain 90 = .ok (.goto 61, 3) := by decide +kernel
theorem dX3_plain_93 : decode cX3_plain 93 = .ok (.aload_n 0, 1) := by decide +kernel
theorem dX3_plain_94 : decode cX3_plain 94 = .ok (.iload_n 1, 1) := by decide +kernel
theorem dX3_plain_95 : decode cX3_plain 95 = .ok (.invokevirtual 140, 3) := by decide +kernel
theorem dX3_plain_98 : decode cX3_plain 98 = .ok (.ifCond .ne 5, 3) := by decide +kernel
theorem dX3_plain_101 : decode cX3_plain 101 = .ok (.iconst 0, 1) := by decide +kernel
theorem dX3_plain_102 : decode cX3_plain 102 = .ok (.ireturn, 1) := by decide +kernel
theorem dX3_plain_103 : decode cX3_plain 103 = .ok (.aload_n 0, 1) := by decide +kernel
theorem dX3_plain_104 : decode cX3_plain 104 = .ok (.getfield 28, 3) := by decide +kernel
theorem dX3_plain_107 : decode cX3_plain 107 = .ok (.istore_n 3, 1) := by decide +kernel
theorem dX3_plain_108 : decode cX3_plain 108 = .ok (.iload_n 3, 1) := by decide +kernel
theorem dX3_plain_109 : decode cX3_plain 109 = .ok (.bipush 60, 2) := by decide +kernel
theorem dX3_plain_111 : decode cX3_plain 111 = .ok (.if_icmp .eq 17, 3) := by decide +kernel
theorem dX3_plain_114 : decode cX3_plain 114 = .ok (.iload_n 3, 1) := by decide +kernel
theorem dX3_plain_115 : decode cX3_plain 115 = .ok (.bipush 62, 2) := by decide +kernel
theorem dX3_plain_117 : decode cX3_plain 117 = .ok (.if_icmp .eq 11, 3) := by decide +kernel
theorem dX3_plain_120 : decode cX3_plain 120 = .ok (.iload_n 3, 1) := by decide +kernel
theorem dX3_plain_121 : decode cX3_plain 121 = .ok (.bipush 61, 2) := by decide +kernel
theorem dX3_plain_123 : decode cX3_plain 123 = .ok (.if_icmp .eq 5, 3) := by decide +kernel
theorem dX3_plain_126 : decode cX3_plain 126 = .ok (.iconst 0, 1) := by decide +kernel
theorem dX3_plain_127 : decode cX3_plain 127 = .ok (.ireturn, 1) := by decide +kernel
theorem dX3_plain_128 : decode cX3_plain 128 = .ok (.aload_n 0, 1) := by decide +kernel
theorem dX3_plain_129 : decode cX3_plain 129 = .ok (.invokevirtual 67, 3) := by decide +kernel
theorem dX3_plain_132 : decode cX3_plain 132 = .ok (.aload_n 0, 1) := by decide +kernel
theorem dX3_plain_133 : decode cX3_plain 133 = .ok (.iload_n 1, 1) := by decide +kernel
theorem dX3_plain_134 : decode cX3_plain 134 = .ok (.invokevirtual 140, 3) := by decide +kernel
theorem dX3_plain_137 : decode cX3_plain 137 = .ok (.ifCond .ne 5, 3) := by decide +kernel
theorem dX3_plain_140 : decode cX3_plain 140 = .ok (.iconst 0, 1) := by decide +kernel
theorem dX3_plain_141 : decode cX3_plain 141 = .ok (.ireturn, 1) := by decide +kernel
theorem dX3_plain_142 : decode cX3_plain 142 = .ok (.aload_n 0, 1) := by decide +kernel
theorem dX3_plain_143 : decode cX3_plain 143 = .ok (.getfield 46, 3) := by decide +kernel
theorem dX3_plain_146 : decode cX3_plain 146 = .ok (.iload_n 3, 1) := by decide +kernel
theorem dX3_plain_147 : decode cX3_plain 147 = .ok (.iconst 0, 1) := by decide +kernel
theorem dX3_plain_148 : decode cX3_plain 148 = .ok (.invokevirtual 137, 3) := by decide +kernel
theorem dX3_plain_151 : decode cX3_plain 151 = .ok (.iload_n 2, 1) := by decide +kernel
theorem dX3_plain_152 : decode cX3_plain 152 = .ok (.ifCond .eq 12, 3) := by decide +kernel
theorem dX3_plain_155 : decode cX3_plain 155 = .ok (.aload_n 0, 1) := by decide +kernel
theorem dX3_plain_156 : decode cX3_plain 156 = .ok (.getfield 46, 3) := by decide +kernel
theorem dX3_plain_159 : decode cX3_plain 159 = .ok (.iconst 3, 1) := by decide +kernel
theorem dX3_plain_160 : decode cX3_plain 160 = .ok (.iconst 0, 1) := by decide +kernel
theorem dX3_plain_161 : decode cX3_plain 161 = .ok (.invokevirtual 137, 3) := by decide +kernel
theorem dX3_plain_164 : decode cX3_plain 164 = .ok (.iconst 1, 1) := by decide +kernel
theorem dX3_plain_165 : decode cX3_plain 165 = .ok (.ireturn, 1) := by decide +kernel
theorem dX3_sum_0 : decode cX3_sum 0 = .ok (.aload_n 0, 1) := by decide +kernel
theorem dX3_sum_1 : decode cX3_sum 1 = .ok (.iload_n 1, 1) := by decide +kernel
theorem dX3_sum_2 : decode cX3_sum 2 = .ok (.invokevirtual 149, 3) := by decide +kernel
theorem dX3_sum_5 : decode cX3_sum 5 = .ok (.istore_n 2, 1) := by decide +kernel
theorem dX3_sum_6 : decode cX3_sum 6 = .ok (.iconst (-1), 1) := by decide +kernel
theorem dX3_sum_7 : decode cX3_sum 7 = .ok (.istore_n 3, 1) := by decide +kernel
theorem dX3_sum_8 : decode cX3_sum 8 = .ok (.iconst 0, 1) := by decide +kernel
theorem dX3_sum_9 : decode cX3_sum 9 = .ok (.istore 4, 2) := by decide +kernel
theorem dX3_sum_11 : decode cX3_sum 11 = .ok (.iload 4, 2) := by decide +kernel
theorem dX3_sum_13 : decode cX3_sum 13 = .ok (.sipush 400, 3) := by decide +kernel
theorem dX3_sum_16 : decode cX3_sum 16 = .ok (.if_icmp .ge 133, 3) := by decide +kernel
theorem dX3_sum_19 : decode cX3_sum 19 = .ok (.iload_n 2, 1) := by decide +kernel
theorem dX3_sum_20 : decode cX3_sum 20 = .ok (.ifCond .eq 129, 3) := by decide +kernel
theorem dX3_sum_23 : decode cX3_sum 23 = .ok (.aload_n 0, 1) := by decide +kernel
theorem dX3_sum_24 : decode cX3_sum 24 = .ok (.getfield 28, 3) := by decide +kernel
theorem dX3_sum_27 : decode cX3_sum 27 = .ok (.istore 5, 2) := by decide +kernel
theorem dX3_sum_29 : decode cX3_sum 29 = .ok (.iload 5, 2) := by decide +kernel
theorem dX3_sum_31 : decode cX3_sum 31 = .ok (.bipush 43, 2) := by decide +kernel
theorem dX3_sum_33 : decode cX3_sum 33 = .ok (.if_icmp .eq 10, 3) := by decide +kernel
theorem dX3_sum_36 : decode cX3_sum 36 = .ok (.iload 5, 2) := by decide +kernel
theorem dX3_sum_38 : decode cX3_sum 38 = .ok (.bipush 45, 2) := by decide +kernel
theorem dX3_sum_40 : decode cX3_sum 40 = .ok (.if_icmp .ne 7, 3) := by decide +kernel
theorem dX3_sum_43 : decode cX3_sum 43 = .ok (.iconst 1, 1) := by decide +kernel
theorem dX3_sum_44 : decode cX3_sum 44 = .ok (.goto 4, 3) := by decide +kernel
theorem dX3_sum_47 : decode cX3_sum 47 = .ok (.iconst 0, 1) := by decide +kernel
theorem dX3_sum_48 : decode cX3_sum 48 = .ok (.istore 6, 2) := by decide +kernel
theorem dX3_sum_50 : decode cX3_sum 50 = .ok (.iload 5, 2) := by decide +kernel
theorem dX3_sum_52 : decode cX3_sum 52 = .ok (.bipush 42, 2) := by decide +kernel
theorem dX3_sum_54 : decode cX3_sum 54 = .ok (.if_icmp .eq 17, 3) := by decide +kernel
theorem dX3_sum_57 : decode cX3_sum 57 = .ok (.iload 5, 2) := by decide +kernel
theorem dX3_sum_59 : decode cX3_sum 59 = .ok (.bipush 47, 2) := by decide +kernel
theorem dX3_sum_61 : decode cX3_sum 61 = .ok (.if_icmp .eq 10, 3) := by decide +kernel
theorem dX3_sum_64 : decode cX3_sum 64 = .ok (.iload 5, 2) := by decide +kernel
theorem dX3_sum_66 : decode cX3_sum 66 = .ok (.bipush 37, 2) := by decide +kernel
theorem dX3_sum_68 : decode cX3_sum 68 = .ok (.if_icmp .ne 7, 3) := by decide +kernel
theorem dX3_sum_71 : decode cX3_sum 71 = .ok (.iconst 1, 1) := by decide +kernel
theorem dX3_sum_72 : decode cX3_sum 72 = .ok (.goto 4, 3) := by decide +kernel
theorem dX3_sum_75 : decode cX3_sum 75 = .ok (.iconst 0, 1) := by decide +kernel
theorem dX3_sum_76 : decode cX3_sum 76 = .ok (.istore 7, 2) := by decide +kernel
theorem dX3_sum_78 : decode cX3_sum 78 = .ok (.iload 6, 2) := by decide +kernel
theorem dX3_sum_80 : decode cX3_sum 80 = .ok (.ifCond .ne 11, 3) := by decide +kernel
theorem dX3_sum_83 : decode cX3_sum 83 = .ok (.iload 7, 2) := by decide +kernel
theorem dX3_sum_85 : decode cX3_sum 85 = .ok (.ifCond .ne 6, 3) := by decide +kernel
theorem dX3_sum_88 : decode cX3_sum 88 = .ok (.goto 61, 3) := by decide +kernel
theorem dX3_sum_91 : decode cX3_sum 91 = .ok (.aload_n 0, 1) := by decide +kernel
theorem dX3_sum_92 : decode cX3_sum 92 = .ok (.invokevirtual 67, 3) := by decide +kernel
theorem dX3_sum_95 : decode cX3_sum 95 = .ok (.iload 6, 2) := by decide +kernel
theorem dX3_sum_97 : decode cX3_sum 97 = .ok (.ifCond .eq 17, 3) := by decide +kernel
theorem dX3_sum_100 : decode cX3_sum 100 = .ok (.iload_n 3, 1) := by decide +kernel
theorem dX3_sum_101 : decode cX3_sum 101 = .ok (.iconst (-1), 1) := by decide +kernel
theorem dX3_sum_102 : decode cX3_sum 102 = .ok (.if_icmp .eq 12, 3) := by decide +kernel
theorem dX3_sum_105 : decode cX3_sum 105 = .ok (.aload_n 0, 1) := by decide +kernel
theorem dX3_sum_106 : decode cX3_sum 106 = .ok (.getfield 46, 3) := by decide +kernel
theorem dX3_sum_109 : decode cX3_sum 109 = .ok (.iload_n 3, 1) := by decide +kernel
theorem dX3_sum_110 : decode cX3_sum 110 = .ok (.iconst 0, 1) := by decide +kernel
theorem dX3_sum_111 : decode cX3_sum 111 = .ok (.invokevirtual 137, 3) := by decide +kernel
theorem dX3_sum_114 : decode cX3_sum 114 = .ok (.iload 6, 2) := by decide +kernel
theorem dX3_sum_116 : decode cX3_sum 116 = .ok (.ifCond .eq 6, 3) := by decide +kernel
theorem dX3_sum_119 : decode cX3_sum 119 = .ok (.iload 5, 2) := by decide +kernel
theorem dX3_sum_121 : decode cX3_sum 121 = .ok (.istore_n 3, 1) := by decide +kernel
theorem dX3_sum_122 : decode cX3_sum 122 = .ok (.aload_n 0, 1) := by decide +kernel
theorem dX3_sum_123 : decode cX3_sum 123 = .ok (.iload_n 1, 1) := by decide +kernel
theorem dX3_sum_124 : decode cX3_sum 124 = .ok (.invokevirtual 149, 3) := by decide +kernel
theorem dX3_sum_127 : decode cX3_sum 127 = .ok (.istore_n 2, 1) := by decide +kernel
theorem dX3_sum_128 : decode cX3_sum 128 = .ok (.iload 7, 2) := by decide +kernel
theorem dX3_sum_130 : decode cX3_sum 130 = .ok (.ifCond .eq 13, 3) := by decide +kernel
theorem dX3_sum_133 : decode cX3_sum 133 = .ok (.aload_n 0, 1) := by decide +kernel
theorem dX3_sum_134 : decode cX3_sum 134 = .ok (.getfield 46, 3) := by decide +kernel
theorem dX3_sum_137 : decode cX3_sum 137 = .ok (.iload 5, 2) := by decide +kernel
theorem dX3_sum_139 : decode cX3_sum 139 = .ok (.iconst 0, 1) := by decide +kernel
theorem dX3_sum_140 : decode cX3_sum 140 = .ok (.invokevirtual 137, 3) := by decide +kernel
theorem dX3_sum_143 : decode cX3_sum 143 = .ok (.iinc 4 1, 3) := by decide +kernel
theorem dX3_sum_146 : decode cX3_sum 146 = .ok (.goto (-135), 3) := by decide +kernel
theorem dX3_sum_149 : decode cX3_sum 149 = .ok (.iload_n 3, 1) := by decide +kernel
theorem dX3_sum_150 : decode cX3_sum 150 = .ok (.iconst (-1), 1) := by decide +kernel
theorem dX3_sum_151 : decode cX3_sum 151 = .ok (.if_icmp .eq 12, 3) := by decide +kernel
theorem dX3_sum_154 : decode cX3_sum 154 = .ok (.aload_n 0, 1) := by decide +kernel
theorem dX3_sum_155 : decode cX3_sum 155 = .ok (.getfield 46, 3) := by decide +kernel
theorem dX3_sum_158 : decode cX3_sum 158 = .ok (.iload_n 3, 1) := by decide +kernel
theorem dX3_sum_159 : decode cX3_sum 159 = .ok (.iconst 0, 1) := by decide +kernel
theorem dX3_sum_160 : decode cX3_sum 160 = .ok (.invokevirtual 137, 3) := by decide +kernel
theorem dX3_sum_163 : decode cX3_sum 163 = .ok (.iload_n 2, 1) := by decide +kernel
theorem dX3_sum_164 : decode cX3_sum 164 = .ok (.ireturn, 1) := by decide +kernel
theorem dX3_part_0 : decode cX3_part 0 = .ok (.aload_n 0, 1) := by decide +kernel
theorem dX3_part_1 : decode cX3_part 1 = .ok (.getfield 28, 3) := by decide +kernel
theorem dX3_part_4 : decode cX3_part 4 = .ok (.bipush 91, 2) := by decide +kernel
theorem dX3_part_6 : decode cX3_part 6 = .ok (.if_icmp .ne 42, 3) := by decide +kernel
theorem dX3_part_9 : decode cX3_part 9 = .ok (.iload_n 1, 1) := by decide +kernel
theorem dX3_part_10 : decode cX3_part 10 = .ok (.bipush 8, 2) := by decide +kernel
theorem dX3_part_12 : decode cX3_part 12 = .ok (.if_icmp .lt 5, 3) := by decide +kernel
theorem dX3_part_15 : decode cX3_part 15 = .ok (.iconst 0, 1) := by decide +kernel
theorem dX3_part_16 : decode cX3_part 16 = .ok (.ireturn, 1) := by decide +kernel
theorem dX3_part_17 : decode cX3_part 17 = .ok (.aload_n 0, 1) := by decide +kernel
theorem dX3_part_18 : decode cX3_part 18 = .ok (.invokevirtual 67, 3) := by decide +kernel
theorem dX3_part_21 : decode cX3_part 21 = .ok (.aload_n 0, 1) := by decide +kernel
theorem dX3_part_22 : decode cX3_part 22 = .ok (.iload_n 1, 1) := by decide +kernel
theorem dX3_part_23 : decode cX3_part 23 = .ok (.iconst 1, 1) := by decide +kernel
theorem dX3_part_24 : decode cX3_part 24 = .ok (.iadd, 1) := by decide +kernel
theorem dX3_part_25 : decode cX3_part 25 = .ok (.invokevirtual 140, 3) := by decide +kernel
theorem dX3_part_28 : decode cX3_part 28 = .ok (.ifCond .eq 12, 3) := by decide +kernel
theorem dX3_part_31 : decode cX3_part 31 = .ok (.aload_n 0, 1) := by decide +kernel
theorem dX3_part_32 : decode cX3_part 32 = .ok (.getfield 28, 3) := by decide +kernel
theorem dX3_part_35 : decode cX3_part 35 = .ok (.bipush 93, 2) := by decide +kernel
theorem dX3_part_37 : decode cX3_part 37 = .ok (.if_icmp .eq 5, 3) := by decide +kernel
theorem dX3_part_40 : decode cX3_part 40 = .ok (.iconst 0, 1) := by decide +kernel
theorem dX3_part_41 : decode cX3_part 41 = .ok (.ireturn, 1) := by decide +kernel
theorem dX3_part_42 : decode cX3_part 42 = .ok (.aload_n 0, 1) := by decide +kernel
theorem dX3_part_43 : decode cX3_part 43 = .ok (.invokevirtual 67, 3) := by decide +kernel
theorem dX3_part_46 : decode cX3_part 46 = .ok (.iconst 1, 1) := by decide +kernel
theorem dX3_part_47 : decode cX3_part 47 = .ok (.ireturn, 1) := by decide +kernel
theorem dX3_part_48 : decode cX3_part 48 = .ok (.aload_n 0, 1) := by decide +kernel
theorem dX3_part_49 : decode cX3_part 49 = .ok (.getfield 31, 3) := by decide +kernel
theorem dX3_part_52 : decode cX3_part 52 = .ok (.bipush 50, 2) := by decide +kernel
theorem dX3_part_54 : decode cX3_part 54 = .ok (.if_icmp .lt 5, 3) := by decide +kernel
theorem dX3_part_57 : decode cX3_part 57 = .ok (.iconst 0, 1) := by decide +kernel
theorem dX3_part_58 : decode cX3_part 58 = .ok (.ireturn, 1) := by decide +kernel
theorem dX3_part_59 : decode cX3_part 59 = .ok (.aload_n 0, 1) := by decide +kernel
theorem dX3_part_60 : decode cX3_part 60 = .ok (.getfield 28, 3) := by decide +kernel
theorem dX3_part_63 : decode cX3_part 63 = .ok (.sipush 256, 3) := by decide +kernel
theorem dX3_part_66 : decode cX3_part 66 = .ok (.if_icmp .ne 7, 3) := by decide +kernel
theorem dX3_part_69 : decode cX3_part 69 = .ok (.iconst 1, 1) := by decide +kernel
theorem dX3_part_70 : decode cX3_part 70 = .ok (.goto 4, 3) := by decide +kernel
theorem dX3_part_73 : decode cX3_part 73 = .ok (.iconst 0, 1) := by decide +kernel
theorem dX3_part_74 : decode cX3_part 74 = .ok (.istore_n 2, 1) := by decide +kernel
theorem dX3_part_75 : decode cX3_part 75 = .ok (.iload_n 2, 1) := by decide +kernel
theorem dX3_part_76 : decode cX3_part 76 = .ok (.ifCond .eq 14, 3) := by decide +kernel
theorem dX3_part_79 : decode cX3_part 79 = .ok (.aload_n 0, 1) := by decide +kernel
theorem dX3_part_80 : decode cX3_part 80 = .ok (.iconst 0, 1) := by decide +kernel
theorem dX3_part_81 : decode cX3_part 81 = .ok (.sipush 1000, 3) := by decide +kernel
theorem dX3_part_84 : decode cX3_part 84 = .ok (.invokevirtual 127, 3) := by decide +kernel
theorem dX3_part_87 : decode cX3_part 87 = .ok (.goto 35, 3) := by decide +kernel
theorem dX3_part_90 : decode cX3_part 90 = .ok (.aload_n 0, 1) := by decide +kernel
theorem dX3_part_91 : decode cX3_part 91 = .ok (.getfield 34, 3) := by decide +kernel
theorem dX3_part_94 : decode cX3_part 94 = .ok (.ifCond .eq 17, 3) := by decide +kernel
theorem dX3_part_97 : decode cX3_part 97 = .ok (.aload_n 0, 1) := by decide +kernel
theorem dX3_part_98 : decode cX3_part 98 = .ok (.getfield 28, 3) := by decide +kernel
theorem dX3_part_101 : decode cX3_part 101 = .ok (.sipush 258, 3) := by decide +kernel
theorem dX3_part_104 : decode cX3_part 104 = .ok (.isub, 1) := by decide +kernel
theorem dX3_part_105 : decode cX3_part 105 = .ok (.invokestatic 152, 3) := by decide +kernel
theorem dX3_part_108 : decode cX3_part 108 = .ok (.goto 14, 3) := by decide +kernel
theorem dX3_part_111 : decode cX3_part 111 = .ok (.aload_n 0, 1) := by decide +kernel
theorem dX3_part_112 : decode cX3_part 112 = .ok (.getfield 28, 3) := by decide +kernel
theorem dX3_part_115 : decode cX3_part 115 = .ok (.sipush 258, 3) := by decide +kernel
theorem dX3_part_118 : decode cX3_part 118 = .ok (.isub, 1) := by decide +kernel
theorem dX3_part_119 : decode cX3_part 119 = .ok (.invokestatic 155, 3) := by decide +kernel
theorem dX3_part_122 : decode cX3_part 122 = .ok (.istore_n 3, 1) := by decide +kernel
theorem dX3_part_123 : decode cX3_part 123 = .ok (.iload_n 3, 1) := by decide +kernel
theorem dX3_part_124 : decode cX3_part 124 = .ok (.iconst (-1), 1) := by decide +kernel
theorem dX3_part_125 : decode cX3_part 125 = .ok (.if_icmp .ne 5, 3) := by decide +kernel
theorem dX3_part_128 : decode cX3_part 128 = .ok (.iconst 0, 1) := by decide +kernel
theorem dX3_part_129 : decode cX3_part 129 = .ok (.ireturn, 1) := by decide +kernel
theorem dX3_part_130 : decode cX3_part 130 = .ok (.iload_n 2, 1) := by decide +kernel
theorem dX3_part_131 : decode cX3_part 131 = .ok (.ifCond .ne 35, 3) := by decide +kernel
theorem dX3_part_134 : decode cX3_part 134 = .ok (.iload_n 3, 1) := by decide +kernel
theorem dX3_part_135 : decode cX3_part 135 = .ok (.bipush 14, 2) := by decide +kernel
theorem dX3_part_137 : decode cX3_part 137 = .ok (.if_icmp .lt 29, 3) := by decide +kernel
theorem dX3_part_140 : decode cX3_part 140 = .ok (.aload_n 0, 1) := by decide +kernel
theorem dX3_part_141 : decode cX3_part 141 = .ok (.invokevirtual 67, 3) := by decide +kernel
theorem dX3_part_144 : decode cX3_part 144 = .ok (.aload_n 0, 1) := by decide +kernel
theorem dX3_part_145 : decode cX3_part 145 = .ok (.iconst 0, 1) := by decide +kernel
theorem dX3_part_146 : decode cX3_part 146 = .ok (.bipush 7, 2) := by decide +kernel
theorem dX3_part_148 : decode cX3_part 148 = .ok (.invokevirtual 127, 3) := by decide +kernel
theorem dX3_part_151 : decode cX3_part 151 = .ok (.istore 4, 2) := by decide +kernel
theorem dX3_part_153 : decode cX3_part 153 = .ok (.iload 4, 2) := by decide +kernel
theorem dX3_part_155 : decode cX3_part 155 = .ok (.iconst (-1), 1) := by decide +kernel
theorem dX3_part_156 : decode cX3_part 156 = .ok (.if_icmp .ne 5, 3) := by decide +kernel
theorem dX3_part_159 : decode cX3_part 159 = .ok (.iconst 0, 1) := by decide +kernel
theorem dX3_part_160 : decode cX3_part 160 = .ok (.ireturn, 1) := by decide +kernel
theorem dX3_part_161 : decode cX3_part 161 = .ok (.iload_n 3, 1) := by decide +kernel
theorem dX3_part_162 : decode cX3_part 162 = .ok (.iload 4, 2) := by decide +kernel
theorem dX3_part_164 : decode cX3_part 164 = .ok (.iadd, 1) := by decide +kernel
theorem dX3_part_165 : decode cX3_part 165 = .ok (.istore_n 3, 1) := by decide +kernel
theorem dX3_part_166 : decode cX3_part 166 = .ok (.aload_n 0, 1) := by decide +kernel
theorem dX3_part_167 : decode cX3_part 167 = .ok (.getfield 46, 3) := by decide +kernel
theorem dX3_part_170 : decode cX3_part 170 = .ok (.iload_n 2, 1) := by decide +kernel
theorem dX3_part_171 : decode cX3_part 171 = .ok (.ifCond .eq 7, 3) := by decide +kernel
theorem dX3_part_174 : decode cX3_part 174 = .ok (.iconst 1, 1) := by decide +kernel
theorem dX3_part_175 : decode cX3_part 175 = .ok (.goto 4, 3) := by decide +kernel
theorem dX3_part_178 : decode cX3_part 178 = .ok (.iconst 2, 1) := by decide +kernel
theorem dX3_part_179 : decode cX3_part 179 = .ok (.iload_n 3, 1) := by decide +kernel
theorem dX3_part_180 : decode cX3_part 180 = .ok (.invokevirtual 137, 3) := by decide +kernel
theorem dX3_part_183 : decode cX3_part 183 = .ok (.aload_n 0, 1) := by decide +kernel
theorem dX3_part_184 : decode cX3_part 184 = .ok (.dup, 1) := by decide +kernel
theorem dX3_part_185 : decode cX3_part 185 = .ok (.getfield 31, 3) := by decide +kernel
theorem dX3_part_188 : decode cX3_part 188 = .ok (.iconst 1, 1) := by decide +kernel
theorem dX3_part_189 : decode cX3_part 189 = .ok (.iadd, 1) := by decide +kernel
theorem dX3_part_190 : decode cX3_part 190 = .ok (.putfield 31, 3) := by decide +kernel
theorem dX3_part_193 : decode cX3_part 193 = .ok (.aload_n 0, 1) := by decide +kernel
theorem dX3_part_194 : decode cX3_part 194 = .ok (.invokevirtual 67, 3) := by decide +kernel
theorem dX3_part_197 : decode cX3_part 197 = .ok (.iconst 1, 1) := by decide +kernel
theorem dX3_part_198 : decode cX3_part 198 = .ok (.ireturn, 1) := by decide +kernel
theorem dX3_lawFact_0 : decode cX3_lawFact 0 = .ok (.iload_n 0, 1) := by decide +kernel
theorem dX3_lawFact_1 : decode cX3_lawFact 1 = .ok (.ifCond .lt 13, 3) := by decide +kernel
theorem dX3_lawFact_4 : decode cX3_lawFact 4 = .ok (.iload_n 0, 1) := by decide +kernel
theorem dX3_lawFact_5 : decode cX3_lawFact 5 = .ok (.bipush 10, 2) := by decide +kernel
theorem dX3_lawFact_7 : decode cX3_lawFact 7 = .ok (.if_icmp .gt 7, 3) := by decide +kernel
theorem dX3_lawFact_10 : decode cX3_lawFact 10 = .ok (.iload_n 0, 1) := by decide +kernel
theorem dX3_lawFact_11 : decode cX3_lawFact 11 = .ok (.goto 4, 3) := by decide +kernel
theorem dX3_lawFact_14 : decode cX3_lawFact 14 = .ok (.iconst (-1), 1) := by decide +kernel
theorem dX3_lawFact_15 : decode cX3_lawFact 15 = .ok (.ireturn, 1) := by decide +kernel
theorem dX3_orderFact_0 : decode cX3_orderFact 0 = .ok (.iload_n 0, 1) := by decide +kernel
theorem dX3_orderFact_1 : decode cX3_orderFact 1 = .ok (.tableswitch 80 4 14 #[74, 80, 80, 80, 77, 59, 80, 62, 65, 68, 71], 59) := by decide +kernel
theorem dX3_orderFact_60 : decode cX3_orderFact 60 = .ok (.bipush 9, 2) := by decide +kernel
theorem dX3_orderFact_62 : decode cX3_orderFact 62 = .ok (.ireturn, 1) := by decide +kernel
theorem dX3_orderFact_63 : decode cX3_orderFact 63 = .ok (.bipush 11, 2) := by decide +kernel
theorem dX3_orderFact_65 : decode cX3_orderFact 65 = .ok (.ireturn, 1) := by decide +kernel
theorem dX3_orderFact_66 : decode cX3_orderFact 66 = .ok (.bipush 12, 2) := by decide +kernel
theorem dX3_orderFact_68 : decode cX3_orderFact 68 = .ok (.ireturn, 1) := by decide +kernel
theorem dX3_orderFact_69 : decode cX3_orderFact 69 = .ok (.bipush 13, 2) := by decide +kernel
theorem dX3_orderFact_71 : decode cX3_orderFact 71 = .ok (.ireturn, 1) := by decide +kernel
theorem dX3_orderFact_72 : decode cX3_orderFact 72 = .ok (.bipush 14, 2) := by decide +kernel
theorem dX3_orderFact_74 : decode cX3_orderFact 74 = .ok (.ireturn, 1) := by decide +kernel
theorem dX3_orderFact_75 : decode cX3_orderFact 75 = .ok (.bipush 22, 2) := by decide +kernel
theorem dX3_orderFact_77 : decode cX3_orderFact 77 = .ok (.ireturn, 1) := by decide +kernel
theorem dX3_orderFact_78 : decode cX3_orderFact 78 = .ok (.bipush 30, 2) := by decide +kernel
theorem dX3_orderFact_80 : decode cX3_orderFact 80 = .ok (.ireturn, 1) := by decide +kernel
theorem dX3_orderFact_81 : decode cX3_orderFact 81 = .ok (.iconst (-1), 1) := by decide +kernel
theorem dX3_orderFact_82 : decode cX3_orderFact 82 = .ok (.ireturn, 1) := by decide +kernel
theorem dX4_init_0 : decode cX4_init 0 = .ok (.aload_n 0, 1) := by decide +kernel
theorem dX4_init_1 : decode cX4_init 1 = .ok (.invokespecial 3, 3) := by decide +kernel
theorem dX4_init_4 : decode cX4_init 4 = .ok (.aload_n 0, 1) := by decide +kernel
theorem dX4_init_5 : decode cX4_init 5 = .ok (.sipush 400, 3) := by decide +kernel
theorem dX4_init_8 : decode cX4_init 8 = .ok (.newarray .int, 2) := by decide +kernel
theorem dX4_init_10 : decode cX4_init 10 = .ok (.putfield 9, 3) := by decide +kernel
theorem dX4_init_13 : decode cX4_init 13 = .ok (.aload_n 0, 1) := by decide +kernel
theorem dX4_init_14 : decode cX4_init 14 = .ok (.iconst 0, 1) := by decide +kernel
theorem dX4_init_15 : decode cX4_init 15 = .ok (.putfield 15, 3) := by decide +kernel
theorem dX4_init_18 : decode cX4_init 18 = .ok (.return_, 1) := by decide +kernel
theorem dX4_append_0 : decode cX4_append 0 = .ok (.bipush 24, 2) := by decide +kernel
theorem dX4_append_2 : decode cX4_append 2 = .ok (.istore_n 2, 1) := by decide +kernel
theorem dX4_append_3 : decode cX4_append 3 = .ok (.iload_n 2, 1) := by decide +kernel
theorem dX4_append_4 : decode cX4_append 4 = .ok (.ifCond .lt 45, 3) := by decide +kernel
theorem dX4_append_7 : decode cX4_append 7 = .ok (.aload_n 0, 1) := by decide +kernel
theorem dX4_append_8 : decode cX4_append 8 = .ok (.getfield 15, 3) := by decide +kernel
theorem dX4_append_11 : decode cX4_append 11 = .ok (.sipush 400, 3) := by decide +kernel
theorem dX4_append_14 : decode cX4_append 14 = .ok (.if_icmp .ge 35, 3) := by decide +kernel
theorem dX4_append_17 : decode cX4_append 17 = .ok (.aload_n 0, 1) := by decide +kernel
theorem dX4_append_18 : decode cX4_append 18 = .ok (.getfield 9, 3) := by decide +kernel
theorem dX4_append_21 : decode cX4_append 21 = .ok (.aload_n 0, 1) := by decide +kernel
theorem dX4_append_22 : decode cX4_append 22 = .ok (.getfield 15, 3) := by decide +kernel
theorem dX4_append_25 : decode cX4_append 25 = .ok (.iload_n 1, 1) := by decide +kernel
theorem dX4_append_26 : decode cX4_append 26 = .ok (.iload_n 2, 1) := by decide +kernel
theorem dX4_append_27 : decode cX4_append 27 = .ok (.iushr, 1) := by decide +kernel
theorem dX4_append_28 : decode cX4_append 28 = .ok (.sipush 255, 3) := by decide +kernel
theorem dX4_append_31 : decode cX4_append 31 = .ok (.iand, 1) := by decide +kernel
theorem dX4_append_32 : decode cX4_append 32 = .ok (.iastore, 1) := by decide +kernel
theorem dX4_append_33 : decode cX4_append 33 = .ok (.aload_n 0, 1) := by decide +kernel
theorem dX4_append_34 : decode cX4_append 34 = .ok (.dup, 1) := by decide +kernel
theorem dX4_append_35 : decode cX4_append 35 = .ok (.getfield 15, 3) := by decide +kernel
theorem dX4_append_38 : decode cX4_append 38 = .ok (.iconst 1, 1) := by decide +kernel
theorem dX4_append_39 : decode cX4_append 39 = .ok (.iadd, 1) := by decide +kernel
theorem dX4_append_40 : decode cX4_append 40 = .ok (.putfield 15, 3) := by decide +kernel
theorem dX4_append_43 : decode cX4_append 43 = .ok (.iinc 2 (-8), 3) := by decide +kernel
theorem dX4_append_46 : decode cX4_append 46 = .ok (.goto (-43), 3) := by decide +kernel
theorem dX4_append_49 : decode cX4_append 49 = .ok (.return_, 1) := by decide +kernel
theorem dX5_init_0 : decode cX5_init 0 = .ok (.aload_n 0, 1) := by decide +kernel
theorem dX5_init_1 : decode cX5_init 1 = .ok (.invokespecial 3, 3) := by decide +kernel
theorem dX5_init_4 : decode cX5_init 4 = .ok (.aload_n 0, 1) := by decide +kernel
theorem dX5_init_5 : decode cX5_init 5 = .ok (.iconst 0, 1) := by decide +kernel
theorem dX5_init_6 : decode cX5_init 6 = .ok (.putfield 9, 3) := by decide +kernel
theorem dX5_init_9 : decode cX5_init 9 = .ok (.aload_n 0, 1) := by decide +kernel
theorem dX5_init_10 : decode cX5_init 10 = .ok (.iconst 0, 1) := by decide +kernel
theorem dX5_init_11 : decode cX5_init 11 = .ok (.putfield 15, 3) := by decide +kernel
theorem dX5_init_14 : decode cX5_init 14 = .ok (.aload_n 0, 1) := by decide +kernel
theorem dX5_init_15 : decode cX5_init 15 = .ok (.aload_n 1, 1) := by decide +kernel
theorem dX5_init_16 : decode cX5_init 16 = .ok (.putfield 18, 3) := by decide +kernel
theorem dX5_init_19 : decode cX5_init 19 = .ok (.aload_n 0, 1) := by decide +kernel
theorem dX5_init_20 : decode cX5_init 20 = .ok (.aload_n 2, 1) := by decide +kernel
theorem dX5_init_21 : decode cX5_init 21 = .ok (.putfield 22, 3) := by decide +kernel
theorem dX5_init_24 : decode cX5_init 24 = .ok (.return_, 1) := by decide +kernel
theorem dX5_copied_0 : decode cX5_copied 0 = .ok (.new 10, 3) := by decide +kernel
theorem dX5_copied_3 : decode cX5_copied 3 = .ok (.dup, 1) := by decide +kernel
theorem dX5_copied_4 : decode cX5_copied 4 = .ok (.aload_n 0, 1) := by decide +kernel
theorem dX5_copied_5 : decode cX5_copied 5 = .ok (.getfield 18, 3) := by decide +kernel
theorem dX5_copied_8 : decode cX5_copied 8 = .ok (.aload_n 0, 1) := by decide +kernel
theorem dX5_copied_9 : decode cX5_copied 9 = .ok (.getfield 9, 3) := by decide +kernel
theorem dX5_copied_12 : decode cX5_copied 12 = .ok (.iconst 5, 1) := by decide +kernel
theorem dX5_copied_13 : decode cX5_copied 13 = .ok (.imul, 1) := by decide +kernel
theorem dX5_copied_14 : decode cX5_copied 14 = .ok (.invokestatic 25, 3) := by decide +kernel
theorem dX5_copied_17 : decode cX5_copied 17 = .ok (.aload_n 0, 1) := by decide +kernel
theorem dX5_copied_18 : decode cX5_copied 18 = .ok (.getfield 22, 3) := by decide +kernel
theorem dX5_copied_21 : decode cX5_copied 21 = .ok (.aload_n 0, 1) := by decide +kernel
theorem dX5_copied_22 : decode cX5_copied 22 = .ok (.getfield 15, 3) := by decide +kernel
theorem dX5_copied_25 : decode cX5_copied 25 = .ok (.invokestatic 25, 3) := by decide +kernel
theorem dX5_copied_28 : decode cX5_copied 28 = .ok (.invokespecial 31, 3) := by decide +kernel
theorem dX5_copied_31 : decode cX5_copied 31 = .ok (.astore_n 1, 1) := by decide +kernel
theorem dX5_copied_32 : decode cX5_copied 32 = .ok (.aload_n 1, 1) := by decide +kernel
theorem dX5_copied_33 : decode cX5_copied 33 = .ok (.aload_n 0, 1) := by decide +kernel
theorem dX5_copied_34 : decode cX5_copied 34 = .ok (.getfield 9, 3) := by decide +kernel
theorem dX5_copied_37 : decode cX5_copied 37 = .ok (.putfield 9, 3) := by decide +kernel
theorem dX5_copied_40 : decode cX5_copied 40 = .ok (.aload_n 1, 1) := by decide +kernel
theorem dX5_copied_41 : decode cX5_copied 41 = .ok (.aload_n 0, 1) := by decide +kernel
theorem dX5_copied_42 : decode cX5_copied 42 = .ok (.getfield 15, 3) := by decide +kernel
theorem dX5_copied_45 : decode cX5_copied 45 = .ok (.putfield 15, 3) := by decide +kernel
theorem dX5_copied_48 : decode cX5_copied 48 = .ok (.aload_n 1, 1) := by decide +kernel
theorem dX5_copied_49 : decode cX5_copied 49 = .ok (.areturn, 1) := by decide +kernel
theorem dX5_told_0 : decode cX5_told 0 = .ok (.iload_n 1, 1) := by decide +kernel
theorem dX5_told_1 : decode cX5_told 1 = .ok (.iconst 5, 1) := by decide +kernel
theorem dX5_told_2 : decode cX5_told 2 = .ok (.imul, 1) := by decide +kernel
theorem dX5_told_3 : decode cX5_told 3 = .ok (.iload_n 2, 1) := by decide +kernel
theorem dX5_told_4 : decode cX5_told 4 = .ok (.iadd, 1) := by decide +kernel
theorem dX5_told_5 : decode cX5_told 5 = .ok (.istore_n 3, 1) := by decide +kernel
theorem dX5_told_6 : decode cX5_told 6 = .ok (.iload_n 3, 1) := by decide +kernel
theorem dX5_told_7 : decode cX5_told 7 = .ok (.ifCond .lt 21, 3) := by decide +kernel
theorem dX5_told_10 : decode cX5_told 10 = .ok (.iload_n 3, 1) := by decide +kernel
theorem dX5_told_11 : decode cX5_told 11 = .ok (.aload_n 0, 1) := by decide +kernel
theorem dX5_told_12 : decode cX5_told 12 = .ok (.getfield 18, 3) := by decide +kernel
theorem dX5_told_15 : decode cX5_told 15 = .ok (.arraylength, 1) := by decide +kernel
theorem dX5_told_16 : decode cX5_told 16 = .ok (.if_icmp .ge 12, 3) := by decide +kernel
theorem dX5_told_19 : decode cX5_told 19 = .ok (.aload_n 0, 1) := by decide +kernel
theorem dX5_told_20 : decode cX5_told 20 = .ok (.getfield 18, 3) := by decide +kernel
theorem dX5_told_23 : decode cX5_told 23 = .ok (.iload_n 3, 1) := by decide +kernel
theorem dX5_told_24 : decode cX5_told 24 = .ok (.iaload, 1) := by decide +kernel
theorem dX5_told_25 : decode cX5_told 25 = .ok (.goto 4, 3) := by decide +kernel
theorem dX5_told_28 : decode cX5_told 28 = .ok (.iconst (-1), 1) := by decide +kernel
theorem dX5_told_29 : decode cX5_told 29 = .ok (.ireturn, 1) := by decide +kernel
theorem dX5_tell_0 : decode cX5_tell 0 = .ok (.aload_n 0, 1) := by decide +kernel
theorem dX5_tell_1 : decode cX5_tell 1 = .ok (.getfield 9, 3) := by decide +kernel
theorem dX5_tell_4 : decode cX5_tell 4 = .ok (.iconst 1, 1) := by decide +kernel
theorem dX5_tell_5 : decode cX5_tell 5 = .ok (.isub, 1) := by decide +kernel
theorem dX5_tell_6 : decode cX5_tell 6 = .ok (.iconst 5, 1) := by decide +kernel
theorem dX5_tell_7 : decode cX5_tell 7 = .ok (.imul, 1) := by decide +kernel
theorem dX5_tell_8 : decode cX5_tell 8 = .ok (.iload_n 1, 1) := by decide +kernel
theorem dX5_tell_9 : decode cX5_tell 9 = .ok (.iadd, 1) := by decide +kernel
theorem dX5_tell_10 : decode cX5_tell 10 = .ok (.istore_n 3, 1) := by decide +kernel
theorem dX5_tell_11 : decode cX5_tell 11 = .ok (.iload_n 3, 1) := by decide +kernel
theorem dX5_tell_12 : decode cX5_tell 12 = .ok (.ifCond .lt 19, 3) := by decide +kernel
theorem dX5_tell_15 : decode cX5_tell 15 = .ok (.iload_n 3, 1) := by decide +kernel
theorem dX5_tell_16 : decode cX5_tell 16 = .ok (.aload_n 0, 1) := by decide +kernel
theorem dX5_tell_17 : decode cX5_tell 17 = .ok (.getfield 18, 3) := by decide +kernel
theorem dX5_tell_20 : decode cX5_tell 20 = .ok (.arraylength, 1) := by decide +kernel
theorem dX5_tell_21 : decode cX5_tell 21 = .ok (.if_icmp .ge 10, 3) := by decide +kernel
theorem dX5_tell_24 : decode cX5_tell 24 = .ok (.aload_n 0, 1) := by decide +kernel
theorem dX5_tell_25 : decode cX5_tell 25 = .ok (.getfield 18, 3) := by decide +kernel
theorem dX5_tell_28 : decode cX5_tell 28 = .ok (.iload_n 3, 1) := by decide +kernel
theorem dX5_tell_29 : decode cX5_tell 29 = .ok (.iload_n 2, 1) := by decide +kernel
theorem dX5_tell_30 : decode cX5_tell 30 = .ok (.iastore, 1) := by decide +kernel
theorem dX5_tell_31 : decode cX5_tell 31 = .ok (.return_, 1) := by decide +kernel
theorem dX5_begin_0 : decode cX5_begin 0 = .ok (.aload_n 0, 1) := by decide +kernel
theorem dX5_begin_1 : decode cX5_begin 1 = .ok (.dup, 1) := by decide +kernel
theorem dX5_begin_2 : decode cX5_begin 2 = .ok (.getfield 9, 3) := by decide +kernel
theorem dX5_begin_5 : decode cX5_begin 5 = .ok (.iconst 1, 1) := by decide +kernel
theorem dX5_begin_6 : decode cX5_begin 6 = .ok (.iadd, 1) := by decide +kernel
theorem dX5_begin_7 : decode cX5_begin 7 = .ok (.putfield 9, 3) := by decide +kernel
theorem dX5_begin_10 : decode cX5_begin 10 = .ok (.aload_n 0, 1) := by decide +kernel
theorem dX5_begin_11 : decode cX5_begin 11 = .ok (.iconst 0, 1) := by decide +kernel
theorem dX5_begin_12 : decode cX5_begin 12 = .ok (.iload_n 1, 1) := by decide +kernel
theorem dX5_begin_13 : decode cX5_begin 13 = .ok (.invokevirtual 34, 3) := by decide +kernel
theorem dX5_begin_16 : decode cX5_begin 16 = .ok (.aload_n 0, 1) := by decide +kernel
theorem dX5_begin_17 : decode cX5_begin 17 = .ok (.iconst 1, 1) := by decide +kernel
theorem dX5_begin_18 : decode cX5_begin 18 = .ok (.iconst (-1), 1) := by decide +kernel
theorem dX5_begin_19 : decode cX5_begin 19 = .ok (.invokevirtual 34, 3) := by decide +kernel
theorem dX5_begin_22 : decode cX5_begin 22 = .ok (.aload_n 0, 1) := by decide +kernel
theorem dX5_begin_23 : decode cX5_begin 23 = .ok (.iconst 2, 1) := by decide +kernel
theorem dX5_begin_24 : decode cX5_begin 24 = .ok (.iconst (-1), 1) := by decide +kernel
theorem dX5_begin_25 : decode cX5_begin 25 = .ok (.invokevirtual 34, 3) := by decide +kernel
theorem dX5_begin_28 : decode cX5_begin 28 = .ok (.aload_n 0, 1) := by decide +kernel
theorem dX5_begin_29 : decode cX5_begin 29 = .ok (.iconst 3, 1) := by decide +kernel
theorem dX5_begin_30 : decode cX5_begin 30 = .ok (.iconst 1, 1) := by decide +kernel
theorem dX5_begin_31 : decode cX5_begin 31 = .ok (.invokevirtual 34, 3) := by decide +kernel
theorem dX5_begin_34 : decode cX5_begin 34 = .ok (.aload_n 0, 1) := by decide +kernel
theorem dX5_begin_35 : decode cX5_begin 35 = .ok (.iconst 4, 1) := by decide +kernel
theorem dX5_begin_36 : decode cX5_begin 36 = .ok (.iconst (-1), 1) := by decide +kernel
theorem dX5_begin_37 : decode cX5_begin 37 = .ok (.invokevirtual 34, 3) := by decide +kernel
theorem dX5_begin_40 : decode cX5_begin 40 = .ok (.return_, 1) := by decide +kernel
theorem dX5_add_0 : decode cX5_add 0 = .ok (.aload_n 0, 1) := by decide +kernel
theorem dX5_add_1 : decode cX5_add 1 = .ok (.getfield 15, 3) := by decide +kernel
theorem dX5_add_4 : decode cX5_add 4 = .ok (.iconst 1, 1) := by decide +kernel
theorem dX5_add_5 : decode cX5_add 5 = .ok (.iadd, 1) := by decide +kernel
theorem dX5_add_6 : decode cX5_add 6 = .ok (.aload_n 0, 1) := by decide +kernel
theorem dX5_add_7 : decode cX5_add 7 = .ok (.getfield 22, 3) := by decide +kernel
theorem dX5_add_10 : decode cX5_add 10 = .ok (.arraylength, 1) := by decide +kernel
theorem dX5_add_11 : decode cX5_add 11 = .ok (.if_icmp .lt 4, 3) := by decide +kernel
theorem dX5_add_14 : decode cX5_add 14 = .ok (.return_, 1) := by decide +kernel
theorem dX5_add_15 : decode cX5_add 15 = .ok (.aload_n 0, 1) := by decide +kernel
theorem dX5_add_16 : decode cX5_add 16 = .ok (.getfield 22, 3) := by decide +kernel
theorem dX5_add_19 : decode cX5_add 19 = .ok (.aload_n 0, 1) := by decide +kernel
theorem dX5_add_20 : decode cX5_add 20 = .ok (.getfield 15, 3) := by decide +kernel
theorem dX5_add_23 : decode cX5_add 23 = .ok (.iload_n 1, 1) := by decide +kernel
theorem dX5_add_24 : decode cX5_add 24 = .ok (.iastore, 1) := by decide +kernel
theorem dX5_add_25 : decode cX5_add 25 = .ok (.aload_n 0, 1) := by decide +kernel
theorem dX5_add_26 : decode cX5_add 26 = .ok (.getfield 22, 3) := by decide +kernel
theorem dX5_add_29 : decode cX5_add 29 = .ok (.aload_n 0, 1) := by decide +kernel
theorem dX5_add_30 : decode cX5_add 30 = .ok (.getfield 15, 3) := by decide +kernel
theorem dX5_add_33 : decode cX5_add 33 = .ok (.iconst 1, 1) := by decide +kernel
theorem dX5_add_34 : decode cX5_add 34 = .ok (.iadd, 1) := by decide +kernel
theorem dX5_add_35 : decode cX5_add 35 = .ok (.iload_n 2, 1) := by decide +kernel
theorem dX5_add_36 : decode cX5_add 36 = .ok (.iastore, 1) := by decide +kernel
theorem dX5_add_37 : decode cX5_add 37 = .ok (.aload_n 0, 1) := by decide +kernel
theorem dX5_add_38 : decode cX5_add 38 = .ok (.dup, 1) := by decide +kernel
theorem dX5_add_39 : decode cX5_add 39 = .ok (.getfield 15, 3) := by decide +kernel
theorem dX5_add_42 : decode cX5_add 42 = .ok (.iconst 2, 1) := by decide +kernel
theorem dX5_add_43 : decode cX5_add 43 = .ok (.iadd, 1) := by decide +kernel
theorem dX5_add_44 : decode cX5_add 44 = .ok (.putfield 15, 3) := by decide +kernel
theorem dX5_add_47 : decode cX5_add 47 = .ok (.return_, 1) := by decide +kernel
theorem dX5_land_0 : decode cX5_land 0 = .ok (.iload_n 1, 1) := by decide +kernel
theorem dX5_land_1 : decode cX5_land 1 = .ok (.ifCond .lt 22, 3) := by decide +kernel
theorem dX5_land_4 : decode cX5_land 4 = .ok (.iload_n 1, 1) := by decide +kernel
theorem dX5_land_5 : decode cX5_land 5 = .ok (.aload_n 0, 1) := by decide +kernel
theorem dX5_land_6 : decode cX5_land 6 = .ok (.getfield 22, 3) := by decide +kernel
theorem dX5_land_9 : decode cX5_land 9 = .ok (.arraylength, 1) := by decide +kernel
theorem dX5_land_10 : decode cX5_land 10 = .ok (.if_icmp .ge 13, 3) := by decide +kernel
theorem dX5_land_13 : decode cX5_land 13 = .ok (.aload_n 0, 1) := by decide +kernel
theorem dX5_land_14 : decode cX5_land 14 = .ok (.getfield 22, 3) := by decide +kernel
theorem dX5_land_17 : decode cX5_land 17 = .ok (.iload_n 1, 1) := by decide +kernel
theorem dX5_land_18 : decode cX5_land 18 = .ok (.aload_n 0, 1) := by decide +kernel
theorem dX5_land_19 : decode cX5_land 19 = .ok (.getfield 15, 3) := by decide +kernel
theorem dX5_land_22 : decode cX5_land 22 = .ok (.iastore, 1) := by decide +kernel
theorem dX5_land_23 : decode cX5_land 23 = .ok (.return_, 1) := by decide +kernel
theorem dX5_has_0 : decode cX5_has 0 = .ok (.iconst 0, 1) := by decide +kernel
theorem dX5_has_1 : decode cX5_has 1 = .ok (.istore_n 2, 1) := by decide +kernel
theorem dX5_has_2 : decode cX5_has 2 = .ok (.iload_n 2, 1) := by decide +kernel
theorem dX5_has_3 : decode cX5_has 3 = .ok (.aload_n 0, 1) := by decide +kernel
theorem dX5_has_4 : decode cX5_has 4 = .ok (.getfield 9, 3) := by decide +kernel
theorem dX5_has_7 : decode cX5_has 7 = .ok (.if_icmp .ge 21, 3) := by decide +kernel
theorem dX5_has_10 : decode cX5_has 10 = .ok (.aload_n 0, 1) := by decide +kernel
theorem dX5_has_11 : decode cX5_has 11 = .ok (.iload_n 2, 1) := by decide +kernel
theorem dX5_has_12 : decode cX5_has 12 = .ok (.iconst 0, 1) := by decide +kernel
theorem dX5_has_13 : decode cX5_has 13 = .ok (.invokevirtual 38, 3) := by decide +kernel
theorem dX5_has_16 : decode cX5_has 16 = .ok (.iload_n 1, 1) := by decide +kernel
theorem dX5_has_17 : decode cX5_has 17 = .ok (.if_icmp .ne 5, 3) := by decide +kernel
theorem dX5_has_20 : decode cX5_has 20 = .ok (.iconst 1, 1) := by decide +kernel
theorem dX5_has_21 : decode cX5_has 21 = .ok (.ireturn, 1) := by decide +kernel
theorem dX5_has_22 : decode cX5_has 22 = .ok (.iinc 2 1, 3) := by decide +kernel
theorem dX5_has_25 : decode cX5_has 25 = .ok (.goto (-23), 3) := by decide +kernel
theorem dX5_has_28 : decode cX5_has 28 = .ok (.iconst 0, 1) := by decide +kernel
theorem dX5_has_29 : decode cX5_has 29 = .ok (.ireturn, 1) := by decide +kernel
theorem dX6_init_0 : decode cX6_init 0 = .ok (.aload_n 0, 1) := by decide +kernel
theorem dX6_init_1 : decode cX6_init 1 = .ok (.invokespecial 3, 3) := by decide +kernel
theorem dX6_init_4 : decode cX6_init 4 = .ok (.aload_n 0, 1) := by decide +kernel
theorem dX6_init_5 : decode cX6_init 5 = .ok (.sipush 13056, 3) := by decide +kernel
theorem dX6_init_8 : decode cX6_init 8 = .ok (.newarray .int, 2) := by decide +kernel
theorem dX6_init_10 : decode cX6_init 10 = .ok (.putfield 11, 3) := by decide +kernel
theorem dX6_init_13 : decode cX6_init 13 = .ok (.aload_n 0, 1) := by decide +kernel
theorem dX6_init_14 : decode cX6_init 14 = .ok (.iconst 0, 1) := by decide +kernel
theorem dX6_init_15 : decode cX6_init 15 = .ok (.putfield 15, 3) := by decide +kernel
theorem dX6_init_18 : decode cX6_init 18 = .ok (.return_, 1) := by decide +kernel
theorem dX6_keep_0 : decode cX6_keep 0 = .ok (.aload_n 0, 1) := by decide +kernel
theorem dX6_keep_1 : decode cX6_keep 1 = .ok (.getfield 15, 3) := by decide +kernel
theorem dX6_keep_4 : decode cX6_keep 4 = .ok (.sipush 256, 3) := by decide +kernel
theorem dX6_keep_7 : decode cX6_keep 7 = .ok (.if_icmp .lt 7, 3) := by decide +kernel
theorem dX6_keep_10 : decode cX6_keep 10 = .ok (.aload_n 0, 1) := by decide +kernel
theorem dX6_keep_11 : decode cX6_keep 11 = .ok (.invokevirtual 19, 3) := by decide +kernel
theorem dX6_keep_14 : decode cX6_keep 14 = .ok (.aload_n 0, 1) := by decide +kernel
theorem dX6_keep_15 : decode cX6_keep 15 = .ok (.getfield 15, 3) := by decide +kernel
theorem dX6_keep_18 : decode cX6_keep 18 = .ok (.bipush 51, 2) := by decide +kernel
theorem dX6_keep_20 : decode cX6_keep 20 = .ok (.imul, 1) := by decide +kernel
theorem dX6_keep_21 : decode cX6_keep 21 = .ok (.istore_n 3, 1) := by decide +kernel
theorem dX6_keep_22 : decode cX6_keep 22 = .ok (.aload_n 0, 1) := by decide +kernel
theorem dX6_keep_23 : decode cX6_keep 23 = .ok (.getfield 11, 3) := by decide +kernel
theorem dX6_keep_26 : decode cX6_keep 26 = .ok (.iload_n 3, 1) := by decide +kernel
theorem dX6_keep_27 : decode cX6_keep 27 = .ok (.iload_n 1, 1) := by decide +kernel
theorem dX6_keep_28 : decode cX6_keep 28 = .ok (.iastore, 1) := by decide +kernel
theorem dX6_keep_29 : decode cX6_keep 29 = .ok (.aload_n 0, 1) := by decide +kernel
theorem dX6_keep_30 : decode cX6_keep 30 = .ok (.getfield 11, 3) := by decide +kernel
theorem dX6_keep_33 : decode cX6_keep 33 = .ok (.iload_n 3, 1) := by decide +kernel
theorem dX6_keep_34 : decode cX6_keep 34 = .ok (.iconst 1, 1) := by decide +kernel
theorem dX6_keep_35 : decode cX6_keep 35 = .ok (.iadd, 1) := by decide +kernel
theorem dX6_keep_36 : decode cX6_keep 36 = .ok (.aload_n 2, 1) := by decide +kernel
theorem dX6_keep_37 : decode cX6_keep 37 = .ok (.getfield 22, 3) := by decide +kernel
theorem dX6_keep_40 : decode cX6_keep 40 = .ok (.iastore, 1) := by decide +kernel
theorem dX6_keep_41 : decode cX6_keep 41 = .ok (.aload_n 2, 1) := by decide +kernel
theorem dX6_keep_42 : decode cX6_keep 42 = .ok (.getfield 27, 3) := by decide +kernel
theorem dX6_keep_45 : decode cX6_keep 45 = .ok (.iconst 0, 1) := by decide +kernel
theorem dX6_keep_46 : decode cX6_keep 46 = .ok (.aload_n 0, 1) := by decide +kernel
theorem dX6_keep_47 : decode cX6_keep 47 = .ok (.getfield 11, 3) := by decide +kernel
theorem dX6_keep_50 : decode cX6_keep 50 = .ok (.iload_n 3, 1) := by decide +kernel
theorem dX6_keep_51 : decode cX6_keep 51 = .ok (.iconst 2, 1) := by decide +kernel
theorem dX6_keep_52 : decode cX6_keep 52 = .ok (.iadd, 1) := by decide +kernel
theorem dX6_keep_53 : decode cX6_keep 53 = .ok (.bipush 8, 2) := by decide +kernel
theorem dX6_keep_55 : decode cX6_keep 55 = .ok (.invokestatic 30, 3) := by decide +kernel
theorem dX6_keep_58 : decode cX6_keep 58 = .ok (.aload_n 2, 1) := by decide +kernel
theorem dX6_keep_59 : decode cX6_keep 59 = .ok (.getfield 36, 3) := by decide +kernel
theorem dX6_keep_62 : decode cX6_keep 62 = .ok (.iconst 0, 1) := by decide +kernel
theorem dX6_keep_63 : decode cX6_keep 63 = .ok (.aload_n 0, 1) := by decide +kernel
theorem dX6_keep_64 : decode cX6_keep 64 = .ok (.getfield 11, 3) := by decide +kernel
theorem dX6_keep_67 : decode cX6_keep 67 = .ok (.iload_n 3, 1) := by decide +kernel
theorem dX6_keep_68 : decode cX6_keep 68 = .ok (.iconst 2, 1) := by decide +kernel
theorem dX6_keep_69 : decode cX6_keep 69 = .ok (.iadd, 1) := by decide +kernel
theorem dX6_keep_70 : decode cX6_keep 70 = .ok (.bipush 8, 2) := by decide +kernel
theorem dX6_keep_72 : decode cX6_keep 72 = .ok (.iadd, 1) := by decide +kernel
theorem dX6_keep_73 : decode cX6_keep 73 = .ok (.bipush 8, 2) := by decide +kernel
theorem dX6_keep_75 : decode cX6_keep 75 = .ok (.invokestatic 30, 3) := by decide +kernel
theorem dX6_keep_78 : decode cX6_keep 78 = .ok (.aload_n 2, 1) := by decide +kernel
theorem dX6_keep_79 : decode cX6_keep 79 = .ok (.getfield 39, 3) := by decide +kernel
theorem dX6_keep_82 : decode cX6_keep 82 = .ok (.iconst 0, 1) := by decide +kernel
theorem dX6_keep_83 : decode cX6_keep 83 = .ok (.aload_n 0, 1) := by decide +kernel
theorem dX6_keep_84 : decode cX6_keep 84 = .ok (.getfield 11, 3) := by decide +kernel
theorem dX6_keep_87 : decode cX6_keep 87 = .ok (.iload_n 3, 1) := by decide +kernel
theorem dX6_keep_88 : decode cX6_keep 88 = .ok (.iconst 2, 1) := by decide +kernel
theorem dX6_keep_89 : decode cX6_keep 89 = .ok (.iadd, 1) := by decide +kernel
theorem dX6_keep_90 : decode cX6_keep 90 = .ok (.bipush 16, 2) := by decide +kernel
theorem dX6_keep_92 : decode cX6_keep 92 = .ok (.iadd, 1) := by decide +kernel
theorem dX6_keep_93 : decode cX6_keep 93 = .ok (.bipush 8, 2) := by decide +kernel
theorem dX6_keep_95 : decode cX6_keep 95 = .ok (.invokestatic 30, 3) := by decide +kernel
theorem dX6_keep_98 : decode cX6_keep 98 = .ok (.aload_n 2, 1) := by decide +kernel
theorem dX6_keep_99 : decode cX6_keep 99 = .ok (.getfield 42, 3) := by decide +kernel
theorem dX6_keep_102 : decode cX6_keep 102 = .ok (.iconst 0, 1) := by decide +kernel
theorem dX6_keep_103 : decode cX6_keep 103 = .ok (.aload_n 0, 1) := by decide +kernel
theorem dX6_keep_104 : decode cX6_keep 104 = .ok (.getfield 11, 3) := by decide +kernel
theorem dX6_keep_107 : decode cX6_keep 107 = .ok (.iload_n 3, 1) := by decide +kernel
theorem dX6_keep_108 : decode cX6_keep 108 = .ok (.iconst 2, 1) := by decide +kernel
theorem dX6_keep_109 : decode cX6_keep 109 = .ok (.iadd, 1) := by decide +kernel
theorem dX6_keep_110 : decode cX6_keep 110 = .ok (.bipush 24, 2) := by decide +kernel
theorem dX6_keep_112 : decode cX6_keep 112 = .ok (.iadd, 1) := by decide +kernel
theorem dX6_keep_113 : decode cX6_keep 113 = .ok (.bipush 25, 2) := by decide +kernel
theorem dX6_keep_115 : decode cX6_keep 115 = .ok (.invokestatic 30, 3) := by decide +kernel
theorem dX6_keep_118 : decode cX6_keep 118 = .ok (.aload_n 0, 1) := by decide +kernel
theorem dX6_keep_119 : decode cX6_keep 119 = .ok (.dup, 1) := by decide +kernel
theorem dX6_keep_120 : decode cX6_keep 120 = .ok (.getfield 15, 3) := by decide +kernel
theorem dX6_keep_123 : decode cX6_keep 123 = .ok (.iconst 1, 1) := by decide +kernel
theorem dX6_keep_124 : decode cX6_keep 124 = .ok (.iadd, 1) := by decide +kernel
theorem dX6_keep_125 : decode cX6_keep 125 = .ok (.putfield 15, 3) := by decide +kernel
theorem dX6_keep_128 : decode cX6_keep 128 = .ok (.return_, 1) := by decide +kernel
theorem dX6_backTo_0 : decode cX6_backTo 0 = .ok (.iload_n 1, 1) := by decide +kernel
theorem dX6_backTo_1 : decode cX6_backTo 1 = .ok (.ifCond .lt 11, 3) := by decide +kernel
theorem dX6_backTo_4 : decode cX6_backTo 4 = .ok (.iload_n 1, 1) := by decide +kernel
theorem dX6_backTo_5 : decode cX6_backTo 5 = .ok (.aload_n 0, 1) := by decide +kernel
theorem dX6_backTo_6 : decode cX6_backTo 6 = .ok (.getfield 15, 3) := by decide +kernel
theorem dX6_backTo_9 : decode cX6_backTo 9 = .ok (.if_icmp .lt 5, 3) := by decide +kernel
theorem dX6_backTo_12 : decode cX6_backTo 12 = .ok (.iconst (-1), 1) := by decide +kernel
theorem dX6_backTo_13 : decode cX6_backTo 13 = .ok (.ireturn, 1) := by decide +kernel
theorem dX6_backTo_14 : decode cX6_backTo 14 = .ok (.iload_n 1, 1) := by decide +kernel
theorem dX6_backTo_15 : decode cX6_backTo 15 = .ok (.bipush 51, 2) := by decide +kernel
theorem dX6_backTo_17 : decode cX6_backTo 17 = .ok (.imul, 1) := by decide +kernel
theorem dX6_backTo_18 : decode cX6_backTo 18 = .ok (.istore_n 3, 1) := by decide +kernel
theorem dX6_backTo_19 : decode cX6_backTo 19 = .ok (.aload_n 2, 1) := by decide +kernel
theorem dX6_backTo_20 : decode cX6_backTo 20 = .ok (.aload_n 0, 1) := by decide +kernel
theorem dX6_backTo_21 : decode cX6_backTo 21 = .ok (.getfield 11, 3) := by decide +kernel
theorem dX6_backTo_24 : decode cX6_backTo 24 = .ok (.iload_n 3, 1) := by decide +kernel
theorem dX6_backTo_25 : decode cX6_backTo 25 = .ok (.iconst 1, 1) := by decide +kernel
theorem dX6_backTo_26 : decode cX6_backTo 26 = .ok (.iadd, 1) := by decide +kernel
theorem dX6_backTo_27 : decode cX6_backTo 27 = .ok (.iaload, 1) := by decide +kernel
theorem dX6_backTo_28 : decode cX6_backTo 28 = .ok (.putfield 22, 3) := by decide +kernel
theorem dX6_backTo_31 : decode cX6_backTo 31 = .ok (.aload_n 0, 1) := by decide +kernel
theorem dX6_backTo_32 : decode cX6_backTo 32 = .ok (.getfield 11, 3) := by decide +kernel
theorem dX6_backTo_35 : decode cX6_backTo 35 = .ok (.iload_n 3, 1) := by decide +kernel
theorem dX6_backTo_36 : decode cX6_backTo 36 = .ok (.iconst 2, 1) := by decide +kernel
theorem dX6_backTo_37 : decode cX6_backTo 37 = .ok (.iadd, 1) := by decide +kernel
theorem dX6_backTo_38 : decode cX6_backTo 38 = .ok (.aload_n 2, 1) := by decide +kernel
theorem dX6_backTo_39 : decode cX6_backTo 39 = .ok (.getfield 27, 3) := by decide +kernel
theorem dX6_backTo_42 : decode cX6_backTo 42 = .ok (.iconst 0, 1) := by decide +kernel
theorem dX6_backTo_43 : decode cX6_backTo 43 = .ok (.bipush 8, 2) := by decide +kernel
theorem dX6_backTo_45 : decode cX6_backTo 45 = .ok (.invokestatic 30, 3) := by decide +kernel
theorem dX6_backTo_48 : decode cX6_backTo 48 = .ok (.aload_n 0, 1) := by decide +kernel
theorem dX6_backTo_49 : decode cX6_backTo 49 = .ok (.getfield 11, 3) := by decide +kernel
theorem dX6_backTo_52 : decode cX6_backTo 52 = .ok (.iload_n 3, 1) := by decide +kernel
theorem dX6_backTo_53 : decode cX6_backTo 53 = .ok (.iconst 2, 1) := by decide +kernel
theorem dX6_backTo_54 : decode cX6_backTo 54 = .ok (.iadd, 1) := by decide +kernel
theorem dX6_backTo_55 : decode cX6_backTo 55 = .ok (.bipush 8, 2) := by decide +kernel
theorem dX6_backTo_57 : decode cX6_backTo 57 = .ok (.iadd, 1) := by decide +kernel
theorem dX6_backTo_58 : decode cX6_backTo 58 = .ok (.aload_n 2, 1) := by decide +kernel
theorem dX6_backTo_59 : decode cX6_backTo 59 = .ok (.getfield 36, 3) := by decide +kernel
theorem dX6_backTo_62 : decode cX6_backTo 62 = .ok (.iconst 0, 1) := by decide +kernel
theorem dX6_backTo_63 : decode cX6_backTo 63 = .ok (.bipush 8, 2) := by decide +kernel
theorem dX6_backTo_65 : decode cX6_backTo 65 = .ok (.invokestatic 30, 3) := by decide +kernel
theorem dX6_backTo_68 : decode cX6_backTo 68 = .ok (.aload_n 0, 1) := by decide +kernel
theorem dX6_backTo_69 : decode cX6_backTo 69 = .ok (.getfield 11, 3) := by decide +kernel
theorem dX6_backTo_72 : decode cX6_backTo 72 = .ok (.iload_n 3, 1) := by decide +kernel
theorem dX6_backTo_73 : decode cX6_backTo 73 = .ok (.iconst 2, 1) := by decide +kernel
theorem dX6_backTo_74 : decode cX6_backTo 74 = .ok (.iadd, 1) := by decide +kernel
theorem dX6_backTo_75 : decode cX6_backTo 75 = .ok (.bipush 16, 2) := by decide +kernel
theorem dX6_backTo_77 : decode cX6_backTo 77 = .ok (.iadd, 1) := by decide +kernel
theorem dX6_backTo_78 : decode cX6_backTo 78 = .ok (.aload_n 2, 1) := by decide +kernel
theorem dX6_backTo_79 : decode cX6_backTo 79 = .ok (.getfield 39, 3) := by decide +kernel
theorem dX6_backTo_82 : decode cX6_backTo 82 = .ok (.iconst 0, 1) := by decide +kernel
theorem dX6_backTo_83 : decode cX6_backTo 83 = .ok (.bipush 8, 2) := by decide +kernel
theorem dX6_backTo_85 : decode cX6_backTo 85 = .ok (.invokestatic 30, 3) := by decide +kernel
theorem dX6_backTo_88 : decode cX6_backTo 88 = .ok (.aload_n 0, 1) := by decide +kernel
theorem dX6_backTo_89 : decode cX6_backTo 89 = .ok (.getfield 11, 3) := by decide +kernel
theorem dX6_backTo_92 : decode cX6_backTo 92 = .ok (.iload_n 3, 1) := by decide +kernel
theorem dX6_backTo_93 : decode cX6_backTo 93 = .ok (.iconst 2, 1) := by decide +kernel
theorem dX6_backTo_94 : decode cX6_backTo 94 = .ok (.iadd, 1) := by decide +kernel
theorem dX6_backTo_95 : decode cX6_backTo 95 = .ok (.bipush 24, 2) := by decide +kernel
theorem dX6_backTo_97 : decode cX6_backTo 97 = .ok (.iadd, 1) := by decide +kernel
theorem dX6_backTo_98 : decode cX6_backTo 98 = .ok (.aload_n 2, 1) := by decide +kernel
theorem dX6_backTo_99 : decode cX6_backTo 99 = .ok (.getfield 42, 3) := by decide +kernel
theorem dX6_backTo_102 : decode cX6_backTo 102 = .ok (.iconst 0, 1) := by decide +kernel
theorem dX6_backTo_103 : decode cX6_backTo 103 = .ok (.bipush 25, 2) := by decide +kernel
theorem dX6_backTo_105 : decode cX6_backTo 105 = .ok (.invokestatic 30, 3) := by decide +kernel
theorem dX6_backTo_108 : decode cX6_backTo 108 = .ok (.aload_n 0, 1) := by decide +kernel
theorem dX6_backTo_109 : decode cX6_backTo 109 = .ok (.iload_n 1, 1) := by decide +kernel
theorem dX6_backTo_110 : decode cX6_backTo 110 = .ok (.putfield 15, 3) := by decide +kernel
theorem dX6_backTo_113 : decode cX6_backTo 113 = .ok (.aload_n 0, 1) := by decide +kernel
theorem dX6_backTo_114 : decode cX6_backTo 114 = .ok (.getfield 11, 3) := by decide +kernel
theorem dX6_backTo_117 : decode cX6_backTo 117 = .ok (.iload_n 3, 1) := by decide +kernel
theorem dX6_backTo_118 : decode cX6_backTo 118 = .ok (.iaload, 1) := by decide +kernel
theorem dX6_backTo_119 : decode cX6_backTo 119 = .ok (.ireturn, 1) := by decide +kernel
theorem dX6_trim_0 : decode cX6_trim 0 = .ok (.aload_n 0, 1) := by decide +kernel
theorem dX6_trim_1 : decode cX6_trim 1 = .ok (.getfield 15, 3) := by decide +kernel
theorem dX6_trim_4 : decode cX6_trim 4 = .ok (.bipush 16, 2) := by decide +kernel
theorem dX6_trim_6 : decode cX6_trim 6 = .ok (.isub, 1) := by decide +kernel
theorem dX6_trim_7 : decode cX6_trim 7 = .ok (.istore_n 1, 1) := by decide +kernel
theorem dX6_trim_8 : decode cX6_trim 8 = .ok (.iload_n 1, 1) := by decide +kernel
theorem dX6_trim_9 : decode cX6_trim 9 = .ok (.ifCond .gt 4, 3) := by decide +kernel
theorem dX6_trim_12 : decode cX6_trim 12 = .ok (.return_, 1) := by decide +kernel
theorem dX6_trim_13 : decode cX6_trim 13 = .ok (.aload_n 0, 1) := by decide +kernel
theorem dX6_trim_14 : decode cX6_trim 14 = .ok (.getfield 11, 3) := by decide +kernel
theorem dX6_trim_17 : decode cX6_trim 17 = .ok (.iload_n 1, 1) := by decide +kernel
theorem dX6_trim_18 : decode cX6_trim 18 = .ok (.bipush 51, 2) := by decide +kernel
theorem dX6_trim_20 : decode cX6_trim 20 = .ok (.imul, 1) := by decide +kernel
theorem dX6_trim_21 : decode cX6_trim 21 = .ok (.aload_n 0, 1) := by decide +kernel
theorem dX6_trim_22 : decode cX6_trim 22 = .ok (.getfield 11, 3) := by decide +kernel
theorem dX6_trim_25 : decode cX6_trim 25 = .ok (.iconst 0, 1) := by decide +kernel
theorem dX6_trim_26 : decode cX6_trim 26 = .ok (.sipush 816, 3) := by decide +kernel
theorem dX6_trim_29 : decode cX6_trim 29 = .ok (.invokestatic 30, 3) := by decide +kernel
theorem dX6_trim_32 : decode cX6_trim 32 = .ok (.aload_n 0, 1) := by decide +kernel
theorem dX6_trim_33 : decode cX6_trim 33 = .ok (.bipush 16, 2) := by decide +kernel
theorem dX6_trim_35 : decode cX6_trim 35 = .ok (.putfield 15, 3) := by decide +kernel
theorem dX6_trim_38 : decode cX6_trim 38 = .ok (.return_, 1) := by decide +kernel
theorem dX7_init_0 : decode cX7_init 0 = .ok (.aload_n 0, 1) := by decide +kernel
theorem dX7_init_1 : decode cX7_init 1 = .ok (.invokespecial 1, 3) := by decide +kernel
theorem dX7_init_4 : decode cX7_init 4 = .ok (.aload_n 0, 1) := by decide +kernel
theorem dX7_init_5 : decode cX7_init 5 = .ok (.new 7, 3) := by decide +kernel
theorem dX7_init_8 : decode cX7_init 8 = .ok (.dup, 1) := by decide +kernel
theorem dX7_init_9 : decode cX7_init 9 = .ok (.invokespecial 9, 3) := by decide +kernel
theorem dX7_init_12 : decode cX7_init 12 = .ok (.putfield 10, 3) := by decide +kernel
theorem dX7_init_15 : decode cX7_init 15 = .ok (.aload_n 0, 1) := by decide +kernel
theorem dX7_init_16 : decode cX7_init 16 = .ok (.new 7, 3) := by decide +kernel
theorem dX7_init_19 : decode cX7_init 19 = .ok (.dup, 1) := by decide +kernel
theorem dX7_init_20 : decode cX7_init 20 = .ok (.invokespecial 9, 3) := by decide +kernel
theorem dX7_init_23 : decode cX7_init 23 = .ok (.putfield 16, 3) := by decide +kernel
theorem dX7_init_26 : decode cX7_init 26 = .ok (.aload_n 0, 1) := by decide +kernel
theorem dX7_init_27 : decode cX7_init 27 = .ok (.new 7, 3) := by decide +kernel
theorem dX7_init_30 : decode cX7_init 30 = .ok (.dup, 1) := by decide +kernel
theorem dX7_init_31 : decode cX7_init 31 = .ok (.invokespecial 9, 3) := by decide +kernel
theorem dX7_init_34 : decode cX7_init 34 = .ok (.putfield 19, 3) := by decide +kernel
theorem dX7_init_37 : decode cX7_init 37 = .ok (.aload_n 0, 1) := by decide +kernel
theorem dX7_init_38 : decode cX7_init 38 = .ok (.iconst 2, 1) := by decide +kernel
theorem dX7_init_39 : decode cX7_init 39 = .ok (.newarray .boolean, 2) := by decide +kernel
theorem dX7_init_41 : decode cX7_init 41 = .ok (.putfield 22, 3) := by decide +kernel
theorem dX7_init_44 : decode cX7_init 44 = .ok (.aload_n 0, 1) := by decide +kernel
theorem dX7_init_45 : decode cX7_init 45 = .ok (.new 7, 3) := by decide +kernel
theorem dX7_init_48 : decode cX7_init 48 = .ok (.dup, 1) := by decide +kernel
theorem dX7_init_49 : decode cX7_init 49 = .ok (.invokespecial 9, 3) := by decide +kernel
theorem dX7_init_52 : decode cX7_init 52 = .ok (.putfield 26, 3) := by decide +kernel
theorem dX7_init_55 : decode cX7_init 55 = .ok (.aload_n 0, 1) := by decide +kernel
theorem dX7_init_56 : decode cX7_init 56 = .ok (.iconst 0, 1) := by decide +kernel
theorem dX7_init_57 : decode cX7_init 57 = .ok (.putfield 29, 3) := by decide +kernel
theorem dX7_init_60 : decode cX7_init 60 = .ok (.aload_n 0, 1) := by decide +kernel
theorem dX7_init_61 : decode cX7_init 61 = .ok (.new 33, 3) := by decide +kernel
theorem dX7_init_64 : decode cX7_init 64 = .ok (.dup, 1) := by decide +kernel
theorem dX7_init_65 : decode cX7_init 65 = .ok (.invokespecial 35, 3) := by decide +kernel
theorem dX7_init_68 : decode cX7_init 68 = .ok (.putfield 36, 3) := by decide +kernel
theorem dX7_init_71 : decode cX7_init 71 = .ok (.aload_n 0, 1) := by decide +kernel
theorem dX7_init_72 : decode cX7_init 72 = .ok (.new 40, 3) := by decide +kernel
theorem dX7_init_75 : decode cX7_init 75 = .ok (.dup, 1) := by decide +kernel
theorem dX7_init_76 : decode cX7_init 76 = .ok (.invokespecial 42, 3) := by decide +kernel
theorem dX7_init_79 : decode cX7_init 79 = .ok (.putfield 43, 3) := by decide +kernel
theorem dX7_init_82 : decode cX7_init 82 = .ok (.aload_n 0, 1) := by decide +kernel
theorem dX7_init_83 : decode cX7_init 83 = .ok (.new 47, 3) := by decide +kernel
theorem dX7_init_86 : decode cX7_init 86 = .ok (.dup, 1) := by decide +kernel
theorem dX7_init_87 : decode cX7_init 87 = .ok (.invokespecial 49, 3) := by decide +kernel
theorem dX7_init_90 : decode cX7_init 90 = .ok (.putfield 50, 3) := by decide +kernel
theorem dX7_init_93 : decode cX7_init 93 = .ok (.aload_n 0, 1) := by decide +kernel
theorem dX7_init_94 : decode cX7_init 94 = .ok (.new 54, 3) := by decide +kernel
theorem dX7_init_97 : decode cX7_init 97 = .ok (.dup, 1) := by decide +kernel
theorem dX7_init_98 : decode cX7_init 98 = .ok (.invokespecial 56, 3) := by decide +kernel
theorem dX7_init_101 : decode cX7_init 101 = .ok (.putfield 57, 3) := by decide +kernel
theorem dX7_init_104 : decode cX7_init 104 = .ok (.aload_n 0, 1) := by decide +kernel
theorem dX7_init_105 : decode cX7_init 105 = .ok (.new 61, 3) := by decide +kernel
theorem dX7_init_108 : decode cX7_init 108 = .ok (.dup, 1) := by decide +kernel
theorem dX7_init_109 : decode cX7_init 109 = .ok (.invokespecial 63, 3) := by decide +kernel
theorem dX7_init_112 : decode cX7_init 112 = .ok (.putfield 64, 3) := by decide +kernel
theorem dX7_init_115 : decode cX7_init 115 = .ok (.aload_n 0, 1) := by decide +kernel
theorem dX7_init_116 : decode cX7_init 116 = .ok (.iconst 0, 1) := by decide +kernel
theorem dX7_init_117 : decode cX7_init 117 = .ok (.putfield 68, 3) := by decide +kernel
theorem dX7_init_120 : decode cX7_init 120 = .ok (.aload_n 0, 1) := by decide +kernel
theorem dX7_init_121 : decode cX7_init 121 = .ok (.iconst (-1), 1) := by decide +kernel
theorem dX7_init_122 : decode cX7_init 122 = .ok (.putfield 72, 3) := by decide +kernel
theorem dX7_init_125 : decode cX7_init 125 = .ok (.aload_n 0, 1) := by decide +kernel
theorem dX7_init_126 : decode cX7_init 126 = .ok (.iconst 0, 1) := by decide +kernel
theorem dX7_init_127 : decode cX7_init 127 = .ok (.putfield 75, 3) := by decide +kernel
theorem dX7_init_130 : decode cX7_init 130 = .ok (.aload_n 0, 1) := by decide +kernel
theorem dX7_init_131 : decode cX7_init 131 = .ok (.iconst (-1), 1) := by decide +kernel
theorem dX7_init_132 : decode cX7_init 132 = .ok (.putfield 78, 3) := by decide +kernel
theorem dX7_init_135 : decode cX7_init 135 = .ok (.aload_n 0, 1) := by decide +kernel
theorem dX7_init_136 : decode cX7_init 136 = .ok (.iconst 0, 1) := by decide +kernel
theorem dX7_init_137 : decode cX7_init 137 = .ok (.putfield 81, 3) := by decide +kernel
theorem dX7_init_140 : decode cX7_init 140 = .ok (.aload_n 0, 1) := by decide +kernel
theorem dX7_init_141 : decode cX7_init 141 = .ok (.iconst 5, 1) := by decide +kernel
theorem dX7_init_142 : decode cX7_init 142 = .ok (.newarray .int, 2) := by decide +kernel
theorem dX7_init_144 : decode cX7_init 144 = .ok (.putfield 84, 3) := by decide +kernel
theorem dX7_init_147 : decode cX7_init 147 = .ok (.return_, 1) := by decide +kernel
theorem dX7_house_0 : decode cX7_house 0 = .ok (.iload_n 1, 1) := by decide +kernel
theorem dX7_house_1 : decode cX7_house 1 = .ok (.iconst 1, 1) := by decide +kernel
theorem dX7_house_2 : decode cX7_house 2 = .ok (.if_icmp .lt 9, 3) := by decide +kernel
theorem dX7_house_5 : decode cX7_house 5 = .ok (.iload_n 1, 1) := by decide +kernel
theorem dX7_house_6 : decode cX7_house 6 = .ok (.bipush 9, 2) := by decide +kernel
theorem dX7_house_8 : decode cX7_house 8 = .ok (.if_icmp .le 9, 3) := by decide +kernel
theorem dX7_house_11 : decode cX7_house 11 = .ok (.aload_n 0, 1) := by decide +kernel
theorem dX7_house_12 : decode cX7_house 12 = .ok (.iconst (-1), 1) := by decide +kernel
theorem dX7_house_13 : decode cX7_house 13 = .ok (.invokevirtual 88, 3) := by decide +kernel
theorem dX7_house_16 : decode cX7_house 16 = .ok (.ireturn, 1) := by decide +kernel
theorem dX7_house_17 : decode cX7_house 17 = .ok (.aload_n 0, 1) := by decide +kernel
theorem dX7_house_18 : decode cX7_house 18 = .ok (.getfield 10, 3) := by decide +kernel
theorem dX7_house_21 : decode cX7_house 21 = .ok (.getfield 92, 3) := by decide +kernel
theorem dX7_house_24 : decode cX7_house 24 = .ok (.bipush 8, 2) := by decide +kernel
theorem dX7_house_26 : decode cX7_house 26 = .ok (.if_icmp .lt 10, 3) := by decide +kernel
theorem dX7_house_29 : decode cX7_house 29 = .ok (.aload_n 0, 1) := by decide +kernel
theorem dX7_house_30 : decode cX7_house 30 = .ok (.bipush (-5), 2) := by decide +kernel
theorem dX7_house_32 : decode cX7_house 32 = .ok (.invokevirtual 88, 3) := by decide +kernel
theorem dX7_house_35 : decode cX7_house 35 = .ok (.ireturn, 1) := by decide +kernel
theorem dX7_house_36 : decode cX7_house 36 = .ok (.aload_n 0, 1) := by decide +kernel
theorem dX7_house_37 : decode cX7_house 37 = .ok (.getfield 10, 3) := by decide +kernel
theorem dX7_house_40 : decode cX7_house 40 = .ok (.getfield 95, 3) := by decide +kernel
theorem dX7_house_43 : decode cX7_house 43 = .ok (.aload_n 0, 1) := by decide +kernel
theorem dX7_house_44 : decode cX7_house 44 = .ok (.getfield 10, 3) := by decide +kernel
theorem dX7_house_47 : decode cX7_house 47 = .ok (.getfield 92, 3) := by decide +kernel
theorem dX7_house_50 : decode cX7_house 50 = .ok (.iload_n 1, 1) := by decide +kernel
theorem dX7_house_51 : decode cX7_house 51 = .ok (.iastore, 1) := by decide +kernel
theorem dX7_house_52 : decode cX7_house 52 = .ok (.aload_n 0, 1) := by decide +kernel
theorem dX7_house_53 : decode cX7_house 53 = .ok (.getfield 10, 3) := by decide +kernel
theorem dX7_house_56 : decode cX7_house 56 = .ok (.dup, 1) := by decide +kernel
theorem dX7_house_57 : decode cX7_house 57 = .ok (.getfield 92, 3) := by decide +kernel
theorem dX7_house_60 : decode cX7_house 60 = .ok (.iconst 1, 1) := by decide +kernel
theorem dX7_house_61 : decode cX7_house 61 = .ok (.iadd, 1) := by decide +kernel
theorem dX7_house_62 : decode cX7_house 62 = .ok (.putfield 92, 3) := by decide +kernel
theorem dX7_house_65 : decode cX7_house 65 = .ok (.aload_n 0, 1) := by decide +kernel
theorem dX7_house_66 : decode cX7_house 66 = .ok (.aload_n 0, 1) := by decide +kernel
theorem dX7_house_67 : decode cX7_house 67 = .ok (.getfield 10, 3) := by decide +kernel
theorem dX7_house_70 : decode cX7_house 70 = .ok (.getfield 92, 3) := by decide +kernel
theorem dX7_house_73 : decode cX7_house 73 = .ok (.iconst 1, 1) := by decide +kernel
theorem dX7_house_74 : decode cX7_house 74 = .ok (.isub, 1) := by decide +kernel
theorem dX7_house_75 : decode cX7_house 75 = .ok (.invokevirtual 98, 3) := by decide +kernel
theorem dX7_house_78 : decode cX7_house 78 = .ok (.ireturn, 1) := by decide +kernel
theorem dX7_door_0 : decode cX7_door 0 = .ok (.iload_n 1, 1) := by decide +kernel
theorem dX7_door_1 : decode cX7_door 1 = .ok (.iconst 1, 1) := by decide +kernel
theorem dX7_door_2 : decode cX7_door 2 = .ok (.if_icmp .lt 26, 3) := by decide +kernel
theorem dX7_door_5 : decode cX7_door 5 = .ok (.iload_n 1, 1) := by decide +kernel
theorem dX7_door_6 : decode cX7_door 6 = .ok (.bipush 9, 2) := by decide +kernel
theorem dX7_door_8 : decode cX7_door 8 = .ok (.if_icmp .gt 20, 3) := by decide +kernel
theorem dX7_door_11 : decode cX7_door 11 = .ok (.iload_n 2, 1) := by decide +kernel
theorem dX7_door_12 : decode cX7_door 12 = .ok (.ifCond .lt 16, 3) := by decide +kernel
theorem dX7_door_15 : decode cX7_door 15 = .ok (.iload_n 2, 1) := by decide +kernel
theorem dX7_door_16 : decode cX7_door 16 = .ok (.iconst 3, 1) := by decide +kernel
theorem dX7_door_17 : decode cX7_door 17 = .ok (.if_icmp .gt 11, 3) := by decide +kernel
theorem dX7_door_20 : decode cX7_door 20 = .ok (.iload 4, 2) := by decide +kernel
theorem dX7_door_22 : decode cX7_door 22 = .ok (.invokestatic 101, 3) := by decide +kernel
theorem dX7_door_25 : decode cX7_door 25 = .ok (.ifCond .ne 9, 3) := by decide +kernel
theorem dX7_door_28 : decode cX7_door 28 = .ok (.aload_n 0, 1) := by decide +kernel
theorem dX7_door_29 : decode cX7_door 29 = .ok (.iconst (-1), 1) := by decide +kernel
theorem dX7_door_30 : decode cX7_door 30 = .ok (.invokevirtual 88, 3) := by decide +kernel
theorem dX7_door_33 : decode cX7_door 33 = .ok (.ireturn, 1) := by decide +kernel
theorem dX7_door_34 : decode cX7_door 34 = .ok (.aload_n 0, 1) := by decide +kernel
theorem dX7_door_35 : decode cX7_door 35 = .ok (.getfield 10, 3) := by decide +kernel
theorem dX7_door_38 : decode cX7_door 38 = .ok (.iload_n 3, 1) := by decide +kernel
theorem dX7_door_39 : decode cX7_door 39 = .ok (.invokevirtual 105, 3) := by decide +kernel
theorem dX7_door_42 : decode cX7_door 42 = .ok (.ifCond .ne 10, 3) := by decide +kernel
theorem dX7_door_45 : decode cX7_door 45 = .ok (.aload_n 0, 1) := by decide +kernel
theorem dX7_door_46 : decode cX7_door 46 = .ok (.bipush (-2), 2) := by decide +kernel
theorem dX7_door_48 : decode cX7_door 48 = .ok (.invokevirtual 88, 3) := by decide +kernel
theorem dX7_door_51 : decode cX7_door 51 = .ok (.ireturn, 1) := by decide +kernel
theorem dX7_door_52 : decode cX7_door 52 = .ok (.aload_n 0, 1) := by decide +kernel
theorem dX7_door_53 : decode cX7_door 53 = .ok (.getfield 10, 3) := by decide +kernel
theorem dX7_door_56 : decode cX7_door 56 = .ok (.iload_n 3, 1) := by decide +kernel
theorem dX7_door_57 : decode cX7_door 57 = .ok (.invokevirtual 108, 3) := by decide +kernel
theorem dX7_door_60 : decode cX7_door 60 = .ok (.iconst (-1), 1) := by decide +kernel
theorem dX7_door_61 : decode cX7_door 61 = .ok (.if_icmp .eq 10, 3) := by decide +kernel
theorem dX7_door_64 : decode cX7_door 64 = .ok (.aload_n 0, 1) := by decide +kernel
theorem dX7_door_65 : decode cX7_door 65 = .ok (.bipush (-3), 2) := by decide +kernel
theorem dX7_door_67 : decode cX7_door 67 = .ok (.invokevirtual 88, 3) := by decide +kernel
theorem dX7_door_70 : decode cX7_door 70 = .ok (.ireturn, 1) := by decide +kernel
theorem dX7_door_71 : decode cX7_door 71 = .ok (.aload_n 0, 1) := by decide +kernel
theorem dX7_door_72 : decode cX7_door 72 = .ok (.getfield 10, 3) := by decide +kernel
theorem dX7_door_75 : decode cX7_door 75 = .ok (.getfield 111, 3) := by decide +kernel
theorem dX7_door_78 : decode cX7_door 78 = .ok (.bipush 8, 2) := by decide +kernel
theorem dX7_door_80 : decode cX7_door 80 = .ok (.if_icmp .lt 10, 3) := by decide +kernel
theorem dX7_door_83 : decode cX7_door 83 = .ok (.aload_n 0, 1) := by decide +kernel
theorem dX7_door_84 : decode cX7_door 84 = .ok (.bipush (-5), 2) := by decide +kernel
theorem dX7_door_86 : decode cX7_door 86 = .ok (.invokevirtual 88, 3) := by decide +kernel
theorem dX7_door_89 : decode cX7_door 89 = .ok (.ireturn, 1) := by decide +kernel
theorem dX7_door_90 : decode cX7_door 90 = .ok (.aload_n 0, 1) := by decide +kernel
theorem dX7_door_91 : decode cX7_door 91 = .ok (.getfield 10, 3) := by decide +kernel
theorem dX7_door_94 : decode cX7_door 94 = .ok (.getfield 111, 3) := by decide +kernel
theorem dX7_door_97 : decode cX7_door 97 = .ok (.istore 5, 2) := by decide +kernel
theorem dX7_door_99 : decode cX7_door 99 = .ok (.aload_n 0, 1) := by decide +kernel
theorem dX7_door_100 : decode cX7_door 100 = .ok (.getfield 10, 3) := by decide +kernel
theorem dX7_door_103 : decode cX7_door 103 = .ok (.getfield 114, 3) := by decide +kernel
theorem dX7_door_106 : decode cX7_door 106 = .ok (.iload 5, 2) := by decide +kernel
theorem dX7_door_108 : decode cX7_door 108 = .ok (.iload_n 1, 1) := by decide +kernel
theorem dX7_door_109 : decode cX7_door 109 = .ok (.iastore, 1) := by decide +kernel
theorem dX7_door_110 : decode cX7_door 110 = .ok (.aload_n 0, 1) := by decide +kernel
theorem dX7_door_111 : decode cX7_door 111 = .ok (.getfield 10, 3) := by decide +kernel
theorem dX7_door_114 : decode cX7_door 114 = .ok (.getfield 117, 3) := by decide +kernel
theorem dX7_door_117 : decode cX7_door 117 = .ok (.iload 5, 2) := by decide +kernel
theorem dX7_door_119 : decode cX7_door 119 = .ok (.iload_n 2, 1) := by decide +kernel
theorem dX7_door_120 : decode cX7_door 120 = .ok (.iastore, 1) := by decide +kernel
theorem dX7_door_121 : decode cX7_door 121 = .ok (.aload_n 0, 1) := by decide +kernel
theorem dX7_door_122 : decode cX7_door 122 = .ok (.getfield 10, 3) := by decide +kernel
theorem dX7_door_125 : decode cX7_door 125 = .ok (.getfield 120, 3) := by decide +kernel
theorem dX7_door_128 : decode cX7_door 128 = .ok (.iload 5, 2) := by decide +kernel
theorem dX7_door_130 : decode cX7_door 130 = .ok (.iload_n 3, 1) := by decide +kernel
theorem dX7_door_131 : decode cX7_door 131 = .ok (.iastore, 1) := by decide +kernel
theorem dX7_door_132 : decode cX7_door 132 = .ok (.aload_n 0, 1) := by decide +kernel
theorem dX7_door_133 : decode cX7_door 133 = .ok (.getfield 10, 3) := by decide +kernel
theorem dX7_door_136 : decode cX7_door 136 = .ok (.getfield 123, 3) := by decide +kernel
theorem dX7_door_139 : decode cX7_door 139 = .ok (.iload 5, 2) := by decide +kernel
theorem dX7_door_141 : decode cX7_door 141 = .ok (.iload 4, 2) := by decide +kernel
theorem dX7_door_143 : decode cX7_door 143 = .ok (.iastore, 1) := by decide +kernel
theorem dX7_door_144 : decode cX7_door 144 = .ok (.aload_n 0, 1) := by decide +kernel
theorem dX7_door_145 : decode cX7_door 145 = .ok (.getfield 10, 3) := by decide +kernel
theorem dX7_door_148 : decode cX7_door 148 = .ok (.getfield 126, 3) := by decide +kernel
theorem dX7_door_151 : decode cX7_door 151 = .ok (.iload 5, 2) := by decide +kernel
theorem dX7_door_153 : decode cX7_door 153 = .ok (.iload_n 3, 1) := by decide +kernel
theorem dX7_door_154 : decode cX7_door 154 = .ok (.iastore, 1) := by decide +kernel
theorem dX7_door_155 : decode cX7_door 155 = .ok (.aload_n 0, 1) := by decide +kernel
theorem dX7_door_156 : decode cX7_door 156 = .ok (.getfield 10, 3) := by decide +kernel
theorem dX7_door_159 : decode cX7_door 159 = .ok (.getfield 129, 3) := by decide +kernel
theorem dX7_door_162 : decode cX7_door 162 = .ok (.iload 5, 2) := by decide +kernel
theorem dX7_door_164 : decode cX7_door 164 = .ok (.iconst (-1), 1) := by decide +kernel
theorem dX7_door_165 : decode cX7_door 165 = .ok (.iastore, 1) := by decide +kernel
theorem dX7_door_166 : decode cX7_door 166 = .ok (.aload_n 0, 1) := by decide +kernel
theorem dX7_door_167 : decode cX7_door 167 = .ok (.getfield 10, 3) := by decide +kernel
theorem dX7_door_170 : decode cX7_door 170 = .ok (.getfield 132, 3) := by decide +kernel
theorem dX7_door_173 : decode cX7_door 173 = .ok (.iload 5, 2) := by decide +kernel
theorem dX7_door_175 : decode cX7_door 175 = .ok (.iconst 0, 1) := by decide +kernel
theorem dX7_door_176 : decode cX7_door 176 = .ok (.iastore, 1) := by decide +kernel
theorem dX7_door_177 : decode cX7_door 177 = .ok (.aload_n 0, 1) := by decide +kernel
theorem dX7_door_178 : decode cX7_door 178 = .ok (.getfield 10, 3) := by decide +kernel
theorem dX7_door_181 : decode cX7_door 181 = .ok (.dup, 1) := by decide +kernel
theorem dX7_door_182 : decode cX7_door 182 = .ok (.getfield 111, 3) := by decide +kernel
theorem dX7_door_185 : decode cX7_door 185 = .ok (.iconst 1, 1) := by decide +kernel
theorem dX7_door_186 : decode cX7_door 186 = .ok (.iadd, 1) := by decide +kernel
theorem dX7_door_187 : decode cX7_door 187 = .ok (.putfield 111, 3) := by decide +kernel
theorem dX7_door_190 : decode cX7_door 190 = .ok (.aload_n 0, 1) := by decide +kernel
theorem dX7_door_191 : decode cX7_door 191 = .ok (.getfield 57, 3) := by decide +kernel
theorem dX7_door_194 : decode cX7_door 194 = .ok (.iconst 0, 1) := by decide +kernel
theorem dX7_door_195 : decode cX7_door 195 = .ok (.putfield 135, 3) := by decide +kernel
theorem dX7_door_198 : decode cX7_door 198 = .ok (.aload_n 0, 1) := by decide +kernel
theorem dX7_door_199 : decode cX7_door 199 = .ok (.iload 5, 2) := by decide +kernel
theorem dX7_door_201 : decode cX7_door 201 = .ok (.invokevirtual 98, 3) := by decide +kernel
theorem dX7_door_204 : decode cX7_door 204 = .ok (.ireturn, 1) := by decide +kernel
theorem dX7_of_0 : decode cX7_of 0 = .ok (.aload_n 0, 1) := by decide +kernel
theorem dX7_of_1 : decode cX7_of 1 = .ok (.getfield 10, 3) := by decide +kernel
theorem dX7_of_4 : decode cX7_of 4 = .ok (.iload_n 1, 1) := by decide +kernel
theorem dX7_of_5 : decode cX7_of 5 = .ok (.invokevirtual 138, 3) := by decide +kernel
theorem dX7_of_8 : decode cX7_of 8 = .ok (.ifCond .ne 5, 3) := by decide +kernel
theorem dX7_of_11 : decode cX7_of 11 = .ok (.iconst (-1), 1) := by decide +kernel
theorem dX7_of_12 : decode cX7_of 12 = .ok (.ireturn, 1) := by decide +kernel
theorem dX7_of_13 : decode cX7_of 13 = .ok (.iload_n 2, 1) := by decide +kernel
theorem dX7_of_14 : decode cX7_of 14 = .ok (.tableswitch 158 0 8 #[50, 60, 70, 80, 90, 100, 110, 120, 137], 50) := by decide +kernel
theorem dX7_of_64 : decode cX7_of 64 = .ok (.aload_n 0, 1) := by decide +kernel
theorem dX7_of_65 : decode cX7_of 65 = .ok (.getfield 10, 3) := by decide +kernel
theorem dX7_of_68 : decode cX7_of 68 = .ok (.getfield 114, 3) := by decide +kernel
theorem dX7_of_71 : decode cX7_of 71 = .ok (.iload_n 1, 1) := by decide +kernel
theorem dX7_of_72 : decode cX7_of 72 = .ok (.iaload, 1) := by decide +kernel
theorem dX7_of_73 : decode cX7_of 73 = .ok (.ireturn, 1) := by decide +kernel
theorem dX7_of_74 : decode cX7_of 74 = .ok (.aload_n 0, 1) := by decide +kernel
theorem dX7_of_75 : decode cX7_of 75 = .ok (.getfield 10, 3) := by decide +kernel
theorem dX7_of_78 : decode cX7_of 78 = .ok (.getfield 117, 3) := by decide +kernel
theorem dX7_of_81 : decode cX7_of 81 = .ok (.iload_n 1, 1) := by decide +kernel
theorem dX7_of_82 : decode cX7_of 82 = .ok (.iaload, 1) := by decide +kernel
theorem dX7_of_83 : decode cX7_of 83 = .ok (.ireturn, 1) := by decide +kernel
theorem dX7_of_84 : decode cX7_of 84 = .ok (.aload_n 0, 1) := by decide +kernel
theorem dX7_of_85 : decode cX7_of 85 = .ok (.getfield 10, 3) := by decide +kernel
theorem dX7_of_88 : decode cX7_of 88 = .ok (.getfield 120, 3) := by decide +kernel
theorem dX7_of_91 : decode cX7_of 91 = .ok (.iload_n 1, 1) := by decide +kernel
theorem dX7_of_92 : decode cX7_of 92 = .ok (.iaload, 1) := by decide +kernel
theorem dX7_of_93 : decode cX7_of 93 = .ok (.ireturn, 1) := by decide +kernel
theorem dX7_of_94 : decode cX7_of 94 = .ok (.aload_n 0, 1) := by decide +kernel
theorem dX7_of_95 : decode cX7_of 95 = .ok (.getfield 10, 3) := by decide +kernel
theorem dX7_of_98 : decode cX7_of 98 = .ok (.getfield 123, 3) := by decide +kernel
theorem dX7_of_101 : decode cX7_of 101 = .ok (.iload_n 1, 1) := by decide +kernel
theorem dX7_of_102 : decode cX7_of 102 = .ok (.iaload, 1) := by decide +kernel
theorem dX7_of_103 : decode cX7_of 103 = .ok (.ireturn, 1) := by decide +kernel
theorem dX7_of_104 : decode cX7_of 104 = .ok (.aload_n 0, 1) := by decide +kernel
theorem dX7_of_105 : decode cX7_of 105 = .ok (.getfield 10, 3) := by decide +kernel
theorem dX7_of_108 : decode cX7_of 108 = .ok (.getfield 126, 3) := by decide +kernel
theorem dX7_of_111 : decode cX7_of 111 = .ok (.iload_n 1, 1) := by decide +kernel
theorem dX7_of_112 : decode cX7_of 112 = .ok (.iaload, 1) := by decide +kernel
theorem dX7_of_113 : decode cX7_of 113 = .ok (.ireturn, 1) := by decide +kernel
theorem dX7_of_114 : decode cX7_of 114 = .ok (.aload_n 0, 1) := by decide +kernel
theorem dX7_of_115 : decode cX7_of 115 = .ok (.getfield 10, 3) := by decide +kernel
theorem dX7_of_118 : decode cX7_of 118 = .ok (.getfield 129, 3) := by decide +kernel
theorem dX7_of_121 : decode cX7_of 121 = .ok (.iload_n 1, 1) := by decide +kernel
theorem dX7_of_122 : decode cX7_of 122 = .ok (.iaload, 1) := by decide +kernel
theorem dX7_of_123 : decode cX7_of 123 = .ok (.ireturn, 1) := by decide +kernel
theorem dX7_of_124 : decode cX7_of 124 = .ok (.aload_n 0, 1) := by decide +kernel
theorem dX7_of_125 : decode cX7_of 125 = .ok (.getfield 10, 3) := by decide +kernel
theorem dX7_of_128 : decode cX7_of 128 = .ok (.getfield 132, 3) := by decide +kernel
theorem dX7_of_131 : decode cX7_of 131 = .ok (.iload_n 1, 1) := by decide +kernel
theorem dX7_of_132 : decode cX7_of 132 = .ok (.iaload, 1) := by decide +kernel
theorem dX7_of_133 : decode cX7_of 133 = .ok (.ireturn, 1) := by decide +kernel
theorem dX7_of_134 : decode cX7_of 134 = .ok (.aload_n 0, 1) := by decide +kernel
theorem dX7_of_135 : decode cX7_of 135 = .ok (.getfield 10, 3) := by decide +kernel
theorem dX7_of_138 : decode cX7_of 138 = .ok (.iload_n 1, 1) := by decide +kernel
theorem dX7_of_139 : decode cX7_of 139 = .ok (.invokevirtual 141, 3) := by decide +kernel
theorem dX7_of_142 : decode cX7_of 142 = .ok (.ifCond .eq 7, 3) := by decide +kernel
theorem dX7_of_145 : decode cX7_of 145 = .ok (.iconst 1, 1) := by decide +kernel
theorem dX7_of_146 : decode cX7_of 146 = .ok (.goto 4, 3) := by decide +kernel
theorem dX7_of_149 : decode cX7_of 149 = .ok (.iconst 0, 1) := by decide +kernel
theorem dX7_of_150 : decode cX7_of 150 = .ok (.ireturn, 1) := by decide +kernel
theorem dX7_of_151 : decode cX7_of 151 = .ok (.aload_n 0, 1) := by decide +kernel
theorem dX7_of_152 : decode cX7_of 152 = .ok (.getfield 50, 3) := by decide +kernel
theorem dX7_of_155 : decode cX7_of 155 = .ok (.aload_n 0, 1) := by decide +kernel
theorem dX7_of_156 : decode cX7_of 156 = .ok (.getfield 10, 3) := by decide +kernel
theorem dX7_of_159 : decode cX7_of 159 = .ok (.iload_n 1, 1) := by decide +kernel
theorem dX7_of_160 : decode cX7_of 160 = .ok (.invokevirtual 144, 3) := by decide +kernel
theorem dX7_of_163 : decode cX7_of 163 = .ok (.ifCond .eq 7, 3) := by decide +kernel
theorem dX7_of_166 : decode cX7_of 166 = .ok (.iconst 1, 1) := by decide +kernel
theorem dX7_of_167 : decode cX7_of 167 = .ok (.goto 4, 3) := by decide +kernel
theorem dX7_of_170 : decode cX7_of 170 = .ok (.iconst 0, 1) := by decide +kernel
theorem dX7_of_171 : decode cX7_of 171 = .ok (.ireturn, 1) := by decide +kernel
theorem dX7_of_172 : decode cX7_of 172 = .ok (.iconst (-1), 1) := by decide +kernel
theorem dX7_of_173 : decode cX7_of 173 = .ok (.ireturn, 1) := by decide +kernel
theorem dX7_frame_0 : decode cX7_frame 0 = .ok (.aload_n 0, 1) := by decide +kernel
theorem dX7_frame_1 : decode cX7_frame 1 = .ok (.getfield 10, 3) := by decide +kernel
theorem dX7_frame_4 : decode cX7_frame 4 = .ok (.iload_n 1, 1) := by decide +kernel
theorem dX7_frame_5 : decode cX7_frame 5 = .ok (.invokevirtual 105, 3) := by decide +kernel
theorem dX7_frame_8 : decode cX7_frame 8 = .ok (.ifCond .ne 5, 3) := by decide +kernel
theorem dX7_frame_11 : decode cX7_frame 11 = .ok (.iconst (-1), 1) := by decide +kernel
theorem dX7_frame_12 : decode cX7_frame 12 = .ok (.ireturn, 1) := by decide +kernel
theorem dX7_frame_13 : decode cX7_frame 13 = .ok (.iload_n 2, 1) := by decide +kernel
theorem dX7_frame_14 : decode cX7_frame 14 = .ok (.ifCond .ne 13, 3) := by decide +kernel
theorem dX7_frame_17 : decode cX7_frame 17 = .ok (.aload_n 0, 1) := by decide +kernel
theorem dX7_frame_18 : decode cX7_frame 18 = .ok (.getfield 10, 3) := by decide +kernel
theorem dX7_frame_21 : decode cX7_frame 21 = .ok (.getfield 95, 3) := by decide +kernel
theorem dX7_frame_24 : decode cX7_frame 24 = .ok (.iload_n 1, 1) := by decide +kernel
theorem dX7_frame_25 : decode cX7_frame 25 = .ok (.iaload, 1) := by decide +kernel
theorem dX7_frame_26 : decode cX7_frame 26 = .ok (.ireturn, 1) := by decide +kernel
theorem dX7_frame_27 : decode cX7_frame 27 = .ok (.iload_n 2, 1) := by decide +kernel
theorem dX7_frame_28 : decode cX7_frame 28 = .ok (.iconst 1, 1) := by decide +kernel
theorem dX7_frame_29 : decode cX7_frame 29 = .ok (.if_icmp .ne 12, 3) := by decide +kernel
theorem dX7_frame_32 : decode cX7_frame 32 = .ok (.aload_n 0, 1) := by decide +kernel
theorem dX7_frame_33 : decode cX7_frame 33 = .ok (.getfield 10, 3) := by decide +kernel
theorem dX7_frame_36 : decode cX7_frame 36 = .ok (.iload_n 1, 1) := by decide +kernel
theorem dX7_frame_37 : decode cX7_frame 37 = .ok (.invokevirtual 108, 3) := by decide +kernel
theorem dX7_frame_40 : decode cX7_frame 40 = .ok (.ireturn, 1) := by decide +kernel
theorem dX7_frame_41 : decode cX7_frame 41 = .ok (.iload_n 2, 1) := by decide +kernel
theorem dX7_frame_42 : decode cX7_frame 42 = .ok (.iconst 2, 1) := by decide +kernel
theorem dX7_frame_43 : decode cX7_frame 43 = .ok (.if_icmp .lt 16, 3) := by decide +kernel
theorem dX7_frame_46 : decode cX7_frame 46 = .ok (.aload_n 0, 1) := by decide +kernel
theorem dX7_frame_47 : decode cX7_frame 47 = .ok (.getfield 10, 3) := by decide +kernel
theorem dX7_frame_50 : decode cX7_frame 50 = .ok (.iload_n 2, 1) := by decide +kernel
theorem dX7_frame_51 : decode cX7_frame 51 = .ok (.iconst 2, 1) := by decide +kernel
theorem dX7_frame_52 : decode cX7_frame 52 = .ok (.isub, 1) := by decide +kernel
theorem dX7_frame_53 : decode cX7_frame 53 = .ok (.invokevirtual 138, 3) := by decide +kernel
theorem dX7_frame_56 : decode cX7_frame 56 = .ok (.ifCond .ne 5, 3) := by decide +kernel
theorem dX7_frame_59 : decode cX7_frame 59 = .ok (.iconst (-1), 1) := by decide +kernel
theorem dX7_frame_60 : decode cX7_frame 60 = .ok (.ireturn, 1) := by decide +kernel
theorem dX7_frame_61 : decode cX7_frame 61 = .ok (.aload_n 0, 1) := by decide +kernel
theorem dX7_frame_62 : decode cX7_frame 62 = .ok (.getfield 50, 3) := by decide +kernel
theorem dX7_frame_65 : decode cX7_frame 65 = .ok (.aload_n 0, 1) := by decide +kernel
theorem dX7_frame_66 : decode cX7_frame 66 = .ok (.getfield 10, 3) := by decide +kernel
theorem dX7_frame_69 : decode cX7_frame 69 = .ok (.iload_n 2, 1) := by decide +kernel
theorem dX7_frame_70 : decode cX7_frame 70 = .ok (.iconst 2, 1) := by decide +kernel
theorem dX7_frame_71 : decode cX7_frame 71 = .ok (.isub, 1) := by decide +kernel
theorem dX7_frame_72 : decode cX7_frame 72 = .ok (.iload_n 1, 1) := by decide +kernel
theorem dX7_frame_73 : decode cX7_frame 73 = .ok (.invokevirtual 148, 3) := by decide +kernel
theorem dX7_frame_76 : decode cX7_frame 76 = .ok (.ifCond .eq 7, 3) := by decide +kernel
theorem dX7_frame_79 : decode cX7_frame 79 = .ok (.iconst 1, 1) := by decide +kernel
theorem dX7_frame_80 : decode cX7_frame 80 = .ok (.goto 4, 3) := by decide +kernel
theorem dX7_frame_83 : decode cX7_frame 83 = .ok (.iconst 0, 1) := by decide +kernel
theorem dX7_frame_84 : decode cX7_frame 84 = .ok (.ireturn, 1) := by decide +kernel
theorem dX7_put_0 : decode cX7_put 0 = .ok (.iload_n 1, 1) := by decide +kernel
theorem dX7_put_1 : decode cX7_put 1 = .ok (.invokestatic 152, 3) := by decide +kernel
theorem dX7_put_4 : decode cX7_put 4 = .ok (.ifCond .eq 7, 3) := by decide +kernel
theorem dX7_put_7 : decode cX7_put 7 = .ok (.iload_n 3, 1) := by decide +kernel
theorem dX7_put_8 : decode cX7_put 8 = .ok (.ifCond .ge 9, 3) := by decide +kernel
theorem dX7_put_11 : decode cX7_put 11 = .ok (.aload_n 0, 1) := by decide +kernel
theorem dX7_put_12 : decode cX7_put 12 = .ok (.iconst (-1), 1) := by decide +kernel
theorem dX7_put_13 : decode cX7_put 13 = .ok (.invokevirtual 88, 3) := by decide +kernel
theorem dX7_put_16 : decode cX7_put 16 = .ok (.ireturn, 1) := by decide +kernel
theorem dX7_put_17 : decode cX7_put 17 = .ok (.iload_n 2, 1) := by decide +kernel
theorem dX7_put_18 : decode cX7_put 18 = .ok (.ifCond .ne 45, 3) := by decide +kernel
theorem dX7_put_21 : decode cX7_put 21 = .ok (.iload_n 3, 1) := by decide +kernel
theorem dX7_put_22 : decode cX7_put 22 = .ok (.bipush 99, 2) := by decide +kernel
theorem dX7_put_24 : decode cX7_put 24 = .ok (.if_icmp .gt 39, 3) := by decide +kernel
theorem dX7_put_27 : decode cX7_put 27 = .ok (.aload_n 0, 1) := by decide +kernel
theorem dX7_put_28 : decode cX7_put 28 = .ok (.getfield 10, 3) := by decide +kernel
theorem dX7_put_31 : decode cX7_put 31 = .ok (.getfield 155, 3) := by decide +kernel
theorem dX7_put_34 : decode cX7_put 34 = .ok (.iload_n 1, 1) := by decide +kernel
theorem dX7_put_35 : decode cX7_put 35 = .ok (.iaload, 1) := by decide +kernel
theorem dX7_put_36 : decode cX7_put 36 = .ok (.istore 4, 2) := by decide +kernel
theorem dX7_put_38 : decode cX7_put 38 = .ok (.aload_n 0, 1) := by decide +kernel
theorem dX7_put_39 : decode cX7_put 39 = .ok (.getfield 10, 3) := by decide +kernel
theorem dX7_put_42 : decode cX7_put 42 = .ok (.getfield 155, 3) := by decide +kernel
theorem dX7_put_45 : decode cX7_put 45 = .ok (.iload_n 1, 1) := by decide +kernel
theorem dX7_put_46 : decode cX7_put 46 = .ok (.iload_n 3, 1) := by decide +kernel
theorem dX7_put_47 : decode cX7_put 47 = .ok (.iastore, 1) := by decide +kernel
theorem dX7_put_48 : decode cX7_put 48 = .ok (.aload_n 0, 1) := by decide +kernel
theorem dX7_put_49 : decode cX7_put 49 = .ok (.getfield 57, 3) := by decide +kernel
theorem dX7_put_52 : decode cX7_put 52 = .ok (.iconst 0, 1) := by decide +kernel
theorem dX7_put_53 : decode cX7_put 53 = .ok (.putfield 135, 3) := by decide +kernel
theorem dX7_put_56 : decode cX7_put 56 = .ok (.aload_n 0, 1) := by decide +kernel
theorem dX7_put_57 : decode cX7_put 57 = .ok (.iload 4, 2) := by decide +kernel
theorem dX7_put_59 : decode cX7_put 59 = .ok (.invokevirtual 98, 3) := by decide +kernel
theorem dX7_put_62 : decode cX7_put 62 = .ok (.ireturn, 1) := by decide +kernel
theorem dX7_put_63 : decode cX7_put 63 = .ok (.iload_n 2, 1) := by decide +kernel
theorem dX7_put_64 : decode cX7_put 64 = .ok (.iconst 1, 1) := by decide +kernel
theorem dX7_put_65 : decode cX7_put 65 = .ok (.if_icmp .ne 44, 3) := by decide +kernel
theorem dX7_put_68 : decode cX7_put 68 = .ok (.iload_n 3, 1) := by decide +kernel
theorem dX7_put_69 : decode cX7_put 69 = .ok (.iconst 4, 1) := by decide +kernel
theorem dX7_put_70 : decode cX7_put 70 = .ok (.if_icmp .gt 39, 3) := by decide +kernel
theorem dX7_put_73 : decode cX7_put 73 = .ok (.aload_n 0, 1) := by decide +kernel
theorem dX7_put_74 : decode cX7_put 74 = .ok (.getfield 10, 3) := by decide +kernel
theorem dX7_put_77 : decode cX7_put 77 = .ok (.getfield 158, 3) := by decide +kernel
theorem dX7_put_80 : decode cX7_put 80 = .ok (.iload_n 1, 1) := by decide +kernel
theorem dX7_put_81 : decode cX7_put 81 = .ok (.iaload, 1) := by decide +kernel
theorem dX7_put_82 : decode cX7_put 82 = .ok (.istore 4, 2) := by decide +kernel
theorem dX7_put_84 : decode cX7_put 84 = .ok (.aload_n 0, 1) := by decide +kernel
theorem dX7_put_85 : decode cX7_put 85 = .ok (.getfield 10, 3) := by decide +kernel
theorem dX7_put_88 : decode cX7_put 88 = .ok (.getfield 158, 3) := by decide +kernel
theorem dX7_put_91 : decode cX7_put 91 = .ok (.iload_n 1, 1) := by decide +kernel
theorem dX7_put_92 : decode cX7_put 92 = .ok (.iload_n 3, 1) := by decide +kernel
theorem dX7_put_93 : decode cX7_put 93 = .ok (.iastore, 1) := by decide +kernel
theorem dX7_put_94 : decode cX7_put 94 = .ok (.aload_n 0, 1) := by decide +kernel
theorem dX7_put_95 : decode cX7_put 95 = .ok (.getfield 57, 3) := by decide +kernel
theorem dX7_put_98 : decode cX7_put 98 = .ok (.iconst 0, 1) := by decide +kernel
theorem dX7_put_99 : decode cX7_put 99 = .ok (.putfield 135, 3) := by decide +kernel
theorem dX7_put_102 : decode cX7_put 102 = .ok (.aload_n 0, 1) := by decide +kernel
theorem dX7_put_103 : decode cX7_put 103 = .ok (.iload 4, 2) := by decide +kernel
theorem dX7_put_105 : decode cX7_put 105 = .ok (.invokevirtual 98, 3) := by decide +kernel
theorem dX7_put_108 : decode cX7_put 108 = .ok (.ireturn, 1) := by decide +kernel
theorem dX7_put_109 : decode cX7_put 109 = .ok (.aload_n 0, 1) := by decide +kernel
theorem dX7_put_110 : decode cX7_put 110 = .ok (.iconst (-1), 1) := by decide +kernel
theorem dX7_put_111 : decode cX7_put 111 = .ok (.invokevirtual 88, 3) := by decide +kernel
theorem dX7_put_114 : decode cX7_put 114 = .ok (.ireturn, 1) := by decide +kernel
theorem dX7_at_0 : decode cX7_at 0 = .ok (.iload_n 1, 1) := by decide +kernel
theorem dX7_at_1 : decode cX7_at 1 = .ok (.invokestatic 152, 3) := by decide +kernel
theorem dX7_at_4 : decode cX7_at 4 = .ok (.ifCond .ne 5, 3) := by decide +kernel
theorem dX7_at_7 : decode cX7_at 7 = .ok (.iconst (-1), 1) := by decide +kernel
theorem dX7_at_8 : decode cX7_at 8 = .ok (.ireturn, 1) := by decide +kernel
theorem dX7_at_9 : decode cX7_at 9 = .ok (.iload_n 2, 1) := by decide +kernel
theorem dX7_at_10 : decode cX7_at 10 = .ok (.ifCond .ne 13, 3) := by decide +kernel
theorem dX7_at_13 : decode cX7_at 13 = .ok (.aload_n 0, 1) := by decide +kernel
theorem dX7_at_14 : decode cX7_at 14 = .ok (.getfield 10, 3) := by decide +kernel
theorem dX7_at_17 : decode cX7_at 17 = .ok (.getfield 155, 3) := by decide +kernel
theorem dX7_at_20 : decode cX7_at 20 = .ok (.iload_n 1, 1) := by decide +kernel
theorem dX7_at_21 : decode cX7_at 21 = .ok (.iaload, 1) := by decide +kernel
theorem dX7_at_22 : decode cX7_at 22 = .ok (.ireturn, 1) := by decide +kernel
theorem dX7_at_23 : decode cX7_at 23 = .ok (.iload_n 2, 1) := by decide +kernel
theorem dX7_at_24 : decode cX7_at 24 = .ok (.iconst 1, 1) := by decide +kernel
theorem dX7_at_25 : decode cX7_at 25 = .ok (.if_icmp .ne 13, 3) := by decide +kernel
theorem dX7_at_28 : decode cX7_at 28 = .ok (.aload_n 0, 1) := by decide +kernel
theorem dX7_at_29 : decode cX7_at 29 = .ok (.getfield 10, 3) := by decide +kernel
theorem dX7_at_32 : decode cX7_at 32 = .ok (.getfield 158, 3) := by decide +kernel
theorem dX7_at_35 : decode cX7_at 35 = .ok (.iload_n 1, 1) := by decide +kernel
theorem dX7_at_36 : decode cX7_at 36 = .ok (.iaload, 1) := by decide +kernel
theorem dX7_at_37 : decode cX7_at 37 = .ok (.ireturn, 1) := by decide +kernel
theorem dX7_at_38 : decode cX7_at 38 = .ok (.iload_n 2, 1) := by decide +kernel
theorem dX7_at_39 : decode cX7_at 39 = .ok (.iconst 2, 1) := by decide +kernel
theorem dX7_at_40 : decode cX7_at 40 = .ok (.if_icmp .eq 5, 3) := by decide +kernel
theorem dX7_at_43 : decode cX7_at 43 = .ok (.iconst (-1), 1) := by decide +kernel
theorem dX7_at_44 : decode cX7_at 44 = .ok (.ireturn, 1) := by decide +kernel
theorem dX7_at_45 : decode cX7_at 45 = .ok (.iconst 0, 1) := by decide +kernel
theorem dX7_at_46 : decode cX7_at 46 = .ok (.istore_n 3, 1) := by decide +kernel
theorem dX7_at_47 : decode cX7_at 47 = .ok (.iconst 0, 1) := by decide +kernel
theorem dX7_at_48 : decode cX7_at 48 = .ok (.istore 4, 2) := by decide +kernel
theorem dX7_at_50 : decode cX7_at 50 = .ok (.iload 4, 2) := by decide +kernel
theorem dX7_at_52 : decode cX7_at 52 = .ok (.aload_n 0, 1) := by decide +kernel
theorem dX7_at_53 : decode cX7_at 53 = .ok (.getfield 10, 3) := by decide +kernel
theorem dX7_at_56 : decode cX7_at 56 = .ok (.getfield 111, 3) := by decide +kernel
theorem dX7_at_59 : decode cX7_at 59 = .ok (.if_icmp .ge 26, 3) := by decide +kernel
theorem dX7_at_62 : decode cX7_at 62 = .ok (.aload_n 0, 1) := by decide +kernel
theorem dX7_at_63 : decode cX7_at 63 = .ok (.getfield 10, 3) := by decide +kernel
theorem dX7_at_66 : decode cX7_at 66 = .ok (.getfield 129, 3) := by decide +kernel
theorem dX7_at_69 : decode cX7_at 69 = .ok (.iload 4, 2) := by decide +kernel
theorem dX7_at_71 : decode cX7_at 71 = .ok (.iaload, 1) := by decide +kernel
theorem dX7_at_72 : decode cX7_at 72 = .ok (.iload_n 1, 1) := by decide +kernel
theorem dX7_at_73 : decode cX7_at 73 = .ok (.if_icmp .ne 6, 3) := by decide +kernel
theorem dX7_at_76 : decode cX7_at 76 = .ok (.iinc 3 1, 3) := by decide +kernel
theorem dX7_at_79 : decode cX7_at 79 = .ok (.iinc 4 1, 3) := by decide +kernel
theorem dX7_at_82 : decode cX7_at 82 = .ok (.goto (-32), 3) := by decide +kernel
theorem dX7_at_85 : decode cX7_at 85 = .ok (.iload_n 3, 1) := by decide +kernel
theorem dX7_at_86 : decode cX7_at 86 = .ok (.ireturn, 1) := by decide +kernel
theorem dX7_asks_0 : decode cX7_asks 0 = .ok (.aload_n 0, 1) := by decide +kernel
theorem dX7_asks_1 : decode cX7_asks 1 = .ok (.getfield 10, 3) := by decide +kernel
theorem dX7_asks_4 : decode cX7_asks 4 = .ok (.iload_n 1, 1) := by decide +kernel
theorem dX7_asks_5 : decode cX7_asks 5 = .ok (.invokevirtual 138, 3) := by decide +kernel
theorem dX7_asks_8 : decode cX7_asks 8 = .ok (.ifCond .eq 10, 3) := by decide +kernel
theorem dX7_asks_11 : decode cX7_asks 11 = .ok (.iload_n 2, 1) := by decide +kernel
theorem dX7_asks_12 : decode cX7_asks 12 = .ok (.invokestatic 152, 3) := by decide +kernel
theorem dX7_asks_15 : decode cX7_asks 15 = .ok (.ifCond .ne 5, 3) := by decide +kernel
theorem dX7_asks_18 : decode cX7_asks 18 = .ok (.iconst (-1), 1) := by decide +kernel
theorem dX7_asks_19 : decode cX7_asks 19 = .ok (.ireturn, 1) := by decide +kernel
theorem dX7_asks_20 : decode cX7_asks 20 = .ok (.iload_n 3, 1) := by decide +kernel
theorem dX7_asks_21 : decode cX7_asks 21 = .ok (.ifCond .ne 26, 3) := by decide +kernel
theorem dX7_asks_24 : decode cX7_asks 24 = .ok (.aload_n 0, 1) := by decide +kernel
theorem dX7_asks_25 : decode cX7_asks 25 = .ok (.getfield 50, 3) := by decide +kernel
theorem dX7_asks_28 : decode cX7_asks 28 = .ok (.aload_n 0, 1) := by decide +kernel
theorem dX7_asks_29 : decode cX7_asks 29 = .ok (.getfield 10, 3) := by decide +kernel
theorem dX7_asks_32 : decode cX7_asks 32 = .ok (.iload_n 1, 1) := by decide +kernel
theorem dX7_asks_33 : decode cX7_asks 33 = .ok (.iload_n 2, 1) := by decide +kernel
theorem dX7_asks_34 : decode cX7_asks 34 = .ok (.aload_n 0, 1) := by decide +kernel
theorem dX7_asks_35 : decode cX7_asks 35 = .ok (.getfield 10, 3) := by decide +kernel
theorem dX7_asks_38 : decode cX7_asks 38 = .ok (.getfield 155, 3) := by decide +kernel
theorem dX7_asks_41 : decode cX7_asks 41 = .ok (.iload_n 2, 1) := by decide +kernel
theorem dX7_asks_42 : decode cX7_asks 42 = .ok (.iaload, 1) := by decide +kernel
theorem dX7_asks_43 : decode cX7_asks 43 = .ok (.invokevirtual 161, 3) := by decide +kernel
theorem dX7_asks_46 : decode cX7_asks 46 = .ok (.ireturn, 1) := by decide +kernel
theorem dX7_asks_47 : decode cX7_asks 47 = .ok (.iload_n 3, 1) := by decide +kernel
theorem dX7_asks_48 : decode cX7_asks 48 = .ok (.iconst 1, 1) := by decide +kernel
theorem dX7_asks_49 : decode cX7_asks 49 = .ok (.if_icmp .ne 17, 3) := by decide +kernel
theorem dX7_asks_52 : decode cX7_asks 52 = .ok (.aload_n 0, 1) := by decide +kernel
theorem dX7_asks_53 : decode cX7_asks 53 = .ok (.getfield 50, 3) := by decide +kernel
theorem dX7_asks_56 : decode cX7_asks 56 = .ok (.aload_n 0, 1) := by decide +kernel
theorem dX7_asks_57 : decode cX7_asks 57 = .ok (.getfield 10, 3) := by decide +kernel
theorem dX7_asks_60 : decode cX7_asks 60 = .ok (.iload_n 1, 1) := by decide +kernel
theorem dX7_asks_61 : decode cX7_asks 61 = .ok (.iload_n 2, 1) := by decide +kernel
theorem dX7_asks_62 : decode cX7_asks 62 = .ok (.invokevirtual 165, 3) := by decide +kernel
theorem dX7_asks_65 : decode cX7_asks 65 = .ok (.ireturn, 1) := by decide +kernel
theorem dX7_asks_66 : decode cX7_asks 66 = .ok (.iconst (-1), 1) := by decide +kernel
theorem dX7_asks_67 : decode cX7_asks 67 = .ok (.ireturn, 1) := by decide +kernel
theorem dX7_foe_0 : decode cX7_foe 0 = .ok (.iload_n 1, 1) := by decide +kernel
theorem dX7_foe_1 : decode cX7_foe 1 = .ok (.iconst 1, 1) := by decide +kernel
theorem dX7_foe_2 : decode cX7_foe 2 = .ok (.if_icmp .lt 9, 3) := by decide +kernel
theorem dX7_foe_5 : decode cX7_foe 5 = .ok (.iload_n 1, 1) := by decide +kernel
theorem dX7_foe_6 : decode cX7_foe 6 = .ok (.bipush 9, 2) := by decide +kernel
theorem dX7_foe_8 : decode cX7_foe 8 = .ok (.if_icmp .le 9, 3) := by decide +kernel
theorem dX7_foe_11 : decode cX7_foe 11 = .ok (.aload_n 0, 1) := by decide +kernel
theorem dX7_foe_12 : decode cX7_foe 12 = .ok (.iconst (-1), 1) := by decide +kernel
theorem dX7_foe_13 : decode cX7_foe 13 = .ok (.invokevirtual 88, 3) := by decide +kernel
theorem dX7_foe_16 : decode cX7_foe 16 = .ok (.ireturn, 1) := by decide +kernel
theorem dX7_foe_17 : decode cX7_foe 17 = .ok (.aload_n 0, 1) := by decide +kernel
theorem dX7_foe_18 : decode cX7_foe 18 = .ok (.getfield 10, 3) := by decide +kernel
theorem dX7_foe_21 : decode cX7_foe 21 = .ok (.getfield 169, 3) := by decide +kernel
theorem dX7_foe_24 : decode cX7_foe 24 = .ok (.bipush 8, 2) := by decide +kernel
theorem dX7_foe_26 : decode cX7_foe 26 = .ok (.if_icmp .lt 10, 3) := by decide +kernel
theorem dX7_foe_29 : decode cX7_foe 29 = .ok (.aload_n 0, 1) := by decide +kernel
theorem dX7_foe_30 : decode cX7_foe 30 = .ok (.bipush (-5), 2) := by decide +kernel
theorem dX7_foe_32 : decode cX7_foe 32 = .ok (.invokevirtual 88, 3) := by decide +kernel
theorem dX7_foe_35 : decode cX7_foe 35 = .ok (.ireturn, 1) := by decide +kernel
theorem dX7_foe_36 : decode cX7_foe 36 = .ok (.aload_n 0, 1) := by decide +kernel
theorem dX7_foe_37 : decode cX7_foe 37 = .ok (.getfield 10, 3) := by decide +kernel
theorem dX7_foe_40 : decode cX7_foe 40 = .ok (.getfield 172, 3) := by decide +kernel
theorem dX7_foe_43 : decode cX7_foe 43 = .ok (.aload_n 0, 1) := by decide +kernel
theorem dX7_foe_44 : decode cX7_foe 44 = .ok (.getfield 10, 3) := by decide +kernel
theorem dX7_foe_47 : decode cX7_foe 47 = .ok (.getfield 169, 3) := by decide +kernel
theorem dX7_foe_50 : decode cX7_foe 50 = .ok (.iload_n 1, 1) := by decide +kernel
theorem dX7_foe_51 : decode cX7_foe 51 = .ok (.iastore, 1) := by decide +kernel
theorem dX7_foe_52 : decode cX7_foe 52 = .ok (.aload_n 0, 1) := by decide +kernel
theorem dX7_foe_53 : decode cX7_foe 53 = .ok (.getfield 10, 3) := by decide +kernel
theorem dX7_foe_56 : decode cX7_foe 56 = .ok (.dup, 1) := by decide +kernel
theorem dX7_foe_57 : decode cX7_foe 57 = .ok (.getfield 169, 3) := by decide +kernel
theorem dX7_foe_60 : decode cX7_foe 60 = .ok (.iconst 1, 1) := by decide +kernel
theorem dX7_foe_61 : decode cX7_foe 61 = .ok (.iadd, 1) := by decide +kernel
theorem dX7_foe_62 : decode cX7_foe 62 = .ok (.putfield 169, 3) := by decide +kernel
theorem dX7_foe_65 : decode cX7_foe 65 = .ok (.aload_n 0, 1) := by decide +kernel
theorem dX7_foe_66 : decode cX7_foe 66 = .ok (.aload_n 0, 1) := by decide +kernel
theorem dX7_foe_67 : decode cX7_foe 67 = .ok (.getfield 10, 3) := by decide +kernel
theorem dX7_foe_70 : decode cX7_foe 70 = .ok (.getfield 169, 3) := by decide +kernel
theorem dX7_foe_73 : decode cX7_foe 73 = .ok (.iconst 1, 1) := by decide +kernel
theorem dX7_foe_74 : decode cX7_foe 74 = .ok (.isub, 1) := by decide +kernel
theorem dX7_foe_75 : decode cX7_foe 75 = .ok (.invokevirtual 98, 3) := by decide +kernel
theorem dX7_foe_78 : decode cX7_foe 78 = .ok (.ireturn, 1) := by decide +kernel
theorem dX7_peace_0 : decode cX7_peace 0 = .ok (.aload_n 0, 1) := by decide +kernel
theorem dX7_peace_1 : decode cX7_peace 1 = .ok (.getfield 10, 3) := by decide +kernel
theorem dX7_peace_4 : decode cX7_peace 4 = .ok (.getfield 169, 3) := by decide +kernel
theorem dX7_peace_7 : decode cX7_peace 7 = .ok (.istore_n 1, 1) := by decide +kernel
theorem dX7_peace_8 : decode cX7_peace 8 = .ok (.aload_n 0, 1) := by decide +kernel
theorem dX7_peace_9 : decode cX7_peace 9 = .ok (.getfield 10, 3) := by decide +kernel
theorem dX7_peace_12 : decode cX7_peace 12 = .ok (.iconst 0, 1) := by decide +kernel
theorem dX7_peace_13 : decode cX7_peace 13 = .ok (.putfield 169, 3) := by decide +kernel
theorem dX7_peace_16 : decode cX7_peace 16 = .ok (.iload_n 1, 1) := by decide +kernel
theorem dX7_peace_17 : decode cX7_peace 17 = .ok (.ireturn, 1) := by decide +kernel
theorem dX7_terms_0 : decode cX7_terms 0 = .ok (.iload_n 1, 1) := by decide +kernel
theorem dX7_terms_1 : decode cX7_terms 1 = .ok (.ifCond .ne 44, 3) := by decide +kernel
theorem dX7_terms_4 : decode cX7_terms 4 = .ok (.iload_n 2, 1) := by decide +kernel
theorem dX7_terms_5 : decode cX7_terms 5 = .ok (.ifCond .lt 40, 3) := by decide +kernel
theorem dX7_terms_8 : decode cX7_terms 8 = .ok (.iload_n 2, 1) := by decide +kernel
theorem dX7_terms_9 : decode cX7_terms 9 = .ok (.sipush 999, 3) := by decide +kernel
theorem dX7_terms_12 : decode cX7_terms 12 = .ok (.if_icmp .gt 33, 3) := by decide +kernel
theorem dX7_terms_15 : decode cX7_terms 15 = .ok (.aload_n 0, 1) := by decide +kernel
theorem dX7_terms_16 : decode cX7_terms 16 = .ok (.getfield 10, 3) := by decide +kernel
theorem dX7_terms_19 : decode cX7_terms 19 = .ok (.getfield 175, 3) := by decide +kernel
theorem dX7_terms_22 : decode cX7_terms 22 = .ok (.istore_n 3, 1) := by decide +kernel
theorem dX7_terms_23 : decode cX7_terms 23 = .ok (.aload_n 0, 1) := by decide +kernel
theorem dX7_terms_24 : decode cX7_terms 24 = .ok (.getfield 10, 3) := by decide +kernel
theorem dX7_terms_27 : decode cX7_terms 27 = .ok (.iload_n 2, 1) := by decide +kernel
theorem dX7_terms_28 : decode cX7_terms 28 = .ok (.putfield 175, 3) := by decide +kernel
theorem dX7_terms_31 : decode cX7_terms 31 = .ok (.aload_n 0, 1) := by decide +kernel
theorem dX7_terms_32 : decode cX7_terms 32 = .ok (.getfield 57, 3) := by decide +kernel
theorem dX7_terms_35 : decode cX7_terms 35 = .ok (.iconst 0, 1) := by decide +kernel
theorem dX7_terms_36 : decode cX7_terms 36 = .ok (.putfield 135, 3) := by decide +kernel
theorem dX7_terms_39 : decode cX7_terms 39 = .ok (.aload_n 0, 1) := by decide +kernel
theorem dX7_terms_40 : decode cX7_terms 40 = .ok (.iload_n 3, 1) := by decide +kernel
theorem dX7_terms_41 : decode cX7_terms 41 = .ok (.invokevirtual 98, 3) := by decide +kernel
theorem dX7_terms_44 : decode cX7_terms 44 = .ok (.ireturn, 1) := by decide +kernel
theorem dX7_terms_45 : decode cX7_terms 45 = .ok (.iload_n 1, 1) := by decide +kernel
theorem dX7_terms_46 : decode cX7_terms 46 = .ok (.iconst 1, 1) := by decide +kernel
theorem dX7_terms_47 : decode cX7_terms 47 = .ok (.if_icmp .ne 43, 3) := by decide +kernel
theorem dX7_terms_50 : decode cX7_terms 50 = .ok (.iload_n 2, 1) := by decide +kernel
theorem dX7_terms_51 : decode cX7_terms 51 = .ok (.ifCond .lt 39, 3) := by decide +kernel
theorem dX7_terms_54 : decode cX7_terms 54 = .ok (.iload_n 2, 1) := by decide +kernel
theorem dX7_terms_55 : decode cX7_terms 55 = .ok (.bipush 9, 2) := by decide +kernel
theorem dX7_terms_57 : decode cX7_terms 57 = .ok (.if_icmp .gt 33, 3) := by decide +kernel
theorem dX7_terms_60 : decode cX7_terms 60 = .ok (.aload_n 0, 1) := by decide +kernel
theorem dX7_terms_61 : decode cX7_terms 61 = .ok (.getfield 10, 3) := by decide +kernel
theorem dX7_terms_64 : decode cX7_terms 64 = .ok (.getfield 178, 3) := by decide +kernel
theorem dX7_terms_67 : decode cX7_terms 67 = .ok (.istore_n 3, 1) := by decide +kernel
theorem dX7_terms_68 : decode cX7_terms 68 = .ok (.aload_n 0, 1) := by decide +kernel
theorem dX7_terms_69 : decode cX7_terms 69 = .ok (.getfield 10, 3) := by decide +kernel
theorem dX7_terms_72 : decode cX7_terms 72 = .ok (.iload_n 2, 1) := by decide +kernel
theorem dX7_terms_73 : decode cX7_terms 73 = .ok (.putfield 178, 3) := by decide +kernel
theorem dX7_terms_76 : decode cX7_terms 76 = .ok (.aload_n 0, 1) := by decide +kernel
theorem dX7_terms_77 : decode cX7_terms 77 = .ok (.getfield 57, 3) := by decide +kernel
theorem dX7_terms_80 : decode cX7_terms 80 = .ok (.iconst 0, 1) := by decide +kernel
theorem dX7_terms_81 : decode cX7_terms 81 = .ok (.putfield 135, 3) := by decide +kernel
theorem dX7_terms_84 : decode cX7_terms 84 = .ok (.aload_n 0, 1) := by decide +kernel
theorem dX7_terms_85 : decode cX7_terms 85 = .ok (.iload_n 3, 1) := by decide +kernel
theorem dX7_terms_86 : decode cX7_terms 86 = .ok (.invokevirtual 98, 3) := by decide +kernel
theorem dX7_terms_89 : decode cX7_terms 89 = .ok (.ireturn, 1) := by decide +kernel
theorem dX7_terms_90 : decode cX7_terms 90 = .ok (.aload_n 0, 1) := by decide +kernel
theorem dX7_terms_91 : decode cX7_terms 91 = .ok (.iconst (-1), 1) := by decide +kernel
theorem dX7_terms_92 : decode cX7_terms 92 = .ok (.invokevirtual 88, 3) := by decide +kernel
theorem dX7_terms_95 : decode cX7_terms 95 = .ok (.ireturn, 1) := by decide +kernel
theorem dX7_feed_0 : decode cX7_feed 0 = .ok (.aload_n 0, 1) := by decide +kernel
theorem dX7_feed_1 : decode cX7_feed 1 = .ok (.getfield 36, 3) := by decide +kernel
theorem dX7_feed_4 : decode cX7_feed 4 = .ok (.getfield 181, 3) := by decide +kernel
theorem dX7_feed_7 : decode cX7_feed 7 = .ok (.bipush 20, 2) := by decide +kernel
theorem dX7_feed_9 : decode cX7_feed 9 = .ok (.iadd, 1) := by decide +kernel
theorem dX7_feed_10 : decode cX7_feed 10 = .ok (.sipush 400, 3) := by decide +kernel
theorem dX7_feed_13 : decode cX7_feed 13 = .ok (.if_icmp .le 5, 3) := by decide +kernel
theorem dX7_feed_16 : decode cX7_feed 16 = .ok (.iconst (-1), 1) := by decide +kernel
theorem dX7_feed_17 : decode cX7_feed 17 = .ok (.ireturn, 1) := by decide +kernel
theorem dX7_feed_18 : decode cX7_feed 18 = .ok (.aload_n 0, 1) := by decide +kernel
theorem dX7_feed_19 : decode cX7_feed 19 = .ok (.getfield 36, 3) := by decide +kernel
theorem dX7_feed_22 : decode cX7_feed 22 = .ok (.iload_n 1, 1) := by decide +kernel
theorem dX7_feed_23 : decode cX7_feed 23 = .ok (.invokevirtual 184, 3) := by decide +kernel
theorem dX7_feed_26 : decode cX7_feed 26 = .ok (.aload_n 0, 1) := by decide +kernel
theorem dX7_feed_27 : decode cX7_feed 27 = .ok (.getfield 36, 3) := by decide +kernel
theorem dX7_feed_30 : decode cX7_feed 30 = .ok (.iload_n 2, 1) := by decide +kernel
theorem dX7_feed_31 : decode cX7_feed 31 = .ok (.invokevirtual 184, 3) := by decide +kernel
theorem dX7_feed_34 : decode cX7_feed 34 = .ok (.aload_n 0, 1) := by decide +kernel
theorem dX7_feed_35 : decode cX7_feed 35 = .ok (.getfield 36, 3) := by decide +kernel
theorem dX7_feed_38 : decode cX7_feed 38 = .ok (.iload_n 3, 1) := by decide +kernel
theorem dX7_feed_39 : decode cX7_feed 39 = .ok (.invokevirtual 184, 3) := by decide +kernel
theorem dX7_feed_42 : decode cX7_feed 42 = .ok (.aload_n 0, 1) := by decide +kernel
theorem dX7_feed_43 : decode cX7_feed 43 = .ok (.getfield 36, 3) := by decide +kernel
theorem dX7_feed_46 : decode cX7_feed 46 = .ok (.iload 4, 2) := by decide +kernel
theorem dX7_feed_48 : decode cX7_feed 48 = .ok (.invokevirtual 184, 3) := by decide +kernel
theorem dX7_feed_51 : decode cX7_feed 51 = .ok (.aload_n 0, 1) := by decide +kernel
theorem dX7_feed_52 : decode cX7_feed 52 = .ok (.getfield 36, 3) := by decide +kernel
theorem dX7_feed_55 : decode cX7_feed 55 = .ok (.iload 5, 2) := by decide +kernel
theorem dX7_feed_57 : decode cX7_feed 57 = .ok (.invokevirtual 184, 3) := by decide +kernel
theorem dX7_feed_60 : decode cX7_feed 60 = .ok (.aload_n 0, 1) := by decide +kernel
theorem dX7_feed_61 : decode cX7_feed 61 = .ok (.getfield 36, 3) := by decide +kernel
theorem dX7_feed_64 : decode cX7_feed 64 = .ok (.getfield 181, 3) := by decide +kernel
theorem dX7_feed_67 : decode cX7_feed 67 = .ok (.ireturn, 1) := by decide +kernel
theorem dX7_end_0 : decode cX7_end 0 = .ok (.iload_n 1, 1) := by decide +kernel
theorem dX7_end_1 : decode cX7_end 1 = .ok (.ifCond .lt 14, 3) := by decide +kernel
theorem dX7_end_4 : decode cX7_end 4 = .ok (.iload_n 1, 1) := by decide +kernel
theorem dX7_end_5 : decode cX7_end 5 = .ok (.aload_n 0, 1) := by decide +kernel
theorem dX7_end_6 : decode cX7_end 6 = .ok (.getfield 36, 3) := by decide +kernel
theorem dX7_end_9 : decode cX7_end 9 = .ok (.getfield 181, 3) := by decide +kernel
theorem dX7_end_12 : decode cX7_end 12 = .ok (.if_icmp .le 5, 3) := by decide +kernel
theorem dX7_end_15 : decode cX7_end 15 = .ok (.iconst (-1), 1) := by decide +kernel
theorem dX7_end_16 : decode cX7_end 16 = .ok (.ireturn, 1) := by decide +kernel
theorem dX7_end_17 : decode cX7_end 17 = .ok (.aload_n 0, 1) := by decide +kernel
theorem dX7_end_18 : decode cX7_end 18 = .ok (.getfield 36, 3) := by decide +kernel
theorem dX7_end_21 : decode cX7_end 21 = .ok (.iload_n 1, 1) := by decide +kernel
theorem dX7_end_22 : decode cX7_end 22 = .ok (.putfield 181, 3) := by decide +kernel
theorem dX7_end_25 : decode cX7_end 25 = .ok (.iload_n 1, 1) := by decide +kernel
theorem dX7_end_26 : decode cX7_end 26 = .ok (.ireturn, 1) := by decide +kernel
theorem dX7_row_0 : decode cX7_row 0 = .ok (.aload_n 0, 1) := by decide +kernel
theorem dX7_row_1 : decode cX7_row 1 = .ok (.getfield 36, 3) := by decide +kernel
theorem dX7_row_4 : decode cX7_row 4 = .ok (.getfield 181, 3) := by decide +kernel
theorem dX7_row_7 : decode cX7_row 7 = .ok (.istore_n 1, 1) := by decide +kernel
theorem dX7_row_8 : decode cX7_row 8 = .ok (.aload_n 0, 1) := by decide +kernel
theorem dX7_row_9 : decode cX7_row 9 = .ok (.getfield 36, 3) := by decide +kernel
theorem dX7_row_12 : decode cX7_row 12 = .ok (.iconst 0, 1) := by decide +kernel
theorem dX7_row_13 : decode cX7_row 13 = .ok (.putfield 181, 3) := by decide +kernel
theorem dX7_row_16 : decode cX7_row 16 = .ok (.iload_n 1, 1) := by decide +kernel
theorem dX7_row_17 : decode cX7_row 17 = .ok (.ifCond .ne 10, 3) := by decide +kernel
theorem dX7_row_20 : decode cX7_row 20 = .ok (.aload_n 0, 1) := by decide +kernel
theorem dX7_row_21 : decode cX7_row 21 = .ok (.bipush (-6), 2) := by decide +kernel
theorem dX7_row_23 : decode cX7_row 23 = .ok (.invokevirtual 88, 3) := by decide +kernel
theorem dX7_row_26 : decode cX7_row 26 = .ok (.ireturn, 1) := by decide +kernel
theorem dX7_row_27 : decode cX7_row 27 = .ok (.iconst 0, 1) := by decide +kernel
theorem dX7_row_28 : decode cX7_row 28 = .ok (.istore_n 2, 1) := by decide +kernel
theorem dX7_row_29 : decode cX7_row 29 = .ok (.iconst 0, 1) := by decide +kernel
theorem dX7_row_30 : decode cX7_row 30 = .ok (.istore_n 3, 1) := by decide +kernel
theorem dX7_row_31 : decode cX7_row 31 = .ok (.iload_n 3, 1) := by decide +kernel
theorem dX7_row_32 : decode cX7_row 32 = .ok (.iconst 1, 1) := by decide +kernel
theorem dX7_row_33 : decode cX7_row 33 = .ok (.iadd, 1) := by decide +kernel
theorem dX7_row_34 : decode cX7_row 34 = .ok (.iload_n 1, 1) := by decide +kernel
theorem dX7_row_35 : decode cX7_row 35 = .ok (.if_icmp .ge 85, 3) := by decide +kernel
theorem dX7_row_38 : decode cX7_row 38 = .ok (.iload_n 3, 1) := by decide +kernel
theorem dX7_row_39 : decode cX7_row 39 = .ok (.iconst 2, 1) := by decide +kernel
theorem dX7_row_40 : decode cX7_row 40 = .ok (.idiv, 1) := by decide +kernel
theorem dX7_row_41 : decode cX7_row 41 = .ok (.istore 4, 2) := by decide +kernel
theorem dX7_row_43 : decode cX7_row 43 = .ok (.aload_n 0, 1) := by decide +kernel
theorem dX7_row_44 : decode cX7_row 44 = .ok (.getfield 36, 3) := by decide +kernel
theorem dX7_row_47 : decode cX7_row 47 = .ok (.getfield 188, 3) := by decide +kernel
theorem dX7_row_50 : decode cX7_row 50 = .ok (.iload_n 3, 1) := by decide +kernel
theorem dX7_row_51 : decode cX7_row 51 = .ok (.iaload, 1) := by decide +kernel
theorem dX7_row_52 : decode cX7_row 52 = .ok (.istore 5, 2) := by decide +kernel
theorem dX7_row_54 : decode cX7_row 54 = .ok (.aload_n 0, 1) := by decide +kernel
theorem dX7_row_55 : decode cX7_row 55 = .ok (.getfield 36, 3) := by decide +kernel
theorem dX7_row_58 : decode cX7_row 58 = .ok (.getfield 188, 3) := by decide +kernel
theorem dX7_row_61 : decode cX7_row 61 = .ok (.iload_n 3, 1) := by decide +kernel
theorem dX7_row_62 : decode cX7_row 62 = .ok (.iconst 1, 1) := by decide +kernel
theorem dX7_row_63 : decode cX7_row 63 = .ok (.iadd, 1) := by decide +kernel
theorem dX7_row_64 : decode cX7_row 64 = .ok (.iaload, 1) := by decide +kernel
theorem dX7_row_65 : decode cX7_row 65 = .ok (.istore 6, 2) := by decide +kernel
theorem dX7_row_67 : decode cX7_row 67 = .ok (.iload 4, 2) := by decide +kernel
theorem dX7_row_69 : decode cX7_row 69 = .ok (.bipush 25, 2) := by decide +kernel
theorem dX7_row_71 : decode cX7_row 71 = .ok (.if_icmp .ge 43, 3) := by decide +kernel
theorem dX7_row_74 : decode cX7_row 74 = .ok (.iload 5, 2) := by decide +kernel
theorem dX7_row_76 : decode cX7_row 76 = .ok (.bipush 99, 2) := by decide +kernel
theorem dX7_row_78 : decode cX7_row 78 = .ok (.if_icmp .gt 36, 3) := by decide +kernel
theorem dX7_row_81 : decode cX7_row 81 = .ok (.iload 6, 2) := by decide +kernel
theorem dX7_row_83 : decode cX7_row 83 = .ok (.iconst 4, 1) := by decide +kernel
theorem dX7_row_84 : decode cX7_row 84 = .ok (.if_icmp .gt 30, 3) := by decide +kernel
theorem dX7_row_87 : decode cX7_row 87 = .ok (.aload_n 0, 1) := by decide +kernel
theorem dX7_row_88 : decode cX7_row 88 = .ok (.getfield 10, 3) := by decide +kernel
theorem dX7_row_91 : decode cX7_row 91 = .ok (.getfield 155, 3) := by decide +kernel
theorem dX7_row_94 : decode cX7_row 94 = .ok (.iload 4, 2) := by decide +kernel
theorem dX7_row_96 : decode cX7_row 96 = .ok (.iload 5, 2) := by decide +kernel
theorem dX7_row_98 : decode cX7_row 98 = .ok (.iastore, 1) := by decide +kernel
theorem dX7_row_99 : decode cX7_row 99 = .ok (.aload_n 0, 1) := by decide +kernel
theorem dX7_row_100 : decode cX7_row 100 = .ok (.getfield 10, 3) := by decide +kernel
theorem dX7_row_103 : decode cX7_row 103 = .ok (.getfield 158, 3) := by decide +kernel
theorem dX7_row_106 : decode cX7_row 106 = .ok (.iload 4, 2) := by decide +kernel
theorem dX7_row_108 : decode cX7_row 108 = .ok (.iload 6, 2) := by decide +kernel
theorem dX7_row_110 : decode cX7_row 110 = .ok (.iastore, 1) := by decide +kernel
theorem dX7_row_111 : decode cX7_row 111 = .ok (.iinc 2 1, 3) := by decide +kernel
theorem dX7_row_114 : decode cX7_row 114 = .ok (.iinc 3 2, 3) := by decide +kernel
theorem dX7_row_117 : decode cX7_row 117 = .ok (.goto (-86), 3) := by decide +kernel
theorem dX7_row_120 : decode cX7_row 120 = .ok (.aload_n 0, 1) := by decide +kernel
theorem dX7_row_121 : decode cX7_row 121 = .ok (.iload_n 1, 1) := by decide +kernel
theorem dX7_row_122 : decode cX7_row 122 = .ok (.iconst 1, 1) := by decide +kernel
theorem dX7_row_123 : decode cX7_row 123 = .ok (.iadd, 1) := by decide +kernel
theorem dX7_row_124 : decode cX7_row 124 = .ok (.iconst 2, 1) := by decide +kernel
theorem dX7_row_125 : decode cX7_row 125 = .ok (.idiv, 1) := by decide +kernel
theorem dX7_row_126 : decode cX7_row 126 = .ok (.iload_n 2, 1) := by decide +kernel
theorem dX7_row_127 : decode cX7_row 127 = .ok (.isub, 1) := by decide +kernel
theorem dX7_row_128 : decode cX7_row 128 = .ok (.putfield 68, 3) := by decide +kernel
theorem dX7_row_131 : decode cX7_row 131 = .ok (.aload_n 0, 1) := by decide +kernel
theorem dX7_row_132 : decode cX7_row 132 = .ok (.getfield 57, 3) := by decide +kernel
theorem dX7_row_135 : decode cX7_row 135 = .ok (.iconst 0, 1) := by decide +kernel
theorem dX7_row_136 : decode cX7_row 136 = .ok (.putfield 135, 3) := by decide +kernel
theorem dX7_row_139 : decode cX7_row 139 = .ok (.aload_n 0, 1) := by decide +kernel
theorem dX7_row_140 : decode cX7_row 140 = .ok (.iload_n 2, 1) := by decide +kernel
theorem dX7_row_141 : decode cX7_row 141 = .ok (.invokevirtual 98, 3) := by decide +kernel
theorem dX7_row_144 : decode cX7_row 144 = .ok (.ireturn, 1) := by decide +kernel
theorem dX7_foam_0 : decode cX7_foam 0 = .ok (.aload_n 0, 1) := by decide +kernel
theorem dX7_foam_1 : decode cX7_foam 1 = .ok (.getfield 68, 3) := by decide +kernel
theorem dX7_foam_4 : decode cX7_foam 4 = .ok (.ireturn, 1) := by decide +kernel
theorem dX7_law_0 : decode cX7_law 0 = .ok (.aload_n 0, 1) := by decide +kernel
theorem dX7_law_1 : decode cX7_law 1 = .ok (.getfield 10, 3) := by decide +kernel
theorem dX7_law_4 : decode cX7_law 4 = .ok (.getfield 191, 3) := by decide +kernel
theorem dX7_law_7 : decode cX7_law 7 = .ok (.bipush 6, 2) := by decide +kernel
theorem dX7_law_9 : decode cX7_law 9 = .ok (.if_icmp .lt 18, 3) := by decide +kernel
theorem dX7_law_12 : decode cX7_law 12 = .ok (.aload_n 0, 1) := by decide +kernel
theorem dX7_law_13 : decode cX7_law 13 = .ok (.getfield 36, 3) := by decide +kernel
theorem dX7_law_16 : decode cX7_law 16 = .ok (.iconst 0, 1) := by decide +kernel
theorem dX7_law_17 : decode cX7_law 17 = .ok (.putfield 181, 3) := by decide +kernel
theorem dX7_law_20 : decode cX7_law 20 = .ok (.aload_n 0, 1) := by decide +kernel
theorem dX7_law_21 : decode cX7_law 21 = .ok (.bipush (-5), 2) := by decide +kernel
theorem dX7_law_23 : decode cX7_law 23 = .ok (.invokevirtual 88, 3) := by decide +kernel
theorem dX7_law_26 : decode cX7_law 26 = .ok (.ireturn, 1) := by decide +kernel
theorem dX7_law_27 : decode cX7_law 27 = .ok (.aload_n 0, 1) := by decide +kernel
theorem dX7_law_28 : decode cX7_law 28 = .ok (.getfield 43, 3) := by decide +kernel
theorem dX7_law_31 : decode cX7_law 31 = .ok (.aload_n 0, 1) := by decide +kernel
theorem dX7_law_32 : decode cX7_law 32 = .ok (.getfield 36, 3) := by decide +kernel
theorem dX7_law_35 : decode cX7_law 35 = .ok (.iconst 0, 1) := by decide +kernel
theorem dX7_law_36 : decode cX7_law 36 = .ok (.invokevirtual 194, 3) := by decide +kernel
theorem dX7_law_39 : decode cX7_law 39 = .ok (.ifCond .ne 10, 3) := by decide +kernel
theorem dX7_law_42 : decode cX7_law 42 = .ok (.aload_n 0, 1) := by decide +kernel
theorem dX7_law_43 : decode cX7_law 43 = .ok (.bipush (-6), 2) := by decide +kernel
theorem dX7_law_45 : decode cX7_law 45 = .ok (.invokevirtual 88, 3) := by decide +kernel
theorem dX7_law_48 : decode cX7_law 48 = .ok (.ireturn, 1) := by decide +kernel
theorem dX7_law_49 : decode cX7_law 49 = .ok (.aload_n 0, 1) := by decide +kernel
theorem dX7_law_50 : decode cX7_law 50 = .ok (.getfield 10, 3) := by decide +kernel
theorem dX7_law_53 : decode cX7_law 53 = .ok (.getfield 198, 3) := by decide +kernel
theorem dX7_law_56 : decode cX7_law 56 = .ok (.aload_n 0, 1) := by decide +kernel
theorem dX7_law_57 : decode cX7_law 57 = .ok (.getfield 10, 3) := by decide +kernel
theorem dX7_law_60 : decode cX7_law 60 = .ok (.getfield 191, 3) := by decide +kernel
theorem dX7_law_63 : decode cX7_law 63 = .ok (.aload_n 0, 1) := by decide +kernel
theorem dX7_law_64 : decode cX7_law 64 = .ok (.getfield 43, 3) := by decide +kernel
theorem dX7_law_67 : decode cX7_law 67 = .ok (.getfield 202, 3) := by decide +kernel
theorem dX7_law_70 : decode cX7_law 70 = .ok (.invokevirtual 206, 3) := by decide +kernel
theorem dX7_law_73 : decode cX7_law 73 = .ok (.aastore, 1) := by decide +kernel
theorem dX7_law_74 : decode cX7_law 74 = .ok (.aload_n 0, 1) := by decide +kernel
theorem dX7_law_75 : decode cX7_law 75 = .ok (.getfield 10, 3) := by decide +kernel
theorem dX7_law_78 : decode cX7_law 78 = .ok (.dup, 1) := by decide +kernel
theorem dX7_law_79 : decode cX7_law 79 = .ok (.getfield 191, 3) := by decide +kernel
theorem dX7_law_82 : decode cX7_law 82 = .ok (.iconst 1, 1) := by decide +kernel
theorem dX7_law_83 : decode cX7_law 83 = .ok (.iadd, 1) := by decide +kernel
theorem dX7_law_84 : decode cX7_law 84 = .ok (.putfield 191, 3) := by decide +kernel
theorem dX7_law_87 : decode cX7_law 87 = .ok (.aload_n 0, 1) := by decide +kernel
theorem dX7_law_88 : decode cX7_law 88 = .ok (.aload_n 0, 1) := by decide +kernel
theorem dX7_law_89 : decode cX7_law 89 = .ok (.getfield 10, 3) := by decide +kernel
theorem dX7_law_92 : decode cX7_law 92 = .ok (.getfield 191, 3) := by decide +kernel
theorem dX7_law_95 : decode cX7_law 95 = .ok (.iconst 1, 1) := by decide +kernel
theorem dX7_law_96 : decode cX7_law 96 = .ok (.isub, 1) := by decide +kernel
theorem dX7_law_97 : decode cX7_law 97 = .ok (.invokevirtual 98, 3) := by decide +kernel
theorem dX7_law_100 : decode cX7_law 100 = .ok (.ireturn, 1) := by decide +kernel
theorem dX7_orders_0 : decode cX7_orders 0 = .ok (.aload_n 0, 1) := by decide +kernel
theorem dX7_orders_1 : decode cX7_orders 1 = .ok (.iconst (-1), 1) := by decide +kernel
theorem dX7_orders_2 : decode cX7_orders 2 = .ok (.putfield 72, 3) := by decide +kernel
theorem dX7_orders_5 : decode cX7_orders 5 = .ok (.aload_n 0, 1) := by decide +kernel
theorem dX7_orders_6 : decode cX7_orders 6 = .ok (.getfield 43, 3) := by decide +kernel
theorem dX7_orders_9 : decode cX7_orders 9 = .ok (.aload_n 0, 1) := by decide +kernel
theorem dX7_orders_10 : decode cX7_orders 10 = .ok (.getfield 36, 3) := by decide +kernel
theorem dX7_orders_13 : decode cX7_orders 13 = .ok (.iconst 1, 1) := by decide +kernel
theorem dX7_orders_14 : decode cX7_orders 14 = .ok (.invokevirtual 194, 3) := by decide +kernel
theorem dX7_orders_17 : decode cX7_orders 17 = .ok (.ifCond .ne 10, 3) := by decide +kernel
theorem dX7_orders_20 : decode cX7_orders 20 = .ok (.aload_n 0, 1) := by decide +kernel
theorem dX7_orders_21 : decode cX7_orders 21 = .ok (.bipush (-6), 2) := by decide +kernel
theorem dX7_orders_23 : decode cX7_orders 23 = .ok (.invokevirtual 88, 3) := by decide +kernel
theorem dX7_orders_26 : decode cX7_orders 26 = .ok (.ireturn, 1) := by decide +kernel
theorem dX7_orders_27 : decode cX7_orders 27 = .ok (.aload_n 0, 1) := by decide +kernel
theorem dX7_orders_28 : decode cX7_orders 28 = .ok (.getfield 43, 3) := by decide +kernel
theorem dX7_orders_31 : decode cX7_orders 31 = .ok (.getfield 202, 3) := by decide +kernel
theorem dX7_orders_34 : decode cX7_orders 34 = .ok (.astore_n 1, 1) := by decide +kernel
theorem dX7_orders_35 : decode cX7_orders 35 = .ok (.aload_n 0, 1) := by decide +kernel
theorem dX7_orders_36 : decode cX7_orders 36 = .ok (.getfield 57, 3) := by decide +kernel
theorem dX7_orders_39 : decode cX7_orders 39 = .ok (.getfield 135, 3) := by decide +kernel
theorem dX7_orders_42 : decode cX7_orders 42 = .ok (.istore_n 2, 1) := by decide +kernel
theorem dX7_orders_43 : decode cX7_orders 43 = .ok (.aload_n 0, 1) := by decide +kernel
theorem dX7_orders_44 : decode cX7_orders 44 = .ok (.iconst 0, 1) := by decide +kernel
theorem dX7_orders_45 : decode cX7_orders 45 = .ok (.putfield 75, 3) := by decide +kernel
theorem dX7_orders_48 : decode cX7_orders 48 = .ok (.aload_n 0, 1) := by decide +kernel
theorem dX7_orders_49 : decode cX7_orders 49 = .ok (.iconst (-1), 1) := by decide +kernel
theorem dX7_orders_50 : decode cX7_orders 50 = .ok (.putfield 78, 3) := by decide +kernel
theorem dX7_orders_53 : decode cX7_orders 53 = .ok (.iconst 0, 1) := by decide +kernel
theorem dX7_orders_54 : decode cX7_orders 54 = .ok (.istore_n 3, 1) := by decide +kernel
theorem dX7_orders_55 : decode cX7_orders 55 = .ok (.iload_n 3, 1) := by decide +kernel
theorem dX7_orders_56 : decode cX7_orders 56 = .ok (.aload_n 1, 1) := by decide +kernel
theorem dX7_orders_57 : decode cX7_orders 57 = .ok (.getfield 212, 3) := by decide +kernel
theorem dX7_orders_60 : decode cX7_orders 60 = .ok (.if_icmp .ge 67, 3) := by decide +kernel
theorem dX7_orders_63 : decode cX7_orders 63 = .ok (.aload_n 1, 1) := by decide +kernel
theorem dX7_orders_64 : decode cX7_orders 64 = .ok (.iload_n 3, 1) := by decide +kernel
theorem dX7_orders_65 : decode cX7_orders 65 = .ok (.iconst 3, 1) := by decide +kernel
theorem dX7_orders_66 : decode cX7_orders 66 = .ok (.invokevirtual 215, 3) := by decide +kernel
theorem dX7_orders_69 : decode cX7_orders 69 = .ok (.istore 4, 2) := by decide +kernel
theorem dX7_orders_71 : decode cX7_orders 71 = .ok (.iconst 0, 1) := by decide +kernel
theorem dX7_orders_72 : decode cX7_orders 72 = .ok (.istore 5, 2) := by decide +kernel
theorem dX7_orders_74 : decode cX7_orders 74 = .ok (.iload 5, 2) := by decide +kernel
theorem dX7_orders_76 : decode cX7_orders 76 = .ok (.iload 4, 2) := by decide +kernel
theorem dX7_orders_78 : decode cX7_orders 78 = .ok (.if_icmp .ge 43, 3) := by decide +kernel
theorem dX7_orders_81 : decode cX7_orders 81 = .ok (.aload_n 0, 1) := by decide +kernel
theorem dX7_orders_82 : decode cX7_orders 82 = .ok (.aload_n 1, 1) := by decide +kernel
theorem dX7_orders_83 : decode cX7_orders 83 = .ok (.iload_n 3, 1) := by decide +kernel
theorem dX7_orders_84 : decode cX7_orders 84 = .ok (.invokevirtual 219, 3) := by decide +kernel
theorem dX7_orders_87 : decode cX7_orders 87 = .ok (.ifCond .ne 28, 3) := by decide +kernel
theorem dX7_orders_90 : decode cX7_orders 90 = .ok (.aload_n 0, 1) := by decide +kernel
theorem dX7_orders_91 : decode cX7_orders 91 = .ok (.getfield 57, 3) := by decide +kernel
theorem dX7_orders_94 : decode cX7_orders 94 = .ok (.iload_n 2, 1) := by decide +kernel
theorem dX7_orders_95 : decode cX7_orders 95 = .ok (.aload_n 0, 1) := by decide +kernel
theorem dX7_orders_96 : decode cX7_orders 96 = .ok (.getfield 10, 3) := by decide +kernel
theorem dX7_orders_99 : decode cX7_orders 99 = .ok (.invokevirtual 223, 3) := by decide +kernel
theorem dX7_orders_102 : decode cX7_orders 102 = .ok (.pop, 1) := by decide +kernel
theorem dX7_orders_103 : decode cX7_orders 103 = .ok (.aload_n 0, 1) := by decide +kernel
theorem dX7_orders_104 : decode cX7_orders 104 = .ok (.iload_n 3, 1) := by decide +kernel
theorem dX7_orders_105 : decode cX7_orders 105 = .ok (.putfield 72, 3) := by decide +kernel
theorem dX7_orders_108 : decode cX7_orders 108 = .ok (.aload_n 0, 1) := by decide +kernel
theorem dX7_orders_109 : decode cX7_orders 109 = .ok (.bipush (-3), 2) := by decide +kernel
theorem dX7_orders_111 : decode cX7_orders 111 = .ok (.invokevirtual 88, 3) := by decide +kernel
theorem dX7_orders_114 : decode cX7_orders 114 = .ok (.ireturn, 1) := by decide +kernel
theorem dX7_orders_115 : decode cX7_orders 115 = .ok (.iinc 5 1, 3) := by decide +kernel
theorem dX7_orders_118 : decode cX7_orders 118 = .ok (.goto (-44), 3) := by decide +kernel
theorem dX7_orders_121 : decode cX7_orders 121 = .ok (.iinc 3 1, 3) := by decide +kernel
theorem dX7_orders_124 : decode cX7_orders 124 = .ok (.goto (-69), 3) := by decide +kernel
theorem dX7_orders_127 : decode cX7_orders 127 = .ok (.aload_n 0, 1) := by decide +kernel
theorem dX7_orders_128 : decode cX7_orders 128 = .ok (.getfield 57, 3) := by decide +kernel
theorem dX7_orders_131 : decode cX7_orders 131 = .ok (.invokevirtual 227, 3) := by decide +kernel
theorem dX7_orders_134 : decode cX7_orders 134 = .ok (.aload_n 0, 1) := by decide +kernel
theorem dX7_orders_135 : decode cX7_orders 135 = .ok (.aload_n 0, 1) := by decide +kernel
theorem dX7_orders_136 : decode cX7_orders 136 = .ok (.getfield 75, 3) := by decide +kernel
theorem dX7_orders_139 : decode cX7_orders 139 = .ok (.invokevirtual 98, 3) := by decide +kernel
theorem dX7_orders_142 : decode cX7_orders 142 = .ok (.ireturn, 1) := by decide +kernel
theorem dX7_fault_0 : decode cX7_fault 0 = .ok (.aload_n 0, 1) := by decide +kernel
theorem dX7_fault_1 : decode cX7_fault 1 = .ok (.getfield 43, 3) := by decide +kernel
theorem dX7_fault_4 : decode cX7_fault 4 = .ok (.getfield 230, 3) := by decide +kernel
theorem dX7_fault_7 : decode cX7_fault 7 = .ok (.ireturn, 1) := by decide +kernel
theorem dX7_stopped_0 : decode cX7_stopped 0 = .ok (.aload_n 0, 1) := by decide +kernel
theorem dX7_stopped_1 : decode cX7_stopped 1 = .ok (.getfield 72, 3) := by decide +kernel
theorem dX7_stopped_4 : decode cX7_stopped 4 = .ok (.ireturn, 1) := by decide +kernel
theorem dX7_force_0 : decode cX7_force 0 = .ok (.iload_n 1, 1) := by decide +kernel
theorem dX7_force_1 : decode cX7_force 1 = .ok (.iconst (-1), 1) := by decide +kernel
theorem dX7_force_2 : decode cX7_force 2 = .ok (.if_icmp .lt 14, 3) := by decide +kernel
theorem dX7_force_5 : decode cX7_force 5 = .ok (.iload_n 1, 1) := by decide +kernel
theorem dX7_force_6 : decode cX7_force 6 = .ok (.aload_n 0, 1) := by decide +kernel
theorem dX7_force_7 : decode cX7_force 7 = .ok (.getfield 10, 3) := by decide +kernel
theorem dX7_force_10 : decode cX7_force 10 = .ok (.getfield 191, 3) := by decide +kernel
theorem dX7_force_13 : decode cX7_force 13 = .ok (.if_icmp .lt 10, 3) := by decide +kernel
theorem dX7_force_16 : decode cX7_force 16 = .ok (.aload_n 0, 1) := by decide +kernel
theorem dX7_force_17 : decode cX7_force 17 = .ok (.bipush (-2), 2) := by decide +kernel
theorem dX7_force_19 : decode cX7_force 19 = .ok (.invokevirtual 88, 3) := by decide +kernel
theorem dX7_force_22 : decode cX7_force 22 = .ok (.ireturn, 1) := by decide +kernel
theorem dX7_force_23 : decode cX7_force 23 = .ok (.aload_n 0, 1) := by decide +kernel
theorem dX7_force_24 : decode cX7_force 24 = .ok (.getfield 10, 3) := by decide +kernel
theorem dX7_force_27 : decode cX7_force 27 = .ok (.getfield 233, 3) := by decide +kernel
theorem dX7_force_30 : decode cX7_force 30 = .ok (.istore_n 2, 1) := by decide +kernel
theorem dX7_force_31 : decode cX7_force 31 = .ok (.aload_n 0, 1) := by decide +kernel
theorem dX7_force_32 : decode cX7_force 32 = .ok (.getfield 10, 3) := by decide +kernel
theorem dX7_force_35 : decode cX7_force 35 = .ok (.iload_n 1, 1) := by decide +kernel
theorem dX7_force_36 : decode cX7_force 36 = .ok (.putfield 233, 3) := by decide +kernel
theorem dX7_force_39 : decode cX7_force 39 = .ok (.aload_n 0, 1) := by decide +kernel
theorem dX7_force_40 : decode cX7_force 40 = .ok (.iload_n 2, 1) := by decide +kernel
theorem dX7_force_41 : decode cX7_force 41 = .ok (.invokevirtual 98, 3) := by decide +kernel
theorem dX7_force_44 : decode cX7_force 44 = .ok (.ireturn, 1) := by decide +kernel
theorem dX7_launch_0 : decode cX7_launch 0 = .ok (.aload_n 0, 1) := by decide +kernel
theorem dX7_launch_1 : decode cX7_launch 1 = .ok (.iconst 0, 1) := by decide +kernel
theorem dX7_launch_2 : decode cX7_launch 2 = .ok (.iload_n 1, 1) := by decide +kernel
theorem dX7_launch_3 : decode cX7_launch 3 = .ok (.iconst (-1), 1) := by decide +kernel
theorem dX7_launch_4 : decode cX7_launch 4 = .ok (.invokevirtual 236, 3) := by decide +kernel
theorem dX7_launch_7 : decode cX7_launch 7 = .ok (.ireturn, 1) := by decide +kernel
theorem dX7_sail_0 : decode cX7_sail 0 = .ok (.aload_n 0, 1) := by decide +kernel
theorem dX7_sail_1 : decode cX7_sail 1 = .ok (.iconst 1, 1) := by decide +kernel
theorem dX7_sail_2 : decode cX7_sail 2 = .ok (.iload_n 1, 1) := by decide +kernel
theorem dX7_sail_3 : decode cX7_sail 3 = .ok (.iload_n 2, 1) := by decide +kernel
theorem dX7_sail_4 : decode cX7_sail 4 = .ok (.invokevirtual 236, 3) := by decide +kernel
theorem dX7_sail_7 : decode cX7_sail 7 = .ok (.ireturn, 1) := by decide +kernel
theorem dX7_fish_0 : decode cX7_fish 0 = .ok (.aload_n 0, 1) := by decide +kernel
theorem dX7_fish_1 : decode cX7_fish 1 = .ok (.iconst 2, 1) := by decide +kernel
theorem dX7_fish_2 : decode cX7_fish 2 = .ok (.iload_n 1, 1) := by decide +kernel
theorem dX7_fish_3 : decode cX7_fish 3 = .ok (.iconst (-1), 1) := by decide +kernel
theorem dX7_fish_4 : decode cX7_fish 4 = .ok (.invokevirtual 236, 3) := by decide +kernel
theorem dX7_fish_7 : decode cX7_fish 7 = .ok (.ireturn, 1) := by decide +kernel
theorem dX7_hang_0 : decode cX7_hang 0 = .ok (.aload_n 0, 1) := by decide +kernel
theorem dX7_hang_1 : decode cX7_hang 1 = .ok (.iconst 3, 1) := by decide +kernel
theorem dX7_hang_2 : decode cX7_hang 2 = .ok (.iload_n 1, 1) := by decide +kernel
theorem dX7_hang_3 : decode cX7_hang 3 = .ok (.iload_n 2, 1) := by decide +kernel
theorem dX7_hang_4 : decode cX7_hang 4 = .ok (.invokevirtual 236, 3) := by decide +kernel
theorem dX7_hang_7 : decode cX7_hang 7 = .ok (.ireturn, 1) := by decide +kernel
theorem dX7_tide_0 : decode cX7_tide 0 = .ok (.aload_n 0, 1) := by decide +kernel
theorem dX7_tide_1 : decode cX7_tide 1 = .ok (.iconst 4, 1) := by decide +kernel
theorem dX7_tide_2 : decode cX7_tide 2 = .ok (.iconst (-1), 1) := by decide +kernel
theorem dX7_tide_3 : decode cX7_tide 3 = .ok (.iconst (-1), 1) := by decide +kernel
theorem dX7_tide_4 : decode cX7_tide 4 = .ok (.invokevirtual 236, 3) := by decide +kernel
theorem dX7_tide_7 : decode cX7_tide 7 = .ok (.ireturn, 1) := by decide +kernel
theorem dX7_undo_0 : decode cX7_undo 0 = .ok (.aload_n 0, 1) := by decide +kernel
theorem dX7_undo_1 : decode cX7_undo 1 = .ok (.getfield 57, 3) := by decide +kernel
theorem dX7_undo_4 : decode cX7_undo 4 = .ok (.getfield 135, 3) := by decide +kernel
theorem dX7_undo_7 : decode cX7_undo 7 = .ok (.ifCond .ne 10, 3) := by decide +kernel
theorem dX7_undo_10 : decode cX7_undo 10 = .ok (.aload_n 0, 1) := by decide +kernel
theorem dX7_undo_11 : decode cX7_undo 11 = .ok (.bipush (-3), 2) := by decide +kernel
theorem dX7_undo_13 : decode cX7_undo 13 = .ok (.invokevirtual 88, 3) := by decide +kernel
theorem dX7_undo_16 : decode cX7_undo 16 = .ok (.ireturn, 1) := by decide +kernel
theorem dX7_undo_17 : decode cX7_undo 17 = .ok (.aload_n 0, 1) := by decide +kernel
theorem dX7_undo_18 : decode cX7_undo 18 = .ok (.aload_n 0, 1) := by decide +kernel
theorem dX7_undo_19 : decode cX7_undo 19 = .ok (.getfield 57, 3) := by decide +kernel
theorem dX7_undo_22 : decode cX7_undo 22 = .ok (.aload_n 0, 1) := by decide +kernel
theorem dX7_undo_23 : decode cX7_undo 23 = .ok (.getfield 57, 3) := by decide +kernel
theorem dX7_undo_26 : decode cX7_undo 26 = .ok (.getfield 135, 3) := by decide +kernel
theorem dX7_undo_29 : decode cX7_undo 29 = .ok (.iconst 1, 1) := by decide +kernel
theorem dX7_undo_30 : decode cX7_undo 30 = .ok (.isub, 1) := by decide +kernel
theorem dX7_undo_31 : decode cX7_undo 31 = .ok (.aload_n 0, 1) := by decide +kernel
theorem dX7_undo_32 : decode cX7_undo 32 = .ok (.getfield 10, 3) := by decide +kernel
theorem dX7_undo_35 : decode cX7_undo 35 = .ok (.invokevirtual 223, 3) := by decide +kernel
theorem dX7_undo_38 : decode cX7_undo 38 = .ok (.invokevirtual 98, 3) := by decide +kernel
theorem dX7_undo_41 : decode cX7_undo 41 = .ok (.ireturn, 1) := by decide +kernel
theorem dX7_fleet_0 : decode cX7_fleet 0 = .ok (.iload_n 1, 1) := by decide +kernel
theorem dX7_fleet_1 : decode cX7_fleet 1 = .ok (.ifCond .lt 19, 3) := by decide +kernel
theorem dX7_fleet_4 : decode cX7_fleet 4 = .ok (.iload_n 1, 1) := by decide +kernel
theorem dX7_fleet_5 : decode cX7_fleet 5 = .ok (.sipush 9999, 3) := by decide +kernel
theorem dX7_fleet_8 : decode cX7_fleet 8 = .ok (.if_icmp .gt 12, 3) := by decide +kernel
theorem dX7_fleet_11 : decode cX7_fleet 11 = .ok (.iload_n 2, 1) := by decide +kernel
theorem dX7_fleet_12 : decode cX7_fleet 12 = .ok (.ifCond .lt 8, 3) := by decide +kernel
theorem dX7_fleet_15 : decode cX7_fleet 15 = .ok (.iload_n 2, 1) := by decide +kernel
theorem dX7_fleet_16 : decode cX7_fleet 16 = .ok (.iconst 1, 1) := by decide +kernel
theorem dX7_fleet_17 : decode cX7_fleet 17 = .ok (.if_icmp .le 5, 3) := by decide +kernel
theorem dX7_fleet_20 : decode cX7_fleet 20 = .ok (.iconst (-1), 1) := by decide +kernel
theorem dX7_fleet_21 : decode cX7_fleet 21 = .ok (.ireturn, 1) := by decide +kernel
theorem dX7_fleet_22 : decode cX7_fleet 22 = .ok (.aload_n 0, 1) := by decide +kernel
theorem dX7_fleet_23 : decode cX7_fleet 23 = .ok (.getfield 64, 3) := by decide +kernel
theorem dX7_fleet_26 : decode cX7_fleet 26 = .ok (.aload_n 0, 1) := by decide +kernel
theorem dX7_fleet_27 : decode cX7_fleet 27 = .ok (.getfield 10, 3) := by decide +kernel
theorem dX7_fleet_30 : decode cX7_fleet 30 = .ok (.aload_n 0, 1) := by decide +kernel
theorem dX7_fleet_31 : decode cX7_fleet 31 = .ok (.getfield 50, 3) := by decide +kernel
theorem dX7_fleet_34 : decode cX7_fleet 34 = .ok (.iload_n 1, 1) := by decide +kernel
theorem dX7_fleet_35 : decode cX7_fleet 35 = .ok (.invokevirtual 240, 3) := by decide +kernel
theorem dX7_fleet_38 : decode cX7_fleet 38 = .ok (.istore_n 3, 1) := by decide +kernel
theorem dX7_fleet_39 : decode cX7_fleet 39 = .ok (.iload_n 3, 1) := by decide +kernel
theorem dX7_fleet_40 : decode cX7_fleet 40 = .ok (.iconst (-1), 1) := by decide +kernel
theorem dX7_fleet_41 : decode cX7_fleet 41 = .ok (.if_icmp .eq 8, 3) := by decide +kernel
theorem dX7_fleet_44 : decode cX7_fleet 44 = .ok (.iload_n 2, 1) := by decide +kernel
theorem dX7_fleet_45 : decode cX7_fleet 45 = .ok (.iconst 1, 1) := by decide +kernel
theorem dX7_fleet_46 : decode cX7_fleet 46 = .ok (.if_icmp .ne 5, 3) := by decide +kernel
theorem dX7_fleet_49 : decode cX7_fleet 49 = .ok (.iload_n 3, 1) := by decide +kernel
theorem dX7_fleet_50 : decode cX7_fleet 50 = .ok (.ireturn, 1) := by decide +kernel
theorem dX7_fleet_51 : decode cX7_fleet 51 = .ok (.iload_n 3, 1) := by decide +kernel
theorem dX7_fleet_52 : decode cX7_fleet 52 = .ok (.invokestatic 244, 3) := by decide +kernel
theorem dX7_fleet_55 : decode cX7_fleet 55 = .ok (.ireturn, 1) := by decide +kernel
theorem dX7_hanging_0 : decode cX7_hanging 0 = .ok (.iload_n 1, 1) := by decide +kernel
theorem dX7_hanging_1 : decode cX7_hanging 1 = .ok (.ifCond .eq 8, 3) := by decide +kernel
theorem dX7_hanging_4 : decode cX7_hanging 4 = .ok (.iload_n 1, 1) := by decide +kernel
theorem dX7_hanging_5 : decode cX7_hanging 5 = .ok (.iconst 1, 1) := by decide +kernel
theorem dX7_hanging_6 : decode cX7_hanging 6 = .ok (.if_icmp .ne 7, 3) := by decide +kernel
theorem dX7_hanging_9 : decode cX7_hanging 9 = .ok (.iconst 1, 1) := by decide +kernel
theorem dX7_hanging_10 : decode cX7_hanging 10 = .ok (.goto 4, 3) := by decide +kernel
theorem dX7_hanging_13 : decode cX7_hanging 13 = .ok (.iconst 0, 1) := by decide +kernel
theorem dX7_hanging_14 : decode cX7_hanging 14 = .ok (.istore_n 2, 1) := by decide +kernel
theorem dX7_hanging_15 : decode cX7_hanging 15 = .ok (.iload_n 2, 1) := by decide +kernel
theorem dX7_hanging_16 : decode cX7_hanging 16 = .ok (.ifCond .ne 14, 3) := by decide +kernel
theorem dX7_hanging_19 : decode cX7_hanging 19 = .ok (.aload_n 0, 1) := by decide +kernel
theorem dX7_hanging_20 : decode cX7_hanging 20 = .ok (.iload_n 1, 1) := by decide +kernel
theorem dX7_hanging_21 : decode cX7_hanging 21 = .ok (.iconst 2, 1) := by decide +kernel
theorem dX7_hanging_22 : decode cX7_hanging 22 = .ok (.invokevirtual 249, 3) := by decide +kernel
theorem dX7_hanging_25 : decode cX7_hanging 25 = .ok (.ifCond .ne 5, 3) := by decide +kernel
theorem dX7_hanging_28 : decode cX7_hanging 28 = .ok (.iconst (-1), 1) := by decide +kernel
theorem dX7_hanging_29 : decode cX7_hanging 29 = .ok (.ireturn, 1) := by decide +kernel
theorem dX7_hanging_30 : decode cX7_hanging 30 = .ok (.aload_n 0, 1) := by decide +kernel
theorem dX7_hanging_31 : decode cX7_hanging 31 = .ok (.getfield 64, 3) := by decide +kernel
theorem dX7_hanging_34 : decode cX7_hanging 34 = .ok (.aload_n 0, 1) := by decide +kernel
theorem dX7_hanging_35 : decode cX7_hanging 35 = .ok (.getfield 10, 3) := by decide +kernel
theorem dX7_hanging_38 : decode cX7_hanging 38 = .ok (.aload_n 0, 1) := by decide +kernel
theorem dX7_hanging_39 : decode cX7_hanging 39 = .ok (.getfield 50, 3) := by decide +kernel
theorem dX7_hanging_42 : decode cX7_hanging 42 = .ok (.invokevirtual 253, 3) := by decide +kernel
theorem dX7_hanging_45 : decode cX7_hanging 45 = .ok (.istore_n 3, 1) := by decide +kernel
theorem dX7_hanging_46 : decode cX7_hanging 46 = .ok (.iload_n 1, 1) := by decide +kernel
theorem dX7_hanging_47 : decode cX7_hanging 47 = .ok (.ifCond .ne 8, 3) := by decide +kernel
theorem dX7_hanging_50 : decode cX7_hanging 50 = .ok (.iload_n 3, 1) := by decide +kernel
theorem dX7_hanging_51 : decode cX7_hanging 51 = .ok (.bipush 16, 2) := by decide +kernel
theorem dX7_hanging_53 : decode cX7_hanging 53 = .ok (.idiv, 1) := by decide +kernel
theorem dX7_hanging_54 : decode cX7_hanging 54 = .ok (.ireturn, 1) := by decide +kernel
theorem dX7_hanging_55 : decode cX7_hanging 55 = .ok (.iload_n 1, 1) := by decide +kernel
theorem dX7_hanging_56 : decode cX7_hanging 56 = .ok (.iconst 1, 1) := by decide +kernel
theorem dX7_hanging_57 : decode cX7_hanging 57 = .ok (.if_icmp .ne 8, 3) := by decide +kernel
theorem dX7_hanging_60 : decode cX7_hanging 60 = .ok (.iload_n 3, 1) := by decide +kernel
theorem dX7_hanging_61 : decode cX7_hanging 61 = .ok (.bipush 16, 2) := by decide +kernel
theorem dX7_hanging_63 : decode cX7_hanging 63 = .ok (.irem, 1) := by decide +kernel
theorem dX7_hanging_64 : decode cX7_hanging 64 = .ok (.ireturn, 1) := by decide +kernel
theorem dX7_hanging_65 : decode cX7_hanging 65 = .ok (.aload_n 0, 1) := by decide +kernel
theorem dX7_hanging_66 : decode cX7_hanging 66 = .ok (.getfield 64, 3) := by decide +kernel
theorem dX7_hanging_69 : decode cX7_hanging 69 = .ok (.getfield 257, 3) := by decide +kernel
theorem dX7_hanging_72 : decode cX7_hanging 72 = .ok (.iload_n 1, 1) := by decide +kernel
theorem dX7_hanging_73 : decode cX7_hanging 73 = .ok (.iconst 2, 1) := by decide +kernel
theorem dX7_hanging_74 : decode cX7_hanging 74 = .ok (.isub, 1) := by decide +kernel
theorem dX7_hanging_75 : decode cX7_hanging 75 = .ok (.iaload, 1) := by decide +kernel
theorem dX7_hanging_76 : decode cX7_hanging 76 = .ok (.ireturn, 1) := by decide +kernel
theorem dX7_right_0 : decode cX7_right 0 = .ok (.aload_n 0, 1) := by decide +kernel
theorem dX7_right_1 : decode cX7_right 1 = .ok (.getfield 64, 3) := by decide +kernel
theorem dX7_right_4 : decode cX7_right 4 = .ok (.aload_n 0, 1) := by decide +kernel
theorem dX7_right_5 : decode cX7_right 5 = .ok (.getfield 10, 3) := by decide +kernel
theorem dX7_right_8 : decode cX7_right 8 = .ok (.invokevirtual 260, 3) := by decide +kernel
theorem dX7_right_11 : decode cX7_right 11 = .ok (.ireturn, 1) := by decide +kernel
theorem dX7_heard_0 : decode cX7_heard 0 = .ok (.iload_n 1, 1) := by decide +kernel
theorem dX7_heard_1 : decode cX7_heard 1 = .ok (.invokestatic 101, 3) := by decide +kernel
theorem dX7_heard_4 : decode cX7_heard 4 = .ok (.ifCond .eq 13, 3) := by decide +kernel
theorem dX7_heard_7 : decode cX7_heard 7 = .ok (.iload_n 2, 1) := by decide +kernel
theorem dX7_heard_8 : decode cX7_heard 8 = .ok (.ifCond .lt 9, 3) := by decide +kernel
theorem dX7_heard_11 : decode cX7_heard 11 = .ok (.iload_n 2, 1) := by decide +kernel
theorem dX7_heard_12 : decode cX7_heard 12 = .ok (.bipush 6, 2) := by decide +kernel
theorem dX7_heard_14 : decode cX7_heard 14 = .ok (.if_icmp .le 5, 3) := by decide +kernel
theorem dX7_heard_17 : decode cX7_heard 17 = .ok (.iconst (-1), 1) := by decide +kernel
theorem dX7_heard_18 : decode cX7_heard 18 = .ok (.ireturn, 1) := by decide +kernel
theorem dX7_heard_19 : decode cX7_heard 19 = .ok (.iconst 0, 1) := by decide +kernel
theorem dX7_heard_20 : decode cX7_heard 20 = .ok (.istore_n 3, 1) := by decide +kernel
theorem dX7_heard_21 : decode cX7_heard 21 = .ok (.iconst 0, 1) := by decide +kernel
theorem dX7_heard_22 : decode cX7_heard 22 = .ok (.istore 4, 2) := by decide +kernel
theorem dX7_heard_24 : decode cX7_heard 24 = .ok (.iload 4, 2) := by decide +kernel
theorem dX7_heard_26 : decode cX7_heard 26 = .ok (.aload_n 0, 1) := by decide +kernel
theorem dX7_heard_27 : decode cX7_heard 27 = .ok (.getfield 10, 3) := by decide +kernel
theorem dX7_heard_30 : decode cX7_heard 30 = .ok (.getfield 111, 3) := by decide +kernel
theorem dX7_heard_33 : decode cX7_heard 33 = .ok (.if_icmp .ge 35, 3) := by decide +kernel
theorem dX7_heard_36 : decode cX7_heard 36 = .ok (.aload_n 0, 1) := by decide +kernel
theorem dX7_heard_37 : decode cX7_heard 37 = .ok (.getfield 10, 3) := by decide +kernel
theorem dX7_heard_40 : decode cX7_heard 40 = .ok (.getfield 123, 3) := by decide +kernel
theorem dX7_heard_43 : decode cX7_heard 43 = .ok (.iload 4, 2) := by decide +kernel
theorem dX7_heard_45 : decode cX7_heard 45 = .ok (.iaload, 1) := by decide +kernel
theorem dX7_heard_46 : decode cX7_heard 46 = .ok (.iload_n 1, 1) := by decide +kernel
theorem dX7_heard_47 : decode cX7_heard 47 = .ok (.ixor, 1) := by decide +kernel
theorem dX7_heard_48 : decode cX7_heard 48 = .ok (.invokestatic 244, 3) := by decide +kernel
theorem dX7_heard_51 : decode cX7_heard 51 = .ok (.iload_n 2, 1) := by decide +kernel
theorem dX7_heard_52 : decode cX7_heard 52 = .ok (.if_icmp .gt 10, 3) := by decide +kernel
theorem dX7_heard_55 : decode cX7_heard 55 = .ok (.iload_n 3, 1) := by decide +kernel
theorem dX7_heard_56 : decode cX7_heard 56 = .ok (.iconst 1, 1) := by decide +kernel
theorem dX7_heard_57 : decode cX7_heard 57 = .ok (.iload 4, 2) := by decide +kernel
theorem dX7_heard_59 : decode cX7_heard 59 = .ok (.ishl, 1) := by decide +kernel
theorem dX7_heard_60 : decode cX7_heard 60 = .ok (.ior, 1) := by decide +kernel
theorem dX7_heard_61 : decode cX7_heard 61 = .ok (.istore_n 3, 1) := by decide +kernel
theorem dX7_heard_62 : decode cX7_heard 62 = .ok (.iinc 4 1, 3) := by decide +kernel
theorem dX7_heard_65 : decode cX7_heard 65 = .ok (.goto (-41), 3) := by decide +kernel
theorem dX7_heard_68 : decode cX7_heard 68 = .ok (.iload_n 3, 1) := by decide +kernel
theorem dX7_heard_69 : decode cX7_heard 69 = .ok (.ireturn, 1) := by decide +kernel
theorem dX7_knock_0 : decode cX7_knock 0 = .ok (.iload_n 1, 1) := by decide +kernel
theorem dX7_knock_1 : decode cX7_knock 1 = .ok (.ifCond .lt 8, 3) := by decide +kernel
theorem dX7_knock_4 : decode cX7_knock 4 = .ok (.iload_n 1, 1) := by decide +kernel
theorem dX7_knock_5 : decode cX7_knock 5 = .ok (.iconst 1, 1) := by decide +kernel
theorem dX7_knock_6 : decode cX7_knock 6 = .ok (.if_icmp .le 5, 3) := by decide +kernel
theorem dX7_knock_9 : decode cX7_knock 9 = .ok (.iconst (-1), 1) := by decide +kernel
theorem dX7_knock_10 : decode cX7_knock 10 = .ok (.ireturn, 1) := by decide +kernel
theorem dX7_knock_11 : decode cX7_knock 11 = .ok (.iconst 0, 1) := by decide +kernel
theorem dX7_knock_12 : decode cX7_knock 12 = .ok (.istore_n 2, 1) := by decide +kernel
theorem dX7_knock_13 : decode cX7_knock 13 = .ok (.aload_n 0, 1) := by decide +kernel
theorem dX7_knock_14 : decode cX7_knock 14 = .ok (.getfield 10, 3) := by decide +kernel
theorem dX7_knock_17 : decode cX7_knock 17 = .ok (.iconst 0, 1) := by decide +kernel
theorem dX7_knock_18 : decode cX7_knock 18 = .ok (.invokevirtual 264, 3) := by decide +kernel
theorem dX7_knock_21 : decode cX7_knock 21 = .ok (.istore_n 3, 1) := by decide +kernel
theorem dX7_knock_22 : decode cX7_knock 22 = .ok (.iconst 1, 1) := by decide +kernel
theorem dX7_knock_23 : decode cX7_knock 23 = .ok (.istore 4, 2) := by decide +kernel
theorem dX7_knock_25 : decode cX7_knock 25 = .ok (.iload 4, 2) := by decide +kernel
theorem dX7_knock_27 : decode cX7_knock 27 = .ok (.bipush 64, 2) := by decide +kernel
theorem dX7_knock_29 : decode cX7_knock 29 = .ok (.if_icmp .ge 32, 3) := by decide +kernel
theorem dX7_knock_32 : decode cX7_knock 32 = .ok (.aload_n 0, 1) := by decide +kernel
theorem dX7_knock_33 : decode cX7_knock 33 = .ok (.getfield 10, 3) := by decide +kernel
theorem dX7_knock_36 : decode cX7_knock 36 = .ok (.iload 4, 2) := by decide +kernel
theorem dX7_knock_38 : decode cX7_knock 38 = .ok (.invokevirtual 264, 3) := by decide +kernel
theorem dX7_knock_41 : decode cX7_knock 41 = .ok (.istore 5, 2) := by decide +kernel
theorem dX7_knock_43 : decode cX7_knock 43 = .ok (.iload 5, 2) := by decide +kernel
theorem dX7_knock_45 : decode cX7_knock 45 = .ok (.iload_n 3, 1) := by decide +kernel
theorem dX7_knock_46 : decode cX7_knock 46 = .ok (.if_icmp .le 9, 3) := by decide +kernel
theorem dX7_knock_49 : decode cX7_knock 49 = .ok (.iload 4, 2) := by decide +kernel
theorem dX7_knock_51 : decode cX7_knock 51 = .ok (.istore_n 2, 1) := by decide +kernel
theorem dX7_knock_52 : decode cX7_knock 52 = .ok (.iload 5, 2) := by decide +kernel
theorem dX7_knock_54 : decode cX7_knock 54 = .ok (.istore_n 3, 1) := by decide +kernel
theorem dX7_knock_55 : decode cX7_knock 55 = .ok (.iinc 4 1, 3) := by decide +kernel
theorem dX7_knock_58 : decode cX7_knock 58 = .ok (.goto (-33), 3) := by decide +kernel
theorem dX7_knock_61 : decode cX7_knock 61 = .ok (.iload_n 1, 1) := by decide +kernel
theorem dX7_knock_62 : decode cX7_knock 62 = .ok (.ifCond .ne 7, 3) := by decide +kernel
theorem dX7_knock_65 : decode cX7_knock 65 = .ok (.iload_n 2, 1) := by decide +kernel
theorem dX7_knock_66 : decode cX7_knock 66 = .ok (.goto 4, 3) := by decide +kernel
theorem dX7_knock_69 : decode cX7_knock 69 = .ok (.iload_n 3, 1) := by decide +kernel
theorem dX7_knock_70 : decode cX7_knock 70 = .ok (.ireturn, 1) := by decide +kernel
theorem dX7_wreck_0 : decode cX7_wreck 0 = .ok (.iload_n 1, 1) := by decide +kernel
theorem dX7_wreck_1 : decode cX7_wreck 1 = .ok (.invokestatic 152, 3) := by decide +kernel
theorem dX7_wreck_4 : decode cX7_wreck 4 = .ok (.ifCond .eq 13, 3) := by decide +kernel
theorem dX7_wreck_7 : decode cX7_wreck 7 = .ok (.iload_n 2, 1) := by decide +kernel
theorem dX7_wreck_8 : decode cX7_wreck 8 = .ok (.ifCond .lt 9, 3) := by decide +kernel
theorem dX7_wreck_11 : decode cX7_wreck 11 = .ok (.iload_n 2, 1) := by decide +kernel
theorem dX7_wreck_12 : decode cX7_wreck 12 = .ok (.bipush 99, 2) := by decide +kernel
theorem dX7_wreck_14 : decode cX7_wreck 14 = .ok (.if_icmp .le 5, 3) := by decide +kernel
theorem dX7_wreck_17 : decode cX7_wreck 17 = .ok (.iconst (-1), 1) := by decide +kernel
theorem dX7_wreck_18 : decode cX7_wreck 18 = .ok (.ireturn, 1) := by decide +kernel
theorem dX7_wreck_19 : decode cX7_wreck 19 = .ok (.iconst 0, 1) := by decide +kernel
theorem dX7_wreck_20 : decode cX7_wreck 20 = .ok (.istore_n 3, 1) := by decide +kernel
theorem dX7_wreck_21 : decode cX7_wreck 21 = .ok (.iconst 0, 1) := by decide +kernel
theorem dX7_wreck_22 : decode cX7_wreck 22 = .ok (.istore 4, 2) := by decide +kernel
theorem dX7_wreck_24 : decode cX7_wreck 24 = .ok (.iload 4, 2) := by decide +kernel
theorem dX7_wreck_26 : decode cX7_wreck 26 = .ok (.bipush 25, 2) := by decide +kernel
theorem dX7_wreck_28 : decode cX7_wreck 28 = .ok (.if_icmp .ge 30, 3) := by decide +kernel
theorem dX7_wreck_31 : decode cX7_wreck 31 = .ok (.aload_n 0, 1) := by decide +kernel
theorem dX7_wreck_32 : decode cX7_wreck 32 = .ok (.getfield 10, 3) := by decide +kernel
theorem dX7_wreck_35 : decode cX7_wreck 35 = .ok (.iload 4, 2) := by decide +kernel
theorem dX7_wreck_37 : decode cX7_wreck 37 = .ok (.iload_n 2, 1) := by decide +kernel
theorem dX7_wreck_38 : decode cX7_wreck 38 = .ok (.invokevirtual 267, 3) := by decide +kernel
theorem dX7_wreck_41 : decode cX7_wreck 41 = .ok (.iload_n 1, 1) := by decide +kernel
theorem dX7_wreck_42 : decode cX7_wreck 42 = .ok (.if_icmp .ne 10, 3) := by decide +kernel
theorem dX7_wreck_45 : decode cX7_wreck 45 = .ok (.iload_n 3, 1) := by decide +kernel
theorem dX7_wreck_46 : decode cX7_wreck 46 = .ok (.iconst 1, 1) := by decide +kernel
theorem dX7_wreck_47 : decode cX7_wreck 47 = .ok (.iload 4, 2) := by decide +kernel
theorem dX7_wreck_49 : decode cX7_wreck 49 = .ok (.ishl, 1) := by decide +kernel
theorem dX7_wreck_50 : decode cX7_wreck 50 = .ok (.ior, 1) := by decide +kernel
theorem dX7_wreck_51 : decode cX7_wreck 51 = .ok (.istore_n 3, 1) := by decide +kernel
theorem dX7_wreck_52 : decode cX7_wreck 52 = .ok (.iinc 4 1, 3) := by decide +kernel
theorem dX7_wreck_55 : decode cX7_wreck 55 = .ok (.goto (-31), 3) := by decide +kernel
theorem dX7_wreck_58 : decode cX7_wreck 58 = .ok (.iload_n 3, 1) := by decide +kernel
theorem dX7_wreck_59 : decode cX7_wreck 59 = .ok (.ireturn, 1) := by decide +kernel
theorem dX7_search_0 : decode cX7_search 0 = .ok (.iload_n 1, 1) := by decide +kernel
theorem dX7_search_1 : decode cX7_search 1 = .ok (.ifCond .lt 10, 3) := by decide +kernel
theorem dX7_search_4 : decode cX7_search 4 = .ok (.iload_n 1, 1) := by decide +kernel
theorem dX7_search_5 : decode cX7_search 5 = .ok (.ldc_w 270, 3) := by decide +kernel
theorem dX7_search_8 : decode cX7_search 8 = .ok (.if_icmp .lt 5, 3) := by decide +kernel
theorem dX7_search_11 : decode cX7_search 11 = .ok (.iconst (-1), 1) := by decide +kernel
theorem dX7_search_12 : decode cX7_search 12 = .ok (.ireturn, 1) := by decide +kernel
theorem dX7_search_13 : decode cX7_search 13 = .ok (.iload_n 1, 1) := by decide +kernel
theorem dX7_search_14 : decode cX7_search 14 = .ok (.invokestatic 244, 3) := by decide +kernel
theorem dX7_search_17 : decode cX7_search 17 = .ok (.istore_n 3, 1) := by decide +kernel
theorem dX7_search_18 : decode cX7_search 18 = .ok (.iload_n 3, 1) := by decide +kernel
theorem dX7_search_19 : decode cX7_search 19 = .ok (.bipush 7, 2) := by decide +kernel
theorem dX7_search_21 : decode cX7_search 21 = .ok (.if_icmp .gt 13, 3) := by decide +kernel
theorem dX7_search_24 : decode cX7_search 24 = .ok (.iload_n 2, 1) := by decide +kernel
theorem dX7_search_25 : decode cX7_search 25 = .ok (.iconst (-1), 1) := by decide +kernel
theorem dX7_search_26 : decode cX7_search 26 = .ok (.if_icmp .lt 8, 3) := by decide +kernel
theorem dX7_search_29 : decode cX7_search 29 = .ok (.iload_n 2, 1) := by decide +kernel
theorem dX7_search_30 : decode cX7_search 30 = .ok (.iload_n 3, 1) := by decide +kernel
theorem dX7_search_31 : decode cX7_search 31 = .ok (.if_icmp .lt 5, 3) := by decide +kernel
theorem dX7_search_34 : decode cX7_search 34 = .ok (.iconst (-1), 1) := by decide +kernel
theorem dX7_search_35 : decode cX7_search 35 = .ok (.ireturn, 1) := by decide +kernel
theorem dX7_search_36 : decode cX7_search 36 = .ok (.aload_n 0, 1) := by decide +kernel
theorem dX7_search_37 : decode cX7_search 37 = .ok (.getfield 64, 3) := by decide +kernel
theorem dX7_search_40 : decode cX7_search 40 = .ok (.iload_n 1, 1) := by decide +kernel
theorem dX7_search_41 : decode cX7_search 41 = .ok (.invokevirtual 271, 3) := by decide +kernel
theorem dX7_search_44 : decode cX7_search 44 = .ok (.istore 4, 2) := by decide +kernel
theorem dX7_search_46 : decode cX7_search 46 = .ok (.iload_n 2, 1) := by decide +kernel
theorem dX7_search_47 : decode cX7_search 47 = .ok (.iconst (-1), 1) := by decide +kernel
theorem dX7_search_48 : decode cX7_search 48 = .ok (.if_icmp .ne 8, 3) := by decide +kernel
theorem dX7_search_51 : decode cX7_search 51 = .ok (.iload 4, 2) := by decide +kernel
theorem dX7_search_53 : decode cX7_search 53 = .ok (.goto 12, 3) := by decide +kernel
theorem dX7_search_56 : decode cX7_search 56 = .ok (.aload_n 0, 1) := by decide +kernel
theorem dX7_search_57 : decode cX7_search 57 = .ok (.getfield 64, 3) := by decide +kernel
theorem dX7_search_60 : decode cX7_search 60 = .ok (.getfield 257, 3) := by decide +kernel
theorem dX7_search_63 : decode cX7_search 63 = .ok (.iload_n 2, 1) := by decide +kernel
theorem dX7_search_64 : decode cX7_search 64 = .ok (.iaload, 1) := by decide +kernel
theorem dX7_search_65 : decode cX7_search 65 = .ok (.ireturn, 1) := by decide +kernel
theorem dX7_afloat_0 : decode cX7_afloat 0 = .ok (.aload_n 0, 1) := by decide +kernel
theorem dX7_afloat_1 : decode cX7_afloat 1 = .ok (.getfield 10, 3) := by decide +kernel
theorem dX7_afloat_4 : decode cX7_afloat 4 = .ok (.iload_n 1, 1) := by decide +kernel
theorem dX7_afloat_5 : decode cX7_afloat 5 = .ok (.invokevirtual 138, 3) := by decide +kernel
theorem dX7_afloat_8 : decode cX7_afloat 8 = .ok (.ifCond .eq 26, 3) := by decide +kernel
theorem dX7_afloat_11 : decode cX7_afloat 11 = .ok (.aload_n 0, 1) := by decide +kernel
theorem dX7_afloat_12 : decode cX7_afloat 12 = .ok (.getfield 10, 3) := by decide +kernel
theorem dX7_afloat_15 : decode cX7_afloat 15 = .ok (.getfield 129, 3) := by decide +kernel
theorem dX7_afloat_18 : decode cX7_afloat 18 = .ok (.iload_n 1, 1) := by decide +kernel
theorem dX7_afloat_19 : decode cX7_afloat 19 = .ok (.iaload, 1) := by decide +kernel
theorem dX7_afloat_20 : decode cX7_afloat 20 = .ok (.iconst (-1), 1) := by decide +kernel
theorem dX7_afloat_21 : decode cX7_afloat 21 = .ok (.if_icmp .eq 13, 3) := by decide +kernel
theorem dX7_afloat_24 : decode cX7_afloat 24 = .ok (.iload_n 2, 1) := by decide +kernel
theorem dX7_afloat_25 : decode cX7_afloat 25 = .ok (.ifCond .lt 9, 3) := by decide +kernel
theorem dX7_afloat_28 : decode cX7_afloat 28 = .ok (.iload_n 2, 1) := by decide +kernel
theorem dX7_afloat_29 : decode cX7_afloat 29 = .ok (.bipush 60, 2) := by decide +kernel
theorem dX7_afloat_31 : decode cX7_afloat 31 = .ok (.if_icmp .le 7, 3) := by decide +kernel
theorem dX7_afloat_34 : decode cX7_afloat 34 = .ok (.ldc2_w 274, 3) := by decide +kernel
theorem dX7_afloat_37 : decode cX7_afloat 37 = .ok (.lreturn, 1) := by decide +kernel
theorem dX7_afloat_38 : decode cX7_afloat 38 = .ok (.ldc2_w 276, 3) := by decide +kernel
theorem dX7_afloat_41 : decode cX7_afloat 41 = .ok (.lstore_n 3, 1) := by decide +kernel
theorem dX7_afloat_42 : decode cX7_afloat 42 = .ok (.aload_n 0, 1) := by decide +kernel
theorem dX7_afloat_43 : decode cX7_afloat 43 = .ok (.getfield 10, 3) := by decide +kernel
theorem dX7_afloat_46 : decode cX7_afloat 46 = .ok (.getfield 129, 3) := by decide +kernel
theorem dX7_afloat_49 : decode cX7_afloat 49 = .ok (.iload_n 1, 1) := by decide +kernel
theorem dX7_afloat_50 : decode cX7_afloat 50 = .ok (.iaload, 1) := by decide +kernel
theorem dX7_afloat_51 : decode cX7_afloat 51 = .ok (.istore 5, 2) := by decide +kernel
theorem dX7_afloat_53 : decode cX7_afloat 53 = .ok (.iconst 0, 1) := by decide +kernel
theorem dX7_afloat_54 : decode cX7_afloat 54 = .ok (.istore 6, 2) := by decide +kernel
theorem dX7_afloat_56 : decode cX7_afloat 56 = .ok (.iload 6, 2) := by decide +kernel
theorem dX7_afloat_58 : decode cX7_afloat 58 = .ok (.iload_n 2, 1) := by decide +kernel
theorem dX7_afloat_59 : decode cX7_afloat 59 = .ok (.if_icmp .ge 54, 3) := by decide +kernel
theorem dX7_afloat_62 : decode cX7_afloat 62 = .ok (.lload_n 3, 1) := by decide +kernel
theorem dX7_afloat_63 : decode cX7_afloat 63 = .ok (.bipush 10, 2) := by decide +kernel
theorem dX7_afloat_65 : decode cX7_afloat 65 = .ok (.aload_n 0, 1) := by decide +kernel
theorem dX7_afloat_66 : decode cX7_afloat 66 = .ok (.getfield 50, 3) := by decide +kernel
theorem dX7_afloat_69 : decode cX7_afloat 69 = .ok (.aload_n 0, 1) := by decide +kernel
theorem dX7_afloat_70 : decode cX7_afloat 70 = .ok (.getfield 10, 3) := by decide +kernel
theorem dX7_afloat_73 : decode cX7_afloat 73 = .ok (.iload_n 1, 1) := by decide +kernel
theorem dX7_afloat_74 : decode cX7_afloat 74 = .ok (.iload 5, 2) := by decide +kernel
theorem dX7_afloat_76 : decode cX7_afloat 76 = .ok (.invokevirtual 165, 3) := by decide +kernel
theorem dX7_afloat_79 : decode cX7_afloat 79 = .ok (.isub, 1) := by decide +kernel
theorem dX7_afloat_80 : decode cX7_afloat 80 = .ok (.i2l, 1) := by decide +kernel
theorem dX7_afloat_81 : decode cX7_afloat 81 = .ok (.lmul, 1) := by decide +kernel
theorem dX7_afloat_82 : decode cX7_afloat 82 = .ok (.ldc2_w 278, 3) := by decide +kernel
theorem dX7_afloat_85 : decode cX7_afloat 85 = .ok (.ldiv, 1) := by decide +kernel
theorem dX7_afloat_86 : decode cX7_afloat 86 = .ok (.lstore_n 3, 1) := by decide +kernel
theorem dX7_afloat_87 : decode cX7_afloat 87 = .ok (.aload_n 0, 1) := by decide +kernel
theorem dX7_afloat_88 : decode cX7_afloat 88 = .ok (.getfield 10, 3) := by decide +kernel
theorem dX7_afloat_91 : decode cX7_afloat 91 = .ok (.iload 5, 2) := by decide +kernel
theorem dX7_afloat_93 : decode cX7_afloat 93 = .ok (.iconst 1, 1) := by decide +kernel
theorem dX7_afloat_94 : decode cX7_afloat 94 = .ok (.invokevirtual 267, 3) := by decide +kernel
theorem dX7_afloat_97 : decode cX7_afloat 97 = .ok (.istore 5, 2) := by decide +kernel
theorem dX7_afloat_99 : decode cX7_afloat 99 = .ok (.iload 5, 2) := by decide +kernel
theorem dX7_afloat_101 : decode cX7_afloat 101 = .ok (.iconst (-1), 1) := by decide +kernel
theorem dX7_afloat_102 : decode cX7_afloat 102 = .ok (.if_icmp .ne 5, 3) := by decide +kernel
theorem dX7_afloat_105 : decode cX7_afloat 105 = .ok (.lconst 0, 1) := by decide +kernel
theorem dX7_afloat_106 : decode cX7_afloat 106 = .ok (.lreturn, 1) := by decide +kernel
theorem dX7_afloat_107 : decode cX7_afloat 107 = .ok (.iinc 6 1, 3) := by decide +kernel
theorem dX7_afloat_110 : decode cX7_afloat 110 = .ok (.goto (-54), 3) := by decide +kernel
theorem dX7_afloat_113 : decode cX7_afloat 113 = .ok (.lload_n 3, 1) := by decide +kernel
theorem dX7_afloat_114 : decode cX7_afloat 114 = .ok (.lreturn, 1) := by decide +kernel
theorem dX7_guards_0 : decode cX7_guards 0 = .ok (.iload_n 1, 1) := by decide +kernel
theorem dX7_guards_1 : decode cX7_guards 1 = .ok (.ifCond .lt 8, 3) := by decide +kernel
theorem dX7_guards_4 : decode cX7_guards 4 = .ok (.iload_n 1, 1) := by decide +kernel
theorem dX7_guards_5 : decode cX7_guards 5 = .ok (.iconst 1, 1) := by decide +kernel
theorem dX7_guards_6 : decode cX7_guards 6 = .ok (.if_icmp .le 5, 3) := by decide +kernel
theorem dX7_guards_9 : decode cX7_guards 9 = .ok (.iconst (-1), 1) := by decide +kernel
theorem dX7_guards_10 : decode cX7_guards 10 = .ok (.ireturn, 1) := by decide +kernel
theorem dX7_guards_11 : decode cX7_guards 11 = .ok (.iconst 0, 1) := by decide +kernel
theorem dX7_guards_12 : decode cX7_guards 12 = .ok (.istore_n 2, 1) := by decide +kernel
theorem dX7_guards_13 : decode cX7_guards 13 = .ok (.iconst 0, 1) := by decide +kernel
theorem dX7_guards_14 : decode cX7_guards 14 = .ok (.istore_n 3, 1) := by decide +kernel
theorem dX7_guards_15 : decode cX7_guards 15 = .ok (.iload_n 3, 1) := by decide +kernel
theorem dX7_guards_16 : decode cX7_guards 16 = .ok (.aload_n 0, 1) := by decide +kernel
theorem dX7_guards_17 : decode cX7_guards 17 = .ok (.getfield 10, 3) := by decide +kernel
theorem dX7_guards_20 : decode cX7_guards 20 = .ok (.getfield 92, 3) := by decide +kernel
theorem dX7_guards_23 : decode cX7_guards 23 = .ok (.if_icmp .ge 27, 3) := by decide +kernel
theorem dX7_guards_26 : decode cX7_guards 26 = .ok (.aload_n 0, 1) := by decide +kernel
theorem dX7_guards_27 : decode cX7_guards 27 = .ok (.getfield 10, 3) := by decide +kernel
theorem dX7_guards_30 : decode cX7_guards 30 = .ok (.iload_n 3, 1) := by decide +kernel
theorem dX7_guards_31 : decode cX7_guards 31 = .ok (.invokevirtual 108, 3) := by decide +kernel
theorem dX7_guards_34 : decode cX7_guards 34 = .ok (.iconst (-1), 1) := by decide +kernel
theorem dX7_guards_35 : decode cX7_guards 35 = .ok (.if_icmp .ne 9, 3) := by decide +kernel
theorem dX7_guards_38 : decode cX7_guards 38 = .ok (.iload_n 2, 1) := by decide +kernel
theorem dX7_guards_39 : decode cX7_guards 39 = .ok (.iconst 1, 1) := by decide +kernel
theorem dX7_guards_40 : decode cX7_guards 40 = .ok (.iload_n 3, 1) := by decide +kernel
theorem dX7_guards_41 : decode cX7_guards 41 = .ok (.ishl, 1) := by decide +kernel
theorem dX7_guards_42 : decode cX7_guards 42 = .ok (.ior, 1) := by decide +kernel
theorem dX7_guards_43 : decode cX7_guards 43 = .ok (.istore_n 2, 1) := by decide +kernel
theorem dX7_guards_44 : decode cX7_guards 44 = .ok (.iinc 3 1, 3) := by decide +kernel
theorem dX7_guards_47 : decode cX7_guards 47 = .ok (.goto (-32), 3) := by decide +kernel
theorem dX7_guards_50 : decode cX7_guards 50 = .ok (.iconst 1, 1) := by decide +kernel
theorem dX7_guards_51 : decode cX7_guards 51 = .ok (.aload_n 0, 1) := by decide +kernel
theorem dX7_guards_52 : decode cX7_guards 52 = .ok (.getfield 10, 3) := by decide +kernel
theorem dX7_guards_55 : decode cX7_guards 55 = .ok (.getfield 92, 3) := by decide +kernel
theorem dX7_guards_58 : decode cX7_guards 58 = .ok (.ishl, 1) := by decide +kernel
theorem dX7_guards_59 : decode cX7_guards 59 = .ok (.iconst 1, 1) := by decide +kernel
theorem dX7_guards_60 : decode cX7_guards 60 = .ok (.isub, 1) := by decide +kernel
theorem dX7_guards_61 : decode cX7_guards 61 = .ok (.istore_n 3, 1) := by decide +kernel
theorem dX7_guards_62 : decode cX7_guards 62 = .ok (.iload_n 3, 1) := by decide +kernel
theorem dX7_guards_63 : decode cX7_guards 63 = .ok (.iconst 1, 1) := by decide +kernel
theorem dX7_guards_64 : decode cX7_guards 64 = .ok (.isub, 1) := by decide +kernel
theorem dX7_guards_65 : decode cX7_guards 65 = .ok (.istore 4, 2) := by decide +kernel
theorem dX7_guards_67 : decode cX7_guards 67 = .ok (.iload 4, 2) := by decide +kernel
theorem dX7_guards_69 : decode cX7_guards 69 = .ok (.ifCond .lt 47, 3) := by decide +kernel
theorem dX7_guards_72 : decode cX7_guards 72 = .ok (.iload 4, 2) := by decide +kernel
theorem dX7_guards_74 : decode cX7_guards 74 = .ok (.iload 4, 2) := by decide +kernel
theorem dX7_guards_76 : decode cX7_guards 76 = .ok (.iconst 1, 1) := by decide +kernel
theorem dX7_guards_77 : decode cX7_guards 77 = .ok (.ishl, 1) := by decide +kernel
theorem dX7_guards_78 : decode cX7_guards 78 = .ok (.ior, 1) := by decide +kernel
theorem dX7_guards_79 : decode cX7_guards 79 = .ok (.iload 4, 2) := by decide +kernel
theorem dX7_guards_81 : decode cX7_guards 81 = .ok (.iconst 1, 1) := by decide +kernel
theorem dX7_guards_82 : decode cX7_guards 82 = .ok (.ishr, 1) := by decide +kernel
theorem dX7_guards_83 : decode cX7_guards 83 = .ok (.ior, 1) := by decide +kernel
theorem dX7_guards_84 : decode cX7_guards 84 = .ok (.istore 5, 2) := by decide +kernel
theorem dX7_guards_86 : decode cX7_guards 86 = .ok (.iload_n 2, 1) := by decide +kernel
theorem dX7_guards_87 : decode cX7_guards 87 = .ok (.iload 5, 2) := by decide +kernel
theorem dX7_guards_89 : decode cX7_guards 89 = .ok (.iconst (-1), 1) := by decide +kernel
theorem dX7_guards_90 : decode cX7_guards 90 = .ok (.ixor, 1) := by decide +kernel
theorem dX7_guards_91 : decode cX7_guards 91 = .ok (.iand, 1) := by decide +kernel
theorem dX7_guards_92 : decode cX7_guards 92 = .ok (.ifCond .ne 18, 3) := by decide +kernel
theorem dX7_guards_95 : decode cX7_guards 95 = .ok (.iload 4, 2) := by decide +kernel
theorem dX7_guards_97 : decode cX7_guards 97 = .ok (.invokestatic 244, 3) := by decide +kernel
theorem dX7_guards_100 : decode cX7_guards 100 = .ok (.iload_n 3, 1) := by decide +kernel
theorem dX7_guards_101 : decode cX7_guards 101 = .ok (.invokestatic 244, 3) := by decide +kernel
theorem dX7_guards_104 : decode cX7_guards 104 = .ok (.if_icmp .gt 6, 3) := by decide +kernel
theorem dX7_guards_107 : decode cX7_guards 107 = .ok (.iload 4, 2) := by decide +kernel
theorem dX7_guards_109 : decode cX7_guards 109 = .ok (.istore_n 3, 1) := by decide +kernel
theorem dX7_guards_110 : decode cX7_guards 110 = .ok (.iinc 4 (-1), 3) := by decide +kernel
theorem dX7_guards_113 : decode cX7_guards 113 = .ok (.goto (-46), 3) := by decide +kernel
theorem dX7_guards_116 : decode cX7_guards 116 = .ok (.iload_n 1, 1) := by decide +kernel
theorem dX7_guards_117 : decode cX7_guards 117 = .ok (.ifCond .ne 10, 3) := by decide +kernel
theorem dX7_guards_120 : decode cX7_guards 120 = .ok (.iload_n 3, 1) := by decide +kernel
theorem dX7_guards_121 : decode cX7_guards 121 = .ok (.invokestatic 244, 3) := by decide +kernel
theorem dX7_guards_124 : decode cX7_guards 124 = .ok (.goto 4, 3) := by decide +kernel
theorem dX7_guards_127 : decode cX7_guards 127 = .ok (.iload_n 3, 1) := by decide +kernel
theorem dX7_guards_128 : decode cX7_guards 128 = .ok (.ireturn, 1) := by decide +kernel
theorem dX7_battle_0 : decode cX7_battle 0 = .ok (.iload_n 1, 1) := by decide +kernel
theorem dX7_battle_1 : decode cX7_battle 1 = .ok (.ifCond .eq 14, 3) := by decide +kernel
theorem dX7_battle_4 : decode cX7_battle 4 = .ok (.aload_n 0, 1) := by decide +kernel
theorem dX7_battle_5 : decode cX7_battle 5 = .ok (.iload_n 1, 1) := by decide +kernel
theorem dX7_battle_6 : decode cX7_battle 6 = .ok (.iconst 1, 1) := by decide +kernel
theorem dX7_battle_7 : decode cX7_battle 7 = .ok (.invokevirtual 249, 3) := by decide +kernel
theorem dX7_battle_10 : decode cX7_battle 10 = .ok (.ifCond .ne 5, 3) := by decide +kernel
theorem dX7_battle_13 : decode cX7_battle 13 = .ok (.iconst (-1), 1) := by decide +kernel
theorem dX7_battle_14 : decode cX7_battle 14 = .ok (.ireturn, 1) := by decide +kernel
theorem dX7_battle_15 : decode cX7_battle 15 = .ok (.aload_n 0, 1) := by decide +kernel
theorem dX7_battle_16 : decode cX7_battle 16 = .ok (.getfield 64, 3) := by decide +kernel
theorem dX7_battle_19 : decode cX7_battle 19 = .ok (.aload_n 0, 1) := by decide +kernel
theorem dX7_battle_20 : decode cX7_battle 20 = .ok (.getfield 10, 3) := by decide +kernel
theorem dX7_battle_23 : decode cX7_battle 23 = .ok (.invokevirtual 280, 3) := by decide +kernel
theorem dX7_battle_26 : decode cX7_battle 26 = .ok (.istore_n 2, 1) := by decide +kernel
theorem dX7_battle_27 : decode cX7_battle 27 = .ok (.iload_n 1, 1) := by decide +kernel
theorem dX7_battle_28 : decode cX7_battle 28 = .ok (.ifCond .ne 7, 3) := by decide +kernel
theorem dX7_battle_31 : decode cX7_battle 31 = .ok (.iload_n 2, 1) := by decide +kernel
theorem dX7_battle_32 : decode cX7_battle 32 = .ok (.goto 14, 3) := by decide +kernel
theorem dX7_battle_35 : decode cX7_battle 35 = .ok (.aload_n 0, 1) := by decide +kernel
theorem dX7_battle_36 : decode cX7_battle 36 = .ok (.getfield 64, 3) := by decide +kernel
theorem dX7_battle_39 : decode cX7_battle 39 = .ok (.getfield 257, 3) := by decide +kernel
theorem dX7_battle_42 : decode cX7_battle 42 = .ok (.iload_n 1, 1) := by decide +kernel
theorem dX7_battle_43 : decode cX7_battle 43 = .ok (.iconst 1, 1) := by decide +kernel
theorem dX7_battle_44 : decode cX7_battle 44 = .ok (.isub, 1) := by decide +kernel
theorem dX7_battle_45 : decode cX7_battle 45 = .ok (.iaload, 1) := by decide +kernel
theorem dX7_battle_46 : decode cX7_battle 46 = .ok (.ireturn, 1) := by decide +kernel
theorem dX7_share_0 : decode cX7_share 0 = .ok (.iload_n 1, 1) := by decide +kernel
theorem dX7_share_1 : decode cX7_share 1 = .ok (.ifCond .lt 34, 3) := by decide +kernel
theorem dX7_share_4 : decode cX7_share 4 = .ok (.iload_n 1, 1) := by decide +kernel
theorem dX7_share_5 : decode cX7_share 5 = .ok (.ldc_w 283, 3) := by decide +kernel
theorem dX7_share_8 : decode cX7_share 8 = .ok (.if_icmp .gt 27, 3) := by decide +kernel
theorem dX7_share_11 : decode cX7_share 11 = .ok (.aload_n 0, 1) := by decide +kernel
theorem dX7_share_12 : decode cX7_share 12 = .ok (.getfield 10, 3) := by decide +kernel
theorem dX7_share_15 : decode cX7_share 15 = .ok (.iload_n 2, 1) := by decide +kernel
theorem dX7_share_16 : decode cX7_share 16 = .ok (.invokevirtual 138, 3) := by decide +kernel
theorem dX7_share_19 : decode cX7_share 19 = .ok (.ifCond .eq 16, 3) := by decide +kernel
theorem dX7_share_22 : decode cX7_share 22 = .ok (.aload_n 0, 1) := by decide +kernel
theorem dX7_share_23 : decode cX7_share 23 = .ok (.getfield 10, 3) := by decide +kernel
theorem dX7_share_26 : decode cX7_share 26 = .ok (.getfield 129, 3) := by decide +kernel
theorem dX7_share_29 : decode cX7_share 29 = .ok (.iload_n 2, 1) := by decide +kernel
theorem dX7_share_30 : decode cX7_share 30 = .ok (.iaload, 1) := by decide +kernel
theorem dX7_share_31 : decode cX7_share 31 = .ok (.iconst (-1), 1) := by decide +kernel
theorem dX7_share_32 : decode cX7_share 32 = .ok (.if_icmp .ne 5, 3) := by decide +kernel
theorem dX7_share_35 : decode cX7_share 35 = .ok (.iconst (-1), 1) := by decide +kernel
theorem dX7_share_36 : decode cX7_share 36 = .ok (.ireturn, 1) := by decide +kernel
theorem dX7_share_37 : decode cX7_share 37 = .ok (.aload_n 0, 1) := by decide +kernel
theorem dX7_share_38 : decode cX7_share 38 = .ok (.getfield 10, 3) := by decide +kernel
theorem dX7_share_41 : decode cX7_share 41 = .ok (.iload_n 1, 1) := by decide +kernel
theorem dX7_share_42 : decode cX7_share 42 = .ok (.iload_n 2, 1) := by decide +kernel
theorem dX7_share_43 : decode cX7_share 43 = .ok (.invokestatic 284, 3) := by decide +kernel
theorem dX7_share_46 : decode cX7_share 46 = .ok (.ireturn, 1) := by decide +kernel
theorem dX7_summers_0 : decode cX7_summers 0 = .ok (.iload_n 1, 1) := by decide +kernel
theorem dX7_summers_1 : decode cX7_summers 1 = .ok (.ifCond .lt 21, 3) := by decide +kernel
theorem dX7_summers_4 : decode cX7_summers 4 = .ok (.iload_n 1, 1) := by decide +kernel
theorem dX7_summers_5 : decode cX7_summers 5 = .ok (.ldc_w 287, 3) := by decide +kernel
theorem dX7_summers_8 : decode cX7_summers 8 = .ok (.if_icmp .gt 14, 3) := by decide +kernel
theorem dX7_summers_11 : decode cX7_summers 11 = .ok (.iload_n 2, 1) := by decide +kernel
theorem dX7_summers_12 : decode cX7_summers 12 = .ok (.iconst 1, 1) := by decide +kernel
theorem dX7_summers_13 : decode cX7_summers 13 = .ok (.if_icmp .lt 9, 3) := by decide +kernel
theorem dX7_summers_16 : decode cX7_summers 16 = .ok (.iload_n 2, 1) := by decide +kernel
theorem dX7_summers_17 : decode cX7_summers 17 = .ok (.bipush 60, 2) := by decide +kernel
theorem dX7_summers_19 : decode cX7_summers 19 = .ok (.if_icmp .le 9, 3) := by decide +kernel
theorem dX7_summers_22 : decode cX7_summers 22 = .ok (.aload_n 0, 1) := by decide +kernel
theorem dX7_summers_23 : decode cX7_summers 23 = .ok (.iconst (-1), 1) := by decide +kernel
theorem dX7_summers_24 : decode cX7_summers 24 = .ok (.invokevirtual 88, 3) := by decide +kernel
theorem dX7_summers_27 : decode cX7_summers 27 = .ok (.ireturn, 1) := by decide +kernel
theorem dX7_summers_28 : decode cX7_summers 28 = .ok (.aload_n 0, 1) := by decide +kernel
theorem dX7_summers_29 : decode cX7_summers 29 = .ok (.getfield 26, 3) := by decide +kernel
theorem dX7_summers_32 : decode cX7_summers 32 = .ok (.aload_n 0, 1) := by decide +kernel
theorem dX7_summers_33 : decode cX7_summers 33 = .ok (.getfield 10, 3) := by decide +kernel
theorem dX7_summers_36 : decode cX7_summers 36 = .ok (.invokevirtual 288, 3) := by decide +kernel
theorem dX7_summers_39 : decode cX7_summers 39 = .ok (.aload_n 0, 1) := by decide +kernel
theorem dX7_summers_40 : decode cX7_summers 40 = .ok (.iconst 1, 1) := by decide +kernel
theorem dX7_summers_41 : decode cX7_summers 41 = .ok (.putfield 29, 3) := by decide +kernel
theorem dX7_summers_44 : decode cX7_summers 44 = .ok (.iload_n 1, 1) := by decide +kernel
theorem dX7_summers_45 : decode cX7_summers 45 = .ok (.i2l, 1) := by decide +kernel
theorem dX7_summers_46 : decode cX7_summers 46 = .ok (.lstore_n 3, 1) := by decide +kernel
theorem dX7_summers_47 : decode cX7_summers 47 = .ok (.iconst 0, 1) := by decide +kernel
theorem dX7_summers_48 : decode cX7_summers 48 = .ok (.istore 5, 2) := by decide +kernel
theorem dX7_summers_50 : decode cX7_summers 50 = .ok (.iload 5, 2) := by decide +kernel
theorem dX7_summers_52 : decode cX7_summers 52 = .ok (.iload_n 2, 1) := by decide +kernel
theorem dX7_summers_53 : decode cX7_summers 53 = .ok (.if_icmp .ge 156, 3) := by decide +kernel
theorem dX7_summers_56 : decode cX7_summers 56 = .ok (.aload_n 0, 1) := by decide +kernel
theorem dX7_summers_57 : decode cX7_summers 57 = .ok (.getfield 26, 3) := by decide +kernel
theorem dX7_summers_60 : decode cX7_summers 60 = .ok (.getfield 175, 3) := by decide +kernel
theorem dX7_summers_63 : decode cX7_summers 63 = .ok (.sipush 999, 3) := by decide +kernel
theorem dX7_summers_66 : decode cX7_summers 66 = .ok (.if_icmp .ge 143, 3) := by decide +kernel
theorem dX7_summers_69 : decode cX7_summers 69 = .ok (.iconst 0, 1) := by decide +kernel
theorem dX7_summers_70 : decode cX7_summers 70 = .ok (.istore 6, 2) := by decide +kernel
theorem dX7_summers_72 : decode cX7_summers 72 = .ok (.iload 6, 2) := by decide +kernel
theorem dX7_summers_74 : decode cX7_summers 74 = .ok (.aload_n 0, 1) := by decide +kernel
theorem dX7_summers_75 : decode cX7_summers 75 = .ok (.getfield 26, 3) := by decide +kernel
theorem dX7_summers_78 : decode cX7_summers 78 = .ok (.getfield 111, 3) := by decide +kernel
theorem dX7_summers_81 : decode cX7_summers 81 = .ok (.if_icmp .ge 114, 3) := by decide +kernel
theorem dX7_summers_84 : decode cX7_summers 84 = .ok (.aload_n 0, 1) := by decide +kernel
theorem dX7_summers_85 : decode cX7_summers 85 = .ok (.getfield 26, 3) := by decide +kernel
theorem dX7_summers_88 : decode cX7_summers 88 = .ok (.getfield 129, 3) := by decide +kernel
theorem dX7_summers_91 : decode cX7_summers 91 = .ok (.iload 6, 2) := by decide +kernel
theorem dX7_summers_93 : decode cX7_summers 93 = .ok (.iaload, 1) := by decide +kernel
theorem dX7_summers_94 : decode cX7_summers 94 = .ok (.istore 7, 2) := by decide +kernel
theorem dX7_summers_96 : decode cX7_summers 96 = .ok (.iload 7, 2) := by decide +kernel
theorem dX7_summers_98 : decode cX7_summers 98 = .ok (.iconst (-1), 1) := by decide +kernel
theorem dX7_summers_99 : decode cX7_summers 99 = .ok (.if_icmp .ne 6, 3) := by decide +kernel
theorem dX7_summers_102 : decode cX7_summers 102 = .ok (.goto 87, 3) := by decide +kernel
theorem dX7_summers_105 : decode cX7_summers 105 = .ok (.aload_n 0, 1) := by decide +kernel
theorem dX7_summers_106 : decode cX7_summers 106 = .ok (.getfield 26, 3) := by decide +kernel
theorem dX7_summers_109 : decode cX7_summers 109 = .ok (.iload 6, 2) := by decide +kernel
theorem dX7_summers_111 : decode cX7_summers 111 = .ok (.aload_n 0, 1) := by decide +kernel
theorem dX7_summers_112 : decode cX7_summers 112 = .ok (.getfield 50, 3) := by decide +kernel
theorem dX7_summers_115 : decode cX7_summers 115 = .ok (.aload_n 0, 1) := by decide +kernel
theorem dX7_summers_116 : decode cX7_summers 116 = .ok (.getfield 26, 3) := by decide +kernel
theorem dX7_summers_119 : decode cX7_summers 119 = .ok (.iload 6, 2) := by decide +kernel
theorem dX7_summers_121 : decode cX7_summers 121 = .ok (.iload 7, 2) := by decide +kernel
theorem dX7_summers_123 : decode cX7_summers 123 = .ok (.aload_n 0, 1) := by decide +kernel
theorem dX7_summers_124 : decode cX7_summers 124 = .ok (.getfield 26, 3) := by decide +kernel
theorem dX7_summers_127 : decode cX7_summers 127 = .ok (.getfield 155, 3) := by decide +kernel
theorem dX7_summers_130 : decode cX7_summers 130 = .ok (.iload 7, 2) := by decide +kernel
theorem dX7_summers_132 : decode cX7_summers 132 = .ok (.iaload, 1) := by decide +kernel
theorem dX7_summers_133 : decode cX7_summers 133 = .ok (.invokevirtual 161, 3) := by decide +kernel
theorem dX7_summers_136 : decode cX7_summers 136 = .ok (.invokevirtual 292, 3) := by decide +kernel
theorem dX7_summers_139 : decode cX7_summers 139 = .ok (.lload_n 3, 1) := by decide +kernel
theorem dX7_summers_140 : decode cX7_summers 140 = .ok (.ldc2_w 296, 3) := by decide +kernel
theorem dX7_summers_143 : decode cX7_summers 143 = .ok (.lmul, 1) := by decide +kernel
theorem dX7_summers_144 : decode cX7_summers 144 = .ok (.ldc2_w 298, 3) := by decide +kernel
theorem dX7_summers_147 : decode cX7_summers 147 = .ok (.ladd, 1) := by decide +kernel
theorem dX7_summers_148 : decode cX7_summers 148 = .ok (.ldc2_w 300, 3) := by decide +kernel
theorem dX7_summers_151 : decode cX7_summers 151 = .ok (.lrem, 1) := by decide +kernel
theorem dX7_summers_152 : decode cX7_summers 152 = .ok (.lstore_n 3, 1) := by decide +kernel
theorem dX7_summers_153 : decode cX7_summers 153 = .ok (.lload_n 3, 1) := by decide +kernel
theorem dX7_summers_154 : decode cX7_summers 154 = .ok (.ldc2_w 278, 3) := by decide +kernel
theorem dX7_summers_157 : decode cX7_summers 157 = .ok (.lrem, 1) := by decide +kernel
theorem dX7_summers_158 : decode cX7_summers 158 = .ok (.aload_n 0, 1) := by decide +kernel
theorem dX7_summers_159 : decode cX7_summers 159 = .ok (.getfield 50, 3) := by decide +kernel
theorem dX7_summers_162 : decode cX7_summers 162 = .ok (.aload_n 0, 1) := by decide +kernel
theorem dX7_summers_163 : decode cX7_summers 163 = .ok (.getfield 26, 3) := by decide +kernel
theorem dX7_summers_166 : decode cX7_summers 166 = .ok (.iload 6, 2) := by decide +kernel
theorem dX7_summers_168 : decode cX7_summers 168 = .ok (.iload 7, 2) := by decide +kernel
theorem dX7_summers_170 : decode cX7_summers 170 = .ok (.invokevirtual 165, 3) := by decide +kernel
theorem dX7_summers_173 : decode cX7_summers 173 = .ok (.i2l, 1) := by decide +kernel
theorem dX7_summers_174 : decode cX7_summers 174 = .ok (.lcmp, 1) := by decide +kernel
theorem dX7_summers_175 : decode cX7_summers 175 = .ok (.ifCond .ge 14, 3) := by decide +kernel
theorem dX7_summers_178 : decode cX7_summers 178 = .ok (.aload_n 0, 1) := by decide +kernel
theorem dX7_summers_179 : decode cX7_summers 179 = .ok (.getfield 26, 3) := by decide +kernel
theorem dX7_summers_182 : decode cX7_summers 182 = .ok (.getfield 129, 3) := by decide +kernel
theorem dX7_summers_185 : decode cX7_summers 185 = .ok (.iload 6, 2) := by decide +kernel
theorem dX7_summers_187 : decode cX7_summers 187 = .ok (.iconst (-1), 1) := by decide +kernel
theorem dX7_summers_188 : decode cX7_summers 188 = .ok (.iastore, 1) := by decide +kernel
theorem dX7_summers_189 : decode cX7_summers 189 = .ok (.iinc 6 1, 3) := by decide +kernel
theorem dX7_summers_192 : decode cX7_summers 192 = .ok (.goto (-120), 3) := by decide +kernel
theorem dX7_summers_195 : decode cX7_summers 195 = .ok (.aload_n 0, 1) := by decide +kernel
theorem dX7_summers_196 : decode cX7_summers 196 = .ok (.getfield 26, 3) := by decide +kernel
theorem dX7_summers_199 : decode cX7_summers 199 = .ok (.invokevirtual 302, 3) := by decide +kernel
theorem dX7_summers_202 : decode cX7_summers 202 = .ok (.pop, 1) := by decide +kernel
theorem dX7_summers_203 : decode cX7_summers 203 = .ok (.iinc 5 1, 3) := by decide +kernel
theorem dX7_summers_206 : decode cX7_summers 206 = .ok (.goto (-156), 3) := by decide +kernel
theorem dX7_summers_209 : decode cX7_summers 209 = .ok (.aload_n 0, 1) := by decide +kernel
theorem dX7_summers_210 : decode cX7_summers 210 = .ok (.aload_n 0, 1) := by decide +kernel
theorem dX7_summers_211 : decode cX7_summers 211 = .ok (.getfield 26, 3) := by decide +kernel
theorem dX7_summers_214 : decode cX7_summers 214 = .ok (.invokevirtual 306, 3) := by decide +kernel
theorem dX7_summers_217 : decode cX7_summers 217 = .ok (.aload_n 0, 1) := by decide +kernel
theorem dX7_summers_218 : decode cX7_summers 218 = .ok (.getfield 10, 3) := by decide +kernel
theorem dX7_summers_221 : decode cX7_summers 221 = .ok (.invokevirtual 306, 3) := by decide +kernel
theorem dX7_summers_224 : decode cX7_summers 224 = .ok (.isub, 1) := by decide +kernel
theorem dX7_summers_225 : decode cX7_summers 225 = .ok (.invokevirtual 98, 3) := by decide +kernel
theorem dX7_summers_228 : decode cX7_summers 228 = .ok (.ireturn, 1) := by decide +kernel
theorem dX7_drawn_0 : decode cX7_drawn 0 = .ok (.aload_n 0, 1) := by decide +kernel
theorem dX7_drawn_1 : decode cX7_drawn 1 = .ok (.getfield 29, 3) := by decide +kernel
theorem dX7_drawn_4 : decode cX7_drawn 4 = .ok (.ifCond .ne 5, 3) := by decide +kernel
theorem dX7_drawn_7 : decode cX7_drawn 7 = .ok (.iconst (-1), 1) := by decide +kernel
theorem dX7_drawn_8 : decode cX7_drawn 8 = .ok (.ireturn, 1) := by decide +kernel
theorem dX7_drawn_9 : decode cX7_drawn 9 = .ok (.iload_n 2, 1) := by decide +kernel
theorem dX7_drawn_10 : decode cX7_drawn 10 = .ok (.ifCond .ne 24, 3) := by decide +kernel
theorem dX7_drawn_13 : decode cX7_drawn 13 = .ok (.aload_n 0, 1) := by decide +kernel
theorem dX7_drawn_14 : decode cX7_drawn 14 = .ok (.getfield 26, 3) := by decide +kernel
theorem dX7_drawn_17 : decode cX7_drawn 17 = .ok (.iload_n 1, 1) := by decide +kernel
theorem dX7_drawn_18 : decode cX7_drawn 18 = .ok (.invokevirtual 138, 3) := by decide +kernel
theorem dX7_drawn_21 : decode cX7_drawn 21 = .ok (.ifCond .eq 13, 3) := by decide +kernel
theorem dX7_drawn_24 : decode cX7_drawn 24 = .ok (.aload_n 0, 1) := by decide +kernel
theorem dX7_drawn_25 : decode cX7_drawn 25 = .ok (.getfield 26, 3) := by decide +kernel
theorem dX7_drawn_28 : decode cX7_drawn 28 = .ok (.getfield 129, 3) := by decide +kernel
theorem dX7_drawn_31 : decode cX7_drawn 31 = .ok (.iload_n 1, 1) := by decide +kernel
theorem dX7_drawn_32 : decode cX7_drawn 32 = .ok (.iaload, 1) := by decide +kernel
theorem dX7_drawn_33 : decode cX7_drawn 33 = .ok (.ireturn, 1) := by decide +kernel
theorem dX7_drawn_34 : decode cX7_drawn 34 = .ok (.iload_n 2, 1) := by decide +kernel
theorem dX7_drawn_35 : decode cX7_drawn 35 = .ok (.iconst 1, 1) := by decide +kernel
theorem dX7_drawn_36 : decode cX7_drawn 36 = .ok (.if_icmp .ne 24, 3) := by decide +kernel
theorem dX7_drawn_39 : decode cX7_drawn 39 = .ok (.aload_n 0, 1) := by decide +kernel
theorem dX7_drawn_40 : decode cX7_drawn 40 = .ok (.getfield 26, 3) := by decide +kernel
theorem dX7_drawn_43 : decode cX7_drawn 43 = .ok (.iload_n 1, 1) := by decide +kernel
theorem dX7_drawn_44 : decode cX7_drawn 44 = .ok (.invokevirtual 138, 3) := by decide +kernel
theorem dX7_drawn_47 : decode cX7_drawn 47 = .ok (.ifCond .eq 13, 3) := by decide +kernel
theorem dX7_drawn_50 : decode cX7_drawn 50 = .ok (.aload_n 0, 1) := by decide +kernel
theorem dX7_drawn_51 : decode cX7_drawn 51 = .ok (.getfield 26, 3) := by decide +kernel
theorem dX7_drawn_54 : decode cX7_drawn 54 = .ok (.getfield 132, 3) := by decide +kernel
theorem dX7_drawn_57 : decode cX7_drawn 57 = .ok (.iload_n 1, 1) := by decide +kernel
theorem dX7_drawn_58 : decode cX7_drawn 58 = .ok (.iaload, 1) := by decide +kernel
theorem dX7_drawn_59 : decode cX7_drawn 59 = .ok (.ireturn, 1) := by decide +kernel
theorem dX7_drawn_60 : decode cX7_drawn 60 = .ok (.iload_n 2, 1) := by decide +kernel
theorem dX7_drawn_61 : decode cX7_drawn 61 = .ok (.iconst 2, 1) := by decide +kernel
theorem dX7_drawn_62 : decode cX7_drawn 62 = .ok (.if_icmp .ne 20, 3) := by decide +kernel
theorem dX7_drawn_65 : decode cX7_drawn 65 = .ok (.iload_n 1, 1) := by decide +kernel
theorem dX7_drawn_66 : decode cX7_drawn 66 = .ok (.invokestatic 152, 3) := by decide +kernel
theorem dX7_drawn_69 : decode cX7_drawn 69 = .ok (.ifCond .eq 13, 3) := by decide +kernel
theorem dX7_drawn_72 : decode cX7_drawn 72 = .ok (.aload_n 0, 1) := by decide +kernel
theorem dX7_drawn_73 : decode cX7_drawn 73 = .ok (.getfield 26, 3) := by decide +kernel
theorem dX7_drawn_76 : decode cX7_drawn 76 = .ok (.getfield 155, 3) := by decide +kernel
theorem dX7_drawn_79 : decode cX7_drawn 79 = .ok (.iload_n 1, 1) := by decide +kernel
theorem dX7_drawn_80 : decode cX7_drawn 80 = .ok (.iaload, 1) := by decide +kernel
theorem dX7_drawn_81 : decode cX7_drawn 81 = .ok (.ireturn, 1) := by decide +kernel
theorem dX7_drawn_82 : decode cX7_drawn 82 = .ok (.iconst (-1), 1) := by decide +kernel
theorem dX7_drawn_83 : decode cX7_drawn 83 = .ok (.ireturn, 1) := by decide +kernel
theorem dX7_image_0 : decode cX7_image 0 = .ok (.iload_n 1, 1) := by decide +kernel
theorem dX7_image_1 : decode cX7_image 1 = .ok (.ifCond .lt 8, 3) := by decide +kernel
theorem dX7_image_4 : decode cX7_image 4 = .ok (.iload_n 1, 1) := by decide +kernel
theorem dX7_image_5 : decode cX7_image 5 = .ok (.iconst 2, 1) := by decide +kernel
theorem dX7_image_6 : decode cX7_image 6 = .ok (.if_icmp .lt 9, 3) := by decide +kernel
theorem dX7_image_9 : decode cX7_image 9 = .ok (.aload_n 0, 1) := by decide +kernel
theorem dX7_image_10 : decode cX7_image 10 = .ok (.iconst (-1), 1) := by decide +kernel
theorem dX7_image_11 : decode cX7_image 11 = .ok (.invokevirtual 88, 3) := by decide +kernel
theorem dX7_image_14 : decode cX7_image 14 = .ok (.ireturn, 1) := by decide +kernel
theorem dX7_image_15 : decode cX7_image 15 = .ok (.aload_n 0, 1) := by decide +kernel
theorem dX7_image_16 : decode cX7_image 16 = .ok (.iload_n 1, 1) := by decide +kernel
theorem dX7_image_17 : decode cX7_image 17 = .ok (.invokevirtual 309, 3) := by decide +kernel
theorem dX7_image_20 : decode cX7_image 20 = .ok (.aload_n 0, 1) := by decide +kernel
theorem dX7_image_21 : decode cX7_image 21 = .ok (.getfield 10, 3) := by decide +kernel
theorem dX7_image_24 : decode cX7_image 24 = .ok (.invokevirtual 288, 3) := by decide +kernel
theorem dX7_image_27 : decode cX7_image 27 = .ok (.aload_n 0, 1) := by decide +kernel
theorem dX7_image_28 : decode cX7_image 28 = .ok (.getfield 22, 3) := by decide +kernel
theorem dX7_image_31 : decode cX7_image 31 = .ok (.iload_n 1, 1) := by decide +kernel
theorem dX7_image_32 : decode cX7_image 32 = .ok (.iconst 1, 1) := by decide +kernel
theorem dX7_image_33 : decode cX7_image 33 = .ok (.bastore, 1) := by decide +kernel
theorem dX7_image_34 : decode cX7_image 34 = .ok (.aload_n 0, 1) := by decide +kernel
theorem dX7_image_35 : decode cX7_image 35 = .ok (.iconst 0, 1) := by decide +kernel
theorem dX7_image_36 : decode cX7_image 36 = .ok (.invokevirtual 98, 3) := by decide +kernel
theorem dX7_image_39 : decode cX7_image 39 = .ok (.ireturn, 1) := by decide +kernel
theorem dX7_back_0 : decode cX7_back 0 = .ok (.iload_n 1, 1) := by decide +kernel
theorem dX7_back_1 : decode cX7_back 1 = .ok (.ifCond .lt 8, 3) := by decide +kernel
theorem dX7_back_4 : decode cX7_back 4 = .ok (.iload_n 1, 1) := by decide +kernel
theorem dX7_back_5 : decode cX7_back 5 = .ok (.iconst 2, 1) := by decide +kernel
theorem dX7_back_6 : decode cX7_back 6 = .ok (.if_icmp .lt 9, 3) := by decide +kernel
theorem dX7_back_9 : decode cX7_back 9 = .ok (.aload_n 0, 1) := by decide +kernel
theorem dX7_back_10 : decode cX7_back 10 = .ok (.iconst (-1), 1) := by decide +kernel
theorem dX7_back_11 : decode cX7_back 11 = .ok (.invokevirtual 88, 3) := by decide +kernel
theorem dX7_back_14 : decode cX7_back 14 = .ok (.ireturn, 1) := by decide +kernel
theorem dX7_back_15 : decode cX7_back 15 = .ok (.aload_n 0, 1) := by decide +kernel
theorem dX7_back_16 : decode cX7_back 16 = .ok (.getfield 22, 3) := by decide +kernel
theorem dX7_back_19 : decode cX7_back 19 = .ok (.iload_n 1, 1) := by decide +kernel
theorem dX7_back_20 : decode cX7_back 20 = .ok (.baload, 1) := by decide +kernel
theorem dX7_back_21 : decode cX7_back 21 = .ok (.ifCond .ne 10, 3) := by decide +kernel
theorem dX7_back_24 : decode cX7_back 24 = .ok (.aload_n 0, 1) := by decide +kernel
theorem dX7_back_25 : decode cX7_back 25 = .ok (.bipush (-2), 2) := by decide +kernel
theorem dX7_back_27 : decode cX7_back 27 = .ok (.invokevirtual 88, 3) := by decide +kernel
theorem dX7_back_30 : decode cX7_back 30 = .ok (.ireturn, 1) := by decide +kernel
theorem dX7_back_31 : decode cX7_back 31 = .ok (.aload_n 0, 1) := by decide +kernel
theorem dX7_back_32 : decode cX7_back 32 = .ok (.getfield 10, 3) := by decide +kernel
theorem dX7_back_35 : decode cX7_back 35 = .ok (.aload_n 0, 1) := by decide +kernel
theorem dX7_back_36 : decode cX7_back 36 = .ok (.iload_n 1, 1) := by decide +kernel
theorem dX7_back_37 : decode cX7_back 37 = .ok (.invokevirtual 309, 3) := by decide +kernel
theorem dX7_back_40 : decode cX7_back 40 = .ok (.invokevirtual 288, 3) := by decide +kernel
theorem dX7_back_43 : decode cX7_back 43 = .ok (.aload_n 0, 1) := by decide +kernel
theorem dX7_back_44 : decode cX7_back 44 = .ok (.getfield 57, 3) := by decide +kernel
theorem dX7_back_47 : decode cX7_back 47 = .ok (.iconst 0, 1) := by decide +kernel
theorem dX7_back_48 : decode cX7_back 48 = .ok (.putfield 135, 3) := by decide +kernel
theorem dX7_back_51 : decode cX7_back 51 = .ok (.aload_n 0, 1) := by decide +kernel
theorem dX7_back_52 : decode cX7_back 52 = .ok (.iconst 0, 1) := by decide +kernel
theorem dX7_back_53 : decode cX7_back 53 = .ok (.invokevirtual 98, 3) := by decide +kernel
theorem dX7_back_56 : decode cX7_back 56 = .ok (.ireturn, 1) := by decide +kernel
theorem dX7_count_0 : decode cX7_count 0 = .ok (.iload_n 1, 1) := by decide +kernel
theorem dX7_count_1 : decode cX7_count 1 = .ok (.bipush 8, 2) := by decide +kernel
theorem dX7_count_3 : decode cX7_count 3 = .ok (.if_icmp .lt 19, 3) := by decide +kernel
theorem dX7_count_6 : decode cX7_count 6 = .ok (.iload_n 1, 1) := by decide +kernel
theorem dX7_count_7 : decode cX7_count 7 = .ok (.bipush 12, 2) := by decide +kernel
theorem dX7_count_9 : decode cX7_count 9 = .ok (.if_icmp .gt 13, 3) := by decide +kernel
theorem dX7_count_12 : decode cX7_count 12 = .ok (.aload_n 0, 1) := by decide +kernel
theorem dX7_count_13 : decode cX7_count 13 = .ok (.getfield 84, 3) := by decide +kernel
theorem dX7_count_16 : decode cX7_count 16 = .ok (.iload_n 1, 1) := by decide +kernel
theorem dX7_count_17 : decode cX7_count 17 = .ok (.bipush 8, 2) := by decide +kernel
theorem dX7_count_19 : decode cX7_count 19 = .ok (.isub, 1) := by decide +kernel
theorem dX7_count_20 : decode cX7_count 20 = .ok (.iaload, 1) := by decide +kernel
theorem dX7_count_21 : decode cX7_count 21 = .ok (.ireturn, 1) := by decide +kernel
theorem dX7_count_22 : decode cX7_count 22 = .ok (.iload_n 1, 1) := by decide +kernel
theorem dX7_count_23 : decode cX7_count 23 = .ok (.tableswitch 165 0 15 #[77, 85, 93, 101, 109, 117, 125, 133, 165, 165, 165, 165, 165, 141, 149, 157], 77) := by decide +kernel
theorem dX7_count_100 : decode cX7_count 100 = .ok (.aload_n 0, 1) := by decide +kernel
theorem dX7_count_101 : decode cX7_count 101 = .ok (.getfield 10, 3) := by decide +kernel
theorem dX7_count_104 : decode cX7_count 104 = .ok (.getfield 92, 3) := by decide +kernel
theorem dX7_count_107 : decode cX7_count 107 = .ok (.ireturn, 1) := by decide +kernel
theorem dX7_count_108 : decode cX7_count 108 = .ok (.aload_n 0, 1) := by decide +kernel
theorem dX7_count_109 : decode cX7_count 109 = .ok (.getfield 10, 3) := by decide +kernel
theorem dX7_count_112 : decode cX7_count 112 = .ok (.getfield 111, 3) := by decide +kernel
theorem dX7_count_115 : decode cX7_count 115 = .ok (.ireturn, 1) := by decide +kernel
theorem dX7_count_116 : decode cX7_count 116 = .ok (.aload_n 0, 1) := by decide +kernel
theorem dX7_count_117 : decode cX7_count 117 = .ok (.getfield 10, 3) := by decide +kernel
theorem dX7_count_120 : decode cX7_count 120 = .ok (.getfield 169, 3) := by decide +kernel
theorem dX7_count_123 : decode cX7_count 123 = .ok (.ireturn, 1) := by decide +kernel
theorem dX7_count_124 : decode cX7_count 124 = .ok (.aload_n 0, 1) := by decide +kernel
theorem dX7_count_125 : decode cX7_count 125 = .ok (.getfield 10, 3) := by decide +kernel
theorem dX7_count_128 : decode cX7_count 128 = .ok (.invokevirtual 313, 3) := by decide +kernel
theorem dX7_count_131 : decode cX7_count 131 = .ok (.ireturn, 1) := by decide +kernel
theorem dX7_count_132 : decode cX7_count 132 = .ok (.aload_n 0, 1) := by decide +kernel
theorem dX7_count_133 : decode cX7_count 133 = .ok (.getfield 10, 3) := by decide +kernel
theorem dX7_count_136 : decode cX7_count 136 = .ok (.invokevirtual 306, 3) := by decide +kernel
theorem dX7_count_139 : decode cX7_count 139 = .ok (.ireturn, 1) := by decide +kernel
theorem dX7_count_140 : decode cX7_count 140 = .ok (.aload_n 0, 1) := by decide +kernel
theorem dX7_count_141 : decode cX7_count 141 = .ok (.getfield 10, 3) := by decide +kernel
theorem dX7_count_144 : decode cX7_count 144 = .ok (.getfield 191, 3) := by decide +kernel
theorem dX7_count_147 : decode cX7_count 147 = .ok (.ireturn, 1) := by decide +kernel
theorem dX7_count_148 : decode cX7_count 148 = .ok (.aload_n 0, 1) := by decide +kernel
theorem dX7_count_149 : decode cX7_count 149 = .ok (.getfield 57, 3) := by decide +kernel
theorem dX7_count_152 : decode cX7_count 152 = .ok (.getfield 135, 3) := by decide +kernel
theorem dX7_count_155 : decode cX7_count 155 = .ok (.ireturn, 1) := by decide +kernel
theorem dX7_count_156 : decode cX7_count 156 = .ok (.aload_n 0, 1) := by decide +kernel
theorem dX7_count_157 : decode cX7_count 157 = .ok (.getfield 36, 3) := by decide +kernel
theorem dX7_count_160 : decode cX7_count 160 = .ok (.getfield 181, 3) := by decide +kernel
theorem dX7_count_163 : decode cX7_count 163 = .ok (.ireturn, 1) := by decide +kernel
theorem dX7_count_164 : decode cX7_count 164 = .ok (.aload_n 0, 1) := by decide +kernel
theorem dX7_count_165 : decode cX7_count 165 = .ok (.getfield 10, 3) := by decide +kernel
theorem dX7_count_168 : decode cX7_count 168 = .ok (.getfield 233, 3) := by decide +kernel
theorem dX7_count_171 : decode cX7_count 171 = .ok (.ireturn, 1) := by decide +kernel
theorem dX7_count_172 : decode cX7_count 172 = .ok (.aload_n 0, 1) := by decide +kernel
theorem dX7_count_173 : decode cX7_count 173 = .ok (.getfield 10, 3) := by decide +kernel
theorem dX7_count_176 : decode cX7_count 176 = .ok (.getfield 175, 3) := by decide +kernel
theorem dX7_count_179 : decode cX7_count 179 = .ok (.ireturn, 1) := by decide +kernel
theorem dX7_count_180 : decode cX7_count 180 = .ok (.aload_n 0, 1) := by decide +kernel
theorem dX7_count_181 : decode cX7_count 181 = .ok (.getfield 10, 3) := by decide +kernel
theorem dX7_count_184 : decode cX7_count 184 = .ok (.getfield 178, 3) := by decide +kernel
theorem dX7_count_187 : decode cX7_count 187 = .ok (.ireturn, 1) := by decide +kernel
theorem dX7_count_188 : decode cX7_count 188 = .ok (.iconst (-1), 1) := by decide +kernel
theorem dX7_count_189 : decode cX7_count 189 = .ok (.ireturn, 1) := by decide +kernel
theorem dX7_status_0 : decode cX7_status 0 = .ok (.aload_n 0, 1) := by decide +kernel
theorem dX7_status_1 : decode cX7_status 1 = .ok (.getfield 81, 3) := by decide +kernel
theorem dX7_status_4 : decode cX7_status 4 = .ok (.ireturn, 1) := by decide +kernel
theorem dX7_granted_0 : decode cX7_granted 0 = .ok (.aload_n 0, 1) := by decide +kernel
theorem dX7_granted_1 : decode cX7_granted 1 = .ok (.iconst 0, 1) := by decide +kernel
theorem dX7_granted_2 : decode cX7_granted 2 = .ok (.putfield 81, 3) := by decide +kernel
theorem dX7_granted_5 : decode cX7_granted 5 = .ok (.iload_n 1, 1) := by decide +kernel
theorem dX7_granted_6 : decode cX7_granted 6 = .ok (.ireturn, 1) := by decide +kernel
theorem dX7_refuse_0 : decode cX7_refuse 0 = .ok (.aload_n 0, 1) := by decide +kernel
theorem dX7_refuse_1 : decode cX7_refuse 1 = .ok (.iload_n 1, 1) := by decide +kernel
theorem dX7_refuse_2 : decode cX7_refuse 2 = .ok (.putfield 81, 3) := by decide +kernel
theorem dX7_refuse_5 : decode cX7_refuse 5 = .ok (.iload_n 1, 1) := by decide +kernel
theorem dX7_refuse_6 : decode cX7_refuse 6 = .ok (.iconst (-1), 1) := by decide +kernel
theorem dX7_refuse_7 : decode cX7_refuse 7 = .ok (.if_icmp .ne 16, 3) := by decide +kernel
theorem dX7_refuse_10 : decode cX7_refuse 10 = .ok (.aload_n 0, 1) := by decide +kernel
theorem dX7_refuse_11 : decode cX7_refuse 11 = .ok (.getfield 84, 3) := by decide +kernel
theorem dX7_refuse_14 : decode cX7_refuse 14 = .ok (.iconst 0, 1) := by decide +kernel
theorem dX7_refuse_15 : decode cX7_refuse 15 = .ok (.dup2, 1) := by decide +kernel
theorem dX7_refuse_16 : decode cX7_refuse 16 = .ok (.iaload, 1) := by decide +kernel
theorem dX7_refuse_17 : decode cX7_refuse 17 = .ok (.iconst 1, 1) := by decide +kernel
theorem dX7_refuse_18 : decode cX7_refuse 18 = .ok (.iadd, 1) := by decide +kernel
theorem dX7_refuse_19 : decode cX7_refuse 19 = .ok (.iastore, 1) := by decide +kernel
theorem dX7_refuse_20 : decode cX7_refuse 20 = .ok (.goto 76, 3) := by decide +kernel
theorem dX7_refuse_23 : decode cX7_refuse 23 = .ok (.iload_n 1, 1) := by decide +kernel
theorem dX7_refuse_24 : decode cX7_refuse 24 = .ok (.bipush (-2), 2) := by decide +kernel
theorem dX7_refuse_26 : decode cX7_refuse 26 = .ok (.if_icmp .ne 16, 3) := by decide +kernel
theorem dX7_refuse_29 : decode cX7_refuse 29 = .ok (.aload_n 0, 1) := by decide +kernel
theorem dX7_refuse_30 : decode cX7_refuse 30 = .ok (.getfield 84, 3) := by decide +kernel
theorem dX7_refuse_33 : decode cX7_refuse 33 = .ok (.iconst 1, 1) := by decide +kernel
theorem dX7_refuse_34 : decode cX7_refuse 34 = .ok (.dup2, 1) := by decide +kernel
theorem dX7_refuse_35 : decode cX7_refuse 35 = .ok (.iaload, 1) := by decide +kernel
theorem dX7_refuse_36 : decode cX7_refuse 36 = .ok (.iconst 1, 1) := by decide +kernel
theorem dX7_refuse_37 : decode cX7_refuse 37 = .ok (.iadd, 1) := by decide +kernel
theorem dX7_refuse_38 : decode cX7_refuse 38 = .ok (.iastore, 1) := by decide +kernel
theorem dX7_refuse_39 : decode cX7_refuse 39 = .ok (.goto 57, 3) := by decide +kernel
theorem dX7_refuse_42 : decode cX7_refuse 42 = .ok (.iload_n 1, 1) := by decide +kernel
theorem dX7_refuse_43 : decode cX7_refuse 43 = .ok (.bipush (-3), 2) := by decide +kernel
theorem dX7_refuse_45 : decode cX7_refuse 45 = .ok (.if_icmp .ne 16, 3) := by decide +kernel
theorem dX7_refuse_48 : decode cX7_refuse 48 = .ok (.aload_n 0, 1) := by decide +kernel
theorem dX7_refuse_49 : decode cX7_refuse 49 = .ok (.getfield 84, 3) := by decide +kernel
theorem dX7_refuse_52 : decode cX7_refuse 52 = .ok (.iconst 2, 1) := by decide +kernel
theorem dX7_refuse_53 : decode cX7_refuse 53 = .ok (.dup2, 1) := by decide +kernel
theorem dX7_refuse_54 : decode cX7_refuse 54 = .ok (.iaload, 1) := by decide +kernel
theorem dX7_refuse_55 : decode cX7_refuse 55 = .ok (.iconst 1, 1) := by decide +kernel
theorem dX7_refuse_56 : decode cX7_refuse 56 = .ok (.iadd, 1) := by decide +kernel
theorem dX7_refuse_57 : decode cX7_refuse 57 = .ok (.iastore, 1) := by decide +kernel
theorem dX7_refuse_58 : decode cX7_refuse 58 = .ok (.goto 38, 3) := by decide +kernel
theorem dX7_refuse_61 : decode cX7_refuse 61 = .ok (.iload_n 1, 1) := by decide +kernel
theorem dX7_refuse_62 : decode cX7_refuse 62 = .ok (.bipush (-5), 2) := by decide +kernel
theorem dX7_refuse_64 : decode cX7_refuse 64 = .ok (.if_icmp .ne 16, 3) := by decide +kernel
theorem dX7_refuse_67 : decode cX7_refuse 67 = .ok (.aload_n 0, 1) := by decide +kernel
theorem dX7_refuse_68 : decode cX7_refuse 68 = .ok (.getfield 84, 3) := by decide +kernel
theorem dX7_refuse_71 : decode cX7_refuse 71 = .ok (.iconst 3, 1) := by decide +kernel
theorem dX7_refuse_72 : decode cX7_refuse 72 = .ok (.dup2, 1) := by decide +kernel
theorem dX7_refuse_73 : decode cX7_refuse 73 = .ok (.iaload, 1) := by decide +kernel
theorem dX7_refuse_74 : decode cX7_refuse 74 = .ok (.iconst 1, 1) := by decide +kernel
theorem dX7_refuse_75 : decode cX7_refuse 75 = .ok (.iadd, 1) := by decide +kernel
theorem dX7_refuse_76 : decode cX7_refuse 76 = .ok (.iastore, 1) := by decide +kernel
theorem dX7_refuse_77 : decode cX7_refuse 77 = .ok (.goto 19, 3) := by decide +kernel
theorem dX7_refuse_80 : decode cX7_refuse 80 = .ok (.iload_n 1, 1) := by decide +kernel
theorem dX7_refuse_81 : decode cX7_refuse 81 = .ok (.bipush (-6), 2) := by decide +kernel
theorem dX7_refuse_83 : decode cX7_refuse 83 = .ok (.if_icmp .ne 13, 3) := by decide +kernel
theorem dX7_refuse_86 : decode cX7_refuse 86 = .ok (.aload_n 0, 1) := by decide +kernel
theorem dX7_refuse_87 : decode cX7_refuse 87 = .ok (.getfield 84, 3) := by decide +kernel
theorem dX7_refuse_90 : decode cX7_refuse 90 = .ok (.iconst 4, 1) := by decide +kernel
theorem dX7_refuse_91 : decode cX7_refuse 91 = .ok (.dup2, 1) := by decide +kernel
theorem dX7_refuse_92 : decode cX7_refuse 92 = .ok (.iaload, 1) := by decide +kernel
theorem dX7_refuse_93 : decode cX7_refuse 93 = .ok (.iconst 1, 1) := by decide +kernel
theorem dX7_refuse_94 : decode cX7_refuse 94 = .ok (.iadd, 1) := by decide +kernel
theorem dX7_refuse_95 : decode cX7_refuse 95 = .ok (.iastore, 1) := by decide +kernel
theorem dX7_refuse_96 : decode cX7_refuse 96 = .ok (.iload_n 1, 1) := by decide +kernel
theorem dX7_refuse_97 : decode cX7_refuse 97 = .ok (.ireturn, 1) := by decide +kernel
theorem dX7_imageOf_0 : decode cX7_imageOf 0 = .ok (.iload_n 1, 1) := by decide +kernel
theorem dX7_imageOf_1 : decode cX7_imageOf 1 = .ok (.ifCond .ne 10, 3) := by decide +kernel
theorem dX7_imageOf_4 : decode cX7_imageOf 4 = .ok (.aload_n 0, 1) := by decide +kernel
theorem dX7_imageOf_5 : decode cX7_imageOf 5 = .ok (.getfield 16, 3) := by decide +kernel
theorem dX7_imageOf_8 : decode cX7_imageOf 8 = .ok (.goto 7, 3) := by decide +kernel
theorem dX7_imageOf_11 : decode cX7_imageOf 11 = .ok (.aload_n 0, 1) := by decide +kernel
theorem dX7_imageOf_12 : decode cX7_imageOf 12 = .ok (.getfield 19, 3) := by decide +kernel
theorem dX7_imageOf_15 : decode cX7_imageOf 15 = .ok (.areturn, 1) := by decide +kernel
theorem dX7_isCell_0 : decode cX7_isCell 0 = .ok (.iload_n 0, 1) := by decide +kernel
theorem dX7_isCell_1 : decode cX7_isCell 1 = .ok (.ifCond .lt 13, 3) := by decide +kernel
theorem dX7_isCell_4 : decode cX7_isCell 4 = .ok (.iload_n 0, 1) := by decide +kernel
theorem dX7_isCell_5 : decode cX7_isCell 5 = .ok (.bipush 25, 2) := by decide +kernel
theorem dX7_isCell_7 : decode cX7_isCell 7 = .ok (.if_icmp .ge 7, 3) := by decide +kernel
theorem dX7_isCell_10 : decode cX7_isCell 10 = .ok (.iconst 1, 1) := by decide +kernel
theorem dX7_isCell_11 : decode cX7_isCell 11 = .ok (.goto 4, 3) := by decide +kernel
theorem dX7_isCell_14 : decode cX7_isCell 14 = .ok (.iconst 0, 1) := by decide +kernel
theorem dX7_isCell_15 : decode cX7_isCell 15 = .ok (.ireturn, 1) := by decide +kernel
theorem dX7_isKnocks_0 : decode cX7_isKnocks 0 = .ok (.iload_n 0, 1) := by decide +kernel
theorem dX7_isKnocks_1 : decode cX7_isKnocks 1 = .ok (.ifCond .lt 13, 3) := by decide +kernel
theorem dX7_isKnocks_4 : decode cX7_isKnocks 4 = .ok (.iload_n 0, 1) := by decide +kernel
theorem dX7_isKnocks_5 : decode cX7_isKnocks 5 = .ok (.bipush 64, 2) := by decide +kernel
theorem dX7_isKnocks_7 : decode cX7_isKnocks 7 = .ok (.if_icmp .ge 7, 3) := by decide +kernel
theorem dX7_isKnocks_10 : decode cX7_isKnocks 10 = .ok (.iconst 1, 1) := by decide +kernel
theorem dX7_isKnocks_11 : decode cX7_isKnocks 11 = .ok (.goto 4, 3) := by decide +kernel
theorem dX7_isKnocks_14 : decode cX7_isKnocks 14 = .ok (.iconst 0, 1) := by decide +kernel
theorem dX7_isKnocks_15 : decode cX7_isKnocks 15 = .ok (.ireturn, 1) := by decide +kernel
theorem dX7_isNotLost_0 : decode cX7_isNotLost 0 = .ok (.iload_n 1, 1) := by decide +kernel
theorem dX7_isNotLost_1 : decode cX7_isNotLost 1 = .ok (.iload_n 2, 1) := by decide +kernel
theorem dX7_isNotLost_2 : decode cX7_isNotLost 2 = .ok (.if_icmp .lt 33, 3) := by decide +kernel
theorem dX7_isNotLost_5 : decode cX7_isNotLost 5 = .ok (.aload_n 0, 1) := by decide +kernel
theorem dX7_isNotLost_6 : decode cX7_isNotLost 6 = .ok (.getfield 10, 3) := by decide +kernel
theorem dX7_isNotLost_9 : decode cX7_isNotLost 9 = .ok (.iload_n 1, 1) := by decide +kernel
theorem dX7_isNotLost_10 : decode cX7_isNotLost 10 = .ok (.iload_n 2, 1) := by decide +kernel
theorem dX7_isNotLost_11 : decode cX7_isNotLost 11 = .ok (.isub, 1) := by decide +kernel
theorem dX7_isNotLost_12 : decode cX7_isNotLost 12 = .ok (.invokevirtual 138, 3) := by decide +kernel
theorem dX7_isNotLost_15 : decode cX7_isNotLost 15 = .ok (.ifCond .eq 20, 3) := by decide +kernel
theorem dX7_isNotLost_18 : decode cX7_isNotLost 18 = .ok (.aload_n 0, 1) := by decide +kernel
theorem dX7_isNotLost_19 : decode cX7_isNotLost 19 = .ok (.getfield 10, 3) := by decide +kernel
theorem dX7_isNotLost_22 : decode cX7_isNotLost 22 = .ok (.iload_n 1, 1) := by decide +kernel
theorem dX7_isNotLost_23 : decode cX7_isNotLost 23 = .ok (.iload_n 2, 1) := by decide +kernel
theorem dX7_isNotLost_24 : decode cX7_isNotLost 24 = .ok (.isub, 1) := by decide +kernel
theorem dX7_isNotLost_25 : decode cX7_isNotLost 25 = .ok (.invokevirtual 141, 3) := by decide +kernel
theorem dX7_isNotLost_28 : decode cX7_isNotLost 28 = .ok (.ifCond .ne 7, 3) := by decide +kernel
theorem dX7_isNotLost_31 : decode cX7_isNotLost 31 = .ok (.iconst 1, 1) := by decide +kernel
theorem dX7_isNotLost_32 : decode cX7_isNotLost 32 = .ok (.goto 4, 3) := by decide +kernel
theorem dX7_isNotLost_35 : decode cX7_isNotLost 35 = .ok (.iconst 0, 1) := by decide +kernel
theorem dX7_isNotLost_36 : decode cX7_isNotLost 36 = .ok (.ireturn, 1) := by decide +kernel
theorem dX7_deed_0 : decode cX7_deed 0 = .ok (.aload_n 0, 1) := by decide +kernel
theorem dX7_deed_1 : decode cX7_deed 1 = .ok (.iload_n 1, 1) := by decide +kernel
theorem dX7_deed_2 : decode cX7_deed 2 = .ok (.iload_n 2, 1) := by decide +kernel
theorem dX7_deed_3 : decode cX7_deed 3 = .ok (.iload_n 3, 1) := by decide +kernel
theorem dX7_deed_4 : decode cX7_deed 4 = .ok (.invokevirtual 316, 3) := by decide +kernel
theorem dX7_deed_7 : decode cX7_deed 7 = .ok (.istore 4, 2) := by decide +kernel
theorem dX7_deed_9 : decode cX7_deed 9 = .ok (.iload 4, 2) := by decide +kernel
theorem dX7_deed_11 : decode cX7_deed 11 = .ok (.ifCond .eq 10, 3) := by decide +kernel
theorem dX7_deed_14 : decode cX7_deed 14 = .ok (.aload_n 0, 1) := by decide +kernel
theorem dX7_deed_15 : decode cX7_deed 15 = .ok (.iload 4, 2) := by decide +kernel
theorem dX7_deed_17 : decode cX7_deed 17 = .ok (.invokevirtual 88, 3) := by decide +kernel
theorem dX7_deed_20 : decode cX7_deed 20 = .ok (.ireturn, 1) := by decide +kernel
theorem dX7_deed_21 : decode cX7_deed 21 = .ok (.aload_n 0, 1) := by decide +kernel
theorem dX7_deed_22 : decode cX7_deed 22 = .ok (.iload_n 1, 1) := by decide +kernel
theorem dX7_deed_23 : decode cX7_deed 23 = .ok (.iload_n 2, 1) := by decide +kernel
theorem dX7_deed_24 : decode cX7_deed 24 = .ok (.iload_n 3, 1) := by decide +kernel
theorem dX7_deed_25 : decode cX7_deed 25 = .ok (.invokevirtual 319, 3) := by decide +kernel
theorem dX7_deed_28 : decode cX7_deed 28 = .ok (.istore 5, 2) := by decide +kernel
theorem dX7_deed_30 : decode cX7_deed 30 = .ok (.aload_n 0, 1) := by decide +kernel
theorem dX7_deed_31 : decode cX7_deed 31 = .ok (.getfield 57, 3) := by decide +kernel
theorem dX7_deed_34 : decode cX7_deed 34 = .ok (.invokevirtual 227, 3) := by decide +kernel
theorem dX7_deed_37 : decode cX7_deed 37 = .ok (.aload_n 0, 1) := by decide +kernel
theorem dX7_deed_38 : decode cX7_deed 38 = .ok (.iload 5, 2) := by decide +kernel
theorem dX7_deed_40 : decode cX7_deed 40 = .ok (.invokevirtual 98, 3) := by decide +kernel
theorem dX7_deed_43 : decode cX7_deed 43 = .ok (.ireturn, 1) := by decide +kernel
theorem dX7_act_0 : decode cX7_act 0 = .ok (.aload_n 0, 1) := by decide +kernel
theorem dX7_act_1 : decode cX7_act 1 = .ok (.getfield 57, 3) := by decide +kernel
theorem dX7_act_4 : decode cX7_act 4 = .ok (.iload_n 1, 1) := by decide +kernel
theorem dX7_act_5 : decode cX7_act 5 = .ok (.aload_n 0, 1) := by decide +kernel
theorem dX7_act_6 : decode cX7_act 6 = .ok (.getfield 10, 3) := by decide +kernel
theorem dX7_act_9 : decode cX7_act 9 = .ok (.invokevirtual 322, 3) := by decide +kernel
theorem dX7_act_12 : decode cX7_act 12 = .ok (.iload_n 1, 1) := by decide +kernel
theorem dX7_act_13 : decode cX7_act 13 = .ok (.tableswitch 179 0 3 #[31, 53, 85, 135], 31) := by decide +kernel
theorem dX7_act_44 : decode cX7_act 44 = .ok (.aload_n 0, 1) := by decide +kernel
theorem dX7_act_45 : decode cX7_act 45 = .ok (.getfield 10, 3) := by decide +kernel
theorem dX7_act_48 : decode cX7_act 48 = .ok (.getfield 126, 3) := by decide +kernel
theorem dX7_act_51 : decode cX7_act 51 = .ok (.iload_n 2, 1) := by decide +kernel
theorem dX7_act_52 : decode cX7_act 52 = .ok (.iconst (-1), 1) := by decide +kernel
theorem dX7_act_53 : decode cX7_act 53 = .ok (.iastore, 1) := by decide +kernel
theorem dX7_act_54 : decode cX7_act 54 = .ok (.aload_n 0, 1) := by decide +kernel
theorem dX7_act_55 : decode cX7_act 55 = .ok (.getfield 10, 3) := by decide +kernel
theorem dX7_act_58 : decode cX7_act 58 = .ok (.getfield 129, 3) := by decide +kernel
theorem dX7_act_61 : decode cX7_act 61 = .ok (.iload_n 2, 1) := by decide +kernel
theorem dX7_act_62 : decode cX7_act 62 = .ok (.iconst 0, 1) := by decide +kernel
theorem dX7_act_63 : decode cX7_act 63 = .ok (.iastore, 1) := by decide +kernel
theorem dX7_act_64 : decode cX7_act 64 = .ok (.iconst 0, 1) := by decide +kernel
theorem dX7_act_65 : decode cX7_act 65 = .ok (.ireturn, 1) := by decide +kernel
theorem dX7_act_66 : decode cX7_act 66 = .ok (.aload_n 0, 1) := by decide +kernel
theorem dX7_act_67 : decode cX7_act 67 = .ok (.getfield 10, 3) := by decide +kernel
theorem dX7_act_70 : decode cX7_act 70 = .ok (.getfield 129, 3) := by decide +kernel
theorem dX7_act_73 : decode cX7_act 73 = .ok (.iload_n 2, 1) := by decide +kernel
theorem dX7_act_74 : decode cX7_act 74 = .ok (.aload_n 0, 1) := by decide +kernel
theorem dX7_act_75 : decode cX7_act 75 = .ok (.getfield 10, 3) := by decide +kernel
theorem dX7_act_78 : decode cX7_act 78 = .ok (.getfield 129, 3) := by decide +kernel
theorem dX7_act_81 : decode cX7_act 81 = .ok (.iload_n 2, 1) := by decide +kernel
theorem dX7_act_82 : decode cX7_act 82 = .ok (.iaload, 1) := by decide +kernel
theorem dX7_act_83 : decode cX7_act 83 = .ok (.iload_n 3, 1) := by decide +kernel
theorem dX7_act_84 : decode cX7_act 84 = .ok (.invokestatic 326, 3) := by decide +kernel
theorem dX7_act_87 : decode cX7_act 87 = .ok (.iastore, 1) := by decide +kernel
theorem dX7_act_88 : decode cX7_act 88 = .ok (.aload_n 0, 1) := by decide +kernel
theorem dX7_act_89 : decode cX7_act 89 = .ok (.getfield 10, 3) := by decide +kernel
theorem dX7_act_92 : decode cX7_act 92 = .ok (.getfield 129, 3) := by decide +kernel
theorem dX7_act_95 : decode cX7_act 95 = .ok (.iload_n 2, 1) := by decide +kernel
theorem dX7_act_96 : decode cX7_act 96 = .ok (.iaload, 1) := by decide +kernel
theorem dX7_act_97 : decode cX7_act 97 = .ok (.ireturn, 1) := by decide +kernel
theorem dX7_act_98 : decode cX7_act 98 = .ok (.aload_n 0, 1) := by decide +kernel
theorem dX7_act_99 : decode cX7_act 99 = .ok (.getfield 10, 3) := by decide +kernel
theorem dX7_act_102 : decode cX7_act 102 = .ok (.getfield 129, 3) := by decide +kernel
theorem dX7_act_105 : decode cX7_act 105 = .ok (.iload_n 2, 1) := by decide +kernel
theorem dX7_act_106 : decode cX7_act 106 = .ok (.iaload, 1) := by decide +kernel
theorem dX7_act_107 : decode cX7_act 107 = .ok (.istore 4, 2) := by decide +kernel
theorem dX7_act_109 : decode cX7_act 109 = .ok (.aload_n 0, 1) := by decide +kernel
theorem dX7_act_110 : decode cX7_act 110 = .ok (.getfield 50, 3) := by decide +kernel
theorem dX7_act_113 : decode cX7_act 113 = .ok (.aload_n 0, 1) := by decide +kernel
theorem dX7_act_114 : decode cX7_act 114 = .ok (.getfield 10, 3) := by decide +kernel
theorem dX7_act_117 : decode cX7_act 117 = .ok (.iload_n 2, 1) := by decide +kernel
theorem dX7_act_118 : decode cX7_act 118 = .ok (.iload 4, 2) := by decide +kernel
theorem dX7_act_120 : decode cX7_act 120 = .ok (.aload_n 0, 1) := by decide +kernel
theorem dX7_act_121 : decode cX7_act 121 = .ok (.getfield 10, 3) := by decide +kernel
theorem dX7_act_124 : decode cX7_act 124 = .ok (.getfield 155, 3) := by decide +kernel
theorem dX7_act_127 : decode cX7_act 127 = .ok (.iload 4, 2) := by decide +kernel
theorem dX7_act_129 : decode cX7_act 129 = .ok (.iaload, 1) := by decide +kernel
theorem dX7_act_130 : decode cX7_act 130 = .ok (.invokevirtual 161, 3) := by decide +kernel
theorem dX7_act_133 : decode cX7_act 133 = .ok (.istore 5, 2) := by decide +kernel
theorem dX7_act_135 : decode cX7_act 135 = .ok (.aload_n 0, 1) := by decide +kernel
theorem dX7_act_136 : decode cX7_act 136 = .ok (.getfield 10, 3) := by decide +kernel
theorem dX7_act_139 : decode cX7_act 139 = .ok (.iload_n 2, 1) := by decide +kernel
theorem dX7_act_140 : decode cX7_act 140 = .ok (.iload 5, 2) := by decide +kernel
theorem dX7_act_142 : decode cX7_act 142 = .ok (.invokevirtual 292, 3) := by decide +kernel
theorem dX7_act_145 : decode cX7_act 145 = .ok (.iload 5, 2) := by decide +kernel
theorem dX7_act_147 : decode cX7_act 147 = .ok (.ireturn, 1) := by decide +kernel
theorem dX7_act_148 : decode cX7_act 148 = .ok (.aload_n 0, 1) := by decide +kernel
theorem dX7_act_149 : decode cX7_act 149 = .ok (.getfield 10, 3) := by decide +kernel
theorem dX7_act_152 : decode cX7_act 152 = .ok (.getfield 132, 3) := by decide +kernel
theorem dX7_act_155 : decode cX7_act 155 = .ok (.iload_n 2, 1) := by decide +kernel
theorem dX7_act_156 : decode cX7_act 156 = .ok (.iaload, 1) := by decide +kernel
theorem dX7_act_157 : decode cX7_act 157 = .ok (.istore 6, 2) := by decide +kernel
theorem dX7_act_159 : decode cX7_act 159 = .ok (.aload_n 0, 1) := by decide +kernel
theorem dX7_act_160 : decode cX7_act 160 = .ok (.getfield 10, 3) := by decide +kernel
theorem dX7_act_163 : decode cX7_act 163 = .ok (.getfield 126, 3) := by decide +kernel
theorem dX7_act_166 : decode cX7_act 166 = .ok (.iload_n 2, 1) := by decide +kernel
theorem dX7_act_167 : decode cX7_act 167 = .ok (.iload_n 3, 1) := by decide +kernel
theorem dX7_act_168 : decode cX7_act 168 = .ok (.iastore, 1) := by decide +kernel
theorem dX7_act_169 : decode cX7_act 169 = .ok (.aload_n 0, 1) := by decide +kernel
theorem dX7_act_170 : decode cX7_act 170 = .ok (.getfield 10, 3) := by decide +kernel
theorem dX7_act_173 : decode cX7_act 173 = .ok (.getfield 129, 3) := by decide +kernel
theorem dX7_act_176 : decode cX7_act 176 = .ok (.iload_n 2, 1) := by decide +kernel
theorem dX7_act_177 : decode cX7_act 177 = .ok (.iconst (-1), 1) := by decide +kernel
theorem dX7_act_178 : decode cX7_act 178 = .ok (.iastore, 1) := by decide +kernel
theorem dX7_act_179 : decode cX7_act 179 = .ok (.aload_n 0, 1) := by decide +kernel
theorem dX7_act_180 : decode cX7_act 180 = .ok (.getfield 10, 3) := by decide +kernel
theorem dX7_act_183 : decode cX7_act 183 = .ok (.getfield 132, 3) := by decide +kernel
theorem dX7_act_186 : decode cX7_act 186 = .ok (.iload_n 2, 1) := by decide +kernel
theorem dX7_act_187 : decode cX7_act 187 = .ok (.iconst 0, 1) := by decide +kernel
theorem dX7_act_188 : decode cX7_act 188 = .ok (.iastore, 1) := by decide +kernel
theorem dX7_act_189 : decode cX7_act 189 = .ok (.iload 6, 2) := by decide +kernel
theorem dX7_act_191 : decode cX7_act 191 = .ok (.ireturn, 1) := by decide +kernel
theorem dX7_act_192 : decode cX7_act 192 = .ok (.aload_n 0, 1) := by decide +kernel
theorem dX7_act_193 : decode cX7_act 193 = .ok (.getfield 10, 3) := by decide +kernel
theorem dX7_act_196 : decode cX7_act 196 = .ok (.invokevirtual 302, 3) := by decide +kernel
theorem dX7_act_199 : decode cX7_act 199 = .ok (.ireturn, 1) := by decide +kernel
theorem dX7_refusal_0 : decode cX7_refusal 0 = .ok (.iload_n 1, 1) := by decide +kernel
theorem dX7_refusal_1 : decode cX7_refusal 1 = .ok (.iconst 4, 1) := by decide +kernel
theorem dX7_refusal_2 : decode cX7_refusal 2 = .ok (.if_icmp .ne 23, 3) := by decide +kernel
theorem dX7_refusal_5 : decode cX7_refusal 5 = .ok (.aload_n 0, 1) := by decide +kernel
theorem dX7_refusal_6 : decode cX7_refusal 6 = .ok (.getfield 10, 3) := by decide +kernel
theorem dX7_refusal_9 : decode cX7_refusal 9 = .ok (.getfield 175, 3) := by decide +kernel
theorem dX7_refusal_12 : decode cX7_refusal 12 = .ok (.sipush 999, 3) := by decide +kernel
theorem dX7_refusal_15 : decode cX7_refusal 15 = .ok (.if_icmp .ge 7, 3) := by decide +kernel
theorem dX7_refusal_18 : decode cX7_refusal 18 = .ok (.iconst 0, 1) := by decide +kernel
theorem dX7_refusal_19 : decode cX7_refusal 19 = .ok (.goto 5, 3) := by decide +kernel
theorem dX7_refusal_22 : decode cX7_refusal 22 = .ok (.bipush (-3), 2) := by decide +kernel
theorem dX7_refusal_24 : decode cX7_refusal 24 = .ok (.ireturn, 1) := by decide +kernel
theorem dX7_refusal_25 : decode cX7_refusal 25 = .ok (.iload_n 1, 1) := by decide +kernel
theorem dX7_refusal_26 : decode cX7_refusal 26 = .ok (.iconst 1, 1) := by decide +kernel
theorem dX7_refusal_27 : decode cX7_refusal 27 = .ok (.if_icmp .ne 15, 3) := by decide +kernel
theorem dX7_refusal_30 : decode cX7_refusal 30 = .ok (.iload_n 3, 1) := by decide +kernel
theorem dX7_refusal_31 : decode cX7_refusal 31 = .ok (.iconst 1, 1) := by decide +kernel
theorem dX7_refusal_32 : decode cX7_refusal 32 = .ok (.if_icmp .lt 8, 3) := by decide +kernel
theorem dX7_refusal_35 : decode cX7_refusal 35 = .ok (.iload_n 3, 1) := by decide +kernel
theorem dX7_refusal_36 : decode cX7_refusal 36 = .ok (.iconst 4, 1) := by decide +kernel
theorem dX7_refusal_37 : decode cX7_refusal 37 = .ok (.if_icmp .le 5, 3) := by decide +kernel
theorem dX7_refusal_40 : decode cX7_refusal 40 = .ok (.iconst (-1), 1) := by decide +kernel
theorem dX7_refusal_41 : decode cX7_refusal 41 = .ok (.ireturn, 1) := by decide +kernel
theorem dX7_refusal_42 : decode cX7_refusal 42 = .ok (.aload_n 0, 1) := by decide +kernel
theorem dX7_refusal_43 : decode cX7_refusal 43 = .ok (.getfield 10, 3) := by decide +kernel
theorem dX7_refusal_46 : decode cX7_refusal 46 = .ok (.iload_n 2, 1) := by decide +kernel
theorem dX7_refusal_47 : decode cX7_refusal 47 = .ok (.invokevirtual 138, 3) := by decide +kernel
theorem dX7_refusal_50 : decode cX7_refusal 50 = .ok (.ifCond .ne 6, 3) := by decide +kernel
theorem dX7_refusal_53 : decode cX7_refusal 53 = .ok (.bipush (-2), 2) := by decide +kernel
theorem dX7_refusal_55 : decode cX7_refusal 55 = .ok (.ireturn, 1) := by decide +kernel
theorem dX7_refusal_56 : decode cX7_refusal 56 = .ok (.iload_n 1, 1) := by decide +kernel
theorem dX7_refusal_57 : decode cX7_refusal 57 = .ok (.iconst 3, 1) := by decide +kernel
theorem dX7_refusal_58 : decode cX7_refusal 58 = .ok (.if_icmp .ne 17, 3) := by decide +kernel
theorem dX7_refusal_61 : decode cX7_refusal 61 = .ok (.aload_n 0, 1) := by decide +kernel
theorem dX7_refusal_62 : decode cX7_refusal 62 = .ok (.getfield 10, 3) := by decide +kernel
theorem dX7_refusal_65 : decode cX7_refusal 65 = .ok (.iload_n 3, 1) := by decide +kernel
theorem dX7_refusal_66 : decode cX7_refusal 66 = .ok (.invokevirtual 105, 3) := by decide +kernel
theorem dX7_refusal_69 : decode cX7_refusal 69 = .ok (.ifCond .ne 6, 3) := by decide +kernel
theorem dX7_refusal_72 : decode cX7_refusal 72 = .ok (.bipush (-2), 2) := by decide +kernel
theorem dX7_refusal_74 : decode cX7_refusal 74 = .ok (.ireturn, 1) := by decide +kernel
theorem dX7_refusal_75 : decode cX7_refusal 75 = .ok (.aload_n 0, 1) := by decide +kernel
theorem dX7_refusal_76 : decode cX7_refusal 76 = .ok (.getfield 10, 3) := by decide +kernel
theorem dX7_refusal_79 : decode cX7_refusal 79 = .ok (.getfield 129, 3) := by decide +kernel
theorem dX7_refusal_82 : decode cX7_refusal 82 = .ok (.iload_n 2, 1) := by decide +kernel
theorem dX7_refusal_83 : decode cX7_refusal 83 = .ok (.iaload, 1) := by decide +kernel
theorem dX7_refusal_84 : decode cX7_refusal 84 = .ok (.istore 4, 2) := by decide +kernel
theorem dX7_refusal_86 : decode cX7_refusal 86 = .ok (.iload_n 1, 1) := by decide +kernel
theorem dX7_refusal_87 : decode cX7_refusal 87 = .ok (.ifCond .ne 41, 3) := by decide +kernel
theorem dX7_refusal_90 : decode cX7_refusal 90 = .ok (.aload_n 0, 1) := by decide +kernel
theorem dX7_refusal_91 : decode cX7_refusal 91 = .ok (.getfield 10, 3) := by decide +kernel
theorem dX7_refusal_94 : decode cX7_refusal 94 = .ok (.getfield 126, 3) := by decide +kernel
theorem dX7_refusal_97 : decode cX7_refusal 97 = .ok (.iload_n 2, 1) := by decide +kernel
theorem dX7_refusal_98 : decode cX7_refusal 98 = .ok (.iaload, 1) := by decide +kernel
theorem dX7_refusal_99 : decode cX7_refusal 99 = .ok (.iconst (-1), 1) := by decide +kernel
theorem dX7_refusal_100 : decode cX7_refusal 100 = .ok (.if_icmp .eq 22, 3) := by decide +kernel
theorem dX7_refusal_103 : decode cX7_refusal 103 = .ok (.aload_n 0, 1) := by decide +kernel
theorem dX7_refusal_104 : decode cX7_refusal 104 = .ok (.getfield 50, 3) := by decide +kernel
theorem dX7_refusal_107 : decode cX7_refusal 107 = .ok (.aload_n 0, 1) := by decide +kernel
theorem dX7_refusal_108 : decode cX7_refusal 108 = .ok (.getfield 10, 3) := by decide +kernel
theorem dX7_refusal_111 : decode cX7_refusal 111 = .ok (.iload_n 2, 1) := by decide +kernel
theorem dX7_refusal_112 : decode cX7_refusal 112 = .ok (.invokevirtual 144, 3) := by decide +kernel
theorem dX7_refusal_115 : decode cX7_refusal 115 = .ok (.ifCond .ne 7, 3) := by decide +kernel
theorem dX7_refusal_118 : decode cX7_refusal 118 = .ok (.iconst 1, 1) := by decide +kernel
theorem dX7_refusal_119 : decode cX7_refusal 119 = .ok (.goto 4, 3) := by decide +kernel
theorem dX7_refusal_122 : decode cX7_refusal 122 = .ok (.iconst 0, 1) := by decide +kernel
theorem dX7_refusal_123 : decode cX7_refusal 123 = .ok (.istore 5, 2) := by decide +kernel
theorem dX7_refusal_125 : decode cX7_refusal 125 = .ok (.goto 95, 3) := by decide +kernel
theorem dX7_refusal_128 : decode cX7_refusal 128 = .ok (.iload_n 1, 1) := by decide +kernel
theorem dX7_refusal_129 : decode cX7_refusal 129 = .ok (.iconst 1, 1) := by decide +kernel
theorem dX7_refusal_130 : decode cX7_refusal 130 = .ok (.if_icmp .ne 29, 3) := by decide +kernel
theorem dX7_refusal_133 : decode cX7_refusal 133 = .ok (.iload 4, 2) := by decide +kernel
theorem dX7_refusal_135 : decode cX7_refusal 135 = .ok (.iconst (-1), 1) := by decide +kernel
theorem dX7_refusal_136 : decode cX7_refusal 136 = .ok (.if_icmp .eq 17, 3) := by decide +kernel
theorem dX7_refusal_139 : decode cX7_refusal 139 = .ok (.iload 4, 2) := by decide +kernel
theorem dX7_refusal_141 : decode cX7_refusal 141 = .ok (.iload_n 3, 1) := by decide +kernel
theorem dX7_refusal_142 : decode cX7_refusal 142 = .ok (.invokestatic 326, 3) := by decide +kernel
theorem dX7_refusal_145 : decode cX7_refusal 145 = .ok (.iconst (-1), 1) := by decide +kernel
theorem dX7_refusal_146 : decode cX7_refusal 146 = .ok (.if_icmp .eq 7, 3) := by decide +kernel
theorem dX7_refusal_149 : decode cX7_refusal 149 = .ok (.iconst 1, 1) := by decide +kernel
theorem dX7_refusal_150 : decode cX7_refusal 150 = .ok (.goto 4, 3) := by decide +kernel
theorem dX7_refusal_153 : decode cX7_refusal 153 = .ok (.iconst 0, 1) := by decide +kernel
theorem dX7_refusal_154 : decode cX7_refusal 154 = .ok (.istore 5, 2) := by decide +kernel
theorem dX7_refusal_156 : decode cX7_refusal 156 = .ok (.goto 64, 3) := by decide +kernel
theorem dX7_refusal_159 : decode cX7_refusal 159 = .ok (.iload_n 1, 1) := by decide +kernel
theorem dX7_refusal_160 : decode cX7_refusal 160 = .ok (.iconst 2, 1) := by decide +kernel
theorem dX7_refusal_161 : decode cX7_refusal 161 = .ok (.if_icmp .ne 19, 3) := by decide +kernel
theorem dX7_refusal_164 : decode cX7_refusal 164 = .ok (.iload 4, 2) := by decide +kernel
theorem dX7_refusal_166 : decode cX7_refusal 166 = .ok (.iconst (-1), 1) := by decide +kernel
theorem dX7_refusal_167 : decode cX7_refusal 167 = .ok (.if_icmp .eq 7, 3) := by decide +kernel
theorem dX7_refusal_170 : decode cX7_refusal 170 = .ok (.iconst 1, 1) := by decide +kernel
theorem dX7_refusal_171 : decode cX7_refusal 171 = .ok (.goto 4, 3) := by decide +kernel
theorem dX7_refusal_174 : decode cX7_refusal 174 = .ok (.iconst 0, 1) := by decide +kernel
theorem dX7_refusal_175 : decode cX7_refusal 175 = .ok (.istore 5, 2) := by decide +kernel
theorem dX7_refusal_177 : decode cX7_refusal 177 = .ok (.goto 43, 3) := by decide +kernel
theorem dX7_refusal_180 : decode cX7_refusal 180 = .ok (.iload 4, 2) := by decide +kernel
theorem dX7_refusal_182 : decode cX7_refusal 182 = .ok (.ifCond .ne 35, 3) := by decide +kernel
theorem dX7_refusal_185 : decode cX7_refusal 185 = .ok (.aload_n 0, 1) := by decide +kernel
theorem dX7_refusal_186 : decode cX7_refusal 186 = .ok (.getfield 10, 3) := by decide +kernel
theorem dX7_refusal_189 : decode cX7_refusal 189 = .ok (.iload_n 3, 1) := by decide +kernel
theorem dX7_refusal_190 : decode cX7_refusal 190 = .ok (.invokevirtual 108, 3) := by decide +kernel
theorem dX7_refusal_193 : decode cX7_refusal 193 = .ok (.iconst (-1), 1) := by decide +kernel
theorem dX7_refusal_194 : decode cX7_refusal 194 = .ok (.if_icmp .ne 23, 3) := by decide +kernel
theorem dX7_refusal_197 : decode cX7_refusal 197 = .ok (.aload_n 0, 1) := by decide +kernel
theorem dX7_refusal_198 : decode cX7_refusal 198 = .ok (.getfield 50, 3) := by decide +kernel
theorem dX7_refusal_201 : decode cX7_refusal 201 = .ok (.aload_n 0, 1) := by decide +kernel
theorem dX7_refusal_202 : decode cX7_refusal 202 = .ok (.getfield 10, 3) := by decide +kernel
theorem dX7_refusal_205 : decode cX7_refusal 205 = .ok (.iload_n 2, 1) := by decide +kernel
theorem dX7_refusal_206 : decode cX7_refusal 206 = .ok (.iload_n 3, 1) := by decide +kernel
theorem dX7_refusal_207 : decode cX7_refusal 207 = .ok (.invokevirtual 148, 3) := by decide +kernel
theorem dX7_refusal_210 : decode cX7_refusal 210 = .ok (.ifCond .eq 7, 3) := by decide +kernel
theorem dX7_refusal_213 : decode cX7_refusal 213 = .ok (.iconst 1, 1) := by decide +kernel
theorem dX7_refusal_214 : decode cX7_refusal 214 = .ok (.goto 4, 3) := by decide +kernel
theorem dX7_refusal_217 : decode cX7_refusal 217 = .ok (.iconst 0, 1) := by decide +kernel
theorem dX7_refusal_218 : decode cX7_refusal 218 = .ok (.istore 5, 2) := by decide +kernel
theorem dX7_refusal_220 : decode cX7_refusal 220 = .ok (.iload 5, 2) := by decide +kernel
theorem dX7_refusal_222 : decode cX7_refusal 222 = .ok (.ifCond .eq 7, 3) := by decide +kernel
theorem dX7_refusal_225 : decode cX7_refusal 225 = .ok (.iconst 0, 1) := by decide +kernel
theorem dX7_refusal_226 : decode cX7_refusal 226 = .ok (.goto 5, 3) := by decide +kernel
theorem dX7_refusal_229 : decode cX7_refusal 229 = .ok (.bipush (-3), 2) := by decide +kernel
theorem dX7_refusal_231 : decode cX7_refusal 231 = .ok (.ireturn, 1) := by decide +kernel
theorem dX7_isObeyed_0 : decode cX7_isObeyed 0 = .ok (.aload_n 0, 1) := by decide +kernel
theorem dX7_isObeyed_1 : decode cX7_isObeyed 1 = .ok (.getfield 50, 3) := by decide +kernel
theorem dX7_isObeyed_4 : decode cX7_isObeyed 4 = .ok (.aload_n 0, 1) := by decide +kernel
theorem dX7_isObeyed_5 : decode cX7_isObeyed 5 = .ok (.getfield 10, 3) := by decide +kernel
theorem dX7_isObeyed_8 : decode cX7_isObeyed 8 = .ok (.aload_n 0, 1) := by decide +kernel
theorem dX7_isObeyed_9 : decode cX7_isObeyed 9 = .ok (.getfield 75, 3) := by decide +kernel
theorem dX7_isObeyed_12 : decode cX7_isObeyed 12 = .ok (.aload_n 0, 1) := by decide +kernel
theorem dX7_isObeyed_13 : decode cX7_isObeyed 13 = .ok (.getfield 78, 3) := by decide +kernel
theorem dX7_isObeyed_16 : decode cX7_isObeyed 16 = .ok (.invokevirtual 329, 3) := by decide +kernel
theorem dX7_isObeyed_19 : decode cX7_isObeyed 19 = .ok (.aload_n 1, 1) := by decide +kernel
theorem dX7_isObeyed_20 : decode cX7_isObeyed 20 = .ok (.iload_n 2, 1) := by decide +kernel
theorem dX7_isObeyed_21 : decode cX7_isObeyed 21 = .ok (.iconst 4, 1) := by decide +kernel
theorem dX7_isObeyed_22 : decode cX7_isObeyed 22 = .ok (.invokevirtual 215, 3) := by decide +kernel
theorem dX7_isObeyed_25 : decode cX7_isObeyed 25 = .ok (.istore_n 3, 1) := by decide +kernel
theorem dX7_isObeyed_26 : decode cX7_isObeyed 26 = .ok (.iload_n 3, 1) := by decide +kernel
theorem dX7_isObeyed_27 : decode cX7_isObeyed 27 = .ok (.iconst (-1), 1) := by decide +kernel
theorem dX7_isObeyed_28 : decode cX7_isObeyed 28 = .ok (.if_icmp .eq 18, 3) := by decide +kernel
theorem dX7_isObeyed_31 : decode cX7_isObeyed 31 = .ok (.aload_n 0, 1) := by decide +kernel
theorem dX7_isObeyed_32 : decode cX7_isObeyed 32 = .ok (.getfield 50, 3) := by decide +kernel
theorem dX7_isObeyed_35 : decode cX7_isObeyed 35 = .ok (.aload_n 1, 1) := by decide +kernel
theorem dX7_isObeyed_36 : decode cX7_isObeyed 36 = .ok (.iload_n 3, 1) := by decide +kernel
theorem dX7_isObeyed_37 : decode cX7_isObeyed 37 = .ok (.invokevirtual 333, 3) := by decide +kernel
theorem dX7_isObeyed_40 : decode cX7_isObeyed 40 = .ok (.iconst 1, 1) := by decide +kernel
theorem dX7_isObeyed_41 : decode cX7_isObeyed 41 = .ok (.if_icmp .eq 5, 3) := by decide +kernel
theorem dX7_isObeyed_44 : decode cX7_isObeyed 44 = .ok (.iconst 1, 1) := by decide +kernel
theorem dX7_isObeyed_45 : decode cX7_isObeyed 45 = .ok (.ireturn, 1) := by decide +kernel
theorem dX7_isObeyed_46 : decode cX7_isObeyed 46 = .ok (.aload_n 1, 1) := by decide +kernel
theorem dX7_isObeyed_47 : decode cX7_isObeyed 47 = .ok (.iload_n 2, 1) := by decide +kernel
theorem dX7_isObeyed_48 : decode cX7_isObeyed 48 = .ok (.iconst 1, 1) := by decide +kernel
theorem dX7_isObeyed_49 : decode cX7_isObeyed 49 = .ok (.invokevirtual 215, 3) := by decide +kernel
theorem dX7_isObeyed_52 : decode cX7_isObeyed 52 = .ok (.istore 4, 2) := by decide +kernel
theorem dX7_isObeyed_54 : decode cX7_isObeyed 54 = .ok (.aload_n 1, 1) := by decide +kernel
theorem dX7_isObeyed_55 : decode cX7_isObeyed 55 = .ok (.iload_n 2, 1) := by decide +kernel
theorem dX7_isObeyed_56 : decode cX7_isObeyed 56 = .ok (.iconst 2, 1) := by decide +kernel
theorem dX7_isObeyed_57 : decode cX7_isObeyed 57 = .ok (.invokevirtual 215, 3) := by decide +kernel
theorem dX7_isObeyed_60 : decode cX7_isObeyed 60 = .ok (.istore 5, 2) := by decide +kernel
theorem dX7_isObeyed_62 : decode cX7_isObeyed 62 = .ok (.iload 4, 2) := by decide +kernel
theorem dX7_isObeyed_64 : decode cX7_isObeyed 64 = .ok (.iconst (-1), 1) := by decide +kernel
theorem dX7_isObeyed_65 : decode cX7_isObeyed 65 = .ok (.if_icmp .ne 7, 3) := by decide +kernel
theorem dX7_isObeyed_68 : decode cX7_isObeyed 68 = .ok (.iconst (-1), 1) := by decide +kernel
theorem dX7_isObeyed_69 : decode cX7_isObeyed 69 = .ok (.goto 13, 3) := by decide +kernel
theorem dX7_isObeyed_72 : decode cX7_isObeyed 72 = .ok (.aload_n 0, 1) := by decide +kernel
theorem dX7_isObeyed_73 : decode cX7_isObeyed 73 = .ok (.getfield 50, 3) := by decide +kernel
theorem dX7_isObeyed_76 : decode cX7_isObeyed 76 = .ok (.aload_n 1, 1) := by decide +kernel
theorem dX7_isObeyed_77 : decode cX7_isObeyed 77 = .ok (.iload 4, 2) := by decide +kernel
theorem dX7_isObeyed_79 : decode cX7_isObeyed 79 = .ok (.invokevirtual 333, 3) := by decide +kernel
theorem dX7_isObeyed_82 : decode cX7_isObeyed 82 = .ok (.istore 6, 2) := by decide +kernel
theorem dX7_isObeyed_84 : decode cX7_isObeyed 84 = .ok (.iload 6, 2) := by decide +kernel
theorem dX7_isObeyed_86 : decode cX7_isObeyed 86 = .ok (.ldc_w 337, 3) := by decide +kernel
theorem dX7_isObeyed_89 : decode cX7_isObeyed 89 = .ok (.if_icmp .ne 5, 3) := by decide +kernel
theorem dX7_isObeyed_92 : decode cX7_isObeyed 92 = .ok (.iconst 0, 1) := by decide +kernel
theorem dX7_isObeyed_93 : decode cX7_isObeyed 93 = .ok (.ireturn, 1) := by decide +kernel
theorem dX7_isObeyed_94 : decode cX7_isObeyed 94 = .ok (.iload 5, 2) := by decide +kernel
theorem dX7_isObeyed_96 : decode cX7_isObeyed 96 = .ok (.iconst (-1), 1) := by decide +kernel
theorem dX7_isObeyed_97 : decode cX7_isObeyed 97 = .ok (.if_icmp .ne 7, 3) := by decide +kernel
theorem dX7_isObeyed_100 : decode cX7_isObeyed 100 = .ok (.iconst (-1), 1) := by decide +kernel
theorem dX7_isObeyed_101 : decode cX7_isObeyed 101 = .ok (.goto 13, 3) := by decide +kernel
theorem dX7_isObeyed_104 : decode cX7_isObeyed 104 = .ok (.aload_n 0, 1) := by decide +kernel
theorem dX7_isObeyed_105 : decode cX7_isObeyed 105 = .ok (.getfield 50, 3) := by decide +kernel
theorem dX7_isObeyed_108 : decode cX7_isObeyed 108 = .ok (.aload_n 1, 1) := by decide +kernel
theorem dX7_isObeyed_109 : decode cX7_isObeyed 109 = .ok (.iload 5, 2) := by decide +kernel
theorem dX7_isObeyed_111 : decode cX7_isObeyed 111 = .ok (.invokevirtual 333, 3) := by decide +kernel
theorem dX7_isObeyed_114 : decode cX7_isObeyed 114 = .ok (.istore 7, 2) := by decide +kernel
theorem dX7_isObeyed_116 : decode cX7_isObeyed 116 = .ok (.iload 7, 2) := by decide +kernel
theorem dX7_isObeyed_118 : decode cX7_isObeyed 118 = .ok (.ldc_w 337, 3) := by decide +kernel
theorem dX7_isObeyed_121 : decode cX7_isObeyed 121 = .ok (.if_icmp .ne 5, 3) := by decide +kernel
theorem dX7_isObeyed_124 : decode cX7_isObeyed 124 = .ok (.iconst 0, 1) := by decide +kernel
theorem dX7_isObeyed_125 : decode cX7_isObeyed 125 = .ok (.ireturn, 1) := by decide +kernel
theorem dX7_isObeyed_126 : decode cX7_isObeyed 126 = .ok (.aload_n 1, 1) := by decide +kernel
theorem dX7_isObeyed_127 : decode cX7_isObeyed 127 = .ok (.iload_n 2, 1) := by decide +kernel
theorem dX7_isObeyed_128 : decode cX7_isObeyed 128 = .ok (.iconst 0, 1) := by decide +kernel
theorem dX7_isObeyed_129 : decode cX7_isObeyed 129 = .ok (.invokevirtual 215, 3) := by decide +kernel
theorem dX7_isObeyed_132 : decode cX7_isObeyed 132 = .ok (.istore 8, 2) := by decide +kernel
theorem dX7_isObeyed_134 : decode cX7_isObeyed 134 = .ok (.aload_n 0, 1) := by decide +kernel
theorem dX7_isObeyed_135 : decode cX7_isObeyed 135 = .ok (.iload 8, 2) := by decide +kernel
theorem dX7_isObeyed_137 : decode cX7_isObeyed 137 = .ok (.iload 6, 2) := by decide +kernel
theorem dX7_isObeyed_139 : decode cX7_isObeyed 139 = .ok (.iload 7, 2) := by decide +kernel
theorem dX7_isObeyed_141 : decode cX7_isObeyed 141 = .ok (.invokevirtual 316, 3) := by decide +kernel
theorem dX7_isObeyed_144 : decode cX7_isObeyed 144 = .ok (.ifCond .eq 5, 3) := by decide +kernel
theorem dX7_isObeyed_147 : decode cX7_isObeyed 147 = .ok (.iconst 0, 1) := by decide +kernel
theorem dX7_isObeyed_148 : decode cX7_isObeyed 148 = .ok (.ireturn, 1) := by decide +kernel
theorem dX7_isObeyed_149 : decode cX7_isObeyed 149 = .ok (.aload_n 0, 1) := by decide +kernel
theorem dX7_isObeyed_150 : decode cX7_isObeyed 150 = .ok (.iload 8, 2) := by decide +kernel
theorem dX7_isObeyed_152 : decode cX7_isObeyed 152 = .ok (.iload 6, 2) := by decide +kernel
theorem dX7_isObeyed_154 : decode cX7_isObeyed 154 = .ok (.iload 7, 2) := by decide +kernel
theorem dX7_isObeyed_156 : decode cX7_isObeyed 156 = .ok (.invokevirtual 319, 3) := by decide +kernel
theorem dX7_isObeyed_159 : decode cX7_isObeyed 159 = .ok (.istore 9, 2) := by decide +kernel
theorem dX7_isObeyed_161 : decode cX7_isObeyed 161 = .ok (.aload_n 0, 1) := by decide +kernel
theorem dX7_isObeyed_162 : decode cX7_isObeyed 162 = .ok (.dup, 1) := by decide +kernel
theorem dX7_isObeyed_163 : decode cX7_isObeyed 163 = .ok (.getfield 75, 3) := by decide +kernel
theorem dX7_isObeyed_166 : decode cX7_isObeyed 166 = .ok (.iconst 1, 1) := by decide +kernel
theorem dX7_isObeyed_167 : decode cX7_isObeyed 167 = .ok (.iadd, 1) := by decide +kernel
theorem dX7_isObeyed_168 : decode cX7_isObeyed 168 = .ok (.putfield 75, 3) := by decide +kernel
theorem dX7_isObeyed_171 : decode cX7_isObeyed 171 = .ok (.iload 8, 2) := by decide +kernel
theorem dX7_isObeyed_173 : decode cX7_isObeyed 173 = .ok (.iconst 2, 1) := by decide +kernel
theorem dX7_isObeyed_174 : decode cX7_isObeyed 174 = .ok (.if_icmp .ne 9, 3) := by decide +kernel
theorem dX7_isObeyed_177 : decode cX7_isObeyed 177 = .ok (.aload_n 0, 1) := by decide +kernel
theorem dX7_isObeyed_178 : decode cX7_isObeyed 178 = .ok (.iload 9, 2) := by decide +kernel
theorem dX7_isObeyed_180 : decode cX7_isObeyed 180 = .ok (.putfield 78, 3) := by decide +kernel
theorem dX7_isObeyed_183 : decode cX7_isObeyed 183 = .ok (.iconst 1, 1) := by decide +kernel
theorem dX7_isObeyed_184 : decode cX7_isObeyed 184 = .ok (.ireturn, 1) := by decide +kernel
