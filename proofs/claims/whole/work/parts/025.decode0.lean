theorem dX0_init_0 : decode cX0_init 0 = .ok (.aload_n 0, 1) := by decide +kernel
theorem dX0_init_1 : decode cX0_init 1 = .ok (.invokespecial 3, 3) := by decide +kernel
theorem dX0_init_4 : decode cX0_init 4 = .ok (.aload_n 0, 1) := by decide +kernel
theorem dX0_init_5 : decode cX0_init 5 = .ok (.bipush 72, 2) := by decide +kernel
theorem dX0_init_7 : decode cX0_init 7 = .ok (.newarray .int, 2) := by decide +kernel
theorem dX0_init_9 : decode cX0_init 9 = .ok (.putfield 11, 3) := by decide +kernel
theorem dX0_init_12 : decode cX0_init 12 = .ok (.return_, 1) := by decide +kernel
theorem dX0_note_0 : decode cX0_note 0 = .ok (.aload_n 0, 1) := by decide +kernel
theorem dX0_note_1 : decode cX0_note 1 = .ok (.getfield 15, 3) := by decide +kernel
theorem dX0_note_4 : decode cX0_note 4 = .ok (.bipush 12, 2) := by decide +kernel
theorem dX0_note_6 : decode cX0_note 6 = .ok (.if_icmp .lt 31, 3) := by decide +kernel
theorem dX0_note_9 : decode cX0_note 9 = .ok (.aload_n 0, 1) := by decide +kernel
theorem dX0_note_10 : decode cX0_note 10 = .ok (.getfield 11, 3) := by decide +kernel
theorem dX0_note_13 : decode cX0_note 13 = .ok (.bipush 6, 2) := by decide +kernel
theorem dX0_note_15 : decode cX0_note 15 = .ok (.aload_n 0, 1) := by decide +kernel
theorem dX0_note_16 : decode cX0_note 16 = .ok (.getfield 11, 3) := by decide +kernel
theorem dX0_note_19 : decode cX0_note 19 = .ok (.iconst 0, 1) := by decide +kernel
theorem dX0_note_20 : decode cX0_note 20 = .ok (.aload_n 0, 1) := by decide +kernel
theorem dX0_note_21 : decode cX0_note 21 = .ok (.getfield 11, 3) := by decide +kernel
theorem dX0_note_24 : decode cX0_note 24 = .ok (.arraylength, 1) := by decide +kernel
theorem dX0_note_25 : decode cX0_note 25 = .ok (.bipush 6, 2) := by decide +kernel
theorem dX0_note_27 : decode cX0_note 27 = .ok (.isub, 1) := by decide +kernel
theorem dX0_note_28 : decode cX0_note 28 = .ok (.invokestatic 19, 3) := by decide +kernel
theorem dX0_note_31 : decode cX0_note 31 = .ok (.aload_n 0, 1) := by decide +kernel
theorem dX0_note_32 : decode cX0_note 32 = .ok (.bipush 11, 2) := by decide +kernel
theorem dX0_note_34 : decode cX0_note 34 = .ok (.putfield 15, 3) := by decide +kernel
theorem dX0_note_37 : decode cX0_note 37 = .ok (.aload_n 0, 1) := by decide +kernel
theorem dX0_note_38 : decode cX0_note 38 = .ok (.getfield 15, 3) := by decide +kernel
theorem dX0_note_41 : decode cX0_note 41 = .ok (.bipush 6, 2) := by decide +kernel
theorem dX0_note_43 : decode cX0_note 43 = .ok (.imul, 1) := by decide +kernel
theorem dX0_note_44 : decode cX0_note 44 = .ok (.istore 7, 2) := by decide +kernel
theorem dX0_note_46 : decode cX0_note 46 = .ok (.aload_n 0, 1) := by decide +kernel
theorem dX0_note_47 : decode cX0_note 47 = .ok (.getfield 11, 3) := by decide +kernel
theorem dX0_note_50 : decode cX0_note 50 = .ok (.iload 7, 2) := by decide +kernel
theorem dX0_note_52 : decode cX0_note 52 = .ok (.iload_n 1, 1) := by decide +kernel
theorem dX0_note_53 : decode cX0_note 53 = .ok (.iastore, 1) := by decide +kernel
theorem dX0_note_54 : decode cX0_note 54 = .ok (.aload_n 0, 1) := by decide +kernel
theorem dX0_note_55 : decode cX0_note 55 = .ok (.getfield 11, 3) := by decide +kernel
theorem dX0_note_58 : decode cX0_note 58 = .ok (.iload 7, 2) := by decide +kernel
theorem dX0_note_60 : decode cX0_note 60 = .ok (.iconst 1, 1) := by decide +kernel
theorem dX0_note_61 : decode cX0_note 61 = .ok (.iadd, 1) := by decide +kernel
theorem dX0_note_62 : decode cX0_note 62 = .ok (.iload_n 2, 1) := by decide +kernel
theorem dX0_note_63 : decode cX0_note 63 = .ok (.iastore, 1) := by decide +kernel
theorem dX0_note_64 : decode cX0_note 64 = .ok (.aload_n 0, 1) := by decide +kernel
theorem dX0_note_65 : decode cX0_note 65 = .ok (.getfield 11, 3) := by decide +kernel
theorem dX0_note_68 : decode cX0_note 68 = .ok (.iload 7, 2) := by decide +kernel
theorem dX0_note_70 : decode cX0_note 70 = .ok (.iconst 2, 1) := by decide +kernel
theorem dX0_note_71 : decode cX0_note 71 = .ok (.iadd, 1) := by decide +kernel
theorem dX0_note_72 : decode cX0_note 72 = .ok (.iload_n 3, 1) := by decide +kernel
theorem dX0_note_73 : decode cX0_note 73 = .ok (.iastore, 1) := by decide +kernel
theorem dX0_note_74 : decode cX0_note 74 = .ok (.aload_n 0, 1) := by decide +kernel
theorem dX0_note_75 : decode cX0_note 75 = .ok (.getfield 11, 3) := by decide +kernel
theorem dX0_note_78 : decode cX0_note 78 = .ok (.iload 7, 2) := by decide +kernel
theorem dX0_note_80 : decode cX0_note 80 = .ok (.iconst 3, 1) := by decide +kernel
theorem dX0_note_81 : decode cX0_note 81 = .ok (.iadd, 1) := by decide +kernel
theorem dX0_note_82 : decode cX0_note 82 = .ok (.iload 4, 2) := by decide +kernel
theorem dX0_note_84 : decode cX0_note 84 = .ok (.iastore, 1) := by decide +kernel
theorem dX0_note_85 : decode cX0_note 85 = .ok (.aload_n 0, 1) := by decide +kernel
theorem dX0_note_86 : decode cX0_note 86 = .ok (.getfield 11, 3) := by decide +kernel
theorem dX0_note_89 : decode cX0_note 89 = .ok (.iload 7, 2) := by decide +kernel
theorem dX0_note_91 : decode cX0_note 91 = .ok (.iconst 4, 1) := by decide +kernel
theorem dX0_note_92 : decode cX0_note 92 = .ok (.iadd, 1) := by decide +kernel
theorem dX0_note_93 : decode cX0_note 93 = .ok (.iload 5, 2) := by decide +kernel
theorem dX0_note_95 : decode cX0_note 95 = .ok (.iastore, 1) := by decide +kernel
theorem dX0_note_96 : decode cX0_note 96 = .ok (.aload_n 0, 1) := by decide +kernel
theorem dX0_note_97 : decode cX0_note 97 = .ok (.getfield 11, 3) := by decide +kernel
theorem dX0_note_100 : decode cX0_note 100 = .ok (.iload 7, 2) := by decide +kernel
theorem dX0_note_102 : decode cX0_note 102 = .ok (.iconst 5, 1) := by decide +kernel
theorem dX0_note_103 : decode cX0_note 103 = .ok (.iadd, 1) := by decide +kernel
theorem dX0_note_104 : decode cX0_note 104 = .ok (.iload 6, 2) := by decide +kernel
theorem dX0_note_106 : decode cX0_note 106 = .ok (.iastore, 1) := by decide +kernel
theorem dX0_note_107 : decode cX0_note 107 = .ok (.aload_n 0, 1) := by decide +kernel
theorem dX0_note_108 : decode cX0_note 108 = .ok (.dup, 1) := by decide +kernel
theorem dX0_note_109 : decode cX0_note 109 = .ok (.getfield 15, 3) := by decide +kernel
theorem dX0_note_112 : decode cX0_note 112 = .ok (.iconst 1, 1) := by decide +kernel
theorem dX0_note_113 : decode cX0_note 113 = .ok (.iadd, 1) := by decide +kernel
theorem dX0_note_114 : decode cX0_note 114 = .ok (.putfield 15, 3) := by decide +kernel
theorem dX0_note_117 : decode cX0_note 117 = .ok (.return_, 1) := by decide +kernel
theorem dX0_takeBack_0 : decode cX0_takeBack 0 = .ok (.aload_n 0, 1) := by decide +kernel
theorem dX0_takeBack_1 : decode cX0_takeBack 1 = .ok (.getfield 15, 3) := by decide +kernel
theorem dX0_takeBack_4 : decode cX0_takeBack 4 = .ok (.ifCond .gt 4, 3) := by decide +kernel
theorem dX0_takeBack_7 : decode cX0_takeBack 7 = .ok (.return_, 1) := by decide +kernel
theorem dX0_takeBack_8 : decode cX0_takeBack 8 = .ok (.aload_n 0, 1) := by decide +kernel
theorem dX0_takeBack_9 : decode cX0_takeBack 9 = .ok (.dup, 1) := by decide +kernel
theorem dX0_takeBack_10 : decode cX0_takeBack 10 = .ok (.getfield 15, 3) := by decide +kernel
theorem dX0_takeBack_13 : decode cX0_takeBack 13 = .ok (.iconst 1, 1) := by decide +kernel
theorem dX0_takeBack_14 : decode cX0_takeBack 14 = .ok (.isub, 1) := by decide +kernel
theorem dX0_takeBack_15 : decode cX0_takeBack 15 = .ok (.putfield 15, 3) := by decide +kernel
theorem dX0_takeBack_18 : decode cX0_takeBack 18 = .ok (.aload_n 0, 1) := by decide +kernel
theorem dX0_takeBack_19 : decode cX0_takeBack 19 = .ok (.getfield 15, 3) := by decide +kernel
theorem dX0_takeBack_22 : decode cX0_takeBack 22 = .ok (.bipush 6, 2) := by decide +kernel
theorem dX0_takeBack_24 : decode cX0_takeBack 24 = .ok (.imul, 1) := by decide +kernel
theorem dX0_takeBack_25 : decode cX0_takeBack 25 = .ok (.istore_n 2, 1) := by decide +kernel
theorem dX0_takeBack_26 : decode cX0_takeBack 26 = .ok (.aload_n 0, 1) := by decide +kernel
theorem dX0_takeBack_27 : decode cX0_takeBack 27 = .ok (.getfield 11, 3) := by decide +kernel
theorem dX0_takeBack_30 : decode cX0_takeBack 30 = .ok (.iload_n 2, 1) := by decide +kernel
theorem dX0_takeBack_31 : decode cX0_takeBack 31 = .ok (.iaload, 1) := by decide +kernel
theorem dX0_takeBack_32 : decode cX0_takeBack 32 = .ok (.istore_n 3, 1) := by decide +kernel
theorem dX0_takeBack_33 : decode cX0_takeBack 33 = .ok (.aload_n 0, 1) := by decide +kernel
theorem dX0_takeBack_34 : decode cX0_takeBack 34 = .ok (.getfield 11, 3) := by decide +kernel
theorem dX0_takeBack_37 : decode cX0_takeBack 37 = .ok (.iload_n 2, 1) := by decide +kernel
theorem dX0_takeBack_38 : decode cX0_takeBack 38 = .ok (.iconst 1, 1) := by decide +kernel
theorem dX0_takeBack_39 : decode cX0_takeBack 39 = .ok (.iadd, 1) := by decide +kernel
theorem dX0_takeBack_40 : decode cX0_takeBack 40 = .ok (.iaload, 1) := by decide +kernel
theorem dX0_takeBack_41 : decode cX0_takeBack 41 = .ok (.istore 4, 2) := by decide +kernel
theorem dX0_takeBack_43 : decode cX0_takeBack 43 = .ok (.iload_n 3, 1) := by decide +kernel
theorem dX0_takeBack_44 : decode cX0_takeBack 44 = .ok (.iconst 3, 1) := by decide +kernel
theorem dX0_takeBack_45 : decode cX0_takeBack 45 = .ok (.if_icmp .ne 12, 3) := by decide +kernel
theorem dX0_takeBack_48 : decode cX0_takeBack 48 = .ok (.aload_n 1, 1) := by decide +kernel
theorem dX0_takeBack_49 : decode cX0_takeBack 49 = .ok (.iload 4, 2) := by decide +kernel
theorem dX0_takeBack_51 : decode cX0_takeBack 51 = .ok (.invokevirtual 25, 3) := by decide +kernel
theorem dX0_takeBack_54 : decode cX0_takeBack 54 = .ok (.goto 109, 3) := by decide +kernel
theorem dX0_takeBack_57 : decode cX0_takeBack 57 = .ok (.iload_n 3, 1) := by decide +kernel
theorem dX0_takeBack_58 : decode cX0_takeBack 58 = .ok (.iconst 4, 1) := by decide +kernel
theorem dX0_takeBack_59 : decode cX0_takeBack 59 = .ok (.if_icmp .ne 44, 3) := by decide +kernel
theorem dX0_takeBack_62 : decode cX0_takeBack 62 = .ok (.aload_n 1, 1) := by decide +kernel
theorem dX0_takeBack_63 : decode cX0_takeBack 63 = .ok (.iload 4, 2) := by decide +kernel
theorem dX0_takeBack_65 : decode cX0_takeBack 65 = .ok (.aload_n 0, 1) := by decide +kernel
theorem dX0_takeBack_66 : decode cX0_takeBack 66 = .ok (.getfield 11, 3) := by decide +kernel
theorem dX0_takeBack_69 : decode cX0_takeBack 69 = .ok (.iload_n 2, 1) := by decide +kernel
theorem dX0_takeBack_70 : decode cX0_takeBack 70 = .ok (.iconst 2, 1) := by decide +kernel
theorem dX0_takeBack_71 : decode cX0_takeBack 71 = .ok (.iadd, 1) := by decide +kernel
theorem dX0_takeBack_72 : decode cX0_takeBack 72 = .ok (.iaload, 1) := by decide +kernel
theorem dX0_takeBack_73 : decode cX0_takeBack 73 = .ok (.aload_n 0, 1) := by decide +kernel
theorem dX0_takeBack_74 : decode cX0_takeBack 74 = .ok (.getfield 11, 3) := by decide +kernel
theorem dX0_takeBack_77 : decode cX0_takeBack 77 = .ok (.iload_n 2, 1) := by decide +kernel
theorem dX0_takeBack_78 : decode cX0_takeBack 78 = .ok (.iconst 3, 1) := by decide +kernel
theorem dX0_takeBack_79 : decode cX0_takeBack 79 = .ok (.iadd, 1) := by decide +kernel
theorem dX0_takeBack_80 : decode cX0_takeBack 80 = .ok (.iaload, 1) := by decide +kernel
theorem dX0_takeBack_81 : decode cX0_takeBack 81 = .ok (.aload_n 0, 1) := by decide +kernel
theorem dX0_takeBack_82 : decode cX0_takeBack 82 = .ok (.getfield 11, 3) := by decide +kernel
theorem dX0_takeBack_85 : decode cX0_takeBack 85 = .ok (.iload_n 2, 1) := by decide +kernel
theorem dX0_takeBack_86 : decode cX0_takeBack 86 = .ok (.iconst 4, 1) := by decide +kernel
theorem dX0_takeBack_87 : decode cX0_takeBack 87 = .ok (.iadd, 1) := by decide +kernel
theorem dX0_takeBack_88 : decode cX0_takeBack 88 = .ok (.iaload, 1) := by decide +kernel
theorem dX0_takeBack_89 : decode cX0_takeBack 89 = .ok (.aload_n 0, 1) := by decide +kernel
theorem dX0_takeBack_90 : decode cX0_takeBack 90 = .ok (.getfield 11, 3) := by decide +kernel
theorem dX0_takeBack_93 : decode cX0_takeBack 93 = .ok (.iload_n 2, 1) := by decide +kernel
theorem dX0_takeBack_94 : decode cX0_takeBack 94 = .ok (.iconst 5, 1) := by decide +kernel
theorem dX0_takeBack_95 : decode cX0_takeBack 95 = .ok (.iadd, 1) := by decide +kernel
theorem dX0_takeBack_96 : decode cX0_takeBack 96 = .ok (.iaload, 1) := by decide +kernel
theorem dX0_takeBack_97 : decode cX0_takeBack 97 = .ok (.invokevirtual 31, 3) := by decide +kernel
theorem dX0_takeBack_100 : decode cX0_takeBack 100 = .ok (.goto 63, 3) := by decide +kernel
theorem dX0_takeBack_103 : decode cX0_takeBack 103 = .ok (.iload_n 3, 1) := by decide +kernel
theorem dX0_takeBack_104 : decode cX0_takeBack 104 = .ok (.iconst 5, 1) := by decide +kernel
theorem dX0_takeBack_105 : decode cX0_takeBack 105 = .ok (.if_icmp .ne 32, 3) := by decide +kernel
theorem dX0_takeBack_108 : decode cX0_takeBack 108 = .ok (.iload 4, 2) := by decide +kernel
theorem dX0_takeBack_110 : decode cX0_takeBack 110 = .ok (.ifCond .lt 27, 3) := by decide +kernel
theorem dX0_takeBack_113 : decode cX0_takeBack 113 = .ok (.iload 4, 2) := by decide +kernel
theorem dX0_takeBack_115 : decode cX0_takeBack 115 = .ok (.iconst 2, 1) := by decide +kernel
theorem dX0_takeBack_116 : decode cX0_takeBack 116 = .ok (.if_icmp .gt 21, 3) := by decide +kernel
theorem dX0_takeBack_119 : decode cX0_takeBack 119 = .ok (.aload_n 1, 1) := by decide +kernel
theorem dX0_takeBack_120 : decode cX0_takeBack 120 = .ok (.getfield 35, 3) := by decide +kernel
theorem dX0_takeBack_123 : decode cX0_takeBack 123 = .ok (.iload 4, 2) := by decide +kernel
theorem dX0_takeBack_125 : decode cX0_takeBack 125 = .ok (.aload_n 0, 1) := by decide +kernel
theorem dX0_takeBack_126 : decode cX0_takeBack 126 = .ok (.getfield 11, 3) := by decide +kernel
theorem dX0_takeBack_129 : decode cX0_takeBack 129 = .ok (.iload_n 2, 1) := by decide +kernel
theorem dX0_takeBack_130 : decode cX0_takeBack 130 = .ok (.iconst 2, 1) := by decide +kernel
theorem dX0_takeBack_131 : decode cX0_takeBack 131 = .ok (.iadd, 1) := by decide +kernel
theorem dX0_takeBack_132 : decode cX0_takeBack 132 = .ok (.iaload, 1) := by decide +kernel
theorem dX0_takeBack_133 : decode cX0_takeBack 133 = .ok (.iastore, 1) := by decide +kernel
theorem dX0_takeBack_134 : decode cX0_takeBack 134 = .ok (.goto 29, 3) := by decide +kernel
theorem dX0_takeBack_137 : decode cX0_takeBack 137 = .ok (.iload 4, 2) := by decide +kernel
theorem dX0_takeBack_139 : decode cX0_takeBack 139 = .ok (.ifCond .lt 24, 3) := by decide +kernel
theorem dX0_takeBack_142 : decode cX0_takeBack 142 = .ok (.iload 4, 2) := by decide +kernel
theorem dX0_takeBack_144 : decode cX0_takeBack 144 = .ok (.aload_n 1, 1) := by decide +kernel
theorem dX0_takeBack_145 : decode cX0_takeBack 145 = .ok (.getfield 38, 3) := by decide +kernel
theorem dX0_takeBack_148 : decode cX0_takeBack 148 = .ok (.if_icmp .ge 15, 3) := by decide +kernel
theorem dX0_takeBack_151 : decode cX0_takeBack 151 = .ok (.aload_n 0, 1) := by decide +kernel
theorem dX0_takeBack_152 : decode cX0_takeBack 152 = .ok (.aload_n 1, 1) := by decide +kernel
theorem dX0_takeBack_153 : decode cX0_takeBack 153 = .ok (.getfield 41, 3) := by decide +kernel
theorem dX0_takeBack_156 : decode cX0_takeBack 156 = .ok (.iload 4, 2) := by decide +kernel
theorem dX0_takeBack_158 : decode cX0_takeBack 158 = .ok (.aaload, 1) := by decide +kernel
theorem dX0_takeBack_159 : decode cX0_takeBack 159 = .ok (.iload_n 2, 1) := by decide +kernel
theorem dX0_takeBack_160 : decode cX0_takeBack 160 = .ok (.invokevirtual 45, 3) := by decide +kernel
theorem dX0_takeBack_163 : decode cX0_takeBack 163 = .ok (.return_, 1) := by decide +kernel
theorem dX0_takeBackOf_0 : decode cX0_takeBackOf 0 = .ok (.aload_n 0, 1) := by decide +kernel
theorem dX0_takeBackOf_1 : decode cX0_takeBackOf 1 = .ok (.getfield 11, 3) := by decide +kernel
theorem dX0_takeBackOf_4 : decode cX0_takeBackOf 4 = .ok (.iload_n 2, 1) := by decide +kernel
theorem dX0_takeBackOf_5 : decode cX0_takeBackOf 5 = .ok (.iaload, 1) := by decide +kernel
theorem dX0_takeBackOf_6 : decode cX0_takeBackOf 6 = .ok (.ifCond .ne 12, 3) := by decide +kernel
theorem dX0_takeBackOf_9 : decode cX0_takeBackOf 9 = .ok (.aload_n 1, 1) := by decide +kernel
theorem dX0_takeBackOf_10 : decode cX0_takeBackOf 10 = .ok (.iconst (-1), 1) := by decide +kernel
theorem dX0_takeBackOf_11 : decode cX0_takeBackOf 11 = .ok (.iconst 0, 1) := by decide +kernel
theorem dX0_takeBackOf_12 : decode cX0_takeBackOf 12 = .ok (.invokevirtual 49, 3) := by decide +kernel
theorem dX0_takeBackOf_15 : decode cX0_takeBackOf 15 = .ok (.goto 68, 3) := by decide +kernel
theorem dX0_takeBackOf_18 : decode cX0_takeBackOf 18 = .ok (.aload_n 0, 1) := by decide +kernel
theorem dX0_takeBackOf_19 : decode cX0_takeBackOf 19 = .ok (.getfield 11, 3) := by decide +kernel
theorem dX0_takeBackOf_22 : decode cX0_takeBackOf 22 = .ok (.iload_n 2, 1) := by decide +kernel
theorem dX0_takeBackOf_23 : decode cX0_takeBackOf 23 = .ok (.iaload, 1) := by decide +kernel
theorem dX0_takeBackOf_24 : decode cX0_takeBackOf 24 = .ok (.iconst 2, 1) := by decide +kernel
theorem dX0_takeBackOf_25 : decode cX0_takeBackOf 25 = .ok (.if_icmp .ne 22, 3) := by decide +kernel
theorem dX0_takeBackOf_28 : decode cX0_takeBackOf 28 = .ok (.aload_n 1, 1) := by decide +kernel
theorem dX0_takeBackOf_29 : decode cX0_takeBackOf 29 = .ok (.aload_n 1, 1) := by decide +kernel
theorem dX0_takeBackOf_30 : decode cX0_takeBackOf 30 = .ok (.getfield 55, 3) := by decide +kernel
theorem dX0_takeBackOf_33 : decode cX0_takeBackOf 33 = .ok (.ifCond .ne 7, 3) := by decide +kernel
theorem dX0_takeBackOf_36 : decode cX0_takeBackOf 36 = .ok (.iconst 1, 1) := by decide +kernel
theorem dX0_takeBackOf_37 : decode cX0_takeBackOf 37 = .ok (.goto 4, 3) := by decide +kernel
theorem dX0_takeBackOf_40 : decode cX0_takeBackOf 40 = .ok (.iconst 0, 1) := by decide +kernel
theorem dX0_takeBackOf_41 : decode cX0_takeBackOf 41 = .ok (.putfield 55, 3) := by decide +kernel
theorem dX0_takeBackOf_44 : decode cX0_takeBackOf 44 = .ok (.goto 39, 3) := by decide +kernel
theorem dX0_takeBackOf_47 : decode cX0_takeBackOf 47 = .ok (.aload_n 1, 1) := by decide +kernel
theorem dX0_takeBackOf_48 : decode cX0_takeBackOf 48 = .ok (.aload_n 0, 1) := by decide +kernel
theorem dX0_takeBackOf_49 : decode cX0_takeBackOf 49 = .ok (.getfield 11, 3) := by decide +kernel
theorem dX0_takeBackOf_52 : decode cX0_takeBackOf 52 = .ok (.iload_n 2, 1) := by decide +kernel
theorem dX0_takeBackOf_53 : decode cX0_takeBackOf 53 = .ok (.iconst 2, 1) := by decide +kernel
theorem dX0_takeBackOf_54 : decode cX0_takeBackOf 54 = .ok (.iadd, 1) := by decide +kernel
theorem dX0_takeBackOf_55 : decode cX0_takeBackOf 55 = .ok (.iaload, 1) := by decide +kernel
theorem dX0_takeBackOf_56 : decode cX0_takeBackOf 56 = .ok (.putfield 59, 3) := by decide +kernel
theorem dX0_takeBackOf_59 : decode cX0_takeBackOf 59 = .ok (.aload_n 1, 1) := by decide +kernel
theorem dX0_takeBackOf_60 : decode cX0_takeBackOf 60 = .ok (.aload_n 0, 1) := by decide +kernel
theorem dX0_takeBackOf_61 : decode cX0_takeBackOf 61 = .ok (.getfield 11, 3) := by decide +kernel
theorem dX0_takeBackOf_64 : decode cX0_takeBackOf 64 = .ok (.iload_n 2, 1) := by decide +kernel
theorem dX0_takeBackOf_65 : decode cX0_takeBackOf 65 = .ok (.iconst 3, 1) := by decide +kernel
theorem dX0_takeBackOf_66 : decode cX0_takeBackOf 66 = .ok (.iadd, 1) := by decide +kernel
theorem dX0_takeBackOf_67 : decode cX0_takeBackOf 67 = .ok (.iaload, 1) := by decide +kernel
theorem dX0_takeBackOf_68 : decode cX0_takeBackOf 68 = .ok (.putfield 62, 3) := by decide +kernel
theorem dX0_takeBackOf_71 : decode cX0_takeBackOf 71 = .ok (.aload_n 1, 1) := by decide +kernel
theorem dX0_takeBackOf_72 : decode cX0_takeBackOf 72 = .ok (.aload_n 0, 1) := by decide +kernel
theorem dX0_takeBackOf_73 : decode cX0_takeBackOf 73 = .ok (.getfield 11, 3) := by decide +kernel
theorem dX0_takeBackOf_76 : decode cX0_takeBackOf 76 = .ok (.iload_n 2, 1) := by decide +kernel
theorem dX0_takeBackOf_77 : decode cX0_takeBackOf 77 = .ok (.iconst 4, 1) := by decide +kernel
theorem dX0_takeBackOf_78 : decode cX0_takeBackOf 78 = .ok (.iadd, 1) := by decide +kernel
theorem dX0_takeBackOf_79 : decode cX0_takeBackOf 79 = .ok (.iaload, 1) := by decide +kernel
theorem dX0_takeBackOf_80 : decode cX0_takeBackOf 80 = .ok (.putfield 65, 3) := by decide +kernel
theorem dX0_takeBackOf_83 : decode cX0_takeBackOf 83 = .ok (.return_, 1) := by decide +kernel
theorem dX1_init_0 : decode cX1_init 0 = .ok (.aload_n 0, 1) := by decide +kernel
theorem dX1_init_1 : decode cX1_init 1 = .ok (.invokespecial 3, 3) := by decide +kernel
theorem dX1_init_4 : decode cX1_init 4 = .ok (.aload_n 0, 1) := by decide +kernel
theorem dX1_init_5 : decode cX1_init 5 = .ok (.bipush 100, 2) := by decide +kernel
theorem dX1_init_7 : decode cX1_init 7 = .ok (.newarray .int, 2) := by decide +kernel
theorem dX1_init_9 : decode cX1_init 9 = .ok (.putfield 11, 3) := by decide +kernel
theorem dX1_init_12 : decode cX1_init 12 = .ok (.aload_n 0, 1) := by decide +kernel
theorem dX1_init_13 : decode cX1_init 13 = .ok (.bipush 10, 2) := by decide +kernel
theorem dX1_init_15 : decode cX1_init 15 = .ok (.newarray .int, 2) := by decide +kernel
theorem dX1_init_17 : decode cX1_init 17 = .ok (.putfield 15, 3) := by decide +kernel
theorem dX1_init_20 : decode cX1_init 20 = .ok (.aload_n 0, 1) := by decide +kernel
theorem dX1_init_21 : decode cX1_init 21 = .ok (.bipush 10, 2) := by decide +kernel
theorem dX1_init_23 : decode cX1_init 23 = .ok (.newarray .int, 2) := by decide +kernel
theorem dX1_init_25 : decode cX1_init 25 = .ok (.putfield 18, 3) := by decide +kernel
theorem dX1_init_28 : decode cX1_init 28 = .ok (.aload_n 0, 1) := by decide +kernel
theorem dX1_init_29 : decode cX1_init 29 = .ok (.aload_n 1, 1) := by decide +kernel
theorem dX1_init_30 : decode cX1_init 30 = .ok (.putfield 21, 3) := by decide +kernel
theorem dX1_init_33 : decode cX1_init 33 = .ok (.return_, 1) := by decide +kernel
theorem dX1_answer_0 : decode cX1_answer 0 = .ok (.aload_n 0, 1) := by decide +kernel
theorem dX1_answer_1 : decode cX1_answer 1 = .ok (.iload_n 2, 1) := by decide +kernel
theorem dX1_answer_2 : decode cX1_answer 2 = .ok (.bipush 10, 2) := by decide +kernel
theorem dX1_answer_4 : decode cX1_answer 4 = .ok (.invokestatic 25, 3) := by decide +kernel
theorem dX1_answer_7 : decode cX1_answer 7 = .ok (.putfield 31, 3) := by decide +kernel
theorem dX1_answer_10 : decode cX1_answer 10 = .ok (.aload_n 0, 1) := by decide +kernel
theorem dX1_answer_11 : decode cX1_answer 11 = .ok (.getfield 21, 3) := by decide +kernel
theorem dX1_answer_14 : decode cX1_answer 14 = .ok (.iload_n 1, 1) := by decide +kernel
theorem dX1_answer_15 : decode cX1_answer 15 = .ok (.invokevirtual 35, 3) := by decide +kernel
theorem dX1_answer_18 : decode cX1_answer 18 = .ok (.aload_n 0, 1) := by decide +kernel
theorem dX1_answer_19 : decode cX1_answer 19 = .ok (.getfield 21, 3) := by decide +kernel
theorem dX1_answer_22 : decode cX1_answer 22 = .ok (.ldc 41, 2) := by decide +kernel
theorem dX1_answer_24 : decode cX1_answer 24 = .ok (.invokevirtual 43, 3) := by decide +kernel
theorem dX1_answer_27 : decode cX1_answer 27 = .ok (.istore_n 3, 1) := by decide +kernel
theorem dX1_answer_28 : decode cX1_answer 28 = .ok (.iload_n 3, 1) := by decide +kernel
theorem dX1_answer_29 : decode cX1_answer 29 = .ok (.ifCond .ne 23, 3) := by decide +kernel
theorem dX1_answer_32 : decode cX1_answer 32 = .ok (.aload_n 0, 1) := by decide +kernel
theorem dX1_answer_33 : decode cX1_answer 33 = .ok (.getfield 21, 3) := by decide +kernel
theorem dX1_answer_36 : decode cX1_answer 36 = .ok (.ldc 47, 2) := by decide +kernel
theorem dX1_answer_38 : decode cX1_answer 38 = .ok (.invokevirtual 43, 3) := by decide +kernel
theorem dX1_answer_41 : decode cX1_answer 41 = .ok (.ifCond .ne 11, 3) := by decide +kernel
theorem dX1_answer_44 : decode cX1_answer 44 = .ok (.aload_n 0, 1) := by decide +kernel
theorem dX1_answer_45 : decode cX1_answer 45 = .ok (.getfield 21, 3) := by decide +kernel
theorem dX1_answer_48 : decode cX1_answer 48 = .ok (.iconst 1, 1) := by decide +kernel
theorem dX1_answer_49 : decode cX1_answer 49 = .ok (.invokevirtual 49, 3) := by decide +kernel
theorem dX1_answer_52 : decode cX1_answer 52 = .ok (.aload_n 0, 1) := by decide +kernel
theorem dX1_answer_53 : decode cX1_answer 53 = .ok (.getfield 21, 3) := by decide +kernel
theorem dX1_answer_56 : decode cX1_answer 56 = .ok (.invokevirtual 52, 3) := by decide +kernel
theorem dX1_answer_59 : decode cX1_answer 59 = .ok (.aload_n 0, 1) := by decide +kernel
theorem dX1_answer_60 : decode cX1_answer 60 = .ok (.iconst 0, 1) := by decide +kernel
theorem dX1_answer_61 : decode cX1_answer 61 = .ok (.invokevirtual 55, 3) := by decide +kernel
theorem dX1_answer_64 : decode cX1_answer 64 = .ok (.istore 4, 2) := by decide +kernel
theorem dX1_answer_66 : decode cX1_answer 66 = .ok (.aload_n 0, 1) := by decide +kernel
theorem dX1_answer_67 : decode cX1_answer 67 = .ok (.getfield 21, 3) := by decide +kernel
theorem dX1_answer_70 : decode cX1_answer 70 = .ok (.getfield 59, 3) := by decide +kernel
theorem dX1_answer_73 : decode cX1_answer 73 = .ok (.ifCond .eq 11, 3) := by decide +kernel
theorem dX1_answer_76 : decode cX1_answer 76 = .ok (.aload_n 0, 1) := by decide +kernel
theorem dX1_answer_77 : decode cX1_answer 77 = .ok (.getfield 21, 3) := by decide +kernel
theorem dX1_answer_80 : decode cX1_answer 80 = .ok (.iconst 1, 1) := by decide +kernel
theorem dX1_answer_81 : decode cX1_answer 81 = .ok (.invokevirtual 49, 3) := by decide +kernel
theorem dX1_answer_84 : decode cX1_answer 84 = .ok (.aload_n 0, 1) := by decide +kernel
theorem dX1_answer_85 : decode cX1_answer 85 = .ok (.getfield 21, 3) := by decide +kernel
theorem dX1_answer_88 : decode cX1_answer 88 = .ok (.getfield 62, 3) := by decide +kernel
theorem dX1_answer_91 : decode cX1_answer 91 = .ok (.ifCond .eq 14, 3) := by decide +kernel
theorem dX1_answer_94 : decode cX1_answer 94 = .ok (.ldc 65, 2) := by decide +kernel
theorem dX1_answer_96 : decode cX1_answer 96 = .ok (.aload_n 0, 1) := by decide +kernel
theorem dX1_answer_97 : decode cX1_answer 97 = .ok (.getfield 21, 3) := by decide +kernel
theorem dX1_answer_100 : decode cX1_answer 100 = .ok (.getfield 62, 3) := by decide +kernel
theorem dX1_answer_103 : decode cX1_answer 103 = .ok (.isub, 1) := by decide +kernel
theorem dX1_answer_104 : decode cX1_answer 104 = .ok (.ireturn, 1) := by decide +kernel
theorem dX1_answer_105 : decode cX1_answer 105 = .ok (.iload_n 3, 1) := by decide +kernel
theorem dX1_answer_106 : decode cX1_answer 106 = .ok (.ifCond .eq 11, 3) := by decide +kernel
theorem dX1_answer_109 : decode cX1_answer 109 = .ok (.iload 4, 2) := by decide +kernel
theorem dX1_answer_111 : decode cX1_answer 111 = .ok (.invokestatic 66, 3) := by decide +kernel
theorem dX1_answer_114 : decode cX1_answer 114 = .ok (.goto 8, 3) := by decide +kernel
theorem dX1_answer_117 : decode cX1_answer 117 = .ok (.iload 4, 2) := by decide +kernel
theorem dX1_answer_119 : decode cX1_answer 119 = .ok (.invokestatic 71, 3) := by decide +kernel
theorem dX1_answer_122 : decode cX1_answer 122 = .ok (.ireturn, 1) := by decide +kernel
theorem dX1_anyHolds_0 : decode cX1_anyHolds 0 = .ok (.aload_n 0, 1) := by decide +kernel
theorem dX1_anyHolds_1 : decode cX1_anyHolds 1 = .ok (.iload_n 1, 1) := by decide +kernel
theorem dX1_anyHolds_2 : decode cX1_anyHolds 2 = .ok (.invokevirtual 74, 3) := by decide +kernel
theorem dX1_anyHolds_5 : decode cX1_anyHolds 5 = .ok (.istore_n 2, 1) := by decide +kernel
theorem dX1_anyHolds_6 : decode cX1_anyHolds 6 = .ok (.sipush 200, 3) := by decide +kernel
theorem dX1_anyHolds_9 : decode cX1_anyHolds 9 = .ok (.istore_n 3, 1) := by decide +kernel
theorem dX1_anyHolds_10 : decode cX1_anyHolds 10 = .ok (.iload_n 3, 1) := by decide +kernel
theorem dX1_anyHolds_11 : decode cX1_anyHolds 11 = .ok (.ifCond .le 46, 3) := by decide +kernel
theorem dX1_anyHolds_14 : decode cX1_anyHolds 14 = .ok (.aload_n 0, 1) := by decide +kernel
theorem dX1_anyHolds_15 : decode cX1_anyHolds 15 = .ok (.getfield 21, 3) := by decide +kernel
theorem dX1_anyHolds_18 : decode cX1_anyHolds 18 = .ok (.getfield 62, 3) := by decide +kernel
theorem dX1_anyHolds_21 : decode cX1_anyHolds 21 = .ok (.ifCond .ne 36, 3) := by decide +kernel
theorem dX1_anyHolds_24 : decode cX1_anyHolds 24 = .ok (.aload_n 0, 1) := by decide +kernel
theorem dX1_anyHolds_25 : decode cX1_anyHolds 25 = .ok (.getfield 21, 3) := by decide +kernel
theorem dX1_anyHolds_28 : decode cX1_anyHolds 28 = .ok (.ldc 77, 2) := by decide +kernel
theorem dX1_anyHolds_30 : decode cX1_anyHolds 30 = .ok (.invokevirtual 43, 3) := by decide +kernel
theorem dX1_anyHolds_33 : decode cX1_anyHolds 33 = .ok (.ifCond .eq 24, 3) := by decide +kernel
theorem dX1_anyHolds_36 : decode cX1_anyHolds 36 = .ok (.aload_n 0, 1) := by decide +kernel
theorem dX1_anyHolds_37 : decode cX1_anyHolds 37 = .ok (.getfield 21, 3) := by decide +kernel
theorem dX1_anyHolds_40 : decode cX1_anyHolds 40 = .ok (.invokevirtual 52, 3) := by decide +kernel
theorem dX1_anyHolds_43 : decode cX1_anyHolds 43 = .ok (.iload_n 2, 1) := by decide +kernel
theorem dX1_anyHolds_44 : decode cX1_anyHolds 44 = .ok (.aload_n 0, 1) := by decide +kernel
theorem dX1_anyHolds_45 : decode cX1_anyHolds 45 = .ok (.iload_n 1, 1) := by decide +kernel
theorem dX1_anyHolds_46 : decode cX1_anyHolds 46 = .ok (.invokevirtual 74, 3) := by decide +kernel
theorem dX1_anyHolds_49 : decode cX1_anyHolds 49 = .ok (.ior, 1) := by decide +kernel
theorem dX1_anyHolds_50 : decode cX1_anyHolds 50 = .ok (.istore_n 2, 1) := by decide +kernel
theorem dX1_anyHolds_51 : decode cX1_anyHolds 51 = .ok (.iinc 3 (-1), 3) := by decide +kernel
theorem dX1_anyHolds_54 : decode cX1_anyHolds 54 = .ok (.goto (-44), 3) := by decide +kernel
theorem dX1_anyHolds_57 : decode cX1_anyHolds 57 = .ok (.iload_n 2, 1) := by decide +kernel
theorem dX1_anyHolds_58 : decode cX1_anyHolds 58 = .ok (.ireturn, 1) := by decide +kernel
theorem dX1_allHold_0 : decode cX1_allHold 0 = .ok (.aload_n 0, 1) := by decide +kernel
theorem dX1_allHold_1 : decode cX1_allHold 1 = .ok (.iload_n 1, 1) := by decide +kernel
theorem dX1_allHold_2 : decode cX1_allHold 2 = .ok (.invokevirtual 79, 3) := by decide +kernel
theorem dX1_allHold_5 : decode cX1_allHold 5 = .ok (.istore_n 2, 1) := by decide +kernel
theorem dX1_allHold_6 : decode cX1_allHold 6 = .ok (.sipush 200, 3) := by decide +kernel
theorem dX1_allHold_9 : decode cX1_allHold 9 = .ok (.istore_n 3, 1) := by decide +kernel
theorem dX1_allHold_10 : decode cX1_allHold 10 = .ok (.iload_n 3, 1) := by decide +kernel
theorem dX1_allHold_11 : decode cX1_allHold 11 = .ok (.ifCond .le 46, 3) := by decide +kernel
theorem dX1_allHold_14 : decode cX1_allHold 14 = .ok (.aload_n 0, 1) := by decide +kernel
theorem dX1_allHold_15 : decode cX1_allHold 15 = .ok (.getfield 21, 3) := by decide +kernel
theorem dX1_allHold_18 : decode cX1_allHold 18 = .ok (.getfield 62, 3) := by decide +kernel
theorem dX1_allHold_21 : decode cX1_allHold 21 = .ok (.ifCond .ne 36, 3) := by decide +kernel
theorem dX1_allHold_24 : decode cX1_allHold 24 = .ok (.aload_n 0, 1) := by decide +kernel
theorem dX1_allHold_25 : decode cX1_allHold 25 = .ok (.getfield 21, 3) := by decide +kernel
theorem dX1_allHold_28 : decode cX1_allHold 28 = .ok (.ldc 82, 2) := by decide +kernel
theorem dX1_allHold_30 : decode cX1_allHold 30 = .ok (.invokevirtual 43, 3) := by decide +kernel
theorem dX1_allHold_33 : decode cX1_allHold 33 = .ok (.ifCond .eq 24, 3) := by decide +kernel
theorem dX1_allHold_36 : decode cX1_allHold 36 = .ok (.aload_n 0, 1) := by decide +kernel
theorem dX1_allHold_37 : decode cX1_allHold 37 = .ok (.getfield 21, 3) := by decide +kernel
theorem dX1_allHold_40 : decode cX1_allHold 40 = .ok (.invokevirtual 52, 3) := by decide +kernel
theorem dX1_allHold_43 : decode cX1_allHold 43 = .ok (.iload_n 2, 1) := by decide +kernel
theorem dX1_allHold_44 : decode cX1_allHold 44 = .ok (.aload_n 0, 1) := by decide +kernel
theorem dX1_allHold_45 : decode cX1_allHold 45 = .ok (.iload_n 1, 1) := by decide +kernel
theorem dX1_allHold_46 : decode cX1_allHold 46 = .ok (.invokevirtual 79, 3) := by decide +kernel
theorem dX1_allHold_49 : decode cX1_allHold 49 = .ok (.iand, 1) := by decide +kernel
theorem dX1_allHold_50 : decode cX1_allHold 50 = .ok (.istore_n 2, 1) := by decide +kernel
theorem dX1_allHold_51 : decode cX1_allHold 51 = .ok (.iinc 3 (-1), 3) := by decide +kernel
theorem dX1_allHold_54 : decode cX1_allHold 54 = .ok (.goto (-44), 3) := by decide +kernel
theorem dX1_allHold_57 : decode cX1_allHold 57 = .ok (.iload_n 2, 1) := by decide +kernel
theorem dX1_allHold_58 : decode cX1_allHold 58 = .ok (.ireturn, 1) := by decide +kernel
theorem dX1_factHolds_0 : decode cX1_factHolds 0 = .ok (.aload_n 0, 1) := by decide +kernel
theorem dX1_factHolds_1 : decode cX1_factHolds 1 = .ok (.getfield 21, 3) := by decide +kernel
theorem dX1_factHolds_4 : decode cX1_factHolds 4 = .ok (.ldc 84, 2) := by decide +kernel
theorem dX1_factHolds_6 : decode cX1_factHolds 6 = .ok (.invokevirtual 43, 3) := by decide +kernel
theorem dX1_factHolds_9 : decode cX1_factHolds 9 = .ok (.istore_n 2, 1) := by decide +kernel
theorem dX1_factHolds_10 : decode cX1_factHolds 10 = .ok (.aload_n 0, 1) := by decide +kernel
theorem dX1_factHolds_11 : decode cX1_factHolds 11 = .ok (.getfield 21, 3) := by decide +kernel
theorem dX1_factHolds_14 : decode cX1_factHolds 14 = .ok (.bipush 123, 2) := by decide +kernel
theorem dX1_factHolds_16 : decode cX1_factHolds 16 = .ok (.invokevirtual 86, 3) := by decide +kernel
theorem dX1_factHolds_19 : decode cX1_factHolds 19 = .ok (.istore_n 3, 1) := by decide +kernel
theorem dX1_factHolds_20 : decode cX1_factHolds 20 = .ok (.aload_n 0, 1) := by decide +kernel
theorem dX1_factHolds_21 : decode cX1_factHolds 21 = .ok (.getfield 21, 3) := by decide +kernel
theorem dX1_factHolds_24 : decode cX1_factHolds 24 = .ok (.getfield 62, 3) := by decide +kernel
theorem dX1_factHolds_27 : decode cX1_factHolds 27 = .ok (.ifCond .ne 25, 3) := by decide +kernel
theorem dX1_factHolds_30 : decode cX1_factHolds 30 = .ok (.iload_n 2, 1) := by decide +kernel
theorem dX1_factHolds_31 : decode cX1_factHolds 31 = .ok (.ifCond .ne 7, 3) := by decide +kernel
theorem dX1_factHolds_34 : decode cX1_factHolds 34 = .ok (.iload_n 3, 1) := by decide +kernel
theorem dX1_factHolds_35 : decode cX1_factHolds 35 = .ok (.ifCond .eq 17, 3) := by decide +kernel
theorem dX1_factHolds_38 : decode cX1_factHolds 38 = .ok (.iload_n 1, 1) := by decide +kernel
theorem dX1_factHolds_39 : decode cX1_factHolds 39 = .ok (.bipush 6, 2) := by decide +kernel
theorem dX1_factHolds_41 : decode cX1_factHolds 41 = .ok (.if_icmp .lt 11, 3) := by decide +kernel
theorem dX1_factHolds_44 : decode cX1_factHolds 44 = .ok (.aload_n 0, 1) := by decide +kernel
theorem dX1_factHolds_45 : decode cX1_factHolds 45 = .ok (.getfield 21, 3) := by decide +kernel
theorem dX1_factHolds_48 : decode cX1_factHolds 48 = .ok (.iconst 3, 1) := by decide +kernel
theorem dX1_factHolds_49 : decode cX1_factHolds 49 = .ok (.invokevirtual 49, 3) := by decide +kernel
theorem dX1_factHolds_52 : decode cX1_factHolds 52 = .ok (.aload_n 0, 1) := by decide +kernel
theorem dX1_factHolds_53 : decode cX1_factHolds 53 = .ok (.getfield 21, 3) := by decide +kernel
theorem dX1_factHolds_56 : decode cX1_factHolds 56 = .ok (.getfield 62, 3) := by decide +kernel
theorem dX1_factHolds_59 : decode cX1_factHolds 59 = .ok (.ifCond .eq 5, 3) := by decide +kernel
theorem dX1_factHolds_62 : decode cX1_factHolds 62 = .ok (.iconst 0, 1) := by decide +kernel
theorem dX1_factHolds_63 : decode cX1_factHolds 63 = .ok (.ireturn, 1) := by decide +kernel
theorem dX1_factHolds_64 : decode cX1_factHolds 64 = .ok (.iload_n 2, 1) := by decide +kernel
theorem dX1_factHolds_65 : decode cX1_factHolds 65 = .ok (.ifCond .eq 29, 3) := by decide +kernel
theorem dX1_factHolds_68 : decode cX1_factHolds 68 = .ok (.aload_n 0, 1) := by decide +kernel
theorem dX1_factHolds_69 : decode cX1_factHolds 69 = .ok (.getfield 21, 3) := by decide +kernel
theorem dX1_factHolds_72 : decode cX1_factHolds 72 = .ok (.invokevirtual 52, 3) := by decide +kernel
theorem dX1_factHolds_75 : decode cX1_factHolds 75 = .ok (.aload_n 0, 1) := by decide +kernel
theorem dX1_factHolds_76 : decode cX1_factHolds 76 = .ok (.iload_n 1, 1) := by decide +kernel
theorem dX1_factHolds_77 : decode cX1_factHolds 77 = .ok (.iconst 1, 1) := by decide +kernel
theorem dX1_factHolds_78 : decode cX1_factHolds 78 = .ok (.iadd, 1) := by decide +kernel
theorem dX1_factHolds_79 : decode cX1_factHolds 79 = .ok (.invokevirtual 79, 3) := by decide +kernel
theorem dX1_factHolds_82 : decode cX1_factHolds 82 = .ok (.iconst (-1), 1) := by decide +kernel
theorem dX1_factHolds_83 : decode cX1_factHolds 83 = .ok (.ixor, 1) := by decide +kernel
theorem dX1_factHolds_84 : decode cX1_factHolds 84 = .ok (.iconst 1, 1) := by decide +kernel
theorem dX1_factHolds_85 : decode cX1_factHolds 85 = .ok (.aload_n 0, 1) := by decide +kernel
theorem dX1_factHolds_86 : decode cX1_factHolds 86 = .ok (.getfield 31, 3) := by decide +kernel
theorem dX1_factHolds_89 : decode cX1_factHolds 89 = .ok (.ishl, 1) := by decide +kernel
theorem dX1_factHolds_90 : decode cX1_factHolds 90 = .ok (.iconst 1, 1) := by decide +kernel
theorem dX1_factHolds_91 : decode cX1_factHolds 91 = .ok (.isub, 1) := by decide +kernel
theorem dX1_factHolds_92 : decode cX1_factHolds 92 = .ok (.iand, 1) := by decide +kernel
theorem dX1_factHolds_93 : decode cX1_factHolds 93 = .ok (.ireturn, 1) := by decide +kernel
theorem dX1_factHolds_94 : decode cX1_factHolds 94 = .ok (.iload_n 3, 1) := by decide +kernel
theorem dX1_factHolds_95 : decode cX1_factHolds 95 = .ok (.ifCond .ne 8, 3) := by decide +kernel
theorem dX1_factHolds_98 : decode cX1_factHolds 98 = .ok (.aload_n 0, 1) := by decide +kernel
theorem dX1_factHolds_99 : decode cX1_factHolds 99 = .ok (.invokevirtual 90, 3) := by decide +kernel
theorem dX1_factHolds_102 : decode cX1_factHolds 102 = .ok (.ireturn, 1) := by decide +kernel
theorem dX1_factHolds_103 : decode cX1_factHolds 103 = .ok (.aload_n 0, 1) := by decide +kernel
theorem dX1_factHolds_104 : decode cX1_factHolds 104 = .ok (.getfield 21, 3) := by decide +kernel
theorem dX1_factHolds_107 : decode cX1_factHolds 107 = .ok (.invokevirtual 52, 3) := by decide +kernel
theorem dX1_factHolds_110 : decode cX1_factHolds 110 = .ok (.aload_n 0, 1) := by decide +kernel
theorem dX1_factHolds_111 : decode cX1_factHolds 111 = .ok (.iload_n 1, 1) := by decide +kernel
theorem dX1_factHolds_112 : decode cX1_factHolds 112 = .ok (.iconst 1, 1) := by decide +kernel
theorem dX1_factHolds_113 : decode cX1_factHolds 113 = .ok (.iadd, 1) := by decide +kernel
theorem dX1_factHolds_114 : decode cX1_factHolds 114 = .ok (.invokevirtual 55, 3) := by decide +kernel
theorem dX1_factHolds_117 : decode cX1_factHolds 117 = .ok (.istore 4, 2) := by decide +kernel
theorem dX1_factHolds_119 : decode cX1_factHolds 119 = .ok (.aload_n 0, 1) := by decide +kernel
theorem dX1_factHolds_120 : decode cX1_factHolds 120 = .ok (.getfield 21, 3) := by decide +kernel
theorem dX1_factHolds_123 : decode cX1_factHolds 123 = .ok (.bipush 125, 2) := by decide +kernel
theorem dX1_factHolds_125 : decode cX1_factHolds 125 = .ok (.invokevirtual 94, 3) := by decide +kernel
theorem dX1_factHolds_128 : decode cX1_factHolds 128 = .ok (.iload 4, 2) := by decide +kernel
theorem dX1_factHolds_130 : decode cX1_factHolds 130 = .ok (.ireturn, 1) := by decide +kernel
theorem dX1_compare_0 : decode cX1_compare 0 = .ok (.aload_n 0, 1) := by decide +kernel
theorem dX1_compare_1 : decode cX1_compare 1 = .ok (.aload_n 0, 1) := by decide +kernel
theorem dX1_compare_2 : decode cX1_compare 2 = .ok (.getfield 15, 3) := by decide +kernel
theorem dX1_compare_5 : decode cX1_compare 5 = .ok (.invokevirtual 98, 3) := by decide +kernel
theorem dX1_compare_8 : decode cX1_compare 8 = .ok (.aload_n 0, 1) := by decide +kernel
theorem dX1_compare_9 : decode cX1_compare 9 = .ok (.getfield 21, 3) := by decide +kernel
theorem dX1_compare_12 : decode cX1_compare 12 = .ok (.bipush 60, 2) := by decide +kernel
theorem dX1_compare_14 : decode cX1_compare 14 = .ok (.invokevirtual 86, 3) := by decide +kernel
theorem dX1_compare_17 : decode cX1_compare 17 = .ok (.istore_n 1, 1) := by decide +kernel
theorem dX1_compare_18 : decode cX1_compare 18 = .ok (.aload_n 0, 1) := by decide +kernel
theorem dX1_compare_19 : decode cX1_compare 19 = .ok (.getfield 21, 3) := by decide +kernel
theorem dX1_compare_22 : decode cX1_compare 22 = .ok (.bipush 62, 2) := by decide +kernel
theorem dX1_compare_24 : decode cX1_compare 24 = .ok (.invokevirtual 86, 3) := by decide +kernel
theorem dX1_compare_27 : decode cX1_compare 27 = .ok (.istore_n 2, 1) := by decide +kernel
theorem dX1_compare_28 : decode cX1_compare 28 = .ok (.iload_n 1, 1) := by decide +kernel
theorem dX1_compare_29 : decode cX1_compare 29 = .ok (.ifCond .ne 27, 3) := by decide +kernel
theorem dX1_compare_32 : decode cX1_compare 32 = .ok (.iload_n 2, 1) := by decide +kernel
theorem dX1_compare_33 : decode cX1_compare 33 = .ok (.ifCond .ne 23, 3) := by decide +kernel
theorem dX1_compare_36 : decode cX1_compare 36 = .ok (.aload_n 0, 1) := by decide +kernel
theorem dX1_compare_37 : decode cX1_compare 37 = .ok (.getfield 21, 3) := by decide +kernel
theorem dX1_compare_40 : decode cX1_compare 40 = .ok (.bipush 61, 2) := by decide +kernel
theorem dX1_compare_42 : decode cX1_compare 42 = .ok (.invokevirtual 86, 3) := by decide +kernel
theorem dX1_compare_45 : decode cX1_compare 45 = .ok (.ifCond .ne 11, 3) := by decide +kernel
theorem dX1_compare_48 : decode cX1_compare 48 = .ok (.aload_n 0, 1) := by decide +kernel
theorem dX1_compare_49 : decode cX1_compare 49 = .ok (.getfield 21, 3) := by decide +kernel
theorem dX1_compare_52 : decode cX1_compare 52 = .ok (.iconst 1, 1) := by decide +kernel
theorem dX1_compare_53 : decode cX1_compare 53 = .ok (.invokevirtual 49, 3) := by decide +kernel
theorem dX1_compare_56 : decode cX1_compare 56 = .ok (.aload_n 0, 1) := by decide +kernel
theorem dX1_compare_57 : decode cX1_compare 57 = .ok (.getfield 21, 3) := by decide +kernel
theorem dX1_compare_60 : decode cX1_compare 60 = .ok (.invokevirtual 52, 3) := by decide +kernel
theorem dX1_compare_63 : decode cX1_compare 63 = .ok (.aload_n 0, 1) := by decide +kernel
theorem dX1_compare_64 : decode cX1_compare 64 = .ok (.aload_n 0, 1) := by decide +kernel
theorem dX1_compare_65 : decode cX1_compare 65 = .ok (.getfield 18, 3) := by decide +kernel
theorem dX1_compare_68 : decode cX1_compare 68 = .ok (.invokevirtual 98, 3) := by decide +kernel
theorem dX1_compare_71 : decode cX1_compare 71 = .ok (.iconst 0, 1) := by decide +kernel
theorem dX1_compare_72 : decode cX1_compare 72 = .ok (.istore_n 3, 1) := by decide +kernel
theorem dX1_compare_73 : decode cX1_compare 73 = .ok (.iconst 0, 1) := by decide +kernel
theorem dX1_compare_74 : decode cX1_compare 74 = .ok (.istore 4, 2) := by decide +kernel
theorem dX1_compare_76 : decode cX1_compare 76 = .ok (.iload 4, 2) := by decide +kernel
theorem dX1_compare_78 : decode cX1_compare 78 = .ok (.aload_n 0, 1) := by decide +kernel
theorem dX1_compare_79 : decode cX1_compare 79 = .ok (.getfield 31, 3) := by decide +kernel
theorem dX1_compare_82 : decode cX1_compare 82 = .ok (.if_icmp .ge 95, 3) := by decide +kernel
theorem dX1_compare_85 : decode cX1_compare 85 = .ok (.iload_n 1, 1) := by decide +kernel
theorem dX1_compare_86 : decode cX1_compare 86 = .ok (.ifCond .ne 28, 3) := by decide +kernel
theorem dX1_compare_89 : decode cX1_compare 89 = .ok (.iload_n 2, 1) := by decide +kernel
theorem dX1_compare_90 : decode cX1_compare 90 = .ok (.ifCond .ne 24, 3) := by decide +kernel
theorem dX1_compare_93 : decode cX1_compare 93 = .ok (.aload_n 0, 1) := by decide +kernel
theorem dX1_compare_94 : decode cX1_compare 94 = .ok (.getfield 15, 3) := by decide +kernel
theorem dX1_compare_97 : decode cX1_compare 97 = .ok (.iload 4, 2) := by decide +kernel
theorem dX1_compare_99 : decode cX1_compare 99 = .ok (.iaload, 1) := by decide +kernel
theorem dX1_compare_100 : decode cX1_compare 100 = .ok (.aload_n 0, 1) := by decide +kernel
theorem dX1_compare_101 : decode cX1_compare 101 = .ok (.getfield 18, 3) := by decide +kernel
theorem dX1_compare_104 : decode cX1_compare 104 = .ok (.iload 4, 2) := by decide +kernel
theorem dX1_compare_106 : decode cX1_compare 106 = .ok (.iaload, 1) := by decide +kernel
theorem dX1_compare_107 : decode cX1_compare 107 = .ok (.if_icmp .ne 7, 3) := by decide +kernel
theorem dX1_compare_110 : decode cX1_compare 110 = .ok (.iconst 1, 1) := by decide +kernel
theorem dX1_compare_111 : decode cX1_compare 111 = .ok (.goto 4, 3) := by decide +kernel
theorem dX1_compare_114 : decode cX1_compare 114 = .ok (.iconst 0, 1) := by decide +kernel
theorem dX1_compare_115 : decode cX1_compare 115 = .ok (.istore 5, 2) := by decide +kernel
theorem dX1_compare_117 : decode cX1_compare 117 = .ok (.iload 5, 2) := by decide +kernel
theorem dX1_compare_119 : decode cX1_compare 119 = .ok (.ifCond .ne 45, 3) := by decide +kernel
theorem dX1_compare_122 : decode cX1_compare 122 = .ok (.iload_n 1, 1) := by decide +kernel
theorem dX1_compare_123 : decode cX1_compare 123 = .ok (.ifCond .eq 20, 3) := by decide +kernel
theorem dX1_compare_126 : decode cX1_compare 126 = .ok (.aload_n 0, 1) := by decide +kernel
theorem dX1_compare_127 : decode cX1_compare 127 = .ok (.getfield 15, 3) := by decide +kernel
theorem dX1_compare_130 : decode cX1_compare 130 = .ok (.iload 4, 2) := by decide +kernel
theorem dX1_compare_132 : decode cX1_compare 132 = .ok (.iaload, 1) := by decide +kernel
theorem dX1_compare_133 : decode cX1_compare 133 = .ok (.aload_n 0, 1) := by decide +kernel
theorem dX1_compare_134 : decode cX1_compare 134 = .ok (.getfield 18, 3) := by decide +kernel
theorem dX1_compare_137 : decode cX1_compare 137 = .ok (.iload 4, 2) := by decide +kernel
theorem dX1_compare_139 : decode cX1_compare 139 = .ok (.iaload, 1) := by decide +kernel
theorem dX1_compare_140 : decode cX1_compare 140 = .ok (.if_icmp .lt 24, 3) := by decide +kernel
theorem dX1_compare_143 : decode cX1_compare 143 = .ok (.iload_n 2, 1) := by decide +kernel
theorem dX1_compare_144 : decode cX1_compare 144 = .ok (.ifCond .eq 27, 3) := by decide +kernel
theorem dX1_compare_147 : decode cX1_compare 147 = .ok (.aload_n 0, 1) := by decide +kernel
theorem dX1_compare_148 : decode cX1_compare 148 = .ok (.getfield 15, 3) := by decide +kernel
theorem dX1_compare_151 : decode cX1_compare 151 = .ok (.iload 4, 2) := by decide +kernel
theorem dX1_compare_153 : decode cX1_compare 153 = .ok (.iaload, 1) := by decide +kernel
theorem dX1_compare_154 : decode cX1_compare 154 = .ok (.aload_n 0, 1) := by decide +kernel
theorem dX1_compare_155 : decode cX1_compare 155 = .ok (.getfield 18, 3) := by decide +kernel
theorem dX1_compare_158 : decode cX1_compare 158 = .ok (.iload 4, 2) := by decide +kernel
theorem dX1_compare_160 : decode cX1_compare 160 = .ok (.iaload, 1) := by decide +kernel
theorem dX1_compare_161 : decode cX1_compare 161 = .ok (.if_icmp .le 10, 3) := by decide +kernel
theorem dX1_compare_164 : decode cX1_compare 164 = .ok (.iload_n 3, 1) := by decide +kernel
theorem dX1_compare_165 : decode cX1_compare 165 = .ok (.iconst 1, 1) := by decide +kernel
theorem dX1_compare_166 : decode cX1_compare 166 = .ok (.iload 4, 2) := by decide +kernel
theorem dX1_compare_168 : decode cX1_compare 168 = .ok (.ishl, 1) := by decide +kernel
theorem dX1_compare_169 : decode cX1_compare 169 = .ok (.ior, 1) := by decide +kernel
theorem dX1_compare_170 : decode cX1_compare 170 = .ok (.istore_n 3, 1) := by decide +kernel
theorem dX1_compare_171 : decode cX1_compare 171 = .ok (.iinc 4 1, 3) := by decide +kernel
theorem dX1_compare_174 : decode cX1_compare 174 = .ok (.goto (-98), 3) := by decide +kernel
theorem dX1_compare_177 : decode cX1_compare 177 = .ok (.iload_n 3, 1) := by decide +kernel
theorem dX1_compare_178 : decode cX1_compare 178 = .ok (.ireturn, 1) := by decide +kernel
theorem dX1_readValue_0 : decode cX1_readValue 0 = .ok (.aload_n 0, 1) := by decide +kernel
theorem dX1_readValue_1 : decode cX1_readValue 1 = .ok (.invokevirtual 102, 3) := by decide +kernel
theorem dX1_readValue_4 : decode cX1_readValue 4 = .ok (.istore_n 2, 1) := by decide +kernel
theorem dX1_readValue_5 : decode cX1_readValue 5 = .ok (.aload_n 0, 1) := by decide +kernel
theorem dX1_readValue_6 : decode cX1_readValue 6 = .ok (.getfield 21, 3) := by decide +kernel
theorem dX1_readValue_9 : decode cX1_readValue 9 = .ok (.getfield 59, 3) := by decide +kernel
theorem dX1_readValue_12 : decode cX1_readValue 12 = .ok (.iconst 3, 1) := by decide +kernel
theorem dX1_readValue_13 : decode cX1_readValue 13 = .ok (.if_icmp .eq 19, 3) := by decide +kernel
theorem dX1_readValue_16 : decode cX1_readValue 16 = .ok (.iload_n 2, 1) := by decide +kernel
theorem dX1_readValue_17 : decode cX1_readValue 17 = .ok (.iconst (-1), 1) := by decide +kernel
theorem dX1_readValue_18 : decode cX1_readValue 18 = .ok (.if_icmp .ne 14, 3) := by decide +kernel
theorem dX1_readValue_21 : decode cX1_readValue 21 = .ok (.aload_n 0, 1) := by decide +kernel
theorem dX1_readValue_22 : decode cX1_readValue 22 = .ok (.getfield 21, 3) := by decide +kernel
theorem dX1_readValue_25 : decode cX1_readValue 25 = .ok (.iconst 1, 1) := by decide +kernel
theorem dX1_readValue_26 : decode cX1_readValue 26 = .ok (.invokevirtual 49, 3) := by decide +kernel
theorem dX1_readValue_29 : decode cX1_readValue 29 = .ok (.goto 29, 3) := by decide +kernel
theorem dX1_readValue_32 : decode cX1_readValue 32 = .ok (.iload_n 2, 1) := by decide +kernel
theorem dX1_readValue_33 : decode cX1_readValue 33 = .ok (.iconst (-1), 1) := by decide +kernel
theorem dX1_readValue_34 : decode cX1_readValue 34 = .ok (.if_icmp .ne 24, 3) := by decide +kernel
theorem dX1_readValue_37 : decode cX1_readValue 37 = .ok (.aload_n 0, 1) := by decide +kernel
theorem dX1_readValue_38 : decode cX1_readValue 38 = .ok (.getfield 21, 3) := by decide +kernel
theorem dX1_readValue_41 : decode cX1_readValue 41 = .ok (.getfield 105, 3) := by decide +kernel
theorem dX1_readValue_44 : decode cX1_readValue 44 = .ok (.sipush 9999, 3) := by decide +kernel
theorem dX1_readValue_47 : decode cX1_readValue 47 = .ok (.if_icmp .le 11, 3) := by decide +kernel
theorem dX1_readValue_50 : decode cX1_readValue 50 = .ok (.aload_n 0, 1) := by decide +kernel
theorem dX1_readValue_51 : decode cX1_readValue 51 = .ok (.getfield 21, 3) := by decide +kernel
theorem dX1_readValue_54 : decode cX1_readValue 54 = .ok (.iconst 2, 1) := by decide +kernel
theorem dX1_readValue_55 : decode cX1_readValue 55 = .ok (.invokevirtual 49, 3) := by decide +kernel
theorem dX1_readValue_58 : decode cX1_readValue 58 = .ok (.iconst 0, 1) := by decide +kernel
theorem dX1_readValue_59 : decode cX1_readValue 59 = .ok (.istore_n 3, 1) := by decide +kernel
theorem dX1_readValue_60 : decode cX1_readValue 60 = .ok (.iload_n 3, 1) := by decide +kernel
theorem dX1_readValue_61 : decode cX1_readValue 61 = .ok (.aload_n 0, 1) := by decide +kernel
theorem dX1_readValue_62 : decode cX1_readValue 62 = .ok (.getfield 31, 3) := by decide +kernel
theorem dX1_readValue_65 : decode cX1_readValue 65 = .ok (.if_icmp .ge 44, 3) := by decide +kernel
theorem dX1_readValue_68 : decode cX1_readValue 68 = .ok (.iload_n 3, 1) := by decide +kernel
theorem dX1_readValue_69 : decode cX1_readValue 69 = .ok (.aload_n 1, 1) := by decide +kernel
theorem dX1_readValue_70 : decode cX1_readValue 70 = .ok (.arraylength, 1) := by decide +kernel
theorem dX1_readValue_71 : decode cX1_readValue 71 = .ok (.if_icmp .ge 38, 3) := by decide +kernel
theorem dX1_readValue_74 : decode cX1_readValue 74 = .ok (.aload_n 1, 1) := by decide +kernel
theorem dX1_readValue_75 : decode cX1_readValue 75 = .ok (.iload_n 3, 1) := by decide +kernel
theorem dX1_readValue_76 : decode cX1_readValue 76 = .ok (.iload_n 2, 1) := by decide +kernel
theorem dX1_readValue_77 : decode cX1_readValue 77 = .ok (.iconst (-1), 1) := by decide +kernel
theorem dX1_readValue_78 : decode cX1_readValue 78 = .ok (.if_icmp .ne 13, 3) := by decide +kernel
theorem dX1_readValue_81 : decode cX1_readValue 81 = .ok (.aload_n 0, 1) := by decide +kernel
theorem dX1_readValue_82 : decode cX1_readValue 82 = .ok (.getfield 21, 3) := by decide +kernel
theorem dX1_readValue_85 : decode cX1_readValue 85 = .ok (.getfield 105, 3) := by decide +kernel
theorem dX1_readValue_88 : decode cX1_readValue 88 = .ok (.goto 14, 3) := by decide +kernel
theorem dX1_readValue_91 : decode cX1_readValue 91 = .ok (.aload_n 0, 1) := by decide +kernel
theorem dX1_readValue_92 : decode cX1_readValue 92 = .ok (.getfield 11, 3) := by decide +kernel
theorem dX1_readValue_95 : decode cX1_readValue 95 = .ok (.iload_n 3, 1) := by decide +kernel
theorem dX1_readValue_96 : decode cX1_readValue 96 = .ok (.bipush 10, 2) := by decide +kernel
theorem dX1_readValue_98 : decode cX1_readValue 98 = .ok (.imul, 1) := by decide +kernel
theorem dX1_readValue_99 : decode cX1_readValue 99 = .ok (.iload_n 2, 1) := by decide +kernel
theorem dX1_readValue_100 : decode cX1_readValue 100 = .ok (.iadd, 1) := by decide +kernel
theorem dX1_readValue_101 : decode cX1_readValue 101 = .ok (.iaload, 1) := by decide +kernel
theorem dX1_readValue_102 : decode cX1_readValue 102 = .ok (.iastore, 1) := by decide +kernel
theorem dX1_readValue_103 : decode cX1_readValue 103 = .ok (.iinc 3 1, 3) := by decide +kernel
theorem dX1_readValue_106 : decode cX1_readValue 106 = .ok (.goto (-46), 3) := by decide +kernel
theorem dX1_readValue_109 : decode cX1_readValue 109 = .ok (.aload_n 0, 1) := by decide +kernel
theorem dX1_readValue_110 : decode cX1_readValue 110 = .ok (.getfield 21, 3) := by decide +kernel
theorem dX1_readValue_113 : decode cX1_readValue 113 = .ok (.invokevirtual 52, 3) := by decide +kernel
theorem dX1_readValue_116 : decode cX1_readValue 116 = .ok (.return_, 1) := by decide +kernel
theorem dX1_wordNumber_0 : decode cX1_wordNumber 0 = .ok (.aload_n 0, 1) := by decide +kernel
theorem dX1_wordNumber_1 : decode cX1_wordNumber 1 = .ok (.getfield 21, 3) := by decide +kernel
theorem dX1_wordNumber_4 : decode cX1_wordNumber 4 = .ok (.ldc 108, 2) := by decide +kernel
theorem dX1_wordNumber_6 : decode cX1_wordNumber 6 = .ok (.invokevirtual 43, 3) := by decide +kernel
theorem dX1_wordNumber_9 : decode cX1_wordNumber 9 = .ok (.ifCond .eq 5, 3) := by decide +kernel
theorem dX1_wordNumber_12 : decode cX1_wordNumber 12 = .ok (.iconst 0, 1) := by decide +kernel
theorem dX1_wordNumber_13 : decode cX1_wordNumber 13 = .ok (.ireturn, 1) := by decide +kernel
theorem dX1_wordNumber_14 : decode cX1_wordNumber 14 = .ok (.aload_n 0, 1) := by decide +kernel
theorem dX1_wordNumber_15 : decode cX1_wordNumber 15 = .ok (.getfield 21, 3) := by decide +kernel
theorem dX1_wordNumber_18 : decode cX1_wordNumber 18 = .ok (.ldc 110, 2) := by decide +kernel
theorem dX1_wordNumber_20 : decode cX1_wordNumber 20 = .ok (.invokevirtual 43, 3) := by decide +kernel
theorem dX1_wordNumber_23 : decode cX1_wordNumber 23 = .ok (.ifCond .eq 5, 3) := by decide +kernel
theorem dX1_wordNumber_26 : decode cX1_wordNumber 26 = .ok (.iconst 1, 1) := by decide +kernel
theorem dX1_wordNumber_27 : decode cX1_wordNumber 27 = .ok (.ireturn, 1) := by decide +kernel
theorem dX1_wordNumber_28 : decode cX1_wordNumber 28 = .ok (.aload_n 0, 1) := by decide +kernel
theorem dX1_wordNumber_29 : decode cX1_wordNumber 29 = .ok (.getfield 21, 3) := by decide +kernel
theorem dX1_wordNumber_32 : decode cX1_wordNumber 32 = .ok (.ldc 112, 2) := by decide +kernel
theorem dX1_wordNumber_34 : decode cX1_wordNumber 34 = .ok (.invokevirtual 43, 3) := by decide +kernel
theorem dX1_wordNumber_37 : decode cX1_wordNumber 37 = .ok (.ifCond .eq 5, 3) := by decide +kernel
theorem dX1_wordNumber_40 : decode cX1_wordNumber 40 = .ok (.iconst 2, 1) := by decide +kernel
theorem dX1_wordNumber_41 : decode cX1_wordNumber 41 = .ok (.ireturn, 1) := by decide +kernel
theorem dX1_wordNumber_42 : decode cX1_wordNumber 42 = .ok (.aload_n 0, 1) := by decide +kernel
theorem dX1_wordNumber_43 : decode cX1_wordNumber 43 = .ok (.getfield 21, 3) := by decide +kernel
theorem dX1_wordNumber_46 : decode cX1_wordNumber 46 = .ok (.ldc 114, 2) := by decide +kernel
theorem dX1_wordNumber_48 : decode cX1_wordNumber 48 = .ok (.invokevirtual 43, 3) := by decide +kernel
theorem dX1_wordNumber_51 : decode cX1_wordNumber 51 = .ok (.ifCond .eq 5, 3) := by decide +kernel
theorem dX1_wordNumber_54 : decode cX1_wordNumber 54 = .ok (.iconst 3, 1) := by decide +kernel
theorem dX1_wordNumber_55 : decode cX1_wordNumber 55 = .ok (.ireturn, 1) := by decide +kernel
theorem dX1_wordNumber_56 : decode cX1_wordNumber 56 = .ok (.aload_n 0, 1) := by decide +kernel
theorem dX1_wordNumber_57 : decode cX1_wordNumber 57 = .ok (.getfield 21, 3) := by decide +kernel
theorem dX1_wordNumber_60 : decode cX1_wordNumber 60 = .ok (.ldc 116, 2) := by decide +kernel
theorem dX1_wordNumber_62 : decode cX1_wordNumber 62 = .ok (.invokevirtual 43, 3) := by decide +kernel
theorem dX1_wordNumber_65 : decode cX1_wordNumber 65 = .ok (.ifCond .eq 5, 3) := by decide +kernel
theorem dX1_wordNumber_68 : decode cX1_wordNumber 68 = .ok (.iconst 4, 1) := by decide +kernel
theorem dX1_wordNumber_69 : decode cX1_wordNumber 69 = .ok (.ireturn, 1) := by decide +kernel
theorem dX1_wordNumber_70 : decode cX1_wordNumber 70 = .ok (.aload_n 0, 1) := by decide +kernel
theorem dX1_wordNumber_71 : decode cX1_wordNumber 71 = .ok (.getfield 21, 3) := by decide +kernel
theorem dX1_wordNumber_74 : decode cX1_wordNumber 74 = .ok (.ldc 118, 2) := by decide +kernel
theorem dX1_wordNumber_76 : decode cX1_wordNumber 76 = .ok (.invokevirtual 43, 3) := by decide +kernel
theorem dX1_wordNumber_79 : decode cX1_wordNumber 79 = .ok (.ifCond .eq 5, 3) := by decide +kernel
theorem dX1_wordNumber_82 : decode cX1_wordNumber 82 = .ok (.iconst 5, 1) := by decide +kernel
theorem dX1_wordNumber_83 : decode cX1_wordNumber 83 = .ok (.ireturn, 1) := by decide +kernel
theorem dX1_wordNumber_84 : decode cX1_wordNumber 84 = .ok (.aload_n 0, 1) := by decide +kernel
theorem dX1_wordNumber_85 : decode cX1_wordNumber 85 = .ok (.getfield 21, 3) := by decide +kernel
theorem dX1_wordNumber_88 : decode cX1_wordNumber 88 = .ok (.ldc 120, 2) := by decide +kernel
theorem dX1_wordNumber_90 : decode cX1_wordNumber 90 = .ok (.invokevirtual 43, 3) := by decide +kernel
theorem dX1_wordNumber_93 : decode cX1_wordNumber 93 = .ok (.ifCond .eq 6, 3) := by decide +kernel
theorem dX1_wordNumber_96 : decode cX1_wordNumber 96 = .ok (.bipush 6, 2) := by decide +kernel
theorem dX1_wordNumber_98 : decode cX1_wordNumber 98 = .ok (.ireturn, 1) := by decide +kernel
theorem dX1_wordNumber_99 : decode cX1_wordNumber 99 = .ok (.aload_n 0, 1) := by decide +kernel
theorem dX1_wordNumber_100 : decode cX1_wordNumber 100 = .ok (.getfield 21, 3) := by decide +kernel
theorem dX1_wordNumber_103 : decode cX1_wordNumber 103 = .ok (.ldc 122, 2) := by decide +kernel
theorem dX1_wordNumber_105 : decode cX1_wordNumber 105 = .ok (.invokevirtual 43, 3) := by decide +kernel
theorem dX1_wordNumber_108 : decode cX1_wordNumber 108 = .ok (.ifCond .eq 6, 3) := by decide +kernel
theorem dX1_wordNumber_111 : decode cX1_wordNumber 111 = .ok (.bipush 7, 2) := by decide +kernel
theorem dX1_wordNumber_113 : decode cX1_wordNumber 113 = .ok (.ireturn, 1) := by decide +kernel
theorem dX1_wordNumber_114 : decode cX1_wordNumber 114 = .ok (.aload_n 0, 1) := by decide +kernel
theorem dX1_wordNumber_115 : decode cX1_wordNumber 115 = .ok (.getfield 21, 3) := by decide +kernel
theorem dX1_wordNumber_118 : decode cX1_wordNumber 118 = .ok (.ldc 124, 2) := by decide +kernel
theorem dX1_wordNumber_120 : decode cX1_wordNumber 120 = .ok (.invokevirtual 43, 3) := by decide +kernel
theorem dX1_wordNumber_123 : decode cX1_wordNumber 123 = .ok (.ifCond .eq 6, 3) := by decide +kernel
theorem dX1_wordNumber_126 : decode cX1_wordNumber 126 = .ok (.bipush 8, 2) := by decide +kernel
theorem dX1_wordNumber_128 : decode cX1_wordNumber 128 = .ok (.ireturn, 1) := by decide +kernel
theorem dX1_wordNumber_129 : decode cX1_wordNumber 129 = .ok (.aload_n 0, 1) := by decide +kernel
theorem dX1_wordNumber_130 : decode cX1_wordNumber 130 = .ok (.getfield 21, 3) := by decide +kernel
theorem dX1_wordNumber_133 : decode cX1_wordNumber 133 = .ok (.ldc 125, 2) := by decide +kernel
theorem dX1_wordNumber_135 : decode cX1_wordNumber 135 = .ok (.invokevirtual 43, 3) := by decide +kernel
theorem dX1_wordNumber_138 : decode cX1_wordNumber 138 = .ok (.ifCond .eq 8, 3) := by decide +kernel
theorem dX1_wordNumber_141 : decode cX1_wordNumber 141 = .ok (.bipush 9, 2) := by decide +kernel
theorem dX1_wordNumber_143 : decode cX1_wordNumber 143 = .ok (.goto 4, 3) := by decide +kernel
theorem dX1_wordNumber_146 : decode cX1_wordNumber 146 = .ok (.iconst (-1), 1) := by decide +kernel
theorem dX1_wordNumber_147 : decode cX1_wordNumber 147 = .ok (.ireturn, 1) := by decide +kernel
theorem dX2_init_0 : decode cX2_init 0 = .ok (.aload_n 0, 1) := by decide +kernel
theorem dX2_init_1 : decode cX2_init 1 = .ok (.invokespecial 3, 3) := by decide +kernel
theorem dX2_init_4 : decode cX2_init 4 = .ok (.aload_n 0, 1) := by decide +kernel
theorem dX2_init_5 : decode cX2_init 5 = .ok (.bipush 31, 2) := by decide +kernel
theorem dX2_init_7 : decode cX2_init 7 = .ok (.newarray .int, 2) := by decide +kernel
theorem dX2_init_9 : decode cX2_init 9 = .ok (.putfield 9, 3) := by decide +kernel
theorem dX2_init_12 : decode cX2_init 12 = .ok (.aload_n 0, 1) := by decide +kernel
theorem dX2_init_13 : decode cX2_init 13 = .ok (.bipush 10, 2) := by decide +kernel
theorem dX2_init_15 : decode cX2_init 15 = .ok (.newarray .int, 2) := by decide +kernel
theorem dX2_init_17 : decode cX2_init 17 = .ok (.putfield 15, 3) := by decide +kernel
theorem dX2_init_20 : decode cX2_init 20 = .ok (.aload_n 0, 1) := by decide +kernel
theorem dX2_init_21 : decode cX2_init 21 = .ok (.bipush 12, 2) := by decide +kernel
theorem dX2_init_23 : decode cX2_init 23 = .ok (.newarray .int, 2) := by decide +kernel
theorem dX2_init_25 : decode cX2_init 25 = .ok (.putfield 18, 3) := by decide +kernel
theorem dX2_init_28 : decode cX2_init 28 = .ok (.aload_n 0, 1) := by decide +kernel
theorem dX2_init_29 : decode cX2_init 29 = .ok (.bipush 12, 2) := by decide +kernel
theorem dX2_init_31 : decode cX2_init 31 = .ok (.newarray .int, 2) := by decide +kernel
theorem dX2_init_33 : decode cX2_init 33 = .ok (.putfield 21, 3) := by decide +kernel
theorem dX2_init_36 : decode cX2_init 36 = .ok (.aload_n 0, 1) := by decide +kernel
theorem dX2_init_37 : decode cX2_init 37 = .ok (.bipush 12, 2) := by decide +kernel
theorem dX2_init_39 : decode cX2_init 39 = .ok (.newarray .int, 2) := by decide +kernel
theorem dX2_init_41 : decode cX2_init 41 = .ok (.putfield 24, 3) := by decide +kernel
theorem dX2_init_44 : decode cX2_init 44 = .ok (.aload_n 0, 1) := by decide +kernel
theorem dX2_init_45 : decode cX2_init 45 = .ok (.aload_n 1, 1) := by decide +kernel
theorem dX2_init_46 : decode cX2_init 46 = .ok (.putfield 27, 3) := by decide +kernel
theorem dX2_init_49 : decode cX2_init 49 = .ok (.return_, 1) := by decide +kernel
theorem dX2_refresh_0 : decode cX2_refresh 0 = .ok (.iconst 0, 1) := by decide +kernel
theorem dX2_refresh_1 : decode cX2_refresh 1 = .ok (.istore_n 1, 1) := by decide +kernel
theorem dX2_refresh_2 : decode cX2_refresh 2 = .ok (.iload_n 1, 1) := by decide +kernel
theorem dX2_refresh_3 : decode cX2_refresh 3 = .ok (.aload_n 0, 1) := by decide +kernel
theorem dX2_refresh_4 : decode cX2_refresh 4 = .ok (.getfield 27, 3) := by decide +kernel
theorem dX2_refresh_7 : decode cX2_refresh 7 = .ok (.getfield 31, 3) := by decide +kernel
theorem dX2_refresh_10 : decode cX2_refresh 10 = .ok (.if_icmp .ge 79, 3) := by decide +kernel
theorem dX2_refresh_13 : decode cX2_refresh 13 = .ok (.aload_n 0, 1) := by decide +kernel
theorem dX2_refresh_14 : decode cX2_refresh 14 = .ok (.getfield 27, 3) := by decide +kernel
theorem dX2_refresh_17 : decode cX2_refresh 17 = .ok (.getfield 37, 3) := by decide +kernel
theorem dX2_refresh_20 : decode cX2_refresh 20 = .ok (.iload_n 1, 1) := by decide +kernel
theorem dX2_refresh_21 : decode cX2_refresh 21 = .ok (.aaload, 1) := by decide +kernel
theorem dX2_refresh_22 : decode cX2_refresh 22 = .ok (.astore_n 2, 1) := by decide +kernel
theorem dX2_refresh_23 : decode cX2_refresh 23 = .ok (.aload_n 2, 1) := by decide +kernel
theorem dX2_refresh_24 : decode cX2_refresh 24 = .ok (.aload_n 0, 1) := by decide +kernel
theorem dX2_refresh_25 : decode cX2_refresh 25 = .ok (.getfield 27, 3) := by decide +kernel
theorem dX2_refresh_28 : decode cX2_refresh 28 = .ok (.getfield 41, 3) := by decide +kernel
theorem dX2_refresh_31 : decode cX2_refresh 31 = .ok (.iconst 2, 1) := by decide +kernel
theorem dX2_refresh_32 : decode cX2_refresh 32 = .ok (.iaload, 1) := by decide +kernel
theorem dX2_refresh_33 : decode cX2_refresh 33 = .ok (.invokevirtual 44, 3) := by decide +kernel
theorem dX2_refresh_36 : decode cX2_refresh 36 = .ok (.istore_n 3, 1) := by decide +kernel
theorem dX2_refresh_37 : decode cX2_refresh 37 = .ok (.aload_n 2, 1) := by decide +kernel
theorem dX2_refresh_38 : decode cX2_refresh 38 = .ok (.iload_n 3, 1) := by decide +kernel
theorem dX2_refresh_39 : decode cX2_refresh 39 = .ok (.aload_n 2, 1) := by decide +kernel
theorem dX2_refresh_40 : decode cX2_refresh 40 = .ok (.getfield 50, 3) := by decide +kernel
theorem dX2_refresh_43 : decode cX2_refresh 43 = .ok (.iand, 1) := by decide +kernel
theorem dX2_refresh_44 : decode cX2_refresh 44 = .ok (.putfield 53, 3) := by decide +kernel
theorem dX2_refresh_47 : decode cX2_refresh 47 = .ok (.aload_n 2, 1) := by decide +kernel
theorem dX2_refresh_48 : decode cX2_refresh 48 = .ok (.iload_n 3, 1) := by decide +kernel
theorem dX2_refresh_49 : decode cX2_refresh 49 = .ok (.aload_n 2, 1) := by decide +kernel
theorem dX2_refresh_50 : decode cX2_refresh 50 = .ok (.getfield 56, 3) := by decide +kernel
theorem dX2_refresh_53 : decode cX2_refresh 53 = .ok (.iand, 1) := by decide +kernel
theorem dX2_refresh_54 : decode cX2_refresh 54 = .ok (.putfield 59, 3) := by decide +kernel
theorem dX2_refresh_57 : decode cX2_refresh 57 = .ok (.aload_n 2, 1) := by decide +kernel
theorem dX2_refresh_58 : decode cX2_refresh 58 = .ok (.aload_n 0, 1) := by decide +kernel
theorem dX2_refresh_59 : decode cX2_refresh 59 = .ok (.aload_n 2, 1) := by decide +kernel
theorem dX2_refresh_60 : decode cX2_refresh 60 = .ok (.aload_n 2, 1) := by decide +kernel
theorem dX2_refresh_61 : decode cX2_refresh 61 = .ok (.getfield 62, 3) := by decide +kernel
theorem dX2_refresh_64 : decode cX2_refresh 64 = .ok (.invokevirtual 65, 3) := by decide +kernel
theorem dX2_refresh_67 : decode cX2_refresh 67 = .ok (.putfield 69, 3) := by decide +kernel
theorem dX2_refresh_70 : decode cX2_refresh 70 = .ok (.aload_n 2, 1) := by decide +kernel
theorem dX2_refresh_71 : decode cX2_refresh 71 = .ok (.aload_n 0, 1) := by decide +kernel
theorem dX2_refresh_72 : decode cX2_refresh 72 = .ok (.aload_n 2, 1) := by decide +kernel
theorem dX2_refresh_73 : decode cX2_refresh 73 = .ok (.aload_n 2, 1) := by decide +kernel
theorem dX2_refresh_74 : decode cX2_refresh 74 = .ok (.getfield 72, 3) := by decide +kernel
theorem dX2_refresh_77 : decode cX2_refresh 77 = .ok (.invokevirtual 65, 3) := by decide +kernel
theorem dX2_refresh_80 : decode cX2_refresh 80 = .ok (.putfield 75, 3) := by decide +kernel
theorem dX2_refresh_83 : decode cX2_refresh 83 = .ok (.iinc 1 1, 3) := by decide +kernel
theorem dX2_refresh_86 : decode cX2_refresh 86 = .ok (.goto (-84), 3) := by decide +kernel
theorem dX2_refresh_89 : decode cX2_refresh 89 = .ok (.return_, 1) := by decide +kernel
theorem dX2_reachOf_0 : decode cX2_reachOf 0 = .ok (.aload_n 1, 1) := by decide +kernel
theorem dX2_reachOf_1 : decode cX2_reachOf 1 = .ok (.invokevirtual 78, 3) := by decide +kernel
theorem dX2_reachOf_4 : decode cX2_reachOf 4 = .ok (.ifCond .ne 5, 3) := by decide +kernel
theorem dX2_reachOf_7 : decode cX2_reachOf 7 = .ok (.iconst 0, 1) := by decide +kernel
theorem dX2_reachOf_8 : decode cX2_reachOf 8 = .ok (.ireturn, 1) := by decide +kernel
theorem dX2_reachOf_9 : decode cX2_reachOf 9 = .ok (.iconst 1, 1) := by decide +kernel
theorem dX2_reachOf_10 : decode cX2_reachOf 10 = .ok (.iload_n 2, 1) := by decide +kernel
theorem dX2_reachOf_11 : decode cX2_reachOf 11 = .ok (.ishl, 1) := by decide +kernel
theorem dX2_reachOf_12 : decode cX2_reachOf 12 = .ok (.istore_n 3, 1) := by decide +kernel
theorem dX2_reachOf_13 : decode cX2_reachOf 13 = .ok (.iconst 0, 1) := by decide +kernel
theorem dX2_reachOf_14 : decode cX2_reachOf 14 = .ok (.istore 4, 2) := by decide +kernel
theorem dX2_reachOf_16 : decode cX2_reachOf 16 = .ok (.iload 4, 2) := by decide +kernel
theorem dX2_reachOf_18 : decode cX2_reachOf 18 = .ok (.bipush 12, 2) := by decide +kernel
theorem dX2_reachOf_20 : decode cX2_reachOf 20 = .ok (.if_icmp .ge 88, 3) := by decide +kernel
theorem dX2_reachOf_23 : decode cX2_reachOf 23 = .ok (.iload_n 3, 1) := by decide +kernel
theorem dX2_reachOf_24 : decode cX2_reachOf 24 = .ok (.istore 5, 2) := by decide +kernel
theorem dX2_reachOf_26 : decode cX2_reachOf 26 = .ok (.iconst 0, 1) := by decide +kernel
theorem dX2_reachOf_27 : decode cX2_reachOf 27 = .ok (.istore 6, 2) := by decide +kernel
theorem dX2_reachOf_29 : decode cX2_reachOf 29 = .ok (.iload 6, 2) := by decide +kernel
theorem dX2_reachOf_31 : decode cX2_reachOf 31 = .ok (.aload_n 0, 1) := by decide +kernel
theorem dX2_reachOf_32 : decode cX2_reachOf 32 = .ok (.getfield 27, 3) := by decide +kernel
theorem dX2_reachOf_35 : decode cX2_reachOf 35 = .ok (.getfield 82, 3) := by decide +kernel
theorem dX2_reachOf_38 : decode cX2_reachOf 38 = .ok (.if_icmp .ge 56, 3) := by decide +kernel
theorem dX2_reachOf_41 : decode cX2_reachOf 41 = .ok (.aload_n 0, 1) := by decide +kernel
theorem dX2_reachOf_42 : decode cX2_reachOf 42 = .ok (.getfield 27, 3) := by decide +kernel
theorem dX2_reachOf_45 : decode cX2_reachOf 45 = .ok (.getfield 85, 3) := by decide +kernel
theorem dX2_reachOf_48 : decode cX2_reachOf 48 = .ok (.iload 6, 2) := by decide +kernel
theorem dX2_reachOf_50 : decode cX2_reachOf 50 = .ok (.aaload, 1) := by decide +kernel
theorem dX2_reachOf_51 : decode cX2_reachOf 51 = .ok (.astore 7, 2) := by decide +kernel
theorem dX2_reachOf_53 : decode cX2_reachOf 53 = .ok (.iload_n 3, 1) := by decide +kernel
theorem dX2_reachOf_54 : decode cX2_reachOf 54 = .ok (.aload 7, 2) := by decide +kernel
theorem dX2_reachOf_56 : decode cX2_reachOf 56 = .ok (.getfield 89, 3) := by decide +kernel
theorem dX2_reachOf_59 : decode cX2_reachOf 59 = .ok (.ishr, 1) := by decide +kernel
theorem dX2_reachOf_60 : decode cX2_reachOf 60 = .ok (.iconst 1, 1) := by decide +kernel
theorem dX2_reachOf_61 : decode cX2_reachOf 61 = .ok (.iand, 1) := by decide +kernel
theorem dX2_reachOf_62 : decode cX2_reachOf 62 = .ok (.iconst 1, 1) := by decide +kernel
theorem dX2_reachOf_63 : decode cX2_reachOf 63 = .ok (.if_icmp .ne 25, 3) := by decide +kernel
theorem dX2_reachOf_66 : decode cX2_reachOf 66 = .ok (.aload 7, 2) := by decide +kernel
theorem dX2_reachOf_68 : decode cX2_reachOf 68 = .ok (.aload_n 1, 1) := by decide +kernel
theorem dX2_reachOf_69 : decode cX2_reachOf 69 = .ok (.getfield 94, 3) := by decide +kernel
theorem dX2_reachOf_72 : decode cX2_reachOf 72 = .ok (.invokevirtual 97, 3) := by decide +kernel
theorem dX2_reachOf_75 : decode cX2_reachOf 75 = .ok (.ifCond .eq 13, 3) := by decide +kernel
theorem dX2_reachOf_78 : decode cX2_reachOf 78 = .ok (.iload_n 3, 1) := by decide +kernel
theorem dX2_reachOf_79 : decode cX2_reachOf 79 = .ok (.iconst 1, 1) := by decide +kernel
theorem dX2_reachOf_80 : decode cX2_reachOf 80 = .ok (.aload 7, 2) := by decide +kernel
theorem dX2_reachOf_82 : decode cX2_reachOf 82 = .ok (.getfield 101, 3) := by decide +kernel
theorem dX2_reachOf_85 : decode cX2_reachOf 85 = .ok (.ishl, 1) := by decide +kernel
theorem dX2_reachOf_86 : decode cX2_reachOf 86 = .ok (.ior, 1) := by decide +kernel
theorem dX2_reachOf_87 : decode cX2_reachOf 87 = .ok (.istore_n 3, 1) := by decide +kernel
theorem dX2_reachOf_88 : decode cX2_reachOf 88 = .ok (.iinc 6 1, 3) := by decide +kernel
theorem dX2_reachOf_91 : decode cX2_reachOf 91 = .ok (.goto (-62), 3) := by decide +kernel
theorem dX2_reachOf_94 : decode cX2_reachOf 94 = .ok (.iload_n 3, 1) := by decide +kernel
theorem dX2_reachOf_95 : decode cX2_reachOf 95 = .ok (.iload 5, 2) := by decide +kernel
theorem dX2_reachOf_97 : decode cX2_reachOf 97 = .ok (.if_icmp .ne 5, 3) := by decide +kernel
theorem dX2_reachOf_100 : decode cX2_reachOf 100 = .ok (.iload_n 3, 1) := by decide +kernel
theorem dX2_reachOf_101 : decode cX2_reachOf 101 = .ok (.ireturn, 1) := by decide +kernel
theorem dX2_reachOf_102 : decode cX2_reachOf 102 = .ok (.iinc 4 1, 3) := by decide +kernel
theorem dX2_reachOf_105 : decode cX2_reachOf 105 = .ok (.goto (-89), 3) := by decide +kernel
theorem dX2_reachOf_108 : decode cX2_reachOf 108 = .ok (.iload_n 3, 1) := by decide +kernel
theorem dX2_reachOf_109 : decode cX2_reachOf 109 = .ok (.ireturn, 1) := by decide +kernel
theorem dX2_traceChain_0 : decode cX2_traceChain 0 = .ok (.aload_n 0, 1) := by decide +kernel
theorem dX2_traceChain_1 : decode cX2_traceChain 1 = .ok (.getfield 21, 3) := by decide +kernel
theorem dX2_traceChain_4 : decode cX2_traceChain 4 = .ok (.iconst (-1), 1) := by decide +kernel
theorem dX2_traceChain_5 : decode cX2_traceChain 5 = .ok (.invokestatic 104, 3) := by decide +kernel
theorem dX2_traceChain_8 : decode cX2_traceChain 8 = .ok (.aload_n 1, 1) := by decide +kernel
theorem dX2_traceChain_9 : decode cX2_traceChain 9 = .ok (.iload_n 2, 1) := by decide +kernel
theorem dX2_traceChain_10 : decode cX2_traceChain 10 = .ok (.invokevirtual 110, 3) := by decide +kernel
theorem dX2_traceChain_13 : decode cX2_traceChain 13 = .ok (.istore 4, 2) := by decide +kernel
theorem dX2_traceChain_15 : decode cX2_traceChain 15 = .ok (.iconst 1, 1) := by decide +kernel
theorem dX2_traceChain_16 : decode cX2_traceChain 16 = .ok (.iload 4, 2) := by decide +kernel
theorem dX2_traceChain_18 : decode cX2_traceChain 18 = .ok (.ishl, 1) := by decide +kernel
theorem dX2_traceChain_19 : decode cX2_traceChain 19 = .ok (.istore 5, 2) := by decide +kernel
theorem dX2_traceChain_21 : decode cX2_traceChain 21 = .ok (.aload_n 0, 1) := by decide +kernel
theorem dX2_traceChain_22 : decode cX2_traceChain 22 = .ok (.getfield 18, 3) := by decide +kernel
theorem dX2_traceChain_25 : decode cX2_traceChain 25 = .ok (.iconst 0, 1) := by decide +kernel
theorem dX2_traceChain_26 : decode cX2_traceChain 26 = .ok (.iload 4, 2) := by decide +kernel
theorem dX2_traceChain_28 : decode cX2_traceChain 28 = .ok (.iastore, 1) := by decide +kernel
theorem dX2_traceChain_29 : decode cX2_traceChain 29 = .ok (.iconst 1, 1) := by decide +kernel
theorem dX2_traceChain_30 : decode cX2_traceChain 30 = .ok (.istore 6, 2) := by decide +kernel
theorem dX2_traceChain_32 : decode cX2_traceChain 32 = .ok (.iconst 0, 1) := by decide +kernel
theorem dX2_traceChain_33 : decode cX2_traceChain 33 = .ok (.istore 7, 2) := by decide +kernel
theorem dX2_traceChain_35 : decode cX2_traceChain 35 = .ok (.iload 7, 2) := by decide +kernel
theorem dX2_traceChain_37 : decode cX2_traceChain 37 = .ok (.iload 6, 2) := by decide +kernel
theorem dX2_traceChain_39 : decode cX2_traceChain 39 = .ok (.if_icmp .ge 170, 3) := by decide +kernel
theorem dX2_traceChain_42 : decode cX2_traceChain 42 = .ok (.iload 7, 2) := by decide +kernel
theorem dX2_traceChain_44 : decode cX2_traceChain 44 = .ok (.bipush 12, 2) := by decide +kernel
theorem dX2_traceChain_46 : decode cX2_traceChain 46 = .ok (.if_icmp .ge 163, 3) := by decide +kernel
theorem dX2_traceChain_49 : decode cX2_traceChain 49 = .ok (.iconst 0, 1) := by decide +kernel
theorem dX2_traceChain_50 : decode cX2_traceChain 50 = .ok (.istore 8, 2) := by decide +kernel
theorem dX2_traceChain_52 : decode cX2_traceChain 52 = .ok (.iload 8, 2) := by decide +kernel
theorem dX2_traceChain_54 : decode cX2_traceChain 54 = .ok (.aload_n 0, 1) := by decide +kernel
theorem dX2_traceChain_55 : decode cX2_traceChain 55 = .ok (.getfield 27, 3) := by decide +kernel
theorem dX2_traceChain_58 : decode cX2_traceChain 58 = .ok (.getfield 82, 3) := by decide +kernel
theorem dX2_traceChain_61 : decode cX2_traceChain 61 = .ok (.if_icmp .ge 142, 3) := by decide +kernel
theorem dX2_traceChain_64 : decode cX2_traceChain 64 = .ok (.aload_n 0, 1) := by decide +kernel
theorem dX2_traceChain_65 : decode cX2_traceChain 65 = .ok (.getfield 27, 3) := by decide +kernel
theorem dX2_traceChain_68 : decode cX2_traceChain 68 = .ok (.getfield 85, 3) := by decide +kernel
theorem dX2_traceChain_71 : decode cX2_traceChain 71 = .ok (.iload 8, 2) := by decide +kernel
theorem dX2_traceChain_73 : decode cX2_traceChain 73 = .ok (.aaload, 1) := by decide +kernel
theorem dX2_traceChain_74 : decode cX2_traceChain 74 = .ok (.astore 9, 2) := by decide +kernel
theorem dX2_traceChain_76 : decode cX2_traceChain 76 = .ok (.aload 9, 2) := by decide +kernel
theorem dX2_traceChain_78 : decode cX2_traceChain 78 = .ok (.getfield 89, 3) := by decide +kernel
theorem dX2_traceChain_81 : decode cX2_traceChain 81 = .ok (.aload_n 0, 1) := by decide +kernel
theorem dX2_traceChain_82 : decode cX2_traceChain 82 = .ok (.getfield 18, 3) := by decide +kernel
theorem dX2_traceChain_85 : decode cX2_traceChain 85 = .ok (.iload 7, 2) := by decide +kernel
theorem dX2_traceChain_87 : decode cX2_traceChain 87 = .ok (.iaload, 1) := by decide +kernel
theorem dX2_traceChain_88 : decode cX2_traceChain 88 = .ok (.if_icmp .ne 19, 3) := by decide +kernel
theorem dX2_traceChain_91 : decode cX2_traceChain 91 = .ok (.aload 9, 2) := by decide +kernel
theorem dX2_traceChain_93 : decode cX2_traceChain 93 = .ok (.aload_n 1, 1) := by decide +kernel
theorem dX2_traceChain_94 : decode cX2_traceChain 94 = .ok (.getfield 94, 3) := by decide +kernel
theorem dX2_traceChain_97 : decode cX2_traceChain 97 = .ok (.invokevirtual 97, 3) := by decide +kernel
theorem dX2_traceChain_100 : decode cX2_traceChain 100 = .ok (.ifCond .eq 7, 3) := by decide +kernel
theorem dX2_traceChain_103 : decode cX2_traceChain 103 = .ok (.iconst 1, 1) := by decide +kernel
theorem dX2_traceChain_104 : decode cX2_traceChain 104 = .ok (.goto 4, 3) := by decide +kernel
theorem dX2_traceChain_107 : decode cX2_traceChain 107 = .ok (.iconst 0, 1) := by decide +kernel
theorem dX2_traceChain_108 : decode cX2_traceChain 108 = .ok (.istore 10, 2) := by decide +kernel
theorem dX2_traceChain_110 : decode cX2_traceChain 110 = .ok (.aload 9, 2) := by decide +kernel
theorem dX2_traceChain_112 : decode cX2_traceChain 112 = .ok (.getfield 101, 3) := by decide +kernel
theorem dX2_traceChain_115 : decode cX2_traceChain 115 = .ok (.invokestatic 113, 3) := by decide +kernel
theorem dX2_traceChain_118 : decode cX2_traceChain 118 = .ok (.ifCond .eq 20, 3) := by decide +kernel
theorem dX2_traceChain_121 : decode cX2_traceChain 121 = .ok (.iload 5, 2) := by decide +kernel
theorem dX2_traceChain_123 : decode cX2_traceChain 123 = .ok (.aload 9, 2) := by decide +kernel
theorem dX2_traceChain_125 : decode cX2_traceChain 125 = .ok (.getfield 101, 3) := by decide +kernel
theorem dX2_traceChain_128 : decode cX2_traceChain 128 = .ok (.ishr, 1) := by decide +kernel
theorem dX2_traceChain_129 : decode cX2_traceChain 129 = .ok (.iconst 1, 1) := by decide +kernel
theorem dX2_traceChain_130 : decode cX2_traceChain 130 = .ok (.iand, 1) := by decide +kernel
theorem dX2_traceChain_131 : decode cX2_traceChain 131 = .ok (.ifCond .ne 7, 3) := by decide +kernel
theorem dX2_traceChain_134 : decode cX2_traceChain 134 = .ok (.iconst 1, 1) := by decide +kernel
theorem dX2_traceChain_135 : decode cX2_traceChain 135 = .ok (.goto 4, 3) := by decide +kernel
theorem dX2_traceChain_138 : decode cX2_traceChain 138 = .ok (.iconst 0, 1) := by decide +kernel
theorem dX2_traceChain_139 : decode cX2_traceChain 139 = .ok (.istore 11, 2) := by decide +kernel
theorem dX2_traceChain_141 : decode cX2_traceChain 141 = .ok (.iload 10, 2) := by decide +kernel
theorem dX2_traceChain_143 : decode cX2_traceChain 143 = .ok (.ifCond .eq 54, 3) := by decide +kernel
theorem dX2_traceChain_146 : decode cX2_traceChain 146 = .ok (.iload 11, 2) := by decide +kernel
theorem dX2_traceChain_148 : decode cX2_traceChain 148 = .ok (.ifCond .eq 49, 3) := by decide +kernel
theorem dX2_traceChain_151 : decode cX2_traceChain 151 = .ok (.iload 6, 2) := by decide +kernel
theorem dX2_traceChain_153 : decode cX2_traceChain 153 = .ok (.bipush 12, 2) := by decide +kernel
theorem dX2_traceChain_155 : decode cX2_traceChain 155 = .ok (.if_icmp .ge 42, 3) := by decide +kernel
theorem dX2_traceChain_158 : decode cX2_traceChain 158 = .ok (.iload 5, 2) := by decide +kernel
theorem dX2_traceChain_160 : decode cX2_traceChain 160 = .ok (.iconst 1, 1) := by decide +kernel
theorem dX2_traceChain_161 : decode cX2_traceChain 161 = .ok (.aload 9, 2) := by decide +kernel
theorem dX2_traceChain_163 : decode cX2_traceChain 163 = .ok (.getfield 101, 3) := by decide +kernel
theorem dX2_traceChain_166 : decode cX2_traceChain 166 = .ok (.ishl, 1) := by decide +kernel
theorem dX2_traceChain_167 : decode cX2_traceChain 167 = .ok (.ior, 1) := by decide +kernel
theorem dX2_traceChain_168 : decode cX2_traceChain 168 = .ok (.istore 5, 2) := by decide +kernel
theorem dX2_traceChain_170 : decode cX2_traceChain 170 = .ok (.aload_n 0, 1) := by decide +kernel
theorem dX2_traceChain_171 : decode cX2_traceChain 171 = .ok (.getfield 21, 3) := by decide +kernel
theorem dX2_traceChain_174 : decode cX2_traceChain 174 = .ok (.aload 9, 2) := by decide +kernel
theorem dX2_traceChain_176 : decode cX2_traceChain 176 = .ok (.getfield 101, 3) := by decide +kernel
theorem dX2_traceChain_179 : decode cX2_traceChain 179 = .ok (.iload 8, 2) := by decide +kernel
theorem dX2_traceChain_181 : decode cX2_traceChain 181 = .ok (.iastore, 1) := by decide +kernel
theorem dX2_traceChain_182 : decode cX2_traceChain 182 = .ok (.aload_n 0, 1) := by decide +kernel
theorem dX2_traceChain_183 : decode cX2_traceChain 183 = .ok (.getfield 18, 3) := by decide +kernel
theorem dX2_traceChain_186 : decode cX2_traceChain 186 = .ok (.iload 6, 2) := by decide +kernel
theorem dX2_traceChain_188 : decode cX2_traceChain 188 = .ok (.aload 9, 2) := by decide +kernel
theorem dX2_traceChain_190 : decode cX2_traceChain 190 = .ok (.getfield 101, 3) := by decide +kernel
theorem dX2_traceChain_193 : decode cX2_traceChain 193 = .ok (.iastore, 1) := by decide +kernel
theorem dX2_traceChain_194 : decode cX2_traceChain 194 = .ok (.iinc 6 1, 3) := by decide +kernel
theorem dX2_traceChain_197 : decode cX2_traceChain 197 = .ok (.iinc 8 1, 3) := by decide +kernel
theorem dX2_traceChain_200 : decode cX2_traceChain 200 = .ok (.goto (-148), 3) := by decide +kernel
theorem dX2_traceChain_203 : decode cX2_traceChain 203 = .ok (.iinc 7 1, 3) := by decide +kernel
theorem dX2_traceChain_206 : decode cX2_traceChain 206 = .ok (.goto (-171), 3) := by decide +kernel
theorem dX2_traceChain_209 : decode cX2_traceChain 209 = .ok (.aload_n 0, 1) := by decide +kernel
theorem dX2_traceChain_210 : decode cX2_traceChain 210 = .ok (.iload_n 3, 1) := by decide +kernel
theorem dX2_traceChain_211 : decode cX2_traceChain 211 = .ok (.invokevirtual 116, 3) := by decide +kernel
theorem dX2_traceChain_214 : decode cX2_traceChain 214 = .ok (.ireturn, 1) := by decide +kernel
theorem dX2_goBack_0 : decode cX2_goBack 0 = .ok (.iconst 0, 1) := by decide +kernel
theorem dX2_goBack_1 : decode cX2_goBack 1 = .ok (.istore_n 2, 1) := by decide +kernel
theorem dX2_goBack_2 : decode cX2_goBack 2 = .ok (.aload_n 0, 1) := by decide +kernel
theorem dX2_goBack_3 : decode cX2_goBack 3 = .ok (.iload_n 1, 1) := by decide +kernel
theorem dX2_goBack_4 : decode cX2_goBack 4 = .ok (.invokevirtual 119, 3) := by decide +kernel
theorem dX2_goBack_7 : decode cX2_goBack 7 = .ok (.istore_n 3, 1) := by decide +kernel
theorem dX2_goBack_8 : decode cX2_goBack 8 = .ok (.iload_n 2, 1) := by decide +kernel
theorem dX2_goBack_9 : decode cX2_goBack 9 = .ok (.bipush 12, 2) := by decide +kernel
theorem dX2_goBack_11 : decode cX2_goBack 11 = .ok (.if_icmp .ge 48, 3) := by decide +kernel
theorem dX2_goBack_14 : decode cX2_goBack 14 = .ok (.iload_n 3, 1) := by decide +kernel
theorem dX2_goBack_15 : decode cX2_goBack 15 = .ok (.ifCond .lt 44, 3) := by decide +kernel
theorem dX2_goBack_18 : decode cX2_goBack 18 = .ok (.iload_n 3, 1) := by decide +kernel
theorem dX2_goBack_19 : decode cX2_goBack 19 = .ok (.aload_n 0, 1) := by decide +kernel
theorem dX2_goBack_20 : decode cX2_goBack 20 = .ok (.getfield 27, 3) := by decide +kernel
theorem dX2_goBack_23 : decode cX2_goBack 23 = .ok (.getfield 82, 3) := by decide +kernel
theorem dX2_goBack_26 : decode cX2_goBack 26 = .ok (.if_icmp .ge 33, 3) := by decide +kernel
theorem dX2_goBack_29 : decode cX2_goBack 29 = .ok (.aload_n 0, 1) := by decide +kernel
theorem dX2_goBack_30 : decode cX2_goBack 30 = .ok (.getfield 24, 3) := by decide +kernel
theorem dX2_goBack_33 : decode cX2_goBack 33 = .ok (.iload_n 2, 1) := by decide +kernel
theorem dX2_goBack_34 : decode cX2_goBack 34 = .ok (.iload_n 3, 1) := by decide +kernel
theorem dX2_goBack_35 : decode cX2_goBack 35 = .ok (.iastore, 1) := by decide +kernel
theorem dX2_goBack_36 : decode cX2_goBack 36 = .ok (.aload_n 0, 1) := by decide +kernel
theorem dX2_goBack_37 : decode cX2_goBack 37 = .ok (.aload_n 0, 1) := by decide +kernel
theorem dX2_goBack_38 : decode cX2_goBack 38 = .ok (.getfield 27, 3) := by decide +kernel
theorem dX2_goBack_41 : decode cX2_goBack 41 = .ok (.getfield 85, 3) := by decide +kernel
theorem dX2_goBack_44 : decode cX2_goBack 44 = .ok (.iload_n 3, 1) := by decide +kernel
theorem dX2_goBack_45 : decode cX2_goBack 45 = .ok (.aaload, 1) := by decide +kernel
theorem dX2_goBack_46 : decode cX2_goBack 46 = .ok (.getfield 89, 3) := by decide +kernel
theorem dX2_goBack_49 : decode cX2_goBack 49 = .ok (.invokevirtual 119, 3) := by decide +kernel
theorem dX2_goBack_52 : decode cX2_goBack 52 = .ok (.istore_n 3, 1) := by decide +kernel
theorem dX2_goBack_53 : decode cX2_goBack 53 = .ok (.iinc 2 1, 3) := by decide +kernel
theorem dX2_goBack_56 : decode cX2_goBack 56 = .ok (.goto (-48), 3) := by decide +kernel
theorem dX2_goBack_59 : decode cX2_goBack 59 = .ok (.iload_n 2, 1) := by decide +kernel
theorem dX2_goBack_60 : decode cX2_goBack 60 = .ok (.ireturn, 1) := by decide +kernel
theorem dX2_linkTo_0 : decode cX2_linkTo 0 = .ok (.iload_n 1, 1) := by decide +kernel
theorem dX2_linkTo_1 : decode cX2_linkTo 1 = .ok (.invokestatic 113, 3) := by decide +kernel
theorem dX2_linkTo_4 : decode cX2_linkTo 4 = .ok (.ifCond .eq 12, 3) := by decide +kernel
theorem dX2_linkTo_7 : decode cX2_linkTo 7 = .ok (.aload_n 0, 1) := by decide +kernel
theorem dX2_linkTo_8 : decode cX2_linkTo 8 = .ok (.getfield 21, 3) := by decide +kernel
theorem dX2_linkTo_11 : decode cX2_linkTo 11 = .ok (.iload_n 1, 1) := by decide +kernel
theorem dX2_linkTo_12 : decode cX2_linkTo 12 = .ok (.iaload, 1) := by decide +kernel
theorem dX2_linkTo_13 : decode cX2_linkTo 13 = .ok (.goto 4, 3) := by decide +kernel
theorem dX2_linkTo_16 : decode cX2_linkTo 16 = .ok (.iconst (-1), 1) := by decide +kernel
theorem dX2_linkTo_17 : decode cX2_linkTo 17 = .ok (.ireturn, 1) := by decide +kernel
theorem dX2_isPerson_0 : decode cX2_isPerson 0 = .ok (.iload_n 0, 1) := by decide +kernel
theorem dX2_isPerson_1 : decode cX2_isPerson 1 = .ok (.ifCond .lt 13, 3) := by decide +kernel
theorem dX2_isPerson_4 : decode cX2_isPerson 4 = .ok (.iload_n 0, 1) := by decide +kernel
theorem dX2_isPerson_5 : decode cX2_isPerson 5 = .ok (.bipush 12, 2) := by decide +kernel
theorem dX2_isPerson_7 : decode cX2_isPerson 7 = .ok (.if_icmp .ge 7, 3) := by decide +kernel
theorem dX2_isPerson_10 : decode cX2_isPerson 10 = .ok (.iconst 1, 1) := by decide +kernel
theorem dX2_isPerson_11 : decode cX2_isPerson 11 = .ok (.goto 4, 3) := by decide +kernel
theorem dX2_isPerson_14 : decode cX2_isPerson 14 = .ok (.iconst 0, 1) := by decide +kernel
theorem dX2_isPerson_15 : decode cX2_isPerson 15 = .ok (.ireturn, 1) := by decide +kernel
theorem dX2_chainLink_0 : decode cX2_chainLink 0 = .ok (.iload_n 1, 1) := by decide +kernel
theorem dX2_chainLink_1 : decode cX2_chainLink 1 = .ok (.iconst 1, 1) := by decide +kernel
theorem dX2_chainLink_2 : decode cX2_chainLink 2 = .ok (.isub, 1) := by decide +kernel
theorem dX2_chainLink_3 : decode cX2_chainLink 3 = .ok (.iload_n 2, 1) := by decide +kernel
theorem dX2_chainLink_4 : decode cX2_chainLink 4 = .ok (.isub, 1) := by decide +kernel
theorem dX2_chainLink_5 : decode cX2_chainLink 5 = .ok (.istore_n 3, 1) := by decide +kernel
theorem dX2_chainLink_6 : decode cX2_chainLink 6 = .ok (.iload_n 3, 1) := by decide +kernel
theorem dX2_chainLink_7 : decode cX2_chainLink 7 = .ok (.ifCond .lt 18, 3) := by decide +kernel
theorem dX2_chainLink_10 : decode cX2_chainLink 10 = .ok (.iload_n 3, 1) := by decide +kernel
theorem dX2_chainLink_11 : decode cX2_chainLink 11 = .ok (.bipush 12, 2) := by decide +kernel
theorem dX2_chainLink_13 : decode cX2_chainLink 13 = .ok (.if_icmp .ge 12, 3) := by decide +kernel
theorem dX2_chainLink_16 : decode cX2_chainLink 16 = .ok (.aload_n 0, 1) := by decide +kernel
theorem dX2_chainLink_17 : decode cX2_chainLink 17 = .ok (.getfield 24, 3) := by decide +kernel
theorem dX2_chainLink_20 : decode cX2_chainLink 20 = .ok (.iload_n 3, 1) := by decide +kernel
theorem dX2_chainLink_21 : decode cX2_chainLink 21 = .ok (.iaload, 1) := by decide +kernel
theorem dX2_chainLink_22 : decode cX2_chainLink 22 = .ok (.goto 4, 3) := by decide +kernel
theorem dX2_chainLink_25 : decode cX2_chainLink 25 = .ok (.iconst (-1), 1) := by decide +kernel
theorem dX2_chainLink_26 : decode cX2_chainLink 26 = .ok (.ireturn, 1) := by decide +kernel
theorem dX2_comesBehind_0 : decode cX2_comesBehind 0 = .ok (.aload_n 1, 1) := by decide +kernel
theorem dX2_comesBehind_1 : decode cX2_comesBehind 1 = .ok (.getfield 122, 3) := by decide +kernel
theorem dX2_comesBehind_4 : decode cX2_comesBehind 4 = .ok (.aload_n 2, 1) := by decide +kernel
theorem dX2_comesBehind_5 : decode cX2_comesBehind 5 = .ok (.getfield 122, 3) := by decide +kernel
theorem dX2_comesBehind_8 : decode cX2_comesBehind 8 = .ok (.if_icmp .eq 25, 3) := by decide +kernel
theorem dX2_comesBehind_11 : decode cX2_comesBehind 11 = .ok (.aload_n 2, 1) := by decide +kernel
theorem dX2_comesBehind_12 : decode cX2_comesBehind 12 = .ok (.invokevirtual 125, 3) := by decide +kernel
theorem dX2_comesBehind_15 : decode cX2_comesBehind 15 = .ok (.ifCond .eq 18, 3) := by decide +kernel
theorem dX2_comesBehind_18 : decode cX2_comesBehind 18 = .ok (.aload_n 1, 1) := by decide +kernel
theorem dX2_comesBehind_19 : decode cX2_comesBehind 19 = .ok (.getfield 128, 3) := by decide +kernel
theorem dX2_comesBehind_22 : decode cX2_comesBehind 22 = .ok (.aload_n 2, 1) := by decide +kernel
theorem dX2_comesBehind_23 : decode cX2_comesBehind 23 = .ok (.getfield 94, 3) := by decide +kernel
theorem dX2_comesBehind_26 : decode cX2_comesBehind 26 = .ok (.if_icmp .lt 7, 3) := by decide +kernel
theorem dX2_comesBehind_29 : decode cX2_comesBehind 29 = .ok (.iconst 1, 1) := by decide +kernel
theorem dX2_comesBehind_30 : decode cX2_comesBehind 30 = .ok (.goto 4, 3) := by decide +kernel
theorem dX2_comesBehind_33 : decode cX2_comesBehind 33 = .ok (.iconst 0, 1) := by decide +kernel
theorem dX2_comesBehind_34 : decode cX2_comesBehind 34 = .ok (.ireturn, 1) := by decide +kernel
theorem dX2_areSame_0 : decode cX2_areSame 0 = .ok (.aload_n 1, 1) := by decide +kernel
theorem dX2_areSame_1 : decode cX2_areSame 1 = .ok (.getfield 131, 3) := by decide +kernel
theorem dX2_areSame_4 : decode cX2_areSame 4 = .ok (.aload_n 2, 1) := by decide +kernel
theorem dX2_areSame_5 : decode cX2_areSame 5 = .ok (.getfield 131, 3) := by decide +kernel
theorem dX2_areSame_8 : decode cX2_areSame 8 = .ok (.iand, 1) := by decide +kernel
theorem dX2_areSame_9 : decode cX2_areSame 9 = .ok (.invokestatic 134, 3) := by decide +kernel
theorem dX2_areSame_12 : decode cX2_areSame 12 = .ok (.istore_n 3, 1) := by decide +kernel
theorem dX2_areSame_13 : decode cX2_areSame 13 = .ok (.aload_n 1, 1) := by decide +kernel
theorem dX2_areSame_14 : decode cX2_areSame 14 = .ok (.getfield 131, 3) := by decide +kernel
theorem dX2_areSame_17 : decode cX2_areSame 17 = .ok (.invokestatic 134, 3) := by decide +kernel
theorem dX2_areSame_20 : decode cX2_areSame 20 = .ok (.aload_n 2, 1) := by decide +kernel
theorem dX2_areSame_21 : decode cX2_areSame 21 = .ok (.getfield 131, 3) := by decide +kernel
theorem dX2_areSame_24 : decode cX2_areSame 24 = .ok (.invokestatic 134, 3) := by decide +kernel
theorem dX2_areSame_27 : decode cX2_areSame 27 = .ok (.invokestatic 139, 3) := by decide +kernel
theorem dX2_areSame_30 : decode cX2_areSame 30 = .ok (.istore 4, 2) := by decide +kernel
theorem dX2_areSame_32 : decode cX2_areSame 32 = .ok (.iload_n 3, 1) := by decide +kernel
theorem dX2_areSame_33 : decode cX2_areSame 33 = .ok (.ifCond .le 26, 3) := by decide +kernel
theorem dX2_areSame_36 : decode cX2_areSame 36 = .ok (.iload_n 3, 1) := by decide +kernel
theorem dX2_areSame_37 : decode cX2_areSame 37 = .ok (.bipush 100, 2) := by decide +kernel
theorem dX2_areSame_39 : decode cX2_areSame 39 = .ok (.imul, 1) := by decide +kernel
theorem dX2_areSame_40 : decode cX2_areSame 40 = .ok (.aload_n 0, 1) := by decide +kernel
theorem dX2_areSame_41 : decode cX2_areSame 41 = .ok (.getfield 27, 3) := by decide +kernel
theorem dX2_areSame_44 : decode cX2_areSame 44 = .ok (.getfield 41, 3) := by decide +kernel
theorem dX2_areSame_47 : decode cX2_areSame 47 = .ok (.iconst 0, 1) := by decide +kernel
theorem dX2_areSame_48 : decode cX2_areSame 48 = .ok (.iaload, 1) := by decide +kernel
theorem dX2_areSame_49 : decode cX2_areSame 49 = .ok (.iload 4, 2) := by decide +kernel
theorem dX2_areSame_51 : decode cX2_areSame 51 = .ok (.imul, 1) := by decide +kernel
theorem dX2_areSame_52 : decode cX2_areSame 52 = .ok (.if_icmp .lt 7, 3) := by decide +kernel
theorem dX2_areSame_55 : decode cX2_areSame 55 = .ok (.iconst 1, 1) := by decide +kernel
theorem dX2_areSame_56 : decode cX2_areSame 56 = .ok (.goto 4, 3) := by decide +kernel
theorem dX2_areSame_59 : decode cX2_areSame 59 = .ok (.iconst 0, 1) := by decide +kernel
theorem dX2_areSame_60 : decode cX2_areSame 60 = .ok (.ireturn, 1) := by decide +kernel
theorem dX2_barsWhatComes_0 : decode cX2_barsWhatComes 0 = .ok (.aload_n 1, 1) := by decide +kernel
theorem dX2_barsWhatComes_1 : decode cX2_barsWhatComes 1 = .ok (.getfield 145, 3) := by decide +kernel
theorem dX2_barsWhatComes_4 : decode cX2_barsWhatComes 4 = .ok (.ifCond .ne 5, 3) := by decide +kernel
theorem dX2_barsWhatComes_7 : decode cX2_barsWhatComes 7 = .ok (.iconst 0, 1) := by decide +kernel
theorem dX2_barsWhatComes_8 : decode cX2_barsWhatComes 8 = .ok (.ireturn, 1) := by decide +kernel
theorem dX2_barsWhatComes_9 : decode cX2_barsWhatComes 9 = .ok (.aload_n 1, 1) := by decide +kernel
theorem dX2_barsWhatComes_10 : decode cX2_barsWhatComes 10 = .ok (.getfield 69, 3) := by decide +kernel
theorem dX2_barsWhatComes_13 : decode cX2_barsWhatComes 13 = .ok (.istore_n 3, 1) := by decide +kernel
theorem dX2_barsWhatComes_14 : decode cX2_barsWhatComes 14 = .ok (.aload_n 1, 1) := by decide +kernel
theorem dX2_barsWhatComes_15 : decode cX2_barsWhatComes 15 = .ok (.getfield 75, 3) := by decide +kernel
theorem dX2_barsWhatComes_18 : decode cX2_barsWhatComes 18 = .ok (.istore 4, 2) := by decide +kernel
theorem dX2_barsWhatComes_20 : decode cX2_barsWhatComes 20 = .ok (.iload_n 3, 1) := by decide +kernel
theorem dX2_barsWhatComes_21 : decode cX2_barsWhatComes 21 = .ok (.aload_n 2, 1) := by decide +kernel
theorem dX2_barsWhatComes_22 : decode cX2_barsWhatComes 22 = .ok (.getfield 62, 3) := by decide +kernel
theorem dX2_barsWhatComes_25 : decode cX2_barsWhatComes 25 = .ok (.ishr, 1) := by decide +kernel
theorem dX2_barsWhatComes_26 : decode cX2_barsWhatComes 26 = .ok (.iload 4, 2) := by decide +kernel
theorem dX2_barsWhatComes_28 : decode cX2_barsWhatComes 28 = .ok (.aload_n 2, 1) := by decide +kernel
theorem dX2_barsWhatComes_29 : decode cX2_barsWhatComes 29 = .ok (.getfield 72, 3) := by decide +kernel
theorem dX2_barsWhatComes_32 : decode cX2_barsWhatComes 32 = .ok (.ishr, 1) := by decide +kernel
theorem dX2_barsWhatComes_33 : decode cX2_barsWhatComes 33 = .ok (.iand, 1) := by decide +kernel
theorem dX2_barsWhatComes_34 : decode cX2_barsWhatComes 34 = .ok (.iconst 1, 1) := by decide +kernel
theorem dX2_barsWhatComes_35 : decode cX2_barsWhatComes 35 = .ok (.iand, 1) := by decide +kernel
theorem dX2_barsWhatComes_36 : decode cX2_barsWhatComes 36 = .ok (.iconst 1, 1) := by decide +kernel
theorem dX2_barsWhatComes_37 : decode cX2_barsWhatComes 37 = .ok (.if_icmp .ne 7, 3) := by decide +kernel
theorem dX2_barsWhatComes_40 : decode cX2_barsWhatComes 40 = .ok (.iconst 1, 1) := by decide +kernel
theorem dX2_barsWhatComes_41 : decode cX2_barsWhatComes 41 = .ok (.goto 4, 3) := by decide +kernel
theorem dX2_barsWhatComes_44 : decode cX2_barsWhatComes 44 = .ok (.iconst 0, 1) := by decide +kernel
theorem dX2_barsWhatComes_45 : decode cX2_barsWhatComes 45 = .ok (.istore 5, 2) := by decide +kernel
theorem dX2_barsWhatComes_47 : decode cX2_barsWhatComes 47 = .ok (.iload 4, 2) := by decide +kernel
theorem dX2_barsWhatComes_49 : decode cX2_barsWhatComes 49 = .ok (.aload_n 2, 1) := by decide +kernel
theorem dX2_barsWhatComes_50 : decode cX2_barsWhatComes 50 = .ok (.getfield 62, 3) := by decide +kernel
theorem dX2_barsWhatComes_53 : decode cX2_barsWhatComes 53 = .ok (.ishr, 1) := by decide +kernel
theorem dX2_barsWhatComes_54 : decode cX2_barsWhatComes 54 = .ok (.iload_n 3, 1) := by decide +kernel
theorem dX2_barsWhatComes_55 : decode cX2_barsWhatComes 55 = .ok (.aload_n 2, 1) := by decide +kernel
theorem dX2_barsWhatComes_56 : decode cX2_barsWhatComes 56 = .ok (.getfield 72, 3) := by decide +kernel
theorem dX2_barsWhatComes_59 : decode cX2_barsWhatComes 59 = .ok (.ishr, 1) := by decide +kernel
theorem dX2_barsWhatComes_60 : decode cX2_barsWhatComes 60 = .ok (.iand, 1) := by decide +kernel
theorem dX2_barsWhatComes_61 : decode cX2_barsWhatComes 61 = .ok (.iconst 1, 1) := by decide +kernel
theorem dX2_barsWhatComes_62 : decode cX2_barsWhatComes 62 = .ok (.iand, 1) := by decide +kernel
theorem dX2_barsWhatComes_63 : decode cX2_barsWhatComes 63 = .ok (.iconst 1, 1) := by decide +kernel
theorem dX2_barsWhatComes_64 : decode cX2_barsWhatComes 64 = .ok (.if_icmp .ne 7, 3) := by decide +kernel
theorem dX2_barsWhatComes_67 : decode cX2_barsWhatComes 67 = .ok (.iconst 1, 1) := by decide +kernel
theorem dX2_barsWhatComes_68 : decode cX2_barsWhatComes 68 = .ok (.goto 4, 3) := by decide +kernel
theorem dX2_barsWhatComes_71 : decode cX2_barsWhatComes 71 = .ok (.iconst 0, 1) := by decide +kernel
theorem dX2_barsWhatComes_72 : decode cX2_barsWhatComes 72 = .ok (.istore 6, 2) := by decide +kernel
theorem dX2_barsWhatComes_74 : decode cX2_barsWhatComes 74 = .ok (.iload 5, 2) := by decide +kernel
theorem dX2_barsWhatComes_76 : decode cX2_barsWhatComes 76 = .ok (.ifCond .ne 21, 3) := by decide +kernel
theorem dX2_barsWhatComes_79 : decode cX2_barsWhatComes 79 = .ok (.iload 6, 2) := by decide +kernel
theorem dX2_barsWhatComes_81 : decode cX2_barsWhatComes 81 = .ok (.ifCond .eq 29, 3) := by decide +kernel
theorem dX2_barsWhatComes_84 : decode cX2_barsWhatComes 84 = .ok (.aload_n 0, 1) := by decide +kernel
theorem dX2_barsWhatComes_85 : decode cX2_barsWhatComes 85 = .ok (.getfield 27, 3) := by decide +kernel
theorem dX2_barsWhatComes_88 : decode cX2_barsWhatComes 88 = .ok (.getfield 41, 3) := by decide +kernel
theorem dX2_barsWhatComes_91 : decode cX2_barsWhatComes 91 = .ok (.iconst 1, 1) := by decide +kernel
theorem dX2_barsWhatComes_92 : decode cX2_barsWhatComes 92 = .ok (.iaload, 1) := by decide +kernel
theorem dX2_barsWhatComes_93 : decode cX2_barsWhatComes 93 = .ok (.iconst 2, 1) := by decide +kernel
theorem dX2_barsWhatComes_94 : decode cX2_barsWhatComes 94 = .ok (.if_icmp .ne 16, 3) := by decide +kernel
theorem dX2_barsWhatComes_97 : decode cX2_barsWhatComes 97 = .ok (.aload_n 0, 1) := by decide +kernel
theorem dX2_barsWhatComes_98 : decode cX2_barsWhatComes 98 = .ok (.aload_n 1, 1) := by decide +kernel
theorem dX2_barsWhatComes_99 : decode cX2_barsWhatComes 99 = .ok (.aload_n 2, 1) := by decide +kernel
theorem dX2_barsWhatComes_100 : decode cX2_barsWhatComes 100 = .ok (.invokevirtual 149, 3) := by decide +kernel
theorem dX2_barsWhatComes_103 : decode cX2_barsWhatComes 103 = .ok (.ifCond .eq 7, 3) := by decide +kernel
theorem dX2_barsWhatComes_106 : decode cX2_barsWhatComes 106 = .ok (.iconst 1, 1) := by decide +kernel
theorem dX2_barsWhatComes_107 : decode cX2_barsWhatComes 107 = .ok (.goto 4, 3) := by decide +kernel
theorem dX2_barsWhatComes_110 : decode cX2_barsWhatComes 110 = .ok (.iconst 0, 1) := by decide +kernel
theorem dX2_barsWhatComes_111 : decode cX2_barsWhatComes 111 = .ok (.ireturn, 1) := by decide +kernel
theorem dX2_barringSuits_0 : decode cX2_barringSuits 0 = .ok (.iconst 0, 1) := by decide +kernel
theorem dX2_barringSuits_1 : decode cX2_barringSuits 1 = .ok (.istore_n 2, 1) := by decide +kernel
theorem dX2_barringSuits_2 : decode cX2_barringSuits 2 = .ok (.iconst 0, 1) := by decide +kernel
theorem dX2_barringSuits_3 : decode cX2_barringSuits 3 = .ok (.istore_n 3, 1) := by decide +kernel
theorem dX2_barringSuits_4 : decode cX2_barringSuits 4 = .ok (.iload_n 3, 1) := by decide +kernel
theorem dX2_barringSuits_5 : decode cX2_barringSuits 5 = .ok (.aload_n 0, 1) := by decide +kernel
theorem dX2_barringSuits_6 : decode cX2_barringSuits 6 = .ok (.getfield 27, 3) := by decide +kernel
theorem dX2_barringSuits_9 : decode cX2_barringSuits 9 = .ok (.getfield 31, 3) := by decide +kernel
theorem dX2_barringSuits_12 : decode cX2_barringSuits 12 = .ok (.if_icmp .ge 46, 3) := by decide +kernel
theorem dX2_barringSuits_15 : decode cX2_barringSuits 15 = .ok (.aload_n 0, 1) := by decide +kernel
theorem dX2_barringSuits_16 : decode cX2_barringSuits 16 = .ok (.getfield 27, 3) := by decide +kernel
theorem dX2_barringSuits_19 : decode cX2_barringSuits 19 = .ok (.getfield 37, 3) := by decide +kernel
theorem dX2_barringSuits_22 : decode cX2_barringSuits 22 = .ok (.iload_n 3, 1) := by decide +kernel
theorem dX2_barringSuits_23 : decode cX2_barringSuits 23 = .ok (.aaload, 1) := by decide +kernel
theorem dX2_barringSuits_24 : decode cX2_barringSuits 24 = .ok (.astore 4, 2) := by decide +kernel
theorem dX2_barringSuits_26 : decode cX2_barringSuits 26 = .ok (.aload_n 0, 1) := by decide +kernel
theorem dX2_barringSuits_27 : decode cX2_barringSuits 27 = .ok (.aload_n 1, 1) := by decide +kernel
theorem dX2_barringSuits_28 : decode cX2_barringSuits 28 = .ok (.aload 4, 2) := by decide +kernel
theorem dX2_barringSuits_30 : decode cX2_barringSuits 30 = .ok (.invokevirtual 153, 3) := by decide +kernel
theorem dX2_barringSuits_33 : decode cX2_barringSuits 33 = .ok (.ifCond .eq 19, 3) := by decide +kernel
theorem dX2_barringSuits_36 : decode cX2_barringSuits 36 = .ok (.aload_n 0, 1) := by decide +kernel
theorem dX2_barringSuits_37 : decode cX2_barringSuits 37 = .ok (.aload 4, 2) := by decide +kernel
theorem dX2_barringSuits_39 : decode cX2_barringSuits 39 = .ok (.aload_n 1, 1) := by decide +kernel
theorem dX2_barringSuits_40 : decode cX2_barringSuits 40 = .ok (.invokevirtual 156, 3) := by decide +kernel
theorem dX2_barringSuits_43 : decode cX2_barringSuits 43 = .ok (.ifCond .eq 9, 3) := by decide +kernel
theorem dX2_barringSuits_46 : decode cX2_barringSuits 46 = .ok (.iload_n 2, 1) := by decide +kernel
theorem dX2_barringSuits_47 : decode cX2_barringSuits 47 = .ok (.iconst 1, 1) := by decide +kernel
theorem dX2_barringSuits_48 : decode cX2_barringSuits 48 = .ok (.iload_n 3, 1) := by decide +kernel
theorem dX2_barringSuits_49 : decode cX2_barringSuits 49 = .ok (.ishl, 1) := by decide +kernel
theorem dX2_barringSuits_50 : decode cX2_barringSuits 50 = .ok (.ior, 1) := by decide +kernel
theorem dX2_barringSuits_51 : decode cX2_barringSuits 51 = .ok (.istore_n 2, 1) := by decide +kernel
theorem dX2_barringSuits_52 : decode cX2_barringSuits 52 = .ok (.iinc 3 1, 3) := by decide +kernel
theorem dX2_barringSuits_55 : decode cX2_barringSuits 55 = .ok (.goto (-51), 3) := by decide +kernel
theorem dX2_barringSuits_58 : decode cX2_barringSuits 58 = .ok (.iload_n 2, 1) := by decide +kernel
theorem dX2_barringSuits_59 : decode cX2_barringSuits 59 = .ok (.ireturn, 1) := by decide +kernel
theorem dX2_lastFreeDay_0 : decode cX2_lastFreeDay 0 = .ok (.sipush 9999, 3) := by decide +kernel
theorem dX2_lastFreeDay_3 : decode cX2_lastFreeDay 3 = .ok (.istore_n 2, 1) := by decide +kernel
theorem dX2_lastFreeDay_4 : decode cX2_lastFreeDay 4 = .ok (.iconst 0, 1) := by decide +kernel
theorem dX2_lastFreeDay_5 : decode cX2_lastFreeDay 5 = .ok (.istore_n 3, 1) := by decide +kernel
theorem dX2_lastFreeDay_6 : decode cX2_lastFreeDay 6 = .ok (.iload_n 3, 1) := by decide +kernel
theorem dX2_lastFreeDay_7 : decode cX2_lastFreeDay 7 = .ok (.aload_n 0, 1) := by decide +kernel
theorem dX2_lastFreeDay_8 : decode cX2_lastFreeDay 8 = .ok (.getfield 27, 3) := by decide +kernel
theorem dX2_lastFreeDay_11 : decode cX2_lastFreeDay 11 = .ok (.getfield 31, 3) := by decide +kernel
theorem dX2_lastFreeDay_14 : decode cX2_lastFreeDay 14 = .ok (.if_icmp .ge 70, 3) := by decide +kernel
theorem dX2_lastFreeDay_17 : decode cX2_lastFreeDay 17 = .ok (.aload_n 0, 1) := by decide +kernel
theorem dX2_lastFreeDay_18 : decode cX2_lastFreeDay 18 = .ok (.getfield 27, 3) := by decide +kernel
theorem dX2_lastFreeDay_21 : decode cX2_lastFreeDay 21 = .ok (.getfield 37, 3) := by decide +kernel
theorem dX2_lastFreeDay_24 : decode cX2_lastFreeDay 24 = .ok (.iload_n 3, 1) := by decide +kernel
theorem dX2_lastFreeDay_25 : decode cX2_lastFreeDay 25 = .ok (.aaload, 1) := by decide +kernel
theorem dX2_lastFreeDay_26 : decode cX2_lastFreeDay 26 = .ok (.astore 4, 2) := by decide +kernel
theorem dX2_lastFreeDay_28 : decode cX2_lastFreeDay 28 = .ok (.iload_n 3, 1) := by decide +kernel
theorem dX2_lastFreeDay_29 : decode cX2_lastFreeDay 29 = .ok (.aload_n 1, 1) := by decide +kernel
theorem dX2_lastFreeDay_30 : decode cX2_lastFreeDay 30 = .ok (.getfield 122, 3) := by decide +kernel
theorem dX2_lastFreeDay_33 : decode cX2_lastFreeDay 33 = .ok (.if_icmp .eq 15, 3) := by decide +kernel
theorem dX2_lastFreeDay_36 : decode cX2_lastFreeDay 36 = .ok (.aload 4, 2) := by decide +kernel
theorem dX2_lastFreeDay_38 : decode cX2_lastFreeDay 38 = .ok (.invokevirtual 125, 3) := by decide +kernel
theorem dX2_lastFreeDay_41 : decode cX2_lastFreeDay 41 = .ok (.ifCond .eq 7, 3) := by decide +kernel
theorem dX2_lastFreeDay_44 : decode cX2_lastFreeDay 44 = .ok (.iconst 1, 1) := by decide +kernel
theorem dX2_lastFreeDay_45 : decode cX2_lastFreeDay 45 = .ok (.goto 4, 3) := by decide +kernel
theorem dX2_lastFreeDay_48 : decode cX2_lastFreeDay 48 = .ok (.iconst 0, 1) := by decide +kernel
theorem dX2_lastFreeDay_49 : decode cX2_lastFreeDay 49 = .ok (.istore 5, 2) := by decide +kernel
theorem dX2_lastFreeDay_51 : decode cX2_lastFreeDay 51 = .ok (.iload 5, 2) := by decide +kernel
theorem dX2_lastFreeDay_53 : decode cX2_lastFreeDay 53 = .ok (.ifCond .eq 25, 3) := by decide +kernel
theorem dX2_lastFreeDay_56 : decode cX2_lastFreeDay 56 = .ok (.aload_n 0, 1) := by decide +kernel
theorem dX2_lastFreeDay_57 : decode cX2_lastFreeDay 57 = .ok (.aload 4, 2) := by decide +kernel
theorem dX2_lastFreeDay_59 : decode cX2_lastFreeDay 59 = .ok (.aload_n 1, 1) := by decide +kernel
theorem dX2_lastFreeDay_60 : decode cX2_lastFreeDay 60 = .ok (.invokevirtual 156, 3) := by decide +kernel
theorem dX2_lastFreeDay_63 : decode cX2_lastFreeDay 63 = .ok (.ifCond .eq 15, 3) := by decide +kernel
theorem dX2_lastFreeDay_66 : decode cX2_lastFreeDay 66 = .ok (.iload_n 2, 1) := by decide +kernel
theorem dX2_lastFreeDay_67 : decode cX2_lastFreeDay 67 = .ok (.aload 4, 2) := by decide +kernel
theorem dX2_lastFreeDay_69 : decode cX2_lastFreeDay 69 = .ok (.getfield 94, 3) := by decide +kernel
theorem dX2_lastFreeDay_72 : decode cX2_lastFreeDay 72 = .ok (.iconst 1, 1) := by decide +kernel
theorem dX2_lastFreeDay_73 : decode cX2_lastFreeDay 73 = .ok (.isub, 1) := by decide +kernel
theorem dX2_lastFreeDay_74 : decode cX2_lastFreeDay 74 = .ok (.invokestatic 139, 3) := by decide +kernel
theorem dX2_lastFreeDay_77 : decode cX2_lastFreeDay 77 = .ok (.istore_n 2, 1) := by decide +kernel
theorem dX2_lastFreeDay_78 : decode cX2_lastFreeDay 78 = .ok (.iinc 3 1, 3) := by decide +kernel
theorem dX2_lastFreeDay_81 : decode cX2_lastFreeDay 81 = .ok (.goto (-75), 3) := by decide +kernel
theorem dX2_lastFreeDay_84 : decode cX2_lastFreeDay 84 = .ok (.iload_n 2, 1) := by decide +kernel
theorem dX2_lastFreeDay_85 : decode cX2_lastFreeDay 85 = .ok (.ireturn, 1) := by decide +kernel
theorem dX2_heldBy_0 : decode cX2_heldBy 0 = .ok (.aload_n 0, 1) := by decide +kernel
theorem dX2_heldBy_1 : decode cX2_heldBy 1 = .ok (.aload_n 2, 1) := by decide +kernel
theorem dX2_heldBy_2 : decode cX2_heldBy 2 = .ok (.aload_n 1, 1) := by decide +kernel
theorem dX2_heldBy_3 : decode cX2_heldBy 3 = .ok (.invokevirtual 153, 3) := by decide +kernel
theorem dX2_heldBy_6 : decode cX2_heldBy 6 = .ok (.ifCond .ne 5, 3) := by decide +kernel
theorem dX2_heldBy_9 : decode cX2_heldBy 9 = .ok (.iconst 0, 1) := by decide +kernel
theorem dX2_heldBy_10 : decode cX2_heldBy 10 = .ok (.ireturn, 1) := by decide +kernel
theorem dX2_heldBy_11 : decode cX2_heldBy 11 = .ok (.aload_n 1, 1) := by decide +kernel
theorem dX2_heldBy_12 : decode cX2_heldBy 12 = .ok (.getfield 53, 3) := by decide +kernel
theorem dX2_heldBy_15 : decode cX2_heldBy 15 = .ok (.istore_n 3, 1) := by decide +kernel
theorem dX2_heldBy_16 : decode cX2_heldBy 16 = .ok (.aload_n 1, 1) := by decide +kernel
theorem dX2_heldBy_17 : decode cX2_heldBy 17 = .ok (.getfield 59, 3) := by decide +kernel
theorem dX2_heldBy_20 : decode cX2_heldBy 20 = .ok (.istore 4, 2) := by decide +kernel
theorem dX2_heldBy_22 : decode cX2_heldBy 22 = .ok (.iconst 0, 1) := by decide +kernel
theorem dX2_heldBy_23 : decode cX2_heldBy 23 = .ok (.istore 5, 2) := by decide +kernel
theorem dX2_heldBy_25 : decode cX2_heldBy 25 = .ok (.aload_n 0, 1) := by decide +kernel
theorem dX2_heldBy_26 : decode cX2_heldBy 26 = .ok (.aload_n 1, 1) := by decide +kernel
theorem dX2_heldBy_27 : decode cX2_heldBy 27 = .ok (.aload_n 2, 1) := by decide +kernel
theorem dX2_heldBy_28 : decode cX2_heldBy 28 = .ok (.getfield 72, 3) := by decide +kernel
theorem dX2_heldBy_31 : decode cX2_heldBy 31 = .ok (.aload_n 2, 1) := by decide +kernel
theorem dX2_heldBy_32 : decode cX2_heldBy 32 = .ok (.getfield 62, 3) := by decide +kernel
theorem dX2_heldBy_35 : decode cX2_heldBy 35 = .ok (.iconst 0, 1) := by decide +kernel
theorem dX2_heldBy_36 : decode cX2_heldBy 36 = .ok (.invokevirtual 159, 3) := by decide +kernel
theorem dX2_heldBy_39 : decode cX2_heldBy 39 = .ok (.ifCond .eq 22, 3) := by decide +kernel
theorem dX2_heldBy_42 : decode cX2_heldBy 42 = .ok (.iload 5, 2) := by decide +kernel
theorem dX2_heldBy_44 : decode cX2_heldBy 44 = .ok (.aload_n 2, 1) := by decide +kernel
theorem dX2_heldBy_45 : decode cX2_heldBy 45 = .ok (.getfield 163, 3) := by decide +kernel
theorem dX2_heldBy_48 : decode cX2_heldBy 48 = .ok (.iload_n 3, 1) := by decide +kernel
theorem dX2_heldBy_49 : decode cX2_heldBy 49 = .ok (.iand, 1) := by decide +kernel
theorem dX2_heldBy_50 : decode cX2_heldBy 50 = .ok (.aload_n 2, 1) := by decide +kernel
theorem dX2_heldBy_51 : decode cX2_heldBy 51 = .ok (.getfield 166, 3) := by decide +kernel
theorem dX2_heldBy_54 : decode cX2_heldBy 54 = .ok (.iload 4, 2) := by decide +kernel
theorem dX2_heldBy_56 : decode cX2_heldBy 56 = .ok (.iand, 1) := by decide +kernel
theorem dX2_heldBy_57 : decode cX2_heldBy 57 = .ok (.ior, 1) := by decide +kernel
theorem dX2_heldBy_58 : decode cX2_heldBy 58 = .ok (.ior, 1) := by decide +kernel
theorem dX2_heldBy_59 : decode cX2_heldBy 59 = .ok (.istore 5, 2) := by decide +kernel
theorem dX2_heldBy_61 : decode cX2_heldBy 61 = .ok (.aload_n 0, 1) := by decide +kernel
theorem dX2_heldBy_62 : decode cX2_heldBy 62 = .ok (.aload_n 1, 1) := by decide +kernel
theorem dX2_heldBy_63 : decode cX2_heldBy 63 = .ok (.aload_n 2, 1) := by decide +kernel
theorem dX2_heldBy_64 : decode cX2_heldBy 64 = .ok (.getfield 62, 3) := by decide +kernel
theorem dX2_heldBy_67 : decode cX2_heldBy 67 = .ok (.aload_n 2, 1) := by decide +kernel
theorem dX2_heldBy_68 : decode cX2_heldBy 68 = .ok (.getfield 72, 3) := by decide +kernel
theorem dX2_heldBy_71 : decode cX2_heldBy 71 = .ok (.iconst 1, 1) := by decide +kernel
theorem dX2_heldBy_72 : decode cX2_heldBy 72 = .ok (.invokevirtual 159, 3) := by decide +kernel
theorem dX2_heldBy_75 : decode cX2_heldBy 75 = .ok (.ifCond .eq 22, 3) := by decide +kernel
theorem dX2_heldBy_78 : decode cX2_heldBy 78 = .ok (.iload 5, 2) := by decide +kernel
theorem dX2_heldBy_80 : decode cX2_heldBy 80 = .ok (.aload_n 2, 1) := by decide +kernel
theorem dX2_heldBy_81 : decode cX2_heldBy 81 = .ok (.getfield 163, 3) := by decide +kernel
theorem dX2_heldBy_84 : decode cX2_heldBy 84 = .ok (.iload 4, 2) := by decide +kernel
theorem dX2_heldBy_86 : decode cX2_heldBy 86 = .ok (.iand, 1) := by decide +kernel
theorem dX2_heldBy_87 : decode cX2_heldBy 87 = .ok (.aload_n 2, 1) := by decide +kernel
theorem dX2_heldBy_88 : decode cX2_heldBy 88 = .ok (.getfield 166, 3) := by decide +kernel
theorem dX2_heldBy_91 : decode cX2_heldBy 91 = .ok (.iload_n 3, 1) := by decide +kernel
theorem dX2_heldBy_92 : decode cX2_heldBy 92 = .ok (.iand, 1) := by decide +kernel
theorem dX2_heldBy_93 : decode cX2_heldBy 93 = .ok (.ior, 1) := by decide +kernel
theorem dX2_heldBy_94 : decode cX2_heldBy 94 = .ok (.ior, 1) := by decide +kernel
theorem dX2_heldBy_95 : decode cX2_heldBy 95 = .ok (.istore 5, 2) := by decide +kernel
theorem dX2_heldBy_97 : decode cX2_heldBy 97 = .ok (.iload 5, 2) := by decide +kernel
theorem dX2_heldBy_99 : decode cX2_heldBy 99 = .ok (.ireturn, 1) := by decide +kernel
theorem dX2_holdsAgainst_0 : decode cX2_holdsAgainst 0 = .ok (.aload_n 1, 1) := by decide +kernel
theorem dX2_holdsAgainst_1 : decode cX2_holdsAgainst 1 = .ok (.getfield 69, 3) := by decide +kernel
theorem dX2_holdsAgainst_4 : decode cX2_holdsAgainst 4 = .ok (.istore 5, 2) := by decide +kernel
theorem dX2_holdsAgainst_6 : decode cX2_holdsAgainst 6 = .ok (.aload_n 1, 1) := by decide +kernel
theorem dX2_holdsAgainst_7 : decode cX2_holdsAgainst 7 = .ok (.getfield 75, 3) := by decide +kernel
theorem dX2_holdsAgainst_10 : decode cX2_holdsAgainst 10 = .ok (.istore 6, 2) := by decide +kernel
theorem dX2_holdsAgainst_12 : decode cX2_holdsAgainst 12 = .ok (.iload 5, 2) := by decide +kernel
theorem dX2_holdsAgainst_14 : decode cX2_holdsAgainst 14 = .ok (.iload 6, 2) := by decide +kernel
theorem dX2_holdsAgainst_16 : decode cX2_holdsAgainst 16 = .ok (.ior, 1) := by decide +kernel
theorem dX2_holdsAgainst_17 : decode cX2_holdsAgainst 17 = .ok (.iload_n 2, 1) := by decide +kernel
theorem dX2_holdsAgainst_18 : decode cX2_holdsAgainst 18 = .ok (.ishr, 1) := by decide +kernel
theorem dX2_holdsAgainst_19 : decode cX2_holdsAgainst 19 = .ok (.iconst 1, 1) := by decide +kernel
theorem dX2_holdsAgainst_20 : decode cX2_holdsAgainst 20 = .ok (.iand, 1) := by decide +kernel
theorem dX2_holdsAgainst_21 : decode cX2_holdsAgainst 21 = .ok (.ifCond .ne 5, 3) := by decide +kernel
theorem dX2_holdsAgainst_24 : decode cX2_holdsAgainst 24 = .ok (.iconst 0, 1) := by decide +kernel
theorem dX2_holdsAgainst_25 : decode cX2_holdsAgainst 25 = .ok (.ireturn, 1) := by decide +kernel
theorem dX2_holdsAgainst_26 : decode cX2_holdsAgainst 26 = .ok (.aload_n 0, 1) := by decide +kernel
theorem dX2_holdsAgainst_27 : decode cX2_holdsAgainst 27 = .ok (.getfield 27, 3) := by decide +kernel
theorem dX2_holdsAgainst_30 : decode cX2_holdsAgainst 30 = .ok (.getfield 41, 3) := by decide +kernel
theorem dX2_holdsAgainst_33 : decode cX2_holdsAgainst 33 = .ok (.iconst 1, 1) := by decide +kernel
theorem dX2_holdsAgainst_34 : decode cX2_holdsAgainst 34 = .ok (.iaload, 1) := by decide +kernel
theorem dX2_holdsAgainst_35 : decode cX2_holdsAgainst 35 = .ok (.istore 7, 2) := by decide +kernel
theorem dX2_holdsAgainst_37 : decode cX2_holdsAgainst 37 = .ok (.iload 7, 2) := by decide +kernel
theorem dX2_holdsAgainst_39 : decode cX2_holdsAgainst 39 = .ok (.iconst 2, 1) := by decide +kernel
theorem dX2_holdsAgainst_40 : decode cX2_holdsAgainst 40 = .ok (.if_icmp .eq 14, 3) := by decide +kernel
theorem dX2_holdsAgainst_43 : decode cX2_holdsAgainst 43 = .ok (.iload 7, 2) := by decide +kernel
theorem dX2_holdsAgainst_45 : decode cX2_holdsAgainst 45 = .ok (.iconst 1, 1) := by decide +kernel
theorem dX2_holdsAgainst_46 : decode cX2_holdsAgainst 46 = .ok (.if_icmp .ne 10, 3) := by decide +kernel
theorem dX2_holdsAgainst_49 : decode cX2_holdsAgainst 49 = .ok (.iload 4, 2) := by decide +kernel
theorem dX2_holdsAgainst_51 : decode cX2_holdsAgainst 51 = .ok (.ifCond .eq 5, 3) := by decide +kernel
theorem dX2_holdsAgainst_54 : decode cX2_holdsAgainst 54 = .ok (.iconst 1, 1) := by decide +kernel
theorem dX2_holdsAgainst_55 : decode cX2_holdsAgainst 55 = .ok (.ireturn, 1) := by decide +kernel
theorem dX2_holdsAgainst_56 : decode cX2_holdsAgainst 56 = .ok (.iload 5, 2) := by decide +kernel
theorem dX2_holdsAgainst_58 : decode cX2_holdsAgainst 58 = .ok (.iload_n 2, 1) := by decide +kernel
theorem dX2_holdsAgainst_59 : decode cX2_holdsAgainst 59 = .ok (.ishr, 1) := by decide +kernel
theorem dX2_holdsAgainst_60 : decode cX2_holdsAgainst 60 = .ok (.iload 6, 2) := by decide +kernel
theorem dX2_holdsAgainst_62 : decode cX2_holdsAgainst 62 = .ok (.iload_n 3, 1) := by decide +kernel
theorem dX2_holdsAgainst_63 : decode cX2_holdsAgainst 63 = .ok (.ishr, 1) := by decide +kernel
theorem dX2_holdsAgainst_64 : decode cX2_holdsAgainst 64 = .ok (.iand, 1) := by decide +kernel
theorem dX2_holdsAgainst_65 : decode cX2_holdsAgainst 65 = .ok (.iload 6, 2) := by decide +kernel
theorem dX2_holdsAgainst_67 : decode cX2_holdsAgainst 67 = .ok (.iload_n 2, 1) := by decide +kernel
theorem dX2_holdsAgainst_68 : decode cX2_holdsAgainst 68 = .ok (.ishr, 1) := by decide +kernel
theorem dX2_holdsAgainst_69 : decode cX2_holdsAgainst 69 = .ok (.iload 5, 2) := by decide +kernel
theorem dX2_holdsAgainst_71 : decode cX2_holdsAgainst 71 = .ok (.iload_n 3, 1) := by decide +kernel
theorem dX2_holdsAgainst_72 : decode cX2_holdsAgainst 72 = .ok (.ishr, 1) := by decide +kernel
theorem dX2_holdsAgainst_73 : decode cX2_holdsAgainst 73 = .ok (.iand, 1) := by decide +kernel
theorem dX2_holdsAgainst_74 : decode cX2_holdsAgainst 74 = .ok (.ior, 1) := by decide +kernel
theorem dX2_holdsAgainst_75 : decode cX2_holdsAgainst 75 = .ok (.iconst 1, 1) := by decide +kernel
theorem dX2_holdsAgainst_76 : decode cX2_holdsAgainst 76 = .ok (.iand, 1) := by decide +kernel
theorem dX2_holdsAgainst_77 : decode cX2_holdsAgainst 77 = .ok (.iconst 1, 1) := by decide +kernel
theorem dX2_holdsAgainst_78 : decode cX2_holdsAgainst 78 = .ok (.if_icmp .ne 7, 3) := by decide +kernel
theorem dX2_holdsAgainst_81 : decode cX2_holdsAgainst 81 = .ok (.iconst 1, 1) := by decide +kernel
theorem dX2_holdsAgainst_82 : decode cX2_holdsAgainst 82 = .ok (.goto 4, 3) := by decide +kernel
theorem dX2_holdsAgainst_85 : decode cX2_holdsAgainst 85 = .ok (.iconst 0, 1) := by decide +kernel
theorem dX2_holdsAgainst_86 : decode cX2_holdsAgainst 86 = .ok (.ireturn, 1) := by decide +kernel
theorem dX2_weigh_0 : decode cX2_weigh 0 = .ok (.aload_n 0, 1) := by decide +kernel
theorem dX2_weigh_1 : decode cX2_weigh 1 = .ok (.getfield 9, 3) := by decide +kernel
theorem dX2_weigh_4 : decode cX2_weigh 4 = .ok (.iconst (-1), 1) := by decide +kernel
theorem dX2_weigh_5 : decode cX2_weigh 5 = .ok (.invokestatic 104, 3) := by decide +kernel
theorem dX2_weigh_8 : decode cX2_weigh 8 = .ok (.aload_n 0, 1) := by decide +kernel
theorem dX2_weigh_9 : decode cX2_weigh 9 = .ok (.iconst 0, 1) := by decide +kernel
theorem dX2_weigh_10 : decode cX2_weigh 10 = .ok (.putfield 169, 3) := by decide +kernel
theorem dX2_weigh_13 : decode cX2_weigh 13 = .ok (.aload_n 0, 1) := by decide +kernel
theorem dX2_weigh_14 : decode cX2_weigh 14 = .ok (.iconst 0, 1) := by decide +kernel
theorem dX2_weigh_15 : decode cX2_weigh 15 = .ok (.putfield 172, 3) := by decide +kernel
theorem dX2_weigh_18 : decode cX2_weigh 18 = .ok (.iconst 0, 1) := by decide +kernel
theorem dX2_weigh_19 : decode cX2_weigh 19 = .ok (.istore_n 2, 1) := by decide +kernel
theorem dX2_weigh_20 : decode cX2_weigh 20 = .ok (.iload_n 2, 1) := by decide +kernel
theorem dX2_weigh_21 : decode cX2_weigh 21 = .ok (.aload_n 0, 1) := by decide +kernel
theorem dX2_weigh_22 : decode cX2_weigh 22 = .ok (.getfield 27, 3) := by decide +kernel
theorem dX2_weigh_25 : decode cX2_weigh 25 = .ok (.getfield 31, 3) := by decide +kernel
theorem dX2_weigh_28 : decode cX2_weigh 28 = .ok (.if_icmp .ge 76, 3) := by decide +kernel
theorem dX2_weigh_31 : decode cX2_weigh 31 = .ok (.aload_n 0, 1) := by decide +kernel
theorem dX2_weigh_32 : decode cX2_weigh 32 = .ok (.getfield 27, 3) := by decide +kernel
theorem dX2_weigh_35 : decode cX2_weigh 35 = .ok (.getfield 37, 3) := by decide +kernel
theorem dX2_weigh_38 : decode cX2_weigh 38 = .ok (.iload_n 2, 1) := by decide +kernel
theorem dX2_weigh_39 : decode cX2_weigh 39 = .ok (.aaload, 1) := by decide +kernel
theorem dX2_weigh_40 : decode cX2_weigh 40 = .ok (.astore_n 3, 1) := by decide +kernel
theorem dX2_weigh_41 : decode cX2_weigh 41 = .ok (.aload_n 0, 1) := by decide +kernel
theorem dX2_weigh_42 : decode cX2_weigh 42 = .ok (.aload_n 3, 1) := by decide +kernel
theorem dX2_weigh_43 : decode cX2_weigh 43 = .ok (.aload_n 1, 1) := by decide +kernel
theorem dX2_weigh_44 : decode cX2_weigh 44 = .ok (.invokevirtual 175, 3) := by decide +kernel
theorem dX2_weigh_47 : decode cX2_weigh 47 = .ok (.istore 4, 2) := by decide +kernel
theorem dX2_weigh_49 : decode cX2_weigh 49 = .ok (.iconst 0, 1) := by decide +kernel
theorem dX2_weigh_50 : decode cX2_weigh 50 = .ok (.istore 5, 2) := by decide +kernel
theorem dX2_weigh_52 : decode cX2_weigh 52 = .ok (.iload 5, 2) := by decide +kernel
theorem dX2_weigh_54 : decode cX2_weigh 54 = .ok (.bipush 31, 2) := by decide +kernel
theorem dX2_weigh_56 : decode cX2_weigh 56 = .ok (.if_icmp .ge 42, 3) := by decide +kernel
theorem dX2_weigh_59 : decode cX2_weigh 59 = .ok (.iload 4, 2) := by decide +kernel
theorem dX2_weigh_61 : decode cX2_weigh 61 = .ok (.ifCond .eq 37, 3) := by decide +kernel
theorem dX2_weigh_64 : decode cX2_weigh 64 = .ok (.iload 4, 2) := by decide +kernel
theorem dX2_weigh_66 : decode cX2_weigh 66 = .ok (.iload 5, 2) := by decide +kernel
theorem dX2_weigh_68 : decode cX2_weigh 68 = .ok (.ishr, 1) := by decide +kernel
theorem dX2_weigh_69 : decode cX2_weigh 69 = .ok (.iconst 1, 1) := by decide +kernel
theorem dX2_weigh_70 : decode cX2_weigh 70 = .ok (.iand, 1) := by decide +kernel
theorem dX2_weigh_71 : decode cX2_weigh 71 = .ok (.iconst 1, 1) := by decide +kernel
theorem dX2_weigh_72 : decode cX2_weigh 72 = .ok (.if_icmp .ne 20, 3) := by decide +kernel
theorem dX2_weigh_75 : decode cX2_weigh 75 = .ok (.aload_n 0, 1) := by decide +kernel
theorem dX2_weigh_76 : decode cX2_weigh 76 = .ok (.aload_n 3, 1) := by decide +kernel
theorem dX2_weigh_77 : decode cX2_weigh 77 = .ok (.iload 5, 2) := by decide +kernel
theorem dX2_weigh_79 : decode cX2_weigh 79 = .ok (.invokevirtual 179, 3) := by decide +kernel
theorem dX2_weigh_82 : decode cX2_weigh 82 = .ok (.ifCond .eq 10, 3) := by decide +kernel
theorem dX2_weigh_85 : decode cX2_weigh 85 = .ok (.aload_n 0, 1) := by decide +kernel
theorem dX2_weigh_86 : decode cX2_weigh 86 = .ok (.aload_n 3, 1) := by decide +kernel
theorem dX2_weigh_87 : decode cX2_weigh 87 = .ok (.iload 5, 2) := by decide +kernel
theorem dX2_weigh_89 : decode cX2_weigh 89 = .ok (.invokevirtual 183, 3) := by decide +kernel
theorem dX2_weigh_92 : decode cX2_weigh 92 = .ok (.iinc 5 1, 3) := by decide +kernel
theorem dX2_weigh_95 : decode cX2_weigh 95 = .ok (.goto (-43), 3) := by decide +kernel
theorem dX2_weigh_98 : decode cX2_weigh 98 = .ok (.iinc 2 1, 3) := by decide +kernel
theorem dX2_weigh_101 : decode cX2_weigh 101 = .ok (.goto (-81), 3) := by decide +kernel
theorem dX2_weigh_104 : decode cX2_weigh 104 = .ok (.return_, 1) := by decide +kernel
theorem dX2_countsOverHolder_0 : decode cX2_countsOverHolder 0 = .ok (.aload_n 0, 1) := by decide +kernel
theorem dX2_countsOverHolder_1 : decode cX2_countsOverHolder 1 = .ok (.getfield 9, 3) := by decide +kernel
theorem dX2_countsOverHolder_4 : decode cX2_countsOverHolder 4 = .ok (.iload_n 2, 1) := by decide +kernel
theorem dX2_countsOverHolder_5 : decode cX2_countsOverHolder 5 = .ok (.iaload, 1) := by decide +kernel
theorem dX2_countsOverHolder_6 : decode cX2_countsOverHolder 6 = .ok (.istore_n 3, 1) := by decide +kernel
theorem dX2_countsOverHolder_7 : decode cX2_countsOverHolder 7 = .ok (.iload_n 3, 1) := by decide +kernel
theorem dX2_countsOverHolder_8 : decode cX2_countsOverHolder 8 = .ok (.ifCond .lt 14, 3) := by decide +kernel
theorem dX2_countsOverHolder_11 : decode cX2_countsOverHolder 11 = .ok (.iload_n 3, 1) := by decide +kernel
theorem dX2_countsOverHolder_12 : decode cX2_countsOverHolder 12 = .ok (.aload_n 0, 1) := by decide +kernel
theorem dX2_countsOverHolder_13 : decode cX2_countsOverHolder 13 = .ok (.getfield 27, 3) := by decide +kernel
theorem dX2_countsOverHolder_16 : decode cX2_countsOverHolder 16 = .ok (.getfield 31, 3) := by decide +kernel
theorem dX2_countsOverHolder_19 : decode cX2_countsOverHolder 19 = .ok (.if_icmp .lt 7, 3) := by decide +kernel
theorem dX2_countsOverHolder_22 : decode cX2_countsOverHolder 22 = .ok (.iconst 1, 1) := by decide +kernel
theorem dX2_countsOverHolder_23 : decode cX2_countsOverHolder 23 = .ok (.goto 4, 3) := by decide +kernel
theorem dX2_countsOverHolder_26 : decode cX2_countsOverHolder 26 = .ok (.iconst 0, 1) := by decide +kernel
theorem dX2_countsOverHolder_27 : decode cX2_countsOverHolder 27 = .ok (.istore 4, 2) := by decide +kernel
theorem dX2_countsOverHolder_29 : decode cX2_countsOverHolder 29 = .ok (.iload 4, 2) := by decide +kernel
theorem dX2_countsOverHolder_31 : decode cX2_countsOverHolder 31 = .ok (.ifCond .ne 22, 3) := by decide +kernel
theorem dX2_countsOverHolder_34 : decode cX2_countsOverHolder 34 = .ok (.aload_n 1, 1) := by decide +kernel
theorem dX2_countsOverHolder_35 : decode cX2_countsOverHolder 35 = .ok (.getfield 94, 3) := by decide +kernel
theorem dX2_countsOverHolder_38 : decode cX2_countsOverHolder 38 = .ok (.aload_n 0, 1) := by decide +kernel
theorem dX2_countsOverHolder_39 : decode cX2_countsOverHolder 39 = .ok (.getfield 27, 3) := by decide +kernel
theorem dX2_countsOverHolder_42 : decode cX2_countsOverHolder 42 = .ok (.getfield 37, 3) := by decide +kernel
theorem dX2_countsOverHolder_45 : decode cX2_countsOverHolder 45 = .ok (.iload_n 3, 1) := by decide +kernel
theorem dX2_countsOverHolder_46 : decode cX2_countsOverHolder 46 = .ok (.aaload, 1) := by decide +kernel
theorem dX2_countsOverHolder_47 : decode cX2_countsOverHolder 47 = .ok (.getfield 94, 3) := by decide +kernel
theorem dX2_countsOverHolder_50 : decode cX2_countsOverHolder 50 = .ok (.if_icmp .lt 7, 3) := by decide +kernel
theorem dX2_countsOverHolder_53 : decode cX2_countsOverHolder 53 = .ok (.iconst 1, 1) := by decide +kernel
theorem dX2_countsOverHolder_54 : decode cX2_countsOverHolder 54 = .ok (.goto 4, 3) := by decide +kernel
theorem dX2_countsOverHolder_57 : decode cX2_countsOverHolder 57 = .ok (.iconst 0, 1) := by decide +kernel
theorem dX2_countsOverHolder_58 : decode cX2_countsOverHolder 58 = .ok (.ireturn, 1) := by decide +kernel
theorem dX2_setHolder_0 : decode cX2_setHolder 0 = .ok (.iconst 1, 1) := by decide +kernel
theorem dX2_setHolder_1 : decode cX2_setHolder 1 = .ok (.iload_n 2, 1) := by decide +kernel
theorem dX2_setHolder_2 : decode cX2_setHolder 2 = .ok (.ishl, 1) := by decide +kernel
theorem dX2_setHolder_3 : decode cX2_setHolder 3 = .ok (.istore_n 3, 1) := by decide +kernel
theorem dX2_setHolder_4 : decode cX2_setHolder 4 = .ok (.aload_n 0, 1) := by decide +kernel
theorem dX2_setHolder_5 : decode cX2_setHolder 5 = .ok (.getfield 9, 3) := by decide +kernel
theorem dX2_setHolder_8 : decode cX2_setHolder 8 = .ok (.iload_n 2, 1) := by decide +kernel
theorem dX2_setHolder_9 : decode cX2_setHolder 9 = .ok (.aload_n 1, 1) := by decide +kernel
theorem dX2_setHolder_10 : decode cX2_setHolder 10 = .ok (.getfield 122, 3) := by decide +kernel
theorem dX2_setHolder_13 : decode cX2_setHolder 13 = .ok (.iastore, 1) := by decide +kernel
theorem dX2_setHolder_14 : decode cX2_setHolder 14 = .ok (.aload_n 0, 1) := by decide +kernel
theorem dX2_setHolder_15 : decode cX2_setHolder 15 = .ok (.aload_n 0, 1) := by decide +kernel
theorem dX2_setHolder_16 : decode cX2_setHolder 16 = .ok (.getfield 169, 3) := by decide +kernel
theorem dX2_setHolder_19 : decode cX2_setHolder 19 = .ok (.iload_n 3, 1) := by decide +kernel
theorem dX2_setHolder_20 : decode cX2_setHolder 20 = .ok (.iconst (-1), 1) := by decide +kernel
theorem dX2_setHolder_21 : decode cX2_setHolder 21 = .ok (.ixor, 1) := by decide +kernel
theorem dX2_setHolder_22 : decode cX2_setHolder 22 = .ok (.iand, 1) := by decide +kernel
theorem dX2_setHolder_23 : decode cX2_setHolder 23 = .ok (.aload_n 1, 1) := by decide +kernel
theorem dX2_setHolder_24 : decode cX2_setHolder 24 = .ok (.getfield 50, 3) := by decide +kernel
theorem dX2_setHolder_27 : decode cX2_setHolder 27 = .ok (.iload_n 3, 1) := by decide +kernel
theorem dX2_setHolder_28 : decode cX2_setHolder 28 = .ok (.iand, 1) := by decide +kernel
theorem dX2_setHolder_29 : decode cX2_setHolder 29 = .ok (.ior, 1) := by decide +kernel
theorem dX2_setHolder_30 : decode cX2_setHolder 30 = .ok (.putfield 169, 3) := by decide +kernel
theorem dX2_setHolder_33 : decode cX2_setHolder 33 = .ok (.aload_n 0, 1) := by decide +kernel
theorem dX2_setHolder_34 : decode cX2_setHolder 34 = .ok (.aload_n 0, 1) := by decide +kernel
theorem dX2_setHolder_35 : decode cX2_setHolder 35 = .ok (.getfield 172, 3) := by decide +kernel
theorem dX2_setHolder_38 : decode cX2_setHolder 38 = .ok (.iload_n 3, 1) := by decide +kernel
theorem dX2_setHolder_39 : decode cX2_setHolder 39 = .ok (.iconst (-1), 1) := by decide +kernel
theorem dX2_setHolder_40 : decode cX2_setHolder 40 = .ok (.ixor, 1) := by decide +kernel
theorem dX2_setHolder_41 : decode cX2_setHolder 41 = .ok (.iand, 1) := by decide +kernel
theorem dX2_setHolder_42 : decode cX2_setHolder 42 = .ok (.aload_n 1, 1) := by decide +kernel
theorem dX2_setHolder_43 : decode cX2_setHolder 43 = .ok (.getfield 56, 3) := by decide +kernel
theorem dX2_setHolder_46 : decode cX2_setHolder 46 = .ok (.iload_n 3, 1) := by decide +kernel
theorem dX2_setHolder_47 : decode cX2_setHolder 47 = .ok (.iand, 1) := by decide +kernel
theorem dX2_setHolder_48 : decode cX2_setHolder 48 = .ok (.ior, 1) := by decide +kernel
theorem dX2_setHolder_49 : decode cX2_setHolder 49 = .ok (.putfield 172, 3) := by decide +kernel
theorem dX2_setHolder_52 : decode cX2_setHolder 52 = .ok (.return_, 1) := by decide +kernel
theorem dX2_heldIssues_0 : decode cX2_heldIssues 0 = .ok (.aload_n 0, 1) := by decide +kernel
theorem dX2_heldIssues_1 : decode cX2_heldIssues 1 = .ok (.aload_n 1, 1) := by decide +kernel
theorem dX2_heldIssues_2 : decode cX2_heldIssues 2 = .ok (.invokevirtual 187, 3) := by decide +kernel
theorem dX2_heldIssues_5 : decode cX2_heldIssues 5 = .ok (.aload_n 0, 1) := by decide +kernel
theorem dX2_heldIssues_6 : decode cX2_heldIssues 6 = .ok (.getfield 169, 3) := by decide +kernel
theorem dX2_heldIssues_9 : decode cX2_heldIssues 9 = .ok (.aload_n 0, 1) := by decide +kernel
theorem dX2_heldIssues_10 : decode cX2_heldIssues 10 = .ok (.getfield 172, 3) := by decide +kernel
theorem dX2_heldIssues_13 : decode cX2_heldIssues 13 = .ok (.ior, 1) := by decide +kernel
theorem dX2_heldIssues_14 : decode cX2_heldIssues 14 = .ok (.ireturn, 1) := by decide +kernel
theorem dX2_holderCount_0 : decode cX2_holderCount 0 = .ok (.iconst 0, 1) := by decide +kernel
theorem dX2_holderCount_1 : decode cX2_holderCount 1 = .ok (.istore_n 3, 1) := by decide +kernel
theorem dX2_holderCount_2 : decode cX2_holderCount 2 = .ok (.iconst 0, 1) := by decide +kernel
theorem dX2_holderCount_3 : decode cX2_holderCount 3 = .ok (.istore 4, 2) := by decide +kernel
theorem dX2_holderCount_5 : decode cX2_holderCount 5 = .ok (.iload 4, 2) := by decide +kernel
theorem dX2_holderCount_7 : decode cX2_holderCount 7 = .ok (.aload_n 0, 1) := by decide +kernel
theorem dX2_holderCount_8 : decode cX2_holderCount 8 = .ok (.getfield 27, 3) := by decide +kernel
theorem dX2_holderCount_11 : decode cX2_holderCount 11 = .ok (.getfield 31, 3) := by decide +kernel
theorem dX2_holderCount_14 : decode cX2_holderCount 14 = .ok (.if_icmp .ge 31, 3) := by decide +kernel
theorem dX2_holderCount_17 : decode cX2_holderCount 17 = .ok (.iload_n 3, 1) := by decide +kernel
theorem dX2_holderCount_18 : decode cX2_holderCount 18 = .ok (.aload_n 0, 1) := by decide +kernel
theorem dX2_holderCount_19 : decode cX2_holderCount 19 = .ok (.aload_n 0, 1) := by decide +kernel
theorem dX2_holderCount_20 : decode cX2_holderCount 20 = .ok (.getfield 27, 3) := by decide +kernel
theorem dX2_holderCount_23 : decode cX2_holderCount 23 = .ok (.getfield 37, 3) := by decide +kernel
theorem dX2_holderCount_26 : decode cX2_holderCount 26 = .ok (.iload 4, 2) := by decide +kernel
theorem dX2_holderCount_28 : decode cX2_holderCount 28 = .ok (.aaload, 1) := by decide +kernel
theorem dX2_holderCount_29 : decode cX2_holderCount 29 = .ok (.aload_n 1, 1) := by decide +kernel
theorem dX2_holderCount_30 : decode cX2_holderCount 30 = .ok (.invokevirtual 175, 3) := by decide +kernel
theorem dX2_holderCount_33 : decode cX2_holderCount 33 = .ok (.iload_n 2, 1) := by decide +kernel
theorem dX2_holderCount_34 : decode cX2_holderCount 34 = .ok (.ishr, 1) := by decide +kernel
theorem dX2_holderCount_35 : decode cX2_holderCount 35 = .ok (.iconst 1, 1) := by decide +kernel
theorem dX2_holderCount_36 : decode cX2_holderCount 36 = .ok (.iand, 1) := by decide +kernel
theorem dX2_holderCount_37 : decode cX2_holderCount 37 = .ok (.iadd, 1) := by decide +kernel
theorem dX2_holderCount_38 : decode cX2_holderCount 38 = .ok (.istore_n 3, 1) := by decide +kernel
theorem dX2_holderCount_39 : decode cX2_holderCount 39 = .ok (.iinc 4 1, 3) := by decide +kernel
theorem dX2_holderCount_42 : decode cX2_holderCount 42 = .ok (.goto (-37), 3) := by decide +kernel
theorem dX2_holderCount_45 : decode cX2_holderCount 45 = .ok (.iload_n 3, 1) := by decide +kernel
theorem dX2_holderCount_46 : decode cX2_holderCount 46 = .ok (.ireturn, 1) := by decide +kernel
theorem dX2_forcedWay_0 : decode cX2_forcedWay 0 = .ok (.aload_n 0, 1) := by decide +kernel
theorem dX2_forcedWay_1 : decode cX2_forcedWay 1 = .ok (.aload_n 1, 1) := by decide +kernel
theorem dX2_forcedWay_2 : decode cX2_forcedWay 2 = .ok (.invokevirtual 191, 3) := by decide +kernel
theorem dX2_forcedWay_5 : decode cX2_forcedWay 5 = .ok (.ifCond .eq 5, 3) := by decide +kernel
theorem dX2_forcedWay_8 : decode cX2_forcedWay 8 = .ok (.iconst 2, 1) := by decide +kernel
theorem dX2_forcedWay_9 : decode cX2_forcedWay 9 = .ok (.ireturn, 1) := by decide +kernel
theorem dX2_forcedWay_10 : decode cX2_forcedWay 10 = .ok (.aload_n 0, 1) := by decide +kernel
theorem dX2_forcedWay_11 : decode cX2_forcedWay 11 = .ok (.aload_n 1, 1) := by decide +kernel
theorem dX2_forcedWay_12 : decode cX2_forcedWay 12 = .ok (.invokevirtual 187, 3) := by decide +kernel
theorem dX2_forcedWay_15 : decode cX2_forcedWay 15 = .ok (.aload_n 1, 1) := by decide +kernel
theorem dX2_forcedWay_16 : decode cX2_forcedWay 16 = .ok (.getfield 163, 3) := by decide +kernel
theorem dX2_forcedWay_19 : decode cX2_forcedWay 19 = .ok (.aload_n 0, 1) := by decide +kernel
theorem dX2_forcedWay_20 : decode cX2_forcedWay 20 = .ok (.getfield 172, 3) := by decide +kernel
theorem dX2_forcedWay_23 : decode cX2_forcedWay 23 = .ok (.iand, 1) := by decide +kernel
theorem dX2_forcedWay_24 : decode cX2_forcedWay 24 = .ok (.aload_n 1, 1) := by decide +kernel
theorem dX2_forcedWay_25 : decode cX2_forcedWay 25 = .ok (.getfield 166, 3) := by decide +kernel
theorem dX2_forcedWay_28 : decode cX2_forcedWay 28 = .ok (.aload_n 0, 1) := by decide +kernel
theorem dX2_forcedWay_29 : decode cX2_forcedWay 29 = .ok (.getfield 169, 3) := by decide +kernel
theorem dX2_forcedWay_32 : decode cX2_forcedWay 32 = .ok (.iand, 1) := by decide +kernel
theorem dX2_forcedWay_33 : decode cX2_forcedWay 33 = .ok (.ior, 1) := by decide +kernel
theorem dX2_forcedWay_34 : decode cX2_forcedWay 34 = .ok (.ifCond .eq 5, 3) := by decide +kernel
theorem dX2_forcedWay_37 : decode cX2_forcedWay 37 = .ok (.iconst 1, 1) := by decide +kernel
theorem dX2_forcedWay_38 : decode cX2_forcedWay 38 = .ok (.ireturn, 1) := by decide +kernel
theorem dX2_forcedWay_39 : decode cX2_forcedWay 39 = .ok (.aload_n 1, 1) := by decide +kernel
theorem dX2_forcedWay_40 : decode cX2_forcedWay 40 = .ok (.getfield 163, 3) := by decide +kernel
theorem dX2_forcedWay_43 : decode cX2_forcedWay 43 = .ok (.aload_n 0, 1) := by decide +kernel
theorem dX2_forcedWay_44 : decode cX2_forcedWay 44 = .ok (.getfield 169, 3) := by decide +kernel
theorem dX2_forcedWay_47 : decode cX2_forcedWay 47 = .ok (.iconst (-1), 1) := by decide +kernel
theorem dX2_forcedWay_48 : decode cX2_forcedWay 48 = .ok (.ixor, 1) := by decide +kernel
theorem dX2_forcedWay_49 : decode cX2_forcedWay 49 = .ok (.iand, 1) := by decide +kernel
theorem dX2_forcedWay_50 : decode cX2_forcedWay 50 = .ok (.aload_n 1, 1) := by decide +kernel
theorem dX2_forcedWay_51 : decode cX2_forcedWay 51 = .ok (.getfield 166, 3) := by decide +kernel
theorem dX2_forcedWay_54 : decode cX2_forcedWay 54 = .ok (.aload_n 0, 1) := by decide +kernel
theorem dX2_forcedWay_55 : decode cX2_forcedWay 55 = .ok (.getfield 172, 3) := by decide +kernel
theorem dX2_forcedWay_58 : decode cX2_forcedWay 58 = .ok (.iconst (-1), 1) := by decide +kernel
theorem dX2_forcedWay_59 : decode cX2_forcedWay 59 = .ok (.ixor, 1) := by decide +kernel
theorem dX2_forcedWay_60 : decode cX2_forcedWay 60 = .ok (.iand, 1) := by decide +kernel
theorem dX2_forcedWay_61 : decode cX2_forcedWay 61 = .ok (.ior, 1) := by decide +kernel
theorem dX2_forcedWay_62 : decode cX2_forcedWay 62 = .ok (.ifCond .ne 7, 3) := by decide +kernel
theorem dX2_forcedWay_65 : decode cX2_forcedWay 65 = .ok (.iconst 0, 1) := by decide +kernel
theorem dX2_forcedWay_66 : decode cX2_forcedWay 66 = .ok (.goto 4, 3) := by decide +kernel
theorem dX2_forcedWay_69 : decode cX2_forcedWay 69 = .ok (.iconst (-1), 1) := by decide +kernel
theorem dX2_forcedWay_70 : decode cX2_forcedWay 70 = .ok (.ireturn, 1) := by decide +kernel
theorem dX2_restsOn_0 : decode cX2_restsOn 0 = .ok (.aload_n 1, 1) := by decide +kernel
theorem dX2_restsOn_1 : decode cX2_restsOn 1 = .ok (.invokevirtual 125, 3) := by decide +kernel
theorem dX2_restsOn_4 : decode cX2_restsOn 4 = .ok (.ifCond .ne 5, 3) := by decide +kernel
theorem dX2_restsOn_7 : decode cX2_restsOn 7 = .ok (.iconst 0, 1) := by decide +kernel
theorem dX2_restsOn_8 : decode cX2_restsOn 8 = .ok (.ireturn, 1) := by decide +kernel
theorem dX2_restsOn_9 : decode cX2_restsOn 9 = .ok (.aload_n 0, 1) := by decide +kernel
theorem dX2_restsOn_10 : decode cX2_restsOn 10 = .ok (.aload_n 1, 1) := by decide +kernel
theorem dX2_restsOn_11 : decode cX2_restsOn 11 = .ok (.invokevirtual 187, 3) := by decide +kernel
theorem dX2_restsOn_14 : decode cX2_restsOn 14 = .ok (.aload_n 1, 1) := by decide +kernel
theorem dX2_restsOn_15 : decode cX2_restsOn 15 = .ok (.getfield 50, 3) := by decide +kernel
theorem dX2_restsOn_18 : decode cX2_restsOn 18 = .ok (.aload_n 0, 1) := by decide +kernel
theorem dX2_restsOn_19 : decode cX2_restsOn 19 = .ok (.getfield 169, 3) := by decide +kernel
theorem dX2_restsOn_22 : decode cX2_restsOn 22 = .ok (.iand, 1) := by decide +kernel
theorem dX2_restsOn_23 : decode cX2_restsOn 23 = .ok (.aload_n 1, 1) := by decide +kernel
theorem dX2_restsOn_24 : decode cX2_restsOn 24 = .ok (.getfield 56, 3) := by decide +kernel
theorem dX2_restsOn_27 : decode cX2_restsOn 27 = .ok (.aload_n 0, 1) := by decide +kernel
theorem dX2_restsOn_28 : decode cX2_restsOn 28 = .ok (.getfield 172, 3) := by decide +kernel
theorem dX2_restsOn_31 : decode cX2_restsOn 31 = .ok (.iand, 1) := by decide +kernel
theorem dX2_restsOn_32 : decode cX2_restsOn 32 = .ok (.ior, 1) := by decide +kernel
theorem dX2_restsOn_33 : decode cX2_restsOn 33 = .ok (.istore_n 2, 1) := by decide +kernel
theorem dX2_restsOn_34 : decode cX2_restsOn 34 = .ok (.iconst 0, 1) := by decide +kernel
theorem dX2_restsOn_35 : decode cX2_restsOn 35 = .ok (.istore_n 3, 1) := by decide +kernel
theorem dX2_restsOn_36 : decode cX2_restsOn 36 = .ok (.iconst 0, 1) := by decide +kernel
theorem dX2_restsOn_37 : decode cX2_restsOn 37 = .ok (.istore 4, 2) := by decide +kernel
theorem dX2_restsOn_39 : decode cX2_restsOn 39 = .ok (.iload 4, 2) := by decide +kernel
theorem dX2_restsOn_41 : decode cX2_restsOn 41 = .ok (.bipush 31, 2) := by decide +kernel
theorem dX2_restsOn_43 : decode cX2_restsOn 43 = .ok (.if_icmp .ge 31, 3) := by decide +kernel
theorem dX2_restsOn_46 : decode cX2_restsOn 46 = .ok (.iload_n 2, 1) := by decide +kernel
theorem dX2_restsOn_47 : decode cX2_restsOn 47 = .ok (.iload 4, 2) := by decide +kernel
theorem dX2_restsOn_49 : decode cX2_restsOn 49 = .ok (.ishr, 1) := by decide +kernel
theorem dX2_restsOn_50 : decode cX2_restsOn 50 = .ok (.iconst 1, 1) := by decide +kernel
theorem dX2_restsOn_51 : decode cX2_restsOn 51 = .ok (.iand, 1) := by decide +kernel
theorem dX2_restsOn_52 : decode cX2_restsOn 52 = .ok (.iconst 1, 1) := by decide +kernel
theorem dX2_restsOn_53 : decode cX2_restsOn 53 = .ok (.if_icmp .ne 15, 3) := by decide +kernel
theorem dX2_restsOn_56 : decode cX2_restsOn 56 = .ok (.iload_n 3, 1) := by decide +kernel
theorem dX2_restsOn_57 : decode cX2_restsOn 57 = .ok (.iconst 1, 1) := by decide +kernel
theorem dX2_restsOn_58 : decode cX2_restsOn 58 = .ok (.aload_n 0, 1) := by decide +kernel
theorem dX2_restsOn_59 : decode cX2_restsOn 59 = .ok (.getfield 9, 3) := by decide +kernel
theorem dX2_restsOn_62 : decode cX2_restsOn 62 = .ok (.iload 4, 2) := by decide +kernel
theorem dX2_restsOn_64 : decode cX2_restsOn 64 = .ok (.iaload, 1) := by decide +kernel
theorem dX2_restsOn_65 : decode cX2_restsOn 65 = .ok (.ishl, 1) := by decide +kernel
theorem dX2_restsOn_66 : decode cX2_restsOn 66 = .ok (.ior, 1) := by decide +kernel
theorem dX2_restsOn_67 : decode cX2_restsOn 67 = .ok (.istore_n 3, 1) := by decide +kernel
theorem dX2_restsOn_68 : decode cX2_restsOn 68 = .ok (.iinc 4 1, 3) := by decide +kernel
theorem dX2_restsOn_71 : decode cX2_restsOn 71 = .ok (.goto (-32), 3) := by decide +kernel
theorem dX2_restsOn_74 : decode cX2_restsOn 74 = .ok (.iload_n 3, 1) := by decide +kernel
theorem dX2_restsOn_75 : decode cX2_restsOn 75 = .ok (.ireturn, 1) := by decide +kernel
theorem dX2_restingOn_0 : decode cX2_restingOn 0 = .ok (.iconst 0, 1) := by decide +kernel
theorem dX2_restingOn_1 : decode cX2_restingOn 1 = .ok (.istore_n 2, 1) := by decide +kernel
theorem dX2_restingOn_2 : decode cX2_restingOn 2 = .ok (.iconst 0, 1) := by decide +kernel
theorem dX2_restingOn_3 : decode cX2_restingOn 3 = .ok (.istore_n 3, 1) := by decide +kernel
theorem dX2_restingOn_4 : decode cX2_restingOn 4 = .ok (.iload_n 3, 1) := by decide +kernel
theorem dX2_restingOn_5 : decode cX2_restingOn 5 = .ok (.aload_n 0, 1) := by decide +kernel
theorem dX2_restingOn_6 : decode cX2_restingOn 6 = .ok (.getfield 27, 3) := by decide +kernel
theorem dX2_restingOn_9 : decode cX2_restingOn 9 = .ok (.getfield 31, 3) := by decide +kernel
theorem dX2_restingOn_12 : decode cX2_restingOn 12 = .ok (.if_icmp .ge 45, 3) := by decide +kernel
theorem dX2_restingOn_15 : decode cX2_restingOn 15 = .ok (.aload_n 0, 1) := by decide +kernel
theorem dX2_restingOn_16 : decode cX2_restingOn 16 = .ok (.getfield 15, 3) := by decide +kernel
theorem dX2_restingOn_19 : decode cX2_restingOn 19 = .ok (.iload_n 3, 1) := by decide +kernel
theorem dX2_restingOn_20 : decode cX2_restingOn 20 = .ok (.aload_n 0, 1) := by decide +kernel
theorem dX2_restingOn_21 : decode cX2_restingOn 21 = .ok (.aload_n 0, 1) := by decide +kernel
theorem dX2_restingOn_22 : decode cX2_restingOn 22 = .ok (.getfield 27, 3) := by decide +kernel
theorem dX2_restingOn_25 : decode cX2_restingOn 25 = .ok (.getfield 37, 3) := by decide +kernel
theorem dX2_restingOn_28 : decode cX2_restingOn 28 = .ok (.iload_n 3, 1) := by decide +kernel
theorem dX2_restingOn_29 : decode cX2_restingOn 29 = .ok (.aaload, 1) := by decide +kernel
theorem dX2_restingOn_30 : decode cX2_restingOn 30 = .ok (.invokevirtual 195, 3) := by decide +kernel
theorem dX2_restingOn_33 : decode cX2_restingOn 33 = .ok (.iastore, 1) := by decide +kernel
theorem dX2_restingOn_34 : decode cX2_restingOn 34 = .ok (.aload_n 0, 1) := by decide +kernel
theorem dX2_restingOn_35 : decode cX2_restingOn 35 = .ok (.getfield 15, 3) := by decide +kernel
theorem dX2_restingOn_38 : decode cX2_restingOn 38 = .ok (.iload_n 3, 1) := by decide +kernel
theorem dX2_restingOn_39 : decode cX2_restingOn 39 = .ok (.iaload, 1) := by decide +kernel
theorem dX2_restingOn_40 : decode cX2_restingOn 40 = .ok (.iload_n 1, 1) := by decide +kernel
theorem dX2_restingOn_41 : decode cX2_restingOn 41 = .ok (.iand, 1) := by decide +kernel
theorem dX2_restingOn_42 : decode cX2_restingOn 42 = .ok (.ifCond .eq 9, 3) := by decide +kernel
theorem dX2_restingOn_45 : decode cX2_restingOn 45 = .ok (.iload_n 2, 1) := by decide +kernel
theorem dX2_restingOn_46 : decode cX2_restingOn 46 = .ok (.iconst 1, 1) := by decide +kernel
theorem dX2_restingOn_47 : decode cX2_restingOn 47 = .ok (.iload_n 3, 1) := by decide +kernel
theorem dX2_restingOn_48 : decode cX2_restingOn 48 = .ok (.ishl, 1) := by decide +kernel
theorem dX2_restingOn_49 : decode cX2_restingOn 49 = .ok (.ior, 1) := by decide +kernel
theorem dX2_restingOn_50 : decode cX2_restingOn 50 = .ok (.istore_n 2, 1) := by decide +kernel
theorem dX2_restingOn_51 : decode cX2_restingOn 51 = .ok (.iinc 3 1, 3) := by decide +kernel
theorem dX2_restingOn_54 : decode cX2_restingOn 54 = .ok (.goto (-50), 3) := by decide +kernel
theorem dX2_restingOn_57 : decode cX2_restingOn 57 = .ok (.iload_n 2, 1) := by decide +kernel
theorem dX2_restingOn_58 : decode cX2_restingOn 58 = .ok (.ireturn, 1) := by decide +kernel
theorem dX2_restingInTheEnd_0 : decode cX2_restingInTheEnd 0 = .ok (.aload_n 0, 1) := by decide +kernel
theorem dX2_restingInTheEnd_1 : decode cX2_restingInTheEnd 1 = .ok (.iconst 1, 1) := by decide +kernel
theorem dX2_restingInTheEnd_2 : decode cX2_restingInTheEnd 2 = .ok (.iload_n 1, 1) := by decide +kernel
theorem dX2_restingInTheEnd_3 : decode cX2_restingInTheEnd 3 = .ok (.ishl, 1) := by decide +kernel
theorem dX2_restingInTheEnd_4 : decode cX2_restingInTheEnd 4 = .ok (.invokevirtual 198, 3) := by decide +kernel
theorem dX2_restingInTheEnd_7 : decode cX2_restingInTheEnd 7 = .ok (.istore_n 2, 1) := by decide +kernel
theorem dX2_restingInTheEnd_8 : decode cX2_restingInTheEnd 8 = .ok (.iconst 0, 1) := by decide +kernel
theorem dX2_restingInTheEnd_9 : decode cX2_restingInTheEnd 9 = .ok (.istore_n 3, 1) := by decide +kernel
theorem dX2_restingInTheEnd_10 : decode cX2_restingInTheEnd 10 = .ok (.iload_n 3, 1) := by decide +kernel
theorem dX2_restingInTheEnd_11 : decode cX2_restingInTheEnd 11 = .ok (.bipush 10, 2) := by decide +kernel
theorem dX2_restingInTheEnd_13 : decode cX2_restingInTheEnd 13 = .ok (.if_icmp .ge 49, 3) := by decide +kernel
theorem dX2_restingInTheEnd_16 : decode cX2_restingInTheEnd 16 = .ok (.iconst 0, 1) := by decide +kernel
theorem dX2_restingInTheEnd_17 : decode cX2_restingInTheEnd 17 = .ok (.istore 4, 2) := by decide +kernel
theorem dX2_restingInTheEnd_19 : decode cX2_restingInTheEnd 19 = .ok (.iload 4, 2) := by decide +kernel
theorem dX2_restingInTheEnd_21 : decode cX2_restingInTheEnd 21 = .ok (.aload_n 0, 1) := by decide +kernel
theorem dX2_restingInTheEnd_22 : decode cX2_restingInTheEnd 22 = .ok (.getfield 27, 3) := by decide +kernel
theorem dX2_restingInTheEnd_25 : decode cX2_restingInTheEnd 25 = .ok (.getfield 31, 3) := by decide +kernel
theorem dX2_restingInTheEnd_28 : decode cX2_restingInTheEnd 28 = .ok (.if_icmp .ge 28, 3) := by decide +kernel
theorem dX2_restingInTheEnd_31 : decode cX2_restingInTheEnd 31 = .ok (.aload_n 0, 1) := by decide +kernel
theorem dX2_restingInTheEnd_32 : decode cX2_restingInTheEnd 32 = .ok (.getfield 15, 3) := by decide +kernel
theorem dX2_restingInTheEnd_35 : decode cX2_restingInTheEnd 35 = .ok (.iload 4, 2) := by decide +kernel
theorem dX2_restingInTheEnd_37 : decode cX2_restingInTheEnd 37 = .ok (.iaload, 1) := by decide +kernel
theorem dX2_restingInTheEnd_38 : decode cX2_restingInTheEnd 38 = .ok (.iload_n 2, 1) := by decide +kernel
theorem dX2_restingInTheEnd_39 : decode cX2_restingInTheEnd 39 = .ok (.iand, 1) := by decide +kernel
theorem dX2_restingInTheEnd_40 : decode cX2_restingInTheEnd 40 = .ok (.ifCond .eq 10, 3) := by decide +kernel
theorem dX2_restingInTheEnd_43 : decode cX2_restingInTheEnd 43 = .ok (.iload_n 2, 1) := by decide +kernel
theorem dX2_restingInTheEnd_44 : decode cX2_restingInTheEnd 44 = .ok (.iconst 1, 1) := by decide +kernel
theorem dX2_restingInTheEnd_45 : decode cX2_restingInTheEnd 45 = .ok (.iload 4, 2) := by decide +kernel
theorem dX2_restingInTheEnd_47 : decode cX2_restingInTheEnd 47 = .ok (.ishl, 1) := by decide +kernel
theorem dX2_restingInTheEnd_48 : decode cX2_restingInTheEnd 48 = .ok (.ior, 1) := by decide +kernel
theorem dX2_restingInTheEnd_49 : decode cX2_restingInTheEnd 49 = .ok (.istore_n 2, 1) := by decide +kernel
theorem dX2_restingInTheEnd_50 : decode cX2_restingInTheEnd 50 = .ok (.iinc 4 1, 3) := by decide +kernel
theorem dX2_restingInTheEnd_53 : decode cX2_restingInTheEnd 53 = .ok (.goto (-34), 3) := by decide +kernel
theorem dX2_restingInTheEnd_56 : decode cX2_restingInTheEnd 56 = .ok (.iinc 3 1, 3) := by decide +kernel
theorem dX2_restingInTheEnd_59 : decode cX2_restingInTheEnd 59 = .ok (.goto (-49), 3) := by decide +kernel
theorem dX2_restingInTheEnd_62 : decode cX2_restingInTheEnd 62 = .ok (.iload_n 2, 1) := by decide +kernel
theorem dX2_restingInTheEnd_63 : decode cX2_restingInTheEnd 63 = .ok (.ireturn, 1) := by decide +kernel
theorem dX2_changedWithout_0 : decode cX2_changedWithout 0 = .ok (.iconst 0, 1) := by decide +kernel
theorem dX2_changedWithout_1 : decode cX2_changedWithout 1 = .ok (.istore_n 3, 1) := by decide +kernel
theorem dX2_changedWithout_2 : decode cX2_changedWithout 2 = .ok (.iconst 0, 1) := by decide +kernel
theorem dX2_changedWithout_3 : decode cX2_changedWithout 3 = .ok (.istore 4, 2) := by decide +kernel
theorem dX2_changedWithout_5 : decode cX2_changedWithout 5 = .ok (.iload 4, 2) := by decide +kernel
theorem dX2_changedWithout_7 : decode cX2_changedWithout 7 = .ok (.aload_n 0, 1) := by decide +kernel
theorem dX2_changedWithout_8 : decode cX2_changedWithout 8 = .ok (.getfield 27, 3) := by decide +kernel
theorem dX2_changedWithout_11 : decode cX2_changedWithout 11 = .ok (.getfield 31, 3) := by decide +kernel
theorem dX2_changedWithout_14 : decode cX2_changedWithout 14 = .ok (.if_icmp .ge 63, 3) := by decide +kernel
theorem dX2_changedWithout_17 : decode cX2_changedWithout 17 = .ok (.aload_n 0, 1) := by decide +kernel
theorem dX2_changedWithout_18 : decode cX2_changedWithout 18 = .ok (.getfield 27, 3) := by decide +kernel
theorem dX2_changedWithout_21 : decode cX2_changedWithout 21 = .ok (.getfield 37, 3) := by decide +kernel
theorem dX2_changedWithout_24 : decode cX2_changedWithout 24 = .ok (.iload 4, 2) := by decide +kernel
theorem dX2_changedWithout_26 : decode cX2_changedWithout 26 = .ok (.aaload, 1) := by decide +kernel
theorem dX2_changedWithout_27 : decode cX2_changedWithout 27 = .ok (.astore 5, 2) := by decide +kernel
theorem dX2_changedWithout_29 : decode cX2_changedWithout 29 = .ok (.aload_n 0, 1) := by decide +kernel
theorem dX2_changedWithout_30 : decode cX2_changedWithout 30 = .ok (.aload 5, 2) := by decide +kernel
theorem dX2_changedWithout_32 : decode cX2_changedWithout 32 = .ok (.iload_n 2, 1) := by decide +kernel
theorem dX2_changedWithout_33 : decode cX2_changedWithout 33 = .ok (.invokevirtual 201, 3) := by decide +kernel
theorem dX2_changedWithout_36 : decode cX2_changedWithout 36 = .ok (.istore 6, 2) := by decide +kernel
theorem dX2_changedWithout_38 : decode cX2_changedWithout 38 = .ok (.aload_n 1, 1) := by decide +kernel
theorem dX2_changedWithout_39 : decode cX2_changedWithout 39 = .ok (.iconst 1, 1) := by decide +kernel
theorem dX2_changedWithout_40 : decode cX2_changedWithout 40 = .ok (.putfield 204, 3) := by decide +kernel
theorem dX2_changedWithout_43 : decode cX2_changedWithout 43 = .ok (.aload_n 0, 1) := by decide +kernel
theorem dX2_changedWithout_44 : decode cX2_changedWithout 44 = .ok (.aload 5, 2) := by decide +kernel
theorem dX2_changedWithout_46 : decode cX2_changedWithout 46 = .ok (.iload_n 2, 1) := by decide +kernel
theorem dX2_changedWithout_47 : decode cX2_changedWithout 47 = .ok (.invokevirtual 201, 3) := by decide +kernel
theorem dX2_changedWithout_50 : decode cX2_changedWithout 50 = .ok (.istore 7, 2) := by decide +kernel
theorem dX2_changedWithout_52 : decode cX2_changedWithout 52 = .ok (.aload_n 1, 1) := by decide +kernel
theorem dX2_changedWithout_53 : decode cX2_changedWithout 53 = .ok (.iconst 0, 1) := by decide +kernel
theorem dX2_changedWithout_54 : decode cX2_changedWithout 54 = .ok (.putfield 204, 3) := by decide +kernel
theorem dX2_changedWithout_57 : decode cX2_changedWithout 57 = .ok (.iload 6, 2) := by decide +kernel
theorem dX2_changedWithout_59 : decode cX2_changedWithout 59 = .ok (.iload 7, 2) := by decide +kernel
theorem dX2_changedWithout_61 : decode cX2_changedWithout 61 = .ok (.if_icmp .eq 10, 3) := by decide +kernel
theorem dX2_changedWithout_64 : decode cX2_changedWithout 64 = .ok (.iload_n 3, 1) := by decide +kernel
theorem dX2_changedWithout_65 : decode cX2_changedWithout 65 = .ok (.iconst 1, 1) := by decide +kernel
theorem dX2_changedWithout_66 : decode cX2_changedWithout 66 = .ok (.iload 4, 2) := by decide +kernel
theorem dX2_changedWithout_68 : decode cX2_changedWithout 68 = .ok (.ishl, 1) := by decide +kernel
theorem dX2_changedWithout_69 : decode cX2_changedWithout 69 = .ok (.ior, 1) := by decide +kernel
theorem dX2_changedWithout_70 : decode cX2_changedWithout 70 = .ok (.istore_n 3, 1) := by decide +kernel
theorem dX2_changedWithout_71 : decode cX2_changedWithout 71 = .ok (.iinc 4 1, 3) := by decide +kernel
theorem dX2_changedWithout_74 : decode cX2_changedWithout 74 = .ok (.goto (-69), 3) := by decide +kernel
theorem dX2_changedWithout_77 : decode cX2_changedWithout 77 = .ok (.iload_n 3, 1) := by decide +kernel
theorem dX2_changedWithout_78 : decode cX2_changedWithout 78 = .ok (.ireturn, 1) := by decide +kernel
theorem dX2_measure_0 : decode cX2_measure 0 = .ok (.iload_n 2, 1) := by decide +kernel
theorem dX2_measure_1 : decode cX2_measure 1 = .ok (.ifCond .ne 17, 3) := by decide +kernel
theorem dX2_measure_4 : decode cX2_measure 4 = .ok (.aload_n 0, 1) := by decide +kernel
theorem dX2_measure_5 : decode cX2_measure 5 = .ok (.aload_n 1, 1) := by decide +kernel
theorem dX2_measure_6 : decode cX2_measure 6 = .ok (.invokevirtual 191, 3) := by decide +kernel
theorem dX2_measure_9 : decode cX2_measure 9 = .ok (.ifCond .ne 7, 3) := by decide +kernel
theorem dX2_measure_12 : decode cX2_measure 12 = .ok (.iconst 0, 1) := by decide +kernel
theorem dX2_measure_13 : decode cX2_measure 13 = .ok (.goto 4, 3) := by decide +kernel
theorem dX2_measure_16 : decode cX2_measure 16 = .ok (.iconst 1, 1) := by decide +kernel
theorem dX2_measure_17 : decode cX2_measure 17 = .ok (.ireturn, 1) := by decide +kernel
theorem dX2_measure_18 : decode cX2_measure 18 = .ok (.iload_n 2, 1) := by decide +kernel
theorem dX2_measure_19 : decode cX2_measure 19 = .ok (.iconst 1, 1) := by decide +kernel
theorem dX2_measure_20 : decode cX2_measure 20 = .ok (.if_icmp .ne 14, 3) := by decide +kernel
theorem dX2_measure_23 : decode cX2_measure 23 = .ok (.aload_n 0, 1) := by decide +kernel
theorem dX2_measure_24 : decode cX2_measure 24 = .ok (.aload_n 1, 1) := by decide +kernel
theorem dX2_measure_25 : decode cX2_measure 25 = .ok (.invokevirtual 207, 3) := by decide +kernel
theorem dX2_measure_28 : decode cX2_measure 28 = .ok (.invokestatic 134, 3) := by decide +kernel
theorem dX2_measure_31 : decode cX2_measure 31 = .ok (.goto 8, 3) := by decide +kernel
theorem dX2_measure_34 : decode cX2_measure 34 = .ok (.aload_n 0, 1) := by decide +kernel
theorem dX2_measure_35 : decode cX2_measure 35 = .ok (.aload_n 1, 1) := by decide +kernel
theorem dX2_measure_36 : decode cX2_measure 36 = .ok (.invokevirtual 210, 3) := by decide +kernel
theorem dX2_measure_39 : decode cX2_measure 39 = .ok (.ireturn, 1) := by decide +kernel
theorem dX2_clashingIssues_0 : decode cX2_clashingIssues 0 = .ok (.aload_n 1, 1) := by decide +kernel
theorem dX2_clashingIssues_1 : decode cX2_clashingIssues 1 = .ok (.invokevirtual 213, 3) := by decide +kernel
theorem dX2_clashingIssues_4 : decode cX2_clashingIssues 4 = .ok (.aload_n 2, 1) := by decide +kernel
theorem dX2_clashingIssues_5 : decode cX2_clashingIssues 5 = .ok (.invokevirtual 213, 3) := by decide +kernel
theorem dX2_clashingIssues_8 : decode cX2_clashingIssues 8 = .ok (.iand, 1) := by decide +kernel
theorem dX2_clashingIssues_9 : decode cX2_clashingIssues 9 = .ok (.ifCond .ne 5, 3) := by decide +kernel
theorem dX2_clashingIssues_12 : decode cX2_clashingIssues 12 = .ok (.iconst 0, 1) := by decide +kernel
theorem dX2_clashingIssues_13 : decode cX2_clashingIssues 13 = .ok (.ireturn, 1) := by decide +kernel
theorem dX2_clashingIssues_14 : decode cX2_clashingIssues 14 = .ok (.aload_n 1, 1) := by decide +kernel
theorem dX2_clashingIssues_15 : decode cX2_clashingIssues 15 = .ok (.getfield 53, 3) := by decide +kernel
theorem dX2_clashingIssues_18 : decode cX2_clashingIssues 18 = .ok (.aload_n 2, 1) := by decide +kernel
theorem dX2_clashingIssues_19 : decode cX2_clashingIssues 19 = .ok (.getfield 59, 3) := by decide +kernel
theorem dX2_clashingIssues_22 : decode cX2_clashingIssues 22 = .ok (.iand, 1) := by decide +kernel
theorem dX2_clashingIssues_23 : decode cX2_clashingIssues 23 = .ok (.aload_n 1, 1) := by decide +kernel
theorem dX2_clashingIssues_24 : decode cX2_clashingIssues 24 = .ok (.getfield 59, 3) := by decide +kernel
theorem dX2_clashingIssues_27 : decode cX2_clashingIssues 27 = .ok (.aload_n 2, 1) := by decide +kernel
theorem dX2_clashingIssues_28 : decode cX2_clashingIssues 28 = .ok (.getfield 53, 3) := by decide +kernel
theorem dX2_clashingIssues_31 : decode cX2_clashingIssues 31 = .ok (.iand, 1) := by decide +kernel
theorem dX2_clashingIssues_32 : decode cX2_clashingIssues 32 = .ok (.ior, 1) := by decide +kernel
theorem dX2_clashingIssues_33 : decode cX2_clashingIssues 33 = .ok (.ireturn, 1) := by decide +kernel
theorem dX2_clashCount_0 : decode cX2_clashCount 0 = .ok (.iconst 0, 1) := by decide +kernel
theorem dX2_clashCount_1 : decode cX2_clashCount 1 = .ok (.istore_n 1, 1) := by decide +kernel
theorem dX2_clashCount_2 : decode cX2_clashCount 2 = .ok (.iconst 0, 1) := by decide +kernel
theorem dX2_clashCount_3 : decode cX2_clashCount 3 = .ok (.istore_n 2, 1) := by decide +kernel
theorem dX2_clashCount_4 : decode cX2_clashCount 4 = .ok (.iload_n 2, 1) := by decide +kernel
theorem dX2_clashCount_5 : decode cX2_clashCount 5 = .ok (.aload_n 0, 1) := by decide +kernel
theorem dX2_clashCount_6 : decode cX2_clashCount 6 = .ok (.getfield 27, 3) := by decide +kernel
theorem dX2_clashCount_9 : decode cX2_clashCount 9 = .ok (.getfield 31, 3) := by decide +kernel
theorem dX2_clashCount_12 : decode cX2_clashCount 12 = .ok (.if_icmp .ge 55, 3) := by decide +kernel
theorem dX2_clashCount_15 : decode cX2_clashCount 15 = .ok (.iconst 0, 1) := by decide +kernel
theorem dX2_clashCount_16 : decode cX2_clashCount 16 = .ok (.istore_n 3, 1) := by decide +kernel
theorem dX2_clashCount_17 : decode cX2_clashCount 17 = .ok (.iload_n 3, 1) := by decide +kernel
theorem dX2_clashCount_18 : decode cX2_clashCount 18 = .ok (.iload_n 2, 1) := by decide +kernel
theorem dX2_clashCount_19 : decode cX2_clashCount 19 = .ok (.if_icmp .ge 42, 3) := by decide +kernel
theorem dX2_clashCount_22 : decode cX2_clashCount 22 = .ok (.iload_n 1, 1) := by decide +kernel
theorem dX2_clashCount_23 : decode cX2_clashCount 23 = .ok (.aload_n 0, 1) := by decide +kernel
theorem dX2_clashCount_24 : decode cX2_clashCount 24 = .ok (.aload_n 0, 1) := by decide +kernel
theorem dX2_clashCount_25 : decode cX2_clashCount 25 = .ok (.getfield 27, 3) := by decide +kernel
theorem dX2_clashCount_28 : decode cX2_clashCount 28 = .ok (.getfield 37, 3) := by decide +kernel
theorem dX2_clashCount_31 : decode cX2_clashCount 31 = .ok (.iload_n 2, 1) := by decide +kernel
theorem dX2_clashCount_32 : decode cX2_clashCount 32 = .ok (.aaload, 1) := by decide +kernel
theorem dX2_clashCount_33 : decode cX2_clashCount 33 = .ok (.aload_n 0, 1) := by decide +kernel
theorem dX2_clashCount_34 : decode cX2_clashCount 34 = .ok (.getfield 27, 3) := by decide +kernel
theorem dX2_clashCount_37 : decode cX2_clashCount 37 = .ok (.getfield 37, 3) := by decide +kernel
theorem dX2_clashCount_40 : decode cX2_clashCount 40 = .ok (.iload_n 3, 1) := by decide +kernel
theorem dX2_clashCount_41 : decode cX2_clashCount 41 = .ok (.aaload, 1) := by decide +kernel
theorem dX2_clashCount_42 : decode cX2_clashCount 42 = .ok (.invokevirtual 217, 3) := by decide +kernel
theorem dX2_clashCount_45 : decode cX2_clashCount 45 = .ok (.ifCond .ne 7, 3) := by decide +kernel
theorem dX2_clashCount_48 : decode cX2_clashCount 48 = .ok (.iconst 0, 1) := by decide +kernel
theorem dX2_clashCount_49 : decode cX2_clashCount 49 = .ok (.goto 4, 3) := by decide +kernel
theorem dX2_clashCount_52 : decode cX2_clashCount 52 = .ok (.iconst 1, 1) := by decide +kernel
theorem dX2_clashCount_53 : decode cX2_clashCount 53 = .ok (.iadd, 1) := by decide +kernel
theorem dX2_clashCount_54 : decode cX2_clashCount 54 = .ok (.istore_n 1, 1) := by decide +kernel
theorem dX2_clashCount_55 : decode cX2_clashCount 55 = .ok (.iinc 3 1, 3) := by decide +kernel
theorem dX2_clashCount_58 : decode cX2_clashCount 58 = .ok (.goto (-41), 3) := by decide +kernel
theorem dX2_clashCount_61 : decode cX2_clashCount 61 = .ok (.iinc 2 1, 3) := by decide +kernel
theorem dX2_clashCount_64 : decode cX2_clashCount 64 = .ok (.goto (-60), 3) := by decide +kernel
theorem dX2_clashCount_67 : decode cX2_clashCount 67 = .ok (.iload_n 1, 1) := by decide +kernel
theorem dX2_clashCount_68 : decode cX2_clashCount 68 = .ok (.ireturn, 1) := by decide +kernel
theorem dX2_latestBinding_0 : decode cX2_latestBinding 0 = .ok (.iconst (-1), 1) := by decide +kernel
theorem dX2_latestBinding_1 : decode cX2_latestBinding 1 = .ok (.istore_n 2, 1) := by decide +kernel
theorem dX2_latestBinding_2 : decode cX2_latestBinding 2 = .ok (.iconst (-1), 1) := by decide +kernel
theorem dX2_latestBinding_3 : decode cX2_latestBinding 3 = .ok (.istore_n 3, 1) := by decide +kernel
theorem dX2_latestBinding_4 : decode cX2_latestBinding 4 = .ok (.iconst 0, 1) := by decide +kernel
theorem dX2_latestBinding_5 : decode cX2_latestBinding 5 = .ok (.istore 4, 2) := by decide +kernel
theorem dX2_latestBinding_7 : decode cX2_latestBinding 7 = .ok (.iload 4, 2) := by decide +kernel
theorem dX2_latestBinding_9 : decode cX2_latestBinding 9 = .ok (.aload_n 0, 1) := by decide +kernel
theorem dX2_latestBinding_10 : decode cX2_latestBinding 10 = .ok (.getfield 27, 3) := by decide +kernel
theorem dX2_latestBinding_13 : decode cX2_latestBinding 13 = .ok (.getfield 31, 3) := by decide +kernel
theorem dX2_latestBinding_16 : decode cX2_latestBinding 16 = .ok (.if_icmp .ge 72, 3) := by decide +kernel
theorem dX2_latestBinding_19 : decode cX2_latestBinding 19 = .ok (.aload_n 0, 1) := by decide +kernel
theorem dX2_latestBinding_20 : decode cX2_latestBinding 20 = .ok (.getfield 27, 3) := by decide +kernel
theorem dX2_latestBinding_23 : decode cX2_latestBinding 23 = .ok (.getfield 37, 3) := by decide +kernel
theorem dX2_latestBinding_26 : decode cX2_latestBinding 26 = .ok (.iload 4, 2) := by decide +kernel
theorem dX2_latestBinding_28 : decode cX2_latestBinding 28 = .ok (.aaload, 1) := by decide +kernel
theorem dX2_latestBinding_29 : decode cX2_latestBinding 29 = .ok (.astore 5, 2) := by decide +kernel
theorem dX2_latestBinding_31 : decode cX2_latestBinding 31 = .ok (.aload 5, 2) := by decide +kernel
theorem dX2_latestBinding_33 : decode cX2_latestBinding 33 = .ok (.invokevirtual 125, 3) := by decide +kernel
theorem dX2_latestBinding_36 : decode cX2_latestBinding 36 = .ok (.ifCond .eq 20, 3) := by decide +kernel
theorem dX2_latestBinding_39 : decode cX2_latestBinding 39 = .ok (.aload 5, 2) := by decide +kernel
theorem dX2_latestBinding_41 : decode cX2_latestBinding 41 = .ok (.invokevirtual 213, 3) := by decide +kernel
theorem dX2_latestBinding_44 : decode cX2_latestBinding 44 = .ok (.iload_n 1, 1) := by decide +kernel
theorem dX2_latestBinding_45 : decode cX2_latestBinding 45 = .ok (.ishr, 1) := by decide +kernel
theorem dX2_latestBinding_46 : decode cX2_latestBinding 46 = .ok (.iconst 1, 1) := by decide +kernel
theorem dX2_latestBinding_47 : decode cX2_latestBinding 47 = .ok (.iand, 1) := by decide +kernel
theorem dX2_latestBinding_48 : decode cX2_latestBinding 48 = .ok (.iconst 1, 1) := by decide +kernel
theorem dX2_latestBinding_49 : decode cX2_latestBinding 49 = .ok (.if_icmp .ne 7, 3) := by decide +kernel
theorem dX2_latestBinding_52 : decode cX2_latestBinding 52 = .ok (.iconst 1, 1) := by decide +kernel
theorem dX2_latestBinding_53 : decode cX2_latestBinding 53 = .ok (.goto 4, 3) := by decide +kernel
theorem dX2_latestBinding_56 : decode cX2_latestBinding 56 = .ok (.iconst 0, 1) := by decide +kernel
theorem dX2_latestBinding_57 : decode cX2_latestBinding 57 = .ok (.istore 6, 2) := by decide +kernel
theorem dX2_latestBinding_59 : decode cX2_latestBinding 59 = .ok (.iload 6, 2) := by decide +kernel
theorem dX2_latestBinding_61 : decode cX2_latestBinding 61 = .ok (.ifCond .eq 21, 3) := by decide +kernel
theorem dX2_latestBinding_64 : decode cX2_latestBinding 64 = .ok (.aload 5, 2) := by decide +kernel
theorem dX2_latestBinding_66 : decode cX2_latestBinding 66 = .ok (.getfield 94, 3) := by decide +kernel
theorem dX2_latestBinding_69 : decode cX2_latestBinding 69 = .ok (.iload_n 3, 1) := by decide +kernel
theorem dX2_latestBinding_70 : decode cX2_latestBinding 70 = .ok (.if_icmp .lt 12, 3) := by decide +kernel
theorem dX2_latestBinding_73 : decode cX2_latestBinding 73 = .ok (.iload 4, 2) := by decide +kernel
theorem dX2_latestBinding_75 : decode cX2_latestBinding 75 = .ok (.istore_n 2, 1) := by decide +kernel
theorem dX2_latestBinding_76 : decode cX2_latestBinding 76 = .ok (.aload 5, 2) := by decide +kernel
theorem dX2_latestBinding_78 : decode cX2_latestBinding 78 = .ok (.getfield 94, 3) := by decide +kernel
theorem dX2_latestBinding_81 : decode cX2_latestBinding 81 = .ok (.istore_n 3, 1) := by decide +kernel
theorem dX2_latestBinding_82 : decode cX2_latestBinding 82 = .ok (.iinc 4 1, 3) := by decide +kernel
theorem dX2_latestBinding_85 : decode cX2_latestBinding 85 = .ok (.goto (-78), 3) := by decide +kernel
theorem dX2_latestBinding_88 : decode cX2_latestBinding 88 = .ok (.iload_n 2, 1) := by decide +kernel
theorem dX2_latestBinding_89 : decode cX2_latestBinding 89 = .ok (.ireturn, 1) := by decide +kernel
theorem dX2_boundOverIssue_0 : decode cX2_boundOverIssue 0 = .ok (.iconst 0, 1) := by decide +kernel
theorem dX2_boundOverIssue_1 : decode cX2_boundOverIssue 1 = .ok (.istore_n 2, 1) := by decide +kernel
theorem dX2_boundOverIssue_2 : decode cX2_boundOverIssue 2 = .ok (.iconst 0, 1) := by decide +kernel
theorem dX2_boundOverIssue_3 : decode cX2_boundOverIssue 3 = .ok (.istore_n 3, 1) := by decide +kernel
theorem dX2_boundOverIssue_4 : decode cX2_boundOverIssue 4 = .ok (.iload_n 3, 1) := by decide +kernel
theorem dX2_boundOverIssue_5 : decode cX2_boundOverIssue 5 = .ok (.aload_n 0, 1) := by decide +kernel
theorem dX2_boundOverIssue_6 : decode cX2_boundOverIssue 6 = .ok (.getfield 27, 3) := by decide +kernel
theorem dX2_boundOverIssue_9 : decode cX2_boundOverIssue 9 = .ok (.getfield 31, 3) := by decide +kernel
theorem dX2_boundOverIssue_12 : decode cX2_boundOverIssue 12 = .ok (.if_icmp .ge 47, 3) := by decide +kernel
theorem dX2_boundOverIssue_15 : decode cX2_boundOverIssue 15 = .ok (.aload_n 0, 1) := by decide +kernel
theorem dX2_boundOverIssue_16 : decode cX2_boundOverIssue 16 = .ok (.getfield 27, 3) := by decide +kernel
theorem dX2_boundOverIssue_19 : decode cX2_boundOverIssue 19 = .ok (.getfield 37, 3) := by decide +kernel
theorem dX2_boundOverIssue_22 : decode cX2_boundOverIssue 22 = .ok (.iload_n 3, 1) := by decide +kernel
theorem dX2_boundOverIssue_23 : decode cX2_boundOverIssue 23 = .ok (.aaload, 1) := by decide +kernel
theorem dX2_boundOverIssue_24 : decode cX2_boundOverIssue 24 = .ok (.astore 4, 2) := by decide +kernel
theorem dX2_boundOverIssue_26 : decode cX2_boundOverIssue 26 = .ok (.aload 4, 2) := by decide +kernel
theorem dX2_boundOverIssue_28 : decode cX2_boundOverIssue 28 = .ok (.getfield 53, 3) := by decide +kernel
theorem dX2_boundOverIssue_31 : decode cX2_boundOverIssue 31 = .ok (.aload 4, 2) := by decide +kernel
theorem dX2_boundOverIssue_33 : decode cX2_boundOverIssue 33 = .ok (.getfield 59, 3) := by decide +kernel
theorem dX2_boundOverIssue_36 : decode cX2_boundOverIssue 36 = .ok (.ior, 1) := by decide +kernel
theorem dX2_boundOverIssue_37 : decode cX2_boundOverIssue 37 = .ok (.iload_n 1, 1) := by decide +kernel
theorem dX2_boundOverIssue_38 : decode cX2_boundOverIssue 38 = .ok (.ishr, 1) := by decide +kernel
theorem dX2_boundOverIssue_39 : decode cX2_boundOverIssue 39 = .ok (.iconst 1, 1) := by decide +kernel
theorem dX2_boundOverIssue_40 : decode cX2_boundOverIssue 40 = .ok (.iand, 1) := by decide +kernel
theorem dX2_boundOverIssue_41 : decode cX2_boundOverIssue 41 = .ok (.iconst 1, 1) := by decide +kernel
theorem dX2_boundOverIssue_42 : decode cX2_boundOverIssue 42 = .ok (.if_icmp .ne 11, 3) := by decide +kernel
theorem dX2_boundOverIssue_45 : decode cX2_boundOverIssue 45 = .ok (.iload_n 2, 1) := by decide +kernel
theorem dX2_boundOverIssue_46 : decode cX2_boundOverIssue 46 = .ok (.aload 4, 2) := by decide +kernel
theorem dX2_boundOverIssue_48 : decode cX2_boundOverIssue 48 = .ok (.invokevirtual 213, 3) := by decide +kernel
theorem dX2_boundOverIssue_51 : decode cX2_boundOverIssue 51 = .ok (.ior, 1) := by decide +kernel
theorem dX2_boundOverIssue_52 : decode cX2_boundOverIssue 52 = .ok (.istore_n 2, 1) := by decide +kernel
theorem dX2_boundOverIssue_53 : decode cX2_boundOverIssue 53 = .ok (.iinc 3 1, 3) := by decide +kernel
theorem dX2_boundOverIssue_56 : decode cX2_boundOverIssue 56 = .ok (.goto (-52), 3) := by decide +kernel
theorem dX2_boundOverIssue_59 : decode cX2_boundOverIssue 59 = .ok (.iload_n 2, 1) := by decide +kernel
theorem dX2_boundOverIssue_60 : decode cX2_boundOverIssue 60 = .ok (.ireturn, 1) := by decide +kernel
theorem dX2_tabulate_0 : decode cX2_tabulate 0 = .ok (.iconst 0, 1) := by decide +kernel
theorem dX2_tabulate_1 : decode cX2_tabulate 1 = .ok (.istore_n 2, 1) := by decide +kernel
theorem dX2_tabulate_2 : decode cX2_tabulate 2 = .ok (.iload_n 2, 1) := by decide +kernel
theorem dX2_tabulate_3 : decode cX2_tabulate 3 = .ok (.aload_n 0, 1) := by decide +kernel
theorem dX2_tabulate_4 : decode cX2_tabulate 4 = .ok (.getfield 27, 3) := by decide +kernel
theorem dX2_tabulate_7 : decode cX2_tabulate 7 = .ok (.getfield 31, 3) := by decide +kernel
theorem dX2_tabulate_10 : decode cX2_tabulate 10 = .ok (.if_icmp .ge 167, 3) := by decide +kernel
theorem dX2_tabulate_13 : decode cX2_tabulate 13 = .ok (.iload_n 2, 1) := by decide +kernel
theorem dX2_tabulate_14 : decode cX2_tabulate 14 = .ok (.iconst 1, 1) := by decide +kernel
theorem dX2_tabulate_15 : decode cX2_tabulate 15 = .ok (.iadd, 1) := by decide +kernel
theorem dX2_tabulate_16 : decode cX2_tabulate 16 = .ok (.bipush 10, 2) := by decide +kernel
theorem dX2_tabulate_18 : decode cX2_tabulate 18 = .ok (.imul, 1) := by decide +kernel
theorem dX2_tabulate_19 : decode cX2_tabulate 19 = .ok (.aload_n 1, 1) := by decide +kernel
theorem dX2_tabulate_20 : decode cX2_tabulate 20 = .ok (.arraylength, 1) := by decide +kernel
theorem dX2_tabulate_21 : decode cX2_tabulate 21 = .ok (.if_icmp .gt 156, 3) := by decide +kernel
theorem dX2_tabulate_24 : decode cX2_tabulate 24 = .ok (.aload_n 0, 1) := by decide +kernel
theorem dX2_tabulate_25 : decode cX2_tabulate 25 = .ok (.getfield 27, 3) := by decide +kernel
theorem dX2_tabulate_28 : decode cX2_tabulate 28 = .ok (.getfield 37, 3) := by decide +kernel
theorem dX2_tabulate_31 : decode cX2_tabulate 31 = .ok (.iload_n 2, 1) := by decide +kernel
theorem dX2_tabulate_32 : decode cX2_tabulate 32 = .ok (.aaload, 1) := by decide +kernel
theorem dX2_tabulate_33 : decode cX2_tabulate 33 = .ok (.astore_n 3, 1) := by decide +kernel
theorem dX2_tabulate_34 : decode cX2_tabulate 34 = .ok (.iload_n 2, 1) := by decide +kernel
theorem dX2_tabulate_35 : decode cX2_tabulate 35 = .ok (.bipush 10, 2) := by decide +kernel
theorem dX2_tabulate_37 : decode cX2_tabulate 37 = .ok (.imul, 1) := by decide +kernel
theorem dX2_tabulate_38 : decode cX2_tabulate 38 = .ok (.istore 4, 2) := by decide +kernel
theorem dX2_tabulate_40 : decode cX2_tabulate 40 = .ok (.aload_n 0, 1) := by decide +kernel
theorem dX2_tabulate_41 : decode cX2_tabulate 41 = .ok (.aload_n 3, 1) := by decide +kernel
theorem dX2_tabulate_42 : decode cX2_tabulate 42 = .ok (.invokevirtual 207, 3) := by decide +kernel
theorem dX2_tabulate_45 : decode cX2_tabulate 45 = .ok (.istore 5, 2) := by decide +kernel
theorem dX2_tabulate_47 : decode cX2_tabulate 47 = .ok (.aload_n 1, 1) := by decide +kernel
theorem dX2_tabulate_48 : decode cX2_tabulate 48 = .ok (.iload 4, 2) := by decide +kernel
theorem dX2_tabulate_50 : decode cX2_tabulate 50 = .ok (.iload_n 2, 1) := by decide +kernel
theorem dX2_tabulate_51 : decode cX2_tabulate 51 = .ok (.iastore, 1) := by decide +kernel
theorem dX2_tabulate_52 : decode cX2_tabulate 52 = .ok (.aload_n 1, 1) := by decide +kernel
theorem dX2_tabulate_53 : decode cX2_tabulate 53 = .ok (.iload 4, 2) := by decide +kernel
theorem dX2_tabulate_55 : decode cX2_tabulate 55 = .ok (.iconst 1, 1) := by decide +kernel
theorem dX2_tabulate_56 : decode cX2_tabulate 56 = .ok (.iadd, 1) := by decide +kernel
theorem dX2_tabulate_57 : decode cX2_tabulate 57 = .ok (.aload_n 3, 1) := by decide +kernel
theorem dX2_tabulate_58 : decode cX2_tabulate 58 = .ok (.getfield 62, 3) := by decide +kernel
theorem dX2_tabulate_61 : decode cX2_tabulate 61 = .ok (.iastore, 1) := by decide +kernel
theorem dX2_tabulate_62 : decode cX2_tabulate 62 = .ok (.aload_n 1, 1) := by decide +kernel
theorem dX2_tabulate_63 : decode cX2_tabulate 63 = .ok (.iload 4, 2) := by decide +kernel
theorem dX2_tabulate_65 : decode cX2_tabulate 65 = .ok (.iconst 2, 1) := by decide +kernel
theorem dX2_tabulate_66 : decode cX2_tabulate 66 = .ok (.iadd, 1) := by decide +kernel
theorem dX2_tabulate_67 : decode cX2_tabulate 67 = .ok (.aload_n 3, 1) := by decide +kernel
theorem dX2_tabulate_68 : decode cX2_tabulate 68 = .ok (.getfield 72, 3) := by decide +kernel
theorem dX2_tabulate_71 : decode cX2_tabulate 71 = .ok (.iastore, 1) := by decide +kernel
theorem dX2_tabulate_72 : decode cX2_tabulate 72 = .ok (.aload_n 1, 1) := by decide +kernel
theorem dX2_tabulate_73 : decode cX2_tabulate 73 = .ok (.iload 4, 2) := by decide +kernel
theorem dX2_tabulate_75 : decode cX2_tabulate 75 = .ok (.iconst 3, 1) := by decide +kernel
theorem dX2_tabulate_76 : decode cX2_tabulate 76 = .ok (.iadd, 1) := by decide +kernel
theorem dX2_tabulate_77 : decode cX2_tabulate 77 = .ok (.aload_n 3, 1) := by decide +kernel
theorem dX2_tabulate_78 : decode cX2_tabulate 78 = .ok (.getfield 128, 3) := by decide +kernel
theorem dX2_tabulate_81 : decode cX2_tabulate 81 = .ok (.iastore, 1) := by decide +kernel
theorem dX2_tabulate_82 : decode cX2_tabulate 82 = .ok (.aload_n 1, 1) := by decide +kernel
theorem dX2_tabulate_83 : decode cX2_tabulate 83 = .ok (.iload 4, 2) := by decide +kernel
theorem dX2_tabulate_85 : decode cX2_tabulate 85 = .ok (.iconst 4, 1) := by decide +kernel
theorem dX2_tabulate_86 : decode cX2_tabulate 86 = .ok (.iadd, 1) := by decide +kernel
theorem dX2_tabulate_87 : decode cX2_tabulate 87 = .ok (.aload_n 3, 1) := by decide +kernel
theorem dX2_tabulate_88 : decode cX2_tabulate 88 = .ok (.getfield 94, 3) := by decide +kernel
theorem dX2_tabulate_91 : decode cX2_tabulate 91 = .ok (.iastore, 1) := by decide +kernel
theorem dX2_tabulate_92 : decode cX2_tabulate 92 = .ok (.aload_n 1, 1) := by decide +kernel
theorem dX2_tabulate_93 : decode cX2_tabulate 93 = .ok (.iload 4, 2) := by decide +kernel
theorem dX2_tabulate_95 : decode cX2_tabulate 95 = .ok (.iconst 5, 1) := by decide +kernel
theorem dX2_tabulate_96 : decode cX2_tabulate 96 = .ok (.iadd, 1) := by decide +kernel
theorem dX2_tabulate_97 : decode cX2_tabulate 97 = .ok (.aload_n 3, 1) := by decide +kernel
theorem dX2_tabulate_98 : decode cX2_tabulate 98 = .ok (.getfield 204, 3) := by decide +kernel
theorem dX2_tabulate_101 : decode cX2_tabulate 101 = .ok (.ifCond .eq 7, 3) := by decide +kernel
theorem dX2_tabulate_104 : decode cX2_tabulate 104 = .ok (.iconst (-1), 1) := by decide +kernel
theorem dX2_tabulate_105 : decode cX2_tabulate 105 = .ok (.goto 7, 3) := by decide +kernel
theorem dX2_tabulate_108 : decode cX2_tabulate 108 = .ok (.aload_n 3, 1) := by decide +kernel
theorem dX2_tabulate_109 : decode cX2_tabulate 109 = .ok (.invokevirtual 222, 3) := by decide +kernel
theorem dX2_tabulate_112 : decode cX2_tabulate 112 = .ok (.iastore, 1) := by decide +kernel
theorem dX2_tabulate_113 : decode cX2_tabulate 113 = .ok (.aload_n 1, 1) := by decide +kernel
theorem dX2_tabulate_114 : decode cX2_tabulate 114 = .ok (.iload 4, 2) := by decide +kernel
theorem dX2_tabulate_116 : decode cX2_tabulate 116 = .ok (.bipush 6, 2) := by decide +kernel
theorem dX2_tabulate_118 : decode cX2_tabulate 118 = .ok (.iadd, 1) := by decide +kernel
theorem dX2_tabulate_119 : decode cX2_tabulate 119 = .ok (.aload_n 0, 1) := by decide +kernel
theorem dX2_tabulate_120 : decode cX2_tabulate 120 = .ok (.aload_n 3, 1) := by decide +kernel
theorem dX2_tabulate_121 : decode cX2_tabulate 121 = .ok (.invokevirtual 191, 3) := by decide +kernel
theorem dX2_tabulate_124 : decode cX2_tabulate 124 = .ok (.invokestatic 134, 3) := by decide +kernel
theorem dX2_tabulate_127 : decode cX2_tabulate 127 = .ok (.iastore, 1) := by decide +kernel
theorem dX2_tabulate_128 : decode cX2_tabulate 128 = .ok (.aload_n 1, 1) := by decide +kernel
theorem dX2_tabulate_129 : decode cX2_tabulate 129 = .ok (.iload 4, 2) := by decide +kernel
theorem dX2_tabulate_131 : decode cX2_tabulate 131 = .ok (.bipush 7, 2) := by decide +kernel
theorem dX2_tabulate_133 : decode cX2_tabulate 133 = .ok (.iadd, 1) := by decide +kernel
theorem dX2_tabulate_134 : decode cX2_tabulate 134 = .ok (.iload 5, 2) := by decide +kernel
theorem dX2_tabulate_136 : decode cX2_tabulate 136 = .ok (.invokestatic 134, 3) := by decide +kernel
theorem dX2_tabulate_139 : decode cX2_tabulate 139 = .ok (.iastore, 1) := by decide +kernel
theorem dX2_tabulate_140 : decode cX2_tabulate 140 = .ok (.aload_n 1, 1) := by decide +kernel
theorem dX2_tabulate_141 : decode cX2_tabulate 141 = .ok (.iload 4, 2) := by decide +kernel
theorem dX2_tabulate_143 : decode cX2_tabulate 143 = .ok (.bipush 8, 2) := by decide +kernel
theorem dX2_tabulate_145 : decode cX2_tabulate 145 = .ok (.iadd, 1) := by decide +kernel
theorem dX2_tabulate_146 : decode cX2_tabulate 146 = .ok (.aload_n 3, 1) := by decide +kernel
theorem dX2_tabulate_147 : decode cX2_tabulate 147 = .ok (.invokevirtual 225, 3) := by decide +kernel
theorem dX2_tabulate_150 : decode cX2_tabulate 150 = .ok (.iload 5, 2) := by decide +kernel
theorem dX2_tabulate_152 : decode cX2_tabulate 152 = .ok (.iconst (-1), 1) := by decide +kernel
theorem dX2_tabulate_153 : decode cX2_tabulate 153 = .ok (.ixor, 1) := by decide +kernel
theorem dX2_tabulate_154 : decode cX2_tabulate 154 = .ok (.iand, 1) := by decide +kernel
theorem dX2_tabulate_155 : decode cX2_tabulate 155 = .ok (.invokestatic 134, 3) := by decide +kernel
theorem dX2_tabulate_158 : decode cX2_tabulate 158 = .ok (.iastore, 1) := by decide +kernel
theorem dX2_tabulate_159 : decode cX2_tabulate 159 = .ok (.aload_n 1, 1) := by decide +kernel
theorem dX2_tabulate_160 : decode cX2_tabulate 160 = .ok (.iload 4, 2) := by decide +kernel
theorem dX2_tabulate_162 : decode cX2_tabulate 162 = .ok (.bipush 9, 2) := by decide +kernel
theorem dX2_tabulate_164 : decode cX2_tabulate 164 = .ok (.iadd, 1) := by decide +kernel
theorem dX2_tabulate_165 : decode cX2_tabulate 165 = .ok (.aload_n 0, 1) := by decide +kernel
theorem dX2_tabulate_166 : decode cX2_tabulate 166 = .ok (.aload_n 3, 1) := by decide +kernel
theorem dX2_tabulate_167 : decode cX2_tabulate 167 = .ok (.invokevirtual 210, 3) := by decide +kernel
theorem dX2_tabulate_170 : decode cX2_tabulate 170 = .ok (.iastore, 1) := by decide +kernel
theorem dX2_tabulate_171 : decode cX2_tabulate 171 = .ok (.iinc 2 1, 3) := by decide +kernel
theorem dX2_tabulate_174 : decode cX2_tabulate 174 = .ok (.goto (-172), 3) := by decide +kernel
theorem dX2_tabulate_177 : decode cX2_tabulate 177 = .ok (.return_, 1) := by decide +kernel
theorem dX3_init_0 : decode cX3_init 0 = .ok (.aload_n 0, 1) := by decide +kernel
theorem dX3_init_1 : decode cX3_init 1 = .ok (.invokespecial 3, 3) := by decide +kernel
theorem dX3_init_4 : decode cX3_init 4 = .ok (.return_, 1) := by decide +kernel
theorem dX3_become_0 : decode cX3_become 0 = .ok (.aload_n 0, 1) := by decide +kernel
theorem dX3_become_1 : decode cX3_become 1 = .ok (.aload_n 1, 1) := by decide +kernel
theorem dX3_become_2 : decode cX3_become 2 = .ok (.getfield 9, 3) := by decide +kernel
theorem dX3_become_5 : decode cX3_become 5 = .ok (.putfield 9, 3) := by decide +kernel
theorem dX3_become_8 : decode cX3_become 8 = .ok (.aload_n 0, 1) := by decide +kernel
theorem dX3_become_9 : decode cX3_become 9 = .ok (.aload_n 1, 1) := by decide +kernel
theorem dX3_become_10 : decode cX3_become 10 = .ok (.getfield 15, 3) := by decide +kernel
theorem dX3_become_13 : decode cX3_become 13 = .ok (.putfield 15, 3) := by decide +kernel
theorem dX3_become_16 : decode cX3_become 16 = .ok (.aload_n 0, 1) := by decide +kernel
theorem dX3_become_17 : decode cX3_become 17 = .ok (.aload_n 1, 1) := by decide +kernel
theorem dX3_become_18 : decode cX3_become 18 = .ok (.getfield 18, 3) := by decide +kernel
theorem dX3_become_21 : decode cX3_become 21 = .ok (.putfield 18, 3) := by decide +kernel
theorem dX3_become_24 : decode cX3_become 24 = .ok (.aload_n 0, 1) := by decide +kernel
theorem dX3_become_25 : decode cX3_become 25 = .ok (.aload_n 1, 1) := by decide +kernel
theorem dX3_become_26 : decode cX3_become 26 = .ok (.getfield 21, 3) := by decide +kernel
theorem dX3_become_29 : decode cX3_become 29 = .ok (.putfield 21, 3) := by decide +kernel
theorem dX3_become_32 : decode cX3_become 32 = .ok (.return_, 1) := by decide +kernel
theorem dX3_isRuler_0 : decode cX3_isRuler 0 = .ok (.aload_n 0, 1) := by decide +kernel
theorem dX3_isRuler_1 : decode cX3_isRuler 1 = .ok (.getfield 21, 3) := by decide +kernel
theorem dX3_isRuler_4 : decode cX3_isRuler 4 = .ok (.iconst (-1), 1) := by decide +kernel
theorem dX3_isRuler_5 : decode cX3_isRuler 5 = .ok (.if_icmp .eq 7, 3) := by decide +kernel
theorem dX3_isRuler_8 : decode cX3_isRuler 8 = .ok (.iconst 1, 1) := by decide +kernel
theorem dX3_isRuler_9 : decode cX3_isRuler 9 = .ok (.goto 4, 3) := by decide +kernel
theorem dX3_isRuler_12 : decode cX3_isRuler 12 = .ok (.iconst 0, 1) := by decide +kernel
theorem dX3_isRuler_13 : decode cX3_isRuler 13 = .ok (.ireturn, 1) := by decide +kernel
theorem dX3_carries_0 : decode cX3_carries 0 = .ok (.aload_n 0, 1) := by decide +kernel
theorem dX3_carries_1 : decode cX3_carries 1 = .ok (.invokevirtual 24, 3) := by decide +kernel
theorem dX3_carries_4 : decode cX3_carries 4 = .ok (.ifCond .eq 27, 3) := by decide +kernel
theorem dX3_carries_7 : decode cX3_carries 7 = .ok (.aload_n 0, 1) := by decide +kernel
theorem dX3_carries_8 : decode cX3_carries 8 = .ok (.getfield 18, 3) := by decide +kernel
theorem dX3_carries_11 : decode cX3_carries 11 = .ok (.iload_n 1, 1) := by decide +kernel
theorem dX3_carries_12 : decode cX3_carries 12 = .ok (.if_icmp .gt 15, 3) := by decide +kernel
theorem dX3_carries_15 : decode cX3_carries 15 = .ok (.iload_n 1, 1) := by decide +kernel
theorem dX3_carries_16 : decode cX3_carries 16 = .ok (.aload_n 0, 1) := by decide +kernel
theorem dX3_carries_17 : decode cX3_carries 17 = .ok (.getfield 21, 3) := by decide +kernel
theorem dX3_carries_20 : decode cX3_carries 20 = .ok (.if_icmp .gt 7, 3) := by decide +kernel
theorem dX3_carries_23 : decode cX3_carries 23 = .ok (.iconst 1, 1) := by decide +kernel
theorem dX3_carries_24 : decode cX3_carries 24 = .ok (.goto 20, 3) := by decide +kernel
theorem dX3_carries_27 : decode cX3_carries 27 = .ok (.iconst 0, 1) := by decide +kernel
theorem dX3_carries_28 : decode cX3_carries 28 = .ok (.goto 16, 3) := by decide +kernel
theorem dX3_carries_31 : decode cX3_carries 31 = .ok (.aload_n 0, 1) := by decide +kernel
theorem dX3_carries_32 : decode cX3_carries 32 = .ok (.getfield 18, 3) := by decide +kernel
theorem dX3_carries_35 : decode cX3_carries 35 = .ok (.iload_n 1, 1) := by decide +kernel
theorem dX3_carries_36 : decode cX3_carries 36 = .ok (.if_icmp .lt 7, 3) := by decide +kernel
theorem dX3_carries_39 : decode cX3_carries 39 = .ok (.iconst 1, 1) := by decide +kernel
theorem dX3_carries_40 : decode cX3_carries 40 = .ok (.goto 4, 3) := by decide +kernel
theorem dX3_carries_43 : decode cX3_carries 43 = .ok (.iconst 0, 1) := by decide +kernel
theorem dX3_carries_44 : decode cX3_carries 44 = .ok (.ireturn, 1) := by decide +kernel
theorem dX4_init_0 : decode cX4_init 0 = .ok (.aload_n 0, 1) := by decide +kernel
theorem dX4_init_1 : decode cX4_init 1 = .ok (.invokespecial 3, 3) := by decide +kernel
theorem dX4_init_4 : decode cX4_init 4 = .ok (.aload_n 0, 1) := by decide +kernel
theorem dX4_init_5 : decode cX4_init 5 = .ok (.bipush 72, 2) := by decide +kernel
theorem dX4_init_7 : decode cX4_init 7 = .ok (.newarray .int, 2) := by decide +kernel
theorem dX4_init_9 : decode cX4_init 9 = .ok (.putfield 9, 3) := by decide +kernel
theorem dX4_init_12 : decode cX4_init 12 = .ok (.aload_n 0, 1) := by decide +kernel
theorem dX4_init_13 : decode cX4_init 13 = .ok (.bipush 24, 2) := by decide +kernel
theorem dX4_init_15 : decode cX4_init 15 = .ok (.anewarray 15, 3) := by decide +kernel
theorem dX4_init_18 : decode cX4_init 18 = .ok (.putfield 17, 3) := by decide +kernel
theorem dX4_init_21 : decode cX4_init 21 = .ok (.aload_n 0, 1) := by decide +kernel
theorem dX4_init_22 : decode cX4_init 22 = .ok (.bipush 10, 2) := by decide +kernel
theorem dX4_init_24 : decode cX4_init 24 = .ok (.anewarray 21, 3) := by decide +kernel
theorem dX4_init_27 : decode cX4_init 27 = .ok (.putfield 23, 3) := by decide +kernel
theorem dX4_init_30 : decode cX4_init 30 = .ok (.aload_n 0, 1) := by decide +kernel
theorem dX4_init_31 : decode cX4_init 31 = .ok (.iconst 3, 1) := by decide +kernel
theorem dX4_init_32 : decode cX4_init 32 = .ok (.newarray .int, 2) := by decide +kernel
theorem dX4_init_34 : decode cX4_init 34 = .ok (.putfield 27, 3) := by decide +kernel
theorem dX4_init_37 : decode cX4_init 37 = .ok (.aload_n 0, 1) := by decide +kernel
theorem dX4_init_38 : decode cX4_init 38 = .ok (.invokevirtual 30, 3) := by decide +kernel
theorem dX4_init_41 : decode cX4_init 41 = .ok (.iconst 0, 1) := by decide +kernel
theorem dX4_init_42 : decode cX4_init 42 = .ok (.istore_n 1, 1) := by decide +kernel
theorem dX4_init_43 : decode cX4_init 43 = .ok (.iload_n 1, 1) := by decide +kernel
theorem dX4_init_44 : decode cX4_init 44 = .ok (.bipush 24, 2) := by decide +kernel
theorem dX4_init_46 : decode cX4_init 46 = .ok (.if_icmp .ge 22, 3) := by decide +kernel
theorem dX4_init_49 : decode cX4_init 49 = .ok (.aload_n 0, 1) := by decide +kernel
theorem dX4_init_50 : decode cX4_init 50 = .ok (.getfield 17, 3) := by decide +kernel
theorem dX4_init_53 : decode cX4_init 53 = .ok (.iload_n 1, 1) := by decide +kernel
theorem dX4_init_54 : decode cX4_init 54 = .ok (.new 15, 3) := by decide +kernel
theorem dX4_init_57 : decode cX4_init 57 = .ok (.dup, 1) := by decide +kernel
theorem dX4_init_58 : decode cX4_init 58 = .ok (.invokespecial 33, 3) := by decide +kernel
theorem dX4_init_61 : decode cX4_init 61 = .ok (.aastore, 1) := by decide +kernel
theorem dX4_init_62 : decode cX4_init 62 = .ok (.iinc 1 1, 3) := by decide +kernel
theorem dX4_init_65 : decode cX4_init 65 = .ok (.goto (-22), 3) := by decide +kernel
theorem dX4_init_68 : decode cX4_init 68 = .ok (.iconst 0, 1) := by decide +kernel
theorem dX4_init_69 : decode cX4_init 69 = .ok (.istore_n 1, 1) := by decide +kernel
theorem dX4_init_70 : decode cX4_init 70 = .ok (.iload_n 1, 1) := by decide +kernel
theorem dX4_init_71 : decode cX4_init 71 = .ok (.bipush 10, 2) := by decide +kernel
theorem dX4_init_73 : decode cX4_init 73 = .ok (.if_icmp .ge 23, 3) := by decide +kernel
theorem dX4_init_76 : decode cX4_init 76 = .ok (.aload_n 0, 1) := by decide +kernel
theorem dX4_init_77 : decode cX4_init 77 = .ok (.getfield 23, 3) := by decide +kernel
theorem dX4_init_80 : decode cX4_init 80 = .ok (.iload_n 1, 1) := by decide +kernel
theorem dX4_init_81 : decode cX4_init 81 = .ok (.new 21, 3) := by decide +kernel
theorem dX4_init_84 : decode cX4_init 84 = .ok (.dup, 1) := by decide +kernel
theorem dX4_init_85 : decode cX4_init 85 = .ok (.iload_n 1, 1) := by decide +kernel
theorem dX4_init_86 : decode cX4_init 86 = .ok (.invokespecial 34, 3) := by decide +kernel
theorem dX4_init_89 : decode cX4_init 89 = .ok (.aastore, 1) := by decide +kernel
theorem dX4_init_90 : decode cX4_init 90 = .ok (.iinc 1 1, 3) := by decide +kernel
theorem dX4_init_93 : decode cX4_init 93 = .ok (.goto (-23), 3) := by decide +kernel
theorem dX4_init_96 : decode cX4_init 96 = .ok (.return_, 1) := by decide +kernel
theorem dX4_clear_0 : decode cX4_clear 0 = .ok (.aload_n 0, 1) := by decide +kernel
theorem dX4_clear_1 : decode cX4_clear 1 = .ok (.iconst 0, 1) := by decide +kernel
theorem dX4_clear_2 : decode cX4_clear 2 = .ok (.putfield 37, 3) := by decide +kernel
theorem dX4_clear_5 : decode cX4_clear 5 = .ok (.aload_n 0, 1) := by decide +kernel
theorem dX4_clear_6 : decode cX4_clear 6 = .ok (.iconst 0, 1) := by decide +kernel
theorem dX4_clear_7 : decode cX4_clear 7 = .ok (.putfield 41, 3) := by decide +kernel
theorem dX4_clear_10 : decode cX4_clear 10 = .ok (.aload_n 0, 1) := by decide +kernel
theorem dX4_clear_11 : decode cX4_clear 11 = .ok (.iconst 0, 1) := by decide +kernel
theorem dX4_clear_12 : decode cX4_clear 12 = .ok (.putfield 44, 3) := by decide +kernel
theorem dX4_clear_15 : decode cX4_clear 15 = .ok (.aload_n 0, 1) := by decide +kernel
theorem dX4_clear_16 : decode cX4_clear 16 = .ok (.getfield 27, 3) := by decide +kernel
theorem dX4_clear_19 : decode cX4_clear 19 = .ok (.iconst 0, 1) := by decide +kernel
theorem dX4_clear_20 : decode cX4_clear 20 = .ok (.bipush 50, 2) := by decide +kernel
theorem dX4_clear_22 : decode cX4_clear 22 = .ok (.iastore, 1) := by decide +kernel
theorem dX4_clear_23 : decode cX4_clear 23 = .ok (.aload_n 0, 1) := by decide +kernel
theorem dX4_clear_24 : decode cX4_clear 24 = .ok (.getfield 27, 3) := by decide +kernel
theorem dX4_clear_27 : decode cX4_clear 27 = .ok (.iconst 1, 1) := by decide +kernel
theorem dX4_clear_28 : decode cX4_clear 28 = .ok (.iconst 0, 1) := by decide +kernel
theorem dX4_clear_29 : decode cX4_clear 29 = .ok (.iastore, 1) := by decide +kernel
theorem dX4_clear_30 : decode cX4_clear 30 = .ok (.aload_n 0, 1) := by decide +kernel
theorem dX4_clear_31 : decode cX4_clear 31 = .ok (.getfield 27, 3) := by decide +kernel
theorem dX4_clear_34 : decode cX4_clear 34 = .ok (.iconst 2, 1) := by decide +kernel
theorem dX4_clear_35 : decode cX4_clear 35 = .ok (.iconst 0, 1) := by decide +kernel
theorem dX4_clear_36 : decode cX4_clear 36 = .ok (.iastore, 1) := by decide +kernel
theorem dX4_clear_37 : decode cX4_clear 37 = .ok (.return_, 1) := by decide +kernel
theorem dX4_become_0 : decode cX4_become 0 = .ok (.aload_n 0, 1) := by decide +kernel
theorem dX4_become_1 : decode cX4_become 1 = .ok (.aload_n 1, 1) := by decide +kernel
theorem dX4_become_2 : decode cX4_become 2 = .ok (.getfield 37, 3) := by decide +kernel
theorem dX4_become_5 : decode cX4_become 5 = .ok (.putfield 37, 3) := by decide +kernel
theorem dX4_become_8 : decode cX4_become 8 = .ok (.aload_n 0, 1) := by decide +kernel
theorem dX4_become_9 : decode cX4_become 9 = .ok (.aload_n 1, 1) := by decide +kernel
theorem dX4_become_10 : decode cX4_become 10 = .ok (.getfield 41, 3) := by decide +kernel
theorem dX4_become_13 : decode cX4_become 13 = .ok (.putfield 41, 3) := by decide +kernel
theorem dX4_become_16 : decode cX4_become 16 = .ok (.aload_n 0, 1) := by decide +kernel
theorem dX4_become_17 : decode cX4_become 17 = .ok (.aload_n 1, 1) := by decide +kernel
theorem dX4_become_18 : decode cX4_become 18 = .ok (.getfield 44, 3) := by decide +kernel
theorem dX4_become_21 : decode cX4_become 21 = .ok (.putfield 44, 3) := by decide +kernel
theorem dX4_become_24 : decode cX4_become 24 = .ok (.aload_n 1, 1) := by decide +kernel
theorem dX4_become_25 : decode cX4_become 25 = .ok (.getfield 9, 3) := by decide +kernel
theorem dX4_become_28 : decode cX4_become 28 = .ok (.iconst 0, 1) := by decide +kernel
theorem dX4_become_29 : decode cX4_become 29 = .ok (.aload_n 0, 1) := by decide +kernel
theorem dX4_become_30 : decode cX4_become 30 = .ok (.getfield 9, 3) := by decide +kernel
theorem dX4_become_33 : decode cX4_become 33 = .ok (.iconst 0, 1) := by decide +kernel
theorem dX4_become_34 : decode cX4_become 34 = .ok (.aload_n 0, 1) := by decide +kernel
theorem dX4_become_35 : decode cX4_become 35 = .ok (.getfield 9, 3) := by decide +kernel
theorem dX4_become_38 : decode cX4_become 38 = .ok (.arraylength, 1) := by decide +kernel
theorem dX4_become_39 : decode cX4_become 39 = .ok (.invokestatic 47, 3) := by decide +kernel
theorem dX4_become_42 : decode cX4_become 42 = .ok (.aload_n 1, 1) := by decide +kernel
theorem dX4_become_43 : decode cX4_become 43 = .ok (.getfield 27, 3) := by decide +kernel
theorem dX4_become_46 : decode cX4_become 46 = .ok (.iconst 0, 1) := by decide +kernel
theorem dX4_become_47 : decode cX4_become 47 = .ok (.aload_n 0, 1) := by decide +kernel
theorem dX4_become_48 : decode cX4_become 48 = .ok (.getfield 27, 3) := by decide +kernel
theorem dX4_become_51 : decode cX4_become 51 = .ok (.iconst 0, 1) := by decide +kernel
theorem dX4_become_52 : decode cX4_become 52 = .ok (.aload_n 0, 1) := by decide +kernel
theorem dX4_become_53 : decode cX4_become 53 = .ok (.getfield 27, 3) := by decide +kernel
theorem dX4_become_56 : decode cX4_become 56 = .ok (.arraylength, 1) := by decide +kernel
theorem dX4_become_57 : decode cX4_become 57 = .ok (.invokestatic 47, 3) := by decide +kernel
theorem dX4_become_60 : decode cX4_become 60 = .ok (.iconst 0, 1) := by decide +kernel
theorem dX4_become_61 : decode cX4_become 61 = .ok (.istore_n 2, 1) := by decide +kernel
theorem dX4_become_62 : decode cX4_become 62 = .ok (.iload_n 2, 1) := by decide +kernel
theorem dX4_become_63 : decode cX4_become 63 = .ok (.aload_n 0, 1) := by decide +kernel
theorem dX4_become_64 : decode cX4_become 64 = .ok (.getfield 41, 3) := by decide +kernel
theorem dX4_become_67 : decode cX4_become 67 = .ok (.if_icmp .ge 30, 3) := by decide +kernel
theorem dX4_become_70 : decode cX4_become 70 = .ok (.iload_n 2, 1) := by decide +kernel
theorem dX4_become_71 : decode cX4_become 71 = .ok (.bipush 24, 2) := by decide +kernel
theorem dX4_become_73 : decode cX4_become 73 = .ok (.if_icmp .ge 24, 3) := by decide +kernel
theorem dX4_become_76 : decode cX4_become 76 = .ok (.aload_n 0, 1) := by decide +kernel
theorem dX4_become_77 : decode cX4_become 77 = .ok (.getfield 17, 3) := by decide +kernel
theorem dX4_become_80 : decode cX4_become 80 = .ok (.iload_n 2, 1) := by decide +kernel
theorem dX4_become_81 : decode cX4_become 81 = .ok (.aaload, 1) := by decide +kernel
theorem dX4_become_82 : decode cX4_become 82 = .ok (.aload_n 1, 1) := by decide +kernel
theorem dX4_become_83 : decode cX4_become 83 = .ok (.getfield 17, 3) := by decide +kernel
theorem dX4_become_86 : decode cX4_become 86 = .ok (.iload_n 2, 1) := by decide +kernel
theorem dX4_become_87 : decode cX4_become 87 = .ok (.aaload, 1) := by decide +kernel
theorem dX4_become_88 : decode cX4_become 88 = .ok (.invokevirtual 53, 3) := by decide +kernel
theorem dX4_become_91 : decode cX4_become 91 = .ok (.iinc 2 1, 3) := by decide +kernel
theorem dX4_become_94 : decode cX4_become 94 = .ok (.goto (-32), 3) := by decide +kernel
theorem dX4_become_97 : decode cX4_become 97 = .ok (.iconst 0, 1) := by decide +kernel
theorem dX4_become_98 : decode cX4_become 98 = .ok (.istore_n 2, 1) := by decide +kernel
theorem dX4_become_99 : decode cX4_become 99 = .ok (.iload_n 2, 1) := by decide +kernel
theorem dX4_become_100 : decode cX4_become 100 = .ok (.aload_n 0, 1) := by decide +kernel
theorem dX4_become_101 : decode cX4_become 101 = .ok (.getfield 44, 3) := by decide +kernel
theorem dX4_become_104 : decode cX4_become 104 = .ok (.if_icmp .ge 30, 3) := by decide +kernel
theorem dX4_become_107 : decode cX4_become 107 = .ok (.iload_n 2, 1) := by decide +kernel
theorem dX4_become_108 : decode cX4_become 108 = .ok (.bipush 10, 2) := by decide +kernel
theorem dX4_become_110 : decode cX4_become 110 = .ok (.if_icmp .ge 24, 3) := by decide +kernel
theorem dX4_become_113 : decode cX4_become 113 = .ok (.aload_n 0, 1) := by decide +kernel
theorem dX4_become_114 : decode cX4_become 114 = .ok (.getfield 23, 3) := by decide +kernel
theorem dX4_become_117 : decode cX4_become 117 = .ok (.iload_n 2, 1) := by decide +kernel
theorem dX4_become_118 : decode cX4_become 118 = .ok (.aaload, 1) := by decide +kernel
theorem dX4_become_119 : decode cX4_become 119 = .ok (.aload_n 1, 1) := by decide +kernel
theorem dX4_become_120 : decode cX4_become 120 = .ok (.getfield 23, 3) := by decide +kernel
theorem dX4_become_123 : decode cX4_become 123 = .ok (.iload_n 2, 1) := by decide +kernel
theorem dX4_become_124 : decode cX4_become 124 = .ok (.aaload, 1) := by decide +kernel
theorem dX4_become_125 : decode cX4_become 125 = .ok (.invokevirtual 57, 3) := by decide +kernel
theorem dX4_become_128 : decode cX4_become 128 = .ok (.iinc 2 1, 3) := by decide +kernel
theorem dX4_become_131 : decode cX4_become 131 = .ok (.goto (-32), 3) := by decide +kernel
theorem dX4_become_134 : decode cX4_become 134 = .ok (.return_, 1) := by decide +kernel
theorem dX4_judgedCount_0 : decode cX4_judgedCount 0 = .ok (.iconst 0, 1) := by decide +kernel
theorem dX4_judgedCount_1 : decode cX4_judgedCount 1 = .ok (.istore_n 1, 1) := by decide +kernel
theorem dX4_judgedCount_2 : decode cX4_judgedCount 2 = .ok (.iconst 0, 1) := by decide +kernel
theorem dX4_judgedCount_3 : decode cX4_judgedCount 3 = .ok (.istore_n 2, 1) := by decide +kernel
theorem dX4_judgedCount_4 : decode cX4_judgedCount 4 = .ok (.iload_n 2, 1) := by decide +kernel
theorem dX4_judgedCount_5 : decode cX4_judgedCount 5 = .ok (.aload_n 0, 1) := by decide +kernel
theorem dX4_judgedCount_6 : decode cX4_judgedCount 6 = .ok (.getfield 44, 3) := by decide +kernel
theorem dX4_judgedCount_9 : decode cX4_judgedCount 9 = .ok (.if_icmp .ge 29, 3) := by decide +kernel
theorem dX4_judgedCount_12 : decode cX4_judgedCount 12 = .ok (.iload_n 1, 1) := by decide +kernel
theorem dX4_judgedCount_13 : decode cX4_judgedCount 13 = .ok (.aload_n 0, 1) := by decide +kernel
theorem dX4_judgedCount_14 : decode cX4_judgedCount 14 = .ok (.getfield 23, 3) := by decide +kernel
theorem dX4_judgedCount_17 : decode cX4_judgedCount 17 = .ok (.iload_n 2, 1) := by decide +kernel
theorem dX4_judgedCount_18 : decode cX4_judgedCount 18 = .ok (.aaload, 1) := by decide +kernel
theorem dX4_judgedCount_19 : decode cX4_judgedCount 19 = .ok (.invokevirtual 60, 3) := by decide +kernel
theorem dX4_judgedCount_22 : decode cX4_judgedCount 22 = .ok (.ifCond .eq 7, 3) := by decide +kernel
theorem dX4_judgedCount_25 : decode cX4_judgedCount 25 = .ok (.iconst 1, 1) := by decide +kernel
theorem dX4_judgedCount_26 : decode cX4_judgedCount 26 = .ok (.goto 4, 3) := by decide +kernel
theorem dX4_judgedCount_29 : decode cX4_judgedCount 29 = .ok (.iconst 0, 1) := by decide +kernel
theorem dX4_judgedCount_30 : decode cX4_judgedCount 30 = .ok (.iadd, 1) := by decide +kernel
theorem dX4_judgedCount_31 : decode cX4_judgedCount 31 = .ok (.istore_n 1, 1) := by decide +kernel
theorem dX4_judgedCount_32 : decode cX4_judgedCount 32 = .ok (.iinc 2 1, 3) := by decide +kernel
theorem dX4_judgedCount_35 : decode cX4_judgedCount 35 = .ok (.goto (-31), 3) := by decide +kernel
theorem dX4_judgedCount_38 : decode cX4_judgedCount 38 = .ok (.iload_n 1, 1) := by decide +kernel
theorem dX4_judgedCount_39 : decode cX4_judgedCount 39 = .ok (.ireturn, 1) := by decide +kernel
theorem dX4_reversedCount_0 : decode cX4_reversedCount 0 = .ok (.iconst 0, 1) := by decide +kernel
theorem dX4_reversedCount_1 : decode cX4_reversedCount 1 = .ok (.istore_n 1, 1) := by decide +kernel
theorem dX4_reversedCount_2 : decode cX4_reversedCount 2 = .ok (.iconst 0, 1) := by decide +kernel
theorem dX4_reversedCount_3 : decode cX4_reversedCount 3 = .ok (.istore_n 2, 1) := by decide +kernel
theorem dX4_reversedCount_4 : decode cX4_reversedCount 4 = .ok (.iload_n 2, 1) := by decide +kernel
theorem dX4_reversedCount_5 : decode cX4_reversedCount 5 = .ok (.aload_n 0, 1) := by decide +kernel
theorem dX4_reversedCount_6 : decode cX4_reversedCount 6 = .ok (.getfield 44, 3) := by decide +kernel
theorem dX4_reversedCount_9 : decode cX4_reversedCount 9 = .ok (.if_icmp .ge 29, 3) := by decide +kernel
theorem dX4_reversedCount_12 : decode cX4_reversedCount 12 = .ok (.iload_n 1, 1) := by decide +kernel
theorem dX4_reversedCount_13 : decode cX4_reversedCount 13 = .ok (.aload_n 0, 1) := by decide +kernel
theorem dX4_reversedCount_14 : decode cX4_reversedCount 14 = .ok (.getfield 23, 3) := by decide +kernel
theorem dX4_reversedCount_17 : decode cX4_reversedCount 17 = .ok (.iload_n 2, 1) := by decide +kernel
theorem dX4_reversedCount_18 : decode cX4_reversedCount 18 = .ok (.aaload, 1) := by decide +kernel
theorem dX4_reversedCount_19 : decode cX4_reversedCount 19 = .ok (.getfield 64, 3) := by decide +kernel
theorem dX4_reversedCount_22 : decode cX4_reversedCount 22 = .ok (.ifCond .eq 7, 3) := by decide +kernel
theorem dX4_reversedCount_25 : decode cX4_reversedCount 25 = .ok (.iconst 1, 1) := by decide +kernel
theorem dX4_reversedCount_26 : decode cX4_reversedCount 26 = .ok (.goto 4, 3) := by decide +kernel
theorem dX4_reversedCount_29 : decode cX4_reversedCount 29 = .ok (.iconst 0, 1) := by decide +kernel
theorem dX4_reversedCount_30 : decode cX4_reversedCount 30 = .ok (.iadd, 1) := by decide +kernel
theorem dX4_reversedCount_31 : decode cX4_reversedCount 31 = .ok (.istore_n 1, 1) := by decide +kernel
theorem dX4_reversedCount_32 : decode cX4_reversedCount 32 = .ok (.iinc 2 1, 3) := by decide +kernel
theorem dX4_reversedCount_35 : decode cX4_reversedCount 35 = .ok (.goto (-31), 3) := by decide +kernel
theorem dX4_reversedCount_38 : decode cX4_reversedCount 38 = .ok (.iload_n 1, 1) := by decide +kernel
theorem dX4_reversedCount_39 : decode cX4_reversedCount 39 = .ok (.ireturn, 1) := by decide +kernel
theorem dX4_insertLink_0 : decode cX4_insertLink 0 = .ok (.aload_n 0, 1) := by decide +kernel
theorem dX4_insertLink_1 : decode cX4_insertLink 1 = .ok (.getfield 41, 3) := by decide +kernel
theorem dX4_insertLink_4 : decode cX4_insertLink 4 = .ok (.bipush 24, 2) := by decide +kernel
theorem dX4_insertLink_6 : decode cX4_insertLink 6 = .ok (.if_icmp .ge 15, 3) := by decide +kernel
theorem dX4_insertLink_9 : decode cX4_insertLink 9 = .ok (.iload_n 1, 1) := by decide +kernel
theorem dX4_insertLink_10 : decode cX4_insertLink 10 = .ok (.ifCond .lt 11, 3) := by decide +kernel
theorem dX4_insertLink_13 : decode cX4_insertLink 13 = .ok (.iload_n 1, 1) := by decide +kernel
theorem dX4_insertLink_14 : decode cX4_insertLink 14 = .ok (.aload_n 0, 1) := by decide +kernel
theorem dX4_insertLink_15 : decode cX4_insertLink 15 = .ok (.getfield 41, 3) := by decide +kernel
theorem dX4_insertLink_18 : decode cX4_insertLink 18 = .ok (.if_icmp .le 4, 3) := by decide +kernel
theorem dX4_insertLink_21 : decode cX4_insertLink 21 = .ok (.return_, 1) := by decide +kernel
theorem dX4_insertLink_22 : decode cX4_insertLink 22 = .ok (.aload_n 0, 1) := by decide +kernel
theorem dX4_insertLink_23 : decode cX4_insertLink 23 = .ok (.getfield 17, 3) := by decide +kernel
theorem dX4_insertLink_26 : decode cX4_insertLink 26 = .ok (.aload_n 0, 1) := by decide +kernel
theorem dX4_insertLink_27 : decode cX4_insertLink 27 = .ok (.getfield 41, 3) := by decide +kernel
theorem dX4_insertLink_30 : decode cX4_insertLink 30 = .ok (.aaload, 1) := by decide +kernel
theorem dX4_insertLink_31 : decode cX4_insertLink 31 = .ok (.astore 6, 2) := by decide +kernel
theorem dX4_insertLink_33 : decode cX4_insertLink 33 = .ok (.aload_n 0, 1) := by decide +kernel
theorem dX4_insertLink_34 : decode cX4_insertLink 34 = .ok (.getfield 41, 3) := by decide +kernel
theorem dX4_insertLink_37 : decode cX4_insertLink 37 = .ok (.istore 7, 2) := by decide +kernel
theorem dX4_insertLink_39 : decode cX4_insertLink 39 = .ok (.iload 7, 2) := by decide +kernel
theorem dX4_insertLink_41 : decode cX4_insertLink 41 = .ok (.iload_n 1, 1) := by decide +kernel
theorem dX4_insertLink_42 : decode cX4_insertLink 42 = .ok (.if_icmp .le 25, 3) := by decide +kernel
theorem dX4_insertLink_45 : decode cX4_insertLink 45 = .ok (.aload_n 0, 1) := by decide +kernel
theorem dX4_insertLink_46 : decode cX4_insertLink 46 = .ok (.getfield 17, 3) := by decide +kernel
theorem dX4_insertLink_49 : decode cX4_insertLink 49 = .ok (.iload 7, 2) := by decide +kernel
theorem dX4_insertLink_51 : decode cX4_insertLink 51 = .ok (.aload_n 0, 1) := by decide +kernel
theorem dX4_insertLink_52 : decode cX4_insertLink 52 = .ok (.getfield 17, 3) := by decide +kernel
theorem dX4_insertLink_55 : decode cX4_insertLink 55 = .ok (.iload 7, 2) := by decide +kernel
theorem dX4_insertLink_57 : decode cX4_insertLink 57 = .ok (.iconst 1, 1) := by decide +kernel
theorem dX4_insertLink_58 : decode cX4_insertLink 58 = .ok (.isub, 1) := by decide +kernel
theorem dX4_insertLink_59 : decode cX4_insertLink 59 = .ok (.aaload, 1) := by decide +kernel
theorem dX4_insertLink_60 : decode cX4_insertLink 60 = .ok (.aastore, 1) := by decide +kernel
theorem dX4_insertLink_61 : decode cX4_insertLink 61 = .ok (.iinc 7 (-1), 3) := by decide +kernel
theorem dX4_insertLink_64 : decode cX4_insertLink 64 = .ok (.goto (-25), 3) := by decide +kernel
theorem dX4_insertLink_67 : decode cX4_insertLink 67 = .ok (.aload 6, 2) := by decide +kernel
theorem dX4_insertLink_69 : decode cX4_insertLink 69 = .ok (.iload_n 2, 1) := by decide +kernel
theorem dX4_insertLink_70 : decode cX4_insertLink 70 = .ok (.putfield 68, 3) := by decide +kernel
theorem dX4_insertLink_73 : decode cX4_insertLink 73 = .ok (.aload 6, 2) := by decide +kernel
theorem dX4_insertLink_75 : decode cX4_insertLink 75 = .ok (.iload_n 3, 1) := by decide +kernel
theorem dX4_insertLink_76 : decode cX4_insertLink 76 = .ok (.putfield 71, 3) := by decide +kernel
theorem dX4_insertLink_79 : decode cX4_insertLink 79 = .ok (.aload 6, 2) := by decide +kernel
theorem dX4_insertLink_81 : decode cX4_insertLink 81 = .ok (.iload 4, 2) := by decide +kernel
theorem dX4_insertLink_83 : decode cX4_insertLink 83 = .ok (.putfield 74, 3) := by decide +kernel
theorem dX4_insertLink_86 : decode cX4_insertLink 86 = .ok (.aload 6, 2) := by decide +kernel
theorem dX4_insertLink_88 : decode cX4_insertLink 88 = .ok (.iload 5, 2) := by decide +kernel
theorem dX4_insertLink_90 : decode cX4_insertLink 90 = .ok (.putfield 77, 3) := by decide +kernel
theorem dX4_insertLink_93 : decode cX4_insertLink 93 = .ok (.aload_n 0, 1) := by decide +kernel
theorem dX4_insertLink_94 : decode cX4_insertLink 94 = .ok (.getfield 17, 3) := by decide +kernel
theorem dX4_insertLink_97 : decode cX4_insertLink 97 = .ok (.iload_n 1, 1) := by decide +kernel
theorem dX4_insertLink_98 : decode cX4_insertLink 98 = .ok (.aload 6, 2) := by decide +kernel
theorem dX4_insertLink_100 : decode cX4_insertLink 100 = .ok (.aastore, 1) := by decide +kernel
theorem dX4_insertLink_101 : decode cX4_insertLink 101 = .ok (.aload_n 0, 1) := by decide +kernel
theorem dX4_insertLink_102 : decode cX4_insertLink 102 = .ok (.dup, 1) := by decide +kernel
theorem dX4_insertLink_103 : decode cX4_insertLink 103 = .ok (.getfield 41, 3) := by decide +kernel
theorem dX4_insertLink_106 : decode cX4_insertLink 106 = .ok (.iconst 1, 1) := by decide +kernel
theorem dX4_insertLink_107 : decode cX4_insertLink 107 = .ok (.iadd, 1) := by decide +kernel
theorem dX4_insertLink_108 : decode cX4_insertLink 108 = .ok (.putfield 41, 3) := by decide +kernel
theorem dX4_insertLink_111 : decode cX4_insertLink 111 = .ok (.return_, 1) := by decide +kernel
theorem dX4_removeLink_0 : decode cX4_removeLink 0 = .ok (.iload_n 1, 1) := by decide +kernel
theorem dX4_removeLink_1 : decode cX4_removeLink 1 = .ok (.ifCond .lt 11, 3) := by decide +kernel
theorem dX4_removeLink_4 : decode cX4_removeLink 4 = .ok (.iload_n 1, 1) := by decide +kernel
theorem dX4_removeLink_5 : decode cX4_removeLink 5 = .ok (.aload_n 0, 1) := by decide +kernel
theorem dX4_removeLink_6 : decode cX4_removeLink 6 = .ok (.getfield 41, 3) := by decide +kernel
theorem dX4_removeLink_9 : decode cX4_removeLink 9 = .ok (.if_icmp .lt 4, 3) := by decide +kernel
theorem dX4_removeLink_12 : decode cX4_removeLink 12 = .ok (.return_, 1) := by decide +kernel
theorem dX4_removeLink_13 : decode cX4_removeLink 13 = .ok (.aload_n 0, 1) := by decide +kernel
theorem dX4_removeLink_14 : decode cX4_removeLink 14 = .ok (.getfield 17, 3) := by decide +kernel
theorem dX4_removeLink_17 : decode cX4_removeLink 17 = .ok (.iload_n 1, 1) := by decide +kernel
theorem dX4_removeLink_18 : decode cX4_removeLink 18 = .ok (.aaload, 1) := by decide +kernel
theorem dX4_removeLink_19 : decode cX4_removeLink 19 = .ok (.astore_n 2, 1) := by decide +kernel
theorem dX4_removeLink_20 : decode cX4_removeLink 20 = .ok (.iload_n 1, 1) := by decide +kernel
theorem dX4_removeLink_21 : decode cX4_removeLink 21 = .ok (.istore_n 3, 1) := by decide +kernel
theorem dX4_removeLink_22 : decode cX4_removeLink 22 = .ok (.iload_n 3, 1) := by decide +kernel
theorem dX4_removeLink_23 : decode cX4_removeLink 23 = .ok (.aload_n 0, 1) := by decide +kernel
theorem dX4_removeLink_24 : decode cX4_removeLink 24 = .ok (.getfield 41, 3) := by decide +kernel
theorem dX4_removeLink_27 : decode cX4_removeLink 27 = .ok (.iconst 1, 1) := by decide +kernel
theorem dX4_removeLink_28 : decode cX4_removeLink 28 = .ok (.isub, 1) := by decide +kernel
theorem dX4_removeLink_29 : decode cX4_removeLink 29 = .ok (.if_icmp .ge 23, 3) := by decide +kernel
theorem dX4_removeLink_32 : decode cX4_removeLink 32 = .ok (.aload_n 0, 1) := by decide +kernel
theorem dX4_removeLink_33 : decode cX4_removeLink 33 = .ok (.getfield 17, 3) := by decide +kernel
theorem dX4_removeLink_36 : decode cX4_removeLink 36 = .ok (.iload_n 3, 1) := by decide +kernel
theorem dX4_removeLink_37 : decode cX4_removeLink 37 = .ok (.aload_n 0, 1) := by decide +kernel
theorem dX4_removeLink_38 : decode cX4_removeLink 38 = .ok (.getfield 17, 3) := by decide +kernel
theorem dX4_removeLink_41 : decode cX4_removeLink 41 = .ok (.iload_n 3, 1) := by decide +kernel
theorem dX4_removeLink_42 : decode cX4_removeLink 42 = .ok (.iconst 1, 1) := by decide +kernel
theorem dX4_removeLink_43 : decode cX4_removeLink 43 = .ok (.iadd, 1) := by decide +kernel
theorem dX4_removeLink_44 : decode cX4_removeLink 44 = .ok (.aaload, 1) := by decide +kernel
theorem dX4_removeLink_45 : decode cX4_removeLink 45 = .ok (.aastore, 1) := by decide +kernel
theorem dX4_removeLink_46 : decode cX4_removeLink 46 = .ok (.iinc 3 1, 3) := by decide +kernel
theorem dX4_removeLink_49 : decode cX4_removeLink 49 = .ok (.goto (-27), 3) := by decide +kernel
theorem dX4_removeLink_52 : decode cX4_removeLink 52 = .ok (.aload_n 0, 1) := by decide +kernel
theorem dX4_removeLink_53 : decode cX4_removeLink 53 = .ok (.dup, 1) := by decide +kernel
theorem dX4_removeLink_54 : decode cX4_removeLink 54 = .ok (.getfield 41, 3) := by decide +kernel
theorem dX4_removeLink_57 : decode cX4_removeLink 57 = .ok (.iconst 1, 1) := by decide +kernel
theorem dX4_removeLink_58 : decode cX4_removeLink 58 = .ok (.isub, 1) := by decide +kernel
theorem dX4_removeLink_59 : decode cX4_removeLink 59 = .ok (.putfield 41, 3) := by decide +kernel
theorem dX4_removeLink_62 : decode cX4_removeLink 62 = .ok (.aload_n 0, 1) := by decide +kernel
theorem dX4_removeLink_63 : decode cX4_removeLink 63 = .ok (.getfield 17, 3) := by decide +kernel
theorem dX4_removeLink_66 : decode cX4_removeLink 66 = .ok (.aload_n 0, 1) := by decide +kernel
theorem dX4_removeLink_67 : decode cX4_removeLink 67 = .ok (.getfield 41, 3) := by decide +kernel
theorem dX4_removeLink_70 : decode cX4_removeLink 70 = .ok (.aload_n 2, 1) := by decide +kernel
theorem dX4_removeLink_71 : decode cX4_removeLink 71 = .ok (.aastore, 1) := by decide +kernel
theorem dX4_removeLink_72 : decode cX4_removeLink 72 = .ok (.return_, 1) := by decide +kernel
theorem dX4_leastOfRule_0 : decode cX4_leastOfRule 0 = .ok (.iload_n 0, 1) := by decide +kernel
theorem dX4_leastOfRule_1 : decode cX4_leastOfRule 1 = .ok (.ifCond .ne 7, 3) := by decide +kernel
theorem dX4_leastOfRule_4 : decode cX4_leastOfRule 4 = .ok (.iconst 1, 1) := by decide +kernel
theorem dX4_leastOfRule_5 : decode cX4_leastOfRule 5 = .ok (.goto 4, 3) := by decide +kernel
theorem dX4_leastOfRule_8 : decode cX4_leastOfRule 8 = .ok (.iconst 0, 1) := by decide +kernel
theorem dX4_leastOfRule_9 : decode cX4_leastOfRule 9 = .ok (.ireturn, 1) := by decide +kernel
theorem dX4_mostOfRule_0 : decode cX4_mostOfRule 0 = .ok (.iload_n 0, 1) := by decide +kernel
theorem dX4_mostOfRule_1 : decode cX4_mostOfRule 1 = .ok (.ifCond .ne 6, 3) := by decide +kernel
theorem dX4_mostOfRule_4 : decode cX4_mostOfRule 4 = .ok (.bipush 100, 2) := by decide +kernel
theorem dX4_mostOfRule_6 : decode cX4_mostOfRule 6 = .ok (.ireturn, 1) := by decide +kernel
theorem dX4_mostOfRule_7 : decode cX4_mostOfRule 7 = .ok (.iload_n 0, 1) := by decide +kernel
theorem dX4_mostOfRule_8 : decode cX4_mostOfRule 8 = .ok (.iconst 1, 1) := by decide +kernel
theorem dX4_mostOfRule_9 : decode cX4_mostOfRule 9 = .ok (.if_icmp .ne 7, 3) := by decide +kernel
theorem dX4_mostOfRule_12 : decode cX4_mostOfRule 12 = .ok (.iconst 2, 1) := by decide +kernel
theorem dX4_mostOfRule_13 : decode cX4_mostOfRule 13 = .ok (.goto 4, 3) := by decide +kernel
theorem dX4_mostOfRule_16 : decode cX4_mostOfRule 16 = .ok (.iconst 1, 1) := by decide +kernel
theorem dX4_mostOfRule_17 : decode cX4_mostOfRule 17 = .ok (.ireturn, 1) := by decide +kernel
theorem dX5_init_0 : decode cX5_init 0 = .ok (.aload_n 0, 1) := by decide +kernel
theorem dX5_init_1 : decode cX5_init 1 = .ok (.invokespecial 3, 3) := by decide +kernel
theorem dX5_init_4 : decode cX5_init 4 = .ok (.aload_n 0, 1) := by decide +kernel
theorem dX5_init_5 : decode cX5_init 5 = .ok (.sipush 256, 3) := by decide +kernel
theorem dX5_init_8 : decode cX5_init 8 = .ok (.newarray .byte, 2) := by decide +kernel
theorem dX5_init_10 : decode cX5_init 10 = .ok (.putfield 9, 3) := by decide +kernel
theorem dX5_init_13 : decode cX5_init 13 = .ok (.return_, 1) := by decide +kernel
theorem dX5_addHeld_0 : decode cX5_addHeld 0 = .ok (.aload_n 0, 1) := by decide +kernel
theorem dX5_addHeld_1 : decode cX5_addHeld 1 = .ok (.getfield 15, 3) := by decide +kernel
theorem dX5_addHeld_4 : decode cX5_addHeld 4 = .ok (.ifCond .le 9, 3) := by decide +kernel
theorem dX5_addHeld_7 : decode cX5_addHeld 7 = .ok (.aload_n 0, 1) := by decide +kernel
theorem dX5_addHeld_8 : decode cX5_addHeld 8 = .ok (.bipush 44, 2) := by decide +kernel
theorem dX5_addHeld_10 : decode cX5_addHeld 10 = .ok (.invokevirtual 19, 3) := by decide +kernel
theorem dX5_addHeld_13 : decode cX5_addHeld 13 = .ok (.aload_n 0, 1) := by decide +kernel
theorem dX5_addHeld_14 : decode cX5_addHeld 14 = .ok (.iload_n 1, 1) := by decide +kernel
theorem dX5_addHeld_15 : decode cX5_addHeld 15 = .ok (.invokevirtual 23, 3) := by decide +kernel
theorem dX5_addHeld_18 : decode cX5_addHeld 18 = .ok (.aload_n 0, 1) := by decide +kernel
theorem dX5_addHeld_19 : decode cX5_addHeld 19 = .ok (.iload_n 2, 1) := by decide +kernel
theorem dX5_addHeld_20 : decode cX5_addHeld 20 = .ok (.ifCond .eq 8, 3) := by decide +kernel
theorem dX5_addHeld_23 : decode cX5_addHeld 23 = .ok (.bipush 121, 2) := by decide +kernel
theorem dX5_addHeld_25 : decode cX5_addHeld 25 = .ok (.goto 5, 3) := by decide +kernel
theorem dX5_addHeld_28 : decode cX5_addHeld 28 = .ok (.bipush 110, 2) := by decide +kernel
theorem dX5_addHeld_30 : decode cX5_addHeld 30 = .ok (.invokevirtual 19, 3) := by decide +kernel
theorem dX5_addHeld_33 : decode cX5_addHeld 33 = .ok (.aload_n 0, 1) := by decide +kernel
theorem dX5_addHeld_34 : decode cX5_addHeld 34 = .ok (.bipush 64, 2) := by decide +kernel
theorem dX5_addHeld_36 : decode cX5_addHeld 36 = .ok (.invokevirtual 19, 3) := by decide +kernel
theorem dX5_addHeld_39 : decode cX5_addHeld 39 = .ok (.aload_n 0, 1) := by decide +kernel
theorem dX5_addHeld_40 : decode cX5_addHeld 40 = .ok (.iload_n 3, 1) := by decide +kernel
theorem dX5_addHeld_41 : decode cX5_addHeld 41 = .ok (.invokevirtual 23, 3) := by decide +kernel
theorem dX5_addHeld_44 : decode cX5_addHeld 44 = .ok (.return_, 1) := by decide +kernel
theorem dX5_addNumber_0 : decode cX5_addNumber 0 = .ok (.iload_n 1, 1) := by decide +kernel
theorem dX5_addNumber_1 : decode cX5_addNumber 1 = .ok (.bipush 10, 2) := by decide +kernel
theorem dX5_addNumber_3 : decode cX5_addNumber 3 = .ok (.if_icmp .lt 15, 3) := by decide +kernel
theorem dX5_addNumber_6 : decode cX5_addNumber 6 = .ok (.aload_n 0, 1) := by decide +kernel
theorem dX5_addNumber_7 : decode cX5_addNumber 7 = .ok (.bipush 48, 2) := by decide +kernel
theorem dX5_addNumber_9 : decode cX5_addNumber 9 = .ok (.iload_n 1, 1) := by decide +kernel
theorem dX5_addNumber_10 : decode cX5_addNumber 10 = .ok (.bipush 10, 2) := by decide +kernel
theorem dX5_addNumber_12 : decode cX5_addNumber 12 = .ok (.idiv, 1) := by decide +kernel
theorem dX5_addNumber_13 : decode cX5_addNumber 13 = .ok (.iadd, 1) := by decide +kernel
theorem dX5_addNumber_14 : decode cX5_addNumber 14 = .ok (.i2c, 1) := by decide +kernel
theorem dX5_addNumber_15 : decode cX5_addNumber 15 = .ok (.invokevirtual 19, 3) := by decide +kernel
theorem dX5_addNumber_18 : decode cX5_addNumber 18 = .ok (.aload_n 0, 1) := by decide +kernel
theorem dX5_addNumber_19 : decode cX5_addNumber 19 = .ok (.bipush 48, 2) := by decide +kernel
theorem dX5_addNumber_21 : decode cX5_addNumber 21 = .ok (.iload_n 1, 1) := by decide +kernel
theorem dX5_addNumber_22 : decode cX5_addNumber 22 = .ok (.bipush 10, 2) := by decide +kernel
theorem dX5_addNumber_24 : decode cX5_addNumber 24 = .ok (.irem, 1) := by decide +kernel
theorem dX5_addNumber_25 : decode cX5_addNumber 25 = .ok (.iadd, 1) := by decide +kernel
theorem dX5_addNumber_26 : decode cX5_addNumber 26 = .ok (.i2c, 1) := by decide +kernel
theorem dX5_addNumber_27 : decode cX5_addNumber 27 = .ok (.invokevirtual 19, 3) := by decide +kernel
theorem dX5_addNumber_30 : decode cX5_addNumber 30 = .ok (.return_, 1) := by decide +kernel
theorem dX5_addSign_0 : decode cX5_addSign 0 = .ok (.aload_n 0, 1) := by decide +kernel
theorem dX5_addSign_1 : decode cX5_addSign 1 = .ok (.getfield 15, 3) := by decide +kernel
theorem dX5_addSign_4 : decode cX5_addSign 4 = .ok (.sipush 256, 3) := by decide +kernel
theorem dX5_addSign_7 : decode cX5_addSign 7 = .ok (.if_icmp .ge 24, 3) := by decide +kernel
theorem dX5_addSign_10 : decode cX5_addSign 10 = .ok (.aload_n 0, 1) := by decide +kernel
theorem dX5_addSign_11 : decode cX5_addSign 11 = .ok (.getfield 9, 3) := by decide +kernel
theorem dX5_addSign_14 : decode cX5_addSign 14 = .ok (.aload_n 0, 1) := by decide +kernel
theorem dX5_addSign_15 : decode cX5_addSign 15 = .ok (.getfield 15, 3) := by decide +kernel
theorem dX5_addSign_18 : decode cX5_addSign 18 = .ok (.iload_n 1, 1) := by decide +kernel
theorem dX5_addSign_19 : decode cX5_addSign 19 = .ok (.i2b, 1) := by decide +kernel
theorem dX5_addSign_20 : decode cX5_addSign 20 = .ok (.bastore, 1) := by decide +kernel
theorem dX5_addSign_21 : decode cX5_addSign 21 = .ok (.aload_n 0, 1) := by decide +kernel
theorem dX5_addSign_22 : decode cX5_addSign 22 = .ok (.dup, 1) := by decide +kernel
theorem dX5_addSign_23 : decode cX5_addSign 23 = .ok (.getfield 15, 3) := by decide +kernel
theorem dX5_addSign_26 : decode cX5_addSign 26 = .ok (.iconst 1, 1) := by decide +kernel
theorem dX5_addSign_27 : decode cX5_addSign 27 = .ok (.iadd, 1) := by decide +kernel
theorem dX5_addSign_28 : decode cX5_addSign 28 = .ok (.putfield 15, 3) := by decide +kernel
theorem dX5_addSign_31 : decode cX5_addSign 31 = .ok (.return_, 1) := by decide +kernel
theorem dX6_init_0 : decode cX6_init 0 = .ok (.aload_n 0, 1) := by decide +kernel
theorem dX6_init_1 : decode cX6_init 1 = .ok (.invokespecial 3, 3) := by decide +kernel
theorem dX6_init_4 : decode cX6_init 4 = .ok (.aload_n 0, 1) := by decide +kernel
theorem dX6_init_5 : decode cX6_init 5 = .ok (.iload_n 1, 1) := by decide +kernel
theorem dX6_init_6 : decode cX6_init 6 = .ok (.putfield 9, 3) := by decide +kernel
theorem dX6_init_9 : decode cX6_init 9 = .ok (.aload_n 0, 1) := by decide +kernel
theorem dX6_init_10 : decode cX6_init 10 = .ok (.iconst (-1), 1) := by decide +kernel
theorem dX6_init_11 : decode cX6_init 11 = .ok (.putfield 15, 3) := by decide +kernel
theorem dX6_init_14 : decode cX6_init 14 = .ok (.return_, 1) := by decide +kernel
theorem dX6_become_0 : decode cX6_become 0 = .ok (.aload_n 0, 1) := by decide +kernel
theorem dX6_become_1 : decode cX6_become 1 = .ok (.aload_n 1, 1) := by decide +kernel
theorem dX6_become_2 : decode cX6_become 2 = .ok (.getfield 18, 3) := by decide +kernel
theorem dX6_become_5 : decode cX6_become 5 = .ok (.putfield 18, 3) := by decide +kernel
theorem dX6_become_8 : decode cX6_become 8 = .ok (.aload_n 0, 1) := by decide +kernel
theorem dX6_become_9 : decode cX6_become 9 = .ok (.aload_n 1, 1) := by decide +kernel
theorem dX6_become_10 : decode cX6_become 10 = .ok (.getfield 21, 3) := by decide +kernel
theorem dX6_become_13 : decode cX6_become 13 = .ok (.putfield 21, 3) := by decide +kernel
theorem dX6_become_16 : decode cX6_become 16 = .ok (.aload_n 0, 1) := by decide +kernel
theorem dX6_become_17 : decode cX6_become 17 = .ok (.aload_n 1, 1) := by decide +kernel
theorem dX6_become_18 : decode cX6_become 18 = .ok (.getfield 24, 3) := by decide +kernel
theorem dX6_become_21 : decode cX6_become 21 = .ok (.putfield 24, 3) := by decide +kernel
theorem dX6_become_24 : decode cX6_become 24 = .ok (.aload_n 0, 1) := by decide +kernel
theorem dX6_become_25 : decode cX6_become 25 = .ok (.aload_n 1, 1) := by decide +kernel
theorem dX6_become_26 : decode cX6_become 26 = .ok (.getfield 27, 3) := by decide +kernel
theorem dX6_become_29 : decode cX6_become 29 = .ok (.putfield 27, 3) := by decide +kernel
theorem dX6_become_32 : decode cX6_become 32 = .ok (.aload_n 0, 1) := by decide +kernel
theorem dX6_become_33 : decode cX6_become 33 = .ok (.aload_n 1, 1) := by decide +kernel
theorem dX6_become_34 : decode cX6_become 34 = .ok (.getfield 30, 3) := by decide +kernel
theorem dX6_become_37 : decode cX6_become 37 = .ok (.putfield 30, 3) := by decide +kernel
theorem dX6_become_40 : decode cX6_become 40 = .ok (.aload_n 0, 1) := by decide +kernel
theorem dX6_become_41 : decode cX6_become 41 = .ok (.aload_n 1, 1) := by decide +kernel
theorem dX6_become_42 : decode cX6_become 42 = .ok (.getfield 33, 3) := by decide +kernel
theorem dX6_become_45 : decode cX6_become 45 = .ok (.putfield 33, 3) := by decide +kernel
theorem dX6_become_48 : decode cX6_become 48 = .ok (.aload_n 0, 1) := by decide +kernel
theorem dX6_become_49 : decode cX6_become 49 = .ok (.aload_n 1, 1) := by decide +kernel
theorem dX6_become_50 : decode cX6_become 50 = .ok (.getfield 15, 3) := by decide +kernel
theorem dX6_become_53 : decode cX6_become 53 = .ok (.putfield 15, 3) := by decide +kernel
theorem dX6_become_56 : decode cX6_become 56 = .ok (.aload_n 0, 1) := by decide +kernel
theorem dX6_become_57 : decode cX6_become 57 = .ok (.aload_n 1, 1) := by decide +kernel
theorem dX6_become_58 : decode cX6_become 58 = .ok (.getfield 36, 3) := by decide +kernel
theorem dX6_become_61 : decode cX6_become 61 = .ok (.putfield 36, 3) := by decide +kernel
theorem dX6_become_64 : decode cX6_become 64 = .ok (.aload_n 0, 1) := by decide +kernel
theorem dX6_become_65 : decode cX6_become 65 = .ok (.aload_n 1, 1) := by decide +kernel
theorem dX6_become_66 : decode cX6_become 66 = .ok (.getfield 40, 3) := by decide +kernel
theorem dX6_become_69 : decode cX6_become 69 = .ok (.putfield 40, 3) := by decide +kernel
theorem dX6_become_72 : decode cX6_become 72 = .ok (.aload_n 0, 1) := by decide +kernel
theorem dX6_become_73 : decode cX6_become 73 = .ok (.aload_n 1, 1) := by decide +kernel
theorem dX6_become_74 : decode cX6_become 74 = .ok (.getfield 43, 3) := by decide +kernel
theorem dX6_become_77 : decode cX6_become 77 = .ok (.putfield 43, 3) := by decide +kernel
theorem dX6_become_80 : decode cX6_become 80 = .ok (.aload_n 0, 1) := by decide +kernel
theorem dX6_become_81 : decode cX6_become 81 = .ok (.aload_n 1, 1) := by decide +kernel
theorem dX6_become_82 : decode cX6_become 82 = .ok (.getfield 46, 3) := by decide +kernel
theorem dX6_become_85 : decode cX6_become 85 = .ok (.putfield 46, 3) := by decide +kernel
theorem dX6_become_88 : decode cX6_become 88 = .ok (.aload_n 0, 1) := by decide +kernel
theorem dX6_become_89 : decode cX6_become 89 = .ok (.aload_n 1, 1) := by decide +kernel
theorem dX6_become_90 : decode cX6_become 90 = .ok (.getfield 49, 3) := by decide +kernel
theorem dX6_become_93 : decode cX6_become 93 = .ok (.putfield 49, 3) := by decide +kernel
theorem dX6_become_96 : decode cX6_become 96 = .ok (.return_, 1) := by decide +kernel
theorem dX6_decide_0 : decode cX6_decide 0 = .ok (.aload_n 0, 1) := by decide +kernel
theorem dX6_decide_1 : decode cX6_decide 1 = .ok (.iload_n 1, 1) := by decide +kernel
theorem dX6_decide_2 : decode cX6_decide 2 = .ok (.putfield 15, 3) := by decide +kernel
theorem dX6_decide_5 : decode cX6_decide 5 = .ok (.aload_n 0, 1) := by decide +kernel
theorem dX6_decide_6 : decode cX6_decide 6 = .ok (.iload_n 2, 1) := by decide +kernel
theorem dX6_decide_7 : decode cX6_decide 7 = .ok (.putfield 36, 3) := by decide +kernel
theorem dX6_decide_10 : decode cX6_decide 10 = .ok (.aload_n 0, 1) := by decide +kernel
theorem dX6_decide_11 : decode cX6_decide 11 = .ok (.iconst 0, 1) := by decide +kernel
theorem dX6_decide_12 : decode cX6_decide 12 = .ok (.putfield 40, 3) := by decide +kernel
theorem dX6_decide_15 : decode cX6_decide 15 = .ok (.aload_n 0, 1) := by decide +kernel
theorem dX6_decide_16 : decode cX6_decide 16 = .ok (.iconst 0, 1) := by decide +kernel
theorem dX6_decide_17 : decode cX6_decide 17 = .ok (.putfield 43, 3) := by decide +kernel
theorem dX6_decide_20 : decode cX6_decide 20 = .ok (.aload_n 0, 1) := by decide +kernel
theorem dX6_decide_21 : decode cX6_decide 21 = .ok (.iconst 0, 1) := by decide +kernel
theorem dX6_decide_22 : decode cX6_decide 22 = .ok (.putfield 46, 3) := by decide +kernel
theorem dX6_decide_25 : decode cX6_decide 25 = .ok (.aload_n 0, 1) := by decide +kernel
theorem dX6_decide_26 : decode cX6_decide 26 = .ok (.iconst 0, 1) := by decide +kernel
theorem dX6_decide_27 : decode cX6_decide 27 = .ok (.putfield 49, 3) := by decide +kernel
theorem dX6_decide_30 : decode cX6_decide 30 = .ok (.return_, 1) := by decide +kernel
theorem dX6_isJudged_0 : decode cX6_isJudged 0 = .ok (.aload_n 0, 1) := by decide +kernel
theorem dX6_isJudged_1 : decode cX6_isJudged 1 = .ok (.getfield 15, 3) := by decide +kernel
theorem dX6_isJudged_4 : decode cX6_isJudged 4 = .ok (.iconst (-1), 1) := by decide +kernel
theorem dX6_isJudged_5 : decode cX6_isJudged 5 = .ok (.if_icmp .eq 7, 3) := by decide +kernel
theorem dX6_isJudged_8 : decode cX6_isJudged 8 = .ok (.iconst 1, 1) := by decide +kernel
theorem dX6_isJudged_9 : decode cX6_isJudged 9 = .ok (.goto 4, 3) := by decide +kernel
theorem dX6_isJudged_12 : decode cX6_isJudged 12 = .ok (.iconst 0, 1) := by decide +kernel
theorem dX6_isJudged_13 : decode cX6_isJudged 13 = .ok (.ireturn, 1) := by decide +kernel
theorem dX6_counts_0 : decode cX6_counts 0 = .ok (.aload_n 0, 1) := by decide +kernel
theorem dX6_counts_1 : decode cX6_counts 1 = .ok (.getfield 15, 3) := by decide +kernel
theorem dX6_counts_4 : decode cX6_counts 4 = .ok (.iconst (-1), 1) := by decide +kernel
theorem dX6_counts_5 : decode cX6_counts 5 = .ok (.if_icmp .eq 14, 3) := by decide +kernel
theorem dX6_counts_8 : decode cX6_counts 8 = .ok (.aload_n 0, 1) := by decide +kernel
theorem dX6_counts_9 : decode cX6_counts 9 = .ok (.getfield 40, 3) := by decide +kernel
theorem dX6_counts_12 : decode cX6_counts 12 = .ok (.ifCond .ne 7, 3) := by decide +kernel
theorem dX6_counts_15 : decode cX6_counts 15 = .ok (.iconst 1, 1) := by decide +kernel
theorem dX6_counts_16 : decode cX6_counts 16 = .ok (.goto 4, 3) := by decide +kernel
theorem dX6_counts_19 : decode cX6_counts 19 = .ok (.iconst 0, 1) := by decide +kernel
theorem dX6_counts_20 : decode cX6_counts 20 = .ok (.ireturn, 1) := by decide +kernel
theorem dX6_allIssues_0 : decode cX6_allIssues 0 = .ok (.aload_n 0, 1) := by decide +kernel
theorem dX6_allIssues_1 : decode cX6_allIssues 1 = .ok (.getfield 30, 3) := by decide +kernel
theorem dX6_allIssues_4 : decode cX6_allIssues 4 = .ok (.aload_n 0, 1) := by decide +kernel
theorem dX6_allIssues_5 : decode cX6_allIssues 5 = .ok (.getfield 33, 3) := by decide +kernel
theorem dX6_allIssues_8 : decode cX6_allIssues 8 = .ok (.ior, 1) := by decide +kernel
theorem dX6_allIssues_9 : decode cX6_allIssues 9 = .ok (.ireturn, 1) := by decide +kernel
theorem dX6_party_0 : decode cX6_party 0 = .ok (.iload_n 1, 1) := by decide +kernel
theorem dX6_party_1 : decode cX6_party 1 = .ok (.ifCond .ne 10, 3) := by decide +kernel
theorem dX6_party_4 : decode cX6_party 4 = .ok (.aload_n 0, 1) := by decide +kernel
theorem dX6_party_5 : decode cX6_party 5 = .ok (.getfield 18, 3) := by decide +kernel
theorem dX6_party_8 : decode cX6_party 8 = .ok (.goto 7, 3) := by decide +kernel
theorem dX6_party_11 : decode cX6_party 11 = .ok (.aload_n 0, 1) := by decide +kernel
theorem dX6_party_12 : decode cX6_party 12 = .ok (.getfield 21, 3) := by decide +kernel
theorem dX6_party_15 : decode cX6_party 15 = .ok (.ireturn, 1) := by decide +kernel
theorem dX6_boundOn_0 : decode cX6_boundOn 0 = .ok (.iload_n 1, 1) := by decide +kernel
theorem dX6_boundOn_1 : decode cX6_boundOn 1 = .ok (.ifCond .ne 10, 3) := by decide +kernel
theorem dX6_boundOn_4 : decode cX6_boundOn 4 = .ok (.aload_n 0, 1) := by decide +kernel
theorem dX6_boundOn_5 : decode cX6_boundOn 5 = .ok (.getfield 52, 3) := by decide +kernel
theorem dX6_boundOn_8 : decode cX6_boundOn 8 = .ok (.goto 7, 3) := by decide +kernel
theorem dX6_boundOn_11 : decode cX6_boundOn 11 = .ok (.aload_n 0, 1) := by decide +kernel
theorem dX6_boundOn_12 : decode cX6_boundOn 12 = .ok (.getfield 55, 3) := by decide +kernel
theorem dX6_boundOn_15 : decode cX6_boundOn 15 = .ok (.ireturn, 1) := by decide +kernel
theorem dX6_boundAtAll_0 : decode cX6_boundAtAll 0 = .ok (.aload_n 0, 1) := by decide +kernel
theorem dX6_boundAtAll_1 : decode cX6_boundAtAll 1 = .ok (.getfield 52, 3) := by decide +kernel
theorem dX6_boundAtAll_4 : decode cX6_boundAtAll 4 = .ok (.aload_n 0, 1) := by decide +kernel
theorem dX6_boundAtAll_5 : decode cX6_boundAtAll 5 = .ok (.getfield 55, 3) := by decide +kernel
theorem dX6_boundAtAll_8 : decode cX6_boundAtAll 8 = .ok (.ior, 1) := by decide +kernel
theorem dX6_boundAtAll_9 : decode cX6_boundAtAll 9 = .ok (.ireturn, 1) := by decide +kernel
theorem dX6_foundWay_0 : decode cX6_foundWay 0 = .ok (.aload_n 0, 1) := by decide +kernel
theorem dX6_foundWay_1 : decode cX6_foundWay 1 = .ok (.getfield 43, 3) := by decide +kernel
theorem dX6_foundWay_4 : decode cX6_foundWay 4 = .ok (.iload_n 1, 1) := by decide +kernel
theorem dX6_foundWay_5 : decode cX6_foundWay 5 = .ok (.ishr, 1) := by decide +kernel
theorem dX6_foundWay_6 : decode cX6_foundWay 6 = .ok (.iconst 1, 1) := by decide +kernel
theorem dX6_foundWay_7 : decode cX6_foundWay 7 = .ok (.iand, 1) := by decide +kernel
theorem dX6_foundWay_8 : decode cX6_foundWay 8 = .ok (.iconst 1, 1) := by decide +kernel
theorem dX6_foundWay_9 : decode cX6_foundWay 9 = .ok (.if_icmp .ne 5, 3) := by decide +kernel
theorem dX6_foundWay_12 : decode cX6_foundWay 12 = .ok (.iconst 1, 1) := by decide +kernel
theorem dX6_foundWay_13 : decode cX6_foundWay 13 = .ok (.ireturn, 1) := by decide +kernel
theorem dX6_foundWay_14 : decode cX6_foundWay 14 = .ok (.aload_n 0, 1) := by decide +kernel
theorem dX6_foundWay_15 : decode cX6_foundWay 15 = .ok (.getfield 46, 3) := by decide +kernel
theorem dX6_foundWay_18 : decode cX6_foundWay 18 = .ok (.iload_n 1, 1) := by decide +kernel
theorem dX6_foundWay_19 : decode cX6_foundWay 19 = .ok (.ishr, 1) := by decide +kernel
theorem dX6_foundWay_20 : decode cX6_foundWay 20 = .ok (.iconst 1, 1) := by decide +kernel
theorem dX6_foundWay_21 : decode cX6_foundWay 21 = .ok (.iand, 1) := by decide +kernel
theorem dX6_foundWay_22 : decode cX6_foundWay 22 = .ok (.iconst 1, 1) := by decide +kernel
theorem dX6_foundWay_23 : decode cX6_foundWay 23 = .ok (.if_icmp .ne 7, 3) := by decide +kernel
theorem dX6_foundWay_26 : decode cX6_foundWay 26 = .ok (.iconst 0, 1) := by decide +kernel
theorem dX6_foundWay_27 : decode cX6_foundWay 27 = .ok (.goto 4, 3) := by decide +kernel
theorem dX6_foundWay_30 : decode cX6_foundWay 30 = .ok (.iconst (-1), 1) := by decide +kernel
theorem dX6_foundWay_31 : decode cX6_foundWay 31 = .ok (.ireturn, 1) := by decide +kernel
theorem dX6_setFound_0 : decode cX6_setFound 0 = .ok (.iconst 1, 1) := by decide +kernel
theorem dX6_setFound_1 : decode cX6_setFound 1 = .ok (.iload_n 1, 1) := by decide +kernel
theorem dX6_setFound_2 : decode cX6_setFound 2 = .ok (.ishl, 1) := by decide +kernel
theorem dX6_setFound_3 : decode cX6_setFound 3 = .ok (.istore 4, 2) := by decide +kernel
theorem dX6_setFound_5 : decode cX6_setFound 5 = .ok (.aload_n 0, 1) := by decide +kernel
theorem dX6_setFound_6 : decode cX6_setFound 6 = .ok (.iload_n 2, 1) := by decide +kernel
theorem dX6_setFound_7 : decode cX6_setFound 7 = .ok (.iconst 1, 1) := by decide +kernel
theorem dX6_setFound_8 : decode cX6_setFound 8 = .ok (.if_icmp .ne 13, 3) := by decide +kernel
theorem dX6_setFound_11 : decode cX6_setFound 11 = .ok (.aload_n 0, 1) := by decide +kernel
theorem dX6_setFound_12 : decode cX6_setFound 12 = .ok (.getfield 43, 3) := by decide +kernel
theorem dX6_setFound_15 : decode cX6_setFound 15 = .ok (.iload 4, 2) := by decide +kernel
theorem dX6_setFound_17 : decode cX6_setFound 17 = .ok (.ior, 1) := by decide +kernel
theorem dX6_setFound_18 : decode cX6_setFound 18 = .ok (.goto 12, 3) := by decide +kernel
theorem dX6_setFound_21 : decode cX6_setFound 21 = .ok (.aload_n 0, 1) := by decide +kernel
theorem dX6_setFound_22 : decode cX6_setFound 22 = .ok (.getfield 43, 3) := by decide +kernel
theorem dX6_setFound_25 : decode cX6_setFound 25 = .ok (.iload 4, 2) := by decide +kernel
theorem dX6_setFound_27 : decode cX6_setFound 27 = .ok (.iconst (-1), 1) := by decide +kernel
theorem dX6_setFound_28 : decode cX6_setFound 28 = .ok (.ixor, 1) := by decide +kernel
theorem dX6_setFound_29 : decode cX6_setFound 29 = .ok (.iand, 1) := by decide +kernel
theorem dX6_setFound_30 : decode cX6_setFound 30 = .ok (.putfield 43, 3) := by decide +kernel
theorem dX6_setFound_33 : decode cX6_setFound 33 = .ok (.aload_n 0, 1) := by decide +kernel
theorem dX6_setFound_34 : decode cX6_setFound 34 = .ok (.iload_n 2, 1) := by decide +kernel
theorem dX6_setFound_35 : decode cX6_setFound 35 = .ok (.ifCond .ne 13, 3) := by decide +kernel
theorem dX6_setFound_38 : decode cX6_setFound 38 = .ok (.aload_n 0, 1) := by decide +kernel
theorem dX6_setFound_39 : decode cX6_setFound 39 = .ok (.getfield 46, 3) := by decide +kernel
theorem dX6_setFound_42 : decode cX6_setFound 42 = .ok (.iload 4, 2) := by decide +kernel
theorem dX6_setFound_44 : decode cX6_setFound 44 = .ok (.ior, 1) := by decide +kernel
theorem dX6_setFound_45 : decode cX6_setFound 45 = .ok (.goto 12, 3) := by decide +kernel
theorem dX6_setFound_48 : decode cX6_setFound 48 = .ok (.aload_n 0, 1) := by decide +kernel
theorem dX6_setFound_49 : decode cX6_setFound 49 = .ok (.getfield 46, 3) := by decide +kernel
theorem dX6_setFound_52 : decode cX6_setFound 52 = .ok (.iload 4, 2) := by decide +kernel
theorem dX6_setFound_54 : decode cX6_setFound 54 = .ok (.iconst (-1), 1) := by decide +kernel
theorem dX6_setFound_55 : decode cX6_setFound 55 = .ok (.ixor, 1) := by decide +kernel
theorem dX6_setFound_56 : decode cX6_setFound 56 = .ok (.iand, 1) := by decide +kernel
theorem dX6_setFound_57 : decode cX6_setFound 57 = .ok (.putfield 46, 3) := by decide +kernel
theorem dX6_setFound_60 : decode cX6_setFound 60 = .ok (.aload_n 0, 1) := by decide +kernel
theorem dX6_setFound_61 : decode cX6_setFound 61 = .ok (.iload_n 2, 1) := by decide +kernel
theorem dX6_setFound_62 : decode cX6_setFound 62 = .ok (.iconst (-1), 1) := by decide +kernel
theorem dX6_setFound_63 : decode cX6_setFound 63 = .ok (.if_icmp .eq 17, 3) := by decide +kernel
theorem dX6_setFound_66 : decode cX6_setFound 66 = .ok (.iload_n 3, 1) := by decide +kernel
theorem dX6_setFound_67 : decode cX6_setFound 67 = .ok (.ifCond .ne 13, 3) := by decide +kernel
theorem dX6_setFound_70 : decode cX6_setFound 70 = .ok (.aload_n 0, 1) := by decide +kernel
theorem dX6_setFound_71 : decode cX6_setFound 71 = .ok (.getfield 49, 3) := by decide +kernel
theorem dX6_setFound_74 : decode cX6_setFound 74 = .ok (.iload 4, 2) := by decide +kernel
theorem dX6_setFound_76 : decode cX6_setFound 76 = .ok (.ior, 1) := by decide +kernel
theorem dX6_setFound_77 : decode cX6_setFound 77 = .ok (.goto 12, 3) := by decide +kernel
theorem dX6_setFound_80 : decode cX6_setFound 80 = .ok (.aload_n 0, 1) := by decide +kernel
theorem dX6_setFound_81 : decode cX6_setFound 81 = .ok (.getfield 49, 3) := by decide +kernel
theorem dX6_setFound_84 : decode cX6_setFound 84 = .ok (.iload 4, 2) := by decide +kernel
theorem dX6_setFound_86 : decode cX6_setFound 86 = .ok (.iconst (-1), 1) := by decide +kernel
theorem dX6_setFound_87 : decode cX6_setFound 87 = .ok (.ixor, 1) := by decide +kernel
theorem dX6_setFound_88 : decode cX6_setFound 88 = .ok (.iand, 1) := by decide +kernel
theorem dX6_setFound_89 : decode cX6_setFound 89 = .ok (.putfield 49, 3) := by decide +kernel
theorem dX6_setFound_92 : decode cX6_setFound 92 = .ok (.return_, 1) := by decide +kernel
theorem dX6_winner_0 : decode cX6_winner 0 = .ok (.aload_n 0, 1) := by decide +kernel
theorem dX6_winner_1 : decode cX6_winner 1 = .ok (.invokevirtual 58, 3) := by decide +kernel
theorem dX6_winner_4 : decode cX6_winner 4 = .ok (.ifCond .eq 10, 3) := by decide +kernel
theorem dX6_winner_7 : decode cX6_winner 7 = .ok (.aload_n 0, 1) := by decide +kernel
theorem dX6_winner_8 : decode cX6_winner 8 = .ok (.getfield 36, 3) := by decide +kernel
theorem dX6_winner_11 : decode cX6_winner 11 = .ok (.ifCond .ne 5, 3) := by decide +kernel
theorem dX6_winner_14 : decode cX6_winner 14 = .ok (.iconst (-1), 1) := by decide +kernel
theorem dX6_winner_15 : decode cX6_winner 15 = .ok (.ireturn, 1) := by decide +kernel
theorem dX6_winner_16 : decode cX6_winner 16 = .ok (.aload_n 0, 1) := by decide +kernel
theorem dX6_winner_17 : decode cX6_winner 17 = .ok (.getfield 30, 3) := by decide +kernel
theorem dX6_winner_20 : decode cX6_winner 20 = .ok (.aload_n 0, 1) := by decide +kernel
theorem dX6_winner_21 : decode cX6_winner 21 = .ok (.getfield 43, 3) := by decide +kernel
theorem dX6_winner_24 : decode cX6_winner 24 = .ok (.iconst (-1), 1) := by decide +kernel
theorem dX6_winner_25 : decode cX6_winner 25 = .ok (.ixor, 1) := by decide +kernel
theorem dX6_winner_26 : decode cX6_winner 26 = .ok (.iand, 1) := by decide +kernel
theorem dX6_winner_27 : decode cX6_winner 27 = .ok (.ifCond .ne 19, 3) := by decide +kernel
theorem dX6_winner_30 : decode cX6_winner 30 = .ok (.aload_n 0, 1) := by decide +kernel
theorem dX6_winner_31 : decode cX6_winner 31 = .ok (.getfield 33, 3) := by decide +kernel
theorem dX6_winner_34 : decode cX6_winner 34 = .ok (.aload_n 0, 1) := by decide +kernel
theorem dX6_winner_35 : decode cX6_winner 35 = .ok (.getfield 43, 3) := by decide +kernel
theorem dX6_winner_38 : decode cX6_winner 38 = .ok (.iand, 1) := by decide +kernel
theorem dX6_winner_39 : decode cX6_winner 39 = .ok (.ifCond .ne 7, 3) := by decide +kernel
theorem dX6_winner_42 : decode cX6_winner 42 = .ok (.iconst 0, 1) := by decide +kernel
theorem dX6_winner_43 : decode cX6_winner 43 = .ok (.goto 4, 3) := by decide +kernel
theorem dX6_winner_46 : decode cX6_winner 46 = .ok (.iconst 1, 1) := by decide +kernel
theorem dX6_winner_47 : decode cX6_winner 47 = .ok (.ireturn, 1) := by decide +kernel
theorem dX6_necessaryIssues_0 : decode cX6_necessaryIssues 0 = .ok (.aload_n 0, 1) := by decide +kernel
theorem dX6_necessaryIssues_1 : decode cX6_necessaryIssues 1 = .ok (.invokevirtual 62, 3) := by decide +kernel
theorem dX6_necessaryIssues_4 : decode cX6_necessaryIssues 4 = .ok (.istore_n 2, 1) := by decide +kernel
theorem dX6_necessaryIssues_5 : decode cX6_necessaryIssues 5 = .ok (.iload_n 2, 1) := by decide +kernel
theorem dX6_necessaryIssues_6 : decode cX6_necessaryIssues 6 = .ok (.iconst (-1), 1) := by decide +kernel
theorem dX6_necessaryIssues_7 : decode cX6_necessaryIssues 7 = .ok (.if_icmp .ne 5, 3) := by decide +kernel
theorem dX6_necessaryIssues_10 : decode cX6_necessaryIssues 10 = .ok (.iconst 0, 1) := by decide +kernel
theorem dX6_necessaryIssues_11 : decode cX6_necessaryIssues 11 = .ok (.ireturn, 1) := by decide +kernel
theorem dX6_necessaryIssues_12 : decode cX6_necessaryIssues 12 = .ok (.iload_n 2, 1) := by decide +kernel
theorem dX6_necessaryIssues_13 : decode cX6_necessaryIssues 13 = .ok (.ifCond .ne 18, 3) := by decide +kernel
theorem dX6_necessaryIssues_16 : decode cX6_necessaryIssues 16 = .ok (.aload_n 0, 1) := by decide +kernel
theorem dX6_necessaryIssues_17 : decode cX6_necessaryIssues 17 = .ok (.getfield 30, 3) := by decide +kernel
theorem dX6_necessaryIssues_20 : decode cX6_necessaryIssues 20 = .ok (.aload_n 0, 1) := by decide +kernel
theorem dX6_necessaryIssues_21 : decode cX6_necessaryIssues 21 = .ok (.getfield 33, 3) := by decide +kernel
theorem dX6_necessaryIssues_24 : decode cX6_necessaryIssues 24 = .ok (.aload_n 0, 1) := by decide +kernel
theorem dX6_necessaryIssues_25 : decode cX6_necessaryIssues 25 = .ok (.getfield 46, 3) := by decide +kernel
theorem dX6_necessaryIssues_28 : decode cX6_necessaryIssues 28 = .ok (.iand, 1) := by decide +kernel
theorem dX6_necessaryIssues_29 : decode cX6_necessaryIssues 29 = .ok (.ior, 1) := by decide +kernel
theorem dX6_necessaryIssues_30 : decode cX6_necessaryIssues 30 = .ok (.ireturn, 1) := by decide +kernel
theorem dX6_necessaryIssues_31 : decode cX6_necessaryIssues 31 = .ok (.aload_n 0, 1) := by decide +kernel
theorem dX6_necessaryIssues_32 : decode cX6_necessaryIssues 32 = .ok (.getfield 30, 3) := by decide +kernel
theorem dX6_necessaryIssues_35 : decode cX6_necessaryIssues 35 = .ok (.aload_n 0, 1) := by decide +kernel
theorem dX6_necessaryIssues_36 : decode cX6_necessaryIssues 36 = .ok (.getfield 46, 3) := by decide +kernel
theorem dX6_necessaryIssues_39 : decode cX6_necessaryIssues 39 = .ok (.iand, 1) := by decide +kernel
theorem dX6_necessaryIssues_40 : decode cX6_necessaryIssues 40 = .ok (.aload_n 0, 1) := by decide +kernel
theorem dX6_necessaryIssues_41 : decode cX6_necessaryIssues 41 = .ok (.getfield 33, 3) := by decide +kernel
theorem dX6_necessaryIssues_44 : decode cX6_necessaryIssues 44 = .ok (.aload_n 0, 1) := by decide +kernel
theorem dX6_necessaryIssues_45 : decode cX6_necessaryIssues 45 = .ok (.getfield 43, 3) := by decide +kernel
theorem dX6_necessaryIssues_48 : decode cX6_necessaryIssues 48 = .ok (.iand, 1) := by decide +kernel
theorem dX6_necessaryIssues_49 : decode cX6_necessaryIssues 49 = .ok (.ior, 1) := by decide +kernel
theorem dX6_necessaryIssues_50 : decode cX6_necessaryIssues 50 = .ok (.istore_n 3, 1) := by decide +kernel
theorem dX6_necessaryIssues_51 : decode cX6_necessaryIssues 51 = .ok (.iload_n 1, 1) := by decide +kernel
theorem dX6_necessaryIssues_52 : decode cX6_necessaryIssues 52 = .ok (.iconst 1, 1) := by decide +kernel
theorem dX6_necessaryIssues_53 : decode cX6_necessaryIssues 53 = .ok (.if_icmp .eq 11, 3) := by decide +kernel
theorem dX6_necessaryIssues_56 : decode cX6_necessaryIssues 56 = .ok (.iload_n 3, 1) := by decide +kernel
theorem dX6_necessaryIssues_57 : decode cX6_necessaryIssues 57 = .ok (.invokestatic 66, 3) := by decide +kernel
theorem dX6_necessaryIssues_60 : decode cX6_necessaryIssues 60 = .ok (.iconst 1, 1) := by decide +kernel
theorem dX6_necessaryIssues_61 : decode cX6_necessaryIssues 61 = .ok (.if_icmp .ne 7, 3) := by decide +kernel
theorem dX6_necessaryIssues_64 : decode cX6_necessaryIssues 64 = .ok (.iload_n 3, 1) := by decide +kernel
theorem dX6_necessaryIssues_65 : decode cX6_necessaryIssues 65 = .ok (.goto 4, 3) := by decide +kernel
theorem dX6_necessaryIssues_68 : decode cX6_necessaryIssues 68 = .ok (.iconst 0, 1) := by decide +kernel
theorem dX6_necessaryIssues_69 : decode cX6_necessaryIssues 69 = .ok (.ireturn, 1) := by decide +kernel
theorem dX6_settledIssues_0 : decode cX6_settledIssues 0 = .ok (.aload_n 0, 1) := by decide +kernel
theorem dX6_settledIssues_1 : decode cX6_settledIssues 1 = .ok (.getfield 40, 3) := by decide +kernel
theorem dX6_settledIssues_4 : decode cX6_settledIssues 4 = .ok (.ifCond .eq 7, 3) := by decide +kernel
theorem dX6_settledIssues_7 : decode cX6_settledIssues 7 = .ok (.iconst 0, 1) := by decide +kernel
theorem dX6_settledIssues_8 : decode cX6_settledIssues 8 = .ok (.goto 15, 3) := by decide +kernel
theorem dX6_settledIssues_11 : decode cX6_settledIssues 11 = .ok (.aload_n 0, 1) := by decide +kernel
theorem dX6_settledIssues_12 : decode cX6_settledIssues 12 = .ok (.iload_n 1, 1) := by decide +kernel
theorem dX6_settledIssues_13 : decode cX6_settledIssues 13 = .ok (.invokevirtual 72, 3) := by decide +kernel
theorem dX6_settledIssues_16 : decode cX6_settledIssues 16 = .ok (.aload_n 0, 1) := by decide +kernel
theorem dX6_settledIssues_17 : decode cX6_settledIssues 17 = .ok (.getfield 49, 3) := by decide +kernel
theorem dX6_settledIssues_20 : decode cX6_settledIssues 20 = .ok (.iconst (-1), 1) := by decide +kernel
theorem dX6_settledIssues_21 : decode cX6_settledIssues 21 = .ok (.ixor, 1) := by decide +kernel
theorem dX6_settledIssues_22 : decode cX6_settledIssues 22 = .ok (.iand, 1) := by decide +kernel
theorem dX6_settledIssues_23 : decode cX6_settledIssues 23 = .ok (.ireturn, 1) := by decide +kernel
theorem dX7_init_0 : decode cX7_init 0 = .ok (.aload_n 0, 1) := by decide +kernel
theorem dX7_init_1 : decode cX7_init 1 = .ok (.invokespecial 3, 3) := by decide +kernel
theorem dX7_init_4 : decode cX7_init 4 = .ok (.aload_n 0, 1) := by decide +kernel
theorem dX7_init_5 : decode cX7_init 5 = .ok (.sipush 600, 3) := by decide +kernel
theorem dX7_init_8 : decode cX7_init 8 = .ok (.newarray .byte, 2) := by decide +kernel
theorem dX7_init_10 : decode cX7_init 10 = .ok (.putfield 9, 3) := by decide +kernel
theorem dX7_init_13 : decode cX7_init 13 = .ok (.aload_n 0, 1) := by decide +kernel
theorem dX7_init_14 : decode cX7_init 14 = .ok (.iconst (-1), 1) := by decide +kernel
theorem dX7_init_15 : decode cX7_init 15 = .ok (.putfield 15, 3) := by decide +kernel
theorem dX7_init_18 : decode cX7_init 18 = .ok (.return_, 1) := by decide +kernel
theorem dX7_take_0 : decode cX7_take 0 = .ok (.bipush 24, 2) := by decide +kernel
theorem dX7_take_2 : decode cX7_take 2 = .ok (.istore_n 2, 1) := by decide +kernel
theorem dX7_take_3 : decode cX7_take 3 = .ok (.iload_n 2, 1) := by decide +kernel
theorem dX7_take_4 : decode cX7_take 4 = .ok (.ifCond .lt 42, 3) := by decide +kernel
theorem dX7_take_7 : decode cX7_take 7 = .ok (.aload_n 0, 1) := by decide +kernel
theorem dX7_take_8 : decode cX7_take 8 = .ok (.getfield 19, 3) := by decide +kernel
theorem dX7_take_11 : decode cX7_take 11 = .ok (.sipush 600, 3) := by decide +kernel
theorem dX7_take_14 : decode cX7_take 14 = .ok (.if_icmp .ge 32, 3) := by decide +kernel
theorem dX7_take_17 : decode cX7_take 17 = .ok (.aload_n 0, 1) := by decide +kernel
theorem dX7_take_18 : decode cX7_take 18 = .ok (.getfield 9, 3) := by decide +kernel
theorem dX7_take_21 : decode cX7_take 21 = .ok (.aload_n 0, 1) := by decide +kernel
theorem dX7_take_22 : decode cX7_take 22 = .ok (.getfield 19, 3) := by decide +kernel
theorem dX7_take_25 : decode cX7_take 25 = .ok (.iload_n 1, 1) := by decide +kernel
theorem dX7_take_26 : decode cX7_take 26 = .ok (.iload_n 2, 1) := by decide +kernel
theorem dX7_take_27 : decode cX7_take 27 = .ok (.ishr, 1) := by decide +kernel
theorem dX7_take_28 : decode cX7_take 28 = .ok (.i2b, 1) := by decide +kernel
theorem dX7_take_29 : decode cX7_take 29 = .ok (.bastore, 1) := by decide +kernel
theorem dX7_take_30 : decode cX7_take 30 = .ok (.aload_n 0, 1) := by decide +kernel
theorem dX7_take_31 : decode cX7_take 31 = .ok (.dup, 1) := by decide +kernel
theorem dX7_take_32 : decode cX7_take 32 = .ok (.getfield 19, 3) := by decide +kernel
theorem dX7_take_35 : decode cX7_take 35 = .ok (.iconst 1, 1) := by decide +kernel
theorem dX7_take_36 : decode cX7_take 36 = .ok (.iadd, 1) := by decide +kernel
theorem dX7_take_37 : decode cX7_take 37 = .ok (.putfield 19, 3) := by decide +kernel
theorem dX7_take_40 : decode cX7_take 40 = .ok (.iinc 2 (-8), 3) := by decide +kernel
theorem dX7_take_43 : decode cX7_take 43 = .ok (.goto (-40), 3) := by decide +kernel
theorem dX7_take_46 : decode cX7_take 46 = .ok (.return_, 1) := by decide +kernel
theorem dX7_open_0 : decode cX7_open 0 = .ok (.aload_n 0, 1) := by decide +kernel
theorem dX7_open_1 : decode cX7_open 1 = .ok (.iload_n 1, 1) := by decide +kernel
theorem dX7_open_2 : decode cX7_open 2 = .ok (.sipush 600, 3) := by decide +kernel
theorem dX7_open_5 : decode cX7_open 5 = .ok (.invokestatic 22, 3) := by decide +kernel
theorem dX7_open_8 : decode cX7_open 8 = .ok (.putfield 28, 3) := by decide +kernel
theorem dX7_open_11 : decode cX7_open 11 = .ok (.aload_n 0, 1) := by decide +kernel
theorem dX7_open_12 : decode cX7_open 12 = .ok (.iconst 0, 1) := by decide +kernel
theorem dX7_open_13 : decode cX7_open 13 = .ok (.putfield 19, 3) := by decide +kernel
theorem dX7_open_16 : decode cX7_open 16 = .ok (.aload_n 0, 1) := by decide +kernel
theorem dX7_open_17 : decode cX7_open 17 = .ok (.iconst 0, 1) := by decide +kernel
theorem dX7_open_18 : decode cX7_open 18 = .ok (.putfield 31, 3) := by decide +kernel
theorem dX7_open_21 : decode cX7_open 21 = .ok (.aload_n 0, 1) := by decide +kernel
theorem dX7_open_22 : decode cX7_open 22 = .ok (.iconst 0, 1) := by decide +kernel
theorem dX7_open_23 : decode cX7_open 23 = .ok (.putfield 34, 3) := by decide +kernel
theorem dX7_open_26 : decode cX7_open 26 = .ok (.aload_n 0, 1) := by decide +kernel
theorem dX7_open_27 : decode cX7_open 27 = .ok (.iconst (-1), 1) := by decide +kernel
theorem dX7_open_28 : decode cX7_open 28 = .ok (.putfield 15, 3) := by decide +kernel
theorem dX7_open_31 : decode cX7_open 31 = .ok (.aload_n 0, 1) := by decide +kernel
theorem dX7_open_32 : decode cX7_open 32 = .ok (.invokevirtual 37, 3) := by decide +kernel
theorem dX7_open_35 : decode cX7_open 35 = .ok (.return_, 1) := by decide +kernel
theorem dX7_fail_0 : decode cX7_fail 0 = .ok (.aload_n 0, 1) := by decide +kernel
theorem dX7_fail_1 : decode cX7_fail 1 = .ok (.getfield 34, 3) := by decide +kernel
theorem dX7_fail_4 : decode cX7_fail 4 = .ok (.ifCond .ne 16, 3) := by decide +kernel
theorem dX7_fail_7 : decode cX7_fail 7 = .ok (.aload_n 0, 1) := by decide +kernel
theorem dX7_fail_8 : decode cX7_fail 8 = .ok (.iload_n 1, 1) := by decide +kernel
theorem dX7_fail_9 : decode cX7_fail 9 = .ok (.putfield 34, 3) := by decide +kernel
theorem dX7_fail_12 : decode cX7_fail 12 = .ok (.aload_n 0, 1) := by decide +kernel
theorem dX7_fail_13 : decode cX7_fail 13 = .ok (.aload_n 0, 1) := by decide +kernel
theorem dX7_fail_14 : decode cX7_fail 14 = .ok (.getfield 40, 3) := by decide +kernel
theorem dX7_fail_17 : decode cX7_fail 17 = .ok (.putfield 15, 3) := by decide +kernel
theorem dX7_fail_20 : decode cX7_fail 20 = .ok (.return_, 1) := by decide +kernel
theorem dX7_advance_0 : decode cX7_advance 0 = .ok (.aload_n 0, 1) := by decide +kernel
theorem dX7_advance_1 : decode cX7_advance 1 = .ok (.getfield 34, 3) := by decide +kernel
theorem dX7_advance_4 : decode cX7_advance 4 = .ok (.ifCond .eq 4, 3) := by decide +kernel
theorem dX7_advance_7 : decode cX7_advance 7 = .ok (.return_, 1) := by decide +kernel
theorem dX7_advance_8 : decode cX7_advance 8 = .ok (.aload_n 0, 1) := by decide +kernel
theorem dX7_advance_9 : decode cX7_advance 9 = .ok (.aload_n 0, 1) := by decide +kernel
theorem dX7_advance_10 : decode cX7_advance 10 = .ok (.getfield 31, 3) := by decide +kernel
theorem dX7_advance_13 : decode cX7_advance 13 = .ok (.putfield 40, 3) := by decide +kernel
theorem dX7_advance_16 : decode cX7_advance 16 = .ok (.aload_n 0, 1) := by decide +kernel
theorem dX7_advance_17 : decode cX7_advance 17 = .ok (.getfield 40, 3) := by decide +kernel
theorem dX7_advance_20 : decode cX7_advance 20 = .ok (.aload_n 0, 1) := by decide +kernel
theorem dX7_advance_21 : decode cX7_advance 21 = .ok (.getfield 28, 3) := by decide +kernel
theorem dX7_advance_24 : decode cX7_advance 24 = .ok (.if_icmp .ge 32, 3) := by decide +kernel
theorem dX7_advance_27 : decode cX7_advance 27 = .ok (.aload_n 0, 1) := by decide +kernel
theorem dX7_advance_28 : decode cX7_advance 28 = .ok (.getfield 9, 3) := by decide +kernel
theorem dX7_advance_31 : decode cX7_advance 31 = .ok (.aload_n 0, 1) := by decide +kernel
theorem dX7_advance_32 : decode cX7_advance 32 = .ok (.getfield 40, 3) := by decide +kernel
theorem dX7_advance_35 : decode cX7_advance 35 = .ok (.baload, 1) := by decide +kernel
theorem dX7_advance_36 : decode cX7_advance 36 = .ok (.invokestatic 43, 3) := by decide +kernel
theorem dX7_advance_39 : decode cX7_advance 39 = .ok (.iconst 1, 1) := by decide +kernel
theorem dX7_advance_40 : decode cX7_advance 40 = .ok (.if_icmp .ne 16, 3) := by decide +kernel
theorem dX7_advance_43 : decode cX7_advance 43 = .ok (.aload_n 0, 1) := by decide +kernel
theorem dX7_advance_44 : decode cX7_advance 44 = .ok (.dup, 1) := by decide +kernel
theorem dX7_advance_45 : decode cX7_advance 45 = .ok (.getfield 40, 3) := by decide +kernel
theorem dX7_advance_48 : decode cX7_advance 48 = .ok (.iconst 1, 1) := by decide +kernel
theorem dX7_advance_49 : decode cX7_advance 49 = .ok (.iadd, 1) := by decide +kernel
theorem dX7_advance_50 : decode cX7_advance 50 = .ok (.putfield 40, 3) := by decide +kernel
theorem dX7_advance_53 : decode cX7_advance 53 = .ok (.goto (-37), 3) := by decide +kernel
theorem dX7_advance_56 : decode cX7_advance 56 = .ok (.aload_n 0, 1) := by decide +kernel
theorem dX7_advance_57 : decode cX7_advance 57 = .ok (.aload_n 0, 1) := by decide +kernel
theorem dX7_advance_58 : decode cX7_advance 58 = .ok (.getfield 40, 3) := by decide +kernel
theorem dX7_advance_61 : decode cX7_advance 61 = .ok (.putfield 31, 3) := by decide +kernel
theorem dX7_advance_64 : decode cX7_advance 64 = .ok (.aload_n 0, 1) := by decide +kernel
theorem dX7_advance_65 : decode cX7_advance 65 = .ok (.aload_n 0, 1) := by decide +kernel
theorem dX7_advance_66 : decode cX7_advance 66 = .ok (.getfield 40, 3) := by decide +kernel
theorem dX7_advance_69 : decode cX7_advance 69 = .ok (.aload_n 0, 1) := by decide +kernel
theorem dX7_advance_70 : decode cX7_advance 70 = .ok (.getfield 28, 3) := by decide +kernel
theorem dX7_advance_73 : decode cX7_advance 73 = .ok (.if_icmp .ge 18, 3) := by decide +kernel
theorem dX7_advance_76 : decode cX7_advance 76 = .ok (.aload_n 0, 1) := by decide +kernel
theorem dX7_advance_77 : decode cX7_advance 77 = .ok (.getfield 9, 3) := by decide +kernel
theorem dX7_advance_80 : decode cX7_advance 80 = .ok (.aload_n 0, 1) := by decide +kernel
theorem dX7_advance_81 : decode cX7_advance 81 = .ok (.getfield 40, 3) := by decide +kernel
theorem dX7_advance_84 : decode cX7_advance 84 = .ok (.baload, 1) := by decide +kernel
theorem dX7_advance_85 : decode cX7_advance 85 = .ok (.invokestatic 43, 3) := by decide +kernel
theorem dX7_advance_88 : decode cX7_advance 88 = .ok (.goto 4, 3) := by decide +kernel
theorem dX7_advance_91 : decode cX7_advance 91 = .ok (.iconst 0, 1) := by decide +kernel
theorem dX7_advance_92 : decode cX7_advance 92 = .ok (.putfield 47, 3) := by decide +kernel
theorem dX7_advance_95 : decode cX7_advance 95 = .ok (.aload_n 0, 1) := by decide +kernel
theorem dX7_advance_96 : decode cX7_advance 96 = .ok (.getfield 47, 3) := by decide +kernel
theorem dX7_advance_99 : decode cX7_advance 99 = .ok (.iconst 4, 1) := by decide +kernel
theorem dX7_advance_100 : decode cX7_advance 100 = .ok (.if_icmp .ne 16, 3) := by decide +kernel
theorem dX7_advance_103 : decode cX7_advance 103 = .ok (.aload_n 0, 1) := by decide +kernel
theorem dX7_advance_104 : decode cX7_advance 104 = .ok (.dup, 1) := by decide +kernel
theorem dX7_advance_105 : decode cX7_advance 105 = .ok (.getfield 31, 3) := by decide +kernel
theorem dX7_advance_108 : decode cX7_advance 108 = .ok (.iconst 1, 1) := by decide +kernel
theorem dX7_advance_109 : decode cX7_advance 109 = .ok (.iadd, 1) := by decide +kernel
theorem dX7_advance_110 : decode cX7_advance 110 = .ok (.putfield 31, 3) := by decide +kernel
theorem dX7_advance_113 : decode cX7_advance 113 = .ok (.goto 14, 3) := by decide +kernel
theorem dX7_advance_116 : decode cX7_advance 116 = .ok (.aload_n 0, 1) := by decide +kernel
theorem dX7_advance_117 : decode cX7_advance 117 = .ok (.getfield 47, 3) := by decide +kernel
theorem dX7_advance_120 : decode cX7_advance 120 = .ok (.ifCond .eq 7, 3) := by decide +kernel
theorem dX7_advance_123 : decode cX7_advance 123 = .ok (.aload_n 0, 1) := by decide +kernel
theorem dX7_advance_124 : decode cX7_advance 124 = .ok (.invokevirtual 50, 3) := by decide +kernel
theorem dX7_advance_127 : decode cX7_advance 127 = .ok (.return_, 1) := by decide +kernel
theorem dX7_passRow_0 : decode cX7_passRow 0 = .ok (.aload_n 0, 1) := by decide +kernel
theorem dX7_passRow_1 : decode cX7_passRow 1 = .ok (.iconst 0, 1) := by decide +kernel
theorem dX7_passRow_2 : decode cX7_passRow 2 = .ok (.putfield 53, 3) := by decide +kernel
theorem dX7_passRow_5 : decode cX7_passRow 5 = .ok (.aload_n 0, 1) := by decide +kernel
theorem dX7_passRow_6 : decode cX7_passRow 6 = .ok (.getfield 31, 3) := by decide +kernel
theorem dX7_passRow_9 : decode cX7_passRow 9 = .ok (.aload_n 0, 1) := by decide +kernel
theorem dX7_passRow_10 : decode cX7_passRow 10 = .ok (.getfield 28, 3) := by decide +kernel
theorem dX7_passRow_13 : decode cX7_passRow 13 = .ok (.if_icmp .ge 77, 3) := by decide +kernel
theorem dX7_passRow_16 : decode cX7_passRow 16 = .ok (.aload_n 0, 1) := by decide +kernel
theorem dX7_passRow_17 : decode cX7_passRow 17 = .ok (.getfield 9, 3) := by decide +kernel
theorem dX7_passRow_20 : decode cX7_passRow 20 = .ok (.aload_n 0, 1) := by decide +kernel
theorem dX7_passRow_21 : decode cX7_passRow 21 = .ok (.getfield 31, 3) := by decide +kernel
theorem dX7_passRow_24 : decode cX7_passRow 24 = .ok (.baload, 1) := by decide +kernel
theorem dX7_passRow_25 : decode cX7_passRow 25 = .ok (.invokestatic 43, 3) := by decide +kernel
theorem dX7_passRow_28 : decode cX7_passRow 28 = .ok (.aload_n 0, 1) := by decide +kernel
theorem dX7_passRow_29 : decode cX7_passRow 29 = .ok (.getfield 47, 3) := by decide +kernel
theorem dX7_passRow_32 : decode cX7_passRow 32 = .ok (.if_icmp .ne 58, 3) := by decide +kernel
theorem dX7_passRow_35 : decode cX7_passRow 35 = .ok (.aload_n 0, 1) := by decide +kernel
theorem dX7_passRow_36 : decode cX7_passRow 36 = .ok (.getfield 47, 3) := by decide +kernel
theorem dX7_passRow_39 : decode cX7_passRow 39 = .ok (.iconst 3, 1) := by decide +kernel
theorem dX7_passRow_40 : decode cX7_passRow 40 = .ok (.if_icmp .ne 37, 3) := by decide +kernel
theorem dX7_passRow_43 : decode cX7_passRow 43 = .ok (.aload_n 0, 1) := by decide +kernel
theorem dX7_passRow_44 : decode cX7_passRow 44 = .ok (.getfield 53, 3) := by decide +kernel
theorem dX7_passRow_47 : decode cX7_passRow 47 = .ok (.sipush 9999, 3) := by decide +kernel
theorem dX7_passRow_50 : decode cX7_passRow 50 = .ok (.if_icmp .gt 27, 3) := by decide +kernel
theorem dX7_passRow_53 : decode cX7_passRow 53 = .ok (.aload_n 0, 1) := by decide +kernel
theorem dX7_passRow_54 : decode cX7_passRow 54 = .ok (.aload_n 0, 1) := by decide +kernel
