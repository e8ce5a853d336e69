theorem dX7_init_0 : decode cX7_init 0 = .ok (.aload_n 0, 1) := by decide +kernel
theorem dX7_init_1 : decode cX7_init 1 = .ok (.invokespecial 1, 3) := by decide +kernel
theorem dX7_init_4 : decode cX7_init 4 = .ok (.aload_n 0, 1) := by decide +kernel
theorem dX7_init_5 : decode cX7_init 5 = .ok (.bipush 64, 2) := by decide +kernel
theorem dX7_init_7 : decode cX7_init 7 = .ok (.newarray .long, 2) := by decide +kernel
theorem dX7_init_9 : decode cX7_init 9 = .ok (.putfield 7, 3) := by decide +kernel
theorem dX7_init_12 : decode cX7_init 12 = .ok (.aload_n 0, 1) := by decide +kernel
theorem dX7_init_13 : decode cX7_init 13 = .ok (.bipush 64, 2) := by decide +kernel
theorem dX7_init_15 : decode cX7_init 15 = .ok (.newarray .int, 2) := by decide +kernel
theorem dX7_init_17 : decode cX7_init 17 = .ok (.putfield 13, 3) := by decide +kernel
theorem dX7_init_20 : decode cX7_init 20 = .ok (.aload_n 0, 1) := by decide +kernel
theorem dX7_init_21 : decode cX7_init 21 = .ok (.bipush 64, 2) := by decide +kernel
theorem dX7_init_23 : decode cX7_init 23 = .ok (.newarray .int, 2) := by decide +kernel
theorem dX7_init_25 : decode cX7_init 25 = .ok (.putfield 17, 3) := by decide +kernel
theorem dX7_init_28 : decode cX7_init 28 = .ok (.aload_n 0, 1) := by decide +kernel
theorem dX7_init_29 : decode cX7_init 29 = .ok (.bipush 64, 2) := by decide +kernel
theorem dX7_init_31 : decode cX7_init 31 = .ok (.newarray .boolean, 2) := by decide +kernel
theorem dX7_init_33 : decode cX7_init 33 = .ok (.putfield 20, 3) := by decide +kernel
theorem dX7_init_36 : decode cX7_init 36 = .ok (.aload_n 0, 1) := by decide +kernel
theorem dX7_init_37 : decode cX7_init 37 = .ok (.bipush 64, 2) := by decide +kernel
theorem dX7_init_39 : decode cX7_init 39 = .ok (.newarray .int, 2) := by decide +kernel
theorem dX7_init_41 : decode cX7_init 41 = .ok (.putfield 24, 3) := by decide +kernel
theorem dX7_init_44 : decode cX7_init 44 = .ok (.aload_n 0, 1) := by decide +kernel
theorem dX7_init_45 : decode cX7_init 45 = .ok (.bipush 20, 2) := by decide +kernel
theorem dX7_init_47 : decode cX7_init 47 = .ok (.newarray .int, 2) := by decide +kernel
theorem dX7_init_49 : decode cX7_init 49 = .ok (.putfield 27, 3) := by decide +kernel
theorem dX7_init_52 : decode cX7_init 52 = .ok (.aload_n 0, 1) := by decide +kernel
theorem dX7_init_53 : decode cX7_init 53 = .ok (.bipush 20, 2) := by decide +kernel
theorem dX7_init_55 : decode cX7_init 55 = .ok (.newarray .int, 2) := by decide +kernel
theorem dX7_init_57 : decode cX7_init 57 = .ok (.putfield 30, 3) := by decide +kernel
theorem dX7_init_60 : decode cX7_init 60 = .ok (.aload_n 0, 1) := by decide +kernel
theorem dX7_init_61 : decode cX7_init 61 = .ok (.bipush 64, 2) := by decide +kernel
theorem dX7_init_63 : decode cX7_init 63 = .ok (.newarray .long, 2) := by decide +kernel
theorem dX7_init_65 : decode cX7_init 65 = .ok (.putfield 33, 3) := by decide +kernel
theorem dX7_init_68 : decode cX7_init 68 = .ok (.aload_n 0, 1) := by decide +kernel
theorem dX7_init_69 : decode cX7_init 69 = .ok (.bipush 6, 2) := by decide +kernel
theorem dX7_init_71 : decode cX7_init 71 = .ok (.newarray .int, 2) := by decide +kernel
theorem dX7_init_73 : decode cX7_init 73 = .ok (.putfield 36, 3) := by decide +kernel
theorem dX7_init_76 : decode cX7_init 76 = .ok (.aload_n 0, 1) := by decide +kernel
theorem dX7_init_77 : decode cX7_init 77 = .ok (.bipush 64, 2) := by decide +kernel
theorem dX7_init_79 : decode cX7_init 79 = .ok (.newarray .int, 2) := by decide +kernel
theorem dX7_init_81 : decode cX7_init 81 = .ok (.putfield 39, 3) := by decide +kernel
theorem dX7_init_84 : decode cX7_init 84 = .ok (.aload_n 0, 1) := by decide +kernel
theorem dX7_init_85 : decode cX7_init 85 = .ok (.bipush 64, 2) := by decide +kernel
theorem dX7_init_87 : decode cX7_init 87 = .ok (.newarray .int, 2) := by decide +kernel
theorem dX7_init_89 : decode cX7_init 89 = .ok (.putfield 42, 3) := by decide +kernel
theorem dX7_init_92 : decode cX7_init 92 = .ok (.aload_n 0, 1) := by decide +kernel
theorem dX7_init_93 : decode cX7_init 93 = .ok (.bipush 64, 2) := by decide +kernel
theorem dX7_init_95 : decode cX7_init 95 = .ok (.newarray .int, 2) := by decide +kernel
theorem dX7_init_97 : decode cX7_init 97 = .ok (.putfield 45, 3) := by decide +kernel
theorem dX7_init_100 : decode cX7_init 100 = .ok (.aload_n 0, 1) := by decide +kernel
theorem dX7_init_101 : decode cX7_init 101 = .ok (.bipush 16, 2) := by decide +kernel
theorem dX7_init_103 : decode cX7_init 103 = .ok (.newarray .boolean, 2) := by decide +kernel
theorem dX7_init_105 : decode cX7_init 105 = .ok (.putfield 48, 3) := by decide +kernel
theorem dX7_init_108 : decode cX7_init 108 = .ok (.aload_n 0, 1) := by decide +kernel
theorem dX7_init_109 : decode cX7_init 109 = .ok (.bipush 16, 2) := by decide +kernel
theorem dX7_init_111 : decode cX7_init 111 = .ok (.newarray .int, 2) := by decide +kernel
theorem dX7_init_113 : decode cX7_init 113 = .ok (.putfield 51, 3) := by decide +kernel
theorem dX7_init_116 : decode cX7_init 116 = .ok (.aload_n 0, 1) := by decide +kernel
theorem dX7_init_117 : decode cX7_init 117 = .ok (.bipush 16, 2) := by decide +kernel
theorem dX7_init_119 : decode cX7_init 119 = .ok (.newarray .int, 2) := by decide +kernel
theorem dX7_init_121 : decode cX7_init 121 = .ok (.putfield 54, 3) := by decide +kernel
theorem dX7_init_124 : decode cX7_init 124 = .ok (.aload_n 0, 1) := by decide +kernel
theorem dX7_init_125 : decode cX7_init 125 = .ok (.bipush 64, 2) := by decide +kernel
theorem dX7_init_127 : decode cX7_init 127 = .ok (.newarray .int, 2) := by decide +kernel
theorem dX7_init_129 : decode cX7_init 129 = .ok (.putfield 57, 3) := by decide +kernel
theorem dX7_init_132 : decode cX7_init 132 = .ok (.aload_n 0, 1) := by decide +kernel
theorem dX7_init_133 : decode cX7_init 133 = .ok (.iload_n 1, 1) := by decide +kernel
theorem dX7_init_134 : decode cX7_init 134 = .ok (.iconst 1, 1) := by decide +kernel
theorem dX7_init_135 : decode cX7_init 135 = .ok (.if_icmp .ge 7, 3) := by decide +kernel
theorem dX7_init_138 : decode cX7_init 138 = .ok (.iconst 1, 1) := by decide +kernel
theorem dX7_init_139 : decode cX7_init 139 = .ok (.goto 15, 3) := by decide +kernel
theorem dX7_init_142 : decode cX7_init 142 = .ok (.iload_n 1, 1) := by decide +kernel
theorem dX7_init_143 : decode cX7_init 143 = .ok (.bipush 64, 2) := by decide +kernel
theorem dX7_init_145 : decode cX7_init 145 = .ok (.if_icmp .le 8, 3) := by decide +kernel
theorem dX7_init_148 : decode cX7_init 148 = .ok (.bipush 64, 2) := by decide +kernel
theorem dX7_init_150 : decode cX7_init 150 = .ok (.goto 4, 3) := by decide +kernel
theorem dX7_init_153 : decode cX7_init 153 = .ok (.iload_n 1, 1) := by decide +kernel
theorem dX7_init_154 : decode cX7_init 154 = .ok (.putfield 60, 3) := by decide +kernel
theorem dX7_init_157 : decode cX7_init 157 = .ok (.aload_n 0, 1) := by decide +kernel
theorem dX7_init_158 : decode cX7_init 158 = .ok (.invokevirtual 64, 3) := by decide +kernel
theorem dX7_init_161 : decode cX7_init 161 = .ok (.return_, 1) := by decide +kernel
theorem dX7_empty_0 : decode cX7_empty 0 = .ok (.iconst 0, 1) := by decide +kernel
theorem dX7_empty_1 : decode cX7_empty 1 = .ok (.istore_n 1, 1) := by decide +kernel
theorem dX7_empty_2 : decode cX7_empty 2 = .ok (.iload_n 1, 1) := by decide +kernel
theorem dX7_empty_3 : decode cX7_empty 3 = .ok (.bipush 64, 2) := by decide +kernel
theorem dX7_empty_5 : decode cX7_empty 5 = .ok (.if_icmp .ge 58, 3) := by decide +kernel
theorem dX7_empty_8 : decode cX7_empty 8 = .ok (.aload_n 0, 1) := by decide +kernel
theorem dX7_empty_9 : decode cX7_empty 9 = .ok (.getfield 7, 3) := by decide +kernel
theorem dX7_empty_12 : decode cX7_empty 12 = .ok (.iload_n 1, 1) := by decide +kernel
theorem dX7_empty_13 : decode cX7_empty 13 = .ok (.lconst 0, 1) := by decide +kernel
theorem dX7_empty_14 : decode cX7_empty 14 = .ok (.lastore, 1) := by decide +kernel
theorem dX7_empty_15 : decode cX7_empty 15 = .ok (.aload_n 0, 1) := by decide +kernel
theorem dX7_empty_16 : decode cX7_empty 16 = .ok (.getfield 13, 3) := by decide +kernel
theorem dX7_empty_19 : decode cX7_empty 19 = .ok (.iload_n 1, 1) := by decide +kernel
theorem dX7_empty_20 : decode cX7_empty 20 = .ok (.iconst 1, 1) := by decide +kernel
theorem dX7_empty_21 : decode cX7_empty 21 = .ok (.iastore, 1) := by decide +kernel
theorem dX7_empty_22 : decode cX7_empty 22 = .ok (.aload_n 0, 1) := by decide +kernel
theorem dX7_empty_23 : decode cX7_empty 23 = .ok (.getfield 17, 3) := by decide +kernel
theorem dX7_empty_26 : decode cX7_empty 26 = .ok (.iload_n 1, 1) := by decide +kernel
theorem dX7_empty_27 : decode cX7_empty 27 = .ok (.iconst 0, 1) := by decide +kernel
theorem dX7_empty_28 : decode cX7_empty 28 = .ok (.iastore, 1) := by decide +kernel
theorem dX7_empty_29 : decode cX7_empty 29 = .ok (.aload_n 0, 1) := by decide +kernel
theorem dX7_empty_30 : decode cX7_empty 30 = .ok (.getfield 20, 3) := by decide +kernel
theorem dX7_empty_33 : decode cX7_empty 33 = .ok (.iload_n 1, 1) := by decide +kernel
theorem dX7_empty_34 : decode cX7_empty 34 = .ok (.iconst 0, 1) := by decide +kernel
theorem dX7_empty_35 : decode cX7_empty 35 = .ok (.bastore, 1) := by decide +kernel
theorem dX7_empty_36 : decode cX7_empty 36 = .ok (.aload_n 0, 1) := by decide +kernel
theorem dX7_empty_37 : decode cX7_empty 37 = .ok (.getfield 33, 3) := by decide +kernel
theorem dX7_empty_40 : decode cX7_empty 40 = .ok (.iload_n 1, 1) := by decide +kernel
theorem dX7_empty_41 : decode cX7_empty 41 = .ok (.lconst 0, 1) := by decide +kernel
theorem dX7_empty_42 : decode cX7_empty 42 = .ok (.lastore, 1) := by decide +kernel
theorem dX7_empty_43 : decode cX7_empty 43 = .ok (.aload_n 0, 1) := by decide +kernel
theorem dX7_empty_44 : decode cX7_empty 44 = .ok (.getfield 39, 3) := by decide +kernel
theorem dX7_empty_47 : decode cX7_empty 47 = .ok (.iload_n 1, 1) := by decide +kernel
theorem dX7_empty_48 : decode cX7_empty 48 = .ok (.iconst (-1), 1) := by decide +kernel
theorem dX7_empty_49 : decode cX7_empty 49 = .ok (.iastore, 1) := by decide +kernel
theorem dX7_empty_50 : decode cX7_empty 50 = .ok (.aload_n 0, 1) := by decide +kernel
theorem dX7_empty_51 : decode cX7_empty 51 = .ok (.getfield 42, 3) := by decide +kernel
theorem dX7_empty_54 : decode cX7_empty 54 = .ok (.iload_n 1, 1) := by decide +kernel
theorem dX7_empty_55 : decode cX7_empty 55 = .ok (.iconst (-1), 1) := by decide +kernel
theorem dX7_empty_56 : decode cX7_empty 56 = .ok (.iastore, 1) := by decide +kernel
theorem dX7_empty_57 : decode cX7_empty 57 = .ok (.iinc 1 1, 3) := by decide +kernel
theorem dX7_empty_60 : decode cX7_empty 60 = .ok (.goto (-58), 3) := by decide +kernel
theorem dX7_empty_63 : decode cX7_empty 63 = .ok (.iconst 0, 1) := by decide +kernel
theorem dX7_empty_64 : decode cX7_empty 64 = .ok (.istore_n 1, 1) := by decide +kernel
theorem dX7_empty_65 : decode cX7_empty 65 = .ok (.iload_n 1, 1) := by decide +kernel
theorem dX7_empty_66 : decode cX7_empty 66 = .ok (.bipush 6, 2) := by decide +kernel
theorem dX7_empty_68 : decode cX7_empty 68 = .ok (.if_icmp .ge 16, 3) := by decide +kernel
theorem dX7_empty_71 : decode cX7_empty 71 = .ok (.aload_n 0, 1) := by decide +kernel
theorem dX7_empty_72 : decode cX7_empty 72 = .ok (.getfield 36, 3) := by decide +kernel
theorem dX7_empty_75 : decode cX7_empty 75 = .ok (.iload_n 1, 1) := by decide +kernel
theorem dX7_empty_76 : decode cX7_empty 76 = .ok (.iconst 0, 1) := by decide +kernel
theorem dX7_empty_77 : decode cX7_empty 77 = .ok (.iastore, 1) := by decide +kernel
theorem dX7_empty_78 : decode cX7_empty 78 = .ok (.iinc 1 1, 3) := by decide +kernel
theorem dX7_empty_81 : decode cX7_empty 81 = .ok (.goto (-16), 3) := by decide +kernel
theorem dX7_empty_84 : decode cX7_empty 84 = .ok (.aload_n 0, 1) := by decide +kernel
theorem dX7_empty_85 : decode cX7_empty 85 = .ok (.iconst 0, 1) := by decide +kernel
theorem dX7_empty_86 : decode cX7_empty 86 = .ok (.putfield 70, 3) := by decide +kernel
theorem dX7_empty_89 : decode cX7_empty 89 = .ok (.return_, 1) := by decide +kernel
theorem dX7_isShare_0 : decode cX7_isShare 0 = .ok (.iload_n 1, 1) := by decide +kernel
theorem dX7_isShare_1 : decode cX7_isShare 1 = .ok (.ifCond .lt 15, 3) := by decide +kernel
theorem dX7_isShare_4 : decode cX7_isShare 4 = .ok (.iload_n 1, 1) := by decide +kernel
theorem dX7_isShare_5 : decode cX7_isShare 5 = .ok (.aload_n 0, 1) := by decide +kernel
theorem dX7_isShare_6 : decode cX7_isShare 6 = .ok (.getfield 60, 3) := by decide +kernel
theorem dX7_isShare_9 : decode cX7_isShare 9 = .ok (.if_icmp .ge 7, 3) := by decide +kernel
theorem dX7_isShare_12 : decode cX7_isShare 12 = .ok (.iconst 1, 1) := by decide +kernel
theorem dX7_isShare_13 : decode cX7_isShare 13 = .ok (.goto 4, 3) := by decide +kernel
theorem dX7_isShare_16 : decode cX7_isShare 16 = .ok (.iconst 0, 1) := by decide +kernel
theorem dX7_isShare_17 : decode cX7_isShare 17 = .ok (.ireturn, 1) := by decide +kernel
theorem dX7_value_0 : decode cX7_value 0 = .ok (.aload_n 0, 1) := by decide +kernel
theorem dX7_value_1 : decode cX7_value 1 = .ok (.iconst 0, 1) := by decide +kernel
theorem dX7_value_2 : decode cX7_value 2 = .ok (.putfield 67, 3) := by decide +kernel
theorem dX7_value_5 : decode cX7_value 5 = .ok (.aload_n 0, 1) := by decide +kernel
theorem dX7_value_6 : decode cX7_value 6 = .ok (.iload_n 1, 1) := by decide +kernel
theorem dX7_value_7 : decode cX7_value 7 = .ok (.invokevirtual 73, 3) := by decide +kernel
theorem dX7_value_10 : decode cX7_value 10 = .ok (.ifCond .ne 6, 3) := by decide +kernel
theorem dX7_value_13 : decode cX7_value 13 = .ok (.bipush (-3), 2) := by decide +kernel
theorem dX7_value_15 : decode cX7_value 15 = .ok (.ireturn, 1) := by decide +kernel
theorem dX7_value_16 : decode cX7_value 16 = .ok (.aload_n 0, 1) := by decide +kernel
theorem dX7_value_17 : decode cX7_value 17 = .ok (.getfield 7, 3) := by decide +kernel
theorem dX7_value_20 : decode cX7_value 20 = .ok (.iload_n 1, 1) := by decide +kernel
theorem dX7_value_21 : decode cX7_value 21 = .ok (.lload_n 2, 1) := by decide +kernel
theorem dX7_value_22 : decode cX7_value 22 = .ok (.lastore, 1) := by decide +kernel
theorem dX7_value_23 : decode cX7_value 23 = .ok (.iconst 1, 1) := by decide +kernel
theorem dX7_value_24 : decode cX7_value 24 = .ok (.ireturn, 1) := by decide +kernel
theorem dX7_steps_0 : decode cX7_steps 0 = .ok (.aload_n 0, 1) := by decide +kernel
theorem dX7_steps_1 : decode cX7_steps 1 = .ok (.iconst 0, 1) := by decide +kernel
theorem dX7_steps_2 : decode cX7_steps 2 = .ok (.putfield 67, 3) := by decide +kernel
theorem dX7_steps_5 : decode cX7_steps 5 = .ok (.aload_n 0, 1) := by decide +kernel
theorem dX7_steps_6 : decode cX7_steps 6 = .ok (.iload_n 1, 1) := by decide +kernel
theorem dX7_steps_7 : decode cX7_steps 7 = .ok (.invokevirtual 73, 3) := by decide +kernel
theorem dX7_steps_10 : decode cX7_steps 10 = .ok (.ifCond .eq 14, 3) := by decide +kernel
theorem dX7_steps_13 : decode cX7_steps 13 = .ok (.iload_n 2, 1) := by decide +kernel
theorem dX7_steps_14 : decode cX7_steps 14 = .ok (.iconst 1, 1) := by decide +kernel
theorem dX7_steps_15 : decode cX7_steps 15 = .ok (.if_icmp .lt 9, 3) := by decide +kernel
theorem dX7_steps_18 : decode cX7_steps 18 = .ok (.iload_n 2, 1) := by decide +kernel
theorem dX7_steps_19 : decode cX7_steps 19 = .ok (.bipush 20, 2) := by decide +kernel
theorem dX7_steps_21 : decode cX7_steps 21 = .ok (.if_icmp .le 6, 3) := by decide +kernel
theorem dX7_steps_24 : decode cX7_steps 24 = .ok (.bipush (-3), 2) := by decide +kernel
theorem dX7_steps_26 : decode cX7_steps 26 = .ok (.ireturn, 1) := by decide +kernel
theorem dX7_steps_27 : decode cX7_steps 27 = .ok (.aload_n 0, 1) := by decide +kernel
theorem dX7_steps_28 : decode cX7_steps 28 = .ok (.getfield 13, 3) := by decide +kernel
theorem dX7_steps_31 : decode cX7_steps 31 = .ok (.iload_n 1, 1) := by decide +kernel
theorem dX7_steps_32 : decode cX7_steps 32 = .ok (.iaload, 1) := by decide +kernel
theorem dX7_steps_33 : decode cX7_steps 33 = .ok (.istore_n 3, 1) := by decide +kernel
theorem dX7_steps_34 : decode cX7_steps 34 = .ok (.aload_n 0, 1) := by decide +kernel
theorem dX7_steps_35 : decode cX7_steps 35 = .ok (.getfield 13, 3) := by decide +kernel
theorem dX7_steps_38 : decode cX7_steps 38 = .ok (.iload_n 1, 1) := by decide +kernel
theorem dX7_steps_39 : decode cX7_steps 39 = .ok (.iload_n 2, 1) := by decide +kernel
theorem dX7_steps_40 : decode cX7_steps 40 = .ok (.iastore, 1) := by decide +kernel
theorem dX7_steps_41 : decode cX7_steps 41 = .ok (.iload_n 3, 1) := by decide +kernel
theorem dX7_steps_42 : decode cX7_steps 42 = .ok (.ireturn, 1) := by decide +kernel
theorem dX7_touch_0 : decode cX7_touch 0 = .ok (.aload_n 0, 1) := by decide +kernel
theorem dX7_touch_1 : decode cX7_touch 1 = .ok (.iconst 0, 1) := by decide +kernel
theorem dX7_touch_2 : decode cX7_touch 2 = .ok (.putfield 67, 3) := by decide +kernel
theorem dX7_touch_5 : decode cX7_touch 5 = .ok (.aload_n 0, 1) := by decide +kernel
theorem dX7_touch_6 : decode cX7_touch 6 = .ok (.iload_n 1, 1) := by decide +kernel
theorem dX7_touch_7 : decode cX7_touch 7 = .ok (.invokevirtual 73, 3) := by decide +kernel
theorem dX7_touch_10 : decode cX7_touch 10 = .ok (.ifCond .eq 13, 3) := by decide +kernel
theorem dX7_touch_13 : decode cX7_touch 13 = .ok (.iload_n 2, 1) := by decide +kernel
theorem dX7_touch_14 : decode cX7_touch 14 = .ok (.ifCond .lt 9, 3) := by decide +kernel
theorem dX7_touch_17 : decode cX7_touch 17 = .ok (.iload_n 2, 1) := by decide +kernel
theorem dX7_touch_18 : decode cX7_touch 18 = .ok (.bipush 16, 2) := by decide +kernel
theorem dX7_touch_20 : decode cX7_touch 20 = .ok (.if_icmp .lt 6, 3) := by decide +kernel
theorem dX7_touch_23 : decode cX7_touch 23 = .ok (.bipush (-3), 2) := by decide +kernel
theorem dX7_touch_25 : decode cX7_touch 25 = .ok (.ireturn, 1) := by decide +kernel
theorem dX7_touch_26 : decode cX7_touch 26 = .ok (.aload_n 0, 1) := by decide +kernel
theorem dX7_touch_27 : decode cX7_touch 27 = .ok (.getfield 17, 3) := by decide +kernel
theorem dX7_touch_30 : decode cX7_touch 30 = .ok (.iload_n 1, 1) := by decide +kernel
theorem dX7_touch_31 : decode cX7_touch 31 = .ok (.iaload, 1) := by decide +kernel
theorem dX7_touch_32 : decode cX7_touch 32 = .ok (.istore_n 3, 1) := by decide +kernel
theorem dX7_touch_33 : decode cX7_touch 33 = .ok (.aload_n 0, 1) := by decide +kernel
theorem dX7_touch_34 : decode cX7_touch 34 = .ok (.getfield 17, 3) := by decide +kernel
theorem dX7_touch_37 : decode cX7_touch 37 = .ok (.iload_n 1, 1) := by decide +kernel
theorem dX7_touch_38 : decode cX7_touch 38 = .ok (.dup2, 1) := by decide +kernel
theorem dX7_touch_39 : decode cX7_touch 39 = .ok (.iaload, 1) := by decide +kernel
theorem dX7_touch_40 : decode cX7_touch 40 = .ok (.iconst 1, 1) := by decide +kernel
theorem dX7_touch_41 : decode cX7_touch 41 = .ok (.iload_n 2, 1) := by decide +kernel
theorem dX7_touch_42 : decode cX7_touch 42 = .ok (.ishl, 1) := by decide +kernel
theorem dX7_touch_43 : decode cX7_touch 43 = .ok (.ior, 1) := by decide +kernel
theorem dX7_touch_44 : decode cX7_touch 44 = .ok (.iastore, 1) := by decide +kernel
theorem dX7_touch_45 : decode cX7_touch 45 = .ok (.iload_n 3, 1) := by decide +kernel
theorem dX7_touch_46 : decode cX7_touch 46 = .ok (.aload_n 0, 1) := by decide +kernel
theorem dX7_touch_47 : decode cX7_touch 47 = .ok (.getfield 17, 3) := by decide +kernel
theorem dX7_touch_50 : decode cX7_touch 50 = .ok (.iload_n 1, 1) := by decide +kernel
theorem dX7_touch_51 : decode cX7_touch 51 = .ok (.iaload, 1) := by decide +kernel
theorem dX7_touch_52 : decode cX7_touch 52 = .ok (.if_icmp .ne 7, 3) := by decide +kernel
theorem dX7_touch_55 : decode cX7_touch 55 = .ok (.iconst 0, 1) := by decide +kernel
theorem dX7_touch_56 : decode cX7_touch 56 = .ok (.goto 4, 3) := by decide +kernel
theorem dX7_touch_59 : decode cX7_touch 59 = .ok (.iconst 1, 1) := by decide +kernel
theorem dX7_touch_60 : decode cX7_touch 60 = .ok (.ireturn, 1) := by decide +kernel
theorem dX7_leave_0 : decode cX7_leave 0 = .ok (.aload_n 0, 1) := by decide +kernel
theorem dX7_leave_1 : decode cX7_leave 1 = .ok (.iconst 0, 1) := by decide +kernel
theorem dX7_leave_2 : decode cX7_leave 2 = .ok (.putfield 67, 3) := by decide +kernel
theorem dX7_leave_5 : decode cX7_leave 5 = .ok (.aload_n 0, 1) := by decide +kernel
theorem dX7_leave_6 : decode cX7_leave 6 = .ok (.iload_n 1, 1) := by decide +kernel
theorem dX7_leave_7 : decode cX7_leave 7 = .ok (.invokevirtual 73, 3) := by decide +kernel
theorem dX7_leave_10 : decode cX7_leave 10 = .ok (.ifCond .ne 6, 3) := by decide +kernel
theorem dX7_leave_13 : decode cX7_leave 13 = .ok (.bipush (-3), 2) := by decide +kernel
theorem dX7_leave_15 : decode cX7_leave 15 = .ok (.ireturn, 1) := by decide +kernel
theorem dX7_leave_16 : decode cX7_leave 16 = .ok (.aload_n 0, 1) := by decide +kernel
theorem dX7_leave_17 : decode cX7_leave 17 = .ok (.getfield 20, 3) := by decide +kernel
theorem dX7_leave_20 : decode cX7_leave 20 = .ok (.iload_n 1, 1) := by decide +kernel
theorem dX7_leave_21 : decode cX7_leave 21 = .ok (.baload, 1) := by decide +kernel
theorem dX7_leave_22 : decode cX7_leave 22 = .ok (.istore_n 3, 1) := by decide +kernel
theorem dX7_leave_23 : decode cX7_leave 23 = .ok (.aload_n 0, 1) := by decide +kernel
theorem dX7_leave_24 : decode cX7_leave 24 = .ok (.getfield 20, 3) := by decide +kernel
theorem dX7_leave_27 : decode cX7_leave 27 = .ok (.iload_n 1, 1) := by decide +kernel
theorem dX7_leave_28 : decode cX7_leave 28 = .ok (.iload_n 2, 1) := by decide +kernel
theorem dX7_leave_29 : decode cX7_leave 29 = .ok (.bastore, 1) := by decide +kernel
theorem dX7_leave_30 : decode cX7_leave 30 = .ok (.iload_n 3, 1) := by decide +kernel
theorem dX7_leave_31 : decode cX7_leave 31 = .ok (.iload_n 2, 1) := by decide +kernel
theorem dX7_leave_32 : decode cX7_leave 32 = .ok (.if_icmp .ne 7, 3) := by decide +kernel
theorem dX7_leave_35 : decode cX7_leave 35 = .ok (.iconst 0, 1) := by decide +kernel
theorem dX7_leave_36 : decode cX7_leave 36 = .ok (.goto 4, 3) := by decide +kernel
theorem dX7_leave_39 : decode cX7_leave 39 = .ok (.iconst 1, 1) := by decide +kernel
theorem dX7_leave_40 : decode cX7_leave 40 = .ok (.ireturn, 1) := by decide +kernel
theorem dX7_arrange_0 : decode cX7_arrange 0 = .ok (.iconst 0, 1) := by decide +kernel
theorem dX7_arrange_1 : decode cX7_arrange 1 = .ok (.istore_n 1, 1) := by decide +kernel
theorem dX7_arrange_2 : decode cX7_arrange 2 = .ok (.iconst 0, 1) := by decide +kernel
theorem dX7_arrange_3 : decode cX7_arrange 3 = .ok (.istore_n 2, 1) := by decide +kernel
theorem dX7_arrange_4 : decode cX7_arrange 4 = .ok (.iload_n 2, 1) := by decide +kernel
theorem dX7_arrange_5 : decode cX7_arrange 5 = .ok (.aload_n 0, 1) := by decide +kernel
theorem dX7_arrange_6 : decode cX7_arrange 6 = .ok (.getfield 60, 3) := by decide +kernel
theorem dX7_arrange_9 : decode cX7_arrange 9 = .ok (.if_icmp .ge 134, 3) := by decide +kernel
theorem dX7_arrange_12 : decode cX7_arrange 12 = .ok (.aload_n 0, 1) := by decide +kernel
theorem dX7_arrange_13 : decode cX7_arrange 13 = .ok (.getfield 24, 3) := by decide +kernel
theorem dX7_arrange_16 : decode cX7_arrange 16 = .ok (.iload_n 2, 1) := by decide +kernel
theorem dX7_arrange_17 : decode cX7_arrange 17 = .ok (.iconst (-1), 1) := by decide +kernel
theorem dX7_arrange_18 : decode cX7_arrange 18 = .ok (.iastore, 1) := by decide +kernel
theorem dX7_arrange_19 : decode cX7_arrange 19 = .ok (.aload_n 0, 1) := by decide +kernel
theorem dX7_arrange_20 : decode cX7_arrange 20 = .ok (.getfield 20, 3) := by decide +kernel
theorem dX7_arrange_23 : decode cX7_arrange 23 = .ok (.iload_n 2, 1) := by decide +kernel
theorem dX7_arrange_24 : decode cX7_arrange 24 = .ok (.baload, 1) := by decide +kernel
theorem dX7_arrange_25 : decode cX7_arrange 25 = .ok (.ifCond .eq 6, 3) := by decide +kernel
theorem dX7_arrange_28 : decode cX7_arrange 28 = .ok (.goto 109, 3) := by decide +kernel
theorem dX7_arrange_31 : decode cX7_arrange 31 = .ok (.iconst 0, 1) := by decide +kernel
theorem dX7_arrange_32 : decode cX7_arrange 32 = .ok (.istore_n 3, 1) := by decide +kernel
theorem dX7_arrange_33 : decode cX7_arrange 33 = .ok (.iconst 0, 1) := by decide +kernel
theorem dX7_arrange_34 : decode cX7_arrange 34 = .ok (.istore 4, 2) := by decide +kernel
theorem dX7_arrange_36 : decode cX7_arrange 36 = .ok (.iload 4, 2) := by decide +kernel
theorem dX7_arrange_38 : decode cX7_arrange 38 = .ok (.ifCond .ne 77, 3) := by decide +kernel
theorem dX7_arrange_41 : decode cX7_arrange 41 = .ok (.iconst 1, 1) := by decide +kernel
theorem dX7_arrange_42 : decode cX7_arrange 42 = .ok (.istore 4, 2) := by decide +kernel
theorem dX7_arrange_44 : decode cX7_arrange 44 = .ok (.iconst 0, 1) := by decide +kernel
theorem dX7_arrange_45 : decode cX7_arrange 45 = .ok (.istore 5, 2) := by decide +kernel
theorem dX7_arrange_47 : decode cX7_arrange 47 = .ok (.iload 5, 2) := by decide +kernel
theorem dX7_arrange_49 : decode cX7_arrange 49 = .ok (.iload_n 2, 1) := by decide +kernel
theorem dX7_arrange_50 : decode cX7_arrange 50 = .ok (.if_icmp .ge 49, 3) := by decide +kernel
theorem dX7_arrange_53 : decode cX7_arrange 53 = .ok (.iload 4, 2) := by decide +kernel
theorem dX7_arrange_55 : decode cX7_arrange 55 = .ok (.ifCond .eq 35, 3) := by decide +kernel
theorem dX7_arrange_58 : decode cX7_arrange 58 = .ok (.aload_n 0, 1) := by decide +kernel
theorem dX7_arrange_59 : decode cX7_arrange 59 = .ok (.getfield 24, 3) := by decide +kernel
theorem dX7_arrange_62 : decode cX7_arrange 62 = .ok (.iload 5, 2) := by decide +kernel
theorem dX7_arrange_64 : decode cX7_arrange 64 = .ok (.iaload, 1) := by decide +kernel
theorem dX7_arrange_65 : decode cX7_arrange 65 = .ok (.iload_n 3, 1) := by decide +kernel
theorem dX7_arrange_66 : decode cX7_arrange 66 = .ok (.if_icmp .ne 20, 3) := by decide +kernel
theorem dX7_arrange_69 : decode cX7_arrange 69 = .ok (.aload_n 0, 1) := by decide +kernel
theorem dX7_arrange_70 : decode cX7_arrange 70 = .ok (.getfield 17, 3) := by decide +kernel
theorem dX7_arrange_73 : decode cX7_arrange 73 = .ok (.iload 5, 2) := by decide +kernel
theorem dX7_arrange_75 : decode cX7_arrange 75 = .ok (.iaload, 1) := by decide +kernel
theorem dX7_arrange_76 : decode cX7_arrange 76 = .ok (.aload_n 0, 1) := by decide +kernel
theorem dX7_arrange_77 : decode cX7_arrange 77 = .ok (.getfield 17, 3) := by decide +kernel
theorem dX7_arrange_80 : decode cX7_arrange 80 = .ok (.iload_n 2, 1) := by decide +kernel
theorem dX7_arrange_81 : decode cX7_arrange 81 = .ok (.iaload, 1) := by decide +kernel
theorem dX7_arrange_82 : decode cX7_arrange 82 = .ok (.iand, 1) := by decide +kernel
theorem dX7_arrange_83 : decode cX7_arrange 83 = .ok (.ifCond .ne 7, 3) := by decide +kernel
theorem dX7_arrange_86 : decode cX7_arrange 86 = .ok (.iconst 1, 1) := by decide +kernel
theorem dX7_arrange_87 : decode cX7_arrange 87 = .ok (.goto 4, 3) := by decide +kernel
theorem dX7_arrange_90 : decode cX7_arrange 90 = .ok (.iconst 0, 1) := by decide +kernel
theorem dX7_arrange_91 : decode cX7_arrange 91 = .ok (.istore 4, 2) := by decide +kernel
theorem dX7_arrange_93 : decode cX7_arrange 93 = .ok (.iinc 5 1, 3) := by decide +kernel
theorem dX7_arrange_96 : decode cX7_arrange 96 = .ok (.goto (-49), 3) := by decide +kernel
theorem dX7_arrange_99 : decode cX7_arrange 99 = .ok (.iload_n 3, 1) := by decide +kernel
theorem dX7_arrange_100 : decode cX7_arrange 100 = .ok (.iload 4, 2) := by decide +kernel
theorem dX7_arrange_102 : decode cX7_arrange 102 = .ok (.ifCond .eq 7, 3) := by decide +kernel
theorem dX7_arrange_105 : decode cX7_arrange 105 = .ok (.iconst 0, 1) := by decide +kernel
theorem dX7_arrange_106 : decode cX7_arrange 106 = .ok (.goto 4, 3) := by decide +kernel
theorem dX7_arrange_109 : decode cX7_arrange 109 = .ok (.iconst 1, 1) := by decide +kernel
theorem dX7_arrange_110 : decode cX7_arrange 110 = .ok (.iadd, 1) := by decide +kernel
theorem dX7_arrange_111 : decode cX7_arrange 111 = .ok (.istore_n 3, 1) := by decide +kernel
theorem dX7_arrange_112 : decode cX7_arrange 112 = .ok (.goto (-76), 3) := by decide +kernel
theorem dX7_arrange_115 : decode cX7_arrange 115 = .ok (.aload_n 0, 1) := by decide +kernel
theorem dX7_arrange_116 : decode cX7_arrange 116 = .ok (.getfield 24, 3) := by decide +kernel
theorem dX7_arrange_119 : decode cX7_arrange 119 = .ok (.iload_n 2, 1) := by decide +kernel
theorem dX7_arrange_120 : decode cX7_arrange 120 = .ok (.iload_n 3, 1) := by decide +kernel
theorem dX7_arrange_121 : decode cX7_arrange 121 = .ok (.iastore, 1) := by decide +kernel
theorem dX7_arrange_122 : decode cX7_arrange 122 = .ok (.iload_n 3, 1) := by decide +kernel
theorem dX7_arrange_123 : decode cX7_arrange 123 = .ok (.iconst 1, 1) := by decide +kernel
theorem dX7_arrange_124 : decode cX7_arrange 124 = .ok (.iadd, 1) := by decide +kernel
theorem dX7_arrange_125 : decode cX7_arrange 125 = .ok (.iload_n 1, 1) := by decide +kernel
theorem dX7_arrange_126 : decode cX7_arrange 126 = .ok (.if_icmp .le 9, 3) := by decide +kernel
theorem dX7_arrange_129 : decode cX7_arrange 129 = .ok (.iload_n 3, 1) := by decide +kernel
theorem dX7_arrange_130 : decode cX7_arrange 130 = .ok (.iconst 1, 1) := by decide +kernel
theorem dX7_arrange_131 : decode cX7_arrange 131 = .ok (.iadd, 1) := by decide +kernel
theorem dX7_arrange_132 : decode cX7_arrange 132 = .ok (.goto 4, 3) := by decide +kernel
theorem dX7_arrange_135 : decode cX7_arrange 135 = .ok (.iload_n 1, 1) := by decide +kernel
theorem dX7_arrange_136 : decode cX7_arrange 136 = .ok (.istore_n 1, 1) := by decide +kernel
theorem dX7_arrange_137 : decode cX7_arrange 137 = .ok (.iinc 2 1, 3) := by decide +kernel
theorem dX7_arrange_140 : decode cX7_arrange 140 = .ok (.goto (-136), 3) := by decide +kernel
theorem dX7_arrange_143 : decode cX7_arrange 143 = .ok (.iload_n 1, 1) := by decide +kernel
theorem dX7_arrange_144 : decode cX7_arrange 144 = .ok (.ireturn, 1) := by decide +kernel
theorem dX7_batches_0 : decode cX7_batches 0 = .ok (.aload_n 0, 1) := by decide +kernel
theorem dX7_batches_1 : decode cX7_batches 1 = .ok (.iconst 0, 1) := by decide +kernel
theorem dX7_batches_2 : decode cX7_batches 2 = .ok (.putfield 67, 3) := by decide +kernel
theorem dX7_batches_5 : decode cX7_batches 5 = .ok (.aload_n 0, 1) := by decide +kernel
theorem dX7_batches_6 : decode cX7_batches 6 = .ok (.invokevirtual 77, 3) := by decide +kernel
theorem dX7_batches_9 : decode cX7_batches 9 = .ok (.ireturn, 1) := by decide +kernel
theorem dX7_batch_0 : decode cX7_batch 0 = .ok (.aload_n 0, 1) := by decide +kernel
theorem dX7_batch_1 : decode cX7_batch 1 = .ok (.iconst 0, 1) := by decide +kernel
theorem dX7_batch_2 : decode cX7_batch 2 = .ok (.putfield 67, 3) := by decide +kernel
theorem dX7_batch_5 : decode cX7_batch 5 = .ok (.aload_n 0, 1) := by decide +kernel
theorem dX7_batch_6 : decode cX7_batch 6 = .ok (.invokevirtual 77, 3) := by decide +kernel
theorem dX7_batch_9 : decode cX7_batch 9 = .ok (.pop, 1) := by decide +kernel
theorem dX7_batch_10 : decode cX7_batch 10 = .ok (.aload_n 0, 1) := by decide +kernel
theorem dX7_batch_11 : decode cX7_batch 11 = .ok (.iload_n 1, 1) := by decide +kernel
theorem dX7_batch_12 : decode cX7_batch 12 = .ok (.invokevirtual 73, 3) := by decide +kernel
theorem dX7_batch_15 : decode cX7_batch 15 = .ok (.ifCond .eq 12, 3) := by decide +kernel
theorem dX7_batch_18 : decode cX7_batch 18 = .ok (.aload_n 0, 1) := by decide +kernel
theorem dX7_batch_19 : decode cX7_batch 19 = .ok (.getfield 24, 3) := by decide +kernel
theorem dX7_batch_22 : decode cX7_batch 22 = .ok (.iload_n 1, 1) := by decide +kernel
theorem dX7_batch_23 : decode cX7_batch 23 = .ok (.iaload, 1) := by decide +kernel
theorem dX7_batch_24 : decode cX7_batch 24 = .ok (.goto 5, 3) := by decide +kernel
theorem dX7_batch_27 : decode cX7_batch 27 = .ok (.bipush (-3), 2) := by decide +kernel
theorem dX7_batch_29 : decode cX7_batch 29 = .ok (.ireturn, 1) := by decide +kernel
theorem dX7_failureOf_0 : decode cX7_failureOf 0 = .ok (.iconst 0, 1) := by decide +kernel
theorem dX7_failureOf_1 : decode cX7_failureOf 1 = .ok (.istore_n 3, 1) := by decide +kernel
theorem dX7_failureOf_2 : decode cX7_failureOf 2 = .ok (.iload_n 3, 1) := by decide +kernel
theorem dX7_failureOf_3 : decode cX7_failureOf 3 = .ok (.aload_n 0, 1) := by decide +kernel
theorem dX7_failureOf_4 : decode cX7_failureOf 4 = .ok (.getfield 70, 3) := by decide +kernel
theorem dX7_failureOf_7 : decode cX7_failureOf 7 = .ok (.if_icmp .ge 31, 3) := by decide +kernel
theorem dX7_failureOf_10 : decode cX7_failureOf 10 = .ok (.aload_n 0, 1) := by decide +kernel
theorem dX7_failureOf_11 : decode cX7_failureOf 11 = .ok (.getfield 27, 3) := by decide +kernel
theorem dX7_failureOf_14 : decode cX7_failureOf 14 = .ok (.iload_n 3, 1) := by decide +kernel
theorem dX7_failureOf_15 : decode cX7_failureOf 15 = .ok (.iaload, 1) := by decide +kernel
theorem dX7_failureOf_16 : decode cX7_failureOf 16 = .ok (.iload_n 1, 1) := by decide +kernel
theorem dX7_failureOf_17 : decode cX7_failureOf 17 = .ok (.if_icmp .ne 15, 3) := by decide +kernel
theorem dX7_failureOf_20 : decode cX7_failureOf 20 = .ok (.aload_n 0, 1) := by decide +kernel
theorem dX7_failureOf_21 : decode cX7_failureOf 21 = .ok (.getfield 30, 3) := by decide +kernel
theorem dX7_failureOf_24 : decode cX7_failureOf 24 = .ok (.iload_n 3, 1) := by decide +kernel
theorem dX7_failureOf_25 : decode cX7_failureOf 25 = .ok (.iaload, 1) := by decide +kernel
theorem dX7_failureOf_26 : decode cX7_failureOf 26 = .ok (.iload_n 2, 1) := by decide +kernel
theorem dX7_failureOf_27 : decode cX7_failureOf 27 = .ok (.if_icmp .ne 5, 3) := by decide +kernel
theorem dX7_failureOf_30 : decode cX7_failureOf 30 = .ok (.iload_n 3, 1) := by decide +kernel
theorem dX7_failureOf_31 : decode cX7_failureOf 31 = .ok (.ireturn, 1) := by decide +kernel
theorem dX7_failureOf_32 : decode cX7_failureOf 32 = .ok (.iinc 3 1, 3) := by decide +kernel
theorem dX7_failureOf_35 : decode cX7_failureOf 35 = .ok (.goto (-33), 3) := by decide +kernel
theorem dX7_failureOf_38 : decode cX7_failureOf 38 = .ok (.iconst (-1), 1) := by decide +kernel
theorem dX7_failureOf_39 : decode cX7_failureOf 39 = .ok (.ireturn, 1) := by decide +kernel
theorem dX7_fail_0 : decode cX7_fail 0 = .ok (.aload_n 0, 1) := by decide +kernel
theorem dX7_fail_1 : decode cX7_fail 1 = .ok (.iconst 0, 1) := by decide +kernel
theorem dX7_fail_2 : decode cX7_fail 2 = .ok (.putfield 67, 3) := by decide +kernel
theorem dX7_fail_5 : decode cX7_fail 5 = .ok (.iload_n 1, 1) := by decide +kernel
theorem dX7_fail_6 : decode cX7_fail 6 = .ok (.ifCond .lt 17, 3) := by decide +kernel
theorem dX7_fail_9 : decode cX7_fail 9 = .ok (.iload_n 1, 1) := by decide +kernel
theorem dX7_fail_10 : decode cX7_fail 10 = .ok (.bipush 16, 2) := by decide +kernel
theorem dX7_fail_12 : decode cX7_fail 12 = .ok (.if_icmp .ge 11, 3) := by decide +kernel
theorem dX7_fail_15 : decode cX7_fail 15 = .ok (.aload_n 0, 1) := by decide +kernel
theorem dX7_fail_16 : decode cX7_fail 16 = .ok (.iload_n 2, 1) := by decide +kernel
theorem dX7_fail_17 : decode cX7_fail 17 = .ok (.invokevirtual 73, 3) := by decide +kernel
theorem dX7_fail_20 : decode cX7_fail 20 = .ok (.ifCond .ne 6, 3) := by decide +kernel
theorem dX7_fail_23 : decode cX7_fail 23 = .ok (.bipush (-3), 2) := by decide +kernel
theorem dX7_fail_25 : decode cX7_fail 25 = .ok (.ireturn, 1) := by decide +kernel
theorem dX7_fail_26 : decode cX7_fail 26 = .ok (.aload_n 0, 1) := by decide +kernel
theorem dX7_fail_27 : decode cX7_fail 27 = .ok (.iload_n 1, 1) := by decide +kernel
theorem dX7_fail_28 : decode cX7_fail 28 = .ok (.iload_n 2, 1) := by decide +kernel
theorem dX7_fail_29 : decode cX7_fail 29 = .ok (.invokevirtual 81, 3) := by decide +kernel
theorem dX7_fail_32 : decode cX7_fail 32 = .ok (.iconst (-1), 1) := by decide +kernel
theorem dX7_fail_33 : decode cX7_fail 33 = .ok (.if_icmp .eq 5, 3) := by decide +kernel
theorem dX7_fail_36 : decode cX7_fail 36 = .ok (.iconst 0, 1) := by decide +kernel
theorem dX7_fail_37 : decode cX7_fail 37 = .ok (.ireturn, 1) := by decide +kernel
theorem dX7_fail_38 : decode cX7_fail 38 = .ok (.aload_n 0, 1) := by decide +kernel
theorem dX7_fail_39 : decode cX7_fail 39 = .ok (.getfield 70, 3) := by decide +kernel
theorem dX7_fail_42 : decode cX7_fail 42 = .ok (.bipush 20, 2) := by decide +kernel
theorem dX7_fail_44 : decode cX7_fail 44 = .ok (.if_icmp .ne 6, 3) := by decide +kernel
theorem dX7_fail_47 : decode cX7_fail 47 = .ok (.bipush (-4), 2) := by decide +kernel
theorem dX7_fail_49 : decode cX7_fail 49 = .ok (.ireturn, 1) := by decide +kernel
theorem dX7_fail_50 : decode cX7_fail 50 = .ok (.aload_n 0, 1) := by decide +kernel
theorem dX7_fail_51 : decode cX7_fail 51 = .ok (.getfield 27, 3) := by decide +kernel
theorem dX7_fail_54 : decode cX7_fail 54 = .ok (.aload_n 0, 1) := by decide +kernel
theorem dX7_fail_55 : decode cX7_fail 55 = .ok (.getfield 70, 3) := by decide +kernel
theorem dX7_fail_58 : decode cX7_fail 58 = .ok (.iload_n 1, 1) := by decide +kernel
theorem dX7_fail_59 : decode cX7_fail 59 = .ok (.iastore, 1) := by decide +kernel
theorem dX7_fail_60 : decode cX7_fail 60 = .ok (.aload_n 0, 1) := by decide +kernel
theorem dX7_fail_61 : decode cX7_fail 61 = .ok (.getfield 30, 3) := by decide +kernel
theorem dX7_fail_64 : decode cX7_fail 64 = .ok (.aload_n 0, 1) := by decide +kernel
theorem dX7_fail_65 : decode cX7_fail 65 = .ok (.getfield 70, 3) := by decide +kernel
theorem dX7_fail_68 : decode cX7_fail 68 = .ok (.iload_n 2, 1) := by decide +kernel
theorem dX7_fail_69 : decode cX7_fail 69 = .ok (.iastore, 1) := by decide +kernel
theorem dX7_fail_70 : decode cX7_fail 70 = .ok (.aload_n 0, 1) := by decide +kernel
theorem dX7_fail_71 : decode cX7_fail 71 = .ok (.dup, 1) := by decide +kernel
theorem dX7_fail_72 : decode cX7_fail 72 = .ok (.getfield 70, 3) := by decide +kernel
theorem dX7_fail_75 : decode cX7_fail 75 = .ok (.iconst 1, 1) := by decide +kernel
theorem dX7_fail_76 : decode cX7_fail 76 = .ok (.iadd, 1) := by decide +kernel
theorem dX7_fail_77 : decode cX7_fail 77 = .ok (.putfield 70, 3) := by decide +kernel
theorem dX7_fail_80 : decode cX7_fail 80 = .ok (.aload_n 0, 1) := by decide +kernel
theorem dX7_fail_81 : decode cX7_fail 81 = .ok (.getfield 70, 3) := by decide +kernel
theorem dX7_fail_84 : decode cX7_fail 84 = .ok (.ireturn, 1) := by decide +kernel
theorem dX7_forget_0 : decode cX7_forget 0 = .ok (.aload_n 0, 1) := by decide +kernel
theorem dX7_forget_1 : decode cX7_forget 1 = .ok (.dup, 1) := by decide +kernel
theorem dX7_forget_2 : decode cX7_forget 2 = .ok (.getfield 70, 3) := by decide +kernel
theorem dX7_forget_5 : decode cX7_forget 5 = .ok (.iconst 1, 1) := by decide +kernel
theorem dX7_forget_6 : decode cX7_forget 6 = .ok (.isub, 1) := by decide +kernel
theorem dX7_forget_7 : decode cX7_forget 7 = .ok (.putfield 70, 3) := by decide +kernel
theorem dX7_forget_10 : decode cX7_forget 10 = .ok (.iload_n 1, 1) := by decide +kernel
theorem dX7_forget_11 : decode cX7_forget 11 = .ok (.istore_n 2, 1) := by decide +kernel
theorem dX7_forget_12 : decode cX7_forget 12 = .ok (.iload_n 2, 1) := by decide +kernel
theorem dX7_forget_13 : decode cX7_forget 13 = .ok (.aload_n 0, 1) := by decide +kernel
theorem dX7_forget_14 : decode cX7_forget 14 = .ok (.getfield 70, 3) := by decide +kernel
theorem dX7_forget_17 : decode cX7_forget 17 = .ok (.if_icmp .ge 37, 3) := by decide +kernel
theorem dX7_forget_20 : decode cX7_forget 20 = .ok (.aload_n 0, 1) := by decide +kernel
theorem dX7_forget_21 : decode cX7_forget 21 = .ok (.getfield 27, 3) := by decide +kernel
theorem dX7_forget_24 : decode cX7_forget 24 = .ok (.iload_n 2, 1) := by decide +kernel
theorem dX7_forget_25 : decode cX7_forget 25 = .ok (.aload_n 0, 1) := by decide +kernel
theorem dX7_forget_26 : decode cX7_forget 26 = .ok (.getfield 27, 3) := by decide +kernel
theorem dX7_forget_29 : decode cX7_forget 29 = .ok (.iload_n 2, 1) := by decide +kernel
theorem dX7_forget_30 : decode cX7_forget 30 = .ok (.iconst 1, 1) := by decide +kernel
theorem dX7_forget_31 : decode cX7_forget 31 = .ok (.iadd, 1) := by decide +kernel
theorem dX7_forget_32 : decode cX7_forget 32 = .ok (.iaload, 1) := by decide +kernel
theorem dX7_forget_33 : decode cX7_forget 33 = .ok (.iastore, 1) := by decide +kernel
theorem dX7_forget_34 : decode cX7_forget 34 = .ok (.aload_n 0, 1) := by decide +kernel
theorem dX7_forget_35 : decode cX7_forget 35 = .ok (.getfield 30, 3) := by decide +kernel
theorem dX7_forget_38 : decode cX7_forget 38 = .ok (.iload_n 2, 1) := by decide +kernel
theorem dX7_forget_39 : decode cX7_forget 39 = .ok (.aload_n 0, 1) := by decide +kernel
theorem dX7_forget_40 : decode cX7_forget 40 = .ok (.getfield 30, 3) := by decide +kernel
theorem dX7_forget_43 : decode cX7_forget 43 = .ok (.iload_n 2, 1) := by decide +kernel
theorem dX7_forget_44 : decode cX7_forget 44 = .ok (.iconst 1, 1) := by decide +kernel
theorem dX7_forget_45 : decode cX7_forget 45 = .ok (.iadd, 1) := by decide +kernel
theorem dX7_forget_46 : decode cX7_forget 46 = .ok (.iaload, 1) := by decide +kernel
theorem dX7_forget_47 : decode cX7_forget 47 = .ok (.iastore, 1) := by decide +kernel
theorem dX7_forget_48 : decode cX7_forget 48 = .ok (.iinc 2 1, 3) := by decide +kernel
theorem dX7_forget_51 : decode cX7_forget 51 = .ok (.goto (-39), 3) := by decide +kernel
theorem dX7_forget_54 : decode cX7_forget 54 = .ok (.return_, 1) := by decide +kernel
theorem dX7_turned_0 : decode cX7_turned 0 = .ok (.lload_n 0, 1) := by decide +kernel
theorem dX7_turned_1 : decode cX7_turned 1 = .ok (.iload_n 2, 1) := by decide +kernel
theorem dX7_turned_2 : decode cX7_turned 2 = .ok (.lshl, 1) := by decide +kernel
theorem dX7_turned_3 : decode cX7_turned 3 = .ok (.lload_n 0, 1) := by decide +kernel
theorem dX7_turned_4 : decode cX7_turned 4 = .ok (.bipush 64, 2) := by decide +kernel
theorem dX7_turned_6 : decode cX7_turned 6 = .ok (.iload_n 2, 1) := by decide +kernel
theorem dX7_turned_7 : decode cX7_turned 7 = .ok (.isub, 1) := by decide +kernel
theorem dX7_turned_8 : decode cX7_turned 8 = .ok (.lushr, 1) := by decide +kernel
theorem dX7_turned_9 : decode cX7_turned 9 = .ok (.lor, 1) := by decide +kernel
theorem dX7_turned_10 : decode cX7_turned 10 = .ok (.lreturn, 1) := by decide +kernel
theorem dX7_resultOf_0 : decode cX7_resultOf 0 = .ok (.aload_n 0, 1) := by decide +kernel
theorem dX7_resultOf_1 : decode cX7_resultOf 1 = .ok (.getfield 7, 3) := by decide +kernel
theorem dX7_resultOf_4 : decode cX7_resultOf 4 = .ok (.iload_n 1, 1) := by decide +kernel
theorem dX7_resultOf_5 : decode cX7_resultOf 5 = .ok (.laload, 1) := by decide +kernel
theorem dX7_resultOf_6 : decode cX7_resultOf 6 = .ok (.lstore_n 2, 1) := by decide +kernel
theorem dX7_resultOf_7 : decode cX7_resultOf 7 = .ok (.iconst 0, 1) := by decide +kernel
theorem dX7_resultOf_8 : decode cX7_resultOf 8 = .ok (.istore 4, 2) := by decide +kernel
theorem dX7_resultOf_10 : decode cX7_resultOf 10 = .ok (.iload 4, 2) := by decide +kernel
theorem dX7_resultOf_12 : decode cX7_resultOf 12 = .ok (.aload_n 0, 1) := by decide +kernel
theorem dX7_resultOf_13 : decode cX7_resultOf 13 = .ok (.getfield 13, 3) := by decide +kernel
theorem dX7_resultOf_16 : decode cX7_resultOf 16 = .ok (.iload_n 1, 1) := by decide +kernel
theorem dX7_resultOf_17 : decode cX7_resultOf 17 = .ok (.iaload, 1) := by decide +kernel
theorem dX7_resultOf_18 : decode cX7_resultOf 18 = .ok (.if_icmp .ge 31, 3) := by decide +kernel
theorem dX7_resultOf_21 : decode cX7_resultOf 21 = .ok (.lload_n 2, 1) := by decide +kernel
theorem dX7_resultOf_22 : decode cX7_resultOf 22 = .ok (.bipush 7, 2) := by decide +kernel
theorem dX7_resultOf_24 : decode cX7_resultOf 24 = .ok (.invokestatic 85, 3) := by decide +kernel
theorem dX7_resultOf_27 : decode cX7_resultOf 27 = .ok (.aload_n 0, 1) := by decide +kernel
theorem dX7_resultOf_28 : decode cX7_resultOf 28 = .ok (.getfield 7, 3) := by decide +kernel
theorem dX7_resultOf_31 : decode cX7_resultOf 31 = .ok (.iload_n 1, 1) := by decide +kernel
theorem dX7_resultOf_32 : decode cX7_resultOf 32 = .ok (.laload, 1) := by decide +kernel
theorem dX7_resultOf_33 : decode cX7_resultOf 33 = .ok (.lxor, 1) := by decide +kernel
theorem dX7_resultOf_34 : decode cX7_resultOf 34 = .ok (.ldc2_w 89, 3) := by decide +kernel
theorem dX7_resultOf_37 : decode cX7_resultOf 37 = .ok (.lmul, 1) := by decide +kernel
theorem dX7_resultOf_38 : decode cX7_resultOf 38 = .ok (.iload 4, 2) := by decide +kernel
theorem dX7_resultOf_40 : decode cX7_resultOf 40 = .ok (.i2l, 1) := by decide +kernel
theorem dX7_resultOf_41 : decode cX7_resultOf 41 = .ok (.ladd, 1) := by decide +kernel
theorem dX7_resultOf_42 : decode cX7_resultOf 42 = .ok (.lstore_n 2, 1) := by decide +kernel
theorem dX7_resultOf_43 : decode cX7_resultOf 43 = .ok (.iinc 4 1, 3) := by decide +kernel
theorem dX7_resultOf_46 : decode cX7_resultOf 46 = .ok (.goto (-36), 3) := by decide +kernel
theorem dX7_resultOf_49 : decode cX7_resultOf 49 = .ok (.lload_n 2, 1) := by decide +kernel
theorem dX7_resultOf_50 : decode cX7_resultOf 50 = .ok (.lreturn, 1) := by decide +kernel
theorem dX7_liveCount_0 : decode cX7_liveCount 0 = .ok (.iconst 0, 1) := by decide +kernel
theorem dX7_liveCount_1 : decode cX7_liveCount 1 = .ok (.istore_n 1, 1) := by decide +kernel
theorem dX7_liveCount_2 : decode cX7_liveCount 2 = .ok (.iconst 0, 1) := by decide +kernel
theorem dX7_liveCount_3 : decode cX7_liveCount 3 = .ok (.istore_n 2, 1) := by decide +kernel
theorem dX7_liveCount_4 : decode cX7_liveCount 4 = .ok (.iload_n 2, 1) := by decide +kernel
theorem dX7_liveCount_5 : decode cX7_liveCount 5 = .ok (.aload_n 0, 1) := by decide +kernel
theorem dX7_liveCount_6 : decode cX7_liveCount 6 = .ok (.getfield 91, 3) := by decide +kernel
theorem dX7_liveCount_9 : decode cX7_liveCount 9 = .ok (.if_icmp .ge 26, 3) := by decide +kernel
theorem dX7_liveCount_12 : decode cX7_liveCount 12 = .ok (.iload_n 1, 1) := by decide +kernel
theorem dX7_liveCount_13 : decode cX7_liveCount 13 = .ok (.aload_n 0, 1) := by decide +kernel
theorem dX7_liveCount_14 : decode cX7_liveCount 14 = .ok (.getfield 48, 3) := by decide +kernel
theorem dX7_liveCount_17 : decode cX7_liveCount 17 = .ok (.iload_n 2, 1) := by decide +kernel
theorem dX7_liveCount_18 : decode cX7_liveCount 18 = .ok (.baload, 1) := by decide +kernel
theorem dX7_liveCount_19 : decode cX7_liveCount 19 = .ok (.ifCond .eq 7, 3) := by decide +kernel
theorem dX7_liveCount_22 : decode cX7_liveCount 22 = .ok (.iconst 1, 1) := by decide +kernel
theorem dX7_liveCount_23 : decode cX7_liveCount 23 = .ok (.goto 4, 3) := by decide +kernel
theorem dX7_liveCount_26 : decode cX7_liveCount 26 = .ok (.iconst 0, 1) := by decide +kernel
theorem dX7_liveCount_27 : decode cX7_liveCount 27 = .ok (.iadd, 1) := by decide +kernel
theorem dX7_liveCount_28 : decode cX7_liveCount 28 = .ok (.istore_n 1, 1) := by decide +kernel
theorem dX7_liveCount_29 : decode cX7_liveCount 29 = .ok (.iinc 2 1, 3) := by decide +kernel
theorem dX7_liveCount_32 : decode cX7_liveCount 32 = .ok (.goto (-28), 3) := by decide +kernel
theorem dX7_liveCount_35 : decode cX7_liveCount 35 = .ok (.iload_n 1, 1) := by decide +kernel
theorem dX7_liveCount_36 : decode cX7_liveCount 36 = .ok (.ireturn, 1) := by decide +kernel
theorem dX7_liveAt_0 : decode cX7_liveAt 0 = .ok (.lload_n 1, 1) := by decide +kernel
theorem dX7_liveAt_1 : decode cX7_liveAt 1 = .ok (.lstore_n 3, 1) := by decide +kernel
theorem dX7_liveAt_2 : decode cX7_liveAt 2 = .ok (.iconst 0, 1) := by decide +kernel
theorem dX7_liveAt_3 : decode cX7_liveAt 3 = .ok (.istore 5, 2) := by decide +kernel
theorem dX7_liveAt_5 : decode cX7_liveAt 5 = .ok (.aload_n 0, 1) := by decide +kernel
theorem dX7_liveAt_6 : decode cX7_liveAt 6 = .ok (.getfield 48, 3) := by decide +kernel
theorem dX7_liveAt_9 : decode cX7_liveAt 9 = .ok (.iload 5, 2) := by decide +kernel
theorem dX7_liveAt_11 : decode cX7_liveAt 11 = .ok (.baload, 1) := by decide +kernel
theorem dX7_liveAt_12 : decode cX7_liveAt 12 = .ok (.ifCond .eq 9, 3) := by decide +kernel
theorem dX7_liveAt_15 : decode cX7_liveAt 15 = .ok (.lload_n 3, 1) := by decide +kernel
theorem dX7_liveAt_16 : decode cX7_liveAt 16 = .ok (.lconst 0, 1) := by decide +kernel
theorem dX7_liveAt_17 : decode cX7_liveAt 17 = .ok (.lcmp, 1) := by decide +kernel
theorem dX7_liveAt_18 : decode cX7_liveAt 18 = .ok (.ifCond .le 27, 3) := by decide +kernel
theorem dX7_liveAt_21 : decode cX7_liveAt 21 = .ok (.lload_n 3, 1) := by decide +kernel
theorem dX7_liveAt_22 : decode cX7_liveAt 22 = .ok (.aload_n 0, 1) := by decide +kernel
theorem dX7_liveAt_23 : decode cX7_liveAt 23 = .ok (.getfield 48, 3) := by decide +kernel
theorem dX7_liveAt_26 : decode cX7_liveAt 26 = .ok (.iload 5, 2) := by decide +kernel
theorem dX7_liveAt_28 : decode cX7_liveAt 28 = .ok (.baload, 1) := by decide +kernel
theorem dX7_liveAt_29 : decode cX7_liveAt 29 = .ok (.ifCond .eq 7, 3) := by decide +kernel
theorem dX7_liveAt_32 : decode cX7_liveAt 32 = .ok (.lconst 1, 1) := by decide +kernel
theorem dX7_liveAt_33 : decode cX7_liveAt 33 = .ok (.goto 4, 3) := by decide +kernel
theorem dX7_liveAt_36 : decode cX7_liveAt 36 = .ok (.lconst 0, 1) := by decide +kernel
theorem dX7_liveAt_37 : decode cX7_liveAt 37 = .ok (.lsub, 1) := by decide +kernel
theorem dX7_liveAt_38 : decode cX7_liveAt 38 = .ok (.lstore_n 3, 1) := by decide +kernel
theorem dX7_liveAt_39 : decode cX7_liveAt 39 = .ok (.iinc 5 1, 3) := by decide +kernel
theorem dX7_liveAt_42 : decode cX7_liveAt 42 = .ok (.goto (-37), 3) := by decide +kernel
theorem dX7_liveAt_45 : decode cX7_liveAt 45 = .ok (.iload 5, 2) := by decide +kernel
theorem dX7_liveAt_47 : decode cX7_liveAt 47 = .ok (.ireturn, 1) := by decide +kernel
theorem dX7_take_0 : decode cX7_take 0 = .ok (.iconst (-1), 1) := by decide +kernel
theorem dX7_take_1 : decode cX7_take 1 = .ok (.istore_n 2, 1) := by decide +kernel
theorem dX7_take_2 : decode cX7_take 2 = .ok (.aload_n 0, 1) := by decide +kernel
theorem dX7_take_3 : decode cX7_take 3 = .ok (.getfield 94, 3) := by decide +kernel
theorem dX7_take_6 : decode cX7_take 6 = .ok (.ifCond .le 23, 3) := by decide +kernel
theorem dX7_take_9 : decode cX7_take 9 = .ok (.aload_n 0, 1) := by decide +kernel
theorem dX7_take_10 : decode cX7_take 10 = .ok (.dup, 1) := by decide +kernel
theorem dX7_take_11 : decode cX7_take 11 = .ok (.getfield 94, 3) := by decide +kernel
theorem dX7_take_14 : decode cX7_take 14 = .ok (.iconst 1, 1) := by decide +kernel
theorem dX7_take_15 : decode cX7_take 15 = .ok (.isub, 1) := by decide +kernel
theorem dX7_take_16 : decode cX7_take 16 = .ok (.putfield 94, 3) := by decide +kernel
theorem dX7_take_19 : decode cX7_take 19 = .ok (.aload_n 0, 1) := by decide +kernel
theorem dX7_take_20 : decode cX7_take 20 = .ok (.getfield 57, 3) := by decide +kernel
theorem dX7_take_23 : decode cX7_take 23 = .ok (.aload_n 0, 1) := by decide +kernel
theorem dX7_take_24 : decode cX7_take 24 = .ok (.getfield 94, 3) := by decide +kernel
theorem dX7_take_27 : decode cX7_take 27 = .ok (.iaload, 1) := by decide +kernel
theorem dX7_take_28 : decode cX7_take 28 = .ok (.istore_n 2, 1) := by decide +kernel
theorem dX7_take_29 : decode cX7_take 29 = .ok (.iconst 0, 1) := by decide +kernel
theorem dX7_take_30 : decode cX7_take 30 = .ok (.istore_n 3, 1) := by decide +kernel
theorem dX7_take_31 : decode cX7_take 31 = .ok (.iload_n 3, 1) := by decide +kernel
theorem dX7_take_32 : decode cX7_take 32 = .ok (.aload_n 0, 1) := by decide +kernel
theorem dX7_take_33 : decode cX7_take 33 = .ok (.getfield 60, 3) := by decide +kernel
theorem dX7_take_36 : decode cX7_take 36 = .ok (.if_icmp .ge 30, 3) := by decide +kernel
theorem dX7_take_39 : decode cX7_take 39 = .ok (.iload_n 2, 1) := by decide +kernel
theorem dX7_take_40 : decode cX7_take 40 = .ok (.iconst (-1), 1) := by decide +kernel
theorem dX7_take_41 : decode cX7_take 41 = .ok (.if_icmp .ne 25, 3) := by decide +kernel
theorem dX7_take_44 : decode cX7_take 44 = .ok (.aload_n 0, 1) := by decide +kernel
theorem dX7_take_45 : decode cX7_take 45 = .ok (.getfield 45, 3) := by decide +kernel
theorem dX7_take_48 : decode cX7_take 48 = .ok (.iload_n 3, 1) := by decide +kernel
theorem dX7_take_49 : decode cX7_take 49 = .ok (.iaload, 1) := by decide +kernel
theorem dX7_take_50 : decode cX7_take 50 = .ok (.iconst 1, 1) := by decide +kernel
theorem dX7_take_51 : decode cX7_take 51 = .ok (.if_icmp .ne 7, 3) := by decide +kernel
theorem dX7_take_54 : decode cX7_take 54 = .ok (.iload_n 3, 1) := by decide +kernel
theorem dX7_take_55 : decode cX7_take 55 = .ok (.goto 4, 3) := by decide +kernel
theorem dX7_take_58 : decode cX7_take 58 = .ok (.iconst (-1), 1) := by decide +kernel
theorem dX7_take_59 : decode cX7_take 59 = .ok (.istore_n 2, 1) := by decide +kernel
theorem dX7_take_60 : decode cX7_take 60 = .ok (.iinc 3 1, 3) := by decide +kernel
theorem dX7_take_63 : decode cX7_take 63 = .ok (.goto (-32), 3) := by decide +kernel
theorem dX7_take_66 : decode cX7_take 66 = .ok (.iload_n 2, 1) := by decide +kernel
theorem dX7_take_67 : decode cX7_take 67 = .ok (.iconst (-1), 1) := by decide +kernel
theorem dX7_take_68 : decode cX7_take 68 = .ok (.if_icmp .eq 44, 3) := by decide +kernel
theorem dX7_take_71 : decode cX7_take 71 = .ok (.aload_n 0, 1) := by decide +kernel
theorem dX7_take_72 : decode cX7_take 72 = .ok (.getfield 45, 3) := by decide +kernel
theorem dX7_take_75 : decode cX7_take 75 = .ok (.iload_n 2, 1) := by decide +kernel
theorem dX7_take_76 : decode cX7_take 76 = .ok (.iconst 2, 1) := by decide +kernel
theorem dX7_take_77 : decode cX7_take 77 = .ok (.iastore, 1) := by decide +kernel
theorem dX7_take_78 : decode cX7_take 78 = .ok (.aload_n 0, 1) := by decide +kernel
theorem dX7_take_79 : decode cX7_take 79 = .ok (.getfield 51, 3) := by decide +kernel
theorem dX7_take_82 : decode cX7_take 82 = .ok (.iload_n 1, 1) := by decide +kernel
theorem dX7_take_83 : decode cX7_take 83 = .ok (.iload_n 2, 1) := by decide +kernel
theorem dX7_take_84 : decode cX7_take 84 = .ok (.iastore, 1) := by decide +kernel
theorem dX7_take_85 : decode cX7_take 85 = .ok (.aload_n 0, 1) := by decide +kernel
theorem dX7_take_86 : decode cX7_take 86 = .ok (.getfield 54, 3) := by decide +kernel
theorem dX7_take_89 : decode cX7_take 89 = .ok (.iload_n 1, 1) := by decide +kernel
theorem dX7_take_90 : decode cX7_take 90 = .ok (.iconst 0, 1) := by decide +kernel
theorem dX7_take_91 : decode cX7_take 91 = .ok (.iastore, 1) := by decide +kernel
theorem dX7_take_92 : decode cX7_take 92 = .ok (.aload_n 0, 1) := by decide +kernel
theorem dX7_take_93 : decode cX7_take 93 = .ok (.getfield 39, 3) := by decide +kernel
theorem dX7_take_96 : decode cX7_take 96 = .ok (.iload_n 2, 1) := by decide +kernel
theorem dX7_take_97 : decode cX7_take 97 = .ok (.dup2, 1) := by decide +kernel
theorem dX7_take_98 : decode cX7_take 98 = .ok (.iaload, 1) := by decide +kernel
theorem dX7_take_99 : decode cX7_take 99 = .ok (.iconst 1, 1) := by decide +kernel
theorem dX7_take_100 : decode cX7_take 100 = .ok (.iadd, 1) := by decide +kernel
theorem dX7_take_101 : decode cX7_take 101 = .ok (.iastore, 1) := by decide +kernel
theorem dX7_take_102 : decode cX7_take 102 = .ok (.aload_n 0, 1) := by decide +kernel
theorem dX7_take_103 : decode cX7_take 103 = .ok (.getfield 36, 3) := by decide +kernel
theorem dX7_take_106 : decode cX7_take 106 = .ok (.iconst 5, 1) := by decide +kernel
theorem dX7_take_107 : decode cX7_take 107 = .ok (.dup2, 1) := by decide +kernel
theorem dX7_take_108 : decode cX7_take 108 = .ok (.iaload, 1) := by decide +kernel
theorem dX7_take_109 : decode cX7_take 109 = .ok (.iconst 1, 1) := by decide +kernel
theorem dX7_take_110 : decode cX7_take 110 = .ok (.iadd, 1) := by decide +kernel
theorem dX7_take_111 : decode cX7_take 111 = .ok (.iastore, 1) := by decide +kernel
theorem dX7_take_112 : decode cX7_take 112 = .ok (.return_, 1) := by decide +kernel
theorem dX7_step_0 : decode cX7_step 0 = .ok (.aload_n 0, 1) := by decide +kernel
theorem dX7_step_1 : decode cX7_step 1 = .ok (.getfield 51, 3) := by decide +kernel
theorem dX7_step_4 : decode cX7_step 4 = .ok (.iload_n 1, 1) := by decide +kernel
theorem dX7_step_5 : decode cX7_step 5 = .ok (.iaload, 1) := by decide +kernel
theorem dX7_step_6 : decode cX7_step 6 = .ok (.istore_n 2, 1) := by decide +kernel
theorem dX7_step_7 : decode cX7_step 7 = .ok (.aload_n 0, 1) := by decide +kernel
theorem dX7_step_8 : decode cX7_step 8 = .ok (.iload_n 1, 1) := by decide +kernel
theorem dX7_step_9 : decode cX7_step 9 = .ok (.iload_n 2, 1) := by decide +kernel
theorem dX7_step_10 : decode cX7_step 10 = .ok (.invokevirtual 81, 3) := by decide +kernel
theorem dX7_step_13 : decode cX7_step 13 = .ok (.istore_n 3, 1) := by decide +kernel
theorem dX7_step_14 : decode cX7_step 14 = .ok (.aload_n 0, 1) := by decide +kernel
theorem dX7_step_15 : decode cX7_step 15 = .ok (.getfield 54, 3) := by decide +kernel
theorem dX7_step_18 : decode cX7_step 18 = .ok (.iload_n 1, 1) := by decide +kernel
theorem dX7_step_19 : decode cX7_step 19 = .ok (.iaload, 1) := by decide +kernel
theorem dX7_step_20 : decode cX7_step 20 = .ok (.aload_n 0, 1) := by decide +kernel
theorem dX7_step_21 : decode cX7_step 21 = .ok (.getfield 13, 3) := by decide +kernel
theorem dX7_step_24 : decode cX7_step 24 = .ok (.iload_n 2, 1) := by decide +kernel
theorem dX7_step_25 : decode cX7_step 25 = .ok (.iaload, 1) := by decide +kernel
theorem dX7_step_26 : decode cX7_step 26 = .ok (.iconst 1, 1) := by decide +kernel
theorem dX7_step_27 : decode cX7_step 27 = .ok (.isub, 1) := by decide +kernel
theorem dX7_step_28 : decode cX7_step 28 = .ok (.if_icmp .ne 65, 3) := by decide +kernel
theorem dX7_step_31 : decode cX7_step 31 = .ok (.iload_n 3, 1) := by decide +kernel
theorem dX7_step_32 : decode cX7_step 32 = .ok (.iconst (-1), 1) := by decide +kernel
theorem dX7_step_33 : decode cX7_step 33 = .ok (.if_icmp .eq 60, 3) := by decide +kernel
theorem dX7_step_36 : decode cX7_step 36 = .ok (.aload_n 0, 1) := by decide +kernel
theorem dX7_step_37 : decode cX7_step 37 = .ok (.getfield 48, 3) := by decide +kernel
theorem dX7_step_40 : decode cX7_step 40 = .ok (.iload_n 1, 1) := by decide +kernel
theorem dX7_step_41 : decode cX7_step 41 = .ok (.iconst 0, 1) := by decide +kernel
theorem dX7_step_42 : decode cX7_step 42 = .ok (.bastore, 1) := by decide +kernel
theorem dX7_step_43 : decode cX7_step 43 = .ok (.aload_n 0, 1) := by decide +kernel
theorem dX7_step_44 : decode cX7_step 44 = .ok (.getfield 51, 3) := by decide +kernel
theorem dX7_step_47 : decode cX7_step 47 = .ok (.iload_n 1, 1) := by decide +kernel
theorem dX7_step_48 : decode cX7_step 48 = .ok (.iconst (-1), 1) := by decide +kernel
theorem dX7_step_49 : decode cX7_step 49 = .ok (.iastore, 1) := by decide +kernel
theorem dX7_step_50 : decode cX7_step 50 = .ok (.aload_n 0, 1) := by decide +kernel
theorem dX7_step_51 : decode cX7_step 51 = .ok (.iload_n 3, 1) := by decide +kernel
theorem dX7_step_52 : decode cX7_step 52 = .ok (.invokevirtual 97, 3) := by decide +kernel
theorem dX7_step_55 : decode cX7_step 55 = .ok (.aload_n 0, 1) := by decide +kernel
theorem dX7_step_56 : decode cX7_step 56 = .ok (.getfield 36, 3) := by decide +kernel
theorem dX7_step_59 : decode cX7_step 59 = .ok (.iconst 2, 1) := by decide +kernel
theorem dX7_step_60 : decode cX7_step 60 = .ok (.dup2, 1) := by decide +kernel
theorem dX7_step_61 : decode cX7_step 61 = .ok (.iaload, 1) := by decide +kernel
theorem dX7_step_62 : decode cX7_step 62 = .ok (.iconst 1, 1) := by decide +kernel
theorem dX7_step_63 : decode cX7_step 63 = .ok (.iadd, 1) := by decide +kernel
theorem dX7_step_64 : decode cX7_step 64 = .ok (.iastore, 1) := by decide +kernel
theorem dX7_step_65 : decode cX7_step 65 = .ok (.aload_n 0, 1) := by decide +kernel
theorem dX7_step_66 : decode cX7_step 66 = .ok (.getfield 45, 3) := by decide +kernel
theorem dX7_step_69 : decode cX7_step 69 = .ok (.iload_n 2, 1) := by decide +kernel
theorem dX7_step_70 : decode cX7_step 70 = .ok (.iconst 4, 1) := by decide +kernel
theorem dX7_step_71 : decode cX7_step 71 = .ok (.iastore, 1) := by decide +kernel
theorem dX7_step_72 : decode cX7_step 72 = .ok (.aload_n 0, 1) := by decide +kernel
theorem dX7_step_73 : decode cX7_step 73 = .ok (.getfield 57, 3) := by decide +kernel
theorem dX7_step_76 : decode cX7_step 76 = .ok (.aload_n 0, 1) := by decide +kernel
theorem dX7_step_77 : decode cX7_step 77 = .ok (.getfield 94, 3) := by decide +kernel
theorem dX7_step_80 : decode cX7_step 80 = .ok (.iload_n 2, 1) := by decide +kernel
theorem dX7_step_81 : decode cX7_step 81 = .ok (.iastore, 1) := by decide +kernel
theorem dX7_step_82 : decode cX7_step 82 = .ok (.aload_n 0, 1) := by decide +kernel
theorem dX7_step_83 : decode cX7_step 83 = .ok (.dup, 1) := by decide +kernel
theorem dX7_step_84 : decode cX7_step 84 = .ok (.getfield 94, 3) := by decide +kernel
theorem dX7_step_87 : decode cX7_step 87 = .ok (.iconst 1, 1) := by decide +kernel
theorem dX7_step_88 : decode cX7_step 88 = .ok (.iadd, 1) := by decide +kernel
theorem dX7_step_89 : decode cX7_step 89 = .ok (.putfield 94, 3) := by decide +kernel
theorem dX7_step_92 : decode cX7_step 92 = .ok (.return_, 1) := by decide +kernel
theorem dX7_step_93 : decode cX7_step 93 = .ok (.aload_n 0, 1) := by decide +kernel
theorem dX7_step_94 : decode cX7_step 94 = .ok (.getfield 54, 3) := by decide +kernel
theorem dX7_step_97 : decode cX7_step 97 = .ok (.iload_n 1, 1) := by decide +kernel
theorem dX7_step_98 : decode cX7_step 98 = .ok (.dup2, 1) := by decide +kernel
theorem dX7_step_99 : decode cX7_step 99 = .ok (.iaload, 1) := by decide +kernel
theorem dX7_step_100 : decode cX7_step 100 = .ok (.iconst 1, 1) := by decide +kernel
theorem dX7_step_101 : decode cX7_step 101 = .ok (.iadd, 1) := by decide +kernel
theorem dX7_step_102 : decode cX7_step 102 = .ok (.iastore, 1) := by decide +kernel
theorem dX7_step_103 : decode cX7_step 103 = .ok (.aload_n 0, 1) := by decide +kernel
theorem dX7_step_104 : decode cX7_step 104 = .ok (.getfield 36, 3) := by decide +kernel
theorem dX7_step_107 : decode cX7_step 107 = .ok (.iconst 1, 1) := by decide +kernel
theorem dX7_step_108 : decode cX7_step 108 = .ok (.dup2, 1) := by decide +kernel
theorem dX7_step_109 : decode cX7_step 109 = .ok (.iaload, 1) := by decide +kernel
theorem dX7_step_110 : decode cX7_step 110 = .ok (.iconst 1, 1) := by decide +kernel
theorem dX7_step_111 : decode cX7_step 111 = .ok (.iadd, 1) := by decide +kernel
theorem dX7_step_112 : decode cX7_step 112 = .ok (.iastore, 1) := by decide +kernel
theorem dX7_step_113 : decode cX7_step 113 = .ok (.aload_n 0, 1) := by decide +kernel
theorem dX7_step_114 : decode cX7_step 114 = .ok (.getfield 54, 3) := by decide +kernel
theorem dX7_step_117 : decode cX7_step 117 = .ok (.iload_n 1, 1) := by decide +kernel
theorem dX7_step_118 : decode cX7_step 118 = .ok (.iaload, 1) := by decide +kernel
theorem dX7_step_119 : decode cX7_step 119 = .ok (.aload_n 0, 1) := by decide +kernel
theorem dX7_step_120 : decode cX7_step 120 = .ok (.getfield 13, 3) := by decide +kernel
theorem dX7_step_123 : decode cX7_step 123 = .ok (.iload_n 2, 1) := by decide +kernel
theorem dX7_step_124 : decode cX7_step 124 = .ok (.iaload, 1) := by decide +kernel
theorem dX7_step_125 : decode cX7_step 125 = .ok (.if_icmp .ne 24, 3) := by decide +kernel
theorem dX7_step_128 : decode cX7_step 128 = .ok (.aload_n 0, 1) := by decide +kernel
theorem dX7_step_129 : decode cX7_step 129 = .ok (.getfield 45, 3) := by decide +kernel
theorem dX7_step_132 : decode cX7_step 132 = .ok (.iload_n 2, 1) := by decide +kernel
theorem dX7_step_133 : decode cX7_step 133 = .ok (.iconst 3, 1) := by decide +kernel
theorem dX7_step_134 : decode cX7_step 134 = .ok (.iastore, 1) := by decide +kernel
theorem dX7_step_135 : decode cX7_step 135 = .ok (.aload_n 0, 1) := by decide +kernel
theorem dX7_step_136 : decode cX7_step 136 = .ok (.getfield 42, 3) := by decide +kernel
theorem dX7_step_139 : decode cX7_step 139 = .ok (.iload_n 2, 1) := by decide +kernel
theorem dX7_step_140 : decode cX7_step 140 = .ok (.iload_n 1, 1) := by decide +kernel
theorem dX7_step_141 : decode cX7_step 141 = .ok (.iastore, 1) := by decide +kernel
theorem dX7_step_142 : decode cX7_step 142 = .ok (.aload_n 0, 1) := by decide +kernel
theorem dX7_step_143 : decode cX7_step 143 = .ok (.getfield 51, 3) := by decide +kernel
theorem dX7_step_146 : decode cX7_step 146 = .ok (.iload_n 1, 1) := by decide +kernel
theorem dX7_step_147 : decode cX7_step 147 = .ok (.iconst (-1), 1) := by decide +kernel
theorem dX7_step_148 : decode cX7_step 148 = .ok (.iastore, 1) := by decide +kernel
theorem dX7_step_149 : decode cX7_step 149 = .ok (.return_, 1) := by decide +kernel
theorem dX7_isDone_0 : decode cX7_isDone 0 = .ok (.iconst 1, 1) := by decide +kernel
theorem dX7_isDone_1 : decode cX7_isDone 1 = .ok (.istore_n 2, 1) := by decide +kernel
theorem dX7_isDone_2 : decode cX7_isDone 2 = .ok (.iconst 0, 1) := by decide +kernel
theorem dX7_isDone_3 : decode cX7_isDone 3 = .ok (.istore_n 3, 1) := by decide +kernel
theorem dX7_isDone_4 : decode cX7_isDone 4 = .ok (.iload_n 3, 1) := by decide +kernel
theorem dX7_isDone_5 : decode cX7_isDone 5 = .ok (.aload_n 0, 1) := by decide +kernel
theorem dX7_isDone_6 : decode cX7_isDone 6 = .ok (.getfield 60, 3) := by decide +kernel
theorem dX7_isDone_9 : decode cX7_isDone 9 = .ok (.if_icmp .ge 39, 3) := by decide +kernel
theorem dX7_isDone_12 : decode cX7_isDone 12 = .ok (.iload_n 2, 1) := by decide +kernel
theorem dX7_isDone_13 : decode cX7_isDone 13 = .ok (.ifCond .eq 27, 3) := by decide +kernel
theorem dX7_isDone_16 : decode cX7_isDone 16 = .ok (.aload_n 0, 1) := by decide +kernel
theorem dX7_isDone_17 : decode cX7_isDone 17 = .ok (.getfield 24, 3) := by decide +kernel
theorem dX7_isDone_20 : decode cX7_isDone 20 = .ok (.iload_n 3, 1) := by decide +kernel
theorem dX7_isDone_21 : decode cX7_isDone 21 = .ok (.iaload, 1) := by decide +kernel
theorem dX7_isDone_22 : decode cX7_isDone 22 = .ok (.iload_n 1, 1) := by decide +kernel
theorem dX7_isDone_23 : decode cX7_isDone 23 = .ok (.if_icmp .ne 13, 3) := by decide +kernel
theorem dX7_isDone_26 : decode cX7_isDone 26 = .ok (.aload_n 0, 1) := by decide +kernel
theorem dX7_isDone_27 : decode cX7_isDone 27 = .ok (.getfield 45, 3) := by decide +kernel
theorem dX7_isDone_30 : decode cX7_isDone 30 = .ok (.iload_n 3, 1) := by decide +kernel
theorem dX7_isDone_31 : decode cX7_isDone 31 = .ok (.iaload, 1) := by decide +kernel
theorem dX7_isDone_32 : decode cX7_isDone 32 = .ok (.iconst 3, 1) := by decide +kernel
theorem dX7_isDone_33 : decode cX7_isDone 33 = .ok (.if_icmp .ne 7, 3) := by decide +kernel
theorem dX7_isDone_36 : decode cX7_isDone 36 = .ok (.iconst 1, 1) := by decide +kernel
theorem dX7_isDone_37 : decode cX7_isDone 37 = .ok (.goto 4, 3) := by decide +kernel
theorem dX7_isDone_40 : decode cX7_isDone 40 = .ok (.iconst 0, 1) := by decide +kernel
theorem dX7_isDone_41 : decode cX7_isDone 41 = .ok (.istore_n 2, 1) := by decide +kernel
theorem dX7_isDone_42 : decode cX7_isDone 42 = .ok (.iinc 3 1, 3) := by decide +kernel
theorem dX7_isDone_45 : decode cX7_isDone 45 = .ok (.goto (-41), 3) := by decide +kernel
theorem dX7_isDone_48 : decode cX7_isDone 48 = .ok (.iload_n 2, 1) := by decide +kernel
theorem dX7_isDone_49 : decode cX7_isDone 49 = .ok (.ireturn, 1) := by decide +kernel
theorem dX7_run_0 : decode cX7_run 0 = .ok (.aload_n 0, 1) := by decide +kernel
theorem dX7_run_1 : decode cX7_run 1 = .ok (.iconst 0, 1) := by decide +kernel
theorem dX7_run_2 : decode cX7_run 2 = .ok (.putfield 67, 3) := by decide +kernel
theorem dX7_run_5 : decode cX7_run 5 = .ok (.iload_n 1, 1) := by decide +kernel
theorem dX7_run_6 : decode cX7_run 6 = .ok (.iconst 1, 1) := by decide +kernel
theorem dX7_run_7 : decode cX7_run 7 = .ok (.if_icmp .lt 9, 3) := by decide +kernel
theorem dX7_run_10 : decode cX7_run 10 = .ok (.iload_n 1, 1) := by decide +kernel
theorem dX7_run_11 : decode cX7_run 11 = .ok (.bipush 16, 2) := by decide +kernel
theorem dX7_run_13 : decode cX7_run 13 = .ok (.if_icmp .le 6, 3) := by decide +kernel
theorem dX7_run_16 : decode cX7_run 16 = .ok (.bipush (-3), 2) := by decide +kernel
theorem dX7_run_18 : decode cX7_run 18 = .ok (.ireturn, 1) := by decide +kernel
theorem dX7_run_19 : decode cX7_run 19 = .ok (.aload_n 0, 1) := by decide +kernel
theorem dX7_run_20 : decode cX7_run 20 = .ok (.iload_n 1, 1) := by decide +kernel
theorem dX7_run_21 : decode cX7_run 21 = .ok (.putfield 91, 3) := by decide +kernel
theorem dX7_run_24 : decode cX7_run 24 = .ok (.iconst 0, 1) := by decide +kernel
theorem dX7_run_25 : decode cX7_run 25 = .ok (.istore 4, 2) := by decide +kernel
theorem dX7_run_27 : decode cX7_run 27 = .ok (.iload 4, 2) := by decide +kernel
theorem dX7_run_29 : decode cX7_run 29 = .ok (.bipush 16, 2) := by decide +kernel
theorem dX7_run_31 : decode cX7_run 31 = .ok (.if_icmp .ge 35, 3) := by decide +kernel
theorem dX7_run_34 : decode cX7_run 34 = .ok (.aload_n 0, 1) := by decide +kernel
theorem dX7_run_35 : decode cX7_run 35 = .ok (.getfield 48, 3) := by decide +kernel
theorem dX7_run_38 : decode cX7_run 38 = .ok (.iload 4, 2) := by decide +kernel
theorem dX7_run_40 : decode cX7_run 40 = .ok (.iload 4, 2) := by decide +kernel
theorem dX7_run_42 : decode cX7_run 42 = .ok (.iload_n 1, 1) := by decide +kernel
theorem dX7_run_43 : decode cX7_run 43 = .ok (.if_icmp .ge 7, 3) := by decide +kernel
theorem dX7_run_46 : decode cX7_run 46 = .ok (.iconst 1, 1) := by decide +kernel
theorem dX7_run_47 : decode cX7_run 47 = .ok (.goto 4, 3) := by decide +kernel
theorem dX7_run_50 : decode cX7_run 50 = .ok (.iconst 0, 1) := by decide +kernel
theorem dX7_run_51 : decode cX7_run 51 = .ok (.bastore, 1) := by decide +kernel
theorem dX7_run_52 : decode cX7_run 52 = .ok (.aload_n 0, 1) := by decide +kernel
theorem dX7_run_53 : decode cX7_run 53 = .ok (.getfield 51, 3) := by decide +kernel
theorem dX7_run_56 : decode cX7_run 56 = .ok (.iload 4, 2) := by decide +kernel
theorem dX7_run_58 : decode cX7_run 58 = .ok (.iconst (-1), 1) := by decide +kernel
theorem dX7_run_59 : decode cX7_run 59 = .ok (.iastore, 1) := by decide +kernel
theorem dX7_run_60 : decode cX7_run 60 = .ok (.iinc 4 1, 3) := by decide +kernel
theorem dX7_run_63 : decode cX7_run 63 = .ok (.goto (-36), 3) := by decide +kernel
theorem dX7_run_66 : decode cX7_run 66 = .ok (.iconst 0, 1) := by decide +kernel
theorem dX7_run_67 : decode cX7_run 67 = .ok (.istore 4, 2) := by decide +kernel
theorem dX7_run_69 : decode cX7_run 69 = .ok (.iload 4, 2) := by decide +kernel
theorem dX7_run_71 : decode cX7_run 71 = .ok (.bipush 6, 2) := by decide +kernel
theorem dX7_run_73 : decode cX7_run 73 = .ok (.if_icmp .ge 17, 3) := by decide +kernel
theorem dX7_run_76 : decode cX7_run 76 = .ok (.aload_n 0, 1) := by decide +kernel
theorem dX7_run_77 : decode cX7_run 77 = .ok (.getfield 36, 3) := by decide +kernel
theorem dX7_run_80 : decode cX7_run 80 = .ok (.iload 4, 2) := by decide +kernel
theorem dX7_run_82 : decode cX7_run 82 = .ok (.iconst 0, 1) := by decide +kernel
theorem dX7_run_83 : decode cX7_run 83 = .ok (.iastore, 1) := by decide +kernel
theorem dX7_run_84 : decode cX7_run 84 = .ok (.iinc 4 1, 3) := by decide +kernel
theorem dX7_run_87 : decode cX7_run 87 = .ok (.goto (-18), 3) := by decide +kernel
theorem dX7_run_90 : decode cX7_run 90 = .ok (.aload_n 0, 1) := by decide +kernel
theorem dX7_run_91 : decode cX7_run 91 = .ok (.invokevirtual 77, 3) := by decide +kernel
theorem dX7_run_94 : decode cX7_run 94 = .ok (.istore 4, 2) := by decide +kernel
theorem dX7_run_96 : decode cX7_run 96 = .ok (.iconst 0, 1) := by decide +kernel
theorem dX7_run_97 : decode cX7_run 97 = .ok (.istore 5, 2) := by decide +kernel
theorem dX7_run_99 : decode cX7_run 99 = .ok (.iload 5, 2) := by decide +kernel
theorem dX7_run_101 : decode cX7_run 101 = .ok (.bipush 64, 2) := by decide +kernel
theorem dX7_run_103 : decode cX7_run 103 = .ok (.if_icmp .ge 48, 3) := by decide +kernel
theorem dX7_run_106 : decode cX7_run 106 = .ok (.aload_n 0, 1) := by decide +kernel
theorem dX7_run_107 : decode cX7_run 107 = .ok (.getfield 39, 3) := by decide +kernel
theorem dX7_run_110 : decode cX7_run 110 = .ok (.iload 5, 2) := by decide +kernel
theorem dX7_run_112 : decode cX7_run 112 = .ok (.iload 5, 2) := by decide +kernel
theorem dX7_run_114 : decode cX7_run 114 = .ok (.aload_n 0, 1) := by decide +kernel
theorem dX7_run_115 : decode cX7_run 115 = .ok (.getfield 60, 3) := by decide +kernel
theorem dX7_run_118 : decode cX7_run 118 = .ok (.if_icmp .ge 17, 3) := by decide +kernel
theorem dX7_run_121 : decode cX7_run 121 = .ok (.aload_n 0, 1) := by decide +kernel
theorem dX7_run_122 : decode cX7_run 122 = .ok (.getfield 20, 3) := by decide +kernel
theorem dX7_run_125 : decode cX7_run 125 = .ok (.iload 5, 2) := by decide +kernel
theorem dX7_run_127 : decode cX7_run 127 = .ok (.baload, 1) := by decide +kernel
theorem dX7_run_128 : decode cX7_run 128 = .ok (.ifCond .eq 7, 3) := by decide +kernel
theorem dX7_run_131 : decode cX7_run 131 = .ok (.iconst (-1), 1) := by decide +kernel
theorem dX7_run_132 : decode cX7_run 132 = .ok (.goto 4, 3) := by decide +kernel
theorem dX7_run_135 : decode cX7_run 135 = .ok (.iconst 0, 1) := by decide +kernel
theorem dX7_run_136 : decode cX7_run 136 = .ok (.iastore, 1) := by decide +kernel
theorem dX7_run_137 : decode cX7_run 137 = .ok (.aload_n 0, 1) := by decide +kernel
theorem dX7_run_138 : decode cX7_run 138 = .ok (.getfield 42, 3) := by decide +kernel
theorem dX7_run_141 : decode cX7_run 141 = .ok (.iload 5, 2) := by decide +kernel
theorem dX7_run_143 : decode cX7_run 143 = .ok (.iconst (-1), 1) := by decide +kernel
theorem dX7_run_144 : decode cX7_run 144 = .ok (.iastore, 1) := by decide +kernel
theorem dX7_run_145 : decode cX7_run 145 = .ok (.iinc 5 1, 3) := by decide +kernel
theorem dX7_run_148 : decode cX7_run 148 = .ok (.goto (-49), 3) := by decide +kernel
theorem dX7_run_151 : decode cX7_run 151 = .ok (.aload_n 0, 1) := by decide +kernel
theorem dX7_run_152 : decode cX7_run 152 = .ok (.iconst 0, 1) := by decide +kernel
theorem dX7_run_153 : decode cX7_run 153 = .ok (.putfield 94, 3) := by decide +kernel
theorem dX7_run_156 : decode cX7_run 156 = .ok (.aload_n 0, 1) := by decide +kernel
theorem dX7_run_157 : decode cX7_run 157 = .ok (.iload 4, 2) := by decide +kernel
theorem dX7_run_159 : decode cX7_run 159 = .ok (.lload_n 2, 1) := by decide +kernel
theorem dX7_run_160 : decode cX7_run 160 = .ok (.invokevirtual 101, 3) := by decide +kernel
theorem dX7_run_163 : decode cX7_run 163 = .ok (.istore 5, 2) := by decide +kernel
theorem dX7_run_165 : decode cX7_run 165 = .ok (.aload_n 0, 1) := by decide +kernel
theorem dX7_run_166 : decode cX7_run 166 = .ok (.getfield 36, 3) := by decide +kernel
theorem dX7_run_169 : decode cX7_run 169 = .ok (.iconst 3, 1) := by decide +kernel
theorem dX7_run_170 : decode cX7_run 170 = .ok (.aload_n 0, 1) := by decide +kernel
theorem dX7_run_171 : decode cX7_run 171 = .ok (.invokevirtual 105, 3) := by decide +kernel
theorem dX7_run_174 : decode cX7_run 174 = .ok (.iastore, 1) := by decide +kernel
theorem dX7_run_175 : decode cX7_run 175 = .ok (.iconst 0, 1) := by decide +kernel
theorem dX7_run_176 : decode cX7_run 176 = .ok (.istore 6, 2) := by decide +kernel
theorem dX7_run_178 : decode cX7_run 178 = .ok (.iload 6, 2) := by decide +kernel
theorem dX7_run_180 : decode cX7_run 180 = .ok (.aload_n 0, 1) := by decide +kernel
theorem dX7_run_181 : decode cX7_run 181 = .ok (.getfield 60, 3) := by decide +kernel
theorem dX7_run_184 : decode cX7_run 184 = .ok (.if_icmp .ge 47, 3) := by decide +kernel
theorem dX7_run_187 : decode cX7_run 187 = .ok (.iload 5, 2) := by decide +kernel
theorem dX7_run_189 : decode cX7_run 189 = .ok (.ifCond .ne 42, 3) := by decide +kernel
theorem dX7_run_192 : decode cX7_run 192 = .ok (.aload_n 0, 1) := by decide +kernel
theorem dX7_run_193 : decode cX7_run 193 = .ok (.getfield 33, 3) := by decide +kernel
theorem dX7_run_196 : decode cX7_run 196 = .ok (.iload 6, 2) := by decide +kernel
theorem dX7_run_198 : decode cX7_run 198 = .ok (.aload_n 0, 1) := by decide +kernel
theorem dX7_run_199 : decode cX7_run 199 = .ok (.getfield 20, 3) := by decide +kernel
theorem dX7_run_202 : decode cX7_run 202 = .ok (.iload 6, 2) := by decide +kernel
theorem dX7_run_204 : decode cX7_run 204 = .ok (.baload, 1) := by decide +kernel
theorem dX7_run_205 : decode cX7_run 205 = .ok (.ifCond .eq 13, 3) := by decide +kernel
theorem dX7_run_208 : decode cX7_run 208 = .ok (.aload_n 0, 1) := by decide +kernel
theorem dX7_run_209 : decode cX7_run 209 = .ok (.getfield 33, 3) := by decide +kernel
theorem dX7_run_212 : decode cX7_run 212 = .ok (.iload 6, 2) := by decide +kernel
theorem dX7_run_214 : decode cX7_run 214 = .ok (.laload, 1) := by decide +kernel
theorem dX7_run_215 : decode cX7_run 215 = .ok (.goto 9, 3) := by decide +kernel
theorem dX7_run_218 : decode cX7_run 218 = .ok (.aload_n 0, 1) := by decide +kernel
theorem dX7_run_219 : decode cX7_run 219 = .ok (.iload 6, 2) := by decide +kernel
theorem dX7_run_221 : decode cX7_run 221 = .ok (.invokevirtual 108, 3) := by decide +kernel
theorem dX7_run_224 : decode cX7_run 224 = .ok (.lastore, 1) := by decide +kernel
theorem dX7_run_225 : decode cX7_run 225 = .ok (.iinc 6 1, 3) := by decide +kernel
theorem dX7_run_228 : decode cX7_run 228 = .ok (.goto (-50), 3) := by decide +kernel
theorem dX7_run_231 : decode cX7_run 231 = .ok (.iload 5, 2) := by decide +kernel
theorem dX7_run_233 : decode cX7_run 233 = .ok (.ireturn, 1) := by decide +kernel
theorem dX7_go_0 : decode cX7_go 0 = .ok (.lload_n 2, 1) := by decide +kernel
theorem dX7_go_1 : decode cX7_go 1 = .ok (.lstore 4, 2) := by decide +kernel
theorem dX7_go_3 : decode cX7_go 3 = .ok (.iconst 0, 1) := by decide +kernel
theorem dX7_go_4 : decode cX7_go 4 = .ok (.istore 6, 2) := by decide +kernel
theorem dX7_go_6 : decode cX7_go 6 = .ok (.iload 6, 2) := by decide +kernel
theorem dX7_go_8 : decode cX7_go 8 = .ok (.iload_n 1, 1) := by decide +kernel
theorem dX7_go_9 : decode cX7_go 9 = .ok (.if_icmp .ge 164, 3) := by decide +kernel
theorem dX7_go_12 : decode cX7_go 12 = .ok (.iconst 0, 1) := by decide +kernel
theorem dX7_go_13 : decode cX7_go 13 = .ok (.istore 7, 2) := by decide +kernel
theorem dX7_go_15 : decode cX7_go 15 = .ok (.iload 7, 2) := by decide +kernel
theorem dX7_go_17 : decode cX7_go 17 = .ok (.aload_n 0, 1) := by decide +kernel
theorem dX7_go_18 : decode cX7_go 18 = .ok (.getfield 60, 3) := by decide +kernel
theorem dX7_go_21 : decode cX7_go 21 = .ok (.if_icmp .ge 33, 3) := by decide +kernel
theorem dX7_go_24 : decode cX7_go 24 = .ok (.aload_n 0, 1) := by decide +kernel
theorem dX7_go_25 : decode cX7_go 25 = .ok (.getfield 45, 3) := by decide +kernel
theorem dX7_go_28 : decode cX7_go 28 = .ok (.iload 7, 2) := by decide +kernel
theorem dX7_go_30 : decode cX7_go 30 = .ok (.aload_n 0, 1) := by decide +kernel
theorem dX7_go_31 : decode cX7_go 31 = .ok (.getfield 24, 3) := by decide +kernel
theorem dX7_go_34 : decode cX7_go 34 = .ok (.iload 7, 2) := by decide +kernel
theorem dX7_go_36 : decode cX7_go 36 = .ok (.iaload, 1) := by decide +kernel
theorem dX7_go_37 : decode cX7_go 37 = .ok (.iload 6, 2) := by decide +kernel
theorem dX7_go_39 : decode cX7_go 39 = .ok (.if_icmp .ne 7, 3) := by decide +kernel
theorem dX7_go_42 : decode cX7_go 42 = .ok (.iconst 1, 1) := by decide +kernel
theorem dX7_go_43 : decode cX7_go 43 = .ok (.goto 4, 3) := by decide +kernel
theorem dX7_go_46 : decode cX7_go 46 = .ok (.iconst 0, 1) := by decide +kernel
theorem dX7_go_47 : decode cX7_go 47 = .ok (.iastore, 1) := by decide +kernel
theorem dX7_go_48 : decode cX7_go 48 = .ok (.iinc 7 1, 3) := by decide +kernel
theorem dX7_go_51 : decode cX7_go 51 = .ok (.goto (-36), 3) := by decide +kernel
theorem dX7_go_54 : decode cX7_go 54 = .ok (.aload_n 0, 1) := by decide +kernel
theorem dX7_go_55 : decode cX7_go 55 = .ok (.iload 6, 2) := by decide +kernel
theorem dX7_go_57 : decode cX7_go 57 = .ok (.invokevirtual 112, 3) := by decide +kernel
theorem dX7_go_60 : decode cX7_go 60 = .ok (.ifCond .ne 97, 3) := by decide +kernel
theorem dX7_go_63 : decode cX7_go 63 = .ok (.aload_n 0, 1) := by decide +kernel
theorem dX7_go_64 : decode cX7_go 64 = .ok (.invokevirtual 105, 3) := by decide +kernel
theorem dX7_go_67 : decode cX7_go 67 = .ok (.istore 7, 2) := by decide +kernel
theorem dX7_go_69 : decode cX7_go 69 = .ok (.iload 7, 2) := by decide +kernel
theorem dX7_go_71 : decode cX7_go 71 = .ok (.ifCond .ne 5, 3) := by decide +kernel
theorem dX7_go_74 : decode cX7_go 74 = .ok (.iconst (-1), 1) := by decide +kernel
theorem dX7_go_75 : decode cX7_go 75 = .ok (.ireturn, 1) := by decide +kernel
theorem dX7_go_76 : decode cX7_go 76 = .ok (.aload_n 0, 1) := by decide +kernel
theorem dX7_go_77 : decode cX7_go 77 = .ok (.getfield 36, 3) := by decide +kernel
theorem dX7_go_80 : decode cX7_go 80 = .ok (.iconst 0, 1) := by decide +kernel
theorem dX7_go_81 : decode cX7_go 81 = .ok (.iaload, 1) := by decide +kernel
theorem dX7_go_82 : decode cX7_go 82 = .ok (.sipush 20000, 3) := by decide +kernel
theorem dX7_go_85 : decode cX7_go 85 = .ok (.if_icmp .ne 6, 3) := by decide +kernel
theorem dX7_go_88 : decode cX7_go 88 = .ok (.bipush (-2), 2) := by decide +kernel
theorem dX7_go_90 : decode cX7_go 90 = .ok (.ireturn, 1) := by decide +kernel
theorem dX7_go_91 : decode cX7_go 91 = .ok (.aload_n 0, 1) := by decide +kernel
theorem dX7_go_92 : decode cX7_go 92 = .ok (.getfield 36, 3) := by decide +kernel
theorem dX7_go_95 : decode cX7_go 95 = .ok (.iconst 0, 1) := by decide +kernel
theorem dX7_go_96 : decode cX7_go 96 = .ok (.dup2, 1) := by decide +kernel
theorem dX7_go_97 : decode cX7_go 97 = .ok (.iaload, 1) := by decide +kernel
theorem dX7_go_98 : decode cX7_go 98 = .ok (.iconst 1, 1) := by decide +kernel
theorem dX7_go_99 : decode cX7_go 99 = .ok (.iadd, 1) := by decide +kernel
theorem dX7_go_100 : decode cX7_go 100 = .ok (.iastore, 1) := by decide +kernel
theorem dX7_go_101 : decode cX7_go 101 = .ok (.lload 4, 2) := by decide +kernel
theorem dX7_go_103 : decode cX7_go 103 = .ok (.ldc2_w 115, 3) := by decide +kernel
theorem dX7_go_106 : decode cX7_go 106 = .ok (.lmul, 1) := by decide +kernel
theorem dX7_go_107 : decode cX7_go 107 = .ok (.ldc2_w 117, 3) := by decide +kernel
theorem dX7_go_110 : decode cX7_go 110 = .ok (.ladd, 1) := by decide +kernel
theorem dX7_go_111 : decode cX7_go 111 = .ok (.lstore 4, 2) := by decide +kernel
theorem dX7_go_113 : decode cX7_go 113 = .ok (.aload_n 0, 1) := by decide +kernel
theorem dX7_go_114 : decode cX7_go 114 = .ok (.lload 4, 2) := by decide +kernel
theorem dX7_go_116 : decode cX7_go 116 = .ok (.bipush 33, 2) := by decide +kernel
theorem dX7_go_118 : decode cX7_go 118 = .ok (.lushr, 1) := by decide +kernel
theorem dX7_go_119 : decode cX7_go 119 = .ok (.iload 7, 2) := by decide +kernel
theorem dX7_go_121 : decode cX7_go 121 = .ok (.i2l, 1) := by decide +kernel
theorem dX7_go_122 : decode cX7_go 122 = .ok (.lrem, 1) := by decide +kernel
theorem dX7_go_123 : decode cX7_go 123 = .ok (.invokevirtual 119, 3) := by decide +kernel
theorem dX7_go_126 : decode cX7_go 126 = .ok (.istore 8, 2) := by decide +kernel
theorem dX7_go_128 : decode cX7_go 128 = .ok (.aload_n 0, 1) := by decide +kernel
theorem dX7_go_129 : decode cX7_go 129 = .ok (.getfield 51, 3) := by decide +kernel
theorem dX7_go_132 : decode cX7_go 132 = .ok (.iload 8, 2) := by decide +kernel
theorem dX7_go_134 : decode cX7_go 134 = .ok (.iaload, 1) := by decide +kernel
theorem dX7_go_135 : decode cX7_go 135 = .ok (.iconst (-1), 1) := by decide +kernel
theorem dX7_go_136 : decode cX7_go 136 = .ok (.if_icmp .ne 12, 3) := by decide +kernel
theorem dX7_go_139 : decode cX7_go 139 = .ok (.aload_n 0, 1) := by decide +kernel
theorem dX7_go_140 : decode cX7_go 140 = .ok (.iload 8, 2) := by decide +kernel
theorem dX7_go_142 : decode cX7_go 142 = .ok (.invokevirtual 123, 3) := by decide +kernel
theorem dX7_go_145 : decode cX7_go 145 = .ok (.goto 9, 3) := by decide +kernel
theorem dX7_go_148 : decode cX7_go 148 = .ok (.aload_n 0, 1) := by decide +kernel
theorem dX7_go_149 : decode cX7_go 149 = .ok (.iload 8, 2) := by decide +kernel
theorem dX7_go_151 : decode cX7_go 151 = .ok (.invokevirtual 126, 3) := by decide +kernel
theorem dX7_go_154 : decode cX7_go 154 = .ok (.goto (-100), 3) := by decide +kernel
theorem dX7_go_157 : decode cX7_go 157 = .ok (.aload_n 0, 1) := by decide +kernel
theorem dX7_go_158 : decode cX7_go 158 = .ok (.getfield 36, 3) := by decide +kernel
theorem dX7_go_161 : decode cX7_go 161 = .ok (.iconst 4, 1) := by decide +kernel
theorem dX7_go_162 : decode cX7_go 162 = .ok (.dup2, 1) := by decide +kernel
theorem dX7_go_163 : decode cX7_go 163 = .ok (.iaload, 1) := by decide +kernel
theorem dX7_go_164 : decode cX7_go 164 = .ok (.iconst 1, 1) := by decide +kernel
theorem dX7_go_165 : decode cX7_go 165 = .ok (.iadd, 1) := by decide +kernel
theorem dX7_go_166 : decode cX7_go 166 = .ok (.iastore, 1) := by decide +kernel
theorem dX7_go_167 : decode cX7_go 167 = .ok (.iinc 6 1, 3) := by decide +kernel
theorem dX7_go_170 : decode cX7_go 170 = .ok (.goto (-164), 3) := by decide +kernel
theorem dX7_go_173 : decode cX7_go 173 = .ok (.iconst 0, 1) := by decide +kernel
theorem dX7_go_174 : decode cX7_go 174 = .ok (.ireturn, 1) := by decide +kernel
theorem dX7_told_0 : decode cX7_told 0 = .ok (.aload_n 0, 1) := by decide +kernel
theorem dX7_told_1 : decode cX7_told 1 = .ok (.iconst 0, 1) := by decide +kernel
theorem dX7_told_2 : decode cX7_told 2 = .ok (.putfield 67, 3) := by decide +kernel
theorem dX7_told_5 : decode cX7_told 5 = .ok (.iload_n 1, 1) := by decide +kernel
theorem dX7_told_6 : decode cX7_told 6 = .ok (.ifCond .lt 9, 3) := by decide +kernel
theorem dX7_told_9 : decode cX7_told 9 = .ok (.iload_n 1, 1) := by decide +kernel
theorem dX7_told_10 : decode cX7_told 10 = .ok (.bipush 6, 2) := by decide +kernel
theorem dX7_told_12 : decode cX7_told 12 = .ok (.if_icmp .le 8, 3) := by decide +kernel
theorem dX7_told_15 : decode cX7_told 15 = .ok (.bipush (-3), 2) := by decide +kernel
theorem dX7_told_17 : decode cX7_told 17 = .ok (.goto 22, 3) := by decide +kernel
theorem dX7_told_20 : decode cX7_told 20 = .ok (.iload_n 1, 1) := by decide +kernel
theorem dX7_told_21 : decode cX7_told 21 = .ok (.bipush 6, 2) := by decide +kernel
theorem dX7_told_23 : decode cX7_told 23 = .ok (.if_icmp .ne 10, 3) := by decide +kernel
theorem dX7_told_26 : decode cX7_told 26 = .ok (.aload_n 0, 1) := by decide +kernel
theorem dX7_told_27 : decode cX7_told 27 = .ok (.getfield 70, 3) := by decide +kernel
theorem dX7_told_30 : decode cX7_told 30 = .ok (.goto 9, 3) := by decide +kernel
theorem dX7_told_33 : decode cX7_told 33 = .ok (.aload_n 0, 1) := by decide +kernel
theorem dX7_told_34 : decode cX7_told 34 = .ok (.getfield 36, 3) := by decide +kernel
theorem dX7_told_37 : decode cX7_told 37 = .ok (.iload_n 1, 1) := by decide +kernel
theorem dX7_told_38 : decode cX7_told 38 = .ok (.iaload, 1) := by decide +kernel
theorem dX7_told_39 : decode cX7_told 39 = .ok (.ireturn, 1) := by decide +kernel
theorem dX7_times_0 : decode cX7_times 0 = .ok (.aload_n 0, 1) := by decide +kernel
theorem dX7_times_1 : decode cX7_times 1 = .ok (.iconst 0, 1) := by decide +kernel
theorem dX7_times_2 : decode cX7_times 2 = .ok (.putfield 67, 3) := by decide +kernel
theorem dX7_times_5 : decode cX7_times 5 = .ok (.aload_n 0, 1) := by decide +kernel
theorem dX7_times_6 : decode cX7_times 6 = .ok (.iload_n 1, 1) := by decide +kernel
theorem dX7_times_7 : decode cX7_times 7 = .ok (.invokevirtual 73, 3) := by decide +kernel
theorem dX7_times_10 : decode cX7_times 10 = .ok (.ifCond .eq 12, 3) := by decide +kernel
theorem dX7_times_13 : decode cX7_times 13 = .ok (.aload_n 0, 1) := by decide +kernel
theorem dX7_times_14 : decode cX7_times 14 = .ok (.getfield 39, 3) := by decide +kernel
theorem dX7_times_17 : decode cX7_times 17 = .ok (.iload_n 1, 1) := by decide +kernel
theorem dX7_times_18 : decode cX7_times 18 = .ok (.iaload, 1) := by decide +kernel
theorem dX7_times_19 : decode cX7_times 19 = .ok (.goto 5, 3) := by decide +kernel
theorem dX7_times_22 : decode cX7_times 22 = .ok (.bipush (-3), 2) := by decide +kernel
theorem dX7_times_24 : decode cX7_times 24 = .ok (.ireturn, 1) := by decide +kernel
theorem dX7_doneBy_0 : decode cX7_doneBy 0 = .ok (.aload_n 0, 1) := by decide +kernel
theorem dX7_doneBy_1 : decode cX7_doneBy 1 = .ok (.iconst 0, 1) := by decide +kernel
theorem dX7_doneBy_2 : decode cX7_doneBy 2 = .ok (.putfield 67, 3) := by decide +kernel
theorem dX7_doneBy_5 : decode cX7_doneBy 5 = .ok (.aload_n 0, 1) := by decide +kernel
theorem dX7_doneBy_6 : decode cX7_doneBy 6 = .ok (.iload_n 1, 1) := by decide +kernel
theorem dX7_doneBy_7 : decode cX7_doneBy 7 = .ok (.invokevirtual 73, 3) := by decide +kernel
theorem dX7_doneBy_10 : decode cX7_doneBy 10 = .ok (.ifCond .eq 12, 3) := by decide +kernel
theorem dX7_doneBy_13 : decode cX7_doneBy 13 = .ok (.aload_n 0, 1) := by decide +kernel
theorem dX7_doneBy_14 : decode cX7_doneBy 14 = .ok (.getfield 42, 3) := by decide +kernel
theorem dX7_doneBy_17 : decode cX7_doneBy 17 = .ok (.iload_n 1, 1) := by decide +kernel
theorem dX7_doneBy_18 : decode cX7_doneBy 18 = .ok (.iaload, 1) := by decide +kernel
theorem dX7_doneBy_19 : decode cX7_doneBy 19 = .ok (.goto 5, 3) := by decide +kernel
theorem dX7_doneBy_22 : decode cX7_doneBy 22 = .ok (.bipush (-3), 2) := by decide +kernel
theorem dX7_doneBy_24 : decode cX7_doneBy 24 = .ok (.ireturn, 1) := by decide +kernel
theorem dX7_result_0 : decode cX7_result 0 = .ok (.aload_n 0, 1) := by decide +kernel
theorem dX7_result_1 : decode cX7_result 1 = .ok (.iconst 0, 1) := by decide +kernel
theorem dX7_result_2 : decode cX7_result 2 = .ok (.putfield 67, 3) := by decide +kernel
theorem dX7_result_5 : decode cX7_result 5 = .ok (.aload_n 0, 1) := by decide +kernel
theorem dX7_result_6 : decode cX7_result 6 = .ok (.iload_n 1, 1) := by decide +kernel
theorem dX7_result_7 : decode cX7_result 7 = .ok (.invokevirtual 73, 3) := by decide +kernel
theorem dX7_result_10 : decode cX7_result 10 = .ok (.ifCond .eq 12, 3) := by decide +kernel
theorem dX7_result_13 : decode cX7_result 13 = .ok (.aload_n 0, 1) := by decide +kernel
theorem dX7_result_14 : decode cX7_result 14 = .ok (.getfield 33, 3) := by decide +kernel
theorem dX7_result_17 : decode cX7_result 17 = .ok (.iload_n 1, 1) := by decide +kernel
theorem dX7_result_18 : decode cX7_result 18 = .ok (.laload, 1) := by decide +kernel
theorem dX7_result_19 : decode cX7_result 19 = .ok (.goto 4, 3) := by decide +kernel
theorem dX7_result_22 : decode cX7_result 22 = .ok (.lconst 0, 1) := by decide +kernel
theorem dX7_result_23 : decode cX7_result 23 = .ok (.lreturn, 1) := by decide +kernel
theorem dX7_join_0 : decode cX7_join 0 = .ok (.lconst 0, 1) := by decide +kernel
theorem dX7_join_1 : decode cX7_join 1 = .ok (.lstore_n 2, 1) := by decide +kernel
theorem dX7_join_2 : decode cX7_join 2 = .ok (.iconst 0, 1) := by decide +kernel
theorem dX7_join_3 : decode cX7_join 3 = .ok (.istore 4, 2) := by decide +kernel
theorem dX7_join_5 : decode cX7_join 5 = .ok (.iload 4, 2) := by decide +kernel
theorem dX7_join_7 : decode cX7_join 7 = .ok (.aload_n 0, 1) := by decide +kernel
theorem dX7_join_8 : decode cX7_join 8 = .ok (.getfield 60, 3) := by decide +kernel
theorem dX7_join_11 : decode cX7_join 11 = .ok (.if_icmp .ge 46, 3) := by decide +kernel
theorem dX7_join_14 : decode cX7_join 14 = .ok (.aload_n 0, 1) := by decide +kernel
theorem dX7_join_15 : decode cX7_join 15 = .ok (.getfield 20, 3) := by decide +kernel
theorem dX7_join_18 : decode cX7_join 18 = .ok (.iload 4, 2) := by decide +kernel
theorem dX7_join_20 : decode cX7_join 20 = .ok (.baload, 1) := by decide +kernel
theorem dX7_join_21 : decode cX7_join 21 = .ok (.ifCond .ne 30, 3) := by decide +kernel
theorem dX7_join_24 : decode cX7_join 24 = .ok (.lload_n 2, 1) := by decide +kernel
theorem dX7_join_25 : decode cX7_join 25 = .ok (.iconst 5, 1) := by decide +kernel
theorem dX7_join_26 : decode cX7_join 26 = .ok (.invokestatic 85, 3) := by decide +kernel
theorem dX7_join_29 : decode cX7_join 29 = .ok (.iload_n 1, 1) := by decide +kernel
theorem dX7_join_30 : decode cX7_join 30 = .ok (.ifCond .eq 12, 3) := by decide +kernel
theorem dX7_join_33 : decode cX7_join 33 = .ok (.aload_n 0, 1) := by decide +kernel
theorem dX7_join_34 : decode cX7_join 34 = .ok (.iload 4, 2) := by decide +kernel
theorem dX7_join_36 : decode cX7_join 36 = .ok (.invokevirtual 108, 3) := by decide +kernel
theorem dX7_join_39 : decode cX7_join 39 = .ok (.goto 10, 3) := by decide +kernel
theorem dX7_join_42 : decode cX7_join 42 = .ok (.aload_n 0, 1) := by decide +kernel
theorem dX7_join_43 : decode cX7_join 43 = .ok (.getfield 33, 3) := by decide +kernel
theorem dX7_join_46 : decode cX7_join 46 = .ok (.iload 4, 2) := by decide +kernel
theorem dX7_join_48 : decode cX7_join 48 = .ok (.laload, 1) := by decide +kernel
theorem dX7_join_49 : decode cX7_join 49 = .ok (.lxor, 1) := by decide +kernel
theorem dX7_join_50 : decode cX7_join 50 = .ok (.lstore_n 2, 1) := by decide +kernel
theorem dX7_join_51 : decode cX7_join 51 = .ok (.iinc 4 1, 3) := by decide +kernel
theorem dX7_join_54 : decode cX7_join 54 = .ok (.goto (-49), 3) := by decide +kernel
theorem dX7_join_57 : decode cX7_join 57 = .ok (.lload_n 2, 1) := by decide +kernel
theorem dX7_join_58 : decode cX7_join 58 = .ok (.lreturn, 1) := by decide +kernel
theorem dX7_joined_0 : decode cX7_joined 0 = .ok (.aload_n 0, 1) := by decide +kernel
theorem dX7_joined_1 : decode cX7_joined 1 = .ok (.iconst 0, 1) := by decide +kernel
theorem dX7_joined_2 : decode cX7_joined 2 = .ok (.putfield 67, 3) := by decide +kernel
theorem dX7_joined_5 : decode cX7_joined 5 = .ok (.aload_n 0, 1) := by decide +kernel
theorem dX7_joined_6 : decode cX7_joined 6 = .ok (.iconst 0, 1) := by decide +kernel
theorem dX7_joined_7 : decode cX7_joined 7 = .ok (.invokevirtual 129, 3) := by decide +kernel
theorem dX7_joined_10 : decode cX7_joined 10 = .ok (.lreturn, 1) := by decide +kernel
theorem dX7_plain_0 : decode cX7_plain 0 = .ok (.aload_n 0, 1) := by decide +kernel
theorem dX7_plain_1 : decode cX7_plain 1 = .ok (.iconst 0, 1) := by decide +kernel
theorem dX7_plain_2 : decode cX7_plain 2 = .ok (.putfield 67, 3) := by decide +kernel
theorem dX7_plain_5 : decode cX7_plain 5 = .ok (.aload_n 0, 1) := by decide +kernel
theorem dX7_plain_6 : decode cX7_plain 6 = .ok (.iconst 1, 1) := by decide +kernel
theorem dX7_plain_7 : decode cX7_plain 7 = .ok (.invokevirtual 129, 3) := by decide +kernel
theorem dX7_plain_10 : decode cX7_plain 10 = .ok (.lreturn, 1) := by decide +kernel
theorem dX7_clear_0 : decode cX7_clear 0 = .ok (.aload_n 0, 1) := by decide +kernel
theorem dX7_clear_1 : decode cX7_clear 1 = .ok (.iconst 0, 1) := by decide +kernel
theorem dX7_clear_2 : decode cX7_clear 2 = .ok (.putfield 67, 3) := by decide +kernel
theorem dX7_clear_5 : decode cX7_clear 5 = .ok (.aload_n 0, 1) := by decide +kernel
theorem dX7_clear_6 : decode cX7_clear 6 = .ok (.invokevirtual 64, 3) := by decide +kernel
theorem dX7_clear_9 : decode cX7_clear 9 = .ok (.return_, 1) := by decide +kernel
