theorem dX0_init_0 : decode cX0_init 0 = .ok (.aload_n 0, 1) := by decide +kernel
theorem dX0_init_1 : decode cX0_init 1 = .ok (.invokespecial 3, 3) := by decide +kernel
theorem dX0_init_4 : decode cX0_init 4 = .ok (.aload_n 0, 1) := by decide +kernel
theorem dX0_init_5 : decode cX0_init 5 = .ok (.iload_n 1, 1) := by decide +kernel
theorem dX0_init_6 : decode cX0_init 6 = .ok (.newarray .int, 2) := by decide +kernel
theorem dX0_init_8 : decode cX0_init 8 = .ok (.putfield 9, 3) := by decide +kernel
theorem dX0_init_11 : decode cX0_init 11 = .ok (.aload_n 0, 1) := by decide +kernel
theorem dX0_init_12 : decode cX0_init 12 = .ok (.iload_n 1, 1) := by decide +kernel
theorem dX0_init_13 : decode cX0_init 13 = .ok (.newarray .int, 2) := by decide +kernel
theorem dX0_init_15 : decode cX0_init 15 = .ok (.putfield 15, 3) := by decide +kernel
theorem dX0_init_18 : decode cX0_init 18 = .ok (.return_, 1) := by decide +kernel
theorem dX0_form_0 : decode cX0_form 0 = .ok (.aload_n 0, 1) := by decide +kernel
theorem dX0_form_1 : decode cX0_form 1 = .ok (.iconst 0, 1) := by decide +kernel
theorem dX0_form_2 : decode cX0_form 2 = .ok (.putfield 18, 3) := by decide +kernel
theorem dX0_form_5 : decode cX0_form 5 = .ok (.iconst 0, 1) := by decide +kernel
theorem dX0_form_6 : decode cX0_form 6 = .ok (.istore_n 2, 1) := by decide +kernel
theorem dX0_form_7 : decode cX0_form 7 = .ok (.iload_n 2, 1) := by decide +kernel
theorem dX0_form_8 : decode cX0_form 8 = .ok (.aload_n 1, 1) := by decide +kernel
theorem dX0_form_9 : decode cX0_form 9 = .ok (.getfield 22, 3) := by decide +kernel
theorem dX0_form_12 : decode cX0_form 12 = .ok (.if_icmp .ge 38, 3) := by decide +kernel
theorem dX0_form_15 : decode cX0_form 15 = .ok (.aload_n 0, 1) := by decide +kernel
theorem dX0_form_16 : decode cX0_form 16 = .ok (.getfield 9, 3) := by decide +kernel
theorem dX0_form_19 : decode cX0_form 19 = .ok (.iload_n 2, 1) := by decide +kernel
theorem dX0_form_20 : decode cX0_form 20 = .ok (.aload_n 1, 1) := by decide +kernel
theorem dX0_form_21 : decode cX0_form 21 = .ok (.getfield 25, 3) := by decide +kernel
theorem dX0_form_24 : decode cX0_form 24 = .ok (.iload_n 2, 1) := by decide +kernel
theorem dX0_form_25 : decode cX0_form 25 = .ok (.baload, 1) := by decide +kernel
theorem dX0_form_26 : decode cX0_form 26 = .ok (.ifCond .eq 7, 3) := by decide +kernel
theorem dX0_form_29 : decode cX0_form 29 = .ok (.iconst (-1), 1) := by decide +kernel
theorem dX0_form_30 : decode cX0_form 30 = .ok (.goto 13, 3) := by decide +kernel
theorem dX0_form_33 : decode cX0_form 33 = .ok (.aload_n 0, 1) := by decide +kernel
theorem dX0_form_34 : decode cX0_form 34 = .ok (.aload_n 1, 1) := by decide +kernel
theorem dX0_form_35 : decode cX0_form 35 = .ok (.getfield 29, 3) := by decide +kernel
theorem dX0_form_38 : decode cX0_form 38 = .ok (.iload_n 2, 1) := by decide +kernel
theorem dX0_form_39 : decode cX0_form 39 = .ok (.iaload, 1) := by decide +kernel
theorem dX0_form_40 : decode cX0_form 40 = .ok (.invokevirtual 30, 3) := by decide +kernel
theorem dX0_form_43 : decode cX0_form 43 = .ok (.iastore, 1) := by decide +kernel
theorem dX0_form_44 : decode cX0_form 44 = .ok (.iinc 2 1, 3) := by decide +kernel
theorem dX0_form_47 : decode cX0_form 47 = .ok (.goto (-40), 3) := by decide +kernel
theorem dX0_form_50 : decode cX0_form 50 = .ok (.return_, 1) := by decide +kernel
theorem dX0_place_0 : decode cX0_place 0 = .ok (.iconst 0, 1) := by decide +kernel
theorem dX0_place_1 : decode cX0_place 1 = .ok (.istore_n 2, 1) := by decide +kernel
theorem dX0_place_2 : decode cX0_place 2 = .ok (.iload_n 2, 1) := by decide +kernel
theorem dX0_place_3 : decode cX0_place 3 = .ok (.aload_n 0, 1) := by decide +kernel
theorem dX0_place_4 : decode cX0_place 4 = .ok (.getfield 18, 3) := by decide +kernel
theorem dX0_place_7 : decode cX0_place 7 = .ok (.if_icmp .ge 20, 3) := by decide +kernel
theorem dX0_place_10 : decode cX0_place 10 = .ok (.aload_n 0, 1) := by decide +kernel
theorem dX0_place_11 : decode cX0_place 11 = .ok (.getfield 15, 3) := by decide +kernel
theorem dX0_place_14 : decode cX0_place 14 = .ok (.iload_n 2, 1) := by decide +kernel
theorem dX0_place_15 : decode cX0_place 15 = .ok (.iaload, 1) := by decide +kernel
theorem dX0_place_16 : decode cX0_place 16 = .ok (.iload_n 1, 1) := by decide +kernel
theorem dX0_place_17 : decode cX0_place 17 = .ok (.iand, 1) := by decide +kernel
theorem dX0_place_18 : decode cX0_place 18 = .ok (.ifCond .eq 9, 3) := by decide +kernel
theorem dX0_place_21 : decode cX0_place 21 = .ok (.iinc 2 1, 3) := by decide +kernel
theorem dX0_place_24 : decode cX0_place 24 = .ok (.goto (-22), 3) := by decide +kernel
theorem dX0_place_27 : decode cX0_place 27 = .ok (.iload_n 2, 1) := by decide +kernel
theorem dX0_place_28 : decode cX0_place 28 = .ok (.aload_n 0, 1) := by decide +kernel
theorem dX0_place_29 : decode cX0_place 29 = .ok (.getfield 18, 3) := by decide +kernel
theorem dX0_place_32 : decode cX0_place 32 = .ok (.if_icmp .ne 20, 3) := by decide +kernel
theorem dX0_place_35 : decode cX0_place 35 = .ok (.aload_n 0, 1) := by decide +kernel
theorem dX0_place_36 : decode cX0_place 36 = .ok (.getfield 15, 3) := by decide +kernel
theorem dX0_place_39 : decode cX0_place 39 = .ok (.iload_n 2, 1) := by decide +kernel
theorem dX0_place_40 : decode cX0_place 40 = .ok (.iconst 0, 1) := by decide +kernel
theorem dX0_place_41 : decode cX0_place 41 = .ok (.iastore, 1) := by decide +kernel
theorem dX0_place_42 : decode cX0_place 42 = .ok (.aload_n 0, 1) := by decide +kernel
theorem dX0_place_43 : decode cX0_place 43 = .ok (.dup, 1) := by decide +kernel
theorem dX0_place_44 : decode cX0_place 44 = .ok (.getfield 18, 3) := by decide +kernel
theorem dX0_place_47 : decode cX0_place 47 = .ok (.iconst 1, 1) := by decide +kernel
theorem dX0_place_48 : decode cX0_place 48 = .ok (.iadd, 1) := by decide +kernel
theorem dX0_place_49 : decode cX0_place 49 = .ok (.putfield 18, 3) := by decide +kernel
theorem dX0_place_52 : decode cX0_place 52 = .ok (.aload_n 0, 1) := by decide +kernel
theorem dX0_place_53 : decode cX0_place 53 = .ok (.getfield 15, 3) := by decide +kernel
theorem dX0_place_56 : decode cX0_place 56 = .ok (.iload_n 2, 1) := by decide +kernel
theorem dX0_place_57 : decode cX0_place 57 = .ok (.dup2, 1) := by decide +kernel
theorem dX0_place_58 : decode cX0_place 58 = .ok (.iaload, 1) := by decide +kernel
theorem dX0_place_59 : decode cX0_place 59 = .ok (.iload_n 1, 1) := by decide +kernel
theorem dX0_place_60 : decode cX0_place 60 = .ok (.ior, 1) := by decide +kernel
theorem dX0_place_61 : decode cX0_place 61 = .ok (.iastore, 1) := by decide +kernel
theorem dX0_place_62 : decode cX0_place 62 = .ok (.iload_n 2, 1) := by decide +kernel
theorem dX0_place_63 : decode cX0_place 63 = .ok (.ireturn, 1) := by decide +kernel
theorem dX1_init_0 : decode cX1_init 0 = .ok (.aload_n 0, 1) := by decide +kernel
theorem dX1_init_1 : decode cX1_init 1 = .ok (.invokespecial 3, 3) := by decide +kernel
theorem dX1_init_4 : decode cX1_init 4 = .ok (.aload_n 0, 1) := by decide +kernel
theorem dX1_init_5 : decode cX1_init 5 = .ok (.aload_n 1, 1) := by decide +kernel
theorem dX1_init_6 : decode cX1_init 6 = .ok (.putfield 9, 3) := by decide +kernel
theorem dX1_init_9 : decode cX1_init 9 = .ok (.aload_n 0, 1) := by decide +kernel
theorem dX1_init_10 : decode cX1_init 10 = .ok (.aload_n 2, 1) := by decide +kernel
theorem dX1_init_11 : decode cX1_init 11 = .ok (.putfield 15, 3) := by decide +kernel
theorem dX1_init_14 : decode cX1_init 14 = .ok (.aload_n 0, 1) := by decide +kernel
theorem dX1_init_15 : decode cX1_init 15 = .ok (.aload_n 3, 1) := by decide +kernel
theorem dX1_init_16 : decode cX1_init 16 = .ok (.putfield 19, 3) := by decide +kernel
theorem dX1_init_19 : decode cX1_init 19 = .ok (.aload_n 0, 1) := by decide +kernel
theorem dX1_init_20 : decode cX1_init 20 = .ok (.aload_n 1, 1) := by decide +kernel
theorem dX1_init_21 : decode cX1_init 21 = .ok (.getfield 23, 3) := by decide +kernel
theorem dX1_init_24 : decode cX1_init 24 = .ok (.newarray .int, 2) := by decide +kernel
theorem dX1_init_26 : decode cX1_init 26 = .ok (.putfield 29, 3) := by decide +kernel
theorem dX1_init_29 : decode cX1_init 29 = .ok (.aload_n 0, 1) := by decide +kernel
theorem dX1_init_30 : decode cX1_init 30 = .ok (.aload_n 1, 1) := by decide +kernel
theorem dX1_init_31 : decode cX1_init 31 = .ok (.getfield 23, 3) := by decide +kernel
theorem dX1_init_34 : decode cX1_init 34 = .ok (.newarray .int, 2) := by decide +kernel
theorem dX1_init_36 : decode cX1_init 36 = .ok (.putfield 33, 3) := by decide +kernel
theorem dX1_init_39 : decode cX1_init 39 = .ok (.aload_n 0, 1) := by decide +kernel
theorem dX1_init_40 : decode cX1_init 40 = .ok (.aload_n 1, 1) := by decide +kernel
theorem dX1_init_41 : decode cX1_init 41 = .ok (.getfield 23, 3) := by decide +kernel
theorem dX1_init_44 : decode cX1_init 44 = .ok (.newarray .long, 2) := by decide +kernel
theorem dX1_init_46 : decode cX1_init 46 = .ok (.putfield 36, 3) := by decide +kernel
theorem dX1_init_49 : decode cX1_init 49 = .ok (.aload_n 0, 1) := by decide +kernel
theorem dX1_init_50 : decode cX1_init 50 = .ok (.new 40, 3) := by decide +kernel
theorem dX1_init_53 : decode cX1_init 53 = .ok (.dup, 1) := by decide +kernel
theorem dX1_init_54 : decode cX1_init 54 = .ok (.aload_n 1, 1) := by decide +kernel
theorem dX1_init_55 : decode cX1_init 55 = .ok (.getfield 23, 3) := by decide +kernel
theorem dX1_init_58 : decode cX1_init 58 = .ok (.invokespecial 42, 3) := by decide +kernel
theorem dX1_init_61 : decode cX1_init 61 = .ok (.putfield 45, 3) := by decide +kernel
theorem dX1_init_64 : decode cX1_init 64 = .ok (.aload_n 0, 1) := by decide +kernel
theorem dX1_init_65 : decode cX1_init 65 = .ok (.new 49, 3) := by decide +kernel
theorem dX1_init_68 : decode cX1_init 68 = .ok (.dup, 1) := by decide +kernel
theorem dX1_init_69 : decode cX1_init 69 = .ok (.invokespecial 51, 3) := by decide +kernel
theorem dX1_init_72 : decode cX1_init 72 = .ok (.putfield 52, 3) := by decide +kernel
theorem dX1_init_75 : decode cX1_init 75 = .ok (.aload_n 0, 1) := by decide +kernel
theorem dX1_init_76 : decode cX1_init 76 = .ok (.invokevirtual 56, 3) := by decide +kernel
theorem dX1_init_79 : decode cX1_init 79 = .ok (.return_, 1) := by decide +kernel
theorem dX1_reset_0 : decode cX1_reset 0 = .ok (.aload_n 0, 1) := by decide +kernel
theorem dX1_reset_1 : decode cX1_reset 1 = .ok (.getfield 52, 3) := by decide +kernel
theorem dX1_reset_4 : decode cX1_reset 4 = .ok (.iconst 0, 1) := by decide +kernel
theorem dX1_reset_5 : decode cX1_reset 5 = .ok (.invokevirtual 59, 3) := by decide +kernel
theorem dX1_reset_8 : decode cX1_reset 8 = .ok (.aload_n 0, 1) := by decide +kernel
theorem dX1_reset_9 : decode cX1_reset 9 = .ok (.iconst 0, 1) := by decide +kernel
theorem dX1_reset_10 : decode cX1_reset 10 = .ok (.putfield 62, 3) := by decide +kernel
theorem dX1_reset_13 : decode cX1_reset 13 = .ok (.aload_n 0, 1) := by decide +kernel
theorem dX1_reset_14 : decode cX1_reset 14 = .ok (.iconst 0, 1) := by decide +kernel
theorem dX1_reset_15 : decode cX1_reset 15 = .ok (.putfield 65, 3) := by decide +kernel
theorem dX1_reset_18 : decode cX1_reset 18 = .ok (.aload_n 0, 1) := by decide +kernel
theorem dX1_reset_19 : decode cX1_reset 19 = .ok (.iconst 0, 1) := by decide +kernel
theorem dX1_reset_20 : decode cX1_reset 20 = .ok (.putfield 68, 3) := by decide +kernel
theorem dX1_reset_23 : decode cX1_reset 23 = .ok (.aload_n 0, 1) := by decide +kernel
theorem dX1_reset_24 : decode cX1_reset 24 = .ok (.iconst 0, 1) := by decide +kernel
theorem dX1_reset_25 : decode cX1_reset 25 = .ok (.putfield 71, 3) := by decide +kernel
theorem dX1_reset_28 : decode cX1_reset 28 = .ok (.aload_n 0, 1) := by decide +kernel
theorem dX1_reset_29 : decode cX1_reset 29 = .ok (.iconst 0, 1) := by decide +kernel
theorem dX1_reset_30 : decode cX1_reset 30 = .ok (.putfield 74, 3) := by decide +kernel
theorem dX1_reset_33 : decode cX1_reset 33 = .ok (.iconst 0, 1) := by decide +kernel
theorem dX1_reset_34 : decode cX1_reset 34 = .ok (.istore_n 1, 1) := by decide +kernel
theorem dX1_reset_35 : decode cX1_reset 35 = .ok (.iload_n 1, 1) := by decide +kernel
theorem dX1_reset_36 : decode cX1_reset 36 = .ok (.aload_n 0, 1) := by decide +kernel
theorem dX1_reset_37 : decode cX1_reset 37 = .ok (.getfield 9, 3) := by decide +kernel
theorem dX1_reset_40 : decode cX1_reset 40 = .ok (.getfield 23, 3) := by decide +kernel
theorem dX1_reset_43 : decode cX1_reset 43 = .ok (.if_icmp .ge 23, 3) := by decide +kernel
theorem dX1_reset_46 : decode cX1_reset 46 = .ok (.aload_n 0, 1) := by decide +kernel
theorem dX1_reset_47 : decode cX1_reset 47 = .ok (.getfield 29, 3) := by decide +kernel
theorem dX1_reset_50 : decode cX1_reset 50 = .ok (.iload_n 1, 1) := by decide +kernel
theorem dX1_reset_51 : decode cX1_reset 51 = .ok (.iconst (-1), 1) := by decide +kernel
theorem dX1_reset_52 : decode cX1_reset 52 = .ok (.iastore, 1) := by decide +kernel
theorem dX1_reset_53 : decode cX1_reset 53 = .ok (.aload_n 0, 1) := by decide +kernel
theorem dX1_reset_54 : decode cX1_reset 54 = .ok (.getfield 33, 3) := by decide +kernel
theorem dX1_reset_57 : decode cX1_reset 57 = .ok (.iload_n 1, 1) := by decide +kernel
theorem dX1_reset_58 : decode cX1_reset 58 = .ok (.iconst (-1), 1) := by decide +kernel
theorem dX1_reset_59 : decode cX1_reset 59 = .ok (.iastore, 1) := by decide +kernel
theorem dX1_reset_60 : decode cX1_reset 60 = .ok (.iinc 1 1, 3) := by decide +kernel
theorem dX1_reset_63 : decode cX1_reset 63 = .ok (.goto (-28), 3) := by decide +kernel
theorem dX1_reset_66 : decode cX1_reset 66 = .ok (.return_, 1) := by decide +kernel
theorem dX1_figure_0 : decode cX1_figure 0 = .ok (.iload_n 1, 1) := by decide +kernel
theorem dX1_figure_1 : decode cX1_figure 1 = .ok (.tableswitch 72 0 5 #[39, 44, 49, 54, 62, 67], 39) := by decide +kernel
theorem dX1_figure_40 : decode cX1_figure 40 = .ok (.aload_n 0, 1) := by decide +kernel
theorem dX1_figure_41 : decode cX1_figure 41 = .ok (.getfield 62, 3) := by decide +kernel
theorem dX1_figure_44 : decode cX1_figure 44 = .ok (.ireturn, 1) := by decide +kernel
theorem dX1_figure_45 : decode cX1_figure 45 = .ok (.aload_n 0, 1) := by decide +kernel
theorem dX1_figure_46 : decode cX1_figure 46 = .ok (.getfield 65, 3) := by decide +kernel
theorem dX1_figure_49 : decode cX1_figure 49 = .ok (.ireturn, 1) := by decide +kernel
theorem dX1_figure_50 : decode cX1_figure 50 = .ok (.aload_n 0, 1) := by decide +kernel
theorem dX1_figure_51 : decode cX1_figure 51 = .ok (.getfield 68, 3) := by decide +kernel
theorem dX1_figure_54 : decode cX1_figure 54 = .ok (.ireturn, 1) := by decide +kernel
theorem dX1_figure_55 : decode cX1_figure 55 = .ok (.aload_n 0, 1) := by decide +kernel
theorem dX1_figure_56 : decode cX1_figure 56 = .ok (.getfield 52, 3) := by decide +kernel
theorem dX1_figure_59 : decode cX1_figure 59 = .ok (.getfield 77, 3) := by decide +kernel
theorem dX1_figure_62 : decode cX1_figure 62 = .ok (.ireturn, 1) := by decide +kernel
theorem dX1_figure_63 : decode cX1_figure 63 = .ok (.aload_n 0, 1) := by decide +kernel
theorem dX1_figure_64 : decode cX1_figure 64 = .ok (.getfield 71, 3) := by decide +kernel
theorem dX1_figure_67 : decode cX1_figure 67 = .ok (.ireturn, 1) := by decide +kernel
theorem dX1_figure_68 : decode cX1_figure 68 = .ok (.aload_n 0, 1) := by decide +kernel
theorem dX1_figure_69 : decode cX1_figure 69 = .ok (.getfield 74, 3) := by decide +kernel
theorem dX1_figure_72 : decode cX1_figure 72 = .ok (.ireturn, 1) := by decide +kernel
theorem dX1_figure_73 : decode cX1_figure 73 = .ok (.bipush (-3), 2) := by decide +kernel
theorem dX1_figure_75 : decode cX1_figure 75 = .ok (.ireturn, 1) := by decide +kernel
theorem dX1_goThrough_0 : decode cX1_goThrough 0 = .ok (.aload_n 0, 1) := by decide +kernel
theorem dX1_goThrough_1 : decode cX1_goThrough 1 = .ok (.iload_n 1, 1) := by decide +kernel
theorem dX1_goThrough_2 : decode cX1_goThrough 2 = .ok (.lload_n 2, 1) := by decide +kernel
theorem dX1_goThrough_3 : decode cX1_goThrough 3 = .ok (.invokevirtual 80, 3) := by decide +kernel
theorem dX1_goThrough_6 : decode cX1_goThrough 6 = .ok (.iconst 0, 1) := by decide +kernel
theorem dX1_goThrough_7 : decode cX1_goThrough 7 = .ok (.istore 4, 2) := by decide +kernel
theorem dX1_goThrough_9 : decode cX1_goThrough 9 = .ok (.iload 4, 2) := by decide +kernel
theorem dX1_goThrough_11 : decode cX1_goThrough 11 = .ok (.aload_n 0, 1) := by decide +kernel
theorem dX1_goThrough_12 : decode cX1_goThrough 12 = .ok (.getfield 15, 3) := by decide +kernel
theorem dX1_goThrough_15 : decode cX1_goThrough 15 = .ok (.getfield 84, 3) := by decide +kernel
theorem dX1_goThrough_18 : decode cX1_goThrough 18 = .ok (.if_icmp .ge 35, 3) := by decide +kernel
theorem dX1_goThrough_21 : decode cX1_goThrough 21 = .ok (.aload_n 0, 1) := by decide +kernel
theorem dX1_goThrough_22 : decode cX1_goThrough 22 = .ok (.iload 4, 2) := by decide +kernel
theorem dX1_goThrough_24 : decode cX1_goThrough 24 = .ok (.invokevirtual 87, 3) := by decide +kernel
theorem dX1_goThrough_27 : decode cX1_goThrough 27 = .ok (.istore 5, 2) := by decide +kernel
theorem dX1_goThrough_29 : decode cX1_goThrough 29 = .ok (.iload 5, 2) := by decide +kernel
theorem dX1_goThrough_31 : decode cX1_goThrough 31 = .ok (.ifCond .eq 6, 3) := by decide +kernel
theorem dX1_goThrough_34 : decode cX1_goThrough 34 = .ok (.iload 5, 2) := by decide +kernel
theorem dX1_goThrough_36 : decode cX1_goThrough 36 = .ok (.ireturn, 1) := by decide +kernel
theorem dX1_goThrough_37 : decode cX1_goThrough 37 = .ok (.aload_n 0, 1) := by decide +kernel
theorem dX1_goThrough_38 : decode cX1_goThrough 38 = .ok (.dup, 1) := by decide +kernel
theorem dX1_goThrough_39 : decode cX1_goThrough 39 = .ok (.getfield 71, 3) := by decide +kernel
theorem dX1_goThrough_42 : decode cX1_goThrough 42 = .ok (.iconst 1, 1) := by decide +kernel
theorem dX1_goThrough_43 : decode cX1_goThrough 43 = .ok (.iadd, 1) := by decide +kernel
theorem dX1_goThrough_44 : decode cX1_goThrough 44 = .ok (.putfield 71, 3) := by decide +kernel
theorem dX1_goThrough_47 : decode cX1_goThrough 47 = .ok (.iinc 4 1, 3) := by decide +kernel
theorem dX1_goThrough_50 : decode cX1_goThrough 50 = .ok (.goto (-41), 3) := by decide +kernel
theorem dX1_goThrough_53 : decode cX1_goThrough 53 = .ok (.iconst 0, 1) := by decide +kernel
theorem dX1_goThrough_54 : decode cX1_goThrough 54 = .ok (.ireturn, 1) := by decide +kernel
theorem dX1_start_0 : decode cX1_start 0 = .ok (.aload_n 0, 1) := by decide +kernel
theorem dX1_start_1 : decode cX1_start 1 = .ok (.invokevirtual 56, 3) := by decide +kernel
theorem dX1_start_4 : decode cX1_start 4 = .ok (.aload_n 0, 1) := by decide +kernel
theorem dX1_start_5 : decode cX1_start 5 = .ok (.getfield 52, 3) := by decide +kernel
theorem dX1_start_8 : decode cX1_start 8 = .ok (.iload_n 1, 1) := by decide +kernel
theorem dX1_start_9 : decode cX1_start 9 = .ok (.invokevirtual 59, 3) := by decide +kernel
theorem dX1_start_12 : decode cX1_start 12 = .ok (.aload_n 0, 1) := by decide +kernel
theorem dX1_start_13 : decode cX1_start 13 = .ok (.lload_n 2, 1) := by decide +kernel
theorem dX1_start_14 : decode cX1_start 14 = .ok (.putfield 91, 3) := by decide +kernel
theorem dX1_start_17 : decode cX1_start 17 = .ok (.aload_n 0, 1) := by decide +kernel
theorem dX1_start_18 : decode cX1_start 18 = .ok (.getfield 15, 3) := by decide +kernel
theorem dX1_start_21 : decode cX1_start 21 = .ok (.aload_n 0, 1) := by decide +kernel
theorem dX1_start_22 : decode cX1_start 22 = .ok (.getfield 9, 3) := by decide +kernel
theorem dX1_start_25 : decode cX1_start 25 = .ok (.invokevirtual 95, 3) := by decide +kernel
theorem dX1_start_28 : decode cX1_start 28 = .ok (.iconst 0, 1) := by decide +kernel
theorem dX1_start_29 : decode cX1_start 29 = .ok (.istore 4, 2) := by decide +kernel
theorem dX1_start_31 : decode cX1_start 31 = .ok (.iload 4, 2) := by decide +kernel
theorem dX1_start_33 : decode cX1_start 33 = .ok (.aload_n 0, 1) := by decide +kernel
theorem dX1_start_34 : decode cX1_start 34 = .ok (.getfield 9, 3) := by decide +kernel
theorem dX1_start_37 : decode cX1_start 37 = .ok (.getfield 23, 3) := by decide +kernel
theorem dX1_start_40 : decode cX1_start 40 = .ok (.if_icmp .ge 30, 3) := by decide +kernel
theorem dX1_start_43 : decode cX1_start 43 = .ok (.aload_n 0, 1) := by decide +kernel
theorem dX1_start_44 : decode cX1_start 44 = .ok (.getfield 9, 3) := by decide +kernel
theorem dX1_start_47 : decode cX1_start 47 = .ok (.getfield 99, 3) := by decide +kernel
theorem dX1_start_50 : decode cX1_start 50 = .ok (.iload 4, 2) := by decide +kernel
theorem dX1_start_52 : decode cX1_start 52 = .ok (.baload, 1) := by decide +kernel
theorem dX1_start_53 : decode cX1_start 53 = .ok (.ifCond .ne 11, 3) := by decide +kernel
theorem dX1_start_56 : decode cX1_start 56 = .ok (.aload_n 0, 1) := by decide +kernel
theorem dX1_start_57 : decode cX1_start 57 = .ok (.getfield 29, 3) := by decide +kernel
theorem dX1_start_60 : decode cX1_start 60 = .ok (.iload 4, 2) := by decide +kernel
theorem dX1_start_62 : decode cX1_start 62 = .ok (.iconst 0, 1) := by decide +kernel
theorem dX1_start_63 : decode cX1_start 63 = .ok (.iastore, 1) := by decide +kernel
theorem dX1_start_64 : decode cX1_start 64 = .ok (.iinc 4 1, 3) := by decide +kernel
theorem dX1_start_67 : decode cX1_start 67 = .ok (.goto (-36), 3) := by decide +kernel
theorem dX1_start_70 : decode cX1_start 70 = .ok (.return_, 1) := by decide +kernel
theorem dX1_doBatch_0 : decode cX1_doBatch 0 = .ok (.aload_n 0, 1) := by decide +kernel
theorem dX1_doBatch_1 : decode cX1_doBatch 1 = .ok (.aload_n 0, 1) := by decide +kernel
theorem dX1_doBatch_2 : decode cX1_doBatch 2 = .ok (.getfield 45, 3) := by decide +kernel
theorem dX1_doBatch_5 : decode cX1_doBatch 5 = .ok (.aload_n 0, 1) := by decide +kernel
theorem dX1_doBatch_6 : decode cX1_doBatch 6 = .ok (.getfield 15, 3) := by decide +kernel
theorem dX1_doBatch_9 : decode cX1_doBatch 9 = .ok (.iload_n 1, 1) := by decide +kernel
theorem dX1_doBatch_10 : decode cX1_doBatch 10 = .ok (.invokevirtual 103, 3) := by decide +kernel
theorem dX1_doBatch_13 : decode cX1_doBatch 13 = .ok (.putfield 107, 3) := by decide +kernel
theorem dX1_doBatch_16 : decode cX1_doBatch 16 = .ok (.aload_n 0, 1) := by decide +kernel
theorem dX1_doBatch_17 : decode cX1_doBatch 17 = .ok (.getfield 107, 3) := by decide +kernel
theorem dX1_doBatch_20 : decode cX1_doBatch 20 = .ok (.ifCond .le 51, 3) := by decide +kernel
theorem dX1_doBatch_23 : decode cX1_doBatch 23 = .ok (.aload_n 0, 1) := by decide +kernel
theorem dX1_doBatch_24 : decode cX1_doBatch 24 = .ok (.getfield 52, 3) := by decide +kernel
theorem dX1_doBatch_27 : decode cX1_doBatch 27 = .ok (.getfield 77, 3) := by decide +kernel
theorem dX1_doBatch_30 : decode cX1_doBatch 30 = .ok (.ifCond .le 41, 3) := by decide +kernel
theorem dX1_doBatch_33 : decode cX1_doBatch 33 = .ok (.aload_n 0, 1) := by decide +kernel
theorem dX1_doBatch_34 : decode cX1_doBatch 34 = .ok (.getfield 62, 3) := by decide +kernel
theorem dX1_doBatch_37 : decode cX1_doBatch 37 = .ok (.sipush 20000, 3) := by decide +kernel
theorem dX1_doBatch_40 : decode cX1_doBatch 40 = .ok (.if_icmp .ge 31, 3) := by decide +kernel
theorem dX1_doBatch_43 : decode cX1_doBatch 43 = .ok (.aload_n 0, 1) := by decide +kernel
theorem dX1_doBatch_44 : decode cX1_doBatch 44 = .ok (.dup, 1) := by decide +kernel
theorem dX1_doBatch_45 : decode cX1_doBatch 45 = .ok (.getfield 62, 3) := by decide +kernel
theorem dX1_doBatch_48 : decode cX1_doBatch 48 = .ok (.iconst 1, 1) := by decide +kernel
theorem dX1_doBatch_49 : decode cX1_doBatch 49 = .ok (.iadd, 1) := by decide +kernel
theorem dX1_doBatch_50 : decode cX1_doBatch 50 = .ok (.putfield 62, 3) := by decide +kernel
theorem dX1_doBatch_53 : decode cX1_doBatch 53 = .ok (.aload_n 0, 1) := by decide +kernel
theorem dX1_doBatch_54 : decode cX1_doBatch 54 = .ok (.aload_n 0, 1) := by decide +kernel
theorem dX1_doBatch_55 : decode cX1_doBatch 55 = .ok (.aload_n 0, 1) := by decide +kernel
theorem dX1_doBatch_56 : decode cX1_doBatch 56 = .ok (.getfield 52, 3) := by decide +kernel
theorem dX1_doBatch_59 : decode cX1_doBatch 59 = .ok (.getfield 77, 3) := by decide +kernel
theorem dX1_doBatch_62 : decode cX1_doBatch 62 = .ok (.invokevirtual 110, 3) := by decide +kernel
theorem dX1_doBatch_65 : decode cX1_doBatch 65 = .ok (.invokevirtual 113, 3) := by decide +kernel
theorem dX1_doBatch_68 : decode cX1_doBatch 68 = .ok (.goto (-52), 3) := by decide +kernel
theorem dX1_doBatch_71 : decode cX1_doBatch 71 = .ok (.aload_n 0, 1) := by decide +kernel
theorem dX1_doBatch_72 : decode cX1_doBatch 72 = .ok (.getfield 107, 3) := by decide +kernel
theorem dX1_doBatch_75 : decode cX1_doBatch 75 = .ok (.ifCond .ne 5, 3) := by decide +kernel
theorem dX1_doBatch_78 : decode cX1_doBatch 78 = .ok (.iconst 0, 1) := by decide +kernel
theorem dX1_doBatch_79 : decode cX1_doBatch 79 = .ok (.ireturn, 1) := by decide +kernel
theorem dX1_doBatch_80 : decode cX1_doBatch 80 = .ok (.aload_n 0, 1) := by decide +kernel
theorem dX1_doBatch_81 : decode cX1_doBatch 81 = .ok (.getfield 52, 3) := by decide +kernel
theorem dX1_doBatch_84 : decode cX1_doBatch 84 = .ok (.getfield 77, 3) := by decide +kernel
theorem dX1_doBatch_87 : decode cX1_doBatch 87 = .ok (.ifCond .ne 7, 3) := by decide +kernel
theorem dX1_doBatch_90 : decode cX1_doBatch 90 = .ok (.iconst (-1), 1) := by decide +kernel
theorem dX1_doBatch_91 : decode cX1_doBatch 91 = .ok (.goto 5, 3) := by decide +kernel
theorem dX1_doBatch_94 : decode cX1_doBatch 94 = .ok (.bipush (-2), 2) := by decide +kernel
theorem dX1_doBatch_96 : decode cX1_doBatch 96 = .ok (.ireturn, 1) := by decide +kernel
theorem dX1_choosePlace_0 : decode cX1_choosePlace 0 = .ok (.aload_n 0, 1) := by decide +kernel
theorem dX1_choosePlace_1 : decode cX1_choosePlace 1 = .ok (.aload_n 0, 1) := by decide +kernel
theorem dX1_choosePlace_2 : decode cX1_choosePlace 2 = .ok (.getfield 91, 3) := by decide +kernel
theorem dX1_choosePlace_5 : decode cX1_choosePlace 5 = .ok (.ldc2_w 116, 3) := by decide +kernel
theorem dX1_choosePlace_8 : decode cX1_choosePlace 8 = .ok (.lmul, 1) := by decide +kernel
theorem dX1_choosePlace_9 : decode cX1_choosePlace 9 = .ok (.ldc2_w 118, 3) := by decide +kernel
theorem dX1_choosePlace_12 : decode cX1_choosePlace 12 = .ok (.ladd, 1) := by decide +kernel
theorem dX1_choosePlace_13 : decode cX1_choosePlace 13 = .ok (.putfield 91, 3) := by decide +kernel
theorem dX1_choosePlace_16 : decode cX1_choosePlace 16 = .ok (.aload_n 0, 1) := by decide +kernel
theorem dX1_choosePlace_17 : decode cX1_choosePlace 17 = .ok (.getfield 91, 3) := by decide +kernel
theorem dX1_choosePlace_20 : decode cX1_choosePlace 20 = .ok (.bipush 33, 2) := by decide +kernel
theorem dX1_choosePlace_22 : decode cX1_choosePlace 22 = .ok (.lushr, 1) := by decide +kernel
theorem dX1_choosePlace_23 : decode cX1_choosePlace 23 = .ok (.iload_n 1, 1) := by decide +kernel
theorem dX1_choosePlace_24 : decode cX1_choosePlace 24 = .ok (.i2l, 1) := by decide +kernel
theorem dX1_choosePlace_25 : decode cX1_choosePlace 25 = .ok (.lrem, 1) := by decide +kernel
theorem dX1_choosePlace_26 : decode cX1_choosePlace 26 = .ok (.l2i, 1) := by decide +kernel
theorem dX1_choosePlace_27 : decode cX1_choosePlace 27 = .ok (.ireturn, 1) := by decide +kernel
theorem dX1_act_0 : decode cX1_act 0 = .ok (.aload_n 0, 1) := by decide +kernel
theorem dX1_act_1 : decode cX1_act 1 = .ok (.getfield 52, 3) := by decide +kernel
theorem dX1_act_4 : decode cX1_act 4 = .ok (.iload_n 1, 1) := by decide +kernel
theorem dX1_act_5 : decode cX1_act 5 = .ok (.invokevirtual 120, 3) := by decide +kernel
theorem dX1_act_8 : decode cX1_act 8 = .ok (.istore_n 2, 1) := by decide +kernel
theorem dX1_act_9 : decode cX1_act 9 = .ok (.aload_n 0, 1) := by decide +kernel
theorem dX1_act_10 : decode cX1_act 10 = .ok (.getfield 52, 3) := by decide +kernel
theorem dX1_act_13 : decode cX1_act 13 = .ok (.getfield 123, 3) := by decide +kernel
theorem dX1_act_16 : decode cX1_act 16 = .ok (.iload_n 2, 1) := by decide +kernel
theorem dX1_act_17 : decode cX1_act 17 = .ok (.iaload, 1) := by decide +kernel
theorem dX1_act_18 : decode cX1_act 18 = .ok (.istore_n 3, 1) := by decide +kernel
theorem dX1_act_19 : decode cX1_act 19 = .ok (.iload_n 3, 1) := by decide +kernel
theorem dX1_act_20 : decode cX1_act 20 = .ok (.iconst (-1), 1) := by decide +kernel
theorem dX1_act_21 : decode cX1_act 21 = .ok (.if_icmp .ne 9, 3) := by decide +kernel
theorem dX1_act_24 : decode cX1_act 24 = .ok (.aload_n 0, 1) := by decide +kernel
theorem dX1_act_25 : decode cX1_act 25 = .ok (.iload_n 2, 1) := by decide +kernel
theorem dX1_act_26 : decode cX1_act 26 = .ok (.invokevirtual 126, 3) := by decide +kernel
theorem dX1_act_29 : decode cX1_act 29 = .ok (.return_, 1) := by decide +kernel
theorem dX1_act_30 : decode cX1_act 30 = .ok (.aload_n 0, 1) := by decide +kernel
theorem dX1_act_31 : decode cX1_act 31 = .ok (.getfield 52, 3) := by decide +kernel
theorem dX1_act_34 : decode cX1_act 34 = .ok (.getfield 129, 3) := by decide +kernel
theorem dX1_act_37 : decode cX1_act 37 = .ok (.iload_n 2, 1) := by decide +kernel
theorem dX1_act_38 : decode cX1_act 38 = .ok (.iaload, 1) := by decide +kernel
theorem dX1_act_39 : decode cX1_act 39 = .ok (.iconst 1, 1) := by decide +kernel
theorem dX1_act_40 : decode cX1_act 40 = .ok (.iadd, 1) := by decide +kernel
theorem dX1_act_41 : decode cX1_act 41 = .ok (.aload_n 0, 1) := by decide +kernel
theorem dX1_act_42 : decode cX1_act 42 = .ok (.getfield 9, 3) := by decide +kernel
theorem dX1_act_45 : decode cX1_act 45 = .ok (.getfield 132, 3) := by decide +kernel
theorem dX1_act_48 : decode cX1_act 48 = .ok (.iload_n 3, 1) := by decide +kernel
theorem dX1_act_49 : decode cX1_act 49 = .ok (.iaload, 1) := by decide +kernel
theorem dX1_act_50 : decode cX1_act 50 = .ok (.if_icmp .lt 7, 3) := by decide +kernel
theorem dX1_act_53 : decode cX1_act 53 = .ok (.iconst 1, 1) := by decide +kernel
theorem dX1_act_54 : decode cX1_act 54 = .ok (.goto 4, 3) := by decide +kernel
theorem dX1_act_57 : decode cX1_act 57 = .ok (.iconst 0, 1) := by decide +kernel
theorem dX1_act_58 : decode cX1_act 58 = .ok (.istore 4, 2) := by decide +kernel
theorem dX1_act_60 : decode cX1_act 60 = .ok (.iload 4, 2) := by decide +kernel
theorem dX1_act_62 : decode cX1_act 62 = .ok (.ifCond .eq 23, 3) := by decide +kernel
theorem dX1_act_65 : decode cX1_act 65 = .ok (.aload_n 0, 1) := by decide +kernel
theorem dX1_act_66 : decode cX1_act 66 = .ok (.getfield 19, 3) := by decide +kernel
theorem dX1_act_69 : decode cX1_act 69 = .ok (.iload_n 2, 1) := by decide +kernel
theorem dX1_act_70 : decode cX1_act 70 = .ok (.iload_n 3, 1) := by decide +kernel
theorem dX1_act_71 : decode cX1_act 71 = .ok (.invokevirtual 135, 3) := by decide +kernel
theorem dX1_act_74 : decode cX1_act 74 = .ok (.ifCond .eq 11, 3) := by decide +kernel
theorem dX1_act_77 : decode cX1_act 77 = .ok (.aload_n 0, 1) := by decide +kernel
theorem dX1_act_78 : decode cX1_act 78 = .ok (.iload_n 1, 1) := by decide +kernel
theorem dX1_act_79 : decode cX1_act 79 = .ok (.iload_n 2, 1) := by decide +kernel
theorem dX1_act_80 : decode cX1_act 80 = .ok (.iload_n 3, 1) := by decide +kernel
theorem dX1_act_81 : decode cX1_act 81 = .ok (.invokevirtual 141, 3) := by decide +kernel
theorem dX1_act_84 : decode cX1_act 84 = .ok (.return_, 1) := by decide +kernel
theorem dX1_act_85 : decode cX1_act 85 = .ok (.aload_n 0, 1) := by decide +kernel
theorem dX1_act_86 : decode cX1_act 86 = .ok (.iload_n 2, 1) := by decide +kernel
theorem dX1_act_87 : decode cX1_act 87 = .ok (.iload_n 3, 1) := by decide +kernel
theorem dX1_act_88 : decode cX1_act 88 = .ok (.invokevirtual 145, 3) := by decide +kernel
theorem dX1_act_91 : decode cX1_act 91 = .ok (.iload 4, 2) := by decide +kernel
theorem dX1_act_93 : decode cX1_act 93 = .ok (.ifCond .eq 9, 3) := by decide +kernel
theorem dX1_act_96 : decode cX1_act 96 = .ok (.aload_n 0, 1) := by decide +kernel
theorem dX1_act_97 : decode cX1_act 97 = .ok (.iload_n 2, 1) := by decide +kernel
theorem dX1_act_98 : decode cX1_act 98 = .ok (.iload_n 3, 1) := by decide +kernel
theorem dX1_act_99 : decode cX1_act 99 = .ok (.invokevirtual 149, 3) := by decide +kernel
theorem dX1_act_102 : decode cX1_act 102 = .ok (.return_, 1) := by decide +kernel
theorem dX1_begin_0 : decode cX1_begin 0 = .ok (.aload_n 0, 1) := by decide +kernel
theorem dX1_begin_1 : decode cX1_begin 1 = .ok (.getfield 45, 3) := by decide +kernel
theorem dX1_begin_4 : decode cX1_begin 4 = .ok (.invokevirtual 152, 3) := by decide +kernel
theorem dX1_begin_7 : decode cX1_begin 7 = .ok (.istore_n 2, 1) := by decide +kernel
theorem dX1_begin_8 : decode cX1_begin 8 = .ok (.iload_n 2, 1) := by decide +kernel
theorem dX1_begin_9 : decode cX1_begin 9 = .ok (.iconst (-1), 1) := by decide +kernel
theorem dX1_begin_10 : decode cX1_begin 10 = .ok (.if_icmp .ne 4, 3) := by decide +kernel
theorem dX1_begin_13 : decode cX1_begin 13 = .ok (.return_, 1) := by decide +kernel
theorem dX1_begin_14 : decode cX1_begin 14 = .ok (.aload_n 0, 1) := by decide +kernel
theorem dX1_begin_15 : decode cX1_begin 15 = .ok (.getfield 52, 3) := by decide +kernel
theorem dX1_begin_18 : decode cX1_begin 18 = .ok (.iload_n 1, 1) := by decide +kernel
theorem dX1_begin_19 : decode cX1_begin 19 = .ok (.iload_n 2, 1) := by decide +kernel
theorem dX1_begin_20 : decode cX1_begin 20 = .ok (.aload_n 0, 1) := by decide +kernel
theorem dX1_begin_21 : decode cX1_begin 21 = .ok (.getfield 9, 3) := by decide +kernel
theorem dX1_begin_24 : decode cX1_begin 24 = .ok (.getfield 156, 3) := by decide +kernel
theorem dX1_begin_27 : decode cX1_begin 27 = .ok (.iload_n 2, 1) := by decide +kernel
theorem dX1_begin_28 : decode cX1_begin 28 = .ok (.laload, 1) := by decide +kernel
theorem dX1_begin_29 : decode cX1_begin 29 = .ok (.invokevirtual 159, 3) := by decide +kernel
theorem dX1_begin_32 : decode cX1_begin 32 = .ok (.aload_n 0, 1) := by decide +kernel
theorem dX1_begin_33 : decode cX1_begin 33 = .ok (.getfield 29, 3) := by decide +kernel
theorem dX1_begin_36 : decode cX1_begin 36 = .ok (.iload_n 2, 1) := by decide +kernel
theorem dX1_begin_37 : decode cX1_begin 37 = .ok (.dup2, 1) := by decide +kernel
theorem dX1_begin_38 : decode cX1_begin 38 = .ok (.iaload, 1) := by decide +kernel
theorem dX1_begin_39 : decode cX1_begin 39 = .ok (.iconst 1, 1) := by decide +kernel
theorem dX1_begin_40 : decode cX1_begin 40 = .ok (.iadd, 1) := by decide +kernel
theorem dX1_begin_41 : decode cX1_begin 41 = .ok (.iastore, 1) := by decide +kernel
theorem dX1_begin_42 : decode cX1_begin 42 = .ok (.aload_n 0, 1) := by decide +kernel
theorem dX1_begin_43 : decode cX1_begin 43 = .ok (.dup, 1) := by decide +kernel
theorem dX1_begin_44 : decode cX1_begin 44 = .ok (.getfield 74, 3) := by decide +kernel
theorem dX1_begin_47 : decode cX1_begin 47 = .ok (.iconst 1, 1) := by decide +kernel
theorem dX1_begin_48 : decode cX1_begin 48 = .ok (.iadd, 1) := by decide +kernel
theorem dX1_begin_49 : decode cX1_begin 49 = .ok (.putfield 74, 3) := by decide +kernel
theorem dX1_begin_52 : decode cX1_begin 52 = .ok (.return_, 1) := by decide +kernel
theorem dX1_goOn_0 : decode cX1_goOn 0 = .ok (.aload_n 0, 1) := by decide +kernel
theorem dX1_goOn_1 : decode cX1_goOn 1 = .ok (.getfield 52, 3) := by decide +kernel
theorem dX1_goOn_4 : decode cX1_goOn 4 = .ok (.getfield 163, 3) := by decide +kernel
theorem dX1_goOn_7 : decode cX1_goOn 7 = .ok (.iload_n 1, 1) := by decide +kernel
theorem dX1_goOn_8 : decode cX1_goOn 8 = .ok (.aload_n 0, 1) := by decide +kernel
theorem dX1_goOn_9 : decode cX1_goOn 9 = .ok (.getfield 52, 3) := by decide +kernel
theorem dX1_goOn_12 : decode cX1_goOn 12 = .ok (.getfield 163, 3) := by decide +kernel
theorem dX1_goOn_15 : decode cX1_goOn 15 = .ok (.iload_n 1, 1) := by decide +kernel
theorem dX1_goOn_16 : decode cX1_goOn 16 = .ok (.laload, 1) := by decide +kernel
theorem dX1_goOn_17 : decode cX1_goOn 17 = .ok (.aload_n 0, 1) := by decide +kernel
theorem dX1_goOn_18 : decode cX1_goOn 18 = .ok (.getfield 9, 3) := by decide +kernel
theorem dX1_goOn_21 : decode cX1_goOn 21 = .ok (.getfield 156, 3) := by decide +kernel
theorem dX1_goOn_24 : decode cX1_goOn 24 = .ok (.iload_n 2, 1) := by decide +kernel
theorem dX1_goOn_25 : decode cX1_goOn 25 = .ok (.laload, 1) := by decide +kernel
theorem dX1_goOn_26 : decode cX1_goOn 26 = .ok (.aload_n 0, 1) := by decide +kernel
theorem dX1_goOn_27 : decode cX1_goOn 27 = .ok (.getfield 52, 3) := by decide +kernel
theorem dX1_goOn_30 : decode cX1_goOn 30 = .ok (.getfield 129, 3) := by decide +kernel
theorem dX1_goOn_33 : decode cX1_goOn 33 = .ok (.iload_n 1, 1) := by decide +kernel
theorem dX1_goOn_34 : decode cX1_goOn 34 = .ok (.iaload, 1) := by decide +kernel
theorem dX1_goOn_35 : decode cX1_goOn 35 = .ok (.invokestatic 166, 3) := by decide +kernel
theorem dX1_goOn_38 : decode cX1_goOn 38 = .ok (.lastore, 1) := by decide +kernel
theorem dX1_goOn_39 : decode cX1_goOn 39 = .ok (.aload_n 0, 1) := by decide +kernel
theorem dX1_goOn_40 : decode cX1_goOn 40 = .ok (.getfield 52, 3) := by decide +kernel
theorem dX1_goOn_43 : decode cX1_goOn 43 = .ok (.getfield 129, 3) := by decide +kernel
theorem dX1_goOn_46 : decode cX1_goOn 46 = .ok (.iload_n 1, 1) := by decide +kernel
theorem dX1_goOn_47 : decode cX1_goOn 47 = .ok (.dup2, 1) := by decide +kernel
theorem dX1_goOn_48 : decode cX1_goOn 48 = .ok (.iaload, 1) := by decide +kernel
theorem dX1_goOn_49 : decode cX1_goOn 49 = .ok (.iconst 1, 1) := by decide +kernel
theorem dX1_goOn_50 : decode cX1_goOn 50 = .ok (.iadd, 1) := by decide +kernel
theorem dX1_goOn_51 : decode cX1_goOn 51 = .ok (.iastore, 1) := by decide +kernel
theorem dX1_goOn_52 : decode cX1_goOn 52 = .ok (.aload_n 0, 1) := by decide +kernel
theorem dX1_goOn_53 : decode cX1_goOn 53 = .ok (.dup, 1) := by decide +kernel
theorem dX1_goOn_54 : decode cX1_goOn 54 = .ok (.getfield 65, 3) := by decide +kernel
theorem dX1_goOn_57 : decode cX1_goOn 57 = .ok (.iconst 1, 1) := by decide +kernel
theorem dX1_goOn_58 : decode cX1_goOn 58 = .ok (.iadd, 1) := by decide +kernel
theorem dX1_goOn_59 : decode cX1_goOn 59 = .ok (.putfield 65, 3) := by decide +kernel
theorem dX1_goOn_62 : decode cX1_goOn 62 = .ok (.return_, 1) := by decide +kernel
theorem dX1_finish_0 : decode cX1_finish 0 = .ok (.aload_n 0, 1) := by decide +kernel
theorem dX1_finish_1 : decode cX1_finish 1 = .ok (.getfield 36, 3) := by decide +kernel
theorem dX1_finish_4 : decode cX1_finish 4 = .ok (.iload_n 2, 1) := by decide +kernel
theorem dX1_finish_5 : decode cX1_finish 5 = .ok (.aload_n 0, 1) := by decide +kernel
theorem dX1_finish_6 : decode cX1_finish 6 = .ok (.getfield 52, 3) := by decide +kernel
theorem dX1_finish_9 : decode cX1_finish 9 = .ok (.getfield 163, 3) := by decide +kernel
theorem dX1_finish_12 : decode cX1_finish 12 = .ok (.iload_n 1, 1) := by decide +kernel
theorem dX1_finish_13 : decode cX1_finish 13 = .ok (.laload, 1) := by decide +kernel
theorem dX1_finish_14 : decode cX1_finish 14 = .ok (.lastore, 1) := by decide +kernel
theorem dX1_finish_15 : decode cX1_finish 15 = .ok (.aload_n 0, 1) := by decide +kernel
theorem dX1_finish_16 : decode cX1_finish 16 = .ok (.getfield 33, 3) := by decide +kernel
theorem dX1_finish_19 : decode cX1_finish 19 = .ok (.iload_n 2, 1) := by decide +kernel
theorem dX1_finish_20 : decode cX1_finish 20 = .ok (.iload_n 1, 1) := by decide +kernel
theorem dX1_finish_21 : decode cX1_finish 21 = .ok (.iastore, 1) := by decide +kernel
theorem dX1_finish_22 : decode cX1_finish 22 = .ok (.aload_n 0, 1) := by decide +kernel
theorem dX1_finish_23 : decode cX1_finish 23 = .ok (.getfield 52, 3) := by decide +kernel
theorem dX1_finish_26 : decode cX1_finish 26 = .ok (.getfield 123, 3) := by decide +kernel
theorem dX1_finish_29 : decode cX1_finish 29 = .ok (.iload_n 1, 1) := by decide +kernel
theorem dX1_finish_30 : decode cX1_finish 30 = .ok (.iconst (-1), 1) := by decide +kernel
theorem dX1_finish_31 : decode cX1_finish 31 = .ok (.iastore, 1) := by decide +kernel
theorem dX1_finish_32 : decode cX1_finish 32 = .ok (.aload_n 0, 1) := by decide +kernel
theorem dX1_finish_33 : decode cX1_finish 33 = .ok (.dup, 1) := by decide +kernel
theorem dX1_finish_34 : decode cX1_finish 34 = .ok (.getfield 107, 3) := by decide +kernel
theorem dX1_finish_37 : decode cX1_finish 37 = .ok (.iconst 1, 1) := by decide +kernel
theorem dX1_finish_38 : decode cX1_finish 38 = .ok (.isub, 1) := by decide +kernel
theorem dX1_finish_39 : decode cX1_finish 39 = .ok (.putfield 107, 3) := by decide +kernel
theorem dX1_finish_42 : decode cX1_finish 42 = .ok (.return_, 1) := by decide +kernel
theorem dX1_breakDown_0 : decode cX1_breakDown 0 = .ok (.aload_n 0, 1) := by decide +kernel
theorem dX1_breakDown_1 : decode cX1_breakDown 1 = .ok (.getfield 19, 3) := by decide +kernel
theorem dX1_breakDown_4 : decode cX1_breakDown 4 = .ok (.iload_n 2, 1) := by decide +kernel
theorem dX1_breakDown_5 : decode cX1_breakDown 5 = .ok (.iload_n 3, 1) := by decide +kernel
theorem dX1_breakDown_6 : decode cX1_breakDown 6 = .ok (.invokevirtual 170, 3) := by decide +kernel
theorem dX1_breakDown_9 : decode cX1_breakDown 9 = .ok (.aload_n 0, 1) := by decide +kernel
theorem dX1_breakDown_10 : decode cX1_breakDown 10 = .ok (.getfield 52, 3) := by decide +kernel
theorem dX1_breakDown_13 : decode cX1_breakDown 13 = .ok (.iload_n 1, 1) := by decide +kernel
theorem dX1_breakDown_14 : decode cX1_breakDown 14 = .ok (.invokevirtual 173, 3) := by decide +kernel
theorem dX1_breakDown_17 : decode cX1_breakDown 17 = .ok (.aload_n 0, 1) := by decide +kernel
theorem dX1_breakDown_18 : decode cX1_breakDown 18 = .ok (.dup, 1) := by decide +kernel
theorem dX1_breakDown_19 : decode cX1_breakDown 19 = .ok (.getfield 68, 3) := by decide +kernel
theorem dX1_breakDown_22 : decode cX1_breakDown 22 = .ok (.iconst 1, 1) := by decide +kernel
theorem dX1_breakDown_23 : decode cX1_breakDown 23 = .ok (.iadd, 1) := by decide +kernel
theorem dX1_breakDown_24 : decode cX1_breakDown 24 = .ok (.putfield 68, 3) := by decide +kernel
theorem dX1_breakDown_27 : decode cX1_breakDown 27 = .ok (.aload_n 0, 1) := by decide +kernel
theorem dX1_breakDown_28 : decode cX1_breakDown 28 = .ok (.getfield 45, 3) := by decide +kernel
theorem dX1_breakDown_31 : decode cX1_breakDown 31 = .ok (.iload_n 3, 1) := by decide +kernel
theorem dX1_breakDown_32 : decode cX1_breakDown 32 = .ok (.invokevirtual 176, 3) := by decide +kernel
theorem dX1_breakDown_35 : decode cX1_breakDown 35 = .ok (.return_, 1) := by decide +kernel
theorem dX2_init_0 : decode cX2_init 0 = .ok (.aload_n 0, 1) := by decide +kernel
theorem dX2_init_1 : decode cX2_init 1 = .ok (.invokespecial 3, 3) := by decide +kernel
theorem dX2_init_4 : decode cX2_init 4 = .ok (.aload_n 0, 1) := by decide +kernel
theorem dX2_init_5 : decode cX2_init 5 = .ok (.bipush 16, 2) := by decide +kernel
theorem dX2_init_7 : decode cX2_init 7 = .ok (.newarray .int, 2) := by decide +kernel
theorem dX2_init_9 : decode cX2_init 9 = .ok (.putfield 9, 3) := by decide +kernel
theorem dX2_init_12 : decode cX2_init 12 = .ok (.aload_n 0, 1) := by decide +kernel
theorem dX2_init_13 : decode cX2_init 13 = .ok (.bipush 16, 2) := by decide +kernel
theorem dX2_init_15 : decode cX2_init 15 = .ok (.newarray .int, 2) := by decide +kernel
theorem dX2_init_17 : decode cX2_init 17 = .ok (.putfield 15, 3) := by decide +kernel
theorem dX2_init_20 : decode cX2_init 20 = .ok (.aload_n 0, 1) := by decide +kernel
theorem dX2_init_21 : decode cX2_init 21 = .ok (.bipush 16, 2) := by decide +kernel
theorem dX2_init_23 : decode cX2_init 23 = .ok (.newarray .long, 2) := by decide +kernel
theorem dX2_init_25 : decode cX2_init 25 = .ok (.putfield 18, 3) := by decide +kernel
theorem dX2_init_28 : decode cX2_init 28 = .ok (.aload_n 0, 1) := by decide +kernel
theorem dX2_init_29 : decode cX2_init 29 = .ok (.bipush 16, 2) := by decide +kernel
theorem dX2_init_31 : decode cX2_init 31 = .ok (.newarray .int, 2) := by decide +kernel
theorem dX2_init_33 : decode cX2_init 33 = .ok (.putfield 22, 3) := by decide +kernel
theorem dX2_init_36 : decode cX2_init 36 = .ok (.return_, 1) := by decide +kernel
theorem dX2_gather_0 : decode cX2_gather 0 = .ok (.aload_n 0, 1) := by decide +kernel
theorem dX2_gather_1 : decode cX2_gather 1 = .ok (.iload_n 1, 1) := by decide +kernel
theorem dX2_gather_2 : decode cX2_gather 2 = .ok (.putfield 25, 3) := by decide +kernel
theorem dX2_gather_5 : decode cX2_gather 5 = .ok (.iconst 0, 1) := by decide +kernel
theorem dX2_gather_6 : decode cX2_gather 6 = .ok (.istore_n 2, 1) := by decide +kernel
theorem dX2_gather_7 : decode cX2_gather 7 = .ok (.iload_n 2, 1) := by decide +kernel
theorem dX2_gather_8 : decode cX2_gather 8 = .ok (.iload_n 1, 1) := by decide +kernel
theorem dX2_gather_9 : decode cX2_gather 9 = .ok (.if_icmp .ge 23, 3) := by decide +kernel
theorem dX2_gather_12 : decode cX2_gather 12 = .ok (.aload_n 0, 1) := by decide +kernel
theorem dX2_gather_13 : decode cX2_gather 13 = .ok (.getfield 22, 3) := by decide +kernel
theorem dX2_gather_16 : decode cX2_gather 16 = .ok (.iload_n 2, 1) := by decide +kernel
theorem dX2_gather_17 : decode cX2_gather 17 = .ok (.iload_n 2, 1) := by decide +kernel
theorem dX2_gather_18 : decode cX2_gather 18 = .ok (.iastore, 1) := by decide +kernel
theorem dX2_gather_19 : decode cX2_gather 19 = .ok (.aload_n 0, 1) := by decide +kernel
theorem dX2_gather_20 : decode cX2_gather 20 = .ok (.getfield 9, 3) := by decide +kernel
theorem dX2_gather_23 : decode cX2_gather 23 = .ok (.iload_n 2, 1) := by decide +kernel
theorem dX2_gather_24 : decode cX2_gather 24 = .ok (.iconst (-1), 1) := by decide +kernel
theorem dX2_gather_25 : decode cX2_gather 25 = .ok (.iastore, 1) := by decide +kernel
theorem dX2_gather_26 : decode cX2_gather 26 = .ok (.iinc 2 1, 3) := by decide +kernel
theorem dX2_gather_29 : decode cX2_gather 29 = .ok (.goto (-22), 3) := by decide +kernel
theorem dX2_gather_32 : decode cX2_gather 32 = .ok (.return_, 1) := by decide +kernel
theorem dX2_liveAt_0 : decode cX2_liveAt 0 = .ok (.aload_n 0, 1) := by decide +kernel
theorem dX2_liveAt_1 : decode cX2_liveAt 1 = .ok (.getfield 22, 3) := by decide +kernel
theorem dX2_liveAt_4 : decode cX2_liveAt 4 = .ok (.iload_n 1, 1) := by decide +kernel
theorem dX2_liveAt_5 : decode cX2_liveAt 5 = .ok (.iaload, 1) := by decide +kernel
theorem dX2_liveAt_6 : decode cX2_liveAt 6 = .ok (.ireturn, 1) := by decide +kernel
theorem dX2_give_0 : decode cX2_give 0 = .ok (.aload_n 0, 1) := by decide +kernel
theorem dX2_give_1 : decode cX2_give 1 = .ok (.getfield 9, 3) := by decide +kernel
theorem dX2_give_4 : decode cX2_give 4 = .ok (.iload_n 1, 1) := by decide +kernel
theorem dX2_give_5 : decode cX2_give 5 = .ok (.iload_n 2, 1) := by decide +kernel
theorem dX2_give_6 : decode cX2_give 6 = .ok (.iastore, 1) := by decide +kernel
theorem dX2_give_7 : decode cX2_give 7 = .ok (.aload_n 0, 1) := by decide +kernel
theorem dX2_give_8 : decode cX2_give 8 = .ok (.getfield 15, 3) := by decide +kernel
theorem dX2_give_11 : decode cX2_give 11 = .ok (.iload_n 1, 1) := by decide +kernel
theorem dX2_give_12 : decode cX2_give 12 = .ok (.iconst 0, 1) := by decide +kernel
theorem dX2_give_13 : decode cX2_give 13 = .ok (.iastore, 1) := by decide +kernel
theorem dX2_give_14 : decode cX2_give 14 = .ok (.aload_n 0, 1) := by decide +kernel
theorem dX2_give_15 : decode cX2_give 15 = .ok (.getfield 18, 3) := by decide +kernel
theorem dX2_give_18 : decode cX2_give 18 = .ok (.iload_n 1, 1) := by decide +kernel
theorem dX2_give_19 : decode cX2_give 19 = .ok (.lload_n 3, 1) := by decide +kernel
theorem dX2_give_20 : decode cX2_give 20 = .ok (.lastore, 1) := by decide +kernel
theorem dX2_give_21 : decode cX2_give 21 = .ok (.return_, 1) := by decide +kernel
theorem dX2_dropAt_0 : decode cX2_dropAt 0 = .ok (.aload_n 0, 1) := by decide +kernel
theorem dX2_dropAt_1 : decode cX2_dropAt 1 = .ok (.dup, 1) := by decide +kernel
theorem dX2_dropAt_2 : decode cX2_dropAt 2 = .ok (.getfield 25, 3) := by decide +kernel
theorem dX2_dropAt_5 : decode cX2_dropAt 5 = .ok (.iconst 1, 1) := by decide +kernel
theorem dX2_dropAt_6 : decode cX2_dropAt 6 = .ok (.isub, 1) := by decide +kernel
theorem dX2_dropAt_7 : decode cX2_dropAt 7 = .ok (.putfield 25, 3) := by decide +kernel
theorem dX2_dropAt_10 : decode cX2_dropAt 10 = .ok (.iload_n 1, 1) := by decide +kernel
theorem dX2_dropAt_11 : decode cX2_dropAt 11 = .ok (.istore_n 2, 1) := by decide +kernel
theorem dX2_dropAt_12 : decode cX2_dropAt 12 = .ok (.iload_n 2, 1) := by decide +kernel
theorem dX2_dropAt_13 : decode cX2_dropAt 13 = .ok (.aload_n 0, 1) := by decide +kernel
theorem dX2_dropAt_14 : decode cX2_dropAt 14 = .ok (.getfield 25, 3) := by decide +kernel
theorem dX2_dropAt_17 : decode cX2_dropAt 17 = .ok (.if_icmp .ge 23, 3) := by decide +kernel
theorem dX2_dropAt_20 : decode cX2_dropAt 20 = .ok (.aload_n 0, 1) := by decide +kernel
theorem dX2_dropAt_21 : decode cX2_dropAt 21 = .ok (.getfield 22, 3) := by decide +kernel
theorem dX2_dropAt_24 : decode cX2_dropAt 24 = .ok (.iload_n 2, 1) := by decide +kernel
theorem dX2_dropAt_25 : decode cX2_dropAt 25 = .ok (.aload_n 0, 1) := by decide +kernel
theorem dX2_dropAt_26 : decode cX2_dropAt 26 = .ok (.getfield 22, 3) := by decide +kernel
theorem dX2_dropAt_29 : decode cX2_dropAt 29 = .ok (.iload_n 2, 1) := by decide +kernel
theorem dX2_dropAt_30 : decode cX2_dropAt 30 = .ok (.iconst 1, 1) := by decide +kernel
theorem dX2_dropAt_31 : decode cX2_dropAt 31 = .ok (.iadd, 1) := by decide +kernel
theorem dX2_dropAt_32 : decode cX2_dropAt 32 = .ok (.iaload, 1) := by decide +kernel
theorem dX2_dropAt_33 : decode cX2_dropAt 33 = .ok (.iastore, 1) := by decide +kernel
theorem dX2_dropAt_34 : decode cX2_dropAt 34 = .ok (.iinc 2 1, 3) := by decide +kernel
theorem dX2_dropAt_37 : decode cX2_dropAt 37 = .ok (.goto (-25), 3) := by decide +kernel
theorem dX2_dropAt_40 : decode cX2_dropAt 40 = .ok (.return_, 1) := by decide +kernel
theorem dX3_init_0 : decode cX3_init 0 = .ok (.aload_n 0, 1) := by decide +kernel
theorem dX3_init_1 : decode cX3_init 1 = .ok (.invokespecial 3, 3) := by decide +kernel
theorem dX3_init_4 : decode cX3_init 4 = .ok (.aload_n 0, 1) := by decide +kernel
theorem dX3_init_5 : decode cX3_init 5 = .ok (.bipush 16, 2) := by decide +kernel
theorem dX3_init_7 : decode cX3_init 7 = .ok (.newarray .long, 2) := by decide +kernel
theorem dX3_init_9 : decode cX3_init 9 = .ok (.putfield 9, 3) := by decide +kernel
theorem dX3_init_12 : decode cX3_init 12 = .ok (.return_, 1) := by decide +kernel
theorem dX3_reset_0 : decode cX3_reset 0 = .ok (.aload_n 0, 1) := by decide +kernel
theorem dX3_reset_1 : decode cX3_reset 1 = .ok (.iconst 0, 1) := by decide +kernel
theorem dX3_reset_2 : decode cX3_reset 2 = .ok (.putfield 15, 3) := by decide +kernel
theorem dX3_reset_5 : decode cX3_reset 5 = .ok (.iconst 0, 1) := by decide +kernel
theorem dX3_reset_6 : decode cX3_reset 6 = .ok (.istore_n 1, 1) := by decide +kernel
theorem dX3_reset_7 : decode cX3_reset 7 = .ok (.iload_n 1, 1) := by decide +kernel
theorem dX3_reset_8 : decode cX3_reset 8 = .ok (.bipush 16, 2) := by decide +kernel
theorem dX3_reset_10 : decode cX3_reset 10 = .ok (.if_icmp .ge 16, 3) := by decide +kernel
theorem dX3_reset_13 : decode cX3_reset 13 = .ok (.aload_n 0, 1) := by decide +kernel
theorem dX3_reset_14 : decode cX3_reset 14 = .ok (.getfield 9, 3) := by decide +kernel
theorem dX3_reset_17 : decode cX3_reset 17 = .ok (.iload_n 1, 1) := by decide +kernel
theorem dX3_reset_18 : decode cX3_reset 18 = .ok (.lconst 0, 1) := by decide +kernel
theorem dX3_reset_19 : decode cX3_reset 19 = .ok (.lastore, 1) := by decide +kernel
theorem dX3_reset_20 : decode cX3_reset 20 = .ok (.iinc 1 1, 3) := by decide +kernel
theorem dX3_reset_23 : decode cX3_reset 23 = .ok (.goto (-16), 3) := by decide +kernel
theorem dX3_reset_26 : decode cX3_reset 26 = .ok (.return_, 1) := by decide +kernel
theorem dX3_has_0 : decode cX3_has 0 = .ok (.aload_n 0, 1) := by decide +kernel
theorem dX3_has_1 : decode cX3_has 1 = .ok (.getfield 9, 3) := by decide +kernel
theorem dX3_has_4 : decode cX3_has 4 = .ok (.iload_n 1, 1) := by decide +kernel
theorem dX3_has_5 : decode cX3_has 5 = .ok (.laload, 1) := by decide +kernel
theorem dX3_has_6 : decode cX3_has 6 = .ok (.lconst 1, 1) := by decide +kernel
theorem dX3_has_7 : decode cX3_has 7 = .ok (.iload_n 2, 1) := by decide +kernel
theorem dX3_has_8 : decode cX3_has 8 = .ok (.lshl, 1) := by decide +kernel
theorem dX3_has_9 : decode cX3_has 9 = .ok (.land, 1) := by decide +kernel
theorem dX3_has_10 : decode cX3_has 10 = .ok (.lconst 0, 1) := by decide +kernel
theorem dX3_has_11 : decode cX3_has 11 = .ok (.lcmp, 1) := by decide +kernel
theorem dX3_has_12 : decode cX3_has 12 = .ok (.ifCond .eq 7, 3) := by decide +kernel
theorem dX3_has_15 : decode cX3_has 15 = .ok (.iconst 1, 1) := by decide +kernel
theorem dX3_has_16 : decode cX3_has 16 = .ok (.goto 4, 3) := by decide +kernel
theorem dX3_has_19 : decode cX3_has 19 = .ok (.iconst 0, 1) := by decide +kernel
theorem dX3_has_20 : decode cX3_has 20 = .ok (.ireturn, 1) := by decide +kernel
theorem dX3_add_0 : decode cX3_add 0 = .ok (.aload_n 0, 1) := by decide +kernel
theorem dX3_add_1 : decode cX3_add 1 = .ok (.getfield 9, 3) := by decide +kernel
theorem dX3_add_4 : decode cX3_add 4 = .ok (.iload_n 1, 1) := by decide +kernel
theorem dX3_add_5 : decode cX3_add 5 = .ok (.dup2, 1) := by decide +kernel
theorem dX3_add_6 : decode cX3_add 6 = .ok (.laload, 1) := by decide +kernel
theorem dX3_add_7 : decode cX3_add 7 = .ok (.lconst 1, 1) := by decide +kernel
theorem dX3_add_8 : decode cX3_add 8 = .ok (.iload_n 2, 1) := by decide +kernel
theorem dX3_add_9 : decode cX3_add 9 = .ok (.lshl, 1) := by decide +kernel
theorem dX3_add_10 : decode cX3_add 10 = .ok (.lor, 1) := by decide +kernel
theorem dX3_add_11 : decode cX3_add 11 = .ok (.lastore, 1) := by decide +kernel
theorem dX3_add_12 : decode cX3_add 12 = .ok (.aload_n 0, 1) := by decide +kernel
theorem dX3_add_13 : decode cX3_add 13 = .ok (.dup, 1) := by decide +kernel
theorem dX3_add_14 : decode cX3_add 14 = .ok (.getfield 15, 3) := by decide +kernel
theorem dX3_add_17 : decode cX3_add 17 = .ok (.iconst 1, 1) := by decide +kernel
theorem dX3_add_18 : decode cX3_add 18 = .ok (.iadd, 1) := by decide +kernel
theorem dX3_add_19 : decode cX3_add 19 = .ok (.putfield 15, 3) := by decide +kernel
theorem dX3_add_22 : decode cX3_add 22 = .ok (.return_, 1) := by decide +kernel
theorem dX3_remove_0 : decode cX3_remove 0 = .ok (.aload_n 0, 1) := by decide +kernel
theorem dX3_remove_1 : decode cX3_remove 1 = .ok (.getfield 9, 3) := by decide +kernel
theorem dX3_remove_4 : decode cX3_remove 4 = .ok (.iload_n 1, 1) := by decide +kernel
theorem dX3_remove_5 : decode cX3_remove 5 = .ok (.dup2, 1) := by decide +kernel
theorem dX3_remove_6 : decode cX3_remove 6 = .ok (.laload, 1) := by decide +kernel
theorem dX3_remove_7 : decode cX3_remove 7 = .ok (.lconst 1, 1) := by decide +kernel
theorem dX3_remove_8 : decode cX3_remove 8 = .ok (.iload_n 2, 1) := by decide +kernel
theorem dX3_remove_9 : decode cX3_remove 9 = .ok (.lshl, 1) := by decide +kernel
theorem dX3_remove_10 : decode cX3_remove 10 = .ok (.ldc2_w 19, 3) := by decide +kernel
theorem dX3_remove_13 : decode cX3_remove 13 = .ok (.lxor, 1) := by decide +kernel
theorem dX3_remove_14 : decode cX3_remove 14 = .ok (.land, 1) := by decide +kernel
theorem dX3_remove_15 : decode cX3_remove 15 = .ok (.lastore, 1) := by decide +kernel
theorem dX3_remove_16 : decode cX3_remove 16 = .ok (.aload_n 0, 1) := by decide +kernel
theorem dX3_remove_17 : decode cX3_remove 17 = .ok (.dup, 1) := by decide +kernel
theorem dX3_remove_18 : decode cX3_remove 18 = .ok (.getfield 15, 3) := by decide +kernel
theorem dX3_remove_21 : decode cX3_remove 21 = .ok (.iconst 1, 1) := by decide +kernel
theorem dX3_remove_22 : decode cX3_remove 22 = .ok (.isub, 1) := by decide +kernel
theorem dX3_remove_23 : decode cX3_remove 23 = .ok (.putfield 15, 3) := by decide +kernel
theorem dX3_remove_26 : decode cX3_remove 26 = .ok (.return_, 1) := by decide +kernel
theorem dX4_init_0 : decode cX4_init 0 = .ok (.aload_n 0, 1) := by decide +kernel
theorem dX4_init_1 : decode cX4_init 1 = .ok (.invokespecial 3, 3) := by decide +kernel
theorem dX4_init_4 : decode cX4_init 4 = .ok (.aload_n 0, 1) := by decide +kernel
theorem dX4_init_5 : decode cX4_init 5 = .ok (.iload_n 1, 1) := by decide +kernel
theorem dX4_init_6 : decode cX4_init 6 = .ok (.newarray .int, 2) := by decide +kernel
theorem dX4_init_8 : decode cX4_init 8 = .ok (.putfield 9, 3) := by decide +kernel
theorem dX4_init_11 : decode cX4_init 11 = .ok (.return_, 1) := by decide +kernel
theorem dX4_fill_0 : decode cX4_fill 0 = .ok (.aload_n 0, 1) := by decide +kernel
theorem dX4_fill_1 : decode cX4_fill 1 = .ok (.iconst 0, 1) := by decide +kernel
theorem dX4_fill_2 : decode cX4_fill 2 = .ok (.putfield 15, 3) := by decide +kernel
theorem dX4_fill_5 : decode cX4_fill 5 = .ok (.aload_n 0, 1) := by decide +kernel
theorem dX4_fill_6 : decode cX4_fill 6 = .ok (.iconst 0, 1) := by decide +kernel
theorem dX4_fill_7 : decode cX4_fill 7 = .ok (.putfield 19, 3) := by decide +kernel
theorem dX4_fill_10 : decode cX4_fill 10 = .ok (.iconst 0, 1) := by decide +kernel
theorem dX4_fill_11 : decode cX4_fill 11 = .ok (.istore_n 3, 1) := by decide +kernel
theorem dX4_fill_12 : decode cX4_fill 12 = .ok (.iload_n 3, 1) := by decide +kernel
theorem dX4_fill_13 : decode cX4_fill 13 = .ok (.aload_n 0, 1) := by decide +kernel
theorem dX4_fill_14 : decode cX4_fill 14 = .ok (.getfield 9, 3) := by decide +kernel
theorem dX4_fill_17 : decode cX4_fill 17 = .ok (.arraylength, 1) := by decide +kernel
theorem dX4_fill_18 : decode cX4_fill 18 = .ok (.if_icmp .ge 39, 3) := by decide +kernel
theorem dX4_fill_21 : decode cX4_fill 21 = .ok (.aload_n 1, 1) := by decide +kernel
theorem dX4_fill_22 : decode cX4_fill 22 = .ok (.getfield 22, 3) := by decide +kernel
theorem dX4_fill_25 : decode cX4_fill 25 = .ok (.iload_n 3, 1) := by decide +kernel
theorem dX4_fill_26 : decode cX4_fill 26 = .ok (.iaload, 1) := by decide +kernel
theorem dX4_fill_27 : decode cX4_fill 27 = .ok (.iload_n 2, 1) := by decide +kernel
theorem dX4_fill_28 : decode cX4_fill 28 = .ok (.if_icmp .ne 23, 3) := by decide +kernel
theorem dX4_fill_31 : decode cX4_fill 31 = .ok (.aload_n 0, 1) := by decide +kernel
theorem dX4_fill_32 : decode cX4_fill 32 = .ok (.getfield 9, 3) := by decide +kernel
theorem dX4_fill_35 : decode cX4_fill 35 = .ok (.aload_n 0, 1) := by decide +kernel
theorem dX4_fill_36 : decode cX4_fill 36 = .ok (.getfield 19, 3) := by decide +kernel
theorem dX4_fill_39 : decode cX4_fill 39 = .ok (.iload_n 3, 1) := by decide +kernel
theorem dX4_fill_40 : decode cX4_fill 40 = .ok (.iastore, 1) := by decide +kernel
theorem dX4_fill_41 : decode cX4_fill 41 = .ok (.aload_n 0, 1) := by decide +kernel
theorem dX4_fill_42 : decode cX4_fill 42 = .ok (.dup, 1) := by decide +kernel
theorem dX4_fill_43 : decode cX4_fill 43 = .ok (.getfield 19, 3) := by decide +kernel
theorem dX4_fill_46 : decode cX4_fill 46 = .ok (.iconst 1, 1) := by decide +kernel
theorem dX4_fill_47 : decode cX4_fill 47 = .ok (.iadd, 1) := by decide +kernel
theorem dX4_fill_48 : decode cX4_fill 48 = .ok (.putfield 19, 3) := by decide +kernel
theorem dX4_fill_51 : decode cX4_fill 51 = .ok (.iinc 3 1, 3) := by decide +kernel
theorem dX4_fill_54 : decode cX4_fill 54 = .ok (.goto (-42), 3) := by decide +kernel
theorem dX4_fill_57 : decode cX4_fill 57 = .ok (.aload_n 0, 1) := by decide +kernel
theorem dX4_fill_58 : decode cX4_fill 58 = .ok (.getfield 19, 3) := by decide +kernel
theorem dX4_fill_61 : decode cX4_fill 61 = .ok (.ireturn, 1) := by decide +kernel
theorem dX4_takeFirst_0 : decode cX4_takeFirst 0 = .ok (.aload_n 0, 1) := by decide +kernel
theorem dX4_takeFirst_1 : decode cX4_takeFirst 1 = .ok (.getfield 15, 3) := by decide +kernel
theorem dX4_takeFirst_4 : decode cX4_takeFirst 4 = .ok (.aload_n 0, 1) := by decide +kernel
theorem dX4_takeFirst_5 : decode cX4_takeFirst 5 = .ok (.getfield 19, 3) := by decide +kernel
theorem dX4_takeFirst_8 : decode cX4_takeFirst 8 = .ok (.if_icmp .lt 5, 3) := by decide +kernel
theorem dX4_takeFirst_11 : decode cX4_takeFirst 11 = .ok (.iconst (-1), 1) := by decide +kernel
theorem dX4_takeFirst_12 : decode cX4_takeFirst 12 = .ok (.ireturn, 1) := by decide +kernel
theorem dX4_takeFirst_13 : decode cX4_takeFirst 13 = .ok (.aload_n 0, 1) := by decide +kernel
theorem dX4_takeFirst_14 : decode cX4_takeFirst 14 = .ok (.getfield 9, 3) := by decide +kernel
theorem dX4_takeFirst_17 : decode cX4_takeFirst 17 = .ok (.aload_n 0, 1) := by decide +kernel
theorem dX4_takeFirst_18 : decode cX4_takeFirst 18 = .ok (.getfield 15, 3) := by decide +kernel
theorem dX4_takeFirst_21 : decode cX4_takeFirst 21 = .ok (.iaload, 1) := by decide +kernel
theorem dX4_takeFirst_22 : decode cX4_takeFirst 22 = .ok (.istore_n 1, 1) := by decide +kernel
theorem dX4_takeFirst_23 : decode cX4_takeFirst 23 = .ok (.aload_n 0, 1) := by decide +kernel
theorem dX4_takeFirst_24 : decode cX4_takeFirst 24 = .ok (.dup, 1) := by decide +kernel
theorem dX4_takeFirst_25 : decode cX4_takeFirst 25 = .ok (.getfield 15, 3) := by decide +kernel
theorem dX4_takeFirst_28 : decode cX4_takeFirst 28 = .ok (.iconst 1, 1) := by decide +kernel
theorem dX4_takeFirst_29 : decode cX4_takeFirst 29 = .ok (.iadd, 1) := by decide +kernel
theorem dX4_takeFirst_30 : decode cX4_takeFirst 30 = .ok (.putfield 15, 3) := by decide +kernel
theorem dX4_takeFirst_33 : decode cX4_takeFirst 33 = .ok (.iload_n 1, 1) := by decide +kernel
theorem dX4_takeFirst_34 : decode cX4_takeFirst 34 = .ok (.ireturn, 1) := by decide +kernel
theorem dX4_putFirst_0 : decode cX4_putFirst 0 = .ok (.aload_n 0, 1) := by decide +kernel
theorem dX4_putFirst_1 : decode cX4_putFirst 1 = .ok (.getfield 15, 3) := by decide +kernel
theorem dX4_putFirst_4 : decode cX4_putFirst 4 = .ok (.ifCond .le 23, 3) := by decide +kernel
theorem dX4_putFirst_7 : decode cX4_putFirst 7 = .ok (.aload_n 0, 1) := by decide +kernel
theorem dX4_putFirst_8 : decode cX4_putFirst 8 = .ok (.dup, 1) := by decide +kernel
theorem dX4_putFirst_9 : decode cX4_putFirst 9 = .ok (.getfield 15, 3) := by decide +kernel
theorem dX4_putFirst_12 : decode cX4_putFirst 12 = .ok (.iconst 1, 1) := by decide +kernel
theorem dX4_putFirst_13 : decode cX4_putFirst 13 = .ok (.isub, 1) := by decide +kernel
theorem dX4_putFirst_14 : decode cX4_putFirst 14 = .ok (.putfield 15, 3) := by decide +kernel
theorem dX4_putFirst_17 : decode cX4_putFirst 17 = .ok (.aload_n 0, 1) := by decide +kernel
theorem dX4_putFirst_18 : decode cX4_putFirst 18 = .ok (.getfield 9, 3) := by decide +kernel
theorem dX4_putFirst_21 : decode cX4_putFirst 21 = .ok (.aload_n 0, 1) := by decide +kernel
theorem dX4_putFirst_22 : decode cX4_putFirst 22 = .ok (.getfield 15, 3) := by decide +kernel
theorem dX4_putFirst_25 : decode cX4_putFirst 25 = .ok (.iload_n 1, 1) := by decide +kernel
theorem dX4_putFirst_26 : decode cX4_putFirst 26 = .ok (.iastore, 1) := by decide +kernel
theorem dX4_putFirst_27 : decode cX4_putFirst 27 = .ok (.return_, 1) := by decide +kernel
theorem dX5_init_0 : decode cX5_init 0 = .ok (.aload_n 0, 1) := by decide +kernel
theorem dX5_init_1 : decode cX5_init 1 = .ok (.invokespecial 1, 3) := by decide +kernel
theorem dX5_init_4 : decode cX5_init 4 = .ok (.aload_n 0, 1) := by decide +kernel
theorem dX5_init_5 : decode cX5_init 5 = .ok (.iload_n 1, 1) := by decide +kernel
theorem dX5_init_6 : decode cX5_init 6 = .ok (.putfield 7, 3) := by decide +kernel
theorem dX5_init_9 : decode cX5_init 9 = .ok (.aload_n 0, 1) := by decide +kernel
theorem dX5_init_10 : decode cX5_init 10 = .ok (.iload_n 1, 1) := by decide +kernel
theorem dX5_init_11 : decode cX5_init 11 = .ok (.newarray .long, 2) := by decide +kernel
theorem dX5_init_13 : decode cX5_init 13 = .ok (.putfield 13, 3) := by decide +kernel
theorem dX5_init_16 : decode cX5_init 16 = .ok (.aload_n 0, 1) := by decide +kernel
theorem dX5_init_17 : decode cX5_init 17 = .ok (.iload_n 1, 1) := by decide +kernel
theorem dX5_init_18 : decode cX5_init 18 = .ok (.newarray .int, 2) := by decide +kernel
theorem dX5_init_20 : decode cX5_init 20 = .ok (.putfield 17, 3) := by decide +kernel
theorem dX5_init_23 : decode cX5_init 23 = .ok (.aload_n 0, 1) := by decide +kernel
theorem dX5_init_24 : decode cX5_init 24 = .ok (.iload_n 1, 1) := by decide +kernel
theorem dX5_init_25 : decode cX5_init 25 = .ok (.newarray .int, 2) := by decide +kernel
theorem dX5_init_27 : decode cX5_init 27 = .ok (.putfield 21, 3) := by decide +kernel
theorem dX5_init_30 : decode cX5_init 30 = .ok (.aload_n 0, 1) := by decide +kernel
theorem dX5_init_31 : decode cX5_init 31 = .ok (.iload_n 1, 1) := by decide +kernel
theorem dX5_init_32 : decode cX5_init 32 = .ok (.newarray .boolean, 2) := by decide +kernel
theorem dX5_init_34 : decode cX5_init 34 = .ok (.putfield 24, 3) := by decide +kernel
theorem dX5_init_37 : decode cX5_init 37 = .ok (.aload_n 0, 1) := by decide +kernel
theorem dX5_init_38 : decode cX5_init 38 = .ok (.invokevirtual 28, 3) := by decide +kernel
theorem dX5_init_41 : decode cX5_init 41 = .ok (.return_, 1) := by decide +kernel
theorem dX5_reset_0 : decode cX5_reset 0 = .ok (.iconst 0, 1) := by decide +kernel
theorem dX5_reset_1 : decode cX5_reset 1 = .ok (.istore_n 1, 1) := by decide +kernel
theorem dX5_reset_2 : decode cX5_reset 2 = .ok (.iload_n 1, 1) := by decide +kernel
theorem dX5_reset_3 : decode cX5_reset 3 = .ok (.aload_n 0, 1) := by decide +kernel
theorem dX5_reset_4 : decode cX5_reset 4 = .ok (.getfield 7, 3) := by decide +kernel
theorem dX5_reset_7 : decode cX5_reset 7 = .ok (.if_icmp .ge 37, 3) := by decide +kernel
theorem dX5_reset_10 : decode cX5_reset 10 = .ok (.aload_n 0, 1) := by decide +kernel
theorem dX5_reset_11 : decode cX5_reset 11 = .ok (.getfield 13, 3) := by decide +kernel
theorem dX5_reset_14 : decode cX5_reset 14 = .ok (.iload_n 1, 1) := by decide +kernel
theorem dX5_reset_15 : decode cX5_reset 15 = .ok (.lconst 0, 1) := by decide +kernel
theorem dX5_reset_16 : decode cX5_reset 16 = .ok (.lastore, 1) := by decide +kernel
theorem dX5_reset_17 : decode cX5_reset 17 = .ok (.aload_n 0, 1) := by decide +kernel
theorem dX5_reset_18 : decode cX5_reset 18 = .ok (.getfield 17, 3) := by decide +kernel
theorem dX5_reset_21 : decode cX5_reset 21 = .ok (.iload_n 1, 1) := by decide +kernel
theorem dX5_reset_22 : decode cX5_reset 22 = .ok (.iconst 1, 1) := by decide +kernel
theorem dX5_reset_23 : decode cX5_reset 23 = .ok (.iastore, 1) := by decide +kernel
theorem dX5_reset_24 : decode cX5_reset 24 = .ok (.aload_n 0, 1) := by decide +kernel
theorem dX5_reset_25 : decode cX5_reset 25 = .ok (.getfield 21, 3) := by decide +kernel
theorem dX5_reset_28 : decode cX5_reset 28 = .ok (.iload_n 1, 1) := by decide +kernel
theorem dX5_reset_29 : decode cX5_reset 29 = .ok (.iconst 0, 1) := by decide +kernel
theorem dX5_reset_30 : decode cX5_reset 30 = .ok (.iastore, 1) := by decide +kernel
theorem dX5_reset_31 : decode cX5_reset 31 = .ok (.aload_n 0, 1) := by decide +kernel
theorem dX5_reset_32 : decode cX5_reset 32 = .ok (.getfield 24, 3) := by decide +kernel
theorem dX5_reset_35 : decode cX5_reset 35 = .ok (.iload_n 1, 1) := by decide +kernel
theorem dX5_reset_36 : decode cX5_reset 36 = .ok (.iconst 0, 1) := by decide +kernel
theorem dX5_reset_37 : decode cX5_reset 37 = .ok (.bastore, 1) := by decide +kernel
theorem dX5_reset_38 : decode cX5_reset 38 = .ok (.iinc 1 1, 3) := by decide +kernel
theorem dX5_reset_41 : decode cX5_reset 41 = .ok (.goto (-39), 3) := by decide +kernel
theorem dX5_reset_44 : decode cX5_reset 44 = .ok (.return_, 1) := by decide +kernel
theorem dX5_has_0 : decode cX5_has 0 = .ok (.iload_n 1, 1) := by decide +kernel
theorem dX5_has_1 : decode cX5_has 1 = .ok (.ifCond .lt 15, 3) := by decide +kernel
theorem dX5_has_4 : decode cX5_has 4 = .ok (.iload_n 1, 1) := by decide +kernel
theorem dX5_has_5 : decode cX5_has 5 = .ok (.aload_n 0, 1) := by decide +kernel
theorem dX5_has_6 : decode cX5_has 6 = .ok (.getfield 7, 3) := by decide +kernel
theorem dX5_has_9 : decode cX5_has 9 = .ok (.if_icmp .ge 7, 3) := by decide +kernel
theorem dX5_has_12 : decode cX5_has 12 = .ok (.iconst 1, 1) := by decide +kernel
theorem dX5_has_13 : decode cX5_has 13 = .ok (.goto 4, 3) := by decide +kernel
theorem dX5_has_16 : decode cX5_has 16 = .ok (.iconst 0, 1) := by decide +kernel
theorem dX5_has_17 : decode cX5_has 17 = .ok (.ireturn, 1) := by decide +kernel
theorem dX5_madeAlone_0 : decode cX5_madeAlone 0 = .ok (.aload_n 0, 1) := by decide +kernel
theorem dX5_madeAlone_1 : decode cX5_madeAlone 1 = .ok (.getfield 13, 3) := by decide +kernel
theorem dX5_madeAlone_4 : decode cX5_madeAlone 4 = .ok (.iload_n 1, 1) := by decide +kernel
theorem dX5_madeAlone_5 : decode cX5_madeAlone 5 = .ok (.laload, 1) := by decide +kernel
theorem dX5_madeAlone_6 : decode cX5_madeAlone 6 = .ok (.lstore_n 2, 1) := by decide +kernel
theorem dX5_madeAlone_7 : decode cX5_madeAlone 7 = .ok (.iconst 0, 1) := by decide +kernel
theorem dX5_madeAlone_8 : decode cX5_madeAlone 8 = .ok (.istore 4, 2) := by decide +kernel
theorem dX5_madeAlone_10 : decode cX5_madeAlone 10 = .ok (.iload 4, 2) := by decide +kernel
theorem dX5_madeAlone_12 : decode cX5_madeAlone 12 = .ok (.aload_n 0, 1) := by decide +kernel
theorem dX5_madeAlone_13 : decode cX5_madeAlone 13 = .ok (.getfield 17, 3) := by decide +kernel
theorem dX5_madeAlone_16 : decode cX5_madeAlone 16 = .ok (.iload_n 1, 1) := by decide +kernel
theorem dX5_madeAlone_17 : decode cX5_madeAlone 17 = .ok (.iaload, 1) := by decide +kernel
theorem dX5_madeAlone_18 : decode cX5_madeAlone 18 = .ok (.if_icmp .ge 22, 3) := by decide +kernel
theorem dX5_madeAlone_21 : decode cX5_madeAlone 21 = .ok (.lload_n 2, 1) := by decide +kernel
theorem dX5_madeAlone_22 : decode cX5_madeAlone 22 = .ok (.aload_n 0, 1) := by decide +kernel
theorem dX5_madeAlone_23 : decode cX5_madeAlone 23 = .ok (.getfield 13, 3) := by decide +kernel
theorem dX5_madeAlone_26 : decode cX5_madeAlone 26 = .ok (.iload_n 1, 1) := by decide +kernel
theorem dX5_madeAlone_27 : decode cX5_madeAlone 27 = .ok (.laload, 1) := by decide +kernel
theorem dX5_madeAlone_28 : decode cX5_madeAlone 28 = .ok (.iload 4, 2) := by decide +kernel
theorem dX5_madeAlone_30 : decode cX5_madeAlone 30 = .ok (.invokestatic 31, 3) := by decide +kernel
theorem dX5_madeAlone_33 : decode cX5_madeAlone 33 = .ok (.lstore_n 2, 1) := by decide +kernel
theorem dX5_madeAlone_34 : decode cX5_madeAlone 34 = .ok (.iinc 4 1, 3) := by decide +kernel
theorem dX5_madeAlone_37 : decode cX5_madeAlone 37 = .ok (.goto (-27), 3) := by decide +kernel
theorem dX5_madeAlone_40 : decode cX5_madeAlone 40 = .ok (.lload_n 2, 1) := by decide +kernel
theorem dX5_madeAlone_41 : decode cX5_madeAlone 41 = .ok (.lreturn, 1) := by decide +kernel
theorem dX6_init_0 : decode cX6_init 0 = .ok (.aload_n 0, 1) := by decide +kernel
theorem dX6_init_1 : decode cX6_init 1 = .ok (.invokespecial 1, 3) := by decide +kernel
theorem dX6_init_4 : decode cX6_init 4 = .ok (.iconst 1, 1) := by decide +kernel
theorem dX6_init_5 : decode cX6_init 5 = .ok (.iload_n 1, 1) := by decide +kernel
theorem dX6_init_6 : decode cX6_init 6 = .ok (.bipush 64, 2) := by decide +kernel
theorem dX6_init_8 : decode cX6_init 8 = .ok (.invokestatic 9, 3) := by decide +kernel
theorem dX6_init_11 : decode cX6_init 11 = .ok (.invokestatic 15, 3) := by decide +kernel
theorem dX6_init_14 : decode cX6_init 14 = .ok (.istore_n 2, 1) := by decide +kernel
theorem dX6_init_15 : decode cX6_init 15 = .ok (.aload_n 0, 1) := by decide +kernel
theorem dX6_init_16 : decode cX6_init 16 = .ok (.new 18, 3) := by decide +kernel
theorem dX6_init_19 : decode cX6_init 19 = .ok (.dup, 1) := by decide +kernel
theorem dX6_init_20 : decode cX6_init 20 = .ok (.iload_n 2, 1) := by decide +kernel
theorem dX6_init_21 : decode cX6_init 21 = .ok (.invokespecial 20, 3) := by decide +kernel
theorem dX6_init_24 : decode cX6_init 24 = .ok (.putfield 23, 3) := by decide +kernel
theorem dX6_init_27 : decode cX6_init 27 = .ok (.aload_n 0, 1) := by decide +kernel
theorem dX6_init_28 : decode cX6_init 28 = .ok (.new 27, 3) := by decide +kernel
theorem dX6_init_31 : decode cX6_init 31 = .ok (.dup, 1) := by decide +kernel
theorem dX6_init_32 : decode cX6_init 32 = .ok (.iload_n 2, 1) := by decide +kernel
theorem dX6_init_33 : decode cX6_init 33 = .ok (.invokespecial 29, 3) := by decide +kernel
theorem dX6_init_36 : decode cX6_init 36 = .ok (.putfield 30, 3) := by decide +kernel
theorem dX6_init_39 : decode cX6_init 39 = .ok (.aload_n 0, 1) := by decide +kernel
theorem dX6_init_40 : decode cX6_init 40 = .ok (.new 34, 3) := by decide +kernel
theorem dX6_init_43 : decode cX6_init 43 = .ok (.dup, 1) := by decide +kernel
theorem dX6_init_44 : decode cX6_init 44 = .ok (.invokespecial 36, 3) := by decide +kernel
theorem dX6_init_47 : decode cX6_init 47 = .ok (.putfield 37, 3) := by decide +kernel
theorem dX6_init_50 : decode cX6_init 50 = .ok (.aload_n 0, 1) := by decide +kernel
theorem dX6_init_51 : decode cX6_init 51 = .ok (.new 41, 3) := by decide +kernel
theorem dX6_init_54 : decode cX6_init 54 = .ok (.dup, 1) := by decide +kernel
theorem dX6_init_55 : decode cX6_init 55 = .ok (.aload_n 0, 1) := by decide +kernel
theorem dX6_init_56 : decode cX6_init 56 = .ok (.getfield 23, 3) := by decide +kernel
theorem dX6_init_59 : decode cX6_init 59 = .ok (.aload_n 0, 1) := by decide +kernel
theorem dX6_init_60 : decode cX6_init 60 = .ok (.getfield 30, 3) := by decide +kernel
theorem dX6_init_63 : decode cX6_init 63 = .ok (.aload_n 0, 1) := by decide +kernel
theorem dX6_init_64 : decode cX6_init 64 = .ok (.getfield 37, 3) := by decide +kernel
theorem dX6_init_67 : decode cX6_init 67 = .ok (.invokespecial 43, 3) := by decide +kernel
theorem dX6_init_70 : decode cX6_init 70 = .ok (.putfield 46, 3) := by decide +kernel
theorem dX6_init_73 : decode cX6_init 73 = .ok (.aload_n 0, 1) := by decide +kernel
theorem dX6_init_74 : decode cX6_init 74 = .ok (.iload_n 2, 1) := by decide +kernel
theorem dX6_init_75 : decode cX6_init 75 = .ok (.newarray .long, 2) := by decide +kernel
theorem dX6_init_77 : decode cX6_init 77 = .ok (.putfield 50, 3) := by decide +kernel
theorem dX6_init_80 : decode cX6_init 80 = .ok (.return_, 1) := by decide +kernel
theorem dX6_value_0 : decode cX6_value 0 = .ok (.aload_n 0, 1) := by decide +kernel
theorem dX6_value_1 : decode cX6_value 1 = .ok (.getfield 23, 3) := by decide +kernel
theorem dX6_value_4 : decode cX6_value 4 = .ok (.iload_n 1, 1) := by decide +kernel
theorem dX6_value_5 : decode cX6_value 5 = .ok (.invokevirtual 54, 3) := by decide +kernel
theorem dX6_value_8 : decode cX6_value 8 = .ok (.ifCond .ne 6, 3) := by decide +kernel
theorem dX6_value_11 : decode cX6_value 11 = .ok (.bipush (-3), 2) := by decide +kernel
theorem dX6_value_13 : decode cX6_value 13 = .ok (.ireturn, 1) := by decide +kernel
theorem dX6_value_14 : decode cX6_value 14 = .ok (.aload_n 0, 1) := by decide +kernel
theorem dX6_value_15 : decode cX6_value 15 = .ok (.getfield 23, 3) := by decide +kernel
theorem dX6_value_18 : decode cX6_value 18 = .ok (.getfield 58, 3) := by decide +kernel
theorem dX6_value_21 : decode cX6_value 21 = .ok (.iload_n 1, 1) := by decide +kernel
theorem dX6_value_22 : decode cX6_value 22 = .ok (.lload_n 2, 1) := by decide +kernel
theorem dX6_value_23 : decode cX6_value 23 = .ok (.lastore, 1) := by decide +kernel
theorem dX6_value_24 : decode cX6_value 24 = .ok (.iconst 1, 1) := by decide +kernel
theorem dX6_value_25 : decode cX6_value 25 = .ok (.ireturn, 1) := by decide +kernel
theorem dX6_steps_0 : decode cX6_steps 0 = .ok (.aload_n 0, 1) := by decide +kernel
theorem dX6_steps_1 : decode cX6_steps 1 = .ok (.getfield 23, 3) := by decide +kernel
theorem dX6_steps_4 : decode cX6_steps 4 = .ok (.iload_n 1, 1) := by decide +kernel
theorem dX6_steps_5 : decode cX6_steps 5 = .ok (.invokevirtual 54, 3) := by decide +kernel
theorem dX6_steps_8 : decode cX6_steps 8 = .ok (.ifCond .eq 14, 3) := by decide +kernel
theorem dX6_steps_11 : decode cX6_steps 11 = .ok (.iload_n 2, 1) := by decide +kernel
theorem dX6_steps_12 : decode cX6_steps 12 = .ok (.iconst 1, 1) := by decide +kernel
theorem dX6_steps_13 : decode cX6_steps 13 = .ok (.if_icmp .lt 9, 3) := by decide +kernel
theorem dX6_steps_16 : decode cX6_steps 16 = .ok (.iload_n 2, 1) := by decide +kernel
theorem dX6_steps_17 : decode cX6_steps 17 = .ok (.bipush 20, 2) := by decide +kernel
theorem dX6_steps_19 : decode cX6_steps 19 = .ok (.if_icmp .le 6, 3) := by decide +kernel
theorem dX6_steps_22 : decode cX6_steps 22 = .ok (.bipush (-3), 2) := by decide +kernel
theorem dX6_steps_24 : decode cX6_steps 24 = .ok (.ireturn, 1) := by decide +kernel
theorem dX6_steps_25 : decode cX6_steps 25 = .ok (.aload_n 0, 1) := by decide +kernel
theorem dX6_steps_26 : decode cX6_steps 26 = .ok (.getfield 23, 3) := by decide +kernel
theorem dX6_steps_29 : decode cX6_steps 29 = .ok (.getfield 61, 3) := by decide +kernel
theorem dX6_steps_32 : decode cX6_steps 32 = .ok (.iload_n 1, 1) := by decide +kernel
theorem dX6_steps_33 : decode cX6_steps 33 = .ok (.iaload, 1) := by decide +kernel
theorem dX6_steps_34 : decode cX6_steps 34 = .ok (.istore_n 3, 1) := by decide +kernel
theorem dX6_steps_35 : decode cX6_steps 35 = .ok (.aload_n 0, 1) := by decide +kernel
theorem dX6_steps_36 : decode cX6_steps 36 = .ok (.getfield 23, 3) := by decide +kernel
theorem dX6_steps_39 : decode cX6_steps 39 = .ok (.getfield 61, 3) := by decide +kernel
theorem dX6_steps_42 : decode cX6_steps 42 = .ok (.iload_n 1, 1) := by decide +kernel
theorem dX6_steps_43 : decode cX6_steps 43 = .ok (.iload_n 2, 1) := by decide +kernel
theorem dX6_steps_44 : decode cX6_steps 44 = .ok (.iastore, 1) := by decide +kernel
theorem dX6_steps_45 : decode cX6_steps 45 = .ok (.iload_n 3, 1) := by decide +kernel
theorem dX6_steps_46 : decode cX6_steps 46 = .ok (.ireturn, 1) := by decide +kernel
theorem dX6_touch_0 : decode cX6_touch 0 = .ok (.aload_n 0, 1) := by decide +kernel
theorem dX6_touch_1 : decode cX6_touch 1 = .ok (.getfield 23, 3) := by decide +kernel
theorem dX6_touch_4 : decode cX6_touch 4 = .ok (.iload_n 1, 1) := by decide +kernel
theorem dX6_touch_5 : decode cX6_touch 5 = .ok (.invokevirtual 54, 3) := by decide +kernel
theorem dX6_touch_8 : decode cX6_touch 8 = .ok (.ifCond .eq 13, 3) := by decide +kernel
theorem dX6_touch_11 : decode cX6_touch 11 = .ok (.iload_n 2, 1) := by decide +kernel
theorem dX6_touch_12 : decode cX6_touch 12 = .ok (.ifCond .lt 9, 3) := by decide +kernel
theorem dX6_touch_15 : decode cX6_touch 15 = .ok (.iload_n 2, 1) := by decide +kernel
theorem dX6_touch_16 : decode cX6_touch 16 = .ok (.bipush 16, 2) := by decide +kernel
theorem dX6_touch_18 : decode cX6_touch 18 = .ok (.if_icmp .lt 6, 3) := by decide +kernel
theorem dX6_touch_21 : decode cX6_touch 21 = .ok (.bipush (-3), 2) := by decide +kernel
theorem dX6_touch_23 : decode cX6_touch 23 = .ok (.ireturn, 1) := by decide +kernel
theorem dX6_touch_24 : decode cX6_touch 24 = .ok (.iconst 1, 1) := by decide +kernel
theorem dX6_touch_25 : decode cX6_touch 25 = .ok (.iload_n 2, 1) := by decide +kernel
theorem dX6_touch_26 : decode cX6_touch 26 = .ok (.ishl, 1) := by decide +kernel
theorem dX6_touch_27 : decode cX6_touch 27 = .ok (.istore_n 3, 1) := by decide +kernel
theorem dX6_touch_28 : decode cX6_touch 28 = .ok (.aload_n 0, 1) := by decide +kernel
theorem dX6_touch_29 : decode cX6_touch 29 = .ok (.getfield 23, 3) := by decide +kernel
theorem dX6_touch_32 : decode cX6_touch 32 = .ok (.getfield 65, 3) := by decide +kernel
theorem dX6_touch_35 : decode cX6_touch 35 = .ok (.iload_n 1, 1) := by decide +kernel
theorem dX6_touch_36 : decode cX6_touch 36 = .ok (.iaload, 1) := by decide +kernel
theorem dX6_touch_37 : decode cX6_touch 37 = .ok (.iload_n 3, 1) := by decide +kernel
theorem dX6_touch_38 : decode cX6_touch 38 = .ok (.iand, 1) := by decide +kernel
theorem dX6_touch_39 : decode cX6_touch 39 = .ok (.ifCond .eq 5, 3) := by decide +kernel
theorem dX6_touch_42 : decode cX6_touch 42 = .ok (.iconst 0, 1) := by decide +kernel
theorem dX6_touch_43 : decode cX6_touch 43 = .ok (.ireturn, 1) := by decide +kernel
theorem dX6_touch_44 : decode cX6_touch 44 = .ok (.aload_n 0, 1) := by decide +kernel
theorem dX6_touch_45 : decode cX6_touch 45 = .ok (.getfield 23, 3) := by decide +kernel
theorem dX6_touch_48 : decode cX6_touch 48 = .ok (.getfield 65, 3) := by decide +kernel
theorem dX6_touch_51 : decode cX6_touch 51 = .ok (.iload_n 1, 1) := by decide +kernel
theorem dX6_touch_52 : decode cX6_touch 52 = .ok (.dup2, 1) := by decide +kernel
theorem dX6_touch_53 : decode cX6_touch 53 = .ok (.iaload, 1) := by decide +kernel
theorem dX6_touch_54 : decode cX6_touch 54 = .ok (.iload_n 3, 1) := by decide +kernel
theorem dX6_touch_55 : decode cX6_touch 55 = .ok (.ior, 1) := by decide +kernel
theorem dX6_touch_56 : decode cX6_touch 56 = .ok (.iastore, 1) := by decide +kernel
theorem dX6_touch_57 : decode cX6_touch 57 = .ok (.iconst 1, 1) := by decide +kernel
theorem dX6_touch_58 : decode cX6_touch 58 = .ok (.ireturn, 1) := by decide +kernel
theorem dX6_leave_0 : decode cX6_leave 0 = .ok (.aload_n 0, 1) := by decide +kernel
theorem dX6_leave_1 : decode cX6_leave 1 = .ok (.getfield 23, 3) := by decide +kernel
theorem dX6_leave_4 : decode cX6_leave 4 = .ok (.iload_n 1, 1) := by decide +kernel
theorem dX6_leave_5 : decode cX6_leave 5 = .ok (.invokevirtual 54, 3) := by decide +kernel
theorem dX6_leave_8 : decode cX6_leave 8 = .ok (.ifCond .ne 6, 3) := by decide +kernel
theorem dX6_leave_11 : decode cX6_leave 11 = .ok (.bipush (-3), 2) := by decide +kernel
theorem dX6_leave_13 : decode cX6_leave 13 = .ok (.ireturn, 1) := by decide +kernel
theorem dX6_leave_14 : decode cX6_leave 14 = .ok (.aload_n 0, 1) := by decide +kernel
theorem dX6_leave_15 : decode cX6_leave 15 = .ok (.getfield 23, 3) := by decide +kernel
theorem dX6_leave_18 : decode cX6_leave 18 = .ok (.getfield 68, 3) := by decide +kernel
theorem dX6_leave_21 : decode cX6_leave 21 = .ok (.iload_n 1, 1) := by decide +kernel
theorem dX6_leave_22 : decode cX6_leave 22 = .ok (.baload, 1) := by decide +kernel
theorem dX6_leave_23 : decode cX6_leave 23 = .ok (.iload_n 2, 1) := by decide +kernel
theorem dX6_leave_24 : decode cX6_leave 24 = .ok (.if_icmp .ne 5, 3) := by decide +kernel
theorem dX6_leave_27 : decode cX6_leave 27 = .ok (.iconst 0, 1) := by decide +kernel
theorem dX6_leave_28 : decode cX6_leave 28 = .ok (.ireturn, 1) := by decide +kernel
theorem dX6_leave_29 : decode cX6_leave 29 = .ok (.aload_n 0, 1) := by decide +kernel
theorem dX6_leave_30 : decode cX6_leave 30 = .ok (.getfield 23, 3) := by decide +kernel
theorem dX6_leave_33 : decode cX6_leave 33 = .ok (.getfield 68, 3) := by decide +kernel
theorem dX6_leave_36 : decode cX6_leave 36 = .ok (.iload_n 1, 1) := by decide +kernel
theorem dX6_leave_37 : decode cX6_leave 37 = .ok (.iload_n 2, 1) := by decide +kernel
theorem dX6_leave_38 : decode cX6_leave 38 = .ok (.bastore, 1) := by decide +kernel
theorem dX6_leave_39 : decode cX6_leave 39 = .ok (.iconst 1, 1) := by decide +kernel
theorem dX6_leave_40 : decode cX6_leave 40 = .ok (.ireturn, 1) := by decide +kernel
theorem dX6_batches_0 : decode cX6_batches 0 = .ok (.aload_n 0, 1) := by decide +kernel
theorem dX6_batches_1 : decode cX6_batches 1 = .ok (.getfield 30, 3) := by decide +kernel
theorem dX6_batches_4 : decode cX6_batches 4 = .ok (.aload_n 0, 1) := by decide +kernel
theorem dX6_batches_5 : decode cX6_batches 5 = .ok (.getfield 23, 3) := by decide +kernel
theorem dX6_batches_8 : decode cX6_batches 8 = .ok (.invokevirtual 72, 3) := by decide +kernel
theorem dX6_batches_11 : decode cX6_batches 11 = .ok (.aload_n 0, 1) := by decide +kernel
theorem dX6_batches_12 : decode cX6_batches 12 = .ok (.getfield 30, 3) := by decide +kernel
theorem dX6_batches_15 : decode cX6_batches 15 = .ok (.getfield 76, 3) := by decide +kernel
theorem dX6_batches_18 : decode cX6_batches 18 = .ok (.ireturn, 1) := by decide +kernel
theorem dX6_batch_0 : decode cX6_batch 0 = .ok (.aload_n 0, 1) := by decide +kernel
theorem dX6_batch_1 : decode cX6_batch 1 = .ok (.getfield 23, 3) := by decide +kernel
theorem dX6_batch_4 : decode cX6_batch 4 = .ok (.iload_n 1, 1) := by decide +kernel
theorem dX6_batch_5 : decode cX6_batch 5 = .ok (.invokevirtual 54, 3) := by decide +kernel
theorem dX6_batch_8 : decode cX6_batch 8 = .ok (.ifCond .ne 6, 3) := by decide +kernel
theorem dX6_batch_11 : decode cX6_batch 11 = .ok (.bipush (-3), 2) := by decide +kernel
theorem dX6_batch_13 : decode cX6_batch 13 = .ok (.ireturn, 1) := by decide +kernel
theorem dX6_batch_14 : decode cX6_batch 14 = .ok (.aload_n 0, 1) := by decide +kernel
theorem dX6_batch_15 : decode cX6_batch 15 = .ok (.getfield 30, 3) := by decide +kernel
theorem dX6_batch_18 : decode cX6_batch 18 = .ok (.aload_n 0, 1) := by decide +kernel
theorem dX6_batch_19 : decode cX6_batch 19 = .ok (.getfield 23, 3) := by decide +kernel
theorem dX6_batch_22 : decode cX6_batch 22 = .ok (.invokevirtual 72, 3) := by decide +kernel
theorem dX6_batch_25 : decode cX6_batch 25 = .ok (.aload_n 0, 1) := by decide +kernel
theorem dX6_batch_26 : decode cX6_batch 26 = .ok (.getfield 30, 3) := by decide +kernel
theorem dX6_batch_29 : decode cX6_batch 29 = .ok (.getfield 80, 3) := by decide +kernel
theorem dX6_batch_32 : decode cX6_batch 32 = .ok (.iload_n 1, 1) := by decide +kernel
theorem dX6_batch_33 : decode cX6_batch 33 = .ok (.iaload, 1) := by decide +kernel
theorem dX6_batch_34 : decode cX6_batch 34 = .ok (.ireturn, 1) := by decide +kernel
theorem dX6_fail_0 : decode cX6_fail 0 = .ok (.iload_n 1, 1) := by decide +kernel
theorem dX6_fail_1 : decode cX6_fail 1 = .ok (.ifCond .lt 20, 3) := by decide +kernel
theorem dX6_fail_4 : decode cX6_fail 4 = .ok (.iload_n 1, 1) := by decide +kernel
theorem dX6_fail_5 : decode cX6_fail 5 = .ok (.bipush 16, 2) := by decide +kernel
theorem dX6_fail_7 : decode cX6_fail 7 = .ok (.if_icmp .ge 14, 3) := by decide +kernel
theorem dX6_fail_10 : decode cX6_fail 10 = .ok (.aload_n 0, 1) := by decide +kernel
theorem dX6_fail_11 : decode cX6_fail 11 = .ok (.getfield 23, 3) := by decide +kernel
theorem dX6_fail_14 : decode cX6_fail 14 = .ok (.iload_n 2, 1) := by decide +kernel
theorem dX6_fail_15 : decode cX6_fail 15 = .ok (.invokevirtual 54, 3) := by decide +kernel
theorem dX6_fail_18 : decode cX6_fail 18 = .ok (.ifCond .ne 6, 3) := by decide +kernel
theorem dX6_fail_21 : decode cX6_fail 21 = .ok (.bipush (-3), 2) := by decide +kernel
theorem dX6_fail_23 : decode cX6_fail 23 = .ok (.ireturn, 1) := by decide +kernel
theorem dX6_fail_24 : decode cX6_fail 24 = .ok (.aload_n 0, 1) := by decide +kernel
theorem dX6_fail_25 : decode cX6_fail 25 = .ok (.getfield 37, 3) := by decide +kernel
theorem dX6_fail_28 : decode cX6_fail 28 = .ok (.iload_n 1, 1) := by decide +kernel
theorem dX6_fail_29 : decode cX6_fail 29 = .ok (.iload_n 2, 1) := by decide +kernel
theorem dX6_fail_30 : decode cX6_fail 30 = .ok (.invokevirtual 83, 3) := by decide +kernel
theorem dX6_fail_33 : decode cX6_fail 33 = .ok (.ifCond .eq 5, 3) := by decide +kernel
theorem dX6_fail_36 : decode cX6_fail 36 = .ok (.iconst 0, 1) := by decide +kernel
theorem dX6_fail_37 : decode cX6_fail 37 = .ok (.ireturn, 1) := by decide +kernel
theorem dX6_fail_38 : decode cX6_fail 38 = .ok (.aload_n 0, 1) := by decide +kernel
theorem dX6_fail_39 : decode cX6_fail 39 = .ok (.getfield 37, 3) := by decide +kernel
theorem dX6_fail_42 : decode cX6_fail 42 = .ok (.getfield 86, 3) := by decide +kernel
theorem dX6_fail_45 : decode cX6_fail 45 = .ok (.bipush 20, 2) := by decide +kernel
theorem dX6_fail_47 : decode cX6_fail 47 = .ok (.if_icmp .lt 6, 3) := by decide +kernel
theorem dX6_fail_50 : decode cX6_fail 50 = .ok (.bipush (-4), 2) := by decide +kernel
theorem dX6_fail_52 : decode cX6_fail 52 = .ok (.ireturn, 1) := by decide +kernel
theorem dX6_fail_53 : decode cX6_fail 53 = .ok (.aload_n 0, 1) := by decide +kernel
theorem dX6_fail_54 : decode cX6_fail 54 = .ok (.getfield 37, 3) := by decide +kernel
theorem dX6_fail_57 : decode cX6_fail 57 = .ok (.iload_n 1, 1) := by decide +kernel
theorem dX6_fail_58 : decode cX6_fail 58 = .ok (.iload_n 2, 1) := by decide +kernel
theorem dX6_fail_59 : decode cX6_fail 59 = .ok (.invokevirtual 87, 3) := by decide +kernel
theorem dX6_fail_62 : decode cX6_fail 62 = .ok (.aload_n 0, 1) := by decide +kernel
theorem dX6_fail_63 : decode cX6_fail 63 = .ok (.getfield 37, 3) := by decide +kernel
theorem dX6_fail_66 : decode cX6_fail 66 = .ok (.getfield 86, 3) := by decide +kernel
theorem dX6_fail_69 : decode cX6_fail 69 = .ok (.ireturn, 1) := by decide +kernel
theorem dX6_run_0 : decode cX6_run 0 = .ok (.iload_n 1, 1) := by decide +kernel
theorem dX6_run_1 : decode cX6_run 1 = .ok (.iconst 1, 1) := by decide +kernel
theorem dX6_run_2 : decode cX6_run 2 = .ok (.if_icmp .lt 9, 3) := by decide +kernel
theorem dX6_run_5 : decode cX6_run 5 = .ok (.iload_n 1, 1) := by decide +kernel
theorem dX6_run_6 : decode cX6_run 6 = .ok (.bipush 16, 2) := by decide +kernel
theorem dX6_run_8 : decode cX6_run 8 = .ok (.if_icmp .le 6, 3) := by decide +kernel
theorem dX6_run_11 : decode cX6_run 11 = .ok (.bipush (-3), 2) := by decide +kernel
theorem dX6_run_13 : decode cX6_run 13 = .ok (.ireturn, 1) := by decide +kernel
theorem dX6_run_14 : decode cX6_run 14 = .ok (.aload_n 0, 1) := by decide +kernel
theorem dX6_run_15 : decode cX6_run 15 = .ok (.getfield 46, 3) := by decide +kernel
theorem dX6_run_18 : decode cX6_run 18 = .ok (.iload_n 1, 1) := by decide +kernel
theorem dX6_run_19 : decode cX6_run 19 = .ok (.lload_n 2, 1) := by decide +kernel
theorem dX6_run_20 : decode cX6_run 20 = .ok (.invokevirtual 91, 3) := by decide +kernel
theorem dX6_run_23 : decode cX6_run 23 = .ok (.istore 4, 2) := by decide +kernel
theorem dX6_run_25 : decode cX6_run 25 = .ok (.iload 4, 2) := by decide +kernel
theorem dX6_run_27 : decode cX6_run 27 = .ok (.ifCond .ne 7, 3) := by decide +kernel
theorem dX6_run_30 : decode cX6_run 30 = .ok (.aload_n 0, 1) := by decide +kernel
theorem dX6_run_31 : decode cX6_run 31 = .ok (.invokevirtual 95, 3) := by decide +kernel
theorem dX6_run_34 : decode cX6_run 34 = .ok (.iload 4, 2) := by decide +kernel
theorem dX6_run_36 : decode cX6_run 36 = .ok (.ireturn, 1) := by decide +kernel
theorem dX6_told_0 : decode cX6_told 0 = .ok (.iload_n 1, 1) := by decide +kernel
theorem dX6_told_1 : decode cX6_told 1 = .ok (.bipush 6, 2) := by decide +kernel
theorem dX6_told_3 : decode cX6_told 3 = .ok (.if_icmp .ne 13, 3) := by decide +kernel
theorem dX6_told_6 : decode cX6_told 6 = .ok (.aload_n 0, 1) := by decide +kernel
theorem dX6_told_7 : decode cX6_told 7 = .ok (.getfield 37, 3) := by decide +kernel
theorem dX6_told_10 : decode cX6_told 10 = .ok (.getfield 86, 3) := by decide +kernel
theorem dX6_told_13 : decode cX6_told 13 = .ok (.goto 11, 3) := by decide +kernel
theorem dX6_told_16 : decode cX6_told 16 = .ok (.aload_n 0, 1) := by decide +kernel
theorem dX6_told_17 : decode cX6_told 17 = .ok (.getfield 46, 3) := by decide +kernel
theorem dX6_told_20 : decode cX6_told 20 = .ok (.iload_n 1, 1) := by decide +kernel
theorem dX6_told_21 : decode cX6_told 21 = .ok (.invokevirtual 98, 3) := by decide +kernel
theorem dX6_told_24 : decode cX6_told 24 = .ok (.ireturn, 1) := by decide +kernel
theorem dX6_times_0 : decode cX6_times 0 = .ok (.aload_n 0, 1) := by decide +kernel
theorem dX6_times_1 : decode cX6_times 1 = .ok (.getfield 23, 3) := by decide +kernel
theorem dX6_times_4 : decode cX6_times 4 = .ok (.iload_n 1, 1) := by decide +kernel
theorem dX6_times_5 : decode cX6_times 5 = .ok (.invokevirtual 54, 3) := by decide +kernel
theorem dX6_times_8 : decode cX6_times 8 = .ok (.ifCond .eq 15, 3) := by decide +kernel
theorem dX6_times_11 : decode cX6_times 11 = .ok (.aload_n 0, 1) := by decide +kernel
theorem dX6_times_12 : decode cX6_times 12 = .ok (.getfield 46, 3) := by decide +kernel
theorem dX6_times_15 : decode cX6_times 15 = .ok (.getfield 102, 3) := by decide +kernel
theorem dX6_times_18 : decode cX6_times 18 = .ok (.iload_n 1, 1) := by decide +kernel
theorem dX6_times_19 : decode cX6_times 19 = .ok (.iaload, 1) := by decide +kernel
theorem dX6_times_20 : decode cX6_times 20 = .ok (.goto 5, 3) := by decide +kernel
theorem dX6_times_23 : decode cX6_times 23 = .ok (.bipush (-3), 2) := by decide +kernel
theorem dX6_times_25 : decode cX6_times 25 = .ok (.ireturn, 1) := by decide +kernel
theorem dX6_doneBy_0 : decode cX6_doneBy 0 = .ok (.aload_n 0, 1) := by decide +kernel
theorem dX6_doneBy_1 : decode cX6_doneBy 1 = .ok (.getfield 23, 3) := by decide +kernel
theorem dX6_doneBy_4 : decode cX6_doneBy 4 = .ok (.iload_n 1, 1) := by decide +kernel
theorem dX6_doneBy_5 : decode cX6_doneBy 5 = .ok (.invokevirtual 54, 3) := by decide +kernel
theorem dX6_doneBy_8 : decode cX6_doneBy 8 = .ok (.ifCond .eq 15, 3) := by decide +kernel
theorem dX6_doneBy_11 : decode cX6_doneBy 11 = .ok (.aload_n 0, 1) := by decide +kernel
theorem dX6_doneBy_12 : decode cX6_doneBy 12 = .ok (.getfield 46, 3) := by decide +kernel
theorem dX6_doneBy_15 : decode cX6_doneBy 15 = .ok (.getfield 105, 3) := by decide +kernel
theorem dX6_doneBy_18 : decode cX6_doneBy 18 = .ok (.iload_n 1, 1) := by decide +kernel
theorem dX6_doneBy_19 : decode cX6_doneBy 19 = .ok (.iaload, 1) := by decide +kernel
theorem dX6_doneBy_20 : decode cX6_doneBy 20 = .ok (.goto 5, 3) := by decide +kernel
theorem dX6_doneBy_23 : decode cX6_doneBy 23 = .ok (.bipush (-3), 2) := by decide +kernel
theorem dX6_doneBy_25 : decode cX6_doneBy 25 = .ok (.ireturn, 1) := by decide +kernel
theorem dX6_result_0 : decode cX6_result 0 = .ok (.aload_n 0, 1) := by decide +kernel
theorem dX6_result_1 : decode cX6_result 1 = .ok (.getfield 23, 3) := by decide +kernel
theorem dX6_result_4 : decode cX6_result 4 = .ok (.iload_n 1, 1) := by decide +kernel
theorem dX6_result_5 : decode cX6_result 5 = .ok (.invokevirtual 54, 3) := by decide +kernel
theorem dX6_result_8 : decode cX6_result 8 = .ok (.ifCond .eq 12, 3) := by decide +kernel
theorem dX6_result_11 : decode cX6_result 11 = .ok (.aload_n 0, 1) := by decide +kernel
theorem dX6_result_12 : decode cX6_result 12 = .ok (.getfield 50, 3) := by decide +kernel
theorem dX6_result_15 : decode cX6_result 15 = .ok (.iload_n 1, 1) := by decide +kernel
theorem dX6_result_16 : decode cX6_result 16 = .ok (.laload, 1) := by decide +kernel
theorem dX6_result_17 : decode cX6_result 17 = .ok (.goto 4, 3) := by decide +kernel
theorem dX6_result_20 : decode cX6_result 20 = .ok (.lconst 0, 1) := by decide +kernel
theorem dX6_result_21 : decode cX6_result 21 = .ok (.lreturn, 1) := by decide +kernel
theorem dX6_joined_0 : decode cX6_joined 0 = .ok (.lconst 0, 1) := by decide +kernel
theorem dX6_joined_1 : decode cX6_joined 1 = .ok (.lstore_n 1, 1) := by decide +kernel
theorem dX6_joined_2 : decode cX6_joined 2 = .ok (.iconst 0, 1) := by decide +kernel
theorem dX6_joined_3 : decode cX6_joined 3 = .ok (.istore_n 3, 1) := by decide +kernel
theorem dX6_joined_4 : decode cX6_joined 4 = .ok (.iload_n 3, 1) := by decide +kernel
theorem dX6_joined_5 : decode cX6_joined 5 = .ok (.aload_n 0, 1) := by decide +kernel
theorem dX6_joined_6 : decode cX6_joined 6 = .ok (.getfield 23, 3) := by decide +kernel
theorem dX6_joined_9 : decode cX6_joined 9 = .ok (.getfield 108, 3) := by decide +kernel
theorem dX6_joined_12 : decode cX6_joined 12 = .ok (.if_icmp .ge 32, 3) := by decide +kernel
theorem dX6_joined_15 : decode cX6_joined 15 = .ok (.aload_n 0, 1) := by decide +kernel
theorem dX6_joined_16 : decode cX6_joined 16 = .ok (.getfield 23, 3) := by decide +kernel
theorem dX6_joined_19 : decode cX6_joined 19 = .ok (.getfield 68, 3) := by decide +kernel
theorem dX6_joined_22 : decode cX6_joined 22 = .ok (.iload_n 3, 1) := by decide +kernel
theorem dX6_joined_23 : decode cX6_joined 23 = .ok (.baload, 1) := by decide +kernel
theorem dX6_joined_24 : decode cX6_joined 24 = .ok (.ifCond .ne 14, 3) := by decide +kernel
theorem dX6_joined_27 : decode cX6_joined 27 = .ok (.lload_n 1, 1) := by decide +kernel
theorem dX6_joined_28 : decode cX6_joined 28 = .ok (.aload_n 0, 1) := by decide +kernel
theorem dX6_joined_29 : decode cX6_joined 29 = .ok (.getfield 50, 3) := by decide +kernel
theorem dX6_joined_32 : decode cX6_joined 32 = .ok (.iload_n 3, 1) := by decide +kernel
theorem dX6_joined_33 : decode cX6_joined 33 = .ok (.laload, 1) := by decide +kernel
theorem dX6_joined_34 : decode cX6_joined 34 = .ok (.invokestatic 109, 3) := by decide +kernel
theorem dX6_joined_37 : decode cX6_joined 37 = .ok (.lstore_n 1, 1) := by decide +kernel
theorem dX6_joined_38 : decode cX6_joined 38 = .ok (.iinc 3 1, 3) := by decide +kernel
theorem dX6_joined_41 : decode cX6_joined 41 = .ok (.goto (-37), 3) := by decide +kernel
theorem dX6_joined_44 : decode cX6_joined 44 = .ok (.lload_n 1, 1) := by decide +kernel
theorem dX6_joined_45 : decode cX6_joined 45 = .ok (.lreturn, 1) := by decide +kernel
theorem dX6_plain_0 : decode cX6_plain 0 = .ok (.lconst 0, 1) := by decide +kernel
theorem dX6_plain_1 : decode cX6_plain 1 = .ok (.lstore_n 1, 1) := by decide +kernel
theorem dX6_plain_2 : decode cX6_plain 2 = .ok (.iconst 0, 1) := by decide +kernel
theorem dX6_plain_3 : decode cX6_plain 3 = .ok (.istore_n 3, 1) := by decide +kernel
theorem dX6_plain_4 : decode cX6_plain 4 = .ok (.iload_n 3, 1) := by decide +kernel
theorem dX6_plain_5 : decode cX6_plain 5 = .ok (.aload_n 0, 1) := by decide +kernel
theorem dX6_plain_6 : decode cX6_plain 6 = .ok (.getfield 23, 3) := by decide +kernel
theorem dX6_plain_9 : decode cX6_plain 9 = .ok (.getfield 108, 3) := by decide +kernel
theorem dX6_plain_12 : decode cX6_plain 12 = .ok (.if_icmp .ge 34, 3) := by decide +kernel
theorem dX6_plain_15 : decode cX6_plain 15 = .ok (.aload_n 0, 1) := by decide +kernel
theorem dX6_plain_16 : decode cX6_plain 16 = .ok (.getfield 23, 3) := by decide +kernel
theorem dX6_plain_19 : decode cX6_plain 19 = .ok (.getfield 68, 3) := by decide +kernel
theorem dX6_plain_22 : decode cX6_plain 22 = .ok (.iload_n 3, 1) := by decide +kernel
theorem dX6_plain_23 : decode cX6_plain 23 = .ok (.baload, 1) := by decide +kernel
theorem dX6_plain_24 : decode cX6_plain 24 = .ok (.ifCond .ne 16, 3) := by decide +kernel
theorem dX6_plain_27 : decode cX6_plain 27 = .ok (.lload_n 1, 1) := by decide +kernel
theorem dX6_plain_28 : decode cX6_plain 28 = .ok (.aload_n 0, 1) := by decide +kernel
theorem dX6_plain_29 : decode cX6_plain 29 = .ok (.getfield 23, 3) := by decide +kernel
theorem dX6_plain_32 : decode cX6_plain 32 = .ok (.iload_n 3, 1) := by decide +kernel
theorem dX6_plain_33 : decode cX6_plain 33 = .ok (.invokevirtual 113, 3) := by decide +kernel
theorem dX6_plain_36 : decode cX6_plain 36 = .ok (.invokestatic 109, 3) := by decide +kernel
theorem dX6_plain_39 : decode cX6_plain 39 = .ok (.lstore_n 1, 1) := by decide +kernel
theorem dX6_plain_40 : decode cX6_plain 40 = .ok (.iinc 3 1, 3) := by decide +kernel
theorem dX6_plain_43 : decode cX6_plain 43 = .ok (.goto (-39), 3) := by decide +kernel
theorem dX6_plain_46 : decode cX6_plain 46 = .ok (.lload_n 1, 1) := by decide +kernel
theorem dX6_plain_47 : decode cX6_plain 47 = .ok (.lreturn, 1) := by decide +kernel
theorem dX6_clear_0 : decode cX6_clear 0 = .ok (.aload_n 0, 1) := by decide +kernel
theorem dX6_clear_1 : decode cX6_clear 1 = .ok (.getfield 23, 3) := by decide +kernel
theorem dX6_clear_4 : decode cX6_clear 4 = .ok (.invokevirtual 117, 3) := by decide +kernel
theorem dX6_clear_7 : decode cX6_clear 7 = .ok (.aload_n 0, 1) := by decide +kernel
theorem dX6_clear_8 : decode cX6_clear 8 = .ok (.getfield 37, 3) := by decide +kernel
theorem dX6_clear_11 : decode cX6_clear 11 = .ok (.invokevirtual 120, 3) := by decide +kernel
theorem dX6_clear_14 : decode cX6_clear 14 = .ok (.aload_n 0, 1) := by decide +kernel
theorem dX6_clear_15 : decode cX6_clear 15 = .ok (.getfield 46, 3) := by decide +kernel
theorem dX6_clear_18 : decode cX6_clear 18 = .ok (.invokevirtual 121, 3) := by decide +kernel
theorem dX6_clear_21 : decode cX6_clear 21 = .ok (.iconst 0, 1) := by decide +kernel
theorem dX6_clear_22 : decode cX6_clear 22 = .ok (.istore_n 1, 1) := by decide +kernel
theorem dX6_clear_23 : decode cX6_clear 23 = .ok (.iload_n 1, 1) := by decide +kernel
theorem dX6_clear_24 : decode cX6_clear 24 = .ok (.aload_n 0, 1) := by decide +kernel
theorem dX6_clear_25 : decode cX6_clear 25 = .ok (.getfield 23, 3) := by decide +kernel
theorem dX6_clear_28 : decode cX6_clear 28 = .ok (.getfield 108, 3) := by decide +kernel
theorem dX6_clear_31 : decode cX6_clear 31 = .ok (.if_icmp .ge 16, 3) := by decide +kernel
theorem dX6_clear_34 : decode cX6_clear 34 = .ok (.aload_n 0, 1) := by decide +kernel
theorem dX6_clear_35 : decode cX6_clear 35 = .ok (.getfield 50, 3) := by decide +kernel
theorem dX6_clear_38 : decode cX6_clear 38 = .ok (.iload_n 1, 1) := by decide +kernel
theorem dX6_clear_39 : decode cX6_clear 39 = .ok (.lconst 0, 1) := by decide +kernel
theorem dX6_clear_40 : decode cX6_clear 40 = .ok (.lastore, 1) := by decide +kernel
theorem dX6_clear_41 : decode cX6_clear 41 = .ok (.iinc 1 1, 3) := by decide +kernel
theorem dX6_clear_44 : decode cX6_clear 44 = .ok (.goto (-21), 3) := by decide +kernel
theorem dX6_clear_47 : decode cX6_clear 47 = .ok (.return_, 1) := by decide +kernel
theorem dX6_keepOutcomes_0 : decode cX6_keepOutcomes 0 = .ok (.iconst 0, 1) := by decide +kernel
theorem dX6_keepOutcomes_1 : decode cX6_keepOutcomes 1 = .ok (.istore_n 1, 1) := by decide +kernel
theorem dX6_keepOutcomes_2 : decode cX6_keepOutcomes 2 = .ok (.iload_n 1, 1) := by decide +kernel
theorem dX6_keepOutcomes_3 : decode cX6_keepOutcomes 3 = .ok (.aload_n 0, 1) := by decide +kernel
theorem dX6_keepOutcomes_4 : decode cX6_keepOutcomes 4 = .ok (.getfield 23, 3) := by decide +kernel
theorem dX6_keepOutcomes_7 : decode cX6_keepOutcomes 7 = .ok (.getfield 108, 3) := by decide +kernel
theorem dX6_keepOutcomes_10 : decode cX6_keepOutcomes 10 = .ok (.if_icmp .ge 36, 3) := by decide +kernel
theorem dX6_keepOutcomes_13 : decode cX6_keepOutcomes 13 = .ok (.aload_n 0, 1) := by decide +kernel
theorem dX6_keepOutcomes_14 : decode cX6_keepOutcomes 14 = .ok (.getfield 23, 3) := by decide +kernel
theorem dX6_keepOutcomes_17 : decode cX6_keepOutcomes 17 = .ok (.getfield 68, 3) := by decide +kernel
theorem dX6_keepOutcomes_20 : decode cX6_keepOutcomes 20 = .ok (.iload_n 1, 1) := by decide +kernel
theorem dX6_keepOutcomes_21 : decode cX6_keepOutcomes 21 = .ok (.baload, 1) := by decide +kernel
theorem dX6_keepOutcomes_22 : decode cX6_keepOutcomes 22 = .ok (.ifCond .ne 18, 3) := by decide +kernel
theorem dX6_keepOutcomes_25 : decode cX6_keepOutcomes 25 = .ok (.aload_n 0, 1) := by decide +kernel
theorem dX6_keepOutcomes_26 : decode cX6_keepOutcomes 26 = .ok (.getfield 50, 3) := by decide +kernel
theorem dX6_keepOutcomes_29 : decode cX6_keepOutcomes 29 = .ok (.iload_n 1, 1) := by decide +kernel
theorem dX6_keepOutcomes_30 : decode cX6_keepOutcomes 30 = .ok (.aload_n 0, 1) := by decide +kernel
theorem dX6_keepOutcomes_31 : decode cX6_keepOutcomes 31 = .ok (.getfield 46, 3) := by decide +kernel
theorem dX6_keepOutcomes_34 : decode cX6_keepOutcomes 34 = .ok (.getfield 122, 3) := by decide +kernel
theorem dX6_keepOutcomes_37 : decode cX6_keepOutcomes 37 = .ok (.iload_n 1, 1) := by decide +kernel
theorem dX6_keepOutcomes_38 : decode cX6_keepOutcomes 38 = .ok (.laload, 1) := by decide +kernel
theorem dX6_keepOutcomes_39 : decode cX6_keepOutcomes 39 = .ok (.lastore, 1) := by decide +kernel
theorem dX6_keepOutcomes_40 : decode cX6_keepOutcomes 40 = .ok (.iinc 1 1, 3) := by decide +kernel
theorem dX6_keepOutcomes_43 : decode cX6_keepOutcomes 43 = .ok (.goto (-41), 3) := by decide +kernel
theorem dX6_keepOutcomes_46 : decode cX6_keepOutcomes 46 = .ok (.return_, 1) := by decide +kernel
theorem dX6_joinOne_0 : decode cX6_joinOne 0 = .ok (.lload_n 0, 1) := by decide +kernel
theorem dX6_joinOne_1 : decode cX6_joinOne 1 = .ok (.iconst 5, 1) := by decide +kernel
theorem dX6_joinOne_2 : decode cX6_joinOne 2 = .ok (.invokestatic 125, 3) := by decide +kernel
theorem dX6_joinOne_5 : decode cX6_joinOne 5 = .ok (.lload_n 2, 1) := by decide +kernel
theorem dX6_joinOne_6 : decode cX6_joinOne 6 = .ok (.lxor, 1) := by decide +kernel
theorem dX6_joinOne_7 : decode cX6_joinOne 7 = .ok (.lreturn, 1) := by decide +kernel
theorem dX6_makeStep_0 : decode cX6_makeStep 0 = .ok (.lload_n 0, 1) := by decide +kernel
theorem dX6_makeStep_1 : decode cX6_makeStep 1 = .ok (.bipush 7, 2) := by decide +kernel
theorem dX6_makeStep_3 : decode cX6_makeStep 3 = .ok (.invokestatic 125, 3) := by decide +kernel
theorem dX6_makeStep_6 : decode cX6_makeStep 6 = .ok (.lload_n 2, 1) := by decide +kernel
theorem dX6_makeStep_7 : decode cX6_makeStep 7 = .ok (.lxor, 1) := by decide +kernel
theorem dX6_makeStep_8 : decode cX6_makeStep 8 = .ok (.ldc2_w 131, 3) := by decide +kernel
theorem dX6_makeStep_11 : decode cX6_makeStep 11 = .ok (.lmul, 1) := by decide +kernel
theorem dX6_makeStep_12 : decode cX6_makeStep 12 = .ok (.iload 4, 2) := by decide +kernel
theorem dX6_makeStep_14 : decode cX6_makeStep 14 = .ok (.i2l, 1) := by decide +kernel
theorem dX6_makeStep_15 : decode cX6_makeStep 15 = .ok (.ladd, 1) := by decide +kernel
theorem dX6_makeStep_16 : decode cX6_makeStep 16 = .ok (.lreturn, 1) := by decide +kernel
theorem dJ13_rotateLeft_b2ac5_0 : decode cJ13_rotateLeft_b2ac5 0 = .ok (.lload_n 0, 1) := by decide +kernel
theorem dJ13_rotateLeft_b2ac5_1 : decode cJ13_rotateLeft_b2ac5 1 = .ok (.iload_n 2, 1) := by decide +kernel
theorem dJ13_rotateLeft_b2ac5_2 : decode cJ13_rotateLeft_b2ac5 2 = .ok (.lshl, 1) := by decide +kernel
theorem dJ13_rotateLeft_b2ac5_3 : decode cJ13_rotateLeft_b2ac5 3 = .ok (.lload_n 0, 1) := by decide +kernel
theorem dJ13_rotateLeft_b2ac5_4 : decode cJ13_rotateLeft_b2ac5 4 = .ok (.iload_n 2, 1) := by decide +kernel
theorem dJ13_rotateLeft_b2ac5_5 : decode cJ13_rotateLeft_b2ac5 5 = .ok (.ineg, 1) := by decide +kernel
theorem dJ13_rotateLeft_b2ac5_6 : decode cJ13_rotateLeft_b2ac5 6 = .ok (.lushr, 1) := by decide +kernel
theorem dJ13_rotateLeft_b2ac5_7 : decode cJ13_rotateLeft_b2ac5 7 = .ok (.lor, 1) := by decide +kernel
theorem dJ13_rotateLeft_b2ac5_8 : decode cJ13_rotateLeft_b2ac5 8 = .ok (.lreturn, 1) := by decide +kernel
theorem dJ9_max_7cf53_0 : decode cJ9_max_7cf53 0 = .ok (.iload_n 0, 1) := by decide +kernel
theorem dJ9_max_7cf53_1 : decode cJ9_max_7cf53 1 = .ok (.iload_n 1, 1) := by decide +kernel
theorem dJ9_max_7cf53_2 : decode cJ9_max_7cf53 2 = .ok (.if_icmp .lt 7, 3) := by decide +kernel
theorem dJ9_max_7cf53_5 : decode cJ9_max_7cf53 5 = .ok (.iload_n 0, 1) := by decide +kernel
theorem dJ9_max_7cf53_6 : decode cJ9_max_7cf53 6 = .ok (.goto 4, 3) := by decide +kernel
theorem dJ9_max_7cf53_9 : decode cJ9_max_7cf53 9 = .ok (.iload_n 1, 1) := by decide +kernel
theorem dJ9_max_7cf53_10 : decode cJ9_max_7cf53 10 = .ok (.ireturn, 1) := by decide +kernel
theorem dJ9_min_7cf53_0 : decode cJ9_min_7cf53 0 = .ok (.iload_n 0, 1) := by decide +kernel
theorem dJ9_min_7cf53_1 : decode cJ9_min_7cf53 1 = .ok (.iload_n 1, 1) := by decide +kernel
theorem dJ9_min_7cf53_2 : decode cJ9_min_7cf53 2 = .ok (.if_icmp .gt 7, 3) := by decide +kernel
theorem dJ9_min_7cf53_5 : decode cJ9_min_7cf53 5 = .ok (.iload_n 0, 1) := by decide +kernel
theorem dJ9_min_7cf53_6 : decode cJ9_min_7cf53 6 = .ok (.goto 4, 3) := by decide +kernel
theorem dJ9_min_7cf53_9 : decode cJ9_min_7cf53 9 = .ok (.iload_n 1, 1) := by decide +kernel
theorem dJ9_min_7cf53_10 : decode cJ9_min_7cf53 10 = .ok (.ireturn, 1) := by decide +kernel
theorem dL_cell_0 : decode cL_cell 0 = .ok (.iload_n 1, 1) := by decide +kernel
theorem dL_cell_1 : decode cL_cell 1 = .ok (.aload_n 0, 1) := by decide +kernel
theorem dL_cell_2 : decode cL_cell 2 = .ok (.arraylength, 1) := by decide +kernel
theorem dL_cell_3 : decode cL_cell 3 = .ok (.if_icmp .ge 9, 3) := by decide +kernel
theorem dL_cell_6 : decode cL_cell 6 = .ok (.aload_n 0, 1) := by decide +kernel
theorem dL_cell_7 : decode cL_cell 7 = .ok (.iload_n 1, 1) := by decide +kernel
theorem dL_cell_8 : decode cL_cell 8 = .ok (.iaload, 1) := by decide +kernel
theorem dL_cell_9 : decode cL_cell 9 = .ok (.goto 4, 3) := by decide +kernel
theorem dL_cell_12 : decode cL_cell 12 = .ok (.iconst 0, 1) := by decide +kernel
theorem dL_cell_13 : decode cL_cell 13 = .ok (.ireturn, 1) := by decide +kernel
