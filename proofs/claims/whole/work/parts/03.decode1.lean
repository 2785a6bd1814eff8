theorem dX11_image_11 : decode cX11_image 11 = .ok (.aload_n 0, 1) := by decide +kernel
theorem dX11_image_12 : decode cX11_image 12 = .ok (.iconst 1, 1) := by decide +kernel
theorem dX11_image_13 : decode cX11_image 13 = .ok (.putfield 242, 3) := by decide +kernel
theorem dX11_image_16 : decode cX11_image 16 = .ok (.iconst 0, 1) := by decide +kernel
theorem dX11_image_17 : decode cX11_image 17 = .ok (.istore_n 1, 1) := by decide +kernel
theorem dX11_image_18 : decode cX11_image 18 = .ok (.iload_n 1, 1) := by decide +kernel
theorem dX11_image_19 : decode cX11_image 19 = .ok (.aload_n 0, 1) := by decide +kernel
theorem dX11_image_20 : decode cX11_image 20 = .ok (.getfield 18, 3) := by decide +kernel
theorem dX11_image_23 : decode cX11_image 23 = .ok (.getfield 82, 3) := by decide +kernel
theorem dX11_image_26 : decode cX11_image 26 = .ok (.if_icmp .ge 23, 3) := by decide +kernel
theorem dX11_image_29 : decode cX11_image 29 = .ok (.aload_n 0, 1) := by decide +kernel
theorem dX11_image_30 : decode cX11_image 30 = .ok (.iload_n 1, 1) := by decide +kernel
theorem dX11_image_31 : decode cX11_image 31 = .ok (.invokevirtual 89, 3) := by decide +kernel
theorem dX11_image_34 : decode cX11_image 34 = .ok (.astore_n 2, 1) := by decide +kernel
theorem dX11_image_35 : decode cX11_image 35 = .ok (.aload_n 2, 1) := by decide +kernel
theorem dX11_image_36 : decode cX11_image 36 = .ok (.ifnull 7, 3) := by decide +kernel
theorem dX11_image_39 : decode cX11_image 39 = .ok (.aload_n 2, 1) := by decide +kernel
theorem dX11_image_40 : decode cX11_image 40 = .ok (.invokevirtual 245, 3) := by decide +kernel
theorem dX11_image_43 : decode cX11_image 43 = .ok (.iinc 1 1, 3) := by decide +kernel
theorem dX11_image_46 : decode cX11_image 46 = .ok (.goto (-28), 3) := by decide +kernel
theorem dX11_image_49 : decode cX11_image 49 = .ok (.aload_n 0, 1) := by decide +kernel
theorem dX11_image_50 : decode cX11_image 50 = .ok (.getfield 18, 3) := by decide +kernel
theorem dX11_image_53 : decode cX11_image 53 = .ok (.getfield 82, 3) := by decide +kernel
theorem dX11_image_56 : decode cX11_image 56 = .ok (.ireturn, 1) := by decide +kernel
theorem dX11_undo_0 : decode cX11_undo 0 = .ok (.aload_n 0, 1) := by decide +kernel
theorem dX11_undo_1 : decode cX11_undo 1 = .ok (.getfield 242, 3) := by decide +kernel
theorem dX11_undo_4 : decode cX11_undo 4 = .ok (.ifCond .ne 6, 3) := by decide +kernel
theorem dX11_undo_7 : decode cX11_undo 7 = .ok (.bipush (-3), 2) := by decide +kernel
theorem dX11_undo_9 : decode cX11_undo 9 = .ok (.ireturn, 1) := by decide +kernel
theorem dX11_undo_10 : decode cX11_undo 10 = .ok (.aload_n 0, 1) := by decide +kernel
theorem dX11_undo_11 : decode cX11_undo 11 = .ok (.getfield 12, 3) := by decide +kernel
theorem dX11_undo_14 : decode cX11_undo 14 = .ok (.aload_n 0, 1) := by decide +kernel
theorem dX11_undo_15 : decode cX11_undo 15 = .ok (.getfield 18, 3) := by decide +kernel
theorem dX11_undo_18 : decode cX11_undo 18 = .ok (.invokevirtual 238, 3) := by decide +kernel
theorem dX11_undo_21 : decode cX11_undo 21 = .ok (.iconst 0, 1) := by decide +kernel
theorem dX11_undo_22 : decode cX11_undo 22 = .ok (.istore_n 1, 1) := by decide +kernel
theorem dX11_undo_23 : decode cX11_undo 23 = .ok (.iload_n 1, 1) := by decide +kernel
theorem dX11_undo_24 : decode cX11_undo 24 = .ok (.aload_n 0, 1) := by decide +kernel
theorem dX11_undo_25 : decode cX11_undo 25 = .ok (.getfield 12, 3) := by decide +kernel
theorem dX11_undo_28 : decode cX11_undo 28 = .ok (.getfield 82, 3) := by decide +kernel
theorem dX11_undo_31 : decode cX11_undo 31 = .ok (.if_icmp .ge 23, 3) := by decide +kernel
theorem dX11_undo_34 : decode cX11_undo 34 = .ok (.aload_n 0, 1) := by decide +kernel
theorem dX11_undo_35 : decode cX11_undo 35 = .ok (.iload_n 1, 1) := by decide +kernel
theorem dX11_undo_36 : decode cX11_undo 36 = .ok (.invokevirtual 89, 3) := by decide +kernel
theorem dX11_undo_39 : decode cX11_undo 39 = .ok (.astore_n 2, 1) := by decide +kernel
theorem dX11_undo_40 : decode cX11_undo 40 = .ok (.aload_n 2, 1) := by decide +kernel
theorem dX11_undo_41 : decode cX11_undo 41 = .ok (.ifnull 7, 3) := by decide +kernel
theorem dX11_undo_44 : decode cX11_undo 44 = .ok (.aload_n 2, 1) := by decide +kernel
theorem dX11_undo_45 : decode cX11_undo 45 = .ok (.invokevirtual 248, 3) := by decide +kernel
theorem dX11_undo_48 : decode cX11_undo 48 = .ok (.iinc 1 1, 3) := by decide +kernel
theorem dX11_undo_51 : decode cX11_undo 51 = .ok (.goto (-28), 3) := by decide +kernel
theorem dX11_undo_54 : decode cX11_undo 54 = .ok (.aload_n 0, 1) := by decide +kernel
theorem dX11_undo_55 : decode cX11_undo 55 = .ok (.getfield 12, 3) := by decide +kernel
theorem dX11_undo_58 : decode cX11_undo 58 = .ok (.getfield 82, 3) := by decide +kernel
theorem dX11_undo_61 : decode cX11_undo 61 = .ok (.ireturn, 1) := by decide +kernel
theorem dX11_act_0 : decode cX11_act 0 = .ok (.aload_n 0, 1) := by decide +kernel
theorem dX11_act_1 : decode cX11_act 1 = .ok (.iload_n 1, 1) := by decide +kernel
theorem dX11_act_2 : decode cX11_act 2 = .ok (.invokevirtual 89, 3) := by decide +kernel
theorem dX11_act_5 : decode cX11_act 5 = .ok (.astore 4, 2) := by decide +kernel
theorem dX11_act_7 : decode cX11_act 7 = .ok (.aload 4, 2) := by decide +kernel
theorem dX11_act_9 : decode cX11_act 9 = .ok (.ifnull 12, 3) := by decide +kernel
theorem dX11_act_12 : decode cX11_act 12 = .ok (.iload_n 2, 1) := by decide +kernel
theorem dX11_act_13 : decode cX11_act 13 = .ok (.ifCond .lt 8, 3) := by decide +kernel
theorem dX11_act_16 : decode cX11_act 16 = .ok (.iload_n 2, 1) := by decide +kernel
theorem dX11_act_17 : decode cX11_act 17 = .ok (.iconst 2, 1) := by decide +kernel
theorem dX11_act_18 : decode cX11_act 18 = .ok (.if_icmp .le 10, 3) := by decide +kernel
theorem dX11_act_21 : decode cX11_act 21 = .ok (.aload_n 0, 1) := by decide +kernel
theorem dX11_act_22 : decode cX11_act 22 = .ok (.aconst_null, 1) := by decide +kernel
theorem dX11_act_23 : decode cX11_act 23 = .ok (.putfield 251, 3) := by decide +kernel
theorem dX11_act_26 : decode cX11_act 26 = .ok (.iconst 0, 1) := by decide +kernel
theorem dX11_act_27 : decode cX11_act 27 = .ok (.ireturn, 1) := by decide +kernel
theorem dX11_act_28 : decode cX11_act 28 = .ok (.aload_n 0, 1) := by decide +kernel
theorem dX11_act_29 : decode cX11_act 29 = .ok (.aload 4, 2) := by decide +kernel
theorem dX11_act_31 : decode cX11_act 31 = .ok (.putfield 251, 3) := by decide +kernel
theorem dX11_act_34 : decode cX11_act 34 = .ok (.aload 4, 2) := by decide +kernel
theorem dX11_act_36 : decode cX11_act 36 = .ok (.iconst 0, 1) := by decide +kernel
theorem dX11_act_37 : decode cX11_act 37 = .ok (.putfield 255, 3) := by decide +kernel
theorem dX11_act_40 : decode cX11_act 40 = .ok (.iload_n 2, 1) := by decide +kernel
theorem dX11_act_41 : decode cX11_act 41 = .ok (.ifCond .ne 10, 3) := by decide +kernel
theorem dX11_act_44 : decode cX11_act 44 = .ok (.aload 4, 2) := by decide +kernel
theorem dX11_act_46 : decode cX11_act 46 = .ok (.iload_n 3, 1) := by decide +kernel
theorem dX11_act_47 : decode cX11_act 47 = .ok (.invokevirtual 258, 3) := by decide +kernel
theorem dX11_act_50 : decode cX11_act 50 = .ok (.ireturn, 1) := by decide +kernel
theorem dX11_act_51 : decode cX11_act 51 = .ok (.iload_n 2, 1) := by decide +kernel
theorem dX11_act_52 : decode cX11_act 52 = .ok (.iconst 1, 1) := by decide +kernel
theorem dX11_act_53 : decode cX11_act 53 = .ok (.if_icmp .ne 12, 3) := by decide +kernel
theorem dX11_act_56 : decode cX11_act 56 = .ok (.aload 4, 2) := by decide +kernel
theorem dX11_act_58 : decode cX11_act 58 = .ok (.iload_n 3, 1) := by decide +kernel
theorem dX11_act_59 : decode cX11_act 59 = .ok (.invokevirtual 261, 3) := by decide +kernel
theorem dX11_act_62 : decode cX11_act 62 = .ok (.goto 9, 3) := by decide +kernel
theorem dX11_act_65 : decode cX11_act 65 = .ok (.aload 4, 2) := by decide +kernel
theorem dX11_act_67 : decode cX11_act 67 = .ok (.iload_n 3, 1) := by decide +kernel
theorem dX11_act_68 : decode cX11_act 68 = .ok (.invokevirtual 264, 3) := by decide +kernel
theorem dX11_act_71 : decode cX11_act 71 = .ok (.ireturn, 1) := by decide +kernel
theorem dX11_trace_0 : decode cX11_trace 0 = .ok (.aload_n 0, 1) := by decide +kernel
theorem dX11_trace_1 : decode cX11_trace 1 = .ok (.getfield 251, 3) := by decide +kernel
theorem dX11_trace_4 : decode cX11_trace 4 = .ok (.ifnull 24, 3) := by decide +kernel
theorem dX11_trace_7 : decode cX11_trace 7 = .ok (.iload_n 1, 1) := by decide +kernel
theorem dX11_trace_8 : decode cX11_trace 8 = .ok (.ifCond .lt 20, 3) := by decide +kernel
theorem dX11_trace_11 : decode cX11_trace 11 = .ok (.iload_n 1, 1) := by decide +kernel
theorem dX11_trace_12 : decode cX11_trace 12 = .ok (.aload_n 0, 1) := by decide +kernel
theorem dX11_trace_13 : decode cX11_trace 13 = .ok (.getfield 251, 3) := by decide +kernel
theorem dX11_trace_16 : decode cX11_trace 16 = .ok (.getfield 255, 3) := by decide +kernel
theorem dX11_trace_19 : decode cX11_trace 19 = .ok (.if_icmp .ge 9, 3) := by decide +kernel
theorem dX11_trace_22 : decode cX11_trace 22 = .ok (.iload_n 1, 1) := by decide +kernel
theorem dX11_trace_23 : decode cX11_trace 23 = .ok (.bipush 20, 2) := by decide +kernel
theorem dX11_trace_25 : decode cX11_trace 25 = .ok (.if_icmp .lt 5, 3) := by decide +kernel
theorem dX11_trace_28 : decode cX11_trace 28 = .ok (.iconst (-1), 1) := by decide +kernel
theorem dX11_trace_29 : decode cX11_trace 29 = .ok (.ireturn, 1) := by decide +kernel
theorem dX11_trace_30 : decode cX11_trace 30 = .ok (.aload_n 0, 1) := by decide +kernel
theorem dX11_trace_31 : decode cX11_trace 31 = .ok (.getfield 251, 3) := by decide +kernel
theorem dX11_trace_34 : decode cX11_trace 34 = .ok (.getfield 267, 3) := by decide +kernel
theorem dX11_trace_37 : decode cX11_trace 37 = .ok (.iload_n 1, 1) := by decide +kernel
theorem dX11_trace_38 : decode cX11_trace 38 = .ok (.iaload, 1) := by decide +kernel
theorem dX11_trace_39 : decode cX11_trace 39 = .ok (.ireturn, 1) := by decide +kernel
theorem dX11_taken_0 : decode cX11_taken 0 = .ok (.iload_n 2, 1) := by decide +kernel
theorem dX11_taken_1 : decode cX11_taken 1 = .ok (.ifCond .lt 9, 3) := by decide +kernel
theorem dX11_taken_4 : decode cX11_taken 4 = .ok (.iload_n 2, 1) := by decide +kernel
theorem dX11_taken_5 : decode cX11_taken 5 = .ok (.bipush 7, 2) := by decide +kernel
theorem dX11_taken_7 : decode cX11_taken 7 = .ok (.if_icmp .lt 6, 3) := by decide +kernel
theorem dX11_taken_10 : decode cX11_taken 10 = .ok (.bipush (-2), 2) := by decide +kernel
theorem dX11_taken_12 : decode cX11_taken 12 = .ok (.ireturn, 1) := by decide +kernel
theorem dX11_taken_13 : decode cX11_taken 13 = .ok (.aload_n 0, 1) := by decide +kernel
theorem dX11_taken_14 : decode cX11_taken 14 = .ok (.iload_n 1, 1) := by decide +kernel
theorem dX11_taken_15 : decode cX11_taken 15 = .ok (.invokevirtual 89, 3) := by decide +kernel
theorem dX11_taken_18 : decode cX11_taken 18 = .ok (.astore_n 3, 1) := by decide +kernel
theorem dX11_taken_19 : decode cX11_taken 19 = .ok (.aload_n 3, 1) := by decide +kernel
theorem dX11_taken_20 : decode cX11_taken 20 = .ok (.ifnonnull 6, 3) := by decide +kernel
theorem dX11_taken_23 : decode cX11_taken 23 = .ok (.bipush (-11), 2) := by decide +kernel
theorem dX11_taken_25 : decode cX11_taken 25 = .ok (.ireturn, 1) := by decide +kernel
theorem dX11_taken_26 : decode cX11_taken 26 = .ok (.aload_n 3, 1) := by decide +kernel
theorem dX11_taken_27 : decode cX11_taken 27 = .ok (.iload_n 2, 1) := by decide +kernel
theorem dX11_taken_28 : decode cX11_taken 28 = .ok (.invokestatic 270, 3) := by decide +kernel
theorem dX11_taken_31 : decode cX11_taken 31 = .ok (.ifCond .eq 10, 3) := by decide +kernel
theorem dX11_taken_34 : decode cX11_taken 34 = .ok (.aload_n 3, 1) := by decide +kernel
theorem dX11_taken_35 : decode cX11_taken 35 = .ok (.invokevirtual 93, 3) := by decide +kernel
theorem dX11_taken_38 : decode cX11_taken 38 = .ok (.goto 5, 3) := by decide +kernel
theorem dX11_taken_41 : decode cX11_taken 41 = .ok (.bipush (-12), 2) := by decide +kernel
theorem dX11_taken_43 : decode cX11_taken 43 = .ok (.ireturn, 1) := by decide +kernel
theorem dX11_count_0 : decode cX11_count 0 = .ok (.iload_n 1, 1) := by decide +kernel
theorem dX11_count_1 : decode cX11_count 1 = .ok (.tableswitch 107 0 6 #[43, 51, 56, 64, 72, 80, 88], 43) := by decide +kernel
theorem dX11_count_44 : decode cX11_count 44 = .ok (.aload_n 0, 1) := by decide +kernel
theorem dX11_count_45 : decode cX11_count 45 = .ok (.getfield 12, 3) := by decide +kernel
theorem dX11_count_48 : decode cX11_count 48 = .ok (.getfield 82, 3) := by decide +kernel
theorem dX11_count_51 : decode cX11_count 51 = .ok (.ireturn, 1) := by decide +kernel
theorem dX11_count_52 : decode cX11_count 52 = .ok (.aload_n 0, 1) := by decide +kernel
theorem dX11_count_53 : decode cX11_count 53 = .ok (.getfield 122, 3) := by decide +kernel
theorem dX11_count_56 : decode cX11_count 56 = .ok (.ireturn, 1) := by decide +kernel
theorem dX11_count_57 : decode cX11_count 57 = .ok (.aload_n 0, 1) := by decide +kernel
theorem dX11_count_58 : decode cX11_count 58 = .ok (.getfield 12, 3) := by decide +kernel
theorem dX11_count_61 : decode cX11_count 61 = .ok (.getfield 160, 3) := by decide +kernel
theorem dX11_count_64 : decode cX11_count 64 = .ok (.ireturn, 1) := by decide +kernel
theorem dX11_count_65 : decode cX11_count 65 = .ok (.aload_n 0, 1) := by decide +kernel
theorem dX11_count_66 : decode cX11_count 66 = .ok (.getfield 12, 3) := by decide +kernel
theorem dX11_count_69 : decode cX11_count 69 = .ok (.getfield 204, 3) := by decide +kernel
theorem dX11_count_72 : decode cX11_count 72 = .ok (.ireturn, 1) := by decide +kernel
theorem dX11_count_73 : decode cX11_count 73 = .ok (.aload_n 0, 1) := by decide +kernel
theorem dX11_count_74 : decode cX11_count 74 = .ok (.getfield 12, 3) := by decide +kernel
theorem dX11_count_77 : decode cX11_count 77 = .ok (.getfield 226, 3) := by decide +kernel
theorem dX11_count_80 : decode cX11_count 80 = .ok (.ireturn, 1) := by decide +kernel
theorem dX11_count_81 : decode cX11_count 81 = .ok (.aload_n 0, 1) := by decide +kernel
theorem dX11_count_82 : decode cX11_count 82 = .ok (.getfield 36, 3) := by decide +kernel
theorem dX11_count_85 : decode cX11_count 85 = .ok (.getfield 119, 3) := by decide +kernel
theorem dX11_count_88 : decode cX11_count 88 = .ok (.ireturn, 1) := by decide +kernel
theorem dX11_count_89 : decode cX11_count 89 = .ok (.aload_n 0, 1) := by decide +kernel
theorem dX11_count_90 : decode cX11_count 90 = .ok (.getfield 251, 3) := by decide +kernel
theorem dX11_count_93 : decode cX11_count 93 = .ok (.ifnonnull 7, 3) := by decide +kernel
theorem dX11_count_96 : decode cX11_count 96 = .ok (.iconst 0, 1) := by decide +kernel
theorem dX11_count_97 : decode cX11_count 97 = .ok (.goto 10, 3) := by decide +kernel
theorem dX11_count_100 : decode cX11_count 100 = .ok (.aload_n 0, 1) := by decide +kernel
theorem dX11_count_101 : decode cX11_count 101 = .ok (.getfield 251, 3) := by decide +kernel
theorem dX11_count_104 : decode cX11_count 104 = .ok (.getfield 255, 3) := by decide +kernel
theorem dX11_count_107 : decode cX11_count 107 = .ok (.ireturn, 1) := by decide +kernel
theorem dX11_count_108 : decode cX11_count 108 = .ok (.bipush (-2), 2) := by decide +kernel
theorem dX11_count_110 : decode cX11_count 110 = .ok (.ireturn, 1) := by decide +kernel
theorem dX11_tape_0 : decode cX11_tape 0 = .ok (.iload_n 1, 1) := by decide +kernel
theorem dX11_tape_1 : decode cX11_tape 1 = .ok (.invokestatic 232, 3) := by decide +kernel
theorem dX11_tape_4 : decode cX11_tape 4 = .ok (.ifCond .ne 5, 3) := by decide +kernel
theorem dX11_tape_7 : decode cX11_tape 7 = .ok (.iconst (-1), 1) := by decide +kernel
theorem dX11_tape_8 : decode cX11_tape 8 = .ok (.ireturn, 1) := by decide +kernel
theorem dX11_tape_9 : decode cX11_tape 9 = .ok (.iload_n 2, 1) := by decide +kernel
theorem dX11_tape_10 : decode cX11_tape 10 = .ok (.iconst (-1), 1) := by decide +kernel
theorem dX11_tape_11 : decode cX11_tape 11 = .ok (.if_icmp .ne 19, 3) := by decide +kernel
theorem dX11_tape_14 : decode cX11_tape 14 = .ok (.aload_n 0, 1) := by decide +kernel
theorem dX11_tape_15 : decode cX11_tape 15 = .ok (.getfield 47, 3) := by decide +kernel
theorem dX11_tape_18 : decode cX11_tape 18 = .ok (.iload_n 1, 1) := by decide +kernel
theorem dX11_tape_19 : decode cX11_tape 19 = .ok (.iconst (-1), 1) := by decide +kernel
theorem dX11_tape_20 : decode cX11_tape 20 = .ok (.iastore, 1) := by decide +kernel
theorem dX11_tape_21 : decode cX11_tape 21 = .ok (.aload_n 0, 1) := by decide +kernel
theorem dX11_tape_22 : decode cX11_tape 22 = .ok (.getfield 51, 3) := by decide +kernel
theorem dX11_tape_25 : decode cX11_tape 25 = .ok (.iload_n 1, 1) := by decide +kernel
theorem dX11_tape_26 : decode cX11_tape 26 = .ok (.iconst 0, 1) := by decide +kernel
theorem dX11_tape_27 : decode cX11_tape 27 = .ok (.iastore, 1) := by decide +kernel
theorem dX11_tape_28 : decode cX11_tape 28 = .ok (.iconst 1, 1) := by decide +kernel
theorem dX11_tape_29 : decode cX11_tape 29 = .ok (.ireturn, 1) := by decide +kernel
theorem dX11_tape_30 : decode cX11_tape 30 = .ok (.iload_n 2, 1) := by decide +kernel
theorem dX11_tape_31 : decode cX11_tape 31 = .ok (.ifCond .lt 14, 3) := by decide +kernel
theorem dX11_tape_34 : decode cX11_tape 34 = .ok (.iload_n 2, 1) := by decide +kernel
theorem dX11_tape_35 : decode cX11_tape 35 = .ok (.iconst 5, 1) := by decide +kernel
theorem dX11_tape_36 : decode cX11_tape 36 = .ok (.if_icmp .ge 9, 3) := by decide +kernel
theorem dX11_tape_39 : decode cX11_tape 39 = .ok (.iload_n 3, 1) := by decide +kernel
theorem dX11_tape_40 : decode cX11_tape 40 = .ok (.bipush 60, 2) := by decide +kernel
theorem dX11_tape_42 : decode cX11_tape 42 = .ok (.if_icmp .le 6, 3) := by decide +kernel
theorem dX11_tape_45 : decode cX11_tape 45 = .ok (.bipush (-2), 2) := by decide +kernel
theorem dX11_tape_47 : decode cX11_tape 47 = .ok (.ireturn, 1) := by decide +kernel
theorem dX11_tape_48 : decode cX11_tape 48 = .ok (.iload_n 3, 1) := by decide +kernel
theorem dX11_tape_49 : decode cX11_tape 49 = .ok (.ifCond .ge 6, 3) := by decide +kernel
theorem dX11_tape_52 : decode cX11_tape 52 = .ok (.bipush (-14), 2) := by decide +kernel
theorem dX11_tape_54 : decode cX11_tape 54 = .ok (.ireturn, 1) := by decide +kernel
theorem dX11_tape_55 : decode cX11_tape 55 = .ok (.aload_n 0, 1) := by decide +kernel
theorem dX11_tape_56 : decode cX11_tape 56 = .ok (.getfield 47, 3) := by decide +kernel
theorem dX11_tape_59 : decode cX11_tape 59 = .ok (.iload_n 1, 1) := by decide +kernel
theorem dX11_tape_60 : decode cX11_tape 60 = .ok (.iload_n 2, 1) := by decide +kernel
theorem dX11_tape_61 : decode cX11_tape 61 = .ok (.iastore, 1) := by decide +kernel
theorem dX11_tape_62 : decode cX11_tape 62 = .ok (.aload_n 0, 1) := by decide +kernel
theorem dX11_tape_63 : decode cX11_tape 63 = .ok (.getfield 51, 3) := by decide +kernel
theorem dX11_tape_66 : decode cX11_tape 66 = .ok (.iload_n 1, 1) := by decide +kernel
theorem dX11_tape_67 : decode cX11_tape 67 = .ok (.iload_n 3, 1) := by decide +kernel
theorem dX11_tape_68 : decode cX11_tape 68 = .ok (.iastore, 1) := by decide +kernel
theorem dX11_tape_69 : decode cX11_tape 69 = .ok (.iconst 0, 1) := by decide +kernel
theorem dX11_tape_70 : decode cX11_tape 70 = .ok (.istore 4, 2) := by decide +kernel
theorem dX11_tape_72 : decode cX11_tape 72 = .ok (.iload 4, 2) := by decide +kernel
theorem dX11_tape_74 : decode cX11_tape 74 = .ok (.iload_n 3, 1) := by decide +kernel
theorem dX11_tape_75 : decode cX11_tape 75 = .ok (.if_icmp .ge 19, 3) := by decide +kernel
theorem dX11_tape_78 : decode cX11_tape 78 = .ok (.aload_n 0, 1) := by decide +kernel
theorem dX11_tape_79 : decode cX11_tape 79 = .ok (.getfield 56, 3) := by decide +kernel
theorem dX11_tape_82 : decode cX11_tape 82 = .ok (.iload_n 1, 1) := by decide +kernel
theorem dX11_tape_83 : decode cX11_tape 83 = .ok (.aaload, 1) := by decide +kernel
theorem dX11_tape_84 : decode cX11_tape 84 = .ok (.iload 4, 2) := by decide +kernel
theorem dX11_tape_86 : decode cX11_tape 86 = .ok (.lconst 0, 1) := by decide +kernel
theorem dX11_tape_87 : decode cX11_tape 87 = .ok (.lastore, 1) := by decide +kernel
theorem dX11_tape_88 : decode cX11_tape 88 = .ok (.iinc 4 1, 3) := by decide +kernel
theorem dX11_tape_91 : decode cX11_tape 91 = .ok (.goto (-19), 3) := by decide +kernel
theorem dX11_tape_94 : decode cX11_tape 94 = .ok (.iconst 1, 1) := by decide +kernel
theorem dX11_tape_95 : decode cX11_tape 95 = .ok (.ireturn, 1) := by decide +kernel
theorem dX11_item_0 : decode cX11_item 0 = .ok (.iload_n 1, 1) := by decide +kernel
theorem dX11_item_1 : decode cX11_item 1 = .ok (.invokestatic 232, 3) := by decide +kernel
theorem dX11_item_4 : decode cX11_item 4 = .ok (.ifCond .ne 5, 3) := by decide +kernel
theorem dX11_item_7 : decode cX11_item 7 = .ok (.iconst (-1), 1) := by decide +kernel
theorem dX11_item_8 : decode cX11_item 8 = .ok (.ireturn, 1) := by decide +kernel
theorem dX11_item_9 : decode cX11_item 9 = .ok (.aload_n 0, 1) := by decide +kernel
theorem dX11_item_10 : decode cX11_item 10 = .ok (.getfield 47, 3) := by decide +kernel
theorem dX11_item_13 : decode cX11_item 13 = .ok (.iload_n 1, 1) := by decide +kernel
theorem dX11_item_14 : decode cX11_item 14 = .ok (.iaload, 1) := by decide +kernel
theorem dX11_item_15 : decode cX11_item 15 = .ok (.iconst (-1), 1) := by decide +kernel
theorem dX11_item_16 : decode cX11_item 16 = .ok (.if_icmp .ne 6, 3) := by decide +kernel
theorem dX11_item_19 : decode cX11_item 19 = .ok (.bipush (-11), 2) := by decide +kernel
theorem dX11_item_21 : decode cX11_item 21 = .ok (.ireturn, 1) := by decide +kernel
theorem dX11_item_22 : decode cX11_item 22 = .ok (.aload_n 0, 1) := by decide +kernel
theorem dX11_item_23 : decode cX11_item 23 = .ok (.iload_n 1, 1) := by decide +kernel
theorem dX11_item_24 : decode cX11_item 24 = .ok (.iload_n 2, 1) := by decide +kernel
theorem dX11_item_25 : decode cX11_item 25 = .ok (.invokevirtual 274, 3) := by decide +kernel
theorem dX11_item_28 : decode cX11_item 28 = .ok (.ifCond .ne 6, 3) := by decide +kernel
theorem dX11_item_31 : decode cX11_item 31 = .ok (.bipush (-13), 2) := by decide +kernel
theorem dX11_item_33 : decode cX11_item 33 = .ok (.ireturn, 1) := by decide +kernel
theorem dX11_item_34 : decode cX11_item 34 = .ok (.aload_n 0, 1) := by decide +kernel
theorem dX11_item_35 : decode cX11_item 35 = .ok (.getfield 56, 3) := by decide +kernel
theorem dX11_item_38 : decode cX11_item 38 = .ok (.iload_n 1, 1) := by decide +kernel
theorem dX11_item_39 : decode cX11_item 39 = .ok (.aaload, 1) := by decide +kernel
theorem dX11_item_40 : decode cX11_item 40 = .ok (.iload_n 2, 1) := by decide +kernel
theorem dX11_item_41 : decode cX11_item 41 = .ok (.aload_n 0, 1) := by decide +kernel
theorem dX11_item_42 : decode cX11_item 42 = .ok (.getfield 47, 3) := by decide +kernel
theorem dX11_item_45 : decode cX11_item 45 = .ok (.iload_n 1, 1) := by decide +kernel
theorem dX11_item_46 : decode cX11_item 46 = .ok (.iaload, 1) := by decide +kernel
theorem dX11_item_47 : decode cX11_item 47 = .ok (.lload_n 3, 1) := by decide +kernel
theorem dX11_item_48 : decode cX11_item 48 = .ok (.invokestatic 277, 3) := by decide +kernel
theorem dX11_item_51 : decode cX11_item 51 = .ok (.lastore, 1) := by decide +kernel
theorem dX11_item_52 : decode cX11_item 52 = .ok (.iconst 1, 1) := by decide +kernel
theorem dX11_item_53 : decode cX11_item 53 = .ok (.ireturn, 1) := by decide +kernel
theorem dX11_read_0 : decode cX11_read 0 = .ok (.iload_n 1, 1) := by decide +kernel
theorem dX11_read_1 : decode cX11_read 1 = .ok (.invokestatic 232, 3) := by decide +kernel
theorem dX11_read_4 : decode cX11_read 4 = .ok (.ifCond .eq 22, 3) := by decide +kernel
theorem dX11_read_7 : decode cX11_read 7 = .ok (.aload_n 0, 1) := by decide +kernel
theorem dX11_read_8 : decode cX11_read 8 = .ok (.getfield 47, 3) := by decide +kernel
theorem dX11_read_11 : decode cX11_read 11 = .ok (.iload_n 1, 1) := by decide +kernel
theorem dX11_read_12 : decode cX11_read 12 = .ok (.iaload, 1) := by decide +kernel
theorem dX11_read_13 : decode cX11_read 13 = .ok (.iconst (-1), 1) := by decide +kernel
theorem dX11_read_14 : decode cX11_read 14 = .ok (.if_icmp .eq 12, 3) := by decide +kernel
theorem dX11_read_17 : decode cX11_read 17 = .ok (.aload_n 0, 1) := by decide +kernel
theorem dX11_read_18 : decode cX11_read 18 = .ok (.iload_n 1, 1) := by decide +kernel
theorem dX11_read_19 : decode cX11_read 19 = .ok (.iload_n 2, 1) := by decide +kernel
theorem dX11_read_20 : decode cX11_read 20 = .ok (.invokevirtual 274, 3) := by decide +kernel
theorem dX11_read_23 : decode cX11_read 23 = .ok (.ifCond .ne 7, 3) := by decide +kernel
theorem dX11_read_26 : decode cX11_read 26 = .ok (.ldc2_w 220, 3) := by decide +kernel
theorem dX11_read_29 : decode cX11_read 29 = .ok (.lreturn, 1) := by decide +kernel
theorem dX11_read_30 : decode cX11_read 30 = .ok (.aload_n 0, 1) := by decide +kernel
theorem dX11_read_31 : decode cX11_read 31 = .ok (.getfield 56, 3) := by decide +kernel
theorem dX11_read_34 : decode cX11_read 34 = .ok (.iload_n 1, 1) := by decide +kernel
theorem dX11_read_35 : decode cX11_read 35 = .ok (.aaload, 1) := by decide +kernel
theorem dX11_read_36 : decode cX11_read 36 = .ok (.iload_n 2, 1) := by decide +kernel
theorem dX11_read_37 : decode cX11_read 37 = .ok (.laload, 1) := by decide +kernel
theorem dX11_read_38 : decode cX11_read 38 = .ok (.lreturn, 1) := by decide +kernel
theorem dX11_shift_0 : decode cX11_shift 0 = .ok (.iload_n 1, 1) := by decide +kernel
theorem dX11_shift_1 : decode cX11_shift 1 = .ok (.invokestatic 232, 3) := by decide +kernel
theorem dX11_shift_4 : decode cX11_shift 4 = .ok (.ifCond .eq 10, 3) := by decide +kernel
theorem dX11_shift_7 : decode cX11_shift 7 = .ok (.iload_n 3, 1) := by decide +kernel
theorem dX11_shift_8 : decode cX11_shift 8 = .ok (.invokestatic 232, 3) := by decide +kernel
theorem dX11_shift_11 : decode cX11_shift 11 = .ok (.ifCond .ne 5, 3) := by decide +kernel
theorem dX11_shift_14 : decode cX11_shift 14 = .ok (.iconst (-1), 1) := by decide +kernel
theorem dX11_shift_15 : decode cX11_shift 15 = .ok (.ireturn, 1) := by decide +kernel
theorem dX11_shift_16 : decode cX11_shift 16 = .ok (.aload_n 0, 1) := by decide +kernel
theorem dX11_shift_17 : decode cX11_shift 17 = .ok (.getfield 47, 3) := by decide +kernel
theorem dX11_shift_20 : decode cX11_shift 20 = .ok (.iload_n 1, 1) := by decide +kernel
theorem dX11_shift_21 : decode cX11_shift 21 = .ok (.iaload, 1) := by decide +kernel
theorem dX11_shift_22 : decode cX11_shift 22 = .ok (.iconst (-1), 1) := by decide +kernel
theorem dX11_shift_23 : decode cX11_shift 23 = .ok (.if_icmp .eq 13, 3) := by decide +kernel
theorem dX11_shift_26 : decode cX11_shift 26 = .ok (.aload_n 0, 1) := by decide +kernel
theorem dX11_shift_27 : decode cX11_shift 27 = .ok (.getfield 47, 3) := by decide +kernel
theorem dX11_shift_30 : decode cX11_shift 30 = .ok (.iload_n 3, 1) := by decide +kernel
theorem dX11_shift_31 : decode cX11_shift 31 = .ok (.iaload, 1) := by decide +kernel
theorem dX11_shift_32 : decode cX11_shift 32 = .ok (.iconst (-1), 1) := by decide +kernel
theorem dX11_shift_33 : decode cX11_shift 33 = .ok (.if_icmp .ne 6, 3) := by decide +kernel
theorem dX11_shift_36 : decode cX11_shift 36 = .ok (.bipush (-11), 2) := by decide +kernel
theorem dX11_shift_38 : decode cX11_shift 38 = .ok (.ireturn, 1) := by decide +kernel
theorem dX11_shift_39 : decode cX11_shift 39 = .ok (.aload_n 0, 1) := by decide +kernel
theorem dX11_shift_40 : decode cX11_shift 40 = .ok (.getfield 47, 3) := by decide +kernel
theorem dX11_shift_43 : decode cX11_shift 43 = .ok (.iload_n 1, 1) := by decide +kernel
theorem dX11_shift_44 : decode cX11_shift 44 = .ok (.iaload, 1) := by decide +kernel
theorem dX11_shift_45 : decode cX11_shift 45 = .ok (.aload_n 0, 1) := by decide +kernel
theorem dX11_shift_46 : decode cX11_shift 46 = .ok (.getfield 47, 3) := by decide +kernel
theorem dX11_shift_49 : decode cX11_shift 49 = .ok (.iload_n 3, 1) := by decide +kernel
theorem dX11_shift_50 : decode cX11_shift 50 = .ok (.iaload, 1) := by decide +kernel
theorem dX11_shift_51 : decode cX11_shift 51 = .ok (.if_icmp .eq 6, 3) := by decide +kernel
theorem dX11_shift_54 : decode cX11_shift 54 = .ok (.bipush (-12), 2) := by decide +kernel
theorem dX11_shift_56 : decode cX11_shift 56 = .ok (.ireturn, 1) := by decide +kernel
theorem dX11_shift_57 : decode cX11_shift 57 = .ok (.aload_n 0, 1) := by decide +kernel
theorem dX11_shift_58 : decode cX11_shift 58 = .ok (.iload_n 1, 1) := by decide +kernel
theorem dX11_shift_59 : decode cX11_shift 59 = .ok (.iload_n 2, 1) := by decide +kernel
theorem dX11_shift_60 : decode cX11_shift 60 = .ok (.iload 5, 2) := by decide +kernel
theorem dX11_shift_62 : decode cX11_shift 62 = .ok (.invokevirtual 281, 3) := by decide +kernel
theorem dX11_shift_65 : decode cX11_shift 65 = .ok (.ifCond .eq 15, 3) := by decide +kernel
theorem dX11_shift_68 : decode cX11_shift 68 = .ok (.aload_n 0, 1) := by decide +kernel
theorem dX11_shift_69 : decode cX11_shift 69 = .ok (.iload_n 3, 1) := by decide +kernel
theorem dX11_shift_70 : decode cX11_shift 70 = .ok (.iload 4, 2) := by decide +kernel
theorem dX11_shift_72 : decode cX11_shift 72 = .ok (.iload 5, 2) := by decide +kernel
theorem dX11_shift_74 : decode cX11_shift 74 = .ok (.invokevirtual 281, 3) := by decide +kernel
theorem dX11_shift_77 : decode cX11_shift 77 = .ok (.ifCond .ne 6, 3) := by decide +kernel
theorem dX11_shift_80 : decode cX11_shift 80 = .ok (.bipush (-13), 2) := by decide +kernel
theorem dX11_shift_82 : decode cX11_shift 82 = .ok (.ireturn, 1) := by decide +kernel
theorem dX11_shift_83 : decode cX11_shift 83 = .ok (.iconst 0, 1) := by decide +kernel
theorem dX11_shift_84 : decode cX11_shift 84 = .ok (.istore 6, 2) := by decide +kernel
theorem dX11_shift_86 : decode cX11_shift 86 = .ok (.iload 6, 2) := by decide +kernel
theorem dX11_shift_88 : decode cX11_shift 88 = .ok (.iload 5, 2) := by decide +kernel
theorem dX11_shift_90 : decode cX11_shift 90 = .ok (.if_icmp .ge 27, 3) := by decide +kernel
theorem dX11_shift_93 : decode cX11_shift 93 = .ok (.aload_n 0, 1) := by decide +kernel
theorem dX11_shift_94 : decode cX11_shift 94 = .ok (.getfield 59, 3) := by decide +kernel
theorem dX11_shift_97 : decode cX11_shift 97 = .ok (.iload 6, 2) := by decide +kernel
theorem dX11_shift_99 : decode cX11_shift 99 = .ok (.aload_n 0, 1) := by decide +kernel
theorem dX11_shift_100 : decode cX11_shift 100 = .ok (.getfield 56, 3) := by decide +kernel
theorem dX11_shift_103 : decode cX11_shift 103 = .ok (.iload_n 1, 1) := by decide +kernel
theorem dX11_shift_104 : decode cX11_shift 104 = .ok (.aaload, 1) := by decide +kernel
theorem dX11_shift_105 : decode cX11_shift 105 = .ok (.iload_n 2, 1) := by decide +kernel
theorem dX11_shift_106 : decode cX11_shift 106 = .ok (.iload 6, 2) := by decide +kernel
theorem dX11_shift_108 : decode cX11_shift 108 = .ok (.iadd, 1) := by decide +kernel
theorem dX11_shift_109 : decode cX11_shift 109 = .ok (.laload, 1) := by decide +kernel
theorem dX11_shift_110 : decode cX11_shift 110 = .ok (.lastore, 1) := by decide +kernel
theorem dX11_shift_111 : decode cX11_shift 111 = .ok (.iinc 6 1, 3) := by decide +kernel
theorem dX11_shift_114 : decode cX11_shift 114 = .ok (.goto (-28), 3) := by decide +kernel
theorem dX11_shift_117 : decode cX11_shift 117 = .ok (.iconst 0, 1) := by decide +kernel
theorem dX11_shift_118 : decode cX11_shift 118 = .ok (.istore 6, 2) := by decide +kernel
theorem dX11_shift_120 : decode cX11_shift 120 = .ok (.iload 6, 2) := by decide +kernel
theorem dX11_shift_122 : decode cX11_shift 122 = .ok (.iload 5, 2) := by decide +kernel
theorem dX11_shift_124 : decode cX11_shift 124 = .ok (.if_icmp .ge 28, 3) := by decide +kernel
theorem dX11_shift_127 : decode cX11_shift 127 = .ok (.aload_n 0, 1) := by decide +kernel
theorem dX11_shift_128 : decode cX11_shift 128 = .ok (.getfield 56, 3) := by decide +kernel
theorem dX11_shift_131 : decode cX11_shift 131 = .ok (.iload_n 3, 1) := by decide +kernel
theorem dX11_shift_132 : decode cX11_shift 132 = .ok (.aaload, 1) := by decide +kernel
theorem dX11_shift_133 : decode cX11_shift 133 = .ok (.iload 4, 2) := by decide +kernel
theorem dX11_shift_135 : decode cX11_shift 135 = .ok (.iload 6, 2) := by decide +kernel
theorem dX11_shift_137 : decode cX11_shift 137 = .ok (.iadd, 1) := by decide +kernel
theorem dX11_shift_138 : decode cX11_shift 138 = .ok (.aload_n 0, 1) := by decide +kernel
theorem dX11_shift_139 : decode cX11_shift 139 = .ok (.getfield 59, 3) := by decide +kernel
theorem dX11_shift_142 : decode cX11_shift 142 = .ok (.iload 6, 2) := by decide +kernel
theorem dX11_shift_144 : decode cX11_shift 144 = .ok (.laload, 1) := by decide +kernel
theorem dX11_shift_145 : decode cX11_shift 145 = .ok (.lastore, 1) := by decide +kernel
theorem dX11_shift_146 : decode cX11_shift 146 = .ok (.iinc 6 1, 3) := by decide +kernel
theorem dX11_shift_149 : decode cX11_shift 149 = .ok (.goto (-29), 3) := by decide +kernel
theorem dX11_shift_152 : decode cX11_shift 152 = .ok (.iload 5, 2) := by decide +kernel
theorem dX11_shift_154 : decode cX11_shift 154 = .ok (.ireturn, 1) := by decide +kernel
theorem dX11_isBoard_0 : decode cX11_isBoard 0 = .ok (.iload_n 0, 1) := by decide +kernel
theorem dX11_isBoard_1 : decode cX11_isBoard 1 = .ok (.ifCond .lt 13, 3) := by decide +kernel
theorem dX11_isBoard_4 : decode cX11_isBoard 4 = .ok (.iload_n 0, 1) := by decide +kernel
theorem dX11_isBoard_5 : decode cX11_isBoard 5 = .ok (.bipush 12, 2) := by decide +kernel
theorem dX11_isBoard_7 : decode cX11_isBoard 7 = .ok (.if_icmp .ge 7, 3) := by decide +kernel
theorem dX11_isBoard_10 : decode cX11_isBoard 10 = .ok (.iconst 1, 1) := by decide +kernel
theorem dX11_isBoard_11 : decode cX11_isBoard 11 = .ok (.goto 4, 3) := by decide +kernel
theorem dX11_isBoard_14 : decode cX11_isBoard 14 = .ok (.iconst 0, 1) := by decide +kernel
theorem dX11_isBoard_15 : decode cX11_isBoard 15 = .ok (.ireturn, 1) := by decide +kernel
theorem dX11_areBeside_0 : decode cX11_areBeside 0 = .ok (.iconst 0, 1) := by decide +kernel
theorem dX11_areBeside_1 : decode cX11_areBeside 1 = .ok (.istore_n 2, 1) := by decide +kernel
theorem dX11_areBeside_2 : decode cX11_areBeside 2 = .ok (.iconst 0, 1) := by decide +kernel
theorem dX11_areBeside_3 : decode cX11_areBeside 3 = .ok (.istore_n 3, 1) := by decide +kernel
theorem dX11_areBeside_4 : decode cX11_areBeside 4 = .ok (.iload_n 3, 1) := by decide +kernel
theorem dX11_areBeside_5 : decode cX11_areBeside 5 = .ok (.iconst 3, 1) := by decide +kernel
theorem dX11_areBeside_6 : decode cX11_areBeside 6 = .ok (.if_icmp .ge 33, 3) := by decide +kernel
theorem dX11_areBeside_9 : decode cX11_areBeside 9 = .ok (.iload_n 2, 1) := by decide +kernel
theorem dX11_areBeside_10 : decode cX11_areBeside 10 = .ok (.iload_n 1, 1) := by decide +kernel
theorem dX11_areBeside_11 : decode cX11_areBeside 11 = .ok (.invokestatic 64, 3) := by decide +kernel
theorem dX11_areBeside_14 : decode cX11_areBeside 14 = .ok (.ifCond .eq 16, 3) := by decide +kernel
theorem dX11_areBeside_17 : decode cX11_areBeside 17 = .ok (.iload_n 0, 1) := by decide +kernel
theorem dX11_areBeside_18 : decode cX11_areBeside 18 = .ok (.iload_n 3, 1) := by decide +kernel
theorem dX11_areBeside_19 : decode cX11_areBeside 19 = .ok (.invokestatic 285, 3) := by decide +kernel
theorem dX11_areBeside_22 : decode cX11_areBeside 22 = .ok (.iload_n 1, 1) := by decide +kernel
theorem dX11_areBeside_23 : decode cX11_areBeside 23 = .ok (.if_icmp .ne 7, 3) := by decide +kernel
theorem dX11_areBeside_26 : decode cX11_areBeside 26 = .ok (.iconst 1, 1) := by decide +kernel
theorem dX11_areBeside_27 : decode cX11_areBeside 27 = .ok (.goto 4, 3) := by decide +kernel
theorem dX11_areBeside_30 : decode cX11_areBeside 30 = .ok (.iconst 0, 1) := by decide +kernel
theorem dX11_areBeside_31 : decode cX11_areBeside 31 = .ok (.ior, 1) := by decide +kernel
theorem dX11_areBeside_32 : decode cX11_areBeside 32 = .ok (.istore_n 2, 1) := by decide +kernel
theorem dX11_areBeside_33 : decode cX11_areBeside 33 = .ok (.iinc 3 1, 3) := by decide +kernel
theorem dX11_areBeside_36 : decode cX11_areBeside 36 = .ok (.goto (-32), 3) := by decide +kernel
theorem dX11_areBeside_39 : decode cX11_areBeside 39 = .ok (.iload_n 2, 1) := by decide +kernel
theorem dX11_areBeside_40 : decode cX11_areBeside 40 = .ok (.ireturn, 1) := by decide +kernel
theorem dX11_boardBeside_0 : decode cX11_boardBeside 0 = .ok (.iload_n 0, 1) := by decide +kernel
theorem dX11_boardBeside_1 : decode cX11_boardBeside 1 = .ok (.bipush 6, 2) := by decide +kernel
theorem dX11_boardBeside_3 : decode cX11_boardBeside 3 = .ok (.irem, 1) := by decide +kernel
theorem dX11_boardBeside_4 : decode cX11_boardBeside 4 = .ok (.istore_n 2, 1) := by decide +kernel
theorem dX11_boardBeside_5 : decode cX11_boardBeside 5 = .ok (.iload_n 1, 1) := by decide +kernel
theorem dX11_boardBeside_6 : decode cX11_boardBeside 6 = .ok (.ifCond .ne 15, 3) := by decide +kernel
theorem dX11_boardBeside_9 : decode cX11_boardBeside 9 = .ok (.iload_n 2, 1) := by decide +kernel
theorem dX11_boardBeside_10 : decode cX11_boardBeside 10 = .ok (.ifCond .le 9, 3) := by decide +kernel
theorem dX11_boardBeside_13 : decode cX11_boardBeside 13 = .ok (.iload_n 0, 1) := by decide +kernel
theorem dX11_boardBeside_14 : decode cX11_boardBeside 14 = .ok (.iconst 1, 1) := by decide +kernel
theorem dX11_boardBeside_15 : decode cX11_boardBeside 15 = .ok (.isub, 1) := by decide +kernel
theorem dX11_boardBeside_16 : decode cX11_boardBeside 16 = .ok (.goto 4, 3) := by decide +kernel
theorem dX11_boardBeside_19 : decode cX11_boardBeside 19 = .ok (.iconst (-1), 1) := by decide +kernel
theorem dX11_boardBeside_20 : decode cX11_boardBeside 20 = .ok (.ireturn, 1) := by decide +kernel
theorem dX11_boardBeside_21 : decode cX11_boardBeside 21 = .ok (.iload_n 1, 1) := by decide +kernel
theorem dX11_boardBeside_22 : decode cX11_boardBeside 22 = .ok (.iconst 1, 1) := by decide +kernel
theorem dX11_boardBeside_23 : decode cX11_boardBeside 23 = .ok (.if_icmp .ne 16, 3) := by decide +kernel
theorem dX11_boardBeside_26 : decode cX11_boardBeside 26 = .ok (.iload_n 2, 1) := by decide +kernel
theorem dX11_boardBeside_27 : decode cX11_boardBeside 27 = .ok (.iconst 5, 1) := by decide +kernel
theorem dX11_boardBeside_28 : decode cX11_boardBeside 28 = .ok (.if_icmp .ge 9, 3) := by decide +kernel
theorem dX11_boardBeside_31 : decode cX11_boardBeside 31 = .ok (.iload_n 0, 1) := by decide +kernel
theorem dX11_boardBeside_32 : decode cX11_boardBeside 32 = .ok (.iconst 1, 1) := by decide +kernel
theorem dX11_boardBeside_33 : decode cX11_boardBeside 33 = .ok (.iadd, 1) := by decide +kernel
theorem dX11_boardBeside_34 : decode cX11_boardBeside 34 = .ok (.goto 4, 3) := by decide +kernel
theorem dX11_boardBeside_37 : decode cX11_boardBeside 37 = .ok (.iconst (-1), 1) := by decide +kernel
theorem dX11_boardBeside_38 : decode cX11_boardBeside 38 = .ok (.ireturn, 1) := by decide +kernel
theorem dX11_boardBeside_39 : decode cX11_boardBeside 39 = .ok (.iload_n 0, 1) := by decide +kernel
theorem dX11_boardBeside_40 : decode cX11_boardBeside 40 = .ok (.bipush 6, 2) := by decide +kernel
theorem dX11_boardBeside_42 : decode cX11_boardBeside 42 = .ok (.if_icmp .ge 10, 3) := by decide +kernel
theorem dX11_boardBeside_45 : decode cX11_boardBeside 45 = .ok (.iload_n 0, 1) := by decide +kernel
theorem dX11_boardBeside_46 : decode cX11_boardBeside 46 = .ok (.bipush 6, 2) := by decide +kernel
theorem dX11_boardBeside_48 : decode cX11_boardBeside 48 = .ok (.iadd, 1) := by decide +kernel
theorem dX11_boardBeside_49 : decode cX11_boardBeside 49 = .ok (.goto 7, 3) := by decide +kernel
theorem dX11_boardBeside_52 : decode cX11_boardBeside 52 = .ok (.iload_n 0, 1) := by decide +kernel
theorem dX11_boardBeside_53 : decode cX11_boardBeside 53 = .ok (.bipush 6, 2) := by decide +kernel
theorem dX11_boardBeside_55 : decode cX11_boardBeside 55 = .ok (.isub, 1) := by decide +kernel
theorem dX11_boardBeside_56 : decode cX11_boardBeside 56 = .ok (.ireturn, 1) := by decide +kernel
theorem dX11_stirsBehind_0 : decode cX11_stirsBehind 0 = .ok (.iload_n 0, 1) := by decide +kernel
theorem dX11_stirsBehind_1 : decode cX11_stirsBehind 1 = .ok (.iload_n 1, 1) := by decide +kernel
theorem dX11_stirsBehind_2 : decode cX11_stirsBehind 2 = .ok (.if_icmp .le 5, 3) := by decide +kernel
theorem dX11_stirsBehind_5 : decode cX11_stirsBehind 5 = .ok (.iconst 3, 1) := by decide +kernel
theorem dX11_stirsBehind_6 : decode cX11_stirsBehind 6 = .ok (.ireturn, 1) := by decide +kernel
theorem dX11_stirsBehind_7 : decode cX11_stirsBehind 7 = .ok (.iconst 2, 1) := by decide +kernel
theorem dX11_stirsBehind_8 : decode cX11_stirsBehind 8 = .ok (.iload_n 0, 1) := by decide +kernel
theorem dX11_stirsBehind_9 : decode cX11_stirsBehind 9 = .ok (.imul, 1) := by decide +kernel
theorem dX11_stirsBehind_10 : decode cX11_stirsBehind 10 = .ok (.iload_n 1, 1) := by decide +kernel
theorem dX11_stirsBehind_11 : decode cX11_stirsBehind 11 = .ok (.if_icmp .le 9, 3) := by decide +kernel
theorem dX11_stirsBehind_14 : decode cX11_stirsBehind 14 = .ok (.iload_n 2, 1) := by decide +kernel
theorem dX11_stirsBehind_15 : decode cX11_stirsBehind 15 = .ok (.iconst 1, 1) := by decide +kernel
theorem dX11_stirsBehind_16 : decode cX11_stirsBehind 16 = .ok (.iadd, 1) := by decide +kernel
theorem dX11_stirsBehind_17 : decode cX11_stirsBehind 17 = .ok (.goto 4, 3) := by decide +kernel
theorem dX11_stirsBehind_20 : decode cX11_stirsBehind 20 = .ok (.iload_n 2, 1) := by decide +kernel
theorem dX11_stirsBehind_21 : decode cX11_stirsBehind 21 = .ok (.ireturn, 1) := by decide +kernel
theorem dX11_isFewer_0 : decode cX11_isFewer 0 = .ok (.iload_n 0, 1) := by decide +kernel
theorem dX11_isFewer_1 : decode cX11_isFewer 1 = .ok (.bipush (-5), 2) := by decide +kernel
theorem dX11_isFewer_3 : decode cX11_isFewer 3 = .ok (.if_icmp .eq 18, 3) := by decide +kernel
theorem dX11_isFewer_6 : decode cX11_isFewer 6 = .ok (.iload_n 1, 1) := by decide +kernel
theorem dX11_isFewer_7 : decode cX11_isFewer 7 = .ok (.bipush (-5), 2) := by decide +kernel
theorem dX11_isFewer_9 : decode cX11_isFewer 9 = .ok (.if_icmp .eq 8, 3) := by decide +kernel
theorem dX11_isFewer_12 : decode cX11_isFewer 12 = .ok (.iload_n 0, 1) := by decide +kernel
theorem dX11_isFewer_13 : decode cX11_isFewer 13 = .ok (.iload_n 1, 1) := by decide +kernel
theorem dX11_isFewer_14 : decode cX11_isFewer 14 = .ok (.if_icmp .ge 7, 3) := by decide +kernel
theorem dX11_isFewer_17 : decode cX11_isFewer 17 = .ok (.iconst 1, 1) := by decide +kernel
theorem dX11_isFewer_18 : decode cX11_isFewer 18 = .ok (.goto 4, 3) := by decide +kernel
theorem dX11_isFewer_21 : decode cX11_isFewer 21 = .ok (.iconst 0, 1) := by decide +kernel
theorem dX11_isFewer_22 : decode cX11_isFewer 22 = .ok (.ireturn, 1) := by decide +kernel
theorem dX11_fraction_0 : decode cX11_fraction 0 = .ok (.iload_n 1, 1) := by decide +kernel
theorem dX11_fraction_1 : decode cX11_fraction 1 = .ok (.istore_n 3, 1) := by decide +kernel
theorem dX11_fraction_2 : decode cX11_fraction 2 = .ok (.iload_n 0, 1) := by decide +kernel
theorem dX11_fraction_3 : decode cX11_fraction 3 = .ok (.istore 4, 2) := by decide +kernel
theorem dX11_fraction_5 : decode cX11_fraction 5 = .ok (.iconst 0, 1) := by decide +kernel
theorem dX11_fraction_6 : decode cX11_fraction 6 = .ok (.istore 5, 2) := by decide +kernel
theorem dX11_fraction_8 : decode cX11_fraction 8 = .ok (.iload 5, 2) := by decide +kernel
theorem dX11_fraction_10 : decode cX11_fraction 10 = .ok (.bipush 64, 2) := by decide +kernel
theorem dX11_fraction_12 : decode cX11_fraction 12 = .ok (.if_icmp .ge 27, 3) := by decide +kernel
theorem dX11_fraction_15 : decode cX11_fraction 15 = .ok (.iload 4, 2) := by decide +kernel
theorem dX11_fraction_17 : decode cX11_fraction 17 = .ok (.ifCond .le 22, 3) := by decide +kernel
theorem dX11_fraction_20 : decode cX11_fraction 20 = .ok (.iload_n 3, 1) := by decide +kernel
theorem dX11_fraction_21 : decode cX11_fraction 21 = .ok (.iload 4, 2) := by decide +kernel
theorem dX11_fraction_23 : decode cX11_fraction 23 = .ok (.irem, 1) := by decide +kernel
theorem dX11_fraction_24 : decode cX11_fraction 24 = .ok (.istore 6, 2) := by decide +kernel
theorem dX11_fraction_26 : decode cX11_fraction 26 = .ok (.iload 4, 2) := by decide +kernel
theorem dX11_fraction_28 : decode cX11_fraction 28 = .ok (.istore_n 3, 1) := by decide +kernel
theorem dX11_fraction_29 : decode cX11_fraction 29 = .ok (.iload 6, 2) := by decide +kernel
theorem dX11_fraction_31 : decode cX11_fraction 31 = .ok (.istore 4, 2) := by decide +kernel
theorem dX11_fraction_33 : decode cX11_fraction 33 = .ok (.iinc 5 1, 3) := by decide +kernel
theorem dX11_fraction_36 : decode cX11_fraction 36 = .ok (.goto (-28), 3) := by decide +kernel
theorem dX11_fraction_39 : decode cX11_fraction 39 = .ok (.iload_n 3, 1) := by decide +kernel
theorem dX11_fraction_40 : decode cX11_fraction 40 = .ok (.iconst 1, 1) := by decide +kernel
theorem dX11_fraction_41 : decode cX11_fraction 41 = .ok (.if_icmp .ge 7, 3) := by decide +kernel
theorem dX11_fraction_44 : decode cX11_fraction 44 = .ok (.ldc2_w 220, 3) := by decide +kernel
theorem dX11_fraction_47 : decode cX11_fraction 47 = .ok (.lreturn, 1) := by decide +kernel
theorem dX11_fraction_48 : decode cX11_fraction 48 = .ok (.iload_n 2, 1) := by decide +kernel
theorem dX11_fraction_49 : decode cX11_fraction 49 = .ok (.ifCond .ne 10, 3) := by decide +kernel
theorem dX11_fraction_52 : decode cX11_fraction 52 = .ok (.iload_n 0, 1) := by decide +kernel
theorem dX11_fraction_53 : decode cX11_fraction 53 = .ok (.iload_n 3, 1) := by decide +kernel
theorem dX11_fraction_54 : decode cX11_fraction 54 = .ok (.idiv, 1) := by decide +kernel
theorem dX11_fraction_55 : decode cX11_fraction 55 = .ok (.i2l, 1) := by decide +kernel
theorem dX11_fraction_56 : decode cX11_fraction 56 = .ok (.goto 7, 3) := by decide +kernel
theorem dX11_fraction_59 : decode cX11_fraction 59 = .ok (.iload_n 1, 1) := by decide +kernel
theorem dX11_fraction_60 : decode cX11_fraction 60 = .ok (.iload_n 3, 1) := by decide +kernel
theorem dX11_fraction_61 : decode cX11_fraction 61 = .ok (.idiv, 1) := by decide +kernel
theorem dX11_fraction_62 : decode cX11_fraction 62 = .ok (.i2l, 1) := by decide +kernel
theorem dX11_fraction_63 : decode cX11_fraction 63 = .ok (.lreturn, 1) := by decide +kernel
theorem dX11_find_0 : decode cX11_find 0 = .ok (.iload_n 1, 1) := by decide +kernel
theorem dX11_find_1 : decode cX11_find 1 = .ok (.ifCond .lt 19, 3) := by decide +kernel
theorem dX11_find_4 : decode cX11_find 4 = .ok (.iload_n 1, 1) := by decide +kernel
theorem dX11_find_5 : decode cX11_find 5 = .ok (.iconst 4, 1) := by decide +kernel
theorem dX11_find_6 : decode cX11_find 6 = .ok (.if_icmp .ge 14, 3) := by decide +kernel
theorem dX11_find_9 : decode cX11_find 9 = .ok (.iload_n 1, 1) := by decide +kernel
theorem dX11_find_10 : decode cX11_find 10 = .ok (.aload_n 0, 1) := by decide +kernel
theorem dX11_find_11 : decode cX11_find 11 = .ok (.getfield 12, 3) := by decide +kernel
theorem dX11_find_14 : decode cX11_find 14 = .ok (.getfield 82, 3) := by decide +kernel
theorem dX11_find_17 : decode cX11_find 17 = .ok (.if_icmp .lt 5, 3) := by decide +kernel
theorem dX11_find_20 : decode cX11_find 20 = .ok (.aconst_null, 1) := by decide +kernel
theorem dX11_find_21 : decode cX11_find 21 = .ok (.areturn, 1) := by decide +kernel
theorem dX11_find_22 : decode cX11_find 22 = .ok (.aload_n 0, 1) := by decide +kernel
theorem dX11_find_23 : decode cX11_find 23 = .ok (.getfield 23, 3) := by decide +kernel
theorem dX11_find_26 : decode cX11_find 26 = .ok (.iload_n 1, 1) := by decide +kernel
theorem dX11_find_27 : decode cX11_find 27 = .ok (.aaload, 1) := by decide +kernel
theorem dX11_find_28 : decode cX11_find 28 = .ok (.areturn, 1) := by decide +kernel
theorem dX11_newWalker_0 : decode cX11_newWalker 0 = .ok (.iload_n 0, 1) := by decide +kernel
theorem dX11_newWalker_1 : decode cX11_newWalker 1 = .ok (.tableswitch 105 1 6 #[39, 50, 61, 72, 83, 94], 39) := by decide +kernel
theorem dX11_newWalker_40 : decode cX11_newWalker 40 = .ok (.new 288, 3) := by decide +kernel
theorem dX11_newWalker_43 : decode cX11_newWalker 43 = .ok (.dup, 1) := by decide +kernel
theorem dX11_newWalker_44 : decode cX11_newWalker 44 = .ok (.iload_n 1, 1) := by decide +kernel
theorem dX11_newWalker_45 : decode cX11_newWalker 45 = .ok (.iload_n 2, 1) := by decide +kernel
theorem dX11_newWalker_46 : decode cX11_newWalker 46 = .ok (.iload_n 3, 1) := by decide +kernel
theorem dX11_newWalker_47 : decode cX11_newWalker 47 = .ok (.invokespecial 290, 3) := by decide +kernel
theorem dX11_newWalker_50 : decode cX11_newWalker 50 = .ok (.areturn, 1) := by decide +kernel
theorem dX11_newWalker_51 : decode cX11_newWalker 51 = .ok (.new 293, 3) := by decide +kernel
theorem dX11_newWalker_54 : decode cX11_newWalker 54 = .ok (.dup, 1) := by decide +kernel
theorem dX11_newWalker_55 : decode cX11_newWalker 55 = .ok (.iload_n 1, 1) := by decide +kernel
theorem dX11_newWalker_56 : decode cX11_newWalker 56 = .ok (.iload_n 2, 1) := by decide +kernel
theorem dX11_newWalker_57 : decode cX11_newWalker 57 = .ok (.iload_n 3, 1) := by decide +kernel
theorem dX11_newWalker_58 : decode cX11_newWalker 58 = .ok (.invokespecial 295, 3) := by decide +kernel
theorem dX11_newWalker_61 : decode cX11_newWalker 61 = .ok (.areturn, 1) := by decide +kernel
theorem dX11_newWalker_62 : decode cX11_newWalker 62 = .ok (.new 296, 3) := by decide +kernel
theorem dX11_newWalker_65 : decode cX11_newWalker 65 = .ok (.dup, 1) := by decide +kernel
theorem dX11_newWalker_66 : decode cX11_newWalker 66 = .ok (.iload_n 1, 1) := by decide +kernel
theorem dX11_newWalker_67 : decode cX11_newWalker 67 = .ok (.iload_n 2, 1) := by decide +kernel
theorem dX11_newWalker_68 : decode cX11_newWalker 68 = .ok (.iload_n 3, 1) := by decide +kernel
theorem dX11_newWalker_69 : decode cX11_newWalker 69 = .ok (.invokespecial 298, 3) := by decide +kernel
theorem dX11_newWalker_72 : decode cX11_newWalker 72 = .ok (.areturn, 1) := by decide +kernel
theorem dX11_newWalker_73 : decode cX11_newWalker 73 = .ok (.new 299, 3) := by decide +kernel
theorem dX11_newWalker_76 : decode cX11_newWalker 76 = .ok (.dup, 1) := by decide +kernel
theorem dX11_newWalker_77 : decode cX11_newWalker 77 = .ok (.iload_n 1, 1) := by decide +kernel
theorem dX11_newWalker_78 : decode cX11_newWalker 78 = .ok (.iload_n 2, 1) := by decide +kernel
theorem dX11_newWalker_79 : decode cX11_newWalker 79 = .ok (.iload_n 3, 1) := by decide +kernel
theorem dX11_newWalker_80 : decode cX11_newWalker 80 = .ok (.invokespecial 301, 3) := by decide +kernel
theorem dX11_newWalker_83 : decode cX11_newWalker 83 = .ok (.areturn, 1) := by decide +kernel
theorem dX11_newWalker_84 : decode cX11_newWalker 84 = .ok (.new 302, 3) := by decide +kernel
theorem dX11_newWalker_87 : decode cX11_newWalker 87 = .ok (.dup, 1) := by decide +kernel
theorem dX11_newWalker_88 : decode cX11_newWalker 88 = .ok (.iload_n 1, 1) := by decide +kernel
theorem dX11_newWalker_89 : decode cX11_newWalker 89 = .ok (.iload_n 2, 1) := by decide +kernel
theorem dX11_newWalker_90 : decode cX11_newWalker 90 = .ok (.iload_n 3, 1) := by decide +kernel
theorem dX11_newWalker_91 : decode cX11_newWalker 91 = .ok (.invokespecial 304, 3) := by decide +kernel
theorem dX11_newWalker_94 : decode cX11_newWalker 94 = .ok (.areturn, 1) := by decide +kernel
theorem dX11_newWalker_95 : decode cX11_newWalker 95 = .ok (.new 110, 3) := by decide +kernel
theorem dX11_newWalker_98 : decode cX11_newWalker 98 = .ok (.dup, 1) := by decide +kernel
theorem dX11_newWalker_99 : decode cX11_newWalker 99 = .ok (.iload_n 1, 1) := by decide +kernel
theorem dX11_newWalker_100 : decode cX11_newWalker 100 = .ok (.iload_n 2, 1) := by decide +kernel
theorem dX11_newWalker_101 : decode cX11_newWalker 101 = .ok (.iload_n 3, 1) := by decide +kernel
theorem dX11_newWalker_102 : decode cX11_newWalker 102 = .ok (.invokespecial 305, 3) := by decide +kernel
theorem dX11_newWalker_105 : decode cX11_newWalker 105 = .ok (.areturn, 1) := by decide +kernel
theorem dX11_newWalker_106 : decode cX11_newWalker 106 = .ok (.new 21, 3) := by decide +kernel
theorem dX11_newWalker_109 : decode cX11_newWalker 109 = .ok (.dup, 1) := by decide +kernel
theorem dX11_newWalker_110 : decode cX11_newWalker 110 = .ok (.iload_n 1, 1) := by decide +kernel
theorem dX11_newWalker_111 : decode cX11_newWalker 111 = .ok (.iload_n 2, 1) := by decide +kernel
theorem dX11_newWalker_112 : decode cX11_newWalker 112 = .ok (.iload_n 3, 1) := by decide +kernel
theorem dX11_newWalker_113 : decode cX11_newWalker 113 = .ok (.invokespecial 306, 3) := by decide +kernel
theorem dX11_newWalker_116 : decode cX11_newWalker 116 = .ok (.areturn, 1) := by decide +kernel
theorem dX11_isOfKind_0 : decode cX11_isOfKind 0 = .ok (.iload_n 1, 1) := by decide +kernel
theorem dX11_isOfKind_1 : decode cX11_isOfKind 1 = .ok (.tableswitch 66 0 5 #[39, 41, 46, 51, 56, 61], 39) := by decide +kernel
theorem dX11_isOfKind_40 : decode cX11_isOfKind 40 = .ok (.iconst 1, 1) := by decide +kernel
theorem dX11_isOfKind_41 : decode cX11_isOfKind 41 = .ok (.ireturn, 1) := by decide +kernel
theorem dX11_isOfKind_42 : decode cX11_isOfKind 42 = .ok (.aload_n 0, 1) := by decide +kernel
theorem dX11_isOfKind_43 : decode cX11_isOfKind 43 = .ok (.instanceof 288, 3) := by decide +kernel
theorem dX11_isOfKind_46 : decode cX11_isOfKind 46 = .ok (.ireturn, 1) := by decide +kernel
theorem dX11_isOfKind_47 : decode cX11_isOfKind 47 = .ok (.aload_n 0, 1) := by decide +kernel
theorem dX11_isOfKind_48 : decode cX11_isOfKind 48 = .ok (.instanceof 293, 3) := by decide +kernel
theorem dX11_isOfKind_51 : decode cX11_isOfKind 51 = .ok (.ireturn, 1) := by decide +kernel
theorem dX11_isOfKind_52 : decode cX11_isOfKind 52 = .ok (.aload_n 0, 1) := by decide +kernel
theorem dX11_isOfKind_53 : decode cX11_isOfKind 53 = .ok (.instanceof 296, 3) := by decide +kernel
theorem dX11_isOfKind_56 : decode cX11_isOfKind 56 = .ok (.ireturn, 1) := by decide +kernel
theorem dX11_isOfKind_57 : decode cX11_isOfKind 57 = .ok (.aload_n 0, 1) := by decide +kernel
theorem dX11_isOfKind_58 : decode cX11_isOfKind 58 = .ok (.instanceof 299, 3) := by decide +kernel
theorem dX11_isOfKind_61 : decode cX11_isOfKind 61 = .ok (.ireturn, 1) := by decide +kernel
theorem dX11_isOfKind_62 : decode cX11_isOfKind 62 = .ok (.aload_n 0, 1) := by decide +kernel
theorem dX11_isOfKind_63 : decode cX11_isOfKind 63 = .ok (.instanceof 302, 3) := by decide +kernel
theorem dX11_isOfKind_66 : decode cX11_isOfKind 66 = .ok (.ireturn, 1) := by decide +kernel
theorem dX11_isOfKind_67 : decode cX11_isOfKind 67 = .ok (.aload_n 0, 1) := by decide +kernel
theorem dX11_isOfKind_68 : decode cX11_isOfKind 68 = .ok (.instanceof 110, 3) := by decide +kernel
theorem dX11_isOfKind_71 : decode cX11_isOfKind 71 = .ok (.ireturn, 1) := by decide +kernel
theorem dX11_bestChange_0 : decode cX11_bestChange 0 = .ok (.aload_n 0, 1) := by decide +kernel
theorem dX11_bestChange_1 : decode cX11_bestChange 1 = .ok (.getfield 43, 3) := by decide +kernel
theorem dX11_bestChange_4 : decode cX11_bestChange 4 = .ok (.aload_n 1, 1) := by decide +kernel
theorem dX11_bestChange_5 : decode cX11_bestChange 5 = .ok (.getfield 100, 3) := by decide +kernel
theorem dX11_bestChange_8 : decode cX11_bestChange 8 = .ok (.aload_n 0, 1) := by decide +kernel
theorem dX11_bestChange_9 : decode cX11_bestChange 9 = .ok (.getfield 12, 3) := by decide +kernel
theorem dX11_bestChange_12 : decode cX11_bestChange 12 = .ok (.getfield 103, 3) := by decide +kernel
theorem dX11_bestChange_15 : decode cX11_bestChange 15 = .ok (.aload_n 0, 1) := by decide +kernel
theorem dX11_bestChange_16 : decode cX11_bestChange 16 = .ok (.getfield 12, 3) := by decide +kernel
theorem dX11_bestChange_19 : decode cX11_bestChange 19 = .ok (.getfield 133, 3) := by decide +kernel
theorem dX11_bestChange_22 : decode cX11_bestChange 22 = .ok (.iconst 0, 1) := by decide +kernel
theorem dX11_bestChange_23 : decode cX11_bestChange 23 = .ok (.invokevirtual 183, 3) := by decide +kernel
theorem dX11_bestChange_26 : decode cX11_bestChange 26 = .ok (.istore_n 3, 1) := by decide +kernel
theorem dX11_bestChange_27 : decode cX11_bestChange 27 = .ok (.bipush (-5), 2) := by decide +kernel
theorem dX11_bestChange_29 : decode cX11_bestChange 29 = .ok (.istore 4, 2) := by decide +kernel
theorem dX11_bestChange_31 : decode cX11_bestChange 31 = .ok (.iconst 0, 1) := by decide +kernel
theorem dX11_bestChange_32 : decode cX11_bestChange 32 = .ok (.istore 5, 2) := by decide +kernel
theorem dX11_bestChange_34 : decode cX11_bestChange 34 = .ok (.iload 5, 2) := by decide +kernel
theorem dX11_bestChange_36 : decode cX11_bestChange 36 = .ok (.bipush 12, 2) := by decide +kernel
theorem dX11_bestChange_38 : decode cX11_bestChange 38 = .ok (.if_icmp .ge 148, 3) := by decide +kernel
theorem dX11_bestChange_41 : decode cX11_bestChange 41 = .ok (.aload_n 0, 1) := by decide +kernel
theorem dX11_bestChange_42 : decode cX11_bestChange 42 = .ok (.getfield 12, 3) := by decide +kernel
theorem dX11_bestChange_45 : decode cX11_bestChange 45 = .ok (.getfield 68, 3) := by decide +kernel
theorem dX11_bestChange_48 : decode cX11_bestChange 48 = .ok (.iload 5, 2) := by decide +kernel
theorem dX11_bestChange_50 : decode cX11_bestChange 50 = .ok (.iaload, 1) := by decide +kernel
theorem dX11_bestChange_51 : decode cX11_bestChange 51 = .ok (.istore 6, 2) := by decide +kernel
theorem dX11_bestChange_53 : decode cX11_bestChange 53 = .ok (.aload_n 0, 1) := by decide +kernel
theorem dX11_bestChange_54 : decode cX11_bestChange 54 = .ok (.getfield 12, 3) := by decide +kernel
theorem dX11_bestChange_57 : decode cX11_bestChange 57 = .ok (.iload 5, 2) := by decide +kernel
theorem dX11_bestChange_59 : decode cX11_bestChange 59 = .ok (.invokevirtual 71, 3) := by decide +kernel
theorem dX11_bestChange_62 : decode cX11_bestChange 62 = .ok (.istore 7, 2) := by decide +kernel
theorem dX11_bestChange_64 : decode cX11_bestChange 64 = .ok (.iload_n 2, 1) := by decide +kernel
theorem dX11_bestChange_65 : decode cX11_bestChange 65 = .ok (.ifCond .eq 11, 3) := by decide +kernel
theorem dX11_bestChange_68 : decode cX11_bestChange 68 = .ok (.iload 7, 2) := by decide +kernel
theorem dX11_bestChange_70 : decode cX11_bestChange 70 = .ok (.ifCond .ne 14, 3) := by decide +kernel
theorem dX11_bestChange_73 : decode cX11_bestChange 73 = .ok (.goto 107, 3) := by decide +kernel
theorem dX11_bestChange_76 : decode cX11_bestChange 76 = .ok (.iload 6, 2) := by decide +kernel
theorem dX11_bestChange_78 : decode cX11_bestChange 78 = .ok (.ifCond .ne 6, 3) := by decide +kernel
theorem dX11_bestChange_81 : decode cX11_bestChange 81 = .ok (.goto 99, 3) := by decide +kernel
theorem dX11_bestChange_84 : decode cX11_bestChange 84 = .ok (.aload_n 0, 1) := by decide +kernel
theorem dX11_bestChange_85 : decode cX11_bestChange 85 = .ok (.getfield 43, 3) := by decide +kernel
theorem dX11_bestChange_88 : decode cX11_bestChange 88 = .ok (.aload_n 0, 1) := by decide +kernel
theorem dX11_bestChange_89 : decode cX11_bestChange 89 = .ok (.getfield 12, 3) := by decide +kernel
theorem dX11_bestChange_92 : decode cX11_bestChange 92 = .ok (.aload_n 1, 1) := by decide +kernel
theorem dX11_bestChange_93 : decode cX11_bestChange 93 = .ok (.iload 5, 2) := by decide +kernel
theorem dX11_bestChange_95 : decode cX11_bestChange 95 = .ok (.iload_n 2, 1) := by decide +kernel
theorem dX11_bestChange_96 : decode cX11_bestChange 96 = .ok (.ifCond .eq 8, 3) := by decide +kernel
theorem dX11_bestChange_99 : decode cX11_bestChange 99 = .ok (.iload 6, 2) := by decide +kernel
theorem dX11_bestChange_101 : decode cX11_bestChange 101 = .ok (.goto 4, 3) := by decide +kernel
theorem dX11_bestChange_104 : decode cX11_bestChange 104 = .ok (.iconst 0, 1) := by decide +kernel
theorem dX11_bestChange_105 : decode cX11_bestChange 105 = .ok (.iload_n 2, 1) := by decide +kernel
theorem dX11_bestChange_106 : decode cX11_bestChange 106 = .ok (.ifCond .eq 7, 3) := by decide +kernel
theorem dX11_bestChange_109 : decode cX11_bestChange 109 = .ok (.iconst 0, 1) := by decide +kernel
theorem dX11_bestChange_110 : decode cX11_bestChange 110 = .ok (.goto 5, 3) := by decide +kernel
theorem dX11_bestChange_113 : decode cX11_bestChange 113 = .ok (.iload 7, 2) := by decide +kernel
theorem dX11_bestChange_115 : decode cX11_bestChange 115 = .ok (.invokevirtual 307, 3) := by decide +kernel
theorem dX11_bestChange_118 : decode cX11_bestChange 118 = .ok (.aload_n 0, 1) := by decide +kernel
theorem dX11_bestChange_119 : decode cX11_bestChange 119 = .ok (.getfield 43, 3) := by decide +kernel
theorem dX11_bestChange_122 : decode cX11_bestChange 122 = .ok (.aload_n 1, 1) := by decide +kernel
theorem dX11_bestChange_123 : decode cX11_bestChange 123 = .ok (.getfield 100, 3) := by decide +kernel
theorem dX11_bestChange_126 : decode cX11_bestChange 126 = .ok (.aload_n 0, 1) := by decide +kernel
theorem dX11_bestChange_127 : decode cX11_bestChange 127 = .ok (.getfield 12, 3) := by decide +kernel
theorem dX11_bestChange_130 : decode cX11_bestChange 130 = .ok (.getfield 103, 3) := by decide +kernel
theorem dX11_bestChange_133 : decode cX11_bestChange 133 = .ok (.aload_n 0, 1) := by decide +kernel
theorem dX11_bestChange_134 : decode cX11_bestChange 134 = .ok (.getfield 12, 3) := by decide +kernel
theorem dX11_bestChange_137 : decode cX11_bestChange 137 = .ok (.getfield 133, 3) := by decide +kernel
theorem dX11_bestChange_140 : decode cX11_bestChange 140 = .ok (.iconst 0, 1) := by decide +kernel
theorem dX11_bestChange_141 : decode cX11_bestChange 141 = .ok (.invokevirtual 183, 3) := by decide +kernel
theorem dX11_bestChange_144 : decode cX11_bestChange 144 = .ok (.istore 8, 2) := by decide +kernel
theorem dX11_bestChange_146 : decode cX11_bestChange 146 = .ok (.aload_n 0, 1) := by decide +kernel
theorem dX11_bestChange_147 : decode cX11_bestChange 147 = .ok (.getfield 43, 3) := by decide +kernel
theorem dX11_bestChange_150 : decode cX11_bestChange 150 = .ok (.aload_n 0, 1) := by decide +kernel
theorem dX11_bestChange_151 : decode cX11_bestChange 151 = .ok (.getfield 12, 3) := by decide +kernel
theorem dX11_bestChange_154 : decode cX11_bestChange 154 = .ok (.aload_n 1, 1) := by decide +kernel
theorem dX11_bestChange_155 : decode cX11_bestChange 155 = .ok (.iload 5, 2) := by decide +kernel
theorem dX11_bestChange_157 : decode cX11_bestChange 157 = .ok (.iload 6, 2) := by decide +kernel
theorem dX11_bestChange_159 : decode cX11_bestChange 159 = .ok (.iload 7, 2) := by decide +kernel
theorem dX11_bestChange_161 : decode cX11_bestChange 161 = .ok (.invokevirtual 307, 3) := by decide +kernel
theorem dX11_bestChange_164 : decode cX11_bestChange 164 = .ok (.iload 8, 2) := by decide +kernel
theorem dX11_bestChange_166 : decode cX11_bestChange 166 = .ok (.iload_n 3, 1) := by decide +kernel
theorem dX11_bestChange_167 : decode cX11_bestChange 167 = .ok (.invokestatic 197, 3) := by decide +kernel
theorem dX11_bestChange_170 : decode cX11_bestChange 170 = .ok (.ifCond .eq 10, 3) := by decide +kernel
theorem dX11_bestChange_173 : decode cX11_bestChange 173 = .ok (.iload 8, 2) := by decide +kernel
theorem dX11_bestChange_175 : decode cX11_bestChange 175 = .ok (.istore_n 3, 1) := by decide +kernel
theorem dX11_bestChange_176 : decode cX11_bestChange 176 = .ok (.iload 5, 2) := by decide +kernel
theorem dX11_bestChange_178 : decode cX11_bestChange 178 = .ok (.istore 4, 2) := by decide +kernel
theorem dX11_bestChange_180 : decode cX11_bestChange 180 = .ok (.iinc 5 1, 3) := by decide +kernel
theorem dX11_bestChange_183 : decode cX11_bestChange 183 = .ok (.goto (-149), 3) := by decide +kernel
theorem dX11_bestChange_186 : decode cX11_bestChange 186 = .ok (.iload 4, 2) := by decide +kernel
theorem dX11_bestChange_188 : decode cX11_bestChange 188 = .ok (.ireturn, 1) := by decide +kernel
theorem dX11_isTape_0 : decode cX11_isTape 0 = .ok (.iload_n 0, 1) := by decide +kernel
theorem dX11_isTape_1 : decode cX11_isTape 1 = .ok (.ifCond .lt 13, 3) := by decide +kernel
theorem dX11_isTape_4 : decode cX11_isTape 4 = .ok (.iload_n 0, 1) := by decide +kernel
theorem dX11_isTape_5 : decode cX11_isTape 5 = .ok (.bipush 6, 2) := by decide +kernel
theorem dX11_isTape_7 : decode cX11_isTape 7 = .ok (.if_icmp .ge 7, 3) := by decide +kernel
theorem dX11_isTape_10 : decode cX11_isTape 10 = .ok (.iconst 1, 1) := by decide +kernel
theorem dX11_isTape_11 : decode cX11_isTape 11 = .ok (.goto 4, 3) := by decide +kernel
theorem dX11_isTape_14 : decode cX11_isTape 14 = .ok (.iconst 0, 1) := by decide +kernel
theorem dX11_isTape_15 : decode cX11_isTape 15 = .ok (.ireturn, 1) := by decide +kernel
theorem dX11_hasPlace_0 : decode cX11_hasPlace 0 = .ok (.iload_n 2, 1) := by decide +kernel
theorem dX11_hasPlace_1 : decode cX11_hasPlace 1 = .ok (.ifCond .lt 23, 3) := by decide +kernel
theorem dX11_hasPlace_4 : decode cX11_hasPlace 4 = .ok (.iload_n 2, 1) := by decide +kernel
theorem dX11_hasPlace_5 : decode cX11_hasPlace 5 = .ok (.aload_n 0, 1) := by decide +kernel
theorem dX11_hasPlace_6 : decode cX11_hasPlace 6 = .ok (.getfield 51, 3) := by decide +kernel
theorem dX11_hasPlace_9 : decode cX11_hasPlace 9 = .ok (.iload_n 1, 1) := by decide +kernel
theorem dX11_hasPlace_10 : decode cX11_hasPlace 10 = .ok (.iaload, 1) := by decide +kernel
theorem dX11_hasPlace_11 : decode cX11_hasPlace 11 = .ok (.if_icmp .ge 13, 3) := by decide +kernel
theorem dX11_hasPlace_14 : decode cX11_hasPlace 14 = .ok (.iload_n 2, 1) := by decide +kernel
theorem dX11_hasPlace_15 : decode cX11_hasPlace 15 = .ok (.bipush 60, 2) := by decide +kernel
theorem dX11_hasPlace_17 : decode cX11_hasPlace 17 = .ok (.if_icmp .ge 7, 3) := by decide +kernel
theorem dX11_hasPlace_20 : decode cX11_hasPlace 20 = .ok (.iconst 1, 1) := by decide +kernel
theorem dX11_hasPlace_21 : decode cX11_hasPlace 21 = .ok (.goto 4, 3) := by decide +kernel
theorem dX11_hasPlace_24 : decode cX11_hasPlace 24 = .ok (.iconst 0, 1) := by decide +kernel
theorem dX11_hasPlace_25 : decode cX11_hasPlace 25 = .ok (.ireturn, 1) := by decide +kernel
theorem dX11_hasPart_0 : decode cX11_hasPart 0 = .ok (.aload_n 0, 1) := by decide +kernel
theorem dX11_hasPart_1 : decode cX11_hasPart 1 = .ok (.getfield 51, 3) := by decide +kernel
theorem dX11_hasPart_4 : decode cX11_hasPart 4 = .ok (.iload_n 1, 1) := by decide +kernel
theorem dX11_hasPart_5 : decode cX11_hasPart 5 = .ok (.iaload, 1) := by decide +kernel
theorem dX11_hasPart_6 : decode cX11_hasPart 6 = .ok (.bipush 60, 2) := by decide +kernel
theorem dX11_hasPart_8 : decode cX11_hasPart 8 = .ok (.invokestatic 235, 3) := by decide +kernel
theorem dX11_hasPart_11 : decode cX11_hasPart 11 = .ok (.istore 4, 2) := by decide +kernel
theorem dX11_hasPart_13 : decode cX11_hasPart 13 = .ok (.iload_n 3, 1) := by decide +kernel
theorem dX11_hasPart_14 : decode cX11_hasPart 14 = .ok (.ifCond .lt 25, 3) := by decide +kernel
theorem dX11_hasPart_17 : decode cX11_hasPart 17 = .ok (.iload_n 2, 1) := by decide +kernel
theorem dX11_hasPart_18 : decode cX11_hasPart 18 = .ok (.ifCond .lt 21, 3) := by decide +kernel
theorem dX11_hasPart_21 : decode cX11_hasPart 21 = .ok (.iload_n 3, 1) := by decide +kernel
theorem dX11_hasPart_22 : decode cX11_hasPart 22 = .ok (.iload 4, 2) := by decide +kernel
theorem dX11_hasPart_24 : decode cX11_hasPart 24 = .ok (.if_icmp .gt 15, 3) := by decide +kernel
theorem dX11_hasPart_27 : decode cX11_hasPart 27 = .ok (.iload_n 2, 1) := by decide +kernel
theorem dX11_hasPart_28 : decode cX11_hasPart 28 = .ok (.iload 4, 2) := by decide +kernel
theorem dX11_hasPart_30 : decode cX11_hasPart 30 = .ok (.iload_n 3, 1) := by decide +kernel
theorem dX11_hasPart_31 : decode cX11_hasPart 31 = .ok (.isub, 1) := by decide +kernel
theorem dX11_hasPart_32 : decode cX11_hasPart 32 = .ok (.if_icmp .gt 7, 3) := by decide +kernel
theorem dX11_hasPart_35 : decode cX11_hasPart 35 = .ok (.iconst 1, 1) := by decide +kernel
theorem dX11_hasPart_36 : decode cX11_hasPart 36 = .ok (.goto 4, 3) := by decide +kernel
theorem dX11_hasPart_39 : decode cX11_hasPart 39 = .ok (.iconst 0, 1) := by decide +kernel
theorem dX11_hasPart_40 : decode cX11_hasPart 40 = .ok (.ireturn, 1) := by decide +kernel
theorem dX11_lowestBits_0 : decode cX11_lowestBits 0 = .ok (.iload_n 0, 1) := by decide +kernel
theorem dX11_lowestBits_1 : decode cX11_lowestBits 1 = .ok (.tableswitch 47 0 3 #[31, 36, 41, 45], 31) := by decide +kernel
theorem dX11_lowestBits_32 : decode cX11_lowestBits 32 = .ok (.lload_n 1, 1) := by decide +kernel
theorem dX11_lowestBits_33 : decode cX11_lowestBits 33 = .ok (.l2i, 1) := by decide +kernel
theorem dX11_lowestBits_34 : decode cX11_lowestBits 34 = .ok (.i2b, 1) := by decide +kernel
theorem dX11_lowestBits_35 : decode cX11_lowestBits 35 = .ok (.i2l, 1) := by decide +kernel
theorem dX11_lowestBits_36 : decode cX11_lowestBits 36 = .ok (.lreturn, 1) := by decide +kernel
theorem dX11_lowestBits_37 : decode cX11_lowestBits 37 = .ok (.lload_n 1, 1) := by decide +kernel
theorem dX11_lowestBits_38 : decode cX11_lowestBits 38 = .ok (.l2i, 1) := by decide +kernel
theorem dX11_lowestBits_39 : decode cX11_lowestBits 39 = .ok (.i2s, 1) := by decide +kernel
theorem dX11_lowestBits_40 : decode cX11_lowestBits 40 = .ok (.i2l, 1) := by decide +kernel
theorem dX11_lowestBits_41 : decode cX11_lowestBits 41 = .ok (.lreturn, 1) := by decide +kernel
theorem dX11_lowestBits_42 : decode cX11_lowestBits 42 = .ok (.lload_n 1, 1) := by decide +kernel
theorem dX11_lowestBits_43 : decode cX11_lowestBits 43 = .ok (.l2i, 1) := by decide +kernel
theorem dX11_lowestBits_44 : decode cX11_lowestBits 44 = .ok (.i2l, 1) := by decide +kernel
theorem dX11_lowestBits_45 : decode cX11_lowestBits 45 = .ok (.lreturn, 1) := by decide +kernel
theorem dX11_lowestBits_46 : decode cX11_lowestBits 46 = .ok (.lload_n 1, 1) := by decide +kernel
theorem dX11_lowestBits_47 : decode cX11_lowestBits 47 = .ok (.lreturn, 1) := by decide +kernel
theorem dX11_lowestBits_48 : decode cX11_lowestBits 48 = .ok (.lload_n 1, 1) := by decide +kernel
theorem dX11_lowestBits_49 : decode cX11_lowestBits 49 = .ok (.lconst 0, 1) := by decide +kernel
theorem dX11_lowestBits_50 : decode cX11_lowestBits 50 = .ok (.lcmp, 1) := by decide +kernel
theorem dX11_lowestBits_51 : decode cX11_lowestBits 51 = .ok (.ifCond .eq 7, 3) := by decide +kernel
theorem dX11_lowestBits_54 : decode cX11_lowestBits 54 = .ok (.lconst 1, 1) := by decide +kernel
theorem dX11_lowestBits_55 : decode cX11_lowestBits 55 = .ok (.goto 4, 3) := by decide +kernel
theorem dX11_lowestBits_58 : decode cX11_lowestBits 58 = .ok (.lconst 0, 1) := by decide +kernel
theorem dX11_lowestBits_59 : decode cX11_lowestBits 59 = .ok (.lreturn, 1) := by decide +kernel
theorem dX12_init_0 : decode cX12_init 0 = .ok (.aload_n 0, 1) := by decide +kernel
theorem dX12_init_1 : decode cX12_init 1 = .ok (.invokespecial 1, 3) := by decide +kernel
theorem dX12_init_4 : decode cX12_init 4 = .ok (.aload_n 0, 1) := by decide +kernel
theorem dX12_init_5 : decode cX12_init 5 = .ok (.iconst 0, 1) := by decide +kernel
theorem dX12_init_6 : decode cX12_init 6 = .ok (.putfield 7, 3) := by decide +kernel
theorem dX12_init_9 : decode cX12_init 9 = .ok (.aload_n 0, 1) := by decide +kernel
theorem dX12_init_10 : decode cX12_init 10 = .ok (.iconst 0, 1) := by decide +kernel
theorem dX12_init_11 : decode cX12_init 11 = .ok (.putfield 13, 3) := by decide +kernel
theorem dX12_init_14 : decode cX12_init 14 = .ok (.aload_n 0, 1) := by decide +kernel
theorem dX12_init_15 : decode cX12_init 15 = .ok (.iconst 0, 1) := by decide +kernel
theorem dX12_init_16 : decode cX12_init 16 = .ok (.putfield 16, 3) := by decide +kernel
theorem dX12_init_19 : decode cX12_init 19 = .ok (.aload_n 0, 1) := by decide +kernel
theorem dX12_init_20 : decode cX12_init 20 = .ok (.iconst 0, 1) := by decide +kernel
theorem dX12_init_21 : decode cX12_init 21 = .ok (.putfield 19, 3) := by decide +kernel
theorem dX12_init_24 : decode cX12_init 24 = .ok (.aload_n 0, 1) := by decide +kernel
theorem dX12_init_25 : decode cX12_init 25 = .ok (.bipush 11, 2) := by decide +kernel
theorem dX12_init_27 : decode cX12_init 27 = .ok (.putfield 22, 3) := by decide +kernel
theorem dX12_init_30 : decode cX12_init 30 = .ok (.aload_n 0, 1) := by decide +kernel
theorem dX12_init_31 : decode cX12_init 31 = .ok (.iconst 0, 1) := by decide +kernel
theorem dX12_init_32 : decode cX12_init 32 = .ok (.putfield 25, 3) := by decide +kernel
theorem dX12_init_35 : decode cX12_init 35 = .ok (.aload_n 0, 1) := by decide +kernel
theorem dX12_init_36 : decode cX12_init 36 = .ok (.bipush 12, 2) := by decide +kernel
theorem dX12_init_38 : decode cX12_init 38 = .ok (.newarray .int, 2) := by decide +kernel
theorem dX12_init_40 : decode cX12_init 40 = .ok (.dup, 1) := by decide +kernel
theorem dX12_init_41 : decode cX12_init 41 = .ok (.iconst 0, 1) := by decide +kernel
theorem dX12_init_42 : decode cX12_init 42 = .ok (.iconst 3, 1) := by decide +kernel
theorem dX12_init_43 : decode cX12_init 43 = .ok (.iastore, 1) := by decide +kernel
theorem dX12_init_44 : decode cX12_init 44 = .ok (.dup, 1) := by decide +kernel
theorem dX12_init_45 : decode cX12_init 45 = .ok (.iconst 1, 1) := by decide +kernel
theorem dX12_init_46 : decode cX12_init 46 = .ok (.iconst 3, 1) := by decide +kernel
theorem dX12_init_47 : decode cX12_init 47 = .ok (.iastore, 1) := by decide +kernel
theorem dX12_init_48 : decode cX12_init 48 = .ok (.dup, 1) := by decide +kernel
theorem dX12_init_49 : decode cX12_init 49 = .ok (.iconst 2, 1) := by decide +kernel
theorem dX12_init_50 : decode cX12_init 50 = .ok (.iconst 3, 1) := by decide +kernel
theorem dX12_init_51 : decode cX12_init 51 = .ok (.iastore, 1) := by decide +kernel
theorem dX12_init_52 : decode cX12_init 52 = .ok (.dup, 1) := by decide +kernel
theorem dX12_init_53 : decode cX12_init 53 = .ok (.iconst 3, 1) := by decide +kernel
theorem dX12_init_54 : decode cX12_init 54 = .ok (.iconst 3, 1) := by decide +kernel
theorem dX12_init_55 : decode cX12_init 55 = .ok (.iastore, 1) := by decide +kernel
theorem dX12_init_56 : decode cX12_init 56 = .ok (.dup, 1) := by decide +kernel
theorem dX12_init_57 : decode cX12_init 57 = .ok (.iconst 4, 1) := by decide +kernel
theorem dX12_init_58 : decode cX12_init 58 = .ok (.iconst 3, 1) := by decide +kernel
theorem dX12_init_59 : decode cX12_init 59 = .ok (.iastore, 1) := by decide +kernel
theorem dX12_init_60 : decode cX12_init 60 = .ok (.dup, 1) := by decide +kernel
theorem dX12_init_61 : decode cX12_init 61 = .ok (.iconst 5, 1) := by decide +kernel
theorem dX12_init_62 : decode cX12_init 62 = .ok (.iconst 3, 1) := by decide +kernel
theorem dX12_init_63 : decode cX12_init 63 = .ok (.iastore, 1) := by decide +kernel
theorem dX12_init_64 : decode cX12_init 64 = .ok (.dup, 1) := by decide +kernel
theorem dX12_init_65 : decode cX12_init 65 = .ok (.bipush 6, 2) := by decide +kernel
theorem dX12_init_67 : decode cX12_init 67 = .ok (.iconst 3, 1) := by decide +kernel
theorem dX12_init_68 : decode cX12_init 68 = .ok (.iastore, 1) := by decide +kernel
theorem dX12_init_69 : decode cX12_init 69 = .ok (.dup, 1) := by decide +kernel
theorem dX12_init_70 : decode cX12_init 70 = .ok (.bipush 7, 2) := by decide +kernel
theorem dX12_init_72 : decode cX12_init 72 = .ok (.iconst 3, 1) := by decide +kernel
theorem dX12_init_73 : decode cX12_init 73 = .ok (.iastore, 1) := by decide +kernel
theorem dX12_init_74 : decode cX12_init 74 = .ok (.dup, 1) := by decide +kernel
theorem dX12_init_75 : decode cX12_init 75 = .ok (.bipush 8, 2) := by decide +kernel
theorem dX12_init_77 : decode cX12_init 77 = .ok (.iconst 3, 1) := by decide +kernel
theorem dX12_init_78 : decode cX12_init 78 = .ok (.iastore, 1) := by decide +kernel
theorem dX12_init_79 : decode cX12_init 79 = .ok (.dup, 1) := by decide +kernel
theorem dX12_init_80 : decode cX12_init 80 = .ok (.bipush 9, 2) := by decide +kernel
theorem dX12_init_82 : decode cX12_init 82 = .ok (.iconst 3, 1) := by decide +kernel
theorem dX12_init_83 : decode cX12_init 83 = .ok (.iastore, 1) := by decide +kernel
theorem dX12_init_84 : decode cX12_init 84 = .ok (.dup, 1) := by decide +kernel
theorem dX12_init_85 : decode cX12_init 85 = .ok (.bipush 10, 2) := by decide +kernel
theorem dX12_init_87 : decode cX12_init 87 = .ok (.iconst 3, 1) := by decide +kernel
theorem dX12_init_88 : decode cX12_init 88 = .ok (.iastore, 1) := by decide +kernel
theorem dX12_init_89 : decode cX12_init 89 = .ok (.dup, 1) := by decide +kernel
theorem dX12_init_90 : decode cX12_init 90 = .ok (.bipush 11, 2) := by decide +kernel
theorem dX12_init_92 : decode cX12_init 92 = .ok (.iconst 3, 1) := by decide +kernel
theorem dX12_init_93 : decode cX12_init 93 = .ok (.iastore, 1) := by decide +kernel
theorem dX12_init_94 : decode cX12_init 94 = .ok (.putfield 29, 3) := by decide +kernel
theorem dX12_init_97 : decode cX12_init 97 = .ok (.aload_n 0, 1) := by decide +kernel
theorem dX12_init_98 : decode cX12_init 98 = .ok (.iconst 4, 1) := by decide +kernel
theorem dX12_init_99 : decode cX12_init 99 = .ok (.newarray .int, 2) := by decide +kernel
theorem dX12_init_101 : decode cX12_init 101 = .ok (.putfield 33, 3) := by decide +kernel
theorem dX12_init_104 : decode cX12_init 104 = .ok (.aload_n 0, 1) := by decide +kernel
theorem dX12_init_105 : decode cX12_init 105 = .ok (.iconst 4, 1) := by decide +kernel
theorem dX12_init_106 : decode cX12_init 106 = .ok (.newarray .int, 2) := by decide +kernel
theorem dX12_init_108 : decode cX12_init 108 = .ok (.putfield 36, 3) := by decide +kernel
theorem dX12_init_111 : decode cX12_init 111 = .ok (.aload_n 0, 1) := by decide +kernel
theorem dX12_init_112 : decode cX12_init 112 = .ok (.iconst 4, 1) := by decide +kernel
theorem dX12_init_113 : decode cX12_init 113 = .ok (.newarray .int, 2) := by decide +kernel
theorem dX12_init_115 : decode cX12_init 115 = .ok (.putfield 39, 3) := by decide +kernel
theorem dX12_init_118 : decode cX12_init 118 = .ok (.aload_n 0, 1) := by decide +kernel
theorem dX12_init_119 : decode cX12_init 119 = .ok (.bipush 16, 2) := by decide +kernel
theorem dX12_init_121 : decode cX12_init 121 = .ok (.newarray .int, 2) := by decide +kernel
theorem dX12_init_123 : decode cX12_init 123 = .ok (.putfield 42, 3) := by decide +kernel
theorem dX12_init_126 : decode cX12_init 126 = .ok (.aload_n 0, 1) := by decide +kernel
theorem dX12_init_127 : decode cX12_init 127 = .ok (.iconst 0, 1) := by decide +kernel
theorem dX12_init_128 : decode cX12_init 128 = .ok (.putfield 45, 3) := by decide +kernel
theorem dX12_init_131 : decode cX12_init 131 = .ok (.aload_n 0, 1) := by decide +kernel
theorem dX12_init_132 : decode cX12_init 132 = .ok (.iconst (-1), 1) := by decide +kernel
theorem dX12_init_133 : decode cX12_init 133 = .ok (.putfield 48, 3) := by decide +kernel
theorem dX12_init_136 : decode cX12_init 136 = .ok (.aload_n 0, 1) := by decide +kernel
theorem dX12_init_137 : decode cX12_init 137 = .ok (.iconst 0, 1) := by decide +kernel
theorem dX12_init_138 : decode cX12_init 138 = .ok (.putfield 51, 3) := by decide +kernel
theorem dX12_init_141 : decode cX12_init 141 = .ok (.aload_n 0, 1) := by decide +kernel
theorem dX12_init_142 : decode cX12_init 142 = .ok (.iconst 0, 1) := by decide +kernel
theorem dX12_init_143 : decode cX12_init 143 = .ok (.putfield 54, 3) := by decide +kernel
theorem dX12_init_146 : decode cX12_init 146 = .ok (.aload_n 0, 1) := by decide +kernel
theorem dX12_init_147 : decode cX12_init 147 = .ok (.iconst 0, 1) := by decide +kernel
theorem dX12_init_148 : decode cX12_init 148 = .ok (.putfield 57, 3) := by decide +kernel
theorem dX12_init_151 : decode cX12_init 151 = .ok (.aload_n 0, 1) := by decide +kernel
theorem dX12_init_152 : decode cX12_init 152 = .ok (.bipush 100, 2) := by decide +kernel
theorem dX12_init_154 : decode cX12_init 154 = .ok (.newarray .int, 2) := by decide +kernel
theorem dX12_init_156 : decode cX12_init 156 = .ok (.putfield 60, 3) := by decide +kernel
theorem dX12_init_159 : decode cX12_init 159 = .ok (.aload_n 0, 1) := by decide +kernel
theorem dX12_init_160 : decode cX12_init 160 = .ok (.bipush 6, 2) := by decide +kernel
theorem dX12_init_162 : decode cX12_init 162 = .ok (.newarray .int, 2) := by decide +kernel
theorem dX12_init_164 : decode cX12_init 164 = .ok (.putfield 63, 3) := by decide +kernel
theorem dX12_init_167 : decode cX12_init 167 = .ok (.aload_n 0, 1) := by decide +kernel
theorem dX12_init_168 : decode cX12_init 168 = .ok (.bipush 60, 2) := by decide +kernel
theorem dX12_init_170 : decode cX12_init 170 = .ok (.newarray .int, 2) := by decide +kernel
theorem dX12_init_172 : decode cX12_init 172 = .ok (.putfield 66, 3) := by decide +kernel
theorem dX12_init_175 : decode cX12_init 175 = .ok (.aload_n 0, 1) := by decide +kernel
theorem dX12_init_176 : decode cX12_init 176 = .ok (.bipush 60, 2) := by decide +kernel
theorem dX12_init_178 : decode cX12_init 178 = .ok (.newarray .int, 2) := by decide +kernel
theorem dX12_init_180 : decode cX12_init 180 = .ok (.putfield 69, 3) := by decide +kernel
theorem dX12_init_183 : decode cX12_init 183 = .ok (.aload_n 0, 1) := by decide +kernel
theorem dX12_init_184 : decode cX12_init 184 = .ok (.bipush 60, 2) := by decide +kernel
theorem dX12_init_186 : decode cX12_init 186 = .ok (.newarray .int, 2) := by decide +kernel
theorem dX12_init_188 : decode cX12_init 188 = .ok (.putfield 72, 3) := by decide +kernel
theorem dX12_init_191 : decode cX12_init 191 = .ok (.aload_n 0, 1) := by decide +kernel
theorem dX12_init_192 : decode cX12_init 192 = .ok (.bipush 60, 2) := by decide +kernel
theorem dX12_init_194 : decode cX12_init 194 = .ok (.newarray .int, 2) := by decide +kernel
theorem dX12_init_196 : decode cX12_init 196 = .ok (.putfield 75, 3) := by decide +kernel
theorem dX12_init_199 : decode cX12_init 199 = .ok (.aload_n 0, 1) := by decide +kernel
theorem dX12_init_200 : decode cX12_init 200 = .ok (.sipush 600, 3) := by decide +kernel
theorem dX12_init_203 : decode cX12_init 203 = .ok (.newarray .int, 2) := by decide +kernel
theorem dX12_init_205 : decode cX12_init 205 = .ok (.putfield 78, 3) := by decide +kernel
theorem dX12_init_208 : decode cX12_init 208 = .ok (.aload_n 0, 1) := by decide +kernel
theorem dX12_init_209 : decode cX12_init 209 = .ok (.bipush 101, 2) := by decide +kernel
theorem dX12_init_211 : decode cX12_init 211 = .ok (.newarray .int, 2) := by decide +kernel
theorem dX12_init_213 : decode cX12_init 213 = .ok (.putfield 81, 3) := by decide +kernel
theorem dX12_init_216 : decode cX12_init 216 = .ok (.aload_n 0, 1) := by decide +kernel
theorem dX12_init_217 : decode cX12_init 217 = .ok (.iconst 0, 1) := by decide +kernel
theorem dX12_init_218 : decode cX12_init 218 = .ok (.putfield 84, 3) := by decide +kernel
theorem dX12_init_221 : decode cX12_init 221 = .ok (.aload_n 0, 1) := by decide +kernel
theorem dX12_init_222 : decode cX12_init 222 = .ok (.iconst 0, 1) := by decide +kernel
theorem dX12_init_223 : decode cX12_init 223 = .ok (.putfield 87, 3) := by decide +kernel
theorem dX12_init_226 : decode cX12_init 226 = .ok (.aload_n 0, 1) := by decide +kernel
theorem dX12_init_227 : decode cX12_init 227 = .ok (.iconst 0, 1) := by decide +kernel
theorem dX12_init_228 : decode cX12_init 228 = .ok (.putfield 90, 3) := by decide +kernel
theorem dX12_init_231 : decode cX12_init 231 = .ok (.aload_n 0, 1) := by decide +kernel
theorem dX12_init_232 : decode cX12_init 232 = .ok (.bipush 13, 2) := by decide +kernel
theorem dX12_init_234 : decode cX12_init 234 = .ok (.newarray .int, 2) := by decide +kernel
theorem dX12_init_236 : decode cX12_init 236 = .ok (.dup, 1) := by decide +kernel
theorem dX12_init_237 : decode cX12_init 237 = .ok (.iconst 0, 1) := by decide +kernel
theorem dX12_init_238 : decode cX12_init 238 = .ok (.bipush 100, 2) := by decide +kernel
theorem dX12_init_240 : decode cX12_init 240 = .ok (.iastore, 1) := by decide +kernel
theorem dX12_init_241 : decode cX12_init 241 = .ok (.dup, 1) := by decide +kernel
theorem dX12_init_242 : decode cX12_init 242 = .ok (.iconst 1, 1) := by decide +kernel
theorem dX12_init_243 : decode cX12_init 243 = .ok (.bipush 101, 2) := by decide +kernel
theorem dX12_init_245 : decode cX12_init 245 = .ok (.iastore, 1) := by decide +kernel
theorem dX12_init_246 : decode cX12_init 246 = .ok (.dup, 1) := by decide +kernel
theorem dX12_init_247 : decode cX12_init 247 = .ok (.iconst 2, 1) := by decide +kernel
theorem dX12_init_248 : decode cX12_init 248 = .ok (.bipush 101, 2) := by decide +kernel
theorem dX12_init_250 : decode cX12_init 250 = .ok (.iastore, 1) := by decide +kernel
theorem dX12_init_251 : decode cX12_init 251 = .ok (.dup, 1) := by decide +kernel
theorem dX12_init_252 : decode cX12_init 252 = .ok (.iconst 3, 1) := by decide +kernel
theorem dX12_init_253 : decode cX12_init 253 = .ok (.bipush 112, 2) := by decide +kernel
theorem dX12_init_255 : decode cX12_init 255 = .ok (.iastore, 1) := by decide +kernel
theorem dX12_init_256 : decode cX12_init 256 = .ok (.dup, 1) := by decide +kernel
theorem dX12_init_257 : decode cX12_init 257 = .ok (.iconst 4, 1) := by decide +kernel
theorem dX12_init_258 : decode cX12_init 258 = .ok (.bipush 99, 2) := by decide +kernel
theorem dX12_init_260 : decode cX12_init 260 = .ok (.iastore, 1) := by decide +kernel
theorem dX12_init_261 : decode cX12_init 261 = .ok (.dup, 1) := by decide +kernel
theorem dX12_init_262 : decode cX12_init 262 = .ok (.iconst 5, 1) := by decide +kernel
theorem dX12_init_263 : decode cX12_init 263 = .ok (.bipush 114, 2) := by decide +kernel
theorem dX12_init_265 : decode cX12_init 265 = .ok (.iastore, 1) := by decide +kernel
theorem dX12_init_266 : decode cX12_init 266 = .ok (.dup, 1) := by decide +kernel
theorem dX12_init_267 : decode cX12_init 267 = .ok (.bipush 6, 2) := by decide +kernel
theorem dX12_init_269 : decode cX12_init 269 = .ok (.bipush 101, 2) := by decide +kernel
theorem dX12_init_271 : decode cX12_init 271 = .ok (.iastore, 1) := by decide +kernel
theorem dX12_init_272 : decode cX12_init 272 = .ok (.dup, 1) := by decide +kernel
theorem dX12_init_273 : decode cX12_init 273 = .ok (.bipush 7, 2) := by decide +kernel
theorem dX12_init_275 : decode cX12_init 275 = .ok (.bipush 97, 2) := by decide +kernel
theorem dX12_init_277 : decode cX12_init 277 = .ok (.iastore, 1) := by decide +kernel
theorem dX12_init_278 : decode cX12_init 278 = .ok (.dup, 1) := by decide +kernel
theorem dX12_init_279 : decode cX12_init 279 = .ok (.bipush 8, 2) := by decide +kernel
theorem dX12_init_281 : decode cX12_init 281 = .ok (.bipush 107, 2) := by decide +kernel
theorem dX12_init_283 : decode cX12_init 283 = .ok (.iastore, 1) := by decide +kernel
theorem dX12_init_284 : decode cX12_init 284 = .ok (.dup, 1) := by decide +kernel
theorem dX12_init_285 : decode cX12_init 285 = .ok (.bipush 9, 2) := by decide +kernel
theorem dX12_init_287 : decode cX12_init 287 = .ok (.bipush 104, 2) := by decide +kernel
theorem dX12_init_289 : decode cX12_init 289 = .ok (.iastore, 1) := by decide +kernel
theorem dX12_init_290 : decode cX12_init 290 = .ok (.dup, 1) := by decide +kernel
theorem dX12_init_291 : decode cX12_init 291 = .ok (.bipush 10, 2) := by decide +kernel
theorem dX12_init_293 : decode cX12_init 293 = .ok (.bipush 117, 2) := by decide +kernel
theorem dX12_init_295 : decode cX12_init 295 = .ok (.iastore, 1) := by decide +kernel
theorem dX12_init_296 : decode cX12_init 296 = .ok (.dup, 1) := by decide +kernel
theorem dX12_init_297 : decode cX12_init 297 = .ok (.bipush 11, 2) := by decide +kernel
theorem dX12_init_299 : decode cX12_init 299 = .ok (.bipush 115, 2) := by decide +kernel
theorem dX12_init_301 : decode cX12_init 301 = .ok (.iastore, 1) := by decide +kernel
theorem dX12_init_302 : decode cX12_init 302 = .ok (.dup, 1) := by decide +kernel
theorem dX12_init_303 : decode cX12_init 303 = .ok (.bipush 12, 2) := by decide +kernel
theorem dX12_init_305 : decode cX12_init 305 = .ok (.bipush 104, 2) := by decide +kernel
theorem dX12_init_307 : decode cX12_init 307 = .ok (.iastore, 1) := by decide +kernel
theorem dX12_init_308 : decode cX12_init 308 = .ok (.putfield 93, 3) := by decide +kernel
theorem dX12_init_311 : decode cX12_init 311 = .ok (.aload_n 0, 1) := by decide +kernel
theorem dX12_init_312 : decode cX12_init 312 = .ok (.bipush 100, 2) := by decide +kernel
theorem dX12_init_314 : decode cX12_init 314 = .ok (.newarray .boolean, 2) := by decide +kernel
theorem dX12_init_316 : decode cX12_init 316 = .ok (.putfield 96, 3) := by decide +kernel
theorem dX12_init_319 : decode cX12_init 319 = .ok (.aload_n 0, 1) := by decide +kernel
theorem dX12_init_320 : decode cX12_init 320 = .ok (.iconst 0, 1) := by decide +kernel
theorem dX12_init_321 : decode cX12_init 321 = .ok (.putfield 100, 3) := by decide +kernel
theorem dX12_init_324 : decode cX12_init 324 = .ok (.aload_n 0, 1) := by decide +kernel
theorem dX12_init_325 : decode cX12_init 325 = .ok (.iconst 0, 1) := by decide +kernel
theorem dX12_init_326 : decode cX12_init 326 = .ok (.putfield 103, 3) := by decide +kernel
theorem dX12_init_329 : decode cX12_init 329 = .ok (.aload_n 0, 1) := by decide +kernel
theorem dX12_init_330 : decode cX12_init 330 = .ok (.bipush 12, 2) := by decide +kernel
theorem dX12_init_332 : decode cX12_init 332 = .ok (.newarray .int, 2) := by decide +kernel
theorem dX12_init_334 : decode cX12_init 334 = .ok (.putfield 106, 3) := by decide +kernel
theorem dX12_init_337 : decode cX12_init 337 = .ok (.aload_n 0, 1) := by decide +kernel
theorem dX12_init_338 : decode cX12_init 338 = .ok (.iconst 0, 1) := by decide +kernel
theorem dX12_init_339 : decode cX12_init 339 = .ok (.putfield 109, 3) := by decide +kernel
theorem dX12_init_342 : decode cX12_init 342 = .ok (.aload_n 0, 1) := by decide +kernel
theorem dX12_init_343 : decode cX12_init 343 = .ok (.iconst 0, 1) := by decide +kernel
theorem dX12_init_344 : decode cX12_init 344 = .ok (.putfield 112, 3) := by decide +kernel
theorem dX12_init_347 : decode cX12_init 347 = .ok (.aload_n 0, 1) := by decide +kernel
theorem dX12_init_348 : decode cX12_init 348 = .ok (.iconst 0, 1) := by decide +kernel
theorem dX12_init_349 : decode cX12_init 349 = .ok (.putfield 115, 3) := by decide +kernel
theorem dX12_init_352 : decode cX12_init 352 = .ok (.aload_n 0, 1) := by decide +kernel
theorem dX12_init_353 : decode cX12_init 353 = .ok (.sipush 396, 3) := by decide +kernel
theorem dX12_init_356 : decode cX12_init 356 = .ok (.newarray .int, 2) := by decide +kernel
theorem dX12_init_358 : decode cX12_init 358 = .ok (.putfield 118, 3) := by decide +kernel
theorem dX12_init_361 : decode cX12_init 361 = .ok (.aload_n 0, 1) := by decide +kernel
theorem dX12_init_362 : decode cX12_init 362 = .ok (.bipush 9, 2) := by decide +kernel
theorem dX12_init_364 : decode cX12_init 364 = .ok (.newarray .int, 2) := by decide +kernel
theorem dX12_init_366 : decode cX12_init 366 = .ok (.putfield 121, 3) := by decide +kernel
theorem dX12_init_369 : decode cX12_init 369 = .ok (.aload_n 0, 1) := by decide +kernel
theorem dX12_init_370 : decode cX12_init 370 = .ok (.bipush 9, 2) := by decide +kernel
theorem dX12_init_372 : decode cX12_init 372 = .ok (.newarray .int, 2) := by decide +kernel
theorem dX12_init_374 : decode cX12_init 374 = .ok (.putfield 124, 3) := by decide +kernel
theorem dX12_init_377 : decode cX12_init 377 = .ok (.aload_n 0, 1) := by decide +kernel
theorem dX12_init_378 : decode cX12_init 378 = .ok (.bipush 9, 2) := by decide +kernel
theorem dX12_init_380 : decode cX12_init 380 = .ok (.newarray .int, 2) := by decide +kernel
theorem dX12_init_382 : decode cX12_init 382 = .ok (.putfield 127, 3) := by decide +kernel
theorem dX12_init_385 : decode cX12_init 385 = .ok (.aload_n 0, 1) := by decide +kernel
theorem dX12_init_386 : decode cX12_init 386 = .ok (.iconst 0, 1) := by decide +kernel
theorem dX12_init_387 : decode cX12_init 387 = .ok (.putfield 130, 3) := by decide +kernel
theorem dX12_init_390 : decode cX12_init 390 = .ok (.aload_n 0, 1) := by decide +kernel
theorem dX12_init_391 : decode cX12_init 391 = .ok (.iconst 0, 1) := by decide +kernel
theorem dX12_init_392 : decode cX12_init 392 = .ok (.putfield 133, 3) := by decide +kernel
theorem dX12_init_395 : decode cX12_init 395 = .ok (.aload_n 0, 1) := by decide +kernel
theorem dX12_init_396 : decode cX12_init 396 = .ok (.iconst 0, 1) := by decide +kernel
theorem dX12_init_397 : decode cX12_init 397 = .ok (.putfield 136, 3) := by decide +kernel
theorem dX12_init_400 : decode cX12_init 400 = .ok (.aload_n 0, 1) := by decide +kernel
theorem dX12_init_401 : decode cX12_init 401 = .ok (.bipush 6, 2) := by decide +kernel
theorem dX12_init_403 : decode cX12_init 403 = .ok (.newarray .int, 2) := by decide +kernel
theorem dX12_init_405 : decode cX12_init 405 = .ok (.putfield 139, 3) := by decide +kernel
theorem dX12_init_408 : decode cX12_init 408 = .ok (.aload_n 0, 1) := by decide +kernel
theorem dX12_init_409 : decode cX12_init 409 = .ok (.bipush 6, 2) := by decide +kernel
theorem dX12_init_411 : decode cX12_init 411 = .ok (.newarray .int, 2) := by decide +kernel
theorem dX12_init_413 : decode cX12_init 413 = .ok (.putfield 142, 3) := by decide +kernel
theorem dX12_init_416 : decode cX12_init 416 = .ok (.aload_n 0, 1) := by decide +kernel
theorem dX12_init_417 : decode cX12_init 417 = .ok (.bipush 6, 2) := by decide +kernel
theorem dX12_init_419 : decode cX12_init 419 = .ok (.newarray .boolean, 2) := by decide +kernel
theorem dX12_init_421 : decode cX12_init 421 = .ok (.putfield 145, 3) := by decide +kernel
theorem dX12_init_424 : decode cX12_init 424 = .ok (.aload_n 0, 1) := by decide +kernel
theorem dX12_init_425 : decode cX12_init 425 = .ok (.iconst 0, 1) := by decide +kernel
theorem dX12_init_426 : decode cX12_init 426 = .ok (.putfield 148, 3) := by decide +kernel
theorem dX12_init_429 : decode cX12_init 429 = .ok (.aload_n 0, 1) := by decide +kernel
theorem dX12_init_430 : decode cX12_init 430 = .ok (.bipush 12, 2) := by decide +kernel
theorem dX12_init_432 : decode cX12_init 432 = .ok (.newarray .int, 2) := by decide +kernel
theorem dX12_init_434 : decode cX12_init 434 = .ok (.putfield 151, 3) := by decide +kernel
theorem dX12_init_437 : decode cX12_init 437 = .ok (.aload_n 0, 1) := by decide +kernel
theorem dX12_init_438 : decode cX12_init 438 = .ok (.iconst 0, 1) := by decide +kernel
theorem dX12_init_439 : decode cX12_init 439 = .ok (.putfield 154, 3) := by decide +kernel
theorem dX12_init_442 : decode cX12_init 442 = .ok (.aload_n 0, 1) := by decide +kernel
theorem dX12_init_443 : decode cX12_init 443 = .ok (.iconst 0, 1) := by decide +kernel
theorem dX12_init_444 : decode cX12_init 444 = .ok (.putfield 157, 3) := by decide +kernel
theorem dX12_init_447 : decode cX12_init 447 = .ok (.aload_n 0, 1) := by decide +kernel
theorem dX12_init_448 : decode cX12_init 448 = .ok (.iconst (-1), 1) := by decide +kernel
theorem dX12_init_449 : decode cX12_init 449 = .ok (.putfield 160, 3) := by decide +kernel
theorem dX12_init_452 : decode cX12_init 452 = .ok (.aload_n 0, 1) := by decide +kernel
theorem dX12_init_453 : decode cX12_init 453 = .ok (.iconst 0, 1) := by decide +kernel
theorem dX12_init_454 : decode cX12_init 454 = .ok (.putfield 163, 3) := by decide +kernel
theorem dX12_init_457 : decode cX12_init 457 = .ok (.aload_n 0, 1) := by decide +kernel
theorem dX12_init_458 : decode cX12_init 458 = .ok (.iconst 0, 1) := by decide +kernel
theorem dX12_init_459 : decode cX12_init 459 = .ok (.putfield 166, 3) := by decide +kernel
theorem dX12_init_462 : decode cX12_init 462 = .ok (.aload_n 0, 1) := by decide +kernel
theorem dX12_init_463 : decode cX12_init 463 = .ok (.iconst 0, 1) := by decide +kernel
theorem dX12_init_464 : decode cX12_init 464 = .ok (.putfield 169, 3) := by decide +kernel
theorem dX12_init_467 : decode cX12_init 467 = .ok (.aload_n 0, 1) := by decide +kernel
theorem dX12_init_468 : decode cX12_init 468 = .ok (.iconst 0, 1) := by decide +kernel
theorem dX12_init_469 : decode cX12_init 469 = .ok (.putfield 172, 3) := by decide +kernel
theorem dX12_init_472 : decode cX12_init 472 = .ok (.aload_n 0, 1) := by decide +kernel
theorem dX12_init_473 : decode cX12_init 473 = .ok (.bipush 11, 2) := by decide +kernel
theorem dX12_init_475 : decode cX12_init 475 = .ok (.putfield 175, 3) := by decide +kernel
theorem dX12_init_478 : decode cX12_init 478 = .ok (.aload_n 0, 1) := by decide +kernel
theorem dX12_init_479 : decode cX12_init 479 = .ok (.iconst 0, 1) := by decide +kernel
theorem dX12_init_480 : decode cX12_init 480 = .ok (.putfield 178, 3) := by decide +kernel
theorem dX12_init_483 : decode cX12_init 483 = .ok (.aload_n 0, 1) := by decide +kernel
theorem dX12_init_484 : decode cX12_init 484 = .ok (.iconst 0, 1) := by decide +kernel
theorem dX12_init_485 : decode cX12_init 485 = .ok (.putfield 181, 3) := by decide +kernel
theorem dX12_init_488 : decode cX12_init 488 = .ok (.aload_n 0, 1) := by decide +kernel
theorem dX12_init_489 : decode cX12_init 489 = .ok (.iconst 0, 1) := by decide +kernel
theorem dX12_init_490 : decode cX12_init 490 = .ok (.putfield 184, 3) := by decide +kernel
theorem dX12_init_493 : decode cX12_init 493 = .ok (.aload_n 0, 1) := by decide +kernel
theorem dX12_init_494 : decode cX12_init 494 = .ok (.bipush 12, 2) := by decide +kernel
theorem dX12_init_496 : decode cX12_init 496 = .ok (.newarray .int, 2) := by decide +kernel
theorem dX12_init_498 : decode cX12_init 498 = .ok (.putfield 187, 3) := by decide +kernel
theorem dX12_init_501 : decode cX12_init 501 = .ok (.aload_n 0, 1) := by decide +kernel
theorem dX12_init_502 : decode cX12_init 502 = .ok (.iconst 4, 1) := by decide +kernel
theorem dX12_init_503 : decode cX12_init 503 = .ok (.newarray .int, 2) := by decide +kernel
theorem dX12_init_505 : decode cX12_init 505 = .ok (.putfield 190, 3) := by decide +kernel
theorem dX12_init_508 : decode cX12_init 508 = .ok (.aload_n 0, 1) := by decide +kernel
theorem dX12_init_509 : decode cX12_init 509 = .ok (.iconst 4, 1) := by decide +kernel
theorem dX12_init_510 : decode cX12_init 510 = .ok (.newarray .int, 2) := by decide +kernel
theorem dX12_init_512 : decode cX12_init 512 = .ok (.putfield 193, 3) := by decide +kernel
theorem dX12_init_515 : decode cX12_init 515 = .ok (.aload_n 0, 1) := by decide +kernel
theorem dX12_init_516 : decode cX12_init 516 = .ok (.iconst 4, 1) := by decide +kernel
theorem dX12_init_517 : decode cX12_init 517 = .ok (.newarray .int, 2) := by decide +kernel
theorem dX12_init_519 : decode cX12_init 519 = .ok (.putfield 196, 3) := by decide +kernel
theorem dX12_init_522 : decode cX12_init 522 = .ok (.aload_n 0, 1) := by decide +kernel
theorem dX12_init_523 : decode cX12_init 523 = .ok (.bipush 16, 2) := by decide +kernel
theorem dX12_init_525 : decode cX12_init 525 = .ok (.newarray .int, 2) := by decide +kernel
theorem dX12_init_527 : decode cX12_init 527 = .ok (.putfield 199, 3) := by decide +kernel
theorem dX12_init_530 : decode cX12_init 530 = .ok (.aload_n 0, 1) := by decide +kernel
theorem dX12_init_531 : decode cX12_init 531 = .ok (.bipush 12, 2) := by decide +kernel
theorem dX12_init_533 : decode cX12_init 533 = .ok (.newarray .int, 2) := by decide +kernel
theorem dX12_init_535 : decode cX12_init 535 = .ok (.putfield 202, 3) := by decide +kernel
theorem dX12_init_538 : decode cX12_init 538 = .ok (.aload_n 0, 1) := by decide +kernel
theorem dX12_init_539 : decode cX12_init 539 = .ok (.bipush 6, 2) := by decide +kernel
theorem dX12_init_541 : decode cX12_init 541 = .ok (.newarray .int, 2) := by decide +kernel
theorem dX12_init_543 : decode cX12_init 543 = .ok (.putfield 205, 3) := by decide +kernel
theorem dX12_init_546 : decode cX12_init 546 = .ok (.aload_n 0, 1) := by decide +kernel
theorem dX12_init_547 : decode cX12_init 547 = .ok (.bipush 6, 2) := by decide +kernel
theorem dX12_init_549 : decode cX12_init 549 = .ok (.newarray .int, 2) := by decide +kernel
theorem dX12_init_551 : decode cX12_init 551 = .ok (.putfield 208, 3) := by decide +kernel
theorem dX12_init_554 : decode cX12_init 554 = .ok (.aload_n 0, 1) := by decide +kernel
theorem dX12_init_555 : decode cX12_init 555 = .ok (.bipush 12, 2) := by decide +kernel
theorem dX12_init_557 : decode cX12_init 557 = .ok (.newarray .int, 2) := by decide +kernel
theorem dX12_init_559 : decode cX12_init 559 = .ok (.putfield 211, 3) := by decide +kernel
theorem dX12_init_562 : decode cX12_init 562 = .ok (.aload_n 0, 1) := by decide +kernel
theorem dX12_init_563 : decode cX12_init 563 = .ok (.bipush 6, 2) := by decide +kernel
theorem dX12_init_565 : decode cX12_init 565 = .ok (.newarray .boolean, 2) := by decide +kernel
theorem dX12_init_567 : decode cX12_init 567 = .ok (.putfield 214, 3) := by decide +kernel
theorem dX12_init_570 : decode cX12_init 570 = .ok (.aload_n 0, 1) := by decide +kernel
theorem dX12_init_571 : decode cX12_init 571 = .ok (.iconst 0, 1) := by decide +kernel
theorem dX12_init_572 : decode cX12_init 572 = .ok (.putfield 217, 3) := by decide +kernel
theorem dX12_init_575 : decode cX12_init 575 = .ok (.aload_n 0, 1) := by decide +kernel
theorem dX12_init_576 : decode cX12_init 576 = .ok (.bipush 20, 2) := by decide +kernel
theorem dX12_init_578 : decode cX12_init 578 = .ok (.newarray .int, 2) := by decide +kernel
theorem dX12_init_580 : decode cX12_init 580 = .ok (.putfield 220, 3) := by decide +kernel
theorem dX12_init_583 : decode cX12_init 583 = .ok (.aload_n 0, 1) := by decide +kernel
theorem dX12_init_584 : decode cX12_init 584 = .ok (.bipush 6, 2) := by decide +kernel
theorem dX12_init_586 : decode cX12_init 586 = .ok (.newarray .int, 2) := by decide +kernel
theorem dX12_init_588 : decode cX12_init 588 = .ok (.dup, 1) := by decide +kernel
theorem dX12_init_589 : decode cX12_init 589 = .ok (.iconst 0, 1) := by decide +kernel
theorem dX12_init_590 : decode cX12_init 590 = .ok (.iconst (-1), 1) := by decide +kernel
theorem dX12_init_591 : decode cX12_init 591 = .ok (.iastore, 1) := by decide +kernel
theorem dX12_init_592 : decode cX12_init 592 = .ok (.dup, 1) := by decide +kernel
theorem dX12_init_593 : decode cX12_init 593 = .ok (.iconst 1, 1) := by decide +kernel
theorem dX12_init_594 : decode cX12_init 594 = .ok (.iconst (-1), 1) := by decide +kernel
theorem dX12_init_595 : decode cX12_init 595 = .ok (.iastore, 1) := by decide +kernel
theorem dX12_init_596 : decode cX12_init 596 = .ok (.dup, 1) := by decide +kernel
theorem dX12_init_597 : decode cX12_init 597 = .ok (.iconst 2, 1) := by decide +kernel
theorem dX12_init_598 : decode cX12_init 598 = .ok (.iconst (-1), 1) := by decide +kernel
theorem dX12_init_599 : decode cX12_init 599 = .ok (.iastore, 1) := by decide +kernel
theorem dX12_init_600 : decode cX12_init 600 = .ok (.dup, 1) := by decide +kernel
theorem dX12_init_601 : decode cX12_init 601 = .ok (.iconst 3, 1) := by decide +kernel
theorem dX12_init_602 : decode cX12_init 602 = .ok (.iconst (-1), 1) := by decide +kernel
theorem dX12_init_603 : decode cX12_init 603 = .ok (.iastore, 1) := by decide +kernel
theorem dX12_init_604 : decode cX12_init 604 = .ok (.dup, 1) := by decide +kernel
theorem dX12_init_605 : decode cX12_init 605 = .ok (.iconst 4, 1) := by decide +kernel
theorem dX12_init_606 : decode cX12_init 606 = .ok (.iconst (-1), 1) := by decide +kernel
theorem dX12_init_607 : decode cX12_init 607 = .ok (.iastore, 1) := by decide +kernel
theorem dX12_init_608 : decode cX12_init 608 = .ok (.dup, 1) := by decide +kernel
theorem dX12_init_609 : decode cX12_init 609 = .ok (.iconst 5, 1) := by decide +kernel
theorem dX12_init_610 : decode cX12_init 610 = .ok (.iconst (-1), 1) := by decide +kernel
theorem dX12_init_611 : decode cX12_init 611 = .ok (.iastore, 1) := by decide +kernel
theorem dX12_init_612 : decode cX12_init 612 = .ok (.putfield 223, 3) := by decide +kernel
theorem dX12_init_615 : decode cX12_init 615 = .ok (.aload_n 0, 1) := by decide +kernel
theorem dX12_init_616 : decode cX12_init 616 = .ok (.bipush 6, 2) := by decide +kernel
theorem dX12_init_618 : decode cX12_init 618 = .ok (.newarray .int, 2) := by decide +kernel
theorem dX12_init_620 : decode cX12_init 620 = .ok (.putfield 226, 3) := by decide +kernel
theorem dX12_init_623 : decode cX12_init 623 = .ok (.aload_n 0, 1) := by decide +kernel
theorem dX12_init_624 : decode cX12_init 624 = .ok (.sipush 360, 3) := by decide +kernel
theorem dX12_init_627 : decode cX12_init 627 = .ok (.newarray .long, 2) := by decide +kernel
theorem dX12_init_629 : decode cX12_init 629 = .ok (.putfield 229, 3) := by decide +kernel
theorem dX12_init_632 : decode cX12_init 632 = .ok (.aload_n 0, 1) := by decide +kernel
theorem dX12_init_633 : decode cX12_init 633 = .ok (.bipush 60, 2) := by decide +kernel
theorem dX12_init_635 : decode cX12_init 635 = .ok (.newarray .long, 2) := by decide +kernel
theorem dX12_init_637 : decode cX12_init 637 = .ok (.putfield 233, 3) := by decide +kernel
theorem dX12_init_640 : decode cX12_init 640 = .ok (.return_, 1) := by decide +kernel
theorem dX12_in_0 : decode cX12_in 0 = .ok (.iload_n 1, 1) := by decide +kernel
theorem dX12_in_1 : decode cX12_in 1 = .ok (.iload_n 2, 1) := by decide +kernel
theorem dX12_in_2 : decode cX12_in 2 = .ok (.if_icmp .lt 12, 3) := by decide +kernel
theorem dX12_in_5 : decode cX12_in 5 = .ok (.iload_n 1, 1) := by decide +kernel
theorem dX12_in_6 : decode cX12_in 6 = .ok (.iload_n 3, 1) := by decide +kernel
theorem dX12_in_7 : decode cX12_in 7 = .ok (.if_icmp .gt 7, 3) := by decide +kernel
theorem dX12_in_10 : decode cX12_in 10 = .ok (.iconst 1, 1) := by decide +kernel
theorem dX12_in_11 : decode cX12_in 11 = .ok (.goto 4, 3) := by decide +kernel
theorem dX12_in_14 : decode cX12_in 14 = .ok (.iconst 0, 1) := by decide +kernel
theorem dX12_in_15 : decode cX12_in 15 = .ok (.ireturn, 1) := by decide +kernel
theorem dX12_has_0 : decode cX12_has 0 = .ok (.iload_n 1, 1) := by decide +kernel
theorem dX12_has_1 : decode cX12_has 1 = .ok (.iload_n 2, 1) := by decide +kernel
theorem dX12_has_2 : decode cX12_has 2 = .ok (.ishr, 1) := by decide +kernel
theorem dX12_has_3 : decode cX12_has 3 = .ok (.iconst 1, 1) := by decide +kernel
theorem dX12_has_4 : decode cX12_has 4 = .ok (.iand, 1) := by decide +kernel
theorem dX12_has_5 : decode cX12_has 5 = .ok (.iconst 1, 1) := by decide +kernel
theorem dX12_has_6 : decode cX12_has 6 = .ok (.if_icmp .ne 7, 3) := by decide +kernel
theorem dX12_has_9 : decode cX12_has 9 = .ok (.iconst 1, 1) := by decide +kernel
theorem dX12_has_10 : decode cX12_has 10 = .ok (.goto 4, 3) := by decide +kernel
theorem dX12_has_13 : decode cX12_has 13 = .ok (.iconst 0, 1) := by decide +kernel
theorem dX12_has_14 : decode cX12_has 14 = .ok (.ireturn, 1) := by decide +kernel
theorem dX12_isBoard_0 : decode cX12_isBoard 0 = .ok (.aload_n 0, 1) := by decide +kernel
theorem dX12_isBoard_1 : decode cX12_isBoard 1 = .ok (.iload_n 1, 1) := by decide +kernel
theorem dX12_isBoard_2 : decode cX12_isBoard 2 = .ok (.iconst 0, 1) := by decide +kernel
theorem dX12_isBoard_3 : decode cX12_isBoard 3 = .ok (.bipush 11, 2) := by decide +kernel
theorem dX12_isBoard_5 : decode cX12_isBoard 5 = .ok (.invokevirtual 236, 3) := by decide +kernel
theorem dX12_isBoard_8 : decode cX12_isBoard 8 = .ok (.ireturn, 1) := by decide +kernel
theorem dX12_isWalker_0 : decode cX12_isWalker 0 = .ok (.aload_n 0, 1) := by decide +kernel
theorem dX12_isWalker_1 : decode cX12_isWalker 1 = .ok (.iload_n 1, 1) := by decide +kernel
theorem dX12_isWalker_2 : decode cX12_isWalker 2 = .ok (.iconst 0, 1) := by decide +kernel
theorem dX12_isWalker_3 : decode cX12_isWalker 3 = .ok (.aload_n 0, 1) := by decide +kernel
theorem dX12_isWalker_4 : decode cX12_isWalker 4 = .ok (.getfield 7, 3) := by decide +kernel
theorem dX12_isWalker_7 : decode cX12_isWalker 7 = .ok (.iconst 1, 1) := by decide +kernel
theorem dX12_isWalker_8 : decode cX12_isWalker 8 = .ok (.isub, 1) := by decide +kernel
theorem dX12_isWalker_9 : decode cX12_isWalker 9 = .ok (.invokevirtual 236, 3) := by decide +kernel
theorem dX12_isWalker_12 : decode cX12_isWalker 12 = .ok (.ireturn, 1) := by decide +kernel
theorem dX12_apart_0 : decode cX12_apart 0 = .ok (.iload_n 1, 1) := by decide +kernel
theorem dX12_apart_1 : decode cX12_apart 1 = .ok (.iload_n 2, 1) := by decide +kernel
theorem dX12_apart_2 : decode cX12_apart 2 = .ok (.if_icmp .ge 9, 3) := by decide +kernel
theorem dX12_apart_5 : decode cX12_apart 5 = .ok (.iload_n 2, 1) := by decide +kernel
theorem dX12_apart_6 : decode cX12_apart 6 = .ok (.iload_n 1, 1) := by decide +kernel
theorem dX12_apart_7 : decode cX12_apart 7 = .ok (.isub, 1) := by decide +kernel
theorem dX12_apart_8 : decode cX12_apart 8 = .ok (.goto 6, 3) := by decide +kernel
theorem dX12_apart_11 : decode cX12_apart 11 = .ok (.iload_n 1, 1) := by decide +kernel
theorem dX12_apart_12 : decode cX12_apart 12 = .ok (.iload_n 2, 1) := by decide +kernel
theorem dX12_apart_13 : decode cX12_apart 13 = .ok (.isub, 1) := by decide +kernel
theorem dX12_apart_14 : decode cX12_apart 14 = .ok (.ireturn, 1) := by decide +kernel
theorem dX12_areBeside_0 : decode cX12_areBeside 0 = .ok (.aload_n 0, 1) := by decide +kernel
theorem dX12_areBeside_1 : decode cX12_areBeside 1 = .ok (.iload_n 1, 1) := by decide +kernel
theorem dX12_areBeside_2 : decode cX12_areBeside 2 = .ok (.bipush 6, 2) := by decide +kernel
theorem dX12_areBeside_4 : decode cX12_areBeside 4 = .ok (.irem, 1) := by decide +kernel
theorem dX12_areBeside_5 : decode cX12_areBeside 5 = .ok (.iload_n 2, 1) := by decide +kernel
theorem dX12_areBeside_6 : decode cX12_areBeside 6 = .ok (.bipush 6, 2) := by decide +kernel
theorem dX12_areBeside_8 : decode cX12_areBeside 8 = .ok (.irem, 1) := by decide +kernel
theorem dX12_areBeside_9 : decode cX12_areBeside 9 = .ok (.invokevirtual 240, 3) := by decide +kernel
theorem dX12_areBeside_12 : decode cX12_areBeside 12 = .ok (.aload_n 0, 1) := by decide +kernel
theorem dX12_areBeside_13 : decode cX12_areBeside 13 = .ok (.iload_n 1, 1) := by decide +kernel
theorem dX12_areBeside_14 : decode cX12_areBeside 14 = .ok (.bipush 6, 2) := by decide +kernel
theorem dX12_areBeside_16 : decode cX12_areBeside 16 = .ok (.idiv, 1) := by decide +kernel
theorem dX12_areBeside_17 : decode cX12_areBeside 17 = .ok (.iload_n 2, 1) := by decide +kernel
theorem dX12_areBeside_18 : decode cX12_areBeside 18 = .ok (.bipush 6, 2) := by decide +kernel
theorem dX12_areBeside_20 : decode cX12_areBeside 20 = .ok (.idiv, 1) := by decide +kernel
theorem dX12_areBeside_21 : decode cX12_areBeside 21 = .ok (.invokevirtual 240, 3) := by decide +kernel
theorem dX12_areBeside_24 : decode cX12_areBeside 24 = .ok (.iadd, 1) := by decide +kernel
theorem dX12_areBeside_25 : decode cX12_areBeside 25 = .ok (.iconst 1, 1) := by decide +kernel
theorem dX12_areBeside_26 : decode cX12_areBeside 26 = .ok (.if_icmp .ne 7, 3) := by decide +kernel
theorem dX12_areBeside_29 : decode cX12_areBeside 29 = .ok (.iconst 1, 1) := by decide +kernel
theorem dX12_areBeside_30 : decode cX12_areBeside 30 = .ok (.goto 4, 3) := by decide +kernel
theorem dX12_areBeside_33 : decode cX12_areBeside 33 = .ok (.iconst 0, 1) := by decide +kernel
theorem dX12_areBeside_34 : decode cX12_areBeside 34 = .ok (.ireturn, 1) := by decide +kernel
theorem dX12_creak_0 : decode cX12_creak 0 = .ok (.aload_n 0, 1) := by decide +kernel
theorem dX12_creak_1 : decode cX12_creak 1 = .ok (.iload_n 1, 1) := by decide +kernel
theorem dX12_creak_2 : decode cX12_creak 2 = .ok (.invokevirtual 244, 3) := by decide +kernel
theorem dX12_creak_5 : decode cX12_creak 5 = .ok (.ifCond .ne 5, 3) := by decide +kernel
theorem dX12_creak_8 : decode cX12_creak 8 = .ok (.iconst (-1), 1) := by decide +kernel
theorem dX12_creak_9 : decode cX12_creak 9 = .ok (.ireturn, 1) := by decide +kernel
theorem dX12_creak_10 : decode cX12_creak 10 = .ok (.aload_n 0, 1) := by decide +kernel
theorem dX12_creak_11 : decode cX12_creak 11 = .ok (.iload_n 2, 1) := by decide +kernel
theorem dX12_creak_12 : decode cX12_creak 12 = .ok (.iconst 0, 1) := by decide +kernel
theorem dX12_creak_13 : decode cX12_creak 13 = .ok (.bipush 9, 2) := by decide +kernel
theorem dX12_creak_15 : decode cX12_creak 15 = .ok (.invokevirtual 236, 3) := by decide +kernel
theorem dX12_creak_18 : decode cX12_creak 18 = .ok (.ifCond .ne 6, 3) := by decide +kernel
theorem dX12_creak_21 : decode cX12_creak 21 = .ok (.bipush (-2), 2) := by decide +kernel
theorem dX12_creak_23 : decode cX12_creak 23 = .ok (.ireturn, 1) := by decide +kernel
theorem dX12_creak_24 : decode cX12_creak 24 = .ok (.aload_n 0, 1) := by decide +kernel
theorem dX12_creak_25 : decode cX12_creak 25 = .ok (.getfield 29, 3) := by decide +kernel
theorem dX12_creak_28 : decode cX12_creak 28 = .ok (.iload_n 1, 1) := by decide +kernel
theorem dX12_creak_29 : decode cX12_creak 29 = .ok (.iaload, 1) := by decide +kernel
theorem dX12_creak_30 : decode cX12_creak 30 = .ok (.istore_n 3, 1) := by decide +kernel
theorem dX12_creak_31 : decode cX12_creak 31 = .ok (.aload_n 0, 1) := by decide +kernel
theorem dX12_creak_32 : decode cX12_creak 32 = .ok (.getfield 29, 3) := by decide +kernel
theorem dX12_creak_35 : decode cX12_creak 35 = .ok (.iload_n 1, 1) := by decide +kernel
theorem dX12_creak_36 : decode cX12_creak 36 = .ok (.iload_n 2, 1) := by decide +kernel
theorem dX12_creak_37 : decode cX12_creak 37 = .ok (.iastore, 1) := by decide +kernel
theorem dX12_creak_38 : decode cX12_creak 38 = .ok (.iload_n 3, 1) := by decide +kernel
theorem dX12_creak_39 : decode cX12_creak 39 = .ok (.ireturn, 1) := by decide +kernel
theorem dX12_toy_0 : decode cX12_toy 0 = .ok (.aload_n 0, 1) := by decide +kernel
theorem dX12_toy_1 : decode cX12_toy 1 = .ok (.iload_n 1, 1) := by decide +kernel
theorem dX12_toy_2 : decode cX12_toy 2 = .ok (.invokevirtual 244, 3) := by decide +kernel
theorem dX12_toy_5 : decode cX12_toy 5 = .ok (.ifCond .ne 5, 3) := by decide +kernel
theorem dX12_toy_8 : decode cX12_toy 8 = .ok (.iconst (-1), 1) := by decide +kernel
theorem dX12_toy_9 : decode cX12_toy 9 = .ok (.ireturn, 1) := by decide +kernel
theorem dX12_toy_10 : decode cX12_toy 10 = .ok (.aload_n 0, 1) := by decide +kernel
theorem dX12_toy_11 : decode cX12_toy 11 = .ok (.getfield 19, 3) := by decide +kernel
theorem dX12_toy_14 : decode cX12_toy 14 = .ok (.iload_n 1, 1) := by decide +kernel
theorem dX12_toy_15 : decode cX12_toy 15 = .ok (.ishr, 1) := by decide +kernel
theorem dX12_toy_16 : decode cX12_toy 16 = .ok (.iconst 1, 1) := by decide +kernel
theorem dX12_toy_17 : decode cX12_toy 17 = .ok (.iand, 1) := by decide +kernel
theorem dX12_toy_18 : decode cX12_toy 18 = .ok (.istore_n 3, 1) := by decide +kernel
theorem dX12_toy_19 : decode cX12_toy 19 = .ok (.aload_n 0, 1) := by decide +kernel
theorem dX12_toy_20 : decode cX12_toy 20 = .ok (.iload_n 2, 1) := by decide +kernel
theorem dX12_toy_21 : decode cX12_toy 21 = .ok (.ifCond .eq 14, 3) := by decide +kernel
theorem dX12_toy_24 : decode cX12_toy 24 = .ok (.aload_n 0, 1) := by decide +kernel
theorem dX12_toy_25 : decode cX12_toy 25 = .ok (.getfield 19, 3) := by decide +kernel
theorem dX12_toy_28 : decode cX12_toy 28 = .ok (.iconst 1, 1) := by decide +kernel
theorem dX12_toy_29 : decode cX12_toy 29 = .ok (.iload_n 1, 1) := by decide +kernel
theorem dX12_toy_30 : decode cX12_toy 30 = .ok (.ishl, 1) := by decide +kernel
theorem dX12_toy_31 : decode cX12_toy 31 = .ok (.ior, 1) := by decide +kernel
theorem dX12_toy_32 : decode cX12_toy 32 = .ok (.goto 13, 3) := by decide +kernel
theorem dX12_toy_35 : decode cX12_toy 35 = .ok (.aload_n 0, 1) := by decide +kernel
theorem dX12_toy_36 : decode cX12_toy 36 = .ok (.getfield 19, 3) := by decide +kernel
theorem dX12_toy_39 : decode cX12_toy 39 = .ok (.iconst 1, 1) := by decide +kernel
theorem dX12_toy_40 : decode cX12_toy 40 = .ok (.iload_n 1, 1) := by decide +kernel
theorem dX12_toy_41 : decode cX12_toy 41 = .ok (.ishl, 1) := by decide +kernel
theorem dX12_toy_42 : decode cX12_toy 42 = .ok (.iconst (-1), 1) := by decide +kernel
theorem dX12_toy_43 : decode cX12_toy 43 = .ok (.ixor, 1) := by decide +kernel
theorem dX12_toy_44 : decode cX12_toy 44 = .ok (.iand, 1) := by decide +kernel
theorem dX12_toy_45 : decode cX12_toy 45 = .ok (.putfield 19, 3) := by decide +kernel
theorem dX12_toy_48 : decode cX12_toy 48 = .ok (.iload_n 3, 1) := by decide +kernel
theorem dX12_toy_49 : decode cX12_toy 49 = .ok (.ireturn, 1) := by decide +kernel
theorem dX12_door_0 : decode cX12_door 0 = .ok (.aload_n 0, 1) := by decide +kernel
theorem dX12_door_1 : decode cX12_door 1 = .ok (.iload_n 1, 1) := by decide +kernel
theorem dX12_door_2 : decode cX12_door 2 = .ok (.invokevirtual 244, 3) := by decide +kernel
theorem dX12_door_5 : decode cX12_door 5 = .ok (.ifCond .ne 5, 3) := by decide +kernel
theorem dX12_door_8 : decode cX12_door 8 = .ok (.iconst (-1), 1) := by decide +kernel
theorem dX12_door_9 : decode cX12_door 9 = .ok (.ireturn, 1) := by decide +kernel
theorem dX12_door_10 : decode cX12_door 10 = .ok (.aload_n 0, 1) := by decide +kernel
theorem dX12_door_11 : decode cX12_door 11 = .ok (.getfield 22, 3) := by decide +kernel
theorem dX12_door_14 : decode cX12_door 14 = .ok (.istore_n 2, 1) := by decide +kernel
theorem dX12_door_15 : decode cX12_door 15 = .ok (.aload_n 0, 1) := by decide +kernel
theorem dX12_door_16 : decode cX12_door 16 = .ok (.iload_n 1, 1) := by decide +kernel
theorem dX12_door_17 : decode cX12_door 17 = .ok (.putfield 22, 3) := by decide +kernel
theorem dX12_door_20 : decode cX12_door 20 = .ok (.iload_n 2, 1) := by decide +kernel
theorem dX12_door_21 : decode cX12_door 21 = .ok (.ireturn, 1) := by decide +kernel
theorem dX12_walker_0 : decode cX12_walker 0 = .ok (.aload_n 0, 1) := by decide +kernel
theorem dX12_walker_1 : decode cX12_walker 1 = .ok (.iload_n 1, 1) := by decide +kernel
theorem dX12_walker_2 : decode cX12_walker 2 = .ok (.iconst 0, 1) := by decide +kernel
theorem dX12_walker_3 : decode cX12_walker 3 = .ok (.bipush 6, 2) := by decide +kernel
theorem dX12_walker_5 : decode cX12_walker 5 = .ok (.invokevirtual 236, 3) := by decide +kernel
theorem dX12_walker_8 : decode cX12_walker 8 = .ok (.ifCond .eq 11, 3) := by decide +kernel
theorem dX12_walker_11 : decode cX12_walker 11 = .ok (.aload_n 0, 1) := by decide +kernel
theorem dX12_walker_12 : decode cX12_walker 12 = .ok (.iload_n 3, 1) := by decide +kernel
theorem dX12_walker_13 : decode cX12_walker 13 = .ok (.invokevirtual 244, 3) := by decide +kernel
theorem dX12_walker_16 : decode cX12_walker 16 = .ok (.ifCond .ne 5, 3) := by decide +kernel
theorem dX12_walker_19 : decode cX12_walker 19 = .ok (.iconst (-1), 1) := by decide +kernel
theorem dX12_walker_20 : decode cX12_walker 20 = .ok (.ireturn, 1) := by decide +kernel
theorem dX12_walker_21 : decode cX12_walker 21 = .ok (.aload_n 0, 1) := by decide +kernel
theorem dX12_walker_22 : decode cX12_walker 22 = .ok (.iload_n 2, 1) := by decide +kernel
theorem dX12_walker_23 : decode cX12_walker 23 = .ok (.iconst 0, 1) := by decide +kernel
theorem dX12_walker_24 : decode cX12_walker 24 = .ok (.bipush 9, 2) := by decide +kernel
theorem dX12_walker_26 : decode cX12_walker 26 = .ok (.invokevirtual 236, 3) := by decide +kernel
theorem dX12_walker_29 : decode cX12_walker 29 = .ok (.ifCond .ne 6, 3) := by decide +kernel
theorem dX12_walker_32 : decode cX12_walker 32 = .ok (.bipush (-2), 2) := by decide +kernel
theorem dX12_walker_34 : decode cX12_walker 34 = .ok (.ireturn, 1) := by decide +kernel
theorem dX12_walker_35 : decode cX12_walker 35 = .ok (.aload_n 0, 1) := by decide +kernel
theorem dX12_walker_36 : decode cX12_walker 36 = .ok (.getfield 7, 3) := by decide +kernel
theorem dX12_walker_39 : decode cX12_walker 39 = .ok (.iconst 4, 1) := by decide +kernel
theorem dX12_walker_40 : decode cX12_walker 40 = .ok (.if_icmp .ne 6, 3) := by decide +kernel
theorem dX12_walker_43 : decode cX12_walker 43 = .ok (.bipush (-4), 2) := by decide +kernel
theorem dX12_walker_45 : decode cX12_walker 45 = .ok (.ireturn, 1) := by decide +kernel
theorem dX12_walker_46 : decode cX12_walker 46 = .ok (.aload_n 0, 1) := by decide +kernel
theorem dX12_walker_47 : decode cX12_walker 47 = .ok (.getfield 33, 3) := by decide +kernel
theorem dX12_walker_50 : decode cX12_walker 50 = .ok (.aload_n 0, 1) := by decide +kernel
theorem dX12_walker_51 : decode cX12_walker 51 = .ok (.getfield 7, 3) := by decide +kernel
theorem dX12_walker_54 : decode cX12_walker 54 = .ok (.iload_n 1, 1) := by decide +kernel
theorem dX12_walker_55 : decode cX12_walker 55 = .ok (.iastore, 1) := by decide +kernel
theorem dX12_walker_56 : decode cX12_walker 56 = .ok (.aload_n 0, 1) := by decide +kernel
theorem dX12_walker_57 : decode cX12_walker 57 = .ok (.getfield 36, 3) := by decide +kernel
theorem dX12_walker_60 : decode cX12_walker 60 = .ok (.aload_n 0, 1) := by decide +kernel
theorem dX12_walker_61 : decode cX12_walker 61 = .ok (.getfield 7, 3) := by decide +kernel
theorem dX12_walker_64 : decode cX12_walker 64 = .ok (.iload_n 2, 1) := by decide +kernel
theorem dX12_walker_65 : decode cX12_walker 65 = .ok (.iastore, 1) := by decide +kernel
theorem dX12_walker_66 : decode cX12_walker 66 = .ok (.aload_n 0, 1) := by decide +kernel
theorem dX12_walker_67 : decode cX12_walker 67 = .ok (.getfield 39, 3) := by decide +kernel
theorem dX12_walker_70 : decode cX12_walker 70 = .ok (.aload_n 0, 1) := by decide +kernel
theorem dX12_walker_71 : decode cX12_walker 71 = .ok (.getfield 7, 3) := by decide +kernel
theorem dX12_walker_74 : decode cX12_walker 74 = .ok (.iload_n 3, 1) := by decide +kernel
theorem dX12_walker_75 : decode cX12_walker 75 = .ok (.iastore, 1) := by decide +kernel
theorem dX12_walker_76 : decode cX12_walker 76 = .ok (.iconst 0, 1) := by decide +kernel
theorem dX12_walker_77 : decode cX12_walker 77 = .ok (.istore 4, 2) := by decide +kernel
theorem dX12_walker_79 : decode cX12_walker 79 = .ok (.iload 4, 2) := by decide +kernel
theorem dX12_walker_81 : decode cX12_walker 81 = .ok (.iconst 4, 1) := by decide +kernel
theorem dX12_walker_82 : decode cX12_walker 82 = .ok (.if_icmp .ge 24, 3) := by decide +kernel
theorem dX12_walker_85 : decode cX12_walker 85 = .ok (.aload_n 0, 1) := by decide +kernel
theorem dX12_walker_86 : decode cX12_walker 86 = .ok (.getfield 42, 3) := by decide +kernel
theorem dX12_walker_89 : decode cX12_walker 89 = .ok (.iconst 4, 1) := by decide +kernel
theorem dX12_walker_90 : decode cX12_walker 90 = .ok (.aload_n 0, 1) := by decide +kernel
theorem dX12_walker_91 : decode cX12_walker 91 = .ok (.getfield 7, 3) := by decide +kernel
theorem dX12_walker_94 : decode cX12_walker 94 = .ok (.imul, 1) := by decide +kernel
theorem dX12_walker_95 : decode cX12_walker 95 = .ok (.iload 4, 2) := by decide +kernel
theorem dX12_walker_97 : decode cX12_walker 97 = .ok (.iadd, 1) := by decide +kernel
theorem dX12_walker_98 : decode cX12_walker 98 = .ok (.iconst 0, 1) := by decide +kernel
theorem dX12_walker_99 : decode cX12_walker 99 = .ok (.iastore, 1) := by decide +kernel
theorem dX12_walker_100 : decode cX12_walker 100 = .ok (.iinc 4 1, 3) := by decide +kernel
theorem dX12_walker_103 : decode cX12_walker 103 = .ok (.goto (-24), 3) := by decide +kernel
theorem dX12_walker_106 : decode cX12_walker 106 = .ok (.aload_n 0, 1) := by decide +kernel
theorem dX12_walker_107 : decode cX12_walker 107 = .ok (.dup, 1) := by decide +kernel
theorem dX12_walker_108 : decode cX12_walker 108 = .ok (.getfield 7, 3) := by decide +kernel
theorem dX12_walker_111 : decode cX12_walker 111 = .ok (.iconst 1, 1) := by decide +kernel
theorem dX12_walker_112 : decode cX12_walker 112 = .ok (.iadd, 1) := by decide +kernel
theorem dX12_walker_113 : decode cX12_walker 113 = .ok (.putfield 7, 3) := by decide +kernel
theorem dX12_walker_116 : decode cX12_walker 116 = .ok (.aload_n 0, 1) := by decide +kernel
theorem dX12_walker_117 : decode cX12_walker 117 = .ok (.getfield 7, 3) := by decide +kernel
theorem dX12_walker_120 : decode cX12_walker 120 = .ok (.iconst 1, 1) := by decide +kernel
theorem dX12_walker_121 : decode cX12_walker 121 = .ok (.isub, 1) := by decide +kernel
theorem dX12_walker_122 : decode cX12_walker 122 = .ok (.ireturn, 1) := by decide +kernel
theorem dX12_put_0 : decode cX12_put 0 = .ok (.aload_n 0, 1) := by decide +kernel
theorem dX12_put_1 : decode cX12_put 1 = .ok (.iload_n 1, 1) := by decide +kernel
theorem dX12_put_2 : decode cX12_put 2 = .ok (.invokevirtual 248, 3) := by decide +kernel
theorem dX12_put_5 : decode cX12_put 5 = .ok (.ifCond .eq 11, 3) := by decide +kernel
theorem dX12_put_8 : decode cX12_put 8 = .ok (.aload_n 0, 1) := by decide +kernel
theorem dX12_put_9 : decode cX12_put 9 = .ok (.iload_n 2, 1) := by decide +kernel
theorem dX12_put_10 : decode cX12_put 10 = .ok (.invokevirtual 244, 3) := by decide +kernel
theorem dX12_put_13 : decode cX12_put 13 = .ok (.ifCond .ne 5, 3) := by decide +kernel
theorem dX12_put_16 : decode cX12_put 16 = .ok (.iconst (-1), 1) := by decide +kernel
theorem dX12_put_17 : decode cX12_put 17 = .ok (.ireturn, 1) := by decide +kernel
theorem dX12_put_18 : decode cX12_put 18 = .ok (.aload_n 0, 1) := by decide +kernel
theorem dX12_put_19 : decode cX12_put 19 = .ok (.getfield 39, 3) := by decide +kernel
theorem dX12_put_22 : decode cX12_put 22 = .ok (.iload_n 1, 1) := by decide +kernel
theorem dX12_put_23 : decode cX12_put 23 = .ok (.iaload, 1) := by decide +kernel
theorem dX12_put_24 : decode cX12_put 24 = .ok (.istore_n 3, 1) := by decide +kernel
theorem dX12_put_25 : decode cX12_put 25 = .ok (.aload_n 0, 1) := by decide +kernel
theorem dX12_put_26 : decode cX12_put 26 = .ok (.getfield 39, 3) := by decide +kernel
theorem dX12_put_29 : decode cX12_put 29 = .ok (.iload_n 1, 1) := by decide +kernel
theorem dX12_put_30 : decode cX12_put 30 = .ok (.iload_n 2, 1) := by decide +kernel
theorem dX12_put_31 : decode cX12_put 31 = .ok (.iastore, 1) := by decide +kernel
theorem dX12_put_32 : decode cX12_put 32 = .ok (.iload_n 3, 1) := by decide +kernel
theorem dX12_put_33 : decode cX12_put 33 = .ok (.ireturn, 1) := by decide +kernel
theorem dX12_row_0 : decode cX12_row 0 = .ok (.aload_n 0, 1) := by decide +kernel
theorem dX12_row_1 : decode cX12_row 1 = .ok (.iload_n 1, 1) := by decide +kernel
theorem dX12_row_2 : decode cX12_row 2 = .ok (.invokevirtual 248, 3) := by decide +kernel
theorem dX12_row_5 : decode cX12_row 5 = .ok (.ifCond .eq 13, 3) := by decide +kernel
theorem dX12_row_8 : decode cX12_row 8 = .ok (.aload_n 0, 1) := by decide +kernel
theorem dX12_row_9 : decode cX12_row 9 = .ok (.iload_n 2, 1) := by decide +kernel
theorem dX12_row_10 : decode cX12_row 10 = .ok (.iconst 0, 1) := by decide +kernel
theorem dX12_row_11 : decode cX12_row 11 = .ok (.iconst 3, 1) := by decide +kernel
theorem dX12_row_12 : decode cX12_row 12 = .ok (.invokevirtual 236, 3) := by decide +kernel
theorem dX12_row_15 : decode cX12_row 15 = .ok (.ifCond .ne 5, 3) := by decide +kernel
theorem dX12_row_18 : decode cX12_row 18 = .ok (.iconst (-1), 1) := by decide +kernel
theorem dX12_row_19 : decode cX12_row 19 = .ok (.ireturn, 1) := by decide +kernel
theorem dX12_row_20 : decode cX12_row 20 = .ok (.aload_n 0, 1) := by decide +kernel
theorem dX12_row_21 : decode cX12_row 21 = .ok (.iload_n 3, 1) := by decide +kernel
theorem dX12_row_22 : decode cX12_row 22 = .ok (.iconst 0, 1) := by decide +kernel
theorem dX12_row_23 : decode cX12_row 23 = .ok (.bipush 9, 2) := by decide +kernel
theorem dX12_row_25 : decode cX12_row 25 = .ok (.invokevirtual 236, 3) := by decide +kernel
theorem dX12_row_28 : decode cX12_row 28 = .ok (.ifCond .ne 6, 3) := by decide +kernel
theorem dX12_row_31 : decode cX12_row 31 = .ok (.bipush (-2), 2) := by decide +kernel
theorem dX12_row_33 : decode cX12_row 33 = .ok (.ireturn, 1) := by decide +kernel
theorem dX12_row_34 : decode cX12_row 34 = .ok (.aload_n 0, 1) := by decide +kernel
theorem dX12_row_35 : decode cX12_row 35 = .ok (.getfield 33, 3) := by decide +kernel
theorem dX12_row_38 : decode cX12_row 38 = .ok (.iload_n 1, 1) := by decide +kernel
theorem dX12_row_39 : decode cX12_row 39 = .ok (.iaload, 1) := by decide +kernel
theorem dX12_row_40 : decode cX12_row 40 = .ok (.bipush 6, 2) := by decide +kernel
theorem dX12_row_42 : decode cX12_row 42 = .ok (.if_icmp .eq 6, 3) := by decide +kernel
theorem dX12_row_45 : decode cX12_row 45 = .ok (.bipush (-3), 2) := by decide +kernel
theorem dX12_row_47 : decode cX12_row 47 = .ok (.ireturn, 1) := by decide +kernel
theorem dX12_row_48 : decode cX12_row 48 = .ok (.aload_n 0, 1) := by decide +kernel
theorem dX12_row_49 : decode cX12_row 49 = .ok (.getfield 42, 3) := by decide +kernel
theorem dX12_row_52 : decode cX12_row 52 = .ok (.iconst 4, 1) := by decide +kernel
theorem dX12_row_53 : decode cX12_row 53 = .ok (.iload_n 1, 1) := by decide +kernel
theorem dX12_row_54 : decode cX12_row 54 = .ok (.imul, 1) := by decide +kernel
theorem dX12_row_55 : decode cX12_row 55 = .ok (.iload_n 2, 1) := by decide +kernel
theorem dX12_row_56 : decode cX12_row 56 = .ok (.iadd, 1) := by decide +kernel
theorem dX12_row_57 : decode cX12_row 57 = .ok (.iaload, 1) := by decide +kernel
theorem dX12_row_58 : decode cX12_row 58 = .ok (.istore 4, 2) := by decide +kernel
theorem dX12_row_60 : decode cX12_row 60 = .ok (.aload_n 0, 1) := by decide +kernel
theorem dX12_row_61 : decode cX12_row 61 = .ok (.getfield 42, 3) := by decide +kernel
theorem dX12_row_64 : decode cX12_row 64 = .ok (.iconst 4, 1) := by decide +kernel
theorem dX12_row_65 : decode cX12_row 65 = .ok (.iload_n 1, 1) := by decide +kernel
theorem dX12_row_66 : decode cX12_row 66 = .ok (.imul, 1) := by decide +kernel
theorem dX12_row_67 : decode cX12_row 67 = .ok (.iload_n 2, 1) := by decide +kernel
theorem dX12_row_68 : decode cX12_row 68 = .ok (.iadd, 1) := by decide +kernel
theorem dX12_row_69 : decode cX12_row 69 = .ok (.iload_n 3, 1) := by decide +kernel
theorem dX12_row_70 : decode cX12_row 70 = .ok (.iastore, 1) := by decide +kernel
theorem dX12_row_71 : decode cX12_row 71 = .ok (.iload 4, 2) := by decide +kernel
theorem dX12_row_73 : decode cX12_row 73 = .ok (.ireturn, 1) := by decide +kernel
theorem dX12_feed_0 : decode cX12_feed 0 = .ok (.aload_n 0, 1) := by decide +kernel
theorem dX12_feed_1 : decode cX12_feed 1 = .ok (.iload_n 1, 1) := by decide +kernel
theorem dX12_feed_2 : decode cX12_feed 2 = .ok (.iconst 0, 1) := by decide +kernel
theorem dX12_feed_3 : decode cX12_feed 3 = .ok (.bipush 127, 2) := by decide +kernel
theorem dX12_feed_5 : decode cX12_feed 5 = .ok (.invokevirtual 236, 3) := by decide +kernel
theorem dX12_feed_8 : decode cX12_feed 8 = .ok (.ifCond .ne 6, 3) := by decide +kernel
theorem dX12_feed_11 : decode cX12_feed 11 = .ok (.bipush (-2), 2) := by decide +kernel
theorem dX12_feed_13 : decode cX12_feed 13 = .ok (.ireturn, 1) := by decide +kernel
theorem dX12_feed_14 : decode cX12_feed 14 = .ok (.aload_n 0, 1) := by decide +kernel
theorem dX12_feed_15 : decode cX12_feed 15 = .ok (.getfield 51, 3) := by decide +kernel
theorem dX12_feed_18 : decode cX12_feed 18 = .ok (.bipush 100, 2) := by decide +kernel
theorem dX12_feed_20 : decode cX12_feed 20 = .ok (.if_icmp .ne 6, 3) := by decide +kernel
theorem dX12_feed_23 : decode cX12_feed 23 = .ok (.bipush (-4), 2) := by decide +kernel
theorem dX12_feed_25 : decode cX12_feed 25 = .ok (.ireturn, 1) := by decide +kernel
theorem dX12_feed_26 : decode cX12_feed 26 = .ok (.aload_n 0, 1) := by decide +kernel
theorem dX12_feed_27 : decode cX12_feed 27 = .ok (.getfield 60, 3) := by decide +kernel
theorem dX12_feed_30 : decode cX12_feed 30 = .ok (.aload_n 0, 1) := by decide +kernel
theorem dX12_feed_31 : decode cX12_feed 31 = .ok (.getfield 51, 3) := by decide +kernel
theorem dX12_feed_34 : decode cX12_feed 34 = .ok (.iload_n 1, 1) := by decide +kernel
theorem dX12_feed_35 : decode cX12_feed 35 = .ok (.iastore, 1) := by decide +kernel
theorem dX12_feed_36 : decode cX12_feed 36 = .ok (.aload_n 0, 1) := by decide +kernel
theorem dX12_feed_37 : decode cX12_feed 37 = .ok (.dup, 1) := by decide +kernel
theorem dX12_feed_38 : decode cX12_feed 38 = .ok (.getfield 51, 3) := by decide +kernel
theorem dX12_feed_41 : decode cX12_feed 41 = .ok (.iconst 1, 1) := by decide +kernel
theorem dX12_feed_42 : decode cX12_feed 42 = .ok (.iadd, 1) := by decide +kernel
theorem dX12_feed_43 : decode cX12_feed 43 = .ok (.putfield 51, 3) := by decide +kernel
theorem dX12_feed_46 : decode cX12_feed 46 = .ok (.aload_n 0, 1) := by decide +kernel
theorem dX12_feed_47 : decode cX12_feed 47 = .ok (.getfield 51, 3) := by decide +kernel
theorem dX12_feed_50 : decode cX12_feed 50 = .ok (.ireturn, 1) := by decide +kernel
theorem dX12_next_0 : decode cX12_next 0 = .ok (.aload_n 0, 1) := by decide +kernel
theorem dX12_next_1 : decode cX12_next 1 = .ok (.getfield 54, 3) := by decide +kernel
theorem dX12_next_4 : decode cX12_next 4 = .ok (.aload_n 0, 1) := by decide +kernel
theorem dX12_next_5 : decode cX12_next 5 = .ok (.getfield 51, 3) := by decide +kernel
theorem dX12_next_8 : decode cX12_next 8 = .ok (.if_icmp .ge 15, 3) := by decide +kernel
theorem dX12_next_11 : decode cX12_next 11 = .ok (.aload_n 0, 1) := by decide +kernel
theorem dX12_next_12 : decode cX12_next 12 = .ok (.getfield 60, 3) := by decide +kernel
theorem dX12_next_15 : decode cX12_next 15 = .ok (.aload_n 0, 1) := by decide +kernel
theorem dX12_next_16 : decode cX12_next 16 = .ok (.getfield 54, 3) := by decide +kernel
theorem dX12_next_19 : decode cX12_next 19 = .ok (.iaload, 1) := by decide +kernel
theorem dX12_next_20 : decode cX12_next 20 = .ok (.goto 4, 3) := by decide +kernel
theorem dX12_next_23 : decode cX12_next 23 = .ok (.iconst (-1), 1) := by decide +kernel
theorem dX12_next_24 : decode cX12_next 24 = .ok (.ireturn, 1) := by decide +kernel
theorem dX12_takes_0 : decode cX12_takes 0 = .ok (.aload_n 0, 1) := by decide +kernel
theorem dX12_takes_1 : decode cX12_takes 1 = .ok (.invokevirtual 251, 3) := by decide +kernel
theorem dX12_takes_4 : decode cX12_takes 4 = .ok (.iload_n 1, 1) := by decide +kernel
theorem dX12_takes_5 : decode cX12_takes 5 = .ok (.if_icmp .eq 5, 3) := by decide +kernel
theorem dX12_takes_8 : decode cX12_takes 8 = .ok (.iconst 0, 1) := by decide +kernel
theorem dX12_takes_9 : decode cX12_takes 9 = .ok (.ireturn, 1) := by decide +kernel
theorem dX12_takes_10 : decode cX12_takes 10 = .ok (.aload_n 0, 1) := by decide +kernel
theorem dX12_takes_11 : decode cX12_takes 11 = .ok (.dup, 1) := by decide +kernel
theorem dX12_takes_12 : decode cX12_takes 12 = .ok (.getfield 54, 3) := by decide +kernel
theorem dX12_takes_15 : decode cX12_takes 15 = .ok (.iconst 1, 1) := by decide +kernel
theorem dX12_takes_16 : decode cX12_takes 16 = .ok (.iadd, 1) := by decide +kernel
theorem dX12_takes_17 : decode cX12_takes 17 = .ok (.putfield 54, 3) := by decide +kernel
theorem dX12_takes_20 : decode cX12_takes 20 = .ok (.iconst 1, 1) := by decide +kernel
theorem dX12_takes_21 : decode cX12_takes 21 = .ok (.ireturn, 1) := by decide +kernel
theorem dX12_takesWord_0 : decode cX12_takesWord 0 = .ok (.iconst 0, 1) := by decide +kernel
theorem dX12_takesWord_1 : decode cX12_takesWord 1 = .ok (.istore_n 3, 1) := by decide +kernel
theorem dX12_takesWord_2 : decode cX12_takesWord 2 = .ok (.iload_n 3, 1) := by decide +kernel
theorem dX12_takesWord_3 : decode cX12_takesWord 3 = .ok (.iload_n 2, 1) := by decide +kernel
theorem dX12_takesWord_4 : decode cX12_takesWord 4 = .ok (.if_icmp .ge 26, 3) := by decide +kernel
theorem dX12_takesWord_7 : decode cX12_takesWord 7 = .ok (.aload_n 0, 1) := by decide +kernel
theorem dX12_takesWord_8 : decode cX12_takesWord 8 = .ok (.aload_n 0, 1) := by decide +kernel
theorem dX12_takesWord_9 : decode cX12_takesWord 9 = .ok (.getfield 93, 3) := by decide +kernel
theorem dX12_takesWord_12 : decode cX12_takesWord 12 = .ok (.iload_n 1, 1) := by decide +kernel
theorem dX12_takesWord_13 : decode cX12_takesWord 13 = .ok (.iload_n 3, 1) := by decide +kernel
theorem dX12_takesWord_14 : decode cX12_takesWord 14 = .ok (.iadd, 1) := by decide +kernel
theorem dX12_takesWord_15 : decode cX12_takesWord 15 = .ok (.iaload, 1) := by decide +kernel
theorem dX12_takesWord_16 : decode cX12_takesWord 16 = .ok (.invokevirtual 255, 3) := by decide +kernel
theorem dX12_takesWord_19 : decode cX12_takesWord 19 = .ok (.ifCond .ne 5, 3) := by decide +kernel
theorem dX12_takesWord_22 : decode cX12_takesWord 22 = .ok (.iconst 0, 1) := by decide +kernel
theorem dX12_takesWord_23 : decode cX12_takesWord 23 = .ok (.ireturn, 1) := by decide +kernel
theorem dX12_takesWord_24 : decode cX12_takesWord 24 = .ok (.iinc 3 1, 3) := by decide +kernel
theorem dX12_takesWord_27 : decode cX12_takesWord 27 = .ok (.goto (-25), 3) := by decide +kernel
theorem dX12_takesWord_30 : decode cX12_takesWord 30 = .ok (.aload_n 0, 1) := by decide +kernel
theorem dX12_takesWord_31 : decode cX12_takesWord 31 = .ok (.bipush 32, 2) := by decide +kernel
theorem dX12_takesWord_33 : decode cX12_takesWord 33 = .ok (.invokevirtual 255, 3) := by decide +kernel
theorem dX12_takesWord_36 : decode cX12_takesWord 36 = .ok (.ireturn, 1) := by decide +kernel
theorem dX12_isDigit_0 : decode cX12_isDigit 0 = .ok (.aload_n 0, 1) := by decide +kernel
theorem dX12_isDigit_1 : decode cX12_isDigit 1 = .ok (.aload_n 0, 1) := by decide +kernel
theorem dX12_isDigit_2 : decode cX12_isDigit 2 = .ok (.invokevirtual 251, 3) := by decide +kernel
theorem dX12_isDigit_5 : decode cX12_isDigit 5 = .ok (.bipush 48, 2) := by decide +kernel
theorem dX12_isDigit_7 : decode cX12_isDigit 7 = .ok (.bipush 57, 2) := by decide +kernel
theorem dX12_isDigit_9 : decode cX12_isDigit 9 = .ok (.invokevirtual 236, 3) := by decide +kernel
theorem dX12_isDigit_12 : decode cX12_isDigit 12 = .ok (.ireturn, 1) := by decide +kernel
theorem dX12_takesNumber_0 : decode cX12_takesNumber 0 = .ok (.aload_n 0, 1) := by decide +kernel
theorem dX12_takesNumber_1 : decode cX12_takesNumber 1 = .ok (.invokevirtual 258, 3) := by decide +kernel
theorem dX12_takesNumber_4 : decode cX12_takesNumber 4 = .ok (.ifCond .ne 5, 3) := by decide +kernel
theorem dX12_takesNumber_7 : decode cX12_takesNumber 7 = .ok (.iconst 0, 1) := by decide +kernel
theorem dX12_takesNumber_8 : decode cX12_takesNumber 8 = .ok (.ireturn, 1) := by decide +kernel
theorem dX12_takesNumber_9 : decode cX12_takesNumber 9 = .ok (.aload_n 0, 1) := by decide +kernel
theorem dX12_takesNumber_10 : decode cX12_takesNumber 10 = .ok (.iconst 0, 1) := by decide +kernel
theorem dX12_takesNumber_11 : decode cX12_takesNumber 11 = .ok (.putfield 57, 3) := by decide +kernel
theorem dX12_takesNumber_14 : decode cX12_takesNumber 14 = .ok (.iconst 0, 1) := by decide +kernel
theorem dX12_takesNumber_15 : decode cX12_takesNumber 15 = .ok (.istore_n 1, 1) := by decide +kernel
theorem dX12_takesNumber_16 : decode cX12_takesNumber 16 = .ok (.iload_n 1, 1) := by decide +kernel
theorem dX12_takesNumber_17 : decode cX12_takesNumber 17 = .ok (.iconst 2, 1) := by decide +kernel
theorem dX12_takesNumber_18 : decode cX12_takesNumber 18 = .ok (.if_icmp .ge 45, 3) := by decide +kernel
theorem dX12_takesNumber_21 : decode cX12_takesNumber 21 = .ok (.aload_n 0, 1) := by decide +kernel
theorem dX12_takesNumber_22 : decode cX12_takesNumber 22 = .ok (.invokevirtual 258, 3) := by decide +kernel
theorem dX12_takesNumber_25 : decode cX12_takesNumber 25 = .ok (.ifCond .eq 38, 3) := by decide +kernel
theorem dX12_takesNumber_28 : decode cX12_takesNumber 28 = .ok (.aload_n 0, 1) := by decide +kernel
theorem dX12_takesNumber_29 : decode cX12_takesNumber 29 = .ok (.bipush 10, 2) := by decide +kernel
theorem dX12_takesNumber_31 : decode cX12_takesNumber 31 = .ok (.aload_n 0, 1) := by decide +kernel
theorem dX12_takesNumber_32 : decode cX12_takesNumber 32 = .ok (.getfield 57, 3) := by decide +kernel
theorem dX12_takesNumber_35 : decode cX12_takesNumber 35 = .ok (.imul, 1) := by decide +kernel
theorem dX12_takesNumber_36 : decode cX12_takesNumber 36 = .ok (.aload_n 0, 1) := by decide +kernel
theorem dX12_takesNumber_37 : decode cX12_takesNumber 37 = .ok (.invokevirtual 251, 3) := by decide +kernel
theorem dX12_takesNumber_40 : decode cX12_takesNumber 40 = .ok (.iadd, 1) := by decide +kernel
theorem dX12_takesNumber_41 : decode cX12_takesNumber 41 = .ok (.bipush 48, 2) := by decide +kernel
theorem dX12_takesNumber_43 : decode cX12_takesNumber 43 = .ok (.isub, 1) := by decide +kernel
theorem dX12_takesNumber_44 : decode cX12_takesNumber 44 = .ok (.putfield 57, 3) := by decide +kernel
theorem dX12_takesNumber_47 : decode cX12_takesNumber 47 = .ok (.aload_n 0, 1) := by decide +kernel
theorem dX12_takesNumber_48 : decode cX12_takesNumber 48 = .ok (.dup, 1) := by decide +kernel
theorem dX12_takesNumber_49 : decode cX12_takesNumber 49 = .ok (.getfield 54, 3) := by decide +kernel
theorem dX12_takesNumber_52 : decode cX12_takesNumber 52 = .ok (.iconst 1, 1) := by decide +kernel
theorem dX12_takesNumber_53 : decode cX12_takesNumber 53 = .ok (.iadd, 1) := by decide +kernel
theorem dX12_takesNumber_54 : decode cX12_takesNumber 54 = .ok (.putfield 54, 3) := by decide +kernel
theorem dX12_takesNumber_57 : decode cX12_takesNumber 57 = .ok (.iinc 1 1, 3) := by decide +kernel
theorem dX12_takesNumber_60 : decode cX12_takesNumber 60 = .ok (.goto (-44), 3) := by decide +kernel
theorem dX12_takesNumber_63 : decode cX12_takesNumber 63 = .ok (.iconst 1, 1) := by decide +kernel
theorem dX12_takesNumber_64 : decode cX12_takesNumber 64 = .ok (.ireturn, 1) := by decide +kernel
theorem dX12_emits_0 : decode cX12_emits 0 = .ok (.aload_n 0, 1) := by decide +kernel
theorem dX12_emits_1 : decode cX12_emits 1 = .ok (.getfield 78, 3) := by decide +kernel
theorem dX12_emits_4 : decode cX12_emits 4 = .ok (.aload_n 0, 1) := by decide +kernel
theorem dX12_emits_5 : decode cX12_emits 5 = .ok (.getfield 84, 3) := by decide +kernel
theorem dX12_emits_8 : decode cX12_emits 8 = .ok (.iload_n 1, 1) := by decide +kernel
theorem dX12_emits_9 : decode cX12_emits 9 = .ok (.iastore, 1) := by decide +kernel
theorem dX12_emits_10 : decode cX12_emits 10 = .ok (.aload_n 0, 1) := by decide +kernel
theorem dX12_emits_11 : decode cX12_emits 11 = .ok (.dup, 1) := by decide +kernel
theorem dX12_emits_12 : decode cX12_emits 12 = .ok (.getfield 84, 3) := by decide +kernel
theorem dX12_emits_15 : decode cX12_emits 15 = .ok (.iconst 1, 1) := by decide +kernel
theorem dX12_emits_16 : decode cX12_emits 16 = .ok (.iadd, 1) := by decide +kernel
theorem dX12_emits_17 : decode cX12_emits 17 = .ok (.putfield 84, 3) := by decide +kernel
theorem dX12_emits_20 : decode cX12_emits 20 = .ok (.return_, 1) := by decide +kernel
theorem dX12_whole_0 : decode cX12_whole 0 = .ok (.aload_n 0, 1) := by decide +kernel
theorem dX12_whole_1 : decode cX12_whole 1 = .ok (.getfield 87, 3) := by decide +kernel
theorem dX12_whole_4 : decode cX12_whole 4 = .ok (.ifCond .le 48, 3) := by decide +kernel
theorem dX12_whole_7 : decode cX12_whole 7 = .ok (.aload_n 0, 1) := by decide +kernel
theorem dX12_whole_8 : decode cX12_whole 8 = .ok (.getfield 81, 3) := by decide +kernel
theorem dX12_whole_11 : decode cX12_whole 11 = .ok (.aload_n 0, 1) := by decide +kernel
theorem dX12_whole_12 : decode cX12_whole 12 = .ok (.getfield 87, 3) := by decide +kernel
theorem dX12_whole_15 : decode cX12_whole 15 = .ok (.iconst 1, 1) := by decide +kernel
theorem dX12_whole_16 : decode cX12_whole 16 = .ok (.isub, 1) := by decide +kernel
theorem dX12_whole_17 : decode cX12_whole 17 = .ok (.iaload, 1) := by decide +kernel
theorem dX12_whole_18 : decode cX12_whole 18 = .ok (.bipush 33, 2) := by decide +kernel
theorem dX12_whole_20 : decode cX12_whole 20 = .ok (.if_icmp .ne 32, 3) := by decide +kernel
theorem dX12_whole_23 : decode cX12_whole 23 = .ok (.aload_n 0, 1) := by decide +kernel
theorem dX12_whole_24 : decode cX12_whole 24 = .ok (.bipush (-33), 2) := by decide +kernel
theorem dX12_whole_26 : decode cX12_whole 26 = .ok (.invokevirtual 262, 3) := by decide +kernel
theorem dX12_whole_29 : decode cX12_whole 29 = .ok (.aload_n 0, 1) := by decide +kernel
theorem dX12_whole_30 : decode cX12_whole 30 = .ok (.dup, 1) := by decide +kernel
theorem dX12_whole_31 : decode cX12_whole 31 = .ok (.getfield 87, 3) := by decide +kernel
theorem dX12_whole_34 : decode cX12_whole 34 = .ok (.iconst 1, 1) := by decide +kernel
theorem dX12_whole_35 : decode cX12_whole 35 = .ok (.isub, 1) := by decide +kernel
theorem dX12_whole_36 : decode cX12_whole 36 = .ok (.putfield 87, 3) := by decide +kernel
theorem dX12_whole_39 : decode cX12_whole 39 = .ok (.aload_n 0, 1) := by decide +kernel
theorem dX12_whole_40 : decode cX12_whole 40 = .ok (.dup, 1) := by decide +kernel
theorem dX12_whole_41 : decode cX12_whole 41 = .ok (.getfield 90, 3) := by decide +kernel
theorem dX12_whole_44 : decode cX12_whole 44 = .ok (.iconst 1, 1) := by decide +kernel
theorem dX12_whole_45 : decode cX12_whole 45 = .ok (.isub, 1) := by decide +kernel
theorem dX12_whole_46 : decode cX12_whole 46 = .ok (.putfield 90, 3) := by decide +kernel
theorem dX12_whole_49 : decode cX12_whole 49 = .ok (.goto (-49), 3) := by decide +kernel
theorem dX12_whole_52 : decode cX12_whole 52 = .ok (.return_, 1) := by decide +kernel
theorem dX12_settle_0 : decode cX12_settle 0 = .ok (.aload_n 0, 1) := by decide +kernel
theorem dX12_settle_1 : decode cX12_settle 1 = .ok (.getfield 87, 3) := by decide +kernel
theorem dX12_settle_4 : decode cX12_settle 4 = .ok (.ifCond .le 68, 3) := by decide +kernel
theorem dX12_settle_7 : decode cX12_settle 7 = .ok (.aload_n 0, 1) := by decide +kernel
theorem dX12_settle_8 : decode cX12_settle 8 = .ok (.getfield 81, 3) := by decide +kernel
theorem dX12_settle_11 : decode cX12_settle 11 = .ok (.aload_n 0, 1) := by decide +kernel
theorem dX12_settle_12 : decode cX12_settle 12 = .ok (.getfield 87, 3) := by decide +kernel
theorem dX12_settle_15 : decode cX12_settle 15 = .ok (.iconst 1, 1) := by decide +kernel
theorem dX12_settle_16 : decode cX12_settle 16 = .ok (.isub, 1) := by decide +kernel
theorem dX12_settle_17 : decode cX12_settle 17 = .ok (.iaload, 1) := by decide +kernel
theorem dX12_settle_18 : decode cX12_settle 18 = .ok (.bipush 38, 2) := by decide +kernel
theorem dX12_settle_20 : decode cX12_settle 20 = .ok (.if_icmp .eq 25, 3) := by decide +kernel
theorem dX12_settle_23 : decode cX12_settle 23 = .ok (.aload_n 0, 1) := by decide +kernel
theorem dX12_settle_24 : decode cX12_settle 24 = .ok (.getfield 81, 3) := by decide +kernel
theorem dX12_settle_27 : decode cX12_settle 27 = .ok (.aload_n 0, 1) := by decide +kernel
theorem dX12_settle_28 : decode cX12_settle 28 = .ok (.getfield 87, 3) := by decide +kernel
theorem dX12_settle_31 : decode cX12_settle 31 = .ok (.iconst 1, 1) := by decide +kernel
theorem dX12_settle_32 : decode cX12_settle 32 = .ok (.isub, 1) := by decide +kernel
theorem dX12_settle_33 : decode cX12_settle 33 = .ok (.iaload, 1) := by decide +kernel
theorem dX12_settle_34 : decode cX12_settle 34 = .ok (.bipush 124, 2) := by decide +kernel
theorem dX12_settle_36 : decode cX12_settle 36 = .ok (.if_icmp .ne 36, 3) := by decide +kernel
theorem dX12_settle_39 : decode cX12_settle 39 = .ok (.iload_n 1, 1) := by decide +kernel
theorem dX12_settle_40 : decode cX12_settle 40 = .ok (.bipush 38, 2) := by decide +kernel
theorem dX12_settle_42 : decode cX12_settle 42 = .ok (.if_icmp .eq 30, 3) := by decide +kernel
theorem dX12_settle_45 : decode cX12_settle 45 = .ok (.aload_n 0, 1) := by decide +kernel
theorem dX12_settle_46 : decode cX12_settle 46 = .ok (.dup, 1) := by decide +kernel
theorem dX12_settle_47 : decode cX12_settle 47 = .ok (.getfield 87, 3) := by decide +kernel
theorem dX12_settle_50 : decode cX12_settle 50 = .ok (.iconst 1, 1) := by decide +kernel
theorem dX12_settle_51 : decode cX12_settle 51 = .ok (.isub, 1) := by decide +kernel
theorem dX12_settle_52 : decode cX12_settle 52 = .ok (.putfield 87, 3) := by decide +kernel
theorem dX12_settle_55 : decode cX12_settle 55 = .ok (.aload_n 0, 1) := by decide +kernel
theorem dX12_settle_56 : decode cX12_settle 56 = .ok (.aload_n 0, 1) := by decide +kernel
theorem dX12_settle_57 : decode cX12_settle 57 = .ok (.getfield 81, 3) := by decide +kernel
theorem dX12_settle_60 : decode cX12_settle 60 = .ok (.aload_n 0, 1) := by decide +kernel
theorem dX12_settle_61 : decode cX12_settle 61 = .ok (.getfield 87, 3) := by decide +kernel
theorem dX12_settle_64 : decode cX12_settle 64 = .ok (.iaload, 1) := by decide +kernel
theorem dX12_settle_65 : decode cX12_settle 65 = .ok (.ineg, 1) := by decide +kernel
theorem dX12_settle_66 : decode cX12_settle 66 = .ok (.invokevirtual 262, 3) := by decide +kernel
theorem dX12_settle_69 : decode cX12_settle 69 = .ok (.goto (-69), 3) := by decide +kernel
theorem dX12_settle_72 : decode cX12_settle 72 = .ok (.return_, 1) := by decide +kernel
theorem dX12_place_0 : decode cX12_place 0 = .ok (.iload_n 1, 1) := by decide +kernel
theorem dX12_place_1 : decode cX12_place 1 = .ok (.lookupswitch 71 #[(99, 65), (107, 67), (109, 59), (116, 69), (120, 61), (121, 63)], 59) := by decide +kernel
theorem dX12_place_60 : decode cX12_place 60 = .ok (.iconst 0, 1) := by decide +kernel
theorem dX12_place_61 : decode cX12_place 61 = .ok (.ireturn, 1) := by decide +kernel
theorem dX12_place_62 : decode cX12_place 62 = .ok (.iconst 1, 1) := by decide +kernel
theorem dX12_place_63 : decode cX12_place 63 = .ok (.ireturn, 1) := by decide +kernel
theorem dX12_place_64 : decode cX12_place 64 = .ok (.iconst 2, 1) := by decide +kernel
theorem dX12_place_65 : decode cX12_place 65 = .ok (.ireturn, 1) := by decide +kernel
theorem dX12_place_66 : decode cX12_place 66 = .ok (.iconst 3, 1) := by decide +kernel
theorem dX12_place_67 : decode cX12_place 67 = .ok (.ireturn, 1) := by decide +kernel
theorem dX12_place_68 : decode cX12_place 68 = .ok (.iconst 4, 1) := by decide +kernel
theorem dX12_place_69 : decode cX12_place 69 = .ok (.ireturn, 1) := by decide +kernel
theorem dX12_place_70 : decode cX12_place 70 = .ok (.iconst 5, 1) := by decide +kernel
theorem dX12_place_71 : decode cX12_place 71 = .ok (.ireturn, 1) := by decide +kernel
theorem dX12_place_72 : decode cX12_place 72 = .ok (.iconst (-1), 1) := by decide +kernel
theorem dX12_place_73 : decode cX12_place 73 = .ok (.ireturn, 1) := by decide +kernel
theorem dX12_takesTest_0 : decode cX12_takesTest 0 = .ok (.aload_n 0, 1) := by decide +kernel
theorem dX12_takesTest_1 : decode cX12_takesTest 1 = .ok (.aload_n 0, 1) := by decide +kernel
theorem dX12_takesTest_2 : decode cX12_takesTest 2 = .ok (.invokevirtual 251, 3) := by decide +kernel
theorem dX12_takesTest_5 : decode cX12_takesTest 5 = .ok (.invokevirtual 266, 3) := by decide +kernel
theorem dX12_takesTest_8 : decode cX12_takesTest 8 = .ok (.istore_n 1, 1) := by decide +kernel
theorem dX12_takesTest_9 : decode cX12_takesTest 9 = .ok (.iload_n 1, 1) := by decide +kernel
theorem dX12_takesTest_10 : decode cX12_takesTest 10 = .ok (.ifCond .ge 5, 3) := by decide +kernel
theorem dX12_takesTest_13 : decode cX12_takesTest 13 = .ok (.iconst 0, 1) := by decide +kernel
theorem dX12_takesTest_14 : decode cX12_takesTest 14 = .ok (.ireturn, 1) := by decide +kernel
theorem dX12_takesTest_15 : decode cX12_takesTest 15 = .ok (.aload_n 0, 1) := by decide +kernel
theorem dX12_takesTest_16 : decode cX12_takesTest 16 = .ok (.dup, 1) := by decide +kernel
theorem dX12_takesTest_17 : decode cX12_takesTest 17 = .ok (.getfield 54, 3) := by decide +kernel
theorem dX12_takesTest_20 : decode cX12_takesTest 20 = .ok (.iconst 1, 1) := by decide +kernel
theorem dX12_takesTest_21 : decode cX12_takesTest 21 = .ok (.iadd, 1) := by decide +kernel
theorem dX12_takesTest_22 : decode cX12_takesTest 22 = .ok (.putfield 54, 3) := by decide +kernel
theorem dX12_takesTest_25 : decode cX12_takesTest 25 = .ok (.aload_n 0, 1) := by decide +kernel
theorem dX12_takesTest_26 : decode cX12_takesTest 26 = .ok (.invokevirtual 251, 3) := by decide +kernel
theorem dX12_takesTest_29 : decode cX12_takesTest 29 = .ok (.istore_n 2, 1) := by decide +kernel
theorem dX12_takesTest_30 : decode cX12_takesTest 30 = .ok (.aload_n 0, 1) := by decide +kernel
theorem dX12_takesTest_31 : decode cX12_takesTest 31 = .ok (.iload_n 2, 1) := by decide +kernel
theorem dX12_takesTest_32 : decode cX12_takesTest 32 = .ok (.bipush 60, 2) := by decide +kernel
theorem dX12_takesTest_34 : decode cX12_takesTest 34 = .ok (.bipush 62, 2) := by decide +kernel
theorem dX12_takesTest_36 : decode cX12_takesTest 36 = .ok (.invokevirtual 236, 3) := by decide +kernel
theorem dX12_takesTest_39 : decode cX12_takesTest 39 = .ok (.ifCond .ne 5, 3) := by decide +kernel
theorem dX12_takesTest_42 : decode cX12_takesTest 42 = .ok (.iconst 0, 1) := by decide +kernel
theorem dX12_takesTest_43 : decode cX12_takesTest 43 = .ok (.ireturn, 1) := by decide +kernel
theorem dX12_takesTest_44 : decode cX12_takesTest 44 = .ok (.aload_n 0, 1) := by decide +kernel
theorem dX12_takesTest_45 : decode cX12_takesTest 45 = .ok (.dup, 1) := by decide +kernel
theorem dX12_takesTest_46 : decode cX12_takesTest 46 = .ok (.getfield 54, 3) := by decide +kernel
theorem dX12_takesTest_49 : decode cX12_takesTest 49 = .ok (.iconst 1, 1) := by decide +kernel
theorem dX12_takesTest_50 : decode cX12_takesTest 50 = .ok (.iadd, 1) := by decide +kernel
theorem dX12_takesTest_51 : decode cX12_takesTest 51 = .ok (.putfield 54, 3) := by decide +kernel
theorem dX12_takesTest_54 : decode cX12_takesTest 54 = .ok (.aload_n 0, 1) := by decide +kernel
theorem dX12_takesTest_55 : decode cX12_takesTest 55 = .ok (.invokevirtual 270, 3) := by decide +kernel
theorem dX12_takesTest_58 : decode cX12_takesTest 58 = .ok (.ifCond .ne 5, 3) := by decide +kernel
theorem dX12_takesTest_61 : decode cX12_takesTest 61 = .ok (.iconst 0, 1) := by decide +kernel
theorem dX12_takesTest_62 : decode cX12_takesTest 62 = .ok (.ireturn, 1) := by decide +kernel
theorem dX12_takesTest_63 : decode cX12_takesTest 63 = .ok (.aload_n 0, 1) := by decide +kernel
theorem dX12_takesTest_64 : decode cX12_takesTest 64 = .ok (.sipush 1000, 3) := by decide +kernel
theorem dX12_takesTest_67 : decode cX12_takesTest 67 = .ok (.iload_n 1, 1) := by decide +kernel
theorem dX12_takesTest_68 : decode cX12_takesTest 68 = .ok (.imul, 1) := by decide +kernel
theorem dX12_takesTest_69 : decode cX12_takesTest 69 = .ok (.bipush 100, 2) := by decide +kernel
theorem dX12_takesTest_71 : decode cX12_takesTest 71 = .ok (.iload_n 2, 1) := by decide +kernel
theorem dX12_takesTest_72 : decode cX12_takesTest 72 = .ok (.bipush 60, 2) := by decide +kernel
theorem dX12_takesTest_74 : decode cX12_takesTest 74 = .ok (.isub, 1) := by decide +kernel
theorem dX12_takesTest_75 : decode cX12_takesTest 75 = .ok (.imul, 1) := by decide +kernel
theorem dX12_takesTest_76 : decode cX12_takesTest 76 = .ok (.iadd, 1) := by decide +kernel
theorem dX12_takesTest_77 : decode cX12_takesTest 77 = .ok (.aload_n 0, 1) := by decide +kernel
theorem dX12_takesTest_78 : decode cX12_takesTest 78 = .ok (.getfield 57, 3) := by decide +kernel
theorem dX12_takesTest_81 : decode cX12_takesTest 81 = .ok (.iadd, 1) := by decide +kernel
theorem dX12_takesTest_82 : decode cX12_takesTest 82 = .ok (.invokevirtual 262, 3) := by decide +kernel
theorem dX12_takesTest_85 : decode cX12_takesTest 85 = .ok (.aload_n 0, 1) := by decide +kernel
theorem dX12_takesTest_86 : decode cX12_takesTest 86 = .ok (.invokevirtual 273, 3) := by decide +kernel
theorem dX12_takesTest_89 : decode cX12_takesTest 89 = .ok (.iconst 1, 1) := by decide +kernel
theorem dX12_takesTest_90 : decode cX12_takesTest 90 = .ok (.ireturn, 1) := by decide +kernel
theorem dX12_takesE_0 : decode cX12_takesE 0 = .ok (.aload_n 0, 1) := by decide +kernel
theorem dX12_takesE_1 : decode cX12_takesE 1 = .ok (.iconst 0, 1) := by decide +kernel
theorem dX12_takesE_2 : decode cX12_takesE 2 = .ok (.putfield 87, 3) := by decide +kernel
theorem dX12_takesE_5 : decode cX12_takesE 5 = .ok (.aload_n 0, 1) := by decide +kernel
theorem dX12_takesE_6 : decode cX12_takesE 6 = .ok (.iconst 0, 1) := by decide +kernel
theorem dX12_takesE_7 : decode cX12_takesE 7 = .ok (.putfield 90, 3) := by decide +kernel
theorem dX12_takesE_10 : decode cX12_takesE 10 = .ok (.aload_n 0, 1) := by decide +kernel
theorem dX12_takesE_11 : decode cX12_takesE 11 = .ok (.getfield 72, 3) := by decide +kernel
theorem dX12_takesE_14 : decode cX12_takesE 14 = .ok (.iload_n 1, 1) := by decide +kernel
theorem dX12_takesE_15 : decode cX12_takesE 15 = .ok (.aload_n 0, 1) := by decide +kernel
theorem dX12_takesE_16 : decode cX12_takesE 16 = .ok (.getfield 84, 3) := by decide +kernel
theorem dX12_takesE_19 : decode cX12_takesE 19 = .ok (.iastore, 1) := by decide +kernel
theorem dX12_takesE_20 : decode cX12_takesE 20 = .ok (.iconst 1, 1) := by decide +kernel
theorem dX12_takesE_21 : decode cX12_takesE 21 = .ok (.istore_n 2, 1) := by decide +kernel
theorem dX12_takesE_22 : decode cX12_takesE 22 = .ok (.aload_n 0, 1) := by decide +kernel
theorem dX12_takesE_23 : decode cX12_takesE 23 = .ok (.invokevirtual 251, 3) := by decide +kernel
theorem dX12_takesE_26 : decode cX12_takesE 26 = .ok (.istore_n 3, 1) := by decide +kernel
theorem dX12_takesE_27 : decode cX12_takesE 27 = .ok (.iload_n 2, 1) := by decide +kernel
theorem dX12_takesE_28 : decode cX12_takesE 28 = .ok (.ifCond .eq 82, 3) := by decide +kernel
theorem dX12_takesE_31 : decode cX12_takesE 31 = .ok (.iload_n 3, 1) := by decide +kernel
theorem dX12_takesE_32 : decode cX12_takesE 32 = .ok (.bipush 33, 2) := by decide +kernel
theorem dX12_takesE_34 : decode cX12_takesE 34 = .ok (.if_icmp .eq 9, 3) := by decide +kernel
theorem dX12_takesE_37 : decode cX12_takesE 37 = .ok (.iload_n 3, 1) := by decide +kernel
theorem dX12_takesE_38 : decode cX12_takesE 38 = .ok (.bipush 40, 2) := by decide +kernel
theorem dX12_takesE_40 : decode cX12_takesE 40 = .ok (.if_icmp .ne 56, 3) := by decide +kernel
theorem dX12_takesE_43 : decode cX12_takesE 43 = .ok (.aload_n 0, 1) := by decide +kernel
theorem dX12_takesE_44 : decode cX12_takesE 44 = .ok (.getfield 90, 3) := by decide +kernel
theorem dX12_takesE_47 : decode cX12_takesE 47 = .ok (.iconst 4, 1) := by decide +kernel
theorem dX12_takesE_48 : decode cX12_takesE 48 = .ok (.if_icmp .ne 5, 3) := by decide +kernel
theorem dX12_takesE_51 : decode cX12_takesE 51 = .ok (.iconst 0, 1) := by decide +kernel
theorem dX12_takesE_52 : decode cX12_takesE 52 = .ok (.ireturn, 1) := by decide +kernel
theorem dX12_takesE_53 : decode cX12_takesE 53 = .ok (.aload_n 0, 1) := by decide +kernel
theorem dX12_takesE_54 : decode cX12_takesE 54 = .ok (.dup, 1) := by decide +kernel
theorem dX12_takesE_55 : decode cX12_takesE 55 = .ok (.getfield 90, 3) := by decide +kernel
theorem dX12_takesE_58 : decode cX12_takesE 58 = .ok (.iconst 1, 1) := by decide +kernel
theorem dX12_takesE_59 : decode cX12_takesE 59 = .ok (.iadd, 1) := by decide +kernel
theorem dX12_takesE_60 : decode cX12_takesE 60 = .ok (.putfield 90, 3) := by decide +kernel
theorem dX12_takesE_63 : decode cX12_takesE 63 = .ok (.aload_n 0, 1) := by decide +kernel
theorem dX12_takesE_64 : decode cX12_takesE 64 = .ok (.getfield 81, 3) := by decide +kernel
theorem dX12_takesE_67 : decode cX12_takesE 67 = .ok (.aload_n 0, 1) := by decide +kernel
theorem dX12_takesE_68 : decode cX12_takesE 68 = .ok (.getfield 87, 3) := by decide +kernel
theorem dX12_takesE_71 : decode cX12_takesE 71 = .ok (.iload_n 3, 1) := by decide +kernel
theorem dX12_takesE_72 : decode cX12_takesE 72 = .ok (.iastore, 1) := by decide +kernel
theorem dX12_takesE_73 : decode cX12_takesE 73 = .ok (.aload_n 0, 1) := by decide +kernel
theorem dX12_takesE_74 : decode cX12_takesE 74 = .ok (.dup, 1) := by decide +kernel
theorem dX12_takesE_75 : decode cX12_takesE 75 = .ok (.getfield 87, 3) := by decide +kernel
theorem dX12_takesE_78 : decode cX12_takesE 78 = .ok (.iconst 1, 1) := by decide +kernel
theorem dX12_takesE_79 : decode cX12_takesE 79 = .ok (.iadd, 1) := by decide +kernel
theorem dX12_takesE_80 : decode cX12_takesE 80 = .ok (.putfield 87, 3) := by decide +kernel
theorem dX12_takesE_83 : decode cX12_takesE 83 = .ok (.aload_n 0, 1) := by decide +kernel
theorem dX12_takesE_84 : decode cX12_takesE 84 = .ok (.dup, 1) := by decide +kernel
theorem dX12_takesE_85 : decode cX12_takesE 85 = .ok (.getfield 54, 3) := by decide +kernel
theorem dX12_takesE_88 : decode cX12_takesE 88 = .ok (.iconst 1, 1) := by decide +kernel
theorem dX12_takesE_89 : decode cX12_takesE 89 = .ok (.iadd, 1) := by decide +kernel
theorem dX12_takesE_90 : decode cX12_takesE 90 = .ok (.putfield 54, 3) := by decide +kernel
theorem dX12_takesE_93 : decode cX12_takesE 93 = .ok (.goto (-71), 3) := by decide +kernel
theorem dX12_takesE_96 : decode cX12_takesE 96 = .ok (.aload_n 0, 1) := by decide +kernel
theorem dX12_takesE_97 : decode cX12_takesE 97 = .ok (.invokevirtual 276, 3) := by decide +kernel
theorem dX12_takesE_100 : decode cX12_takesE 100 = .ok (.ifCond .eq 8, 3) := by decide +kernel
theorem dX12_takesE_103 : decode cX12_takesE 103 = .ok (.iconst 0, 1) := by decide +kernel
theorem dX12_takesE_104 : decode cX12_takesE 104 = .ok (.istore_n 2, 1) := by decide +kernel
theorem dX12_takesE_105 : decode cX12_takesE 105 = .ok (.goto (-83), 3) := by decide +kernel
theorem dX12_takesE_108 : decode cX12_takesE 108 = .ok (.iconst 0, 1) := by decide +kernel
theorem dX12_takesE_109 : decode cX12_takesE 109 = .ok (.ireturn, 1) := by decide +kernel
theorem dX12_takesE_110 : decode cX12_takesE 110 = .ok (.iload_n 3, 1) := by decide +kernel
theorem dX12_takesE_111 : decode cX12_takesE 111 = .ok (.bipush 38, 2) := by decide +kernel
theorem dX12_takesE_113 : decode cX12_takesE 113 = .ok (.if_icmp .eq 9, 3) := by decide +kernel
theorem dX12_takesE_116 : decode cX12_takesE 116 = .ok (.iload_n 3, 1) := by decide +kernel
theorem dX12_takesE_117 : decode cX12_takesE 117 = .ok (.bipush 124, 2) := by decide +kernel
theorem dX12_takesE_119 : decode cX12_takesE 119 = .ok (.if_icmp .ne 43, 3) := by decide +kernel
theorem dX12_takesE_122 : decode cX12_takesE 122 = .ok (.aload_n 0, 1) := by decide +kernel
theorem dX12_takesE_123 : decode cX12_takesE 123 = .ok (.iload_n 3, 1) := by decide +kernel
theorem dX12_takesE_124 : decode cX12_takesE 124 = .ok (.invokevirtual 279, 3) := by decide +kernel
theorem dX12_takesE_127 : decode cX12_takesE 127 = .ok (.aload_n 0, 1) := by decide +kernel
theorem dX12_takesE_128 : decode cX12_takesE 128 = .ok (.getfield 81, 3) := by decide +kernel
theorem dX12_takesE_131 : decode cX12_takesE 131 = .ok (.aload_n 0, 1) := by decide +kernel
theorem dX12_takesE_132 : decode cX12_takesE 132 = .ok (.getfield 87, 3) := by decide +kernel
theorem dX12_takesE_135 : decode cX12_takesE 135 = .ok (.iload_n 3, 1) := by decide +kernel
theorem dX12_takesE_136 : decode cX12_takesE 136 = .ok (.iastore, 1) := by decide +kernel
theorem dX12_takesE_137 : decode cX12_takesE 137 = .ok (.aload_n 0, 1) := by decide +kernel
theorem dX12_takesE_138 : decode cX12_takesE 138 = .ok (.dup, 1) := by decide +kernel
theorem dX12_takesE_139 : decode cX12_takesE 139 = .ok (.getfield 87, 3) := by decide +kernel
theorem dX12_takesE_142 : decode cX12_takesE 142 = .ok (.iconst 1, 1) := by decide +kernel
theorem dX12_takesE_143 : decode cX12_takesE 143 = .ok (.iadd, 1) := by decide +kernel
theorem dX12_takesE_144 : decode cX12_takesE 144 = .ok (.putfield 87, 3) := by decide +kernel
theorem dX12_takesE_147 : decode cX12_takesE 147 = .ok (.iconst 1, 1) := by decide +kernel
theorem dX12_takesE_148 : decode cX12_takesE 148 = .ok (.istore_n 2, 1) := by decide +kernel
theorem dX12_takesE_149 : decode cX12_takesE 149 = .ok (.aload_n 0, 1) := by decide +kernel
theorem dX12_takesE_150 : decode cX12_takesE 150 = .ok (.dup, 1) := by decide +kernel
theorem dX12_takesE_151 : decode cX12_takesE 151 = .ok (.getfield 54, 3) := by decide +kernel
theorem dX12_takesE_154 : decode cX12_takesE 154 = .ok (.iconst 1, 1) := by decide +kernel
theorem dX12_takesE_155 : decode cX12_takesE 155 = .ok (.iadd, 1) := by decide +kernel
theorem dX12_takesE_156 : decode cX12_takesE 156 = .ok (.putfield 54, 3) := by decide +kernel
theorem dX12_takesE_159 : decode cX12_takesE 159 = .ok (.goto (-137), 3) := by decide +kernel
theorem dX12_takesE_162 : decode cX12_takesE 162 = .ok (.aload_n 0, 1) := by decide +kernel
theorem dX12_takesE_163 : decode cX12_takesE 163 = .ok (.bipush 124, 2) := by decide +kernel
theorem dX12_takesE_165 : decode cX12_takesE 165 = .ok (.invokevirtual 279, 3) := by decide +kernel
theorem dX12_takesE_168 : decode cX12_takesE 168 = .ok (.aload_n 0, 1) := by decide +kernel
theorem dX12_takesE_169 : decode cX12_takesE 169 = .ok (.getfield 75, 3) := by decide +kernel
theorem dX12_takesE_172 : decode cX12_takesE 172 = .ok (.iload_n 1, 1) := by decide +kernel
theorem dX12_takesE_173 : decode cX12_takesE 173 = .ok (.aload_n 0, 1) := by decide +kernel
theorem dX12_takesE_174 : decode cX12_takesE 174 = .ok (.getfield 84, 3) := by decide +kernel
theorem dX12_takesE_177 : decode cX12_takesE 177 = .ok (.iastore, 1) := by decide +kernel
theorem dX12_takesE_178 : decode cX12_takesE 178 = .ok (.aload_n 0, 1) := by decide +kernel
theorem dX12_takesE_179 : decode cX12_takesE 179 = .ok (.getfield 87, 3) := by decide +kernel
theorem dX12_takesE_182 : decode cX12_takesE 182 = .ok (.ifCond .ne 5, 3) := by decide +kernel
theorem dX12_takesE_185 : decode cX12_takesE 185 = .ok (.iconst 1, 1) := by decide +kernel
theorem dX12_takesE_186 : decode cX12_takesE 186 = .ok (.ireturn, 1) := by decide +kernel
theorem dX12_takesE_187 : decode cX12_takesE 187 = .ok (.iload_n 3, 1) := by decide +kernel
theorem dX12_takesE_188 : decode cX12_takesE 188 = .ok (.bipush 41, 2) := by decide +kernel
theorem dX12_takesE_190 : decode cX12_takesE 190 = .ok (.if_icmp .eq 5, 3) := by decide +kernel
theorem dX12_takesE_193 : decode cX12_takesE 193 = .ok (.iconst 0, 1) := by decide +kernel
theorem dX12_takesE_194 : decode cX12_takesE 194 = .ok (.ireturn, 1) := by decide +kernel
theorem dX12_takesE_195 : decode cX12_takesE 195 = .ok (.aload_n 0, 1) := by decide +kernel
theorem dX12_takesE_196 : decode cX12_takesE 196 = .ok (.dup, 1) := by decide +kernel
theorem dX12_takesE_197 : decode cX12_takesE 197 = .ok (.getfield 87, 3) := by decide +kernel
theorem dX12_takesE_200 : decode cX12_takesE 200 = .ok (.iconst 1, 1) := by decide +kernel
theorem dX12_takesE_201 : decode cX12_takesE 201 = .ok (.isub, 1) := by decide +kernel
theorem dX12_takesE_202 : decode cX12_takesE 202 = .ok (.putfield 87, 3) := by decide +kernel
theorem dX12_takesE_205 : decode cX12_takesE 205 = .ok (.aload_n 0, 1) := by decide +kernel
theorem dX12_takesE_206 : decode cX12_takesE 206 = .ok (.dup, 1) := by decide +kernel
theorem dX12_takesE_207 : decode cX12_takesE 207 = .ok (.getfield 90, 3) := by decide +kernel
theorem dX12_takesE_210 : decode cX12_takesE 210 = .ok (.iconst 1, 1) := by decide +kernel
theorem dX12_takesE_211 : decode cX12_takesE 211 = .ok (.isub, 1) := by decide +kernel
theorem dX12_takesE_212 : decode cX12_takesE 212 = .ok (.putfield 90, 3) := by decide +kernel
theorem dX12_takesE_215 : decode cX12_takesE 215 = .ok (.aload_n 0, 1) := by decide +kernel
theorem dX12_takesE_216 : decode cX12_takesE 216 = .ok (.dup, 1) := by decide +kernel
theorem dX12_takesE_217 : decode cX12_takesE 217 = .ok (.getfield 54, 3) := by decide +kernel
theorem dX12_takesE_220 : decode cX12_takesE 220 = .ok (.iconst 1, 1) := by decide +kernel
theorem dX12_takesE_221 : decode cX12_takesE 221 = .ok (.iadd, 1) := by decide +kernel
theorem dX12_takesE_222 : decode cX12_takesE 222 = .ok (.putfield 54, 3) := by decide +kernel
theorem dX12_takesE_225 : decode cX12_takesE 225 = .ok (.aload_n 0, 1) := by decide +kernel
theorem dX12_takesE_226 : decode cX12_takesE 226 = .ok (.invokevirtual 273, 3) := by decide +kernel
theorem dX12_takesE_229 : decode cX12_takesE 229 = .ok (.goto (-207), 3) := by decide +kernel
theorem dX12_takesHead_0 : decode cX12_takesHead 0 = .ok (.aload_n 0, 1) := by decide +kernel
theorem dX12_takesHead_1 : decode cX12_takesHead 1 = .ok (.invokevirtual 251, 3) := by decide +kernel
theorem dX12_takesHead_4 : decode cX12_takesHead 4 = .ok (.lookupswitch 56 #[(99, 42), (100, 28)], 28) := by decide +kernel
theorem dX12_takesHead_32 : decode cX12_takesHead 32 = .ok (.aload_n 0, 1) := by decide +kernel
theorem dX12_takesHead_33 : decode cX12_takesHead 33 = .ok (.getfield 66, 3) := by decide +kernel
theorem dX12_takesHead_36 : decode cX12_takesHead 36 = .ok (.iload_n 1, 1) := by decide +kernel
theorem dX12_takesHead_37 : decode cX12_takesHead 37 = .ok (.iconst 0, 1) := by decide +kernel
theorem dX12_takesHead_38 : decode cX12_takesHead 38 = .ok (.iastore, 1) := by decide +kernel
theorem dX12_takesHead_39 : decode cX12_takesHead 39 = .ok (.aload_n 0, 1) := by decide +kernel
theorem dX12_takesHead_40 : decode cX12_takesHead 40 = .ok (.iconst 0, 1) := by decide +kernel
theorem dX12_takesHead_41 : decode cX12_takesHead 41 = .ok (.iconst 4, 1) := by decide +kernel
theorem dX12_takesHead_42 : decode cX12_takesHead 42 = .ok (.invokevirtual 282, 3) := by decide +kernel
theorem dX12_takesHead_45 : decode cX12_takesHead 45 = .ok (.ireturn, 1) := by decide +kernel
theorem dX12_takesHead_46 : decode cX12_takesHead 46 = .ok (.aload_n 0, 1) := by decide +kernel
theorem dX12_takesHead_47 : decode cX12_takesHead 47 = .ok (.getfield 66, 3) := by decide +kernel
theorem dX12_takesHead_50 : decode cX12_takesHead 50 = .ok (.iload_n 1, 1) := by decide +kernel
theorem dX12_takesHead_51 : decode cX12_takesHead 51 = .ok (.iconst 1, 1) := by decide +kernel
theorem dX12_takesHead_52 : decode cX12_takesHead 52 = .ok (.iastore, 1) := by decide +kernel
theorem dX12_takesHead_53 : decode cX12_takesHead 53 = .ok (.aload_n 0, 1) := by decide +kernel
theorem dX12_takesHead_54 : decode cX12_takesHead 54 = .ok (.iconst 4, 1) := by decide +kernel
theorem dX12_takesHead_55 : decode cX12_takesHead 55 = .ok (.iconst 5, 1) := by decide +kernel
theorem dX12_takesHead_56 : decode cX12_takesHead 56 = .ok (.invokevirtual 282, 3) := by decide +kernel
theorem dX12_takesHead_59 : decode cX12_takesHead 59 = .ok (.ireturn, 1) := by decide +kernel
theorem dX12_takesHead_60 : decode cX12_takesHead 60 = .ok (.aload_n 0, 1) := by decide +kernel
theorem dX12_takesHead_61 : decode cX12_takesHead 61 = .ok (.getfield 66, 3) := by decide +kernel
theorem dX12_takesHead_64 : decode cX12_takesHead 64 = .ok (.iload_n 1, 1) := by decide +kernel
theorem dX12_takesHead_65 : decode cX12_takesHead 65 = .ok (.iconst 2, 1) := by decide +kernel
theorem dX12_takesHead_66 : decode cX12_takesHead 66 = .ok (.iastore, 1) := by decide +kernel
theorem dX12_takesHead_67 : decode cX12_takesHead 67 = .ok (.aload_n 0, 1) := by decide +kernel
theorem dX12_takesHead_68 : decode cX12_takesHead 68 = .ok (.bipush 9, 2) := by decide +kernel
theorem dX12_takesHead_70 : decode cX12_takesHead 70 = .ok (.iconst 4, 1) := by decide +kernel
theorem dX12_takesHead_71 : decode cX12_takesHead 71 = .ok (.invokevirtual 282, 3) := by decide +kernel
theorem dX12_takesHead_74 : decode cX12_takesHead 74 = .ok (.ireturn, 1) := by decide +kernel
theorem dX12_takesClause_0 : decode cX12_takesClause 0 = .ok (.aload_n 0, 1) := by decide +kernel
theorem dX12_takesClause_1 : decode cX12_takesClause 1 = .ok (.iload_n 1, 1) := by decide +kernel
theorem dX12_takesClause_2 : decode cX12_takesClause 2 = .ok (.invokevirtual 286, 3) := by decide +kernel
theorem dX12_takesClause_5 : decode cX12_takesClause 5 = .ok (.ifCond .eq 10, 3) := by decide +kernel
theorem dX12_takesClause_8 : decode cX12_takesClause 8 = .ok (.aload_n 0, 1) := by decide +kernel
theorem dX12_takesClause_9 : decode cX12_takesClause 9 = .ok (.invokevirtual 270, 3) := by decide +kernel
theorem dX12_takesClause_12 : decode cX12_takesClause 12 = .ok (.ifCond .ne 5, 3) := by decide +kernel
theorem dX12_takesClause_15 : decode cX12_takesClause 15 = .ok (.iconst 0, 1) := by decide +kernel
theorem dX12_takesClause_16 : decode cX12_takesClause 16 = .ok (.ireturn, 1) := by decide +kernel
theorem dX12_takesClause_17 : decode cX12_takesClause 17 = .ok (.aload_n 0, 1) := by decide +kernel
theorem dX12_takesClause_18 : decode cX12_takesClause 18 = .ok (.getfield 69, 3) := by decide +kernel
theorem dX12_takesClause_21 : decode cX12_takesClause 21 = .ok (.iload_n 1, 1) := by decide +kernel
theorem dX12_takesClause_22 : decode cX12_takesClause 22 = .ok (.aload_n 0, 1) := by decide +kernel
theorem dX12_takesClause_23 : decode cX12_takesClause 23 = .ok (.getfield 57, 3) := by decide +kernel
theorem dX12_takesClause_26 : decode cX12_takesClause 26 = .ok (.iastore, 1) := by decide +kernel
theorem dX12_takesClause_27 : decode cX12_takesClause 27 = .ok (.aload_n 0, 1) := by decide +kernel
theorem dX12_takesClause_28 : decode cX12_takesClause 28 = .ok (.bipush 32, 2) := by decide +kernel
theorem dX12_takesClause_30 : decode cX12_takesClause 30 = .ok (.invokevirtual 255, 3) := by decide +kernel
theorem dX12_takesClause_33 : decode cX12_takesClause 33 = .ok (.ifCond .eq 15, 3) := by decide +kernel
theorem dX12_takesClause_36 : decode cX12_takesClause 36 = .ok (.aload_n 0, 1) := by decide +kernel
theorem dX12_takesClause_37 : decode cX12_takesClause 37 = .ok (.iload_n 1, 1) := by decide +kernel
theorem dX12_takesClause_38 : decode cX12_takesClause 38 = .ok (.invokevirtual 289, 3) := by decide +kernel
theorem dX12_takesClause_41 : decode cX12_takesClause 41 = .ok (.ifCond .eq 7, 3) := by decide +kernel
theorem dX12_takesClause_44 : decode cX12_takesClause 44 = .ok (.iconst 1, 1) := by decide +kernel
theorem dX12_takesClause_45 : decode cX12_takesClause 45 = .ok (.goto 4, 3) := by decide +kernel
theorem dX12_takesClause_48 : decode cX12_takesClause 48 = .ok (.iconst 0, 1) := by decide +kernel
theorem dX12_takesClause_49 : decode cX12_takesClause 49 = .ok (.ireturn, 1) := by decide +kernel
theorem dX12_goesText_0 : decode cX12_goesText 0 = .ok (.aload_n 0, 1) := by decide +kernel
theorem dX12_goesText_1 : decode cX12_goesText 1 = .ok (.iconst 0, 1) := by decide +kernel
theorem dX12_goesText_2 : decode cX12_goesText 2 = .ok (.putfield 54, 3) := by decide +kernel
theorem dX12_goesText_5 : decode cX12_goesText 5 = .ok (.aload_n 0, 1) := by decide +kernel
theorem dX12_goesText_6 : decode cX12_goesText 6 = .ok (.bipush 100, 2) := by decide +kernel
theorem dX12_goesText_8 : decode cX12_goesText 8 = .ok (.iload_n 1, 1) := by decide +kernel
theorem dX12_goesText_9 : decode cX12_goesText 9 = .ok (.imul, 1) := by decide +kernel
theorem dX12_goesText_10 : decode cX12_goesText 10 = .ok (.putfield 84, 3) := by decide +kernel
theorem dX12_goesText_13 : decode cX12_goesText 13 = .ok (.iconst 0, 1) := by decide +kernel
theorem dX12_goesText_14 : decode cX12_goesText 14 = .ok (.istore_n 2, 1) := by decide +kernel
theorem dX12_goesText_15 : decode cX12_goesText 15 = .ok (.aload_n 0, 1) := by decide +kernel
theorem dX12_goesText_16 : decode cX12_goesText 16 = .ok (.bipush 10, 2) := by decide +kernel
theorem dX12_goesText_18 : decode cX12_goesText 18 = .ok (.iload_n 1, 1) := by decide +kernel
theorem dX12_goesText_19 : decode cX12_goesText 19 = .ok (.imul, 1) := by decide +kernel
theorem dX12_goesText_20 : decode cX12_goesText 20 = .ok (.iload_n 2, 1) := by decide +kernel
theorem dX12_goesText_21 : decode cX12_goesText 21 = .ok (.iadd, 1) := by decide +kernel
theorem dX12_goesText_22 : decode cX12_goesText 22 = .ok (.invokevirtual 292, 3) := by decide +kernel
theorem dX12_goesText_25 : decode cX12_goesText 25 = .ok (.ifCond .ne 5, 3) := by decide +kernel
theorem dX12_goesText_28 : decode cX12_goesText 28 = .ok (.iconst 0, 1) := by decide +kernel
theorem dX12_goesText_29 : decode cX12_goesText 29 = .ok (.ireturn, 1) := by decide +kernel
theorem dX12_goesText_30 : decode cX12_goesText 30 = .ok (.iinc 2 1, 3) := by decide +kernel
theorem dX12_goesText_33 : decode cX12_goesText 33 = .ok (.aload_n 0, 1) := by decide +kernel
theorem dX12_goesText_34 : decode cX12_goesText 34 = .ok (.getfield 63, 3) := by decide +kernel
theorem dX12_goesText_37 : decode cX12_goesText 37 = .ok (.iload_n 1, 1) := by decide +kernel
theorem dX12_goesText_38 : decode cX12_goesText 38 = .ok (.iload_n 2, 1) := by decide +kernel
theorem dX12_goesText_39 : decode cX12_goesText 39 = .ok (.iastore, 1) := by decide +kernel
theorem dX12_goesText_40 : decode cX12_goesText 40 = .ok (.aload_n 0, 1) := by decide +kernel
theorem dX12_goesText_41 : decode cX12_goesText 41 = .ok (.getfield 54, 3) := by decide +kernel
theorem dX12_goesText_44 : decode cX12_goesText 44 = .ok (.aload_n 0, 1) := by decide +kernel
theorem dX12_goesText_45 : decode cX12_goesText 45 = .ok (.getfield 51, 3) := by decide +kernel
theorem dX12_goesText_48 : decode cX12_goesText 48 = .ok (.if_icmp .ne 5, 3) := by decide +kernel
theorem dX12_goesText_51 : decode cX12_goesText 51 = .ok (.iconst 1, 1) := by decide +kernel
theorem dX12_goesText_52 : decode cX12_goesText 52 = .ok (.ireturn, 1) := by decide +kernel
theorem dX12_goesText_53 : decode cX12_goesText 53 = .ok (.iload_n 2, 1) := by decide +kernel
theorem dX12_goesText_54 : decode cX12_goesText 54 = .ok (.bipush 10, 2) := by decide +kernel
theorem dX12_goesText_56 : decode cX12_goesText 56 = .ok (.if_icmp .eq 12, 3) := by decide +kernel
theorem dX12_goesText_59 : decode cX12_goesText 59 = .ok (.aload_n 0, 1) := by decide +kernel
theorem dX12_goesText_60 : decode cX12_goesText 60 = .ok (.bipush 59, 2) := by decide +kernel
theorem dX12_goesText_62 : decode cX12_goesText 62 = .ok (.invokevirtual 255, 3) := by decide +kernel
theorem dX12_goesText_65 : decode cX12_goesText 65 = .ok (.ifCond .ne (-50), 3) := by decide +kernel
theorem dX12_goesText_68 : decode cX12_goesText 68 = .ok (.iconst 0, 1) := by decide +kernel
theorem dX12_goesText_69 : decode cX12_goesText 69 = .ok (.ireturn, 1) := by decide +kernel
theorem dX12_night_0 : decode cX12_night 0 = .ok (.aload_n 0, 1) := by decide +kernel
theorem dX12_night_1 : decode cX12_night 1 = .ok (.getfield 45, 3) := by decide +kernel
theorem dX12_night_4 : decode cX12_night 4 = .ok (.bipush 6, 2) := by decide +kernel
theorem dX12_night_6 : decode cX12_night 6 = .ok (.if_icmp .ne 6, 3) := by decide +kernel
theorem dX12_night_9 : decode cX12_night 9 = .ok (.bipush (-4), 2) := by decide +kernel
theorem dX12_night_11 : decode cX12_night 11 = .ok (.ireturn, 1) := by decide +kernel
theorem dX12_night_12 : decode cX12_night 12 = .ok (.aload_n 0, 1) := by decide +kernel
theorem dX12_night_13 : decode cX12_night 13 = .ok (.aload_n 0, 1) := by decide +kernel
theorem dX12_night_14 : decode cX12_night 14 = .ok (.getfield 45, 3) := by decide +kernel
theorem dX12_night_17 : decode cX12_night 17 = .ok (.invokevirtual 295, 3) := by decide +kernel
theorem dX12_night_20 : decode cX12_night 20 = .ok (.istore_n 1, 1) := by decide +kernel
theorem dX12_night_21 : decode cX12_night 21 = .ok (.aload_n 0, 1) := by decide +kernel
theorem dX12_night_22 : decode cX12_night 22 = .ok (.iconst 0, 1) := by decide +kernel
theorem dX12_night_23 : decode cX12_night 23 = .ok (.putfield 51, 3) := by decide +kernel
theorem dX12_night_26 : decode cX12_night 26 = .ok (.iload_n 1, 1) := by decide +kernel
theorem dX12_night_27 : decode cX12_night 27 = .ok (.ifCond .ne 11, 3) := by decide +kernel
theorem dX12_night_30 : decode cX12_night 30 = .ok (.bipush (-10), 2) := by decide +kernel
theorem dX12_night_32 : decode cX12_night 32 = .ok (.aload_n 0, 1) := by decide +kernel
theorem dX12_night_33 : decode cX12_night 33 = .ok (.getfield 54, 3) := by decide +kernel
theorem dX12_night_36 : decode cX12_night 36 = .ok (.isub, 1) := by decide +kernel
theorem dX12_night_37 : decode cX12_night 37 = .ok (.ireturn, 1) := by decide +kernel
theorem dX12_night_38 : decode cX12_night 38 = .ok (.aload_n 0, 1) := by decide +kernel
theorem dX12_night_39 : decode cX12_night 39 = .ok (.aload_n 0, 1) := by decide +kernel
theorem dX12_night_40 : decode cX12_night 40 = .ok (.getfield 45, 3) := by decide +kernel
theorem dX12_night_43 : decode cX12_night 43 = .ok (.putfield 48, 3) := by decide +kernel
theorem dX12_night_46 : decode cX12_night 46 = .ok (.aload_n 0, 1) := by decide +kernel
theorem dX12_night_47 : decode cX12_night 47 = .ok (.dup, 1) := by decide +kernel
theorem dX12_night_48 : decode cX12_night 48 = .ok (.getfield 45, 3) := by decide +kernel
theorem dX12_night_51 : decode cX12_night 51 = .ok (.iconst 1, 1) := by decide +kernel
theorem dX12_night_52 : decode cX12_night 52 = .ok (.iadd, 1) := by decide +kernel
theorem dX12_night_53 : decode cX12_night 53 = .ok (.putfield 45, 3) := by decide +kernel
theorem dX12_night_56 : decode cX12_night 56 = .ok (.aload_n 0, 1) := by decide +kernel
theorem dX12_night_57 : decode cX12_night 57 = .ok (.getfield 48, 3) := by decide +kernel
theorem dX12_night_60 : decode cX12_night 60 = .ok (.ireturn, 1) := by decide +kernel
theorem dX12_begin_0 : decode cX12_begin 0 = .ok (.aload_n 0, 1) := by decide +kernel
theorem dX12_begin_1 : decode cX12_begin 1 = .ok (.getfield 48, 3) := by decide +kernel
theorem dX12_begin_4 : decode cX12_begin 4 = .ok (.ifCond .ge 7, 3) := by decide +kernel
theorem dX12_begin_7 : decode cX12_begin 7 = .ok (.iconst 0, 1) := by decide +kernel
theorem dX12_begin_8 : decode cX12_begin 8 = .ok (.goto 10, 3) := by decide +kernel
theorem dX12_begin_11 : decode cX12_begin 11 = .ok (.bipush 10, 2) := by decide +kernel
theorem dX12_begin_13 : decode cX12_begin 13 = .ok (.aload_n 0, 1) := by decide +kernel
theorem dX12_begin_14 : decode cX12_begin 14 = .ok (.getfield 48, 3) := by decide +kernel
theorem dX12_begin_17 : decode cX12_begin 17 = .ok (.imul, 1) := by decide +kernel
theorem dX12_begin_18 : decode cX12_begin 18 = .ok (.ireturn, 1) := by decide +kernel
theorem dX12_behind_0 : decode cX12_behind 0 = .ok (.aload_n 0, 1) := by decide +kernel
theorem dX12_behind_1 : decode cX12_behind 1 = .ok (.getfield 48, 3) := by decide +kernel
theorem dX12_behind_4 : decode cX12_behind 4 = .ok (.ifCond .ge 7, 3) := by decide +kernel
theorem dX12_behind_7 : decode cX12_behind 7 = .ok (.iconst 0, 1) := by decide +kernel
theorem dX12_behind_8 : decode cX12_behind 8 = .ok (.goto 20, 3) := by decide +kernel
theorem dX12_behind_11 : decode cX12_behind 11 = .ok (.bipush 10, 2) := by decide +kernel
theorem dX12_behind_13 : decode cX12_behind 13 = .ok (.aload_n 0, 1) := by decide +kernel
theorem dX12_behind_14 : decode cX12_behind 14 = .ok (.getfield 48, 3) := by decide +kernel
theorem dX12_behind_17 : decode cX12_behind 17 = .ok (.imul, 1) := by decide +kernel
theorem dX12_behind_18 : decode cX12_behind 18 = .ok (.aload_n 0, 1) := by decide +kernel
theorem dX12_behind_19 : decode cX12_behind 19 = .ok (.getfield 63, 3) := by decide +kernel
theorem dX12_behind_22 : decode cX12_behind 22 = .ok (.aload_n 0, 1) := by decide +kernel
theorem dX12_behind_23 : decode cX12_behind 23 = .ok (.getfield 48, 3) := by decide +kernel
theorem dX12_behind_26 : decode cX12_behind 26 = .ok (.iaload, 1) := by decide +kernel
theorem dX12_behind_27 : decode cX12_behind 27 = .ok (.iadd, 1) := by decide +kernel
theorem dX12_behind_28 : decode cX12_behind 28 = .ok (.ireturn, 1) := by decide +kernel
theorem dX12_factOf_0 : decode cX12_factOf 0 = .ok (.iload_n 1, 1) := by decide +kernel
theorem dX12_factOf_1 : decode cX12_factOf 1 = .ok (.ifCond .ne 8, 3) := by decide +kernel
theorem dX12_factOf_4 : decode cX12_factOf 4 = .ok (.iload_n 2, 1) := by decide +kernel
theorem dX12_factOf_5 : decode cX12_factOf 5 = .ok (.bipush 12, 2) := by decide +kernel
theorem dX12_factOf_7 : decode cX12_factOf 7 = .ok (.irem, 1) := by decide +kernel
theorem dX12_factOf_8 : decode cX12_factOf 8 = .ok (.ireturn, 1) := by decide +kernel
theorem dX12_factOf_9 : decode cX12_factOf 9 = .ok (.iload_n 3, 1) := by decide +kernel
theorem dX12_factOf_10 : decode cX12_factOf 10 = .ok (.ifCond .ge 5, 3) := by decide +kernel
theorem dX12_factOf_13 : decode cX12_factOf 13 = .ok (.iconst 0, 1) := by decide +kernel
theorem dX12_factOf_14 : decode cX12_factOf 14 = .ok (.ireturn, 1) := by decide +kernel
theorem dX12_factOf_15 : decode cX12_factOf 15 = .ok (.iload_n 1, 1) := by decide +kernel
theorem dX12_factOf_16 : decode cX12_factOf 16 = .ok (.tableswitch 57 1 4 #[32, 37, 42, 49], 32) := by decide +kernel
theorem dX12_factOf_48 : decode cX12_factOf 48 = .ok (.iload_n 3, 1) := by decide +kernel
theorem dX12_factOf_49 : decode cX12_factOf 49 = .ok (.bipush 6, 2) := by decide +kernel
theorem dX12_factOf_51 : decode cX12_factOf 51 = .ok (.irem, 1) := by decide +kernel
theorem dX12_factOf_52 : decode cX12_factOf 52 = .ok (.ireturn, 1) := by decide +kernel
theorem dX12_factOf_53 : decode cX12_factOf 53 = .ok (.iload_n 3, 1) := by decide +kernel
theorem dX12_factOf_54 : decode cX12_factOf 54 = .ok (.bipush 6, 2) := by decide +kernel
theorem dX12_factOf_56 : decode cX12_factOf 56 = .ok (.idiv, 1) := by decide +kernel
theorem dX12_factOf_57 : decode cX12_factOf 57 = .ok (.ireturn, 1) := by decide +kernel
theorem dX12_factOf_58 : decode cX12_factOf 58 = .ok (.aload_n 0, 1) := by decide +kernel
theorem dX12_factOf_59 : decode cX12_factOf 59 = .ok (.getfield 29, 3) := by decide +kernel
theorem dX12_factOf_62 : decode cX12_factOf 62 = .ok (.iload_n 3, 1) := by decide +kernel
theorem dX12_factOf_63 : decode cX12_factOf 63 = .ok (.iaload, 1) := by decide +kernel
theorem dX12_factOf_64 : decode cX12_factOf 64 = .ok (.ireturn, 1) := by decide +kernel
theorem dX12_factOf_65 : decode cX12_factOf 65 = .ok (.aload_n 0, 1) := by decide +kernel
theorem dX12_factOf_66 : decode cX12_factOf 66 = .ok (.getfield 33, 3) := by decide +kernel
theorem dX12_factOf_69 : decode cX12_factOf 69 = .ok (.iload 4, 2) := by decide +kernel
theorem dX12_factOf_71 : decode cX12_factOf 71 = .ok (.iaload, 1) := by decide +kernel
theorem dX12_factOf_72 : decode cX12_factOf 72 = .ok (.ireturn, 1) := by decide +kernel
theorem dX12_factOf_73 : decode cX12_factOf 73 = .ok (.aload_n 0, 1) := by decide +kernel
theorem dX12_factOf_74 : decode cX12_factOf 74 = .ok (.getfield 19, 3) := by decide +kernel
theorem dX12_factOf_77 : decode cX12_factOf 77 = .ok (.iload_n 3, 1) := by decide +kernel
theorem dX12_factOf_78 : decode cX12_factOf 78 = .ok (.ishr, 1) := by decide +kernel
theorem dX12_factOf_79 : decode cX12_factOf 79 = .ok (.iconst 1, 1) := by decide +kernel
theorem dX12_factOf_80 : decode cX12_factOf 80 = .ok (.iand, 1) := by decide +kernel
theorem dX12_factOf_81 : decode cX12_factOf 81 = .ok (.ireturn, 1) := by decide +kernel
theorem dX12_holds_0 : decode cX12_holds 0 = .ok (.iconst 0, 1) := by decide +kernel
theorem dX12_holds_1 : decode cX12_holds 1 = .ok (.istore 5, 2) := by decide +kernel
theorem dX12_holds_3 : decode cX12_holds 3 = .ok (.aload_n 0, 1) := by decide +kernel
theorem dX12_holds_4 : decode cX12_holds 4 = .ok (.getfield 72, 3) := by decide +kernel
theorem dX12_holds_7 : decode cX12_holds 7 = .ok (.iload_n 1, 1) := by decide +kernel
theorem dX12_holds_8 : decode cX12_holds 8 = .ok (.iaload, 1) := by decide +kernel
theorem dX12_holds_9 : decode cX12_holds 9 = .ok (.istore 6, 2) := by decide +kernel
theorem dX12_holds_11 : decode cX12_holds 11 = .ok (.iload 6, 2) := by decide +kernel
theorem dX12_holds_13 : decode cX12_holds 13 = .ok (.aload_n 0, 1) := by decide +kernel
theorem dX12_holds_14 : decode cX12_holds 14 = .ok (.getfield 75, 3) := by decide +kernel
theorem dX12_holds_17 : decode cX12_holds 17 = .ok (.iload_n 1, 1) := by decide +kernel
theorem dX12_holds_18 : decode cX12_holds 18 = .ok (.iaload, 1) := by decide +kernel
theorem dX12_holds_19 : decode cX12_holds 19 = .ok (.if_icmp .ge 236, 3) := by decide +kernel
theorem dX12_holds_22 : decode cX12_holds 22 = .ok (.aload_n 0, 1) := by decide +kernel
theorem dX12_holds_23 : decode cX12_holds 23 = .ok (.getfield 78, 3) := by decide +kernel
theorem dX12_holds_26 : decode cX12_holds 26 = .ok (.iload 6, 2) := by decide +kernel
theorem dX12_holds_28 : decode cX12_holds 28 = .ok (.iaload, 1) := by decide +kernel
theorem dX12_holds_29 : decode cX12_holds 29 = .ok (.istore 7, 2) := by decide +kernel
theorem dX12_holds_31 : decode cX12_holds 31 = .ok (.iload 7, 2) := by decide +kernel
theorem dX12_holds_33 : decode cX12_holds 33 = .ok (.bipush (-33), 2) := by decide +kernel
theorem dX12_holds_35 : decode cX12_holds 35 = .ok (.if_icmp .ne 32, 3) := by decide +kernel
theorem dX12_holds_38 : decode cX12_holds 38 = .ok (.aload_n 0, 1) := by decide +kernel
theorem dX12_holds_39 : decode cX12_holds 39 = .ok (.getfield 96, 3) := by decide +kernel
theorem dX12_holds_42 : decode cX12_holds 42 = .ok (.iload 5, 2) := by decide +kernel
theorem dX12_holds_44 : decode cX12_holds 44 = .ok (.iconst 1, 1) := by decide +kernel
theorem dX12_holds_45 : decode cX12_holds 45 = .ok (.isub, 1) := by decide +kernel
theorem dX12_holds_46 : decode cX12_holds 46 = .ok (.aload_n 0, 1) := by decide +kernel
theorem dX12_holds_47 : decode cX12_holds 47 = .ok (.getfield 96, 3) := by decide +kernel
theorem dX12_holds_50 : decode cX12_holds 50 = .ok (.iload 5, 2) := by decide +kernel
theorem dX12_holds_52 : decode cX12_holds 52 = .ok (.iconst 1, 1) := by decide +kernel
theorem dX12_holds_53 : decode cX12_holds 53 = .ok (.isub, 1) := by decide +kernel
theorem dX12_holds_54 : decode cX12_holds 54 = .ok (.baload, 1) := by decide +kernel
theorem dX12_holds_55 : decode cX12_holds 55 = .ok (.ifCond .ne 7, 3) := by decide +kernel
theorem dX12_holds_58 : decode cX12_holds 58 = .ok (.iconst 1, 1) := by decide +kernel
theorem dX12_holds_59 : decode cX12_holds 59 = .ok (.goto 4, 3) := by decide +kernel
theorem dX12_holds_62 : decode cX12_holds 62 = .ok (.iconst 0, 1) := by decide +kernel
theorem dX12_holds_63 : decode cX12_holds 63 = .ok (.bastore, 1) := by decide +kernel
theorem dX12_holds_64 : decode cX12_holds 64 = .ok (.goto 185, 3) := by decide +kernel
theorem dX12_holds_67 : decode cX12_holds 67 = .ok (.iload 7, 2) := by decide +kernel
theorem dX12_holds_69 : decode cX12_holds 69 = .ok (.ifCond .ge 82, 3) := by decide +kernel
theorem dX12_holds_72 : decode cX12_holds 72 = .ok (.iinc 5 (-1), 3) := by decide +kernel
theorem dX12_holds_75 : decode cX12_holds 75 = .ok (.aload_n 0, 1) := by decide +kernel
theorem dX12_holds_76 : decode cX12_holds 76 = .ok (.getfield 96, 3) := by decide +kernel
theorem dX12_holds_79 : decode cX12_holds 79 = .ok (.iload 5, 2) := by decide +kernel
theorem dX12_holds_81 : decode cX12_holds 81 = .ok (.iconst 1, 1) := by decide +kernel
theorem dX12_holds_82 : decode cX12_holds 82 = .ok (.isub, 1) := by decide +kernel
theorem dX12_holds_83 : decode cX12_holds 83 = .ok (.iload 7, 2) := by decide +kernel
theorem dX12_holds_85 : decode cX12_holds 85 = .ok (.bipush (-38), 2) := by decide +kernel
theorem dX12_holds_87 : decode cX12_holds 87 = .ok (.if_icmp .ne 33, 3) := by decide +kernel
theorem dX12_holds_90 : decode cX12_holds 90 = .ok (.aload_n 0, 1) := by decide +kernel
theorem dX12_holds_91 : decode cX12_holds 91 = .ok (.getfield 96, 3) := by decide +kernel
theorem dX12_holds_94 : decode cX12_holds 94 = .ok (.iload 5, 2) := by decide +kernel
theorem dX12_holds_96 : decode cX12_holds 96 = .ok (.iconst 1, 1) := by decide +kernel
theorem dX12_holds_97 : decode cX12_holds 97 = .ok (.isub, 1) := by decide +kernel
theorem dX12_holds_98 : decode cX12_holds 98 = .ok (.baload, 1) := by decide +kernel
theorem dX12_holds_99 : decode cX12_holds 99 = .ok (.ifCond .eq 17, 3) := by decide +kernel
theorem dX12_holds_102 : decode cX12_holds 102 = .ok (.aload_n 0, 1) := by decide +kernel
theorem dX12_holds_103 : decode cX12_holds 103 = .ok (.getfield 96, 3) := by decide +kernel
theorem dX12_holds_106 : decode cX12_holds 106 = .ok (.iload 5, 2) := by decide +kernel
theorem dX12_holds_108 : decode cX12_holds 108 = .ok (.baload, 1) := by decide +kernel
theorem dX12_holds_109 : decode cX12_holds 109 = .ok (.ifCond .eq 7, 3) := by decide +kernel
theorem dX12_holds_112 : decode cX12_holds 112 = .ok (.iconst 1, 1) := by decide +kernel
theorem dX12_holds_113 : decode cX12_holds 113 = .ok (.goto 34, 3) := by decide +kernel
theorem dX12_holds_116 : decode cX12_holds 116 = .ok (.iconst 0, 1) := by decide +kernel
theorem dX12_holds_117 : decode cX12_holds 117 = .ok (.goto 30, 3) := by decide +kernel
theorem dX12_holds_120 : decode cX12_holds 120 = .ok (.aload_n 0, 1) := by decide +kernel
theorem dX12_holds_121 : decode cX12_holds 121 = .ok (.getfield 96, 3) := by decide +kernel
theorem dX12_holds_124 : decode cX12_holds 124 = .ok (.iload 5, 2) := by decide +kernel
theorem dX12_holds_126 : decode cX12_holds 126 = .ok (.iconst 1, 1) := by decide +kernel
theorem dX12_holds_127 : decode cX12_holds 127 = .ok (.isub, 1) := by decide +kernel
theorem dX12_holds_128 : decode cX12_holds 128 = .ok (.baload, 1) := by decide +kernel
theorem dX12_holds_129 : decode cX12_holds 129 = .ok (.ifCond .ne 13, 3) := by decide +kernel
theorem dX12_holds_132 : decode cX12_holds 132 = .ok (.aload_n 0, 1) := by decide +kernel
theorem dX12_holds_133 : decode cX12_holds 133 = .ok (.getfield 96, 3) := by decide +kernel
theorem dX12_holds_136 : decode cX12_holds 136 = .ok (.iload 5, 2) := by decide +kernel
theorem dX12_holds_138 : decode cX12_holds 138 = .ok (.baload, 1) := by decide +kernel
theorem dX12_holds_139 : decode cX12_holds 139 = .ok (.ifCond .eq 7, 3) := by decide +kernel
theorem dX12_holds_142 : decode cX12_holds 142 = .ok (.iconst 1, 1) := by decide +kernel
theorem dX12_holds_143 : decode cX12_holds 143 = .ok (.goto 4, 3) := by decide +kernel
theorem dX12_holds_146 : decode cX12_holds 146 = .ok (.iconst 0, 1) := by decide +kernel
theorem dX12_holds_147 : decode cX12_holds 147 = .ok (.bastore, 1) := by decide +kernel
theorem dX12_holds_148 : decode cX12_holds 148 = .ok (.goto 101, 3) := by decide +kernel
theorem dX12_holds_151 : decode cX12_holds 151 = .ok (.aload_n 0, 1) := by decide +kernel
theorem dX12_holds_152 : decode cX12_holds 152 = .ok (.iload 7, 2) := by decide +kernel
theorem dX12_holds_154 : decode cX12_holds 154 = .ok (.sipush 1000, 3) := by decide +kernel
theorem dX12_holds_157 : decode cX12_holds 157 = .ok (.idiv, 1) := by decide +kernel
theorem dX12_holds_158 : decode cX12_holds 158 = .ok (.iload_n 2, 1) := by decide +kernel
theorem dX12_holds_159 : decode cX12_holds 159 = .ok (.iload_n 3, 1) := by decide +kernel
theorem dX12_holds_160 : decode cX12_holds 160 = .ok (.iload 4, 2) := by decide +kernel
theorem dX12_holds_162 : decode cX12_holds 162 = .ok (.invokevirtual 298, 3) := by decide +kernel
theorem dX12_holds_165 : decode cX12_holds 165 = .ok (.istore 8, 2) := by decide +kernel
theorem dX12_holds_167 : decode cX12_holds 167 = .ok (.iload 7, 2) := by decide +kernel
theorem dX12_holds_169 : decode cX12_holds 169 = .ok (.bipush 100, 2) := by decide +kernel
theorem dX12_holds_171 : decode cX12_holds 171 = .ok (.idiv, 1) := by decide +kernel
theorem dX12_holds_172 : decode cX12_holds 172 = .ok (.bipush 10, 2) := by decide +kernel
theorem dX12_holds_174 : decode cX12_holds 174 = .ok (.irem, 1) := by decide +kernel
theorem dX12_holds_175 : decode cX12_holds 175 = .ok (.istore 9, 2) := by decide +kernel
theorem dX12_holds_177 : decode cX12_holds 177 = .ok (.aload_n 0, 1) := by decide +kernel
theorem dX12_holds_178 : decode cX12_holds 178 = .ok (.getfield 96, 3) := by decide +kernel
theorem dX12_holds_181 : decode cX12_holds 181 = .ok (.iload 5, 2) := by decide +kernel
theorem dX12_holds_183 : decode cX12_holds 183 = .ok (.iload 9, 2) := by decide +kernel
theorem dX12_holds_185 : decode cX12_holds 185 = .ok (.ifCond .ne 21, 3) := by decide +kernel
theorem dX12_holds_188 : decode cX12_holds 188 = .ok (.iload 8, 2) := by decide +kernel
theorem dX12_holds_190 : decode cX12_holds 190 = .ok (.iload 7, 2) := by decide +kernel
theorem dX12_holds_192 : decode cX12_holds 192 = .ok (.bipush 100, 2) := by decide +kernel
theorem dX12_holds_194 : decode cX12_holds 194 = .ok (.irem, 1) := by decide +kernel
theorem dX12_holds_195 : decode cX12_holds 195 = .ok (.if_icmp .ge 7, 3) := by decide +kernel
theorem dX12_holds_198 : decode cX12_holds 198 = .ok (.iconst 1, 1) := by decide +kernel
theorem dX12_holds_199 : decode cX12_holds 199 = .ok (.goto 46, 3) := by decide +kernel
theorem dX12_holds_202 : decode cX12_holds 202 = .ok (.iconst 0, 1) := by decide +kernel
theorem dX12_holds_203 : decode cX12_holds 203 = .ok (.goto 42, 3) := by decide +kernel
theorem dX12_holds_206 : decode cX12_holds 206 = .ok (.iload 9, 2) := by decide +kernel
theorem dX12_holds_208 : decode cX12_holds 208 = .ok (.iconst 1, 1) := by decide +kernel
theorem dX12_holds_209 : decode cX12_holds 209 = .ok (.if_icmp .ne 21, 3) := by decide +kernel
theorem dX12_holds_212 : decode cX12_holds 212 = .ok (.iload 8, 2) := by decide +kernel
theorem dX12_holds_214 : decode cX12_holds 214 = .ok (.iload 7, 2) := by decide +kernel
theorem dX12_holds_216 : decode cX12_holds 216 = .ok (.bipush 100, 2) := by decide +kernel
theorem dX12_holds_218 : decode cX12_holds 218 = .ok (.irem, 1) := by decide +kernel
theorem dX12_holds_219 : decode cX12_holds 219 = .ok (.if_icmp .ne 7, 3) := by decide +kernel
theorem dX12_holds_222 : decode cX12_holds 222 = .ok (.iconst 1, 1) := by decide +kernel
theorem dX12_holds_223 : decode cX12_holds 223 = .ok (.goto 22, 3) := by decide +kernel
theorem dX12_holds_226 : decode cX12_holds 226 = .ok (.iconst 0, 1) := by decide +kernel
theorem dX12_holds_227 : decode cX12_holds 227 = .ok (.goto 18, 3) := by decide +kernel
theorem dX12_holds_230 : decode cX12_holds 230 = .ok (.iload 8, 2) := by decide +kernel
theorem dX12_holds_232 : decode cX12_holds 232 = .ok (.iload 7, 2) := by decide +kernel
theorem dX12_holds_234 : decode cX12_holds 234 = .ok (.bipush 100, 2) := by decide +kernel
theorem dX12_holds_236 : decode cX12_holds 236 = .ok (.irem, 1) := by decide +kernel
theorem dX12_holds_237 : decode cX12_holds 237 = .ok (.if_icmp .le 7, 3) := by decide +kernel
theorem dX12_holds_240 : decode cX12_holds 240 = .ok (.iconst 1, 1) := by decide +kernel
theorem dX12_holds_241 : decode cX12_holds 241 = .ok (.goto 4, 3) := by decide +kernel
theorem dX12_holds_244 : decode cX12_holds 244 = .ok (.iconst 0, 1) := by decide +kernel
theorem dX12_holds_245 : decode cX12_holds 245 = .ok (.bastore, 1) := by decide +kernel
theorem dX12_holds_246 : decode cX12_holds 246 = .ok (.iinc 5 1, 3) := by decide +kernel
theorem dX12_holds_249 : decode cX12_holds 249 = .ok (.iinc 6 1, 3) := by decide +kernel
theorem dX12_holds_252 : decode cX12_holds 252 = .ok (.goto (-241), 3) := by decide +kernel
theorem dX12_holds_255 : decode cX12_holds 255 = .ok (.aload_n 0, 1) := by decide +kernel
theorem dX12_holds_256 : decode cX12_holds 256 = .ok (.getfield 96, 3) := by decide +kernel
theorem dX12_holds_259 : decode cX12_holds 259 = .ok (.iconst 0, 1) := by decide +kernel
theorem dX12_holds_260 : decode cX12_holds 260 = .ok (.baload, 1) := by decide +kernel
theorem dX12_holds_261 : decode cX12_holds 261 = .ok (.ireturn, 1) := by decide +kernel
theorem dX12_sumOf_0 : decode cX12_sumOf 0 = .ok (.iconst 0, 1) := by decide +kernel
theorem dX12_sumOf_1 : decode cX12_sumOf 1 = .ok (.istore 5, 2) := by decide +kernel
theorem dX12_sumOf_3 : decode cX12_sumOf 3 = .ok (.aload_n 0, 1) := by decide +kernel
theorem dX12_sumOf_4 : decode cX12_sumOf 4 = .ok (.invokevirtual 302, 3) := by decide +kernel
theorem dX12_sumOf_7 : decode cX12_sumOf 7 = .ok (.istore 6, 2) := by decide +kernel
theorem dX12_sumOf_9 : decode cX12_sumOf 9 = .ok (.iload 6, 2) := by decide +kernel
theorem dX12_sumOf_11 : decode cX12_sumOf 11 = .ok (.aload_n 0, 1) := by decide +kernel
theorem dX12_sumOf_12 : decode cX12_sumOf 12 = .ok (.invokevirtual 305, 3) := by decide +kernel
theorem dX12_sumOf_15 : decode cX12_sumOf 15 = .ok (.if_icmp .ge 49, 3) := by decide +kernel
theorem dX12_sumOf_18 : decode cX12_sumOf 18 = .ok (.iload 5, 2) := by decide +kernel
theorem dX12_sumOf_20 : decode cX12_sumOf 20 = .ok (.aload_n 0, 1) := by decide +kernel
theorem dX12_sumOf_21 : decode cX12_sumOf 21 = .ok (.getfield 66, 3) := by decide +kernel
theorem dX12_sumOf_24 : decode cX12_sumOf 24 = .ok (.iload 6, 2) := by decide +kernel
theorem dX12_sumOf_26 : decode cX12_sumOf 26 = .ok (.iaload, 1) := by decide +kernel
theorem dX12_sumOf_27 : decode cX12_sumOf 27 = .ok (.iload_n 1, 1) := by decide +kernel
theorem dX12_sumOf_28 : decode cX12_sumOf 28 = .ok (.if_icmp .ne 26, 3) := by decide +kernel
theorem dX12_sumOf_31 : decode cX12_sumOf 31 = .ok (.aload_n 0, 1) := by decide +kernel
theorem dX12_sumOf_32 : decode cX12_sumOf 32 = .ok (.iload 6, 2) := by decide +kernel
theorem dX12_sumOf_34 : decode cX12_sumOf 34 = .ok (.iload_n 2, 1) := by decide +kernel
theorem dX12_sumOf_35 : decode cX12_sumOf 35 = .ok (.iload_n 3, 1) := by decide +kernel
theorem dX12_sumOf_36 : decode cX12_sumOf 36 = .ok (.iload 4, 2) := by decide +kernel
theorem dX12_sumOf_38 : decode cX12_sumOf 38 = .ok (.invokevirtual 308, 3) := by decide +kernel
theorem dX12_sumOf_41 : decode cX12_sumOf 41 = .ok (.ifCond .eq 13, 3) := by decide +kernel
theorem dX12_sumOf_44 : decode cX12_sumOf 44 = .ok (.aload_n 0, 1) := by decide +kernel
theorem dX12_sumOf_45 : decode cX12_sumOf 45 = .ok (.getfield 69, 3) := by decide +kernel
theorem dX12_sumOf_48 : decode cX12_sumOf 48 = .ok (.iload 6, 2) := by decide +kernel
theorem dX12_sumOf_50 : decode cX12_sumOf 50 = .ok (.iaload, 1) := by decide +kernel
theorem dX12_sumOf_51 : decode cX12_sumOf 51 = .ok (.goto 4, 3) := by decide +kernel
theorem dX12_sumOf_54 : decode cX12_sumOf 54 = .ok (.iconst 0, 1) := by decide +kernel
theorem dX12_sumOf_55 : decode cX12_sumOf 55 = .ok (.iadd, 1) := by decide +kernel
theorem dX12_sumOf_56 : decode cX12_sumOf 56 = .ok (.istore 5, 2) := by decide +kernel
theorem dX12_sumOf_58 : decode cX12_sumOf 58 = .ok (.iinc 6 1, 3) := by decide +kernel
theorem dX12_sumOf_61 : decode cX12_sumOf 61 = .ok (.goto (-52), 3) := by decide +kernel
theorem dX12_sumOf_64 : decode cX12_sumOf 64 = .ok (.iload 5, 2) := by decide +kernel
theorem dX12_sumOf_66 : decode cX12_sumOf 66 = .ok (.ireturn, 1) := by decide +kernel
theorem dX12_hasDeep_0 : decode cX12_hasDeep 0 = .ok (.aload_n 0, 1) := by decide +kernel
theorem dX12_hasDeep_1 : decode cX12_hasDeep 1 = .ok (.invokevirtual 302, 3) := by decide +kernel
theorem dX12_hasDeep_4 : decode cX12_hasDeep 4 = .ok (.istore_n 1, 1) := by decide +kernel
theorem dX12_hasDeep_5 : decode cX12_hasDeep 5 = .ok (.iload_n 1, 1) := by decide +kernel
theorem dX12_hasDeep_6 : decode cX12_hasDeep 6 = .ok (.aload_n 0, 1) := by decide +kernel
theorem dX12_hasDeep_7 : decode cX12_hasDeep 7 = .ok (.invokevirtual 305, 3) := by decide +kernel
theorem dX12_hasDeep_10 : decode cX12_hasDeep 10 = .ok (.if_icmp .ge 20, 3) := by decide +kernel
theorem dX12_hasDeep_13 : decode cX12_hasDeep 13 = .ok (.aload_n 0, 1) := by decide +kernel
theorem dX12_hasDeep_14 : decode cX12_hasDeep 14 = .ok (.getfield 66, 3) := by decide +kernel
theorem dX12_hasDeep_17 : decode cX12_hasDeep 17 = .ok (.iload_n 1, 1) := by decide +kernel
theorem dX12_hasDeep_18 : decode cX12_hasDeep 18 = .ok (.iaload, 1) := by decide +kernel
theorem dX12_hasDeep_19 : decode cX12_hasDeep 19 = .ok (.ifCond .ne 5, 3) := by decide +kernel
theorem dX12_hasDeep_22 : decode cX12_hasDeep 22 = .ok (.iconst 1, 1) := by decide +kernel
theorem dX12_hasDeep_23 : decode cX12_hasDeep 23 = .ok (.ireturn, 1) := by decide +kernel
theorem dX12_hasDeep_24 : decode cX12_hasDeep 24 = .ok (.iinc 1 1, 3) := by decide +kernel
theorem dX12_hasDeep_27 : decode cX12_hasDeep 27 = .ok (.goto (-22), 3) := by decide +kernel
theorem dX12_hasDeep_30 : decode cX12_hasDeep 30 = .ok (.iconst 0, 1) := by decide +kernel
theorem dX12_hasDeep_31 : decode cX12_hasDeep 31 = .ok (.ireturn, 1) := by decide +kernel
theorem dX12_depthAt_0 : decode cX12_depthAt 0 = .ok (.aload_n 0, 1) := by decide +kernel
theorem dX12_depthAt_1 : decode cX12_depthAt 1 = .ok (.getfield 100, 3) := by decide +kernel
theorem dX12_depthAt_4 : decode cX12_depthAt 4 = .ok (.aload_n 0, 1) := by decide +kernel
theorem dX12_depthAt_5 : decode cX12_depthAt 5 = .ok (.invokevirtual 312, 3) := by decide +kernel
theorem dX12_depthAt_8 : decode cX12_depthAt 8 = .ok (.ifCond .eq 14, 3) := by decide +kernel
theorem dX12_depthAt_11 : decode cX12_depthAt 11 = .ok (.aload_n 0, 1) := by decide +kernel
theorem dX12_depthAt_12 : decode cX12_depthAt 12 = .ok (.iconst 0, 1) := by decide +kernel
theorem dX12_depthAt_13 : decode cX12_depthAt 13 = .ok (.iload_n 1, 1) := by decide +kernel
theorem dX12_depthAt_14 : decode cX12_depthAt 14 = .ok (.iconst (-1), 1) := by decide +kernel
theorem dX12_depthAt_15 : decode cX12_depthAt 15 = .ok (.iconst 0, 1) := by decide +kernel
theorem dX12_depthAt_16 : decode cX12_depthAt 16 = .ok (.invokevirtual 315, 3) := by decide +kernel
theorem dX12_depthAt_19 : decode cX12_depthAt 19 = .ok (.goto 5, 3) := by decide +kernel
theorem dX12_depthAt_22 : decode cX12_depthAt 22 = .ok (.bipush 8, 2) := by decide +kernel
theorem dX12_depthAt_24 : decode cX12_depthAt 24 = .ok (.iadd, 1) := by decide +kernel
theorem dX12_depthAt_25 : decode cX12_depthAt 25 = .ok (.ireturn, 1) := by decide +kernel
theorem dX12_loud_0 : decode cX12_loud 0 = .ok (.aload_n 0, 1) := by decide +kernel
theorem dX12_loud_1 : decode cX12_loud 1 = .ok (.getfield 29, 3) := by decide +kernel
theorem dX12_loud_4 : decode cX12_loud 4 = .ok (.iload_n 2, 1) := by decide +kernel
theorem dX12_loud_5 : decode cX12_loud 5 = .ok (.iaload, 1) := by decide +kernel
theorem dX12_loud_6 : decode cX12_loud 6 = .ok (.aload_n 0, 1) := by decide +kernel
theorem dX12_loud_7 : decode cX12_loud 7 = .ok (.aload_n 0, 1) := by decide +kernel
theorem dX12_loud_8 : decode cX12_loud 8 = .ok (.getfield 19, 3) := by decide +kernel
theorem dX12_loud_11 : decode cX12_loud 11 = .ok (.iload_n 2, 1) := by decide +kernel
theorem dX12_loud_12 : decode cX12_loud 12 = .ok (.invokevirtual 318, 3) := by decide +kernel
theorem dX12_loud_15 : decode cX12_loud 15 = .ok (.ifCond .eq 8, 3) := by decide +kernel
theorem dX12_loud_18 : decode cX12_loud 18 = .ok (.bipush 9, 2) := by decide +kernel
theorem dX12_loud_20 : decode cX12_loud 20 = .ok (.goto 4, 3) := by decide +kernel
theorem dX12_loud_23 : decode cX12_loud 23 = .ok (.iconst 0, 1) := by decide +kernel
theorem dX12_loud_24 : decode cX12_loud 24 = .ok (.iadd, 1) := by decide +kernel
theorem dX12_loud_25 : decode cX12_loud 25 = .ok (.aload_n 0, 1) := by decide +kernel
theorem dX12_loud_26 : decode cX12_loud 26 = .ok (.iconst 1, 1) := by decide +kernel
theorem dX12_loud_27 : decode cX12_loud 27 = .ok (.iload_n 3, 1) := by decide +kernel
theorem dX12_loud_28 : decode cX12_loud 28 = .ok (.iload_n 2, 1) := by decide +kernel
theorem dX12_loud_29 : decode cX12_loud 29 = .ok (.iload_n 1, 1) := by decide +kernel
theorem dX12_loud_30 : decode cX12_loud 30 = .ok (.invokevirtual 315, 3) := by decide +kernel
theorem dX12_loud_33 : decode cX12_loud 33 = .ok (.iadd, 1) := by decide +kernel
theorem dX12_loud_34 : decode cX12_loud 34 = .ok (.aload_n 0, 1) := by decide +kernel
theorem dX12_loud_35 : decode cX12_loud 35 = .ok (.iconst 2, 1) := by decide +kernel
theorem dX12_loud_36 : decode cX12_loud 36 = .ok (.iload_n 3, 1) := by decide +kernel
theorem dX12_loud_37 : decode cX12_loud 37 = .ok (.iload_n 2, 1) := by decide +kernel
theorem dX12_loud_38 : decode cX12_loud 38 = .ok (.iload_n 1, 1) := by decide +kernel
theorem dX12_loud_39 : decode cX12_loud 39 = .ok (.invokevirtual 315, 3) := by decide +kernel
theorem dX12_loud_42 : decode cX12_loud 42 = .ok (.isub, 1) := by decide +kernel
theorem dX12_loud_43 : decode cX12_loud 43 = .ok (.istore 4, 2) := by decide +kernel
theorem dX12_loud_45 : decode cX12_loud 45 = .ok (.iload 4, 2) := by decide +kernel
theorem dX12_loud_47 : decode cX12_loud 47 = .ok (.ifCond .ge 7, 3) := by decide +kernel
theorem dX12_loud_50 : decode cX12_loud 50 = .ok (.iconst 0, 1) := by decide +kernel
theorem dX12_loud_51 : decode cX12_loud 51 = .ok (.goto 5, 3) := by decide +kernel
theorem dX12_loud_54 : decode cX12_loud 54 = .ok (.iload 4, 2) := by decide +kernel
theorem dX12_loud_56 : decode cX12_loud 56 = .ok (.ireturn, 1) := by decide +kernel
theorem dX12_slowly_0 : decode cX12_slowly 0 = .ok (.iload_n 1, 1) := by decide +kernel
theorem dX12_slowly_1 : decode cX12_slowly 1 = .ok (.iconst 3, 1) := by decide +kernel
theorem dX12_slowly_2 : decode cX12_slowly 2 = .ok (.if_icmp .ge 7, 3) := by decide +kernel
theorem dX12_slowly_5 : decode cX12_slowly 5 = .ok (.iconst 0, 1) := by decide +kernel
theorem dX12_slowly_6 : decode cX12_slowly 6 = .ok (.goto 6, 3) := by decide +kernel
theorem dX12_slowly_9 : decode cX12_slowly 9 = .ok (.iload_n 1, 1) := by decide +kernel
theorem dX12_slowly_10 : decode cX12_slowly 10 = .ok (.iconst 3, 1) := by decide +kernel
theorem dX12_slowly_11 : decode cX12_slowly 11 = .ok (.isub, 1) := by decide +kernel
theorem dX12_slowly_12 : decode cX12_slowly 12 = .ok (.ireturn, 1) := by decide +kernel
theorem dX12_noise_0 : decode cX12_noise 0 = .ok (.aload_n 0, 1) := by decide +kernel
theorem dX12_noise_1 : decode cX12_noise 1 = .ok (.iload_n 1, 1) := by decide +kernel
theorem dX12_noise_2 : decode cX12_noise 2 = .ok (.iload_n 2, 1) := by decide +kernel
theorem dX12_noise_3 : decode cX12_noise 3 = .ok (.iload_n 3, 1) := by decide +kernel
theorem dX12_noise_4 : decode cX12_noise 4 = .ok (.invokevirtual 321, 3) := by decide +kernel
theorem dX12_noise_7 : decode cX12_noise 7 = .ok (.istore 4, 2) := by decide +kernel
theorem dX12_noise_9 : decode cX12_noise 9 = .ok (.aload_n 0, 1) := by decide +kernel
theorem dX12_noise_10 : decode cX12_noise 10 = .ok (.getfield 33, 3) := by decide +kernel
theorem dX12_noise_13 : decode cX12_noise 13 = .ok (.iload_n 1, 1) := by decide +kernel
theorem dX12_noise_14 : decode cX12_noise 14 = .ok (.iaload, 1) := by decide +kernel
theorem dX12_noise_15 : decode cX12_noise 15 = .ok (.tableswitch 113 1 6 #[37, 47, 52, 59, 73, 93], 37) := by decide +kernel
theorem dX12_noise_52 : decode cX12_noise 52 = .ok (.iload 4, 2) := by decide +kernel
theorem dX12_noise_54 : decode cX12_noise 54 = .ok (.aload_n 0, 1) := by decide +kernel
theorem dX12_noise_55 : decode cX12_noise 55 = .ok (.getfield 36, 3) := by decide +kernel
theorem dX12_noise_58 : decode cX12_noise 58 = .ok (.iload_n 1, 1) := by decide +kernel
theorem dX12_noise_59 : decode cX12_noise 59 = .ok (.iaload, 1) := by decide +kernel
theorem dX12_noise_60 : decode cX12_noise 60 = .ok (.iadd, 1) := by decide +kernel
theorem dX12_noise_61 : decode cX12_noise 61 = .ok (.ireturn, 1) := by decide +kernel
theorem dX12_noise_62 : decode cX12_noise 62 = .ok (.iload 4, 2) := by decide +kernel
theorem dX12_noise_64 : decode cX12_noise 64 = .ok (.iconst 2, 1) := by decide +kernel
theorem dX12_noise_65 : decode cX12_noise 65 = .ok (.idiv, 1) := by decide +kernel
theorem dX12_noise_66 : decode cX12_noise 66 = .ok (.ireturn, 1) := by decide +kernel
theorem dX12_noise_67 : decode cX12_noise 67 = .ok (.aload_n 0, 1) := by decide +kernel
theorem dX12_noise_68 : decode cX12_noise 68 = .ok (.iload 4, 2) := by decide +kernel
theorem dX12_noise_70 : decode cX12_noise 70 = .ok (.invokevirtual 325, 3) := by decide +kernel
theorem dX12_noise_73 : decode cX12_noise 73 = .ok (.ireturn, 1) := by decide +kernel
theorem dX12_noise_74 : decode cX12_noise 74 = .ok (.iload 4, 2) := by decide +kernel
theorem dX12_noise_76 : decode cX12_noise 76 = .ok (.aload_n 0, 1) := by decide +kernel
theorem dX12_noise_77 : decode cX12_noise 77 = .ok (.getfield 36, 3) := by decide +kernel
theorem dX12_noise_80 : decode cX12_noise 80 = .ok (.iload_n 1, 1) := by decide +kernel
theorem dX12_noise_81 : decode cX12_noise 81 = .ok (.iaload, 1) := by decide +kernel
theorem dX12_noise_82 : decode cX12_noise 82 = .ok (.iadd, 1) := by decide +kernel
theorem dX12_noise_83 : decode cX12_noise 83 = .ok (.iload_n 3, 1) := by decide +kernel
theorem dX12_noise_84 : decode cX12_noise 84 = .ok (.iconst 3, 1) := by decide +kernel
theorem dX12_noise_85 : decode cX12_noise 85 = .ok (.irem, 1) := by decide +kernel
theorem dX12_noise_86 : decode cX12_noise 86 = .ok (.iadd, 1) := by decide +kernel
theorem dX12_noise_87 : decode cX12_noise 87 = .ok (.ireturn, 1) := by decide +kernel
theorem dX12_noise_88 : decode cX12_noise 88 = .ok (.iload 4, 2) := by decide +kernel
theorem dX12_noise_90 : decode cX12_noise 90 = .ok (.aload_n 0, 1) := by decide +kernel
theorem dX12_noise_91 : decode cX12_noise 91 = .ok (.getfield 36, 3) := by decide +kernel
theorem dX12_noise_94 : decode cX12_noise 94 = .ok (.iload_n 1, 1) := by decide +kernel
theorem dX12_noise_95 : decode cX12_noise 95 = .ok (.iaload, 1) := by decide +kernel
theorem dX12_noise_96 : decode cX12_noise 96 = .ok (.if_icmp .gt 7, 3) := by decide +kernel
theorem dX12_noise_99 : decode cX12_noise 99 = .ok (.iconst 0, 1) := by decide +kernel
theorem dX12_noise_100 : decode cX12_noise 100 = .ok (.goto 7, 3) := by decide +kernel
theorem dX12_noise_103 : decode cX12_noise 103 = .ok (.iload 4, 2) := by decide +kernel
theorem dX12_noise_105 : decode cX12_noise 105 = .ok (.iconst 2, 1) := by decide +kernel
theorem dX12_noise_106 : decode cX12_noise 106 = .ok (.idiv, 1) := by decide +kernel
theorem dX12_noise_107 : decode cX12_noise 107 = .ok (.ireturn, 1) := by decide +kernel
theorem dX12_noise_108 : decode cX12_noise 108 = .ok (.aload_n 0, 1) := by decide +kernel
theorem dX12_noise_109 : decode cX12_noise 109 = .ok (.iload 4, 2) := by decide +kernel
theorem dX12_noise_111 : decode cX12_noise 111 = .ok (.invokevirtual 325, 3) := by decide +kernel
theorem dX12_noise_114 : decode cX12_noise 114 = .ok (.aload_n 0, 1) := by decide +kernel
theorem dX12_noise_115 : decode cX12_noise 115 = .ok (.getfield 42, 3) := by decide +kernel
theorem dX12_noise_118 : decode cX12_noise 118 = .ok (.iconst 4, 1) := by decide +kernel
theorem dX12_noise_119 : decode cX12_noise 119 = .ok (.iload_n 1, 1) := by decide +kernel
theorem dX12_noise_120 : decode cX12_noise 120 = .ok (.imul, 1) := by decide +kernel
theorem dX12_noise_121 : decode cX12_noise 121 = .ok (.iload_n 3, 1) := by decide +kernel
theorem dX12_noise_122 : decode cX12_noise 122 = .ok (.iconst 4, 1) := by decide +kernel
theorem dX12_noise_123 : decode cX12_noise 123 = .ok (.irem, 1) := by decide +kernel
theorem dX12_noise_124 : decode cX12_noise 124 = .ok (.iadd, 1) := by decide +kernel
theorem dX12_noise_125 : decode cX12_noise 125 = .ok (.iaload, 1) := by decide +kernel
theorem dX12_noise_126 : decode cX12_noise 126 = .ok (.iadd, 1) := by decide +kernel
theorem dX12_noise_127 : decode cX12_noise 127 = .ok (.ireturn, 1) := by decide +kernel
theorem dX12_noise_128 : decode cX12_noise 128 = .ok (.iload 4, 2) := by decide +kernel
theorem dX12_noise_130 : decode cX12_noise 130 = .ok (.ireturn, 1) := by decide +kernel
theorem dX12_timeOf_0 : decode cX12_timeOf 0 = .ok (.aload_n 0, 1) := by decide +kernel
theorem dX12_timeOf_1 : decode cX12_timeOf 1 = .ok (.getfield 33, 3) := by decide +kernel
theorem dX12_timeOf_4 : decode cX12_timeOf 4 = .ok (.iload_n 1, 1) := by decide +kernel
theorem dX12_timeOf_5 : decode cX12_timeOf 5 = .ok (.iaload, 1) := by decide +kernel
theorem dX12_timeOf_6 : decode cX12_timeOf 6 = .ok (.iconst 3, 1) := by decide +kernel
theorem dX12_timeOf_7 : decode cX12_timeOf 7 = .ok (.if_icmp .eq 14, 3) := by decide +kernel
theorem dX12_timeOf_10 : decode cX12_timeOf 10 = .ok (.aload_n 0, 1) := by decide +kernel
theorem dX12_timeOf_11 : decode cX12_timeOf 11 = .ok (.getfield 33, 3) := by decide +kernel
theorem dX12_timeOf_14 : decode cX12_timeOf 14 = .ok (.iload_n 1, 1) := by decide +kernel
theorem dX12_timeOf_15 : decode cX12_timeOf 15 = .ok (.iaload, 1) := by decide +kernel
theorem dX12_timeOf_16 : decode cX12_timeOf 16 = .ok (.bipush 6, 2) := by decide +kernel
theorem dX12_timeOf_18 : decode cX12_timeOf 18 = .ok (.if_icmp .ne 7, 3) := by decide +kernel
theorem dX12_timeOf_21 : decode cX12_timeOf 21 = .ok (.iconst 2, 1) := by decide +kernel
theorem dX12_timeOf_22 : decode cX12_timeOf 22 = .ok (.goto 4, 3) := by decide +kernel
theorem dX12_timeOf_25 : decode cX12_timeOf 25 = .ok (.iconst 1, 1) := by decide +kernel
theorem dX12_timeOf_26 : decode cX12_timeOf 26 = .ok (.ireturn, 1) := by decide +kernel
theorem dX12_of_0 : decode cX12_of 0 = .ok (.aload_n 0, 1) := by decide +kernel
theorem dX12_of_1 : decode cX12_of 1 = .ok (.iload_n 1, 1) := by decide +kernel
theorem dX12_of_2 : decode cX12_of 2 = .ok (.invokevirtual 248, 3) := by decide +kernel
theorem dX12_of_5 : decode cX12_of 5 = .ok (.ifCond .ne 5, 3) := by decide +kernel
theorem dX12_of_8 : decode cX12_of 8 = .ok (.iconst (-1), 1) := by decide +kernel
theorem dX12_of_9 : decode cX12_of 9 = .ok (.ireturn, 1) := by decide +kernel
theorem dX12_of_10 : decode cX12_of 10 = .ok (.aload_n 0, 1) := by decide +kernel
theorem dX12_of_11 : decode cX12_of 11 = .ok (.iload_n 2, 1) := by decide +kernel
theorem dX12_of_12 : decode cX12_of 12 = .ok (.bipush 10, 2) := by decide +kernel
theorem dX12_of_14 : decode cX12_of 14 = .ok (.bipush 21, 2) := by decide +kernel
theorem dX12_of_16 : decode cX12_of 16 = .ok (.invokevirtual 236, 3) := by decide +kernel
theorem dX12_of_19 : decode cX12_of 19 = .ok (.ifCond .eq 17, 3) := by decide +kernel
theorem dX12_of_22 : decode cX12_of 22 = .ok (.aload_n 0, 1) := by decide +kernel
theorem dX12_of_23 : decode cX12_of 23 = .ok (.iload_n 1, 1) := by decide +kernel
theorem dX12_of_24 : decode cX12_of 24 = .ok (.iload_n 2, 1) := by decide +kernel
theorem dX12_of_25 : decode cX12_of 25 = .ok (.bipush 10, 2) := by decide +kernel
theorem dX12_of_27 : decode cX12_of 27 = .ok (.isub, 1) := by decide +kernel
theorem dX12_of_28 : decode cX12_of 28 = .ok (.aload_n 0, 1) := by decide +kernel
theorem dX12_of_29 : decode cX12_of 29 = .ok (.getfield 13, 3) := by decide +kernel
theorem dX12_of_32 : decode cX12_of 32 = .ok (.invokevirtual 328, 3) := by decide +kernel
theorem dX12_of_35 : decode cX12_of 35 = .ok (.ireturn, 1) := by decide +kernel
theorem dX12_of_36 : decode cX12_of 36 = .ok (.iload_n 2, 1) := by decide +kernel
theorem dX12_of_37 : decode cX12_of 37 = .ok (.ifCond .ne 12, 3) := by decide +kernel
theorem dX12_of_40 : decode cX12_of 40 = .ok (.aload_n 0, 1) := by decide +kernel
theorem dX12_of_41 : decode cX12_of 41 = .ok (.getfield 33, 3) := by decide +kernel
theorem dX12_of_44 : decode cX12_of 44 = .ok (.iload_n 1, 1) := by decide +kernel
theorem dX12_of_45 : decode cX12_of 45 = .ok (.iaload, 1) := by decide +kernel
theorem dX12_of_46 : decode cX12_of 46 = .ok (.goto 32, 3) := by decide +kernel
theorem dX12_of_49 : decode cX12_of 49 = .ok (.iload_n 2, 1) := by decide +kernel
theorem dX12_of_50 : decode cX12_of 50 = .ok (.iconst 1, 1) := by decide +kernel
theorem dX12_of_51 : decode cX12_of 51 = .ok (.if_icmp .ne 12, 3) := by decide +kernel
theorem dX12_of_54 : decode cX12_of 54 = .ok (.aload_n 0, 1) := by decide +kernel
theorem dX12_of_55 : decode cX12_of 55 = .ok (.getfield 36, 3) := by decide +kernel
theorem dX12_of_58 : decode cX12_of 58 = .ok (.iload_n 1, 1) := by decide +kernel
theorem dX12_of_59 : decode cX12_of 59 = .ok (.iaload, 1) := by decide +kernel
theorem dX12_of_60 : decode cX12_of 60 = .ok (.goto 18, 3) := by decide +kernel
theorem dX12_of_63 : decode cX12_of 63 = .ok (.iload_n 2, 1) := by decide +kernel
theorem dX12_of_64 : decode cX12_of 64 = .ok (.iconst 2, 1) := by decide +kernel
theorem dX12_of_65 : decode cX12_of 65 = .ok (.if_icmp .ne 12, 3) := by decide +kernel
theorem dX12_of_68 : decode cX12_of 68 = .ok (.aload_n 0, 1) := by decide +kernel
theorem dX12_of_69 : decode cX12_of 69 = .ok (.getfield 39, 3) := by decide +kernel
theorem dX12_of_72 : decode cX12_of 72 = .ok (.iload_n 1, 1) := by decide +kernel
theorem dX12_of_73 : decode cX12_of 73 = .ok (.iaload, 1) := by decide +kernel
theorem dX12_of_74 : decode cX12_of 74 = .ok (.goto 4, 3) := by decide +kernel
theorem dX12_of_77 : decode cX12_of 77 = .ok (.iconst (-1), 1) := by decide +kernel
theorem dX12_of_78 : decode cX12_of 78 = .ok (.ireturn, 1) := by decide +kernel
theorem dX12_told_0 : decode cX12_told 0 = .ok (.iload_n 1, 1) := by decide +kernel
theorem dX12_told_1 : decode cX12_told 1 = .ok (.tableswitch 81 0 5 #[39, 44, 49, 62, 71, 76], 39) := by decide +kernel
theorem dX12_told_40 : decode cX12_told 40 = .ok (.aload_n 0, 1) := by decide +kernel
theorem dX12_told_41 : decode cX12_told 41 = .ok (.getfield 13, 3) := by decide +kernel
theorem dX12_told_44 : decode cX12_told 44 = .ok (.ireturn, 1) := by decide +kernel
theorem dX12_told_45 : decode cX12_told 45 = .ok (.aload_n 0, 1) := by decide +kernel
theorem dX12_told_46 : decode cX12_told 46 = .ok (.getfield 16, 3) := by decide +kernel
theorem dX12_told_49 : decode cX12_told 49 = .ok (.ireturn, 1) := by decide +kernel
theorem dX12_told_50 : decode cX12_told 50 = .ok (.aload_n 0, 1) := by decide +kernel
theorem dX12_told_51 : decode cX12_told 51 = .ok (.getfield 25, 3) := by decide +kernel
theorem dX12_told_54 : decode cX12_told 54 = .ok (.ifCond .eq 7, 3) := by decide +kernel
theorem dX12_told_57 : decode cX12_told 57 = .ok (.iconst 1, 1) := by decide +kernel
theorem dX12_told_58 : decode cX12_told 58 = .ok (.goto 4, 3) := by decide +kernel
theorem dX12_told_61 : decode cX12_told 61 = .ok (.iconst 0, 1) := by decide +kernel
theorem dX12_told_62 : decode cX12_told 62 = .ok (.ireturn, 1) := by decide +kernel
theorem dX12_told_63 : decode cX12_told 63 = .ok (.aload_n 0, 1) := by decide +kernel
theorem dX12_told_64 : decode cX12_told 64 = .ok (.aload_n 0, 1) := by decide +kernel
theorem dX12_told_65 : decode cX12_told 65 = .ok (.getfield 13, 3) := by decide +kernel
theorem dX12_told_68 : decode cX12_told 68 = .ok (.invokevirtual 331, 3) := by decide +kernel
theorem dX12_told_71 : decode cX12_told 71 = .ok (.ireturn, 1) := by decide +kernel
theorem dX12_told_72 : decode cX12_told 72 = .ok (.aload_n 0, 1) := by decide +kernel
theorem dX12_told_73 : decode cX12_told 73 = .ok (.getfield 22, 3) := by decide +kernel
theorem dX12_told_76 : decode cX12_told 76 = .ok (.ireturn, 1) := by decide +kernel
theorem dX12_told_77 : decode cX12_told 77 = .ok (.aload_n 0, 1) := by decide +kernel
theorem dX12_told_78 : decode cX12_told 78 = .ok (.getfield 19, 3) := by decide +kernel
theorem dX12_told_81 : decode cX12_told 81 = .ok (.ireturn, 1) := by decide +kernel
theorem dX12_told_82 : decode cX12_told 82 = .ok (.iconst (-1), 1) := by decide +kernel
theorem dX12_told_83 : decode cX12_told 83 = .ok (.ireturn, 1) := by decide +kernel
theorem dX12_stirsBy_0 : decode cX12_stirsBy 0 = .ok (.aload_n 0, 1) := by decide +kernel
theorem dX12_stirsBy_1 : decode cX12_stirsBy 1 = .ok (.iload_n 1, 1) := by decide +kernel
theorem dX12_stirsBy_2 : decode cX12_stirsBy 2 = .ok (.iload_n 2, 1) := by decide +kernel
theorem dX12_stirsBy_3 : decode cX12_stirsBy 3 = .ok (.iload_n 3, 1) := by decide +kernel
theorem dX12_stirsBy_4 : decode cX12_stirsBy 4 = .ok (.invokevirtual 328, 3) := by decide +kernel
theorem dX12_stirsBy_7 : decode cX12_stirsBy 7 = .ok (.istore 5, 2) := by decide +kernel
theorem dX12_stirsBy_9 : decode cX12_stirsBy 9 = .ok (.aload_n 0, 1) := by decide +kernel
theorem dX12_stirsBy_10 : decode cX12_stirsBy 10 = .ok (.iload_n 3, 1) := by decide +kernel
theorem dX12_stirsBy_11 : decode cX12_stirsBy 11 = .ok (.invokevirtual 331, 3) := by decide +kernel
theorem dX12_stirsBy_14 : decode cX12_stirsBy 14 = .ok (.istore 6, 2) := by decide +kernel
theorem dX12_stirsBy_16 : decode cX12_stirsBy 16 = .ok (.iload 5, 2) := by decide +kernel
theorem dX12_stirsBy_18 : decode cX12_stirsBy 18 = .ok (.iload 6, 2) := by decide +kernel
theorem dX12_stirsBy_20 : decode cX12_stirsBy 20 = .ok (.if_icmp .le 7, 3) := by decide +kernel
theorem dX12_stirsBy_23 : decode cX12_stirsBy 23 = .ok (.iconst 3, 1) := by decide +kernel
theorem dX12_stirsBy_24 : decode cX12_stirsBy 24 = .ok (.goto 21, 3) := by decide +kernel
theorem dX12_stirsBy_27 : decode cX12_stirsBy 27 = .ok (.iconst 2, 1) := by decide +kernel
theorem dX12_stirsBy_28 : decode cX12_stirsBy 28 = .ok (.iload 5, 2) := by decide +kernel
theorem dX12_stirsBy_30 : decode cX12_stirsBy 30 = .ok (.imul, 1) := by decide +kernel
theorem dX12_stirsBy_31 : decode cX12_stirsBy 31 = .ok (.iload 6, 2) := by decide +kernel
theorem dX12_stirsBy_33 : decode cX12_stirsBy 33 = .ok (.if_icmp .le 10, 3) := by decide +kernel
theorem dX12_stirsBy_36 : decode cX12_stirsBy 36 = .ok (.iload 4, 2) := by decide +kernel
theorem dX12_stirsBy_38 : decode cX12_stirsBy 38 = .ok (.iconst 1, 1) := by decide +kernel
theorem dX12_stirsBy_39 : decode cX12_stirsBy 39 = .ok (.iadd, 1) := by decide +kernel
theorem dX12_stirsBy_40 : decode cX12_stirsBy 40 = .ok (.goto 5, 3) := by decide +kernel
theorem dX12_stirsBy_43 : decode cX12_stirsBy 43 = .ok (.iload 4, 2) := by decide +kernel
theorem dX12_stirsBy_45 : decode cX12_stirsBy 45 = .ok (.ireturn, 1) := by decide +kernel
theorem dX12_step_0 : decode cX12_step 0 = .ok (.aload_n 0, 1) := by decide +kernel
theorem dX12_step_1 : decode cX12_step 1 = .ok (.iload_n 1, 1) := by decide +kernel
theorem dX12_step_2 : decode cX12_step 2 = .ok (.invokevirtual 248, 3) := by decide +kernel
theorem dX12_step_5 : decode cX12_step 5 = .ok (.ifCond .eq 11, 3) := by decide +kernel
theorem dX12_step_8 : decode cX12_step 8 = .ok (.aload_n 0, 1) := by decide +kernel
theorem dX12_step_9 : decode cX12_step 9 = .ok (.iload_n 2, 1) := by decide +kernel
theorem dX12_step_10 : decode cX12_step 10 = .ok (.invokevirtual 244, 3) := by decide +kernel
theorem dX12_step_13 : decode cX12_step 13 = .ok (.ifCond .ne 5, 3) := by decide +kernel
theorem dX12_step_16 : decode cX12_step 16 = .ok (.iconst (-1), 1) := by decide +kernel
theorem dX12_step_17 : decode cX12_step 17 = .ok (.ireturn, 1) := by decide +kernel
theorem dX12_step_18 : decode cX12_step 18 = .ok (.aload_n 0, 1) := by decide +kernel
theorem dX12_step_19 : decode cX12_step 19 = .ok (.aload_n 0, 1) := by decide +kernel
theorem dX12_step_20 : decode cX12_step 20 = .ok (.getfield 39, 3) := by decide +kernel
theorem dX12_step_23 : decode cX12_step 23 = .ok (.iload_n 1, 1) := by decide +kernel
theorem dX12_step_24 : decode cX12_step 24 = .ok (.iaload, 1) := by decide +kernel
theorem dX12_step_25 : decode cX12_step 25 = .ok (.iload_n 2, 1) := by decide +kernel
theorem dX12_step_26 : decode cX12_step 26 = .ok (.invokevirtual 334, 3) := by decide +kernel
theorem dX12_step_29 : decode cX12_step 29 = .ok (.ifCond .ne 6, 3) := by decide +kernel
theorem dX12_step_32 : decode cX12_step 32 = .ok (.bipush (-2), 2) := by decide +kernel
theorem dX12_step_34 : decode cX12_step 34 = .ok (.ireturn, 1) := by decide +kernel
theorem dX12_step_35 : decode cX12_step 35 = .ok (.aload_n 0, 1) := by decide +kernel
theorem dX12_step_36 : decode cX12_step 36 = .ok (.getfield 25, 3) := by decide +kernel
theorem dX12_step_39 : decode cX12_step 39 = .ok (.ifCond .ne 13, 3) := by decide +kernel
theorem dX12_step_42 : decode cX12_step 42 = .ok (.aload_n 0, 1) := by decide +kernel
theorem dX12_step_43 : decode cX12_step 43 = .ok (.getfield 13, 3) := by decide +kernel
theorem dX12_step_46 : decode cX12_step 46 = .ok (.sipush 9990, 3) := by decide +kernel
theorem dX12_step_49 : decode cX12_step 49 = .ok (.if_icmp .le 6, 3) := by decide +kernel
theorem dX12_step_52 : decode cX12_step 52 = .ok (.bipush (-3), 2) := by decide +kernel
theorem dX12_step_54 : decode cX12_step 54 = .ok (.ireturn, 1) := by decide +kernel
theorem dX12_step_55 : decode cX12_step 55 = .ok (.aload_n 0, 1) := by decide +kernel
theorem dX12_step_56 : decode cX12_step 56 = .ok (.dup, 1) := by decide +kernel
theorem dX12_step_57 : decode cX12_step 57 = .ok (.getfield 13, 3) := by decide +kernel
theorem dX12_step_60 : decode cX12_step 60 = .ok (.aload_n 0, 1) := by decide +kernel
theorem dX12_step_61 : decode cX12_step 61 = .ok (.iload_n 1, 1) := by decide +kernel
theorem dX12_step_62 : decode cX12_step 62 = .ok (.invokevirtual 337, 3) := by decide +kernel
theorem dX12_step_65 : decode cX12_step 65 = .ok (.iadd, 1) := by decide +kernel
theorem dX12_step_66 : decode cX12_step 66 = .ok (.putfield 13, 3) := by decide +kernel
theorem dX12_step_69 : decode cX12_step 69 = .ok (.aload_n 0, 1) := by decide +kernel
theorem dX12_step_70 : decode cX12_step 70 = .ok (.getfield 39, 3) := by decide +kernel
theorem dX12_step_73 : decode cX12_step 73 = .ok (.iload_n 1, 1) := by decide +kernel
theorem dX12_step_74 : decode cX12_step 74 = .ok (.iload_n 2, 1) := by decide +kernel
theorem dX12_step_75 : decode cX12_step 75 = .ok (.iastore, 1) := by decide +kernel
theorem dX12_step_76 : decode cX12_step 76 = .ok (.aload_n 0, 1) := by decide +kernel
theorem dX12_step_77 : decode cX12_step 77 = .ok (.aload_n 0, 1) := by decide +kernel
theorem dX12_step_78 : decode cX12_step 78 = .ok (.iload_n 1, 1) := by decide +kernel
theorem dX12_step_79 : decode cX12_step 79 = .ok (.iload_n 2, 1) := by decide +kernel
theorem dX12_step_80 : decode cX12_step 80 = .ok (.aload_n 0, 1) := by decide +kernel
theorem dX12_step_81 : decode cX12_step 81 = .ok (.getfield 13, 3) := by decide +kernel
theorem dX12_step_84 : decode cX12_step 84 = .ok (.aload_n 0, 1) := by decide +kernel
theorem dX12_step_85 : decode cX12_step 85 = .ok (.getfield 16, 3) := by decide +kernel
theorem dX12_step_88 : decode cX12_step 88 = .ok (.invokevirtual 340, 3) := by decide +kernel
theorem dX12_step_91 : decode cX12_step 91 = .ok (.putfield 16, 3) := by decide +kernel
theorem dX12_step_94 : decode cX12_step 94 = .ok (.aload_n 0, 1) := by decide +kernel
theorem dX12_step_95 : decode cX12_step 95 = .ok (.aload_n 0, 1) := by decide +kernel
theorem dX12_step_96 : decode cX12_step 96 = .ok (.getfield 16, 3) := by decide +kernel
theorem dX12_step_99 : decode cX12_step 99 = .ok (.iconst 3, 1) := by decide +kernel
theorem dX12_step_100 : decode cX12_step 100 = .ok (.if_icmp .ne 7, 3) := by decide +kernel
theorem dX12_step_103 : decode cX12_step 103 = .ok (.iconst 1, 1) := by decide +kernel
theorem dX12_step_104 : decode cX12_step 104 = .ok (.goto 4, 3) := by decide +kernel
theorem dX12_step_107 : decode cX12_step 107 = .ok (.iconst 0, 1) := by decide +kernel
theorem dX12_step_108 : decode cX12_step 108 = .ok (.putfield 25, 3) := by decide +kernel
theorem dX12_step_111 : decode cX12_step 111 = .ok (.aload_n 0, 1) := by decide +kernel
theorem dX12_step_112 : decode cX12_step 112 = .ok (.aload_n 0, 1) := by decide +kernel
theorem dX12_step_113 : decode cX12_step 113 = .ok (.getfield 25, 3) := by decide +kernel
theorem dX12_step_116 : decode cX12_step 116 = .ok (.ifCond .eq 7, 3) := by decide +kernel
theorem dX12_step_119 : decode cX12_step 119 = .ok (.iconst 0, 1) := by decide +kernel
theorem dX12_step_120 : decode cX12_step 120 = .ok (.goto 7, 3) := by decide +kernel
theorem dX12_step_123 : decode cX12_step 123 = .ok (.aload_n 0, 1) := by decide +kernel
theorem dX12_step_124 : decode cX12_step 124 = .ok (.getfield 16, 3) := by decide +kernel
theorem dX12_step_127 : decode cX12_step 127 = .ok (.putfield 16, 3) := by decide +kernel
theorem dX12_step_130 : decode cX12_step 130 = .ok (.aload_n 0, 1) := by decide +kernel
theorem dX12_step_131 : decode cX12_step 131 = .ok (.iload_n 1, 1) := by decide +kernel
theorem dX12_step_132 : decode cX12_step 132 = .ok (.iload_n 2, 1) := by decide +kernel
theorem dX12_step_133 : decode cX12_step 133 = .ok (.aload_n 0, 1) := by decide +kernel
theorem dX12_step_134 : decode cX12_step 134 = .ok (.getfield 13, 3) := by decide +kernel
theorem dX12_step_137 : decode cX12_step 137 = .ok (.invokevirtual 328, 3) := by decide +kernel
theorem dX12_step_140 : decode cX12_step 140 = .ok (.ireturn, 1) := by decide +kernel
theorem dX12_still_0 : decode cX12_still 0 = .ok (.aload_n 0, 1) := by decide +kernel
theorem dX12_still_1 : decode cX12_still 1 = .ok (.iload_n 1, 1) := by decide +kernel
theorem dX12_still_2 : decode cX12_still 2 = .ok (.iconst 0, 1) := by decide +kernel
theorem dX12_still_3 : decode cX12_still 3 = .ok (.bipush 30, 2) := by decide +kernel
theorem dX12_still_5 : decode cX12_still 5 = .ok (.invokevirtual 236, 3) := by decide +kernel
theorem dX12_still_8 : decode cX12_still 8 = .ok (.ifCond .ne 6, 3) := by decide +kernel
theorem dX12_still_11 : decode cX12_still 11 = .ok (.bipush (-2), 2) := by decide +kernel
theorem dX12_still_13 : decode cX12_still 13 = .ok (.ireturn, 1) := by decide +kernel
theorem dX12_still_14 : decode cX12_still 14 = .ok (.aload_n 0, 1) := by decide +kernel
theorem dX12_still_15 : decode cX12_still 15 = .ok (.getfield 13, 3) := by decide +kernel
theorem dX12_still_18 : decode cX12_still 18 = .ok (.sipush 9960, 3) := by decide +kernel
theorem dX12_still_21 : decode cX12_still 21 = .ok (.if_icmp .le 6, 3) := by decide +kernel
theorem dX12_still_24 : decode cX12_still 24 = .ok (.bipush (-3), 2) := by decide +kernel
theorem dX12_still_26 : decode cX12_still 26 = .ok (.ireturn, 1) := by decide +kernel
theorem dX12_still_27 : decode cX12_still 27 = .ok (.aload_n 0, 1) := by decide +kernel
theorem dX12_still_28 : decode cX12_still 28 = .ok (.dup, 1) := by decide +kernel
theorem dX12_still_29 : decode cX12_still 29 = .ok (.getfield 13, 3) := by decide +kernel
theorem dX12_still_32 : decode cX12_still 32 = .ok (.iload_n 1, 1) := by decide +kernel
theorem dX12_still_33 : decode cX12_still 33 = .ok (.iadd, 1) := by decide +kernel
theorem dX12_still_34 : decode cX12_still 34 = .ok (.putfield 13, 3) := by decide +kernel
theorem dX12_still_37 : decode cX12_still 37 = .ok (.aload_n 0, 1) := by decide +kernel
theorem dX12_still_38 : decode cX12_still 38 = .ok (.aload_n 0, 1) := by decide +kernel
theorem dX12_still_39 : decode cX12_still 39 = .ok (.getfield 16, 3) := by decide +kernel
theorem dX12_still_42 : decode cX12_still 42 = .ok (.iload_n 1, 1) := by decide +kernel
theorem dX12_still_43 : decode cX12_still 43 = .ok (.if_icmp .ge 7, 3) := by decide +kernel
theorem dX12_still_46 : decode cX12_still 46 = .ok (.iconst 0, 1) := by decide +kernel
theorem dX12_still_47 : decode cX12_still 47 = .ok (.goto 9, 3) := by decide +kernel
theorem dX12_still_50 : decode cX12_still 50 = .ok (.aload_n 0, 1) := by decide +kernel
theorem dX12_still_51 : decode cX12_still 51 = .ok (.getfield 16, 3) := by decide +kernel
theorem dX12_still_54 : decode cX12_still 54 = .ok (.iload_n 1, 1) := by decide +kernel
theorem dX12_still_55 : decode cX12_still 55 = .ok (.isub, 1) := by decide +kernel
theorem dX12_still_56 : decode cX12_still 56 = .ok (.putfield 16, 3) := by decide +kernel
theorem dX12_still_59 : decode cX12_still 59 = .ok (.aload_n 0, 1) := by decide +kernel
theorem dX12_still_60 : decode cX12_still 60 = .ok (.getfield 13, 3) := by decide +kernel
theorem dX12_still_63 : decode cX12_still 63 = .ok (.ireturn, 1) := by decide +kernel
theorem dX12_lull_0 : decode cX12_lull 0 = .ok (.aload_n 0, 1) := by decide +kernel
theorem dX12_lull_1 : decode cX12_lull 1 = .ok (.getfield 25, 3) := by decide +kernel
theorem dX12_lull_4 : decode cX12_lull 4 = .ok (.ifCond .eq 7, 3) := by decide +kernel
theorem dX12_lull_7 : decode cX12_lull 7 = .ok (.iconst 1, 1) := by decide +kernel
theorem dX12_lull_8 : decode cX12_lull 8 = .ok (.goto 4, 3) := by decide +kernel
theorem dX12_lull_11 : decode cX12_lull 11 = .ok (.iconst 0, 1) := by decide +kernel
theorem dX12_lull_12 : decode cX12_lull 12 = .ok (.istore_n 1, 1) := by decide +kernel
theorem dX12_lull_13 : decode cX12_lull 13 = .ok (.aload_n 0, 1) := by decide +kernel
theorem dX12_lull_14 : decode cX12_lull 14 = .ok (.iconst 0, 1) := by decide +kernel
theorem dX12_lull_15 : decode cX12_lull 15 = .ok (.putfield 25, 3) := by decide +kernel
theorem dX12_lull_18 : decode cX12_lull 18 = .ok (.aload_n 0, 1) := by decide +kernel
theorem dX12_lull_19 : decode cX12_lull 19 = .ok (.iconst 0, 1) := by decide +kernel
theorem dX12_lull_20 : decode cX12_lull 20 = .ok (.putfield 16, 3) := by decide +kernel
theorem dX12_lull_23 : decode cX12_lull 23 = .ok (.iload_n 1, 1) := by decide +kernel
theorem dX12_lull_24 : decode cX12_lull 24 = .ok (.ireturn, 1) := by decide +kernel
theorem dX12_way_0 : decode cX12_way 0 = .ok (.iload_n 1, 1) := by decide +kernel
theorem dX12_way_1 : decode cX12_way 1 = .ok (.iconst (-1), 1) := by decide +kernel
theorem dX12_way_2 : decode cX12_way 2 = .ok (.if_icmp .ne 10, 3) := by decide +kernel
theorem dX12_way_5 : decode cX12_way 5 = .ok (.aload_n 0, 1) := by decide +kernel
theorem dX12_way_6 : decode cX12_way 6 = .ok (.iconst 0, 1) := by decide +kernel
theorem dX12_way_7 : decode cX12_way 7 = .ok (.putfield 103, 3) := by decide +kernel
theorem dX12_way_10 : decode cX12_way 10 = .ok (.iconst 0, 1) := by decide +kernel
theorem dX12_way_11 : decode cX12_way 11 = .ok (.ireturn, 1) := by decide +kernel
theorem dX12_way_12 : decode cX12_way 12 = .ok (.iload_n 1, 1) := by decide +kernel
theorem dX12_way_13 : decode cX12_way 13 = .ok (.bipush (-2), 2) := by decide +kernel
theorem dX12_way_15 : decode cX12_way 15 = .ok (.if_icmp .eq 13, 3) := by decide +kernel
theorem dX12_way_18 : decode cX12_way 18 = .ok (.aload_n 0, 1) := by decide +kernel
theorem dX12_way_19 : decode cX12_way 19 = .ok (.iload_n 1, 1) := by decide +kernel
theorem dX12_way_20 : decode cX12_way 20 = .ok (.invokevirtual 244, 3) := by decide +kernel
theorem dX12_way_23 : decode cX12_way 23 = .ok (.ifCond .ne 5, 3) := by decide +kernel
theorem dX12_way_26 : decode cX12_way 26 = .ok (.iconst (-1), 1) := by decide +kernel
theorem dX12_way_27 : decode cX12_way 27 = .ok (.ireturn, 1) := by decide +kernel
theorem dX12_way_28 : decode cX12_way 28 = .ok (.aload_n 0, 1) := by decide +kernel
theorem dX12_way_29 : decode cX12_way 29 = .ok (.getfield 103, 3) := by decide +kernel
theorem dX12_way_32 : decode cX12_way 32 = .ok (.bipush 12, 2) := by decide +kernel
theorem dX12_way_34 : decode cX12_way 34 = .ok (.if_icmp .ne 6, 3) := by decide +kernel
theorem dX12_way_37 : decode cX12_way 37 = .ok (.bipush (-4), 2) := by decide +kernel
theorem dX12_way_39 : decode cX12_way 39 = .ok (.ireturn, 1) := by decide +kernel
theorem dX12_way_40 : decode cX12_way 40 = .ok (.aload_n 0, 1) := by decide +kernel
theorem dX12_way_41 : decode cX12_way 41 = .ok (.getfield 106, 3) := by decide +kernel
theorem dX12_way_44 : decode cX12_way 44 = .ok (.aload_n 0, 1) := by decide +kernel
theorem dX12_way_45 : decode cX12_way 45 = .ok (.getfield 103, 3) := by decide +kernel
theorem dX12_way_48 : decode cX12_way 48 = .ok (.iload_n 1, 1) := by decide +kernel
theorem dX12_way_49 : decode cX12_way 49 = .ok (.iastore, 1) := by decide +kernel
theorem dX12_way_50 : decode cX12_way 50 = .ok (.aload_n 0, 1) := by decide +kernel
theorem dX12_way_51 : decode cX12_way 51 = .ok (.dup, 1) := by decide +kernel
theorem dX12_way_52 : decode cX12_way 52 = .ok (.getfield 103, 3) := by decide +kernel
theorem dX12_way_55 : decode cX12_way 55 = .ok (.iconst 1, 1) := by decide +kernel
theorem dX12_way_56 : decode cX12_way 56 = .ok (.iadd, 1) := by decide +kernel
theorem dX12_way_57 : decode cX12_way 57 = .ok (.putfield 103, 3) := by decide +kernel
theorem dX12_way_60 : decode cX12_way 60 = .ok (.aload_n 0, 1) := by decide +kernel
theorem dX12_way_61 : decode cX12_way 61 = .ok (.getfield 103, 3) := by decide +kernel
theorem dX12_way_64 : decode cX12_way 64 = .ok (.ireturn, 1) := by decide +kernel
theorem dX12_goesBy_0 : decode cX12_goesBy 0 = .ok (.aload_n 0, 1) := by decide +kernel
theorem dX12_goesBy_1 : decode cX12_goesBy 1 = .ok (.aload_n 0, 1) := by decide +kernel
theorem dX12_goesBy_2 : decode cX12_goesBy 2 = .ok (.getfield 39, 3) := by decide +kernel
theorem dX12_goesBy_5 : decode cX12_goesBy 5 = .ok (.iload_n 1, 1) := by decide +kernel
theorem dX12_goesBy_6 : decode cX12_goesBy 6 = .ok (.iaload, 1) := by decide +kernel
theorem dX12_goesBy_7 : decode cX12_goesBy 7 = .ok (.putfield 109, 3) := by decide +kernel
theorem dX12_goesBy_10 : decode cX12_goesBy 10 = .ok (.aload_n 0, 1) := by decide +kernel
theorem dX12_goesBy_11 : decode cX12_goesBy 11 = .ok (.iload_n 2, 1) := by decide +kernel
theorem dX12_goesBy_12 : decode cX12_goesBy 12 = .ok (.putfield 112, 3) := by decide +kernel
theorem dX12_goesBy_15 : decode cX12_goesBy 15 = .ok (.aload_n 0, 1) := by decide +kernel
theorem dX12_goesBy_16 : decode cX12_goesBy 16 = .ok (.iload_n 3, 1) := by decide +kernel
theorem dX12_goesBy_17 : decode cX12_goesBy 17 = .ok (.putfield 115, 3) := by decide +kernel
theorem dX12_goesBy_20 : decode cX12_goesBy 20 = .ok (.iconst 0, 1) := by decide +kernel
theorem dX12_goesBy_21 : decode cX12_goesBy 21 = .ok (.istore 4, 2) := by decide +kernel
theorem dX12_goesBy_23 : decode cX12_goesBy 23 = .ok (.iload 4, 2) := by decide +kernel
theorem dX12_goesBy_25 : decode cX12_goesBy 25 = .ok (.aload_n 0, 1) := by decide +kernel
theorem dX12_goesBy_26 : decode cX12_goesBy 26 = .ok (.getfield 103, 3) := by decide +kernel
theorem dX12_goesBy_29 : decode cX12_goesBy 29 = .ok (.if_icmp .ge 136, 3) := by decide +kernel
theorem dX12_goesBy_32 : decode cX12_goesBy 32 = .ok (.aload_n 0, 1) := by decide +kernel
theorem dX12_goesBy_33 : decode cX12_goesBy 33 = .ok (.getfield 106, 3) := by decide +kernel
theorem dX12_goesBy_36 : decode cX12_goesBy 36 = .ok (.iload 4, 2) := by decide +kernel
theorem dX12_goesBy_38 : decode cX12_goesBy 38 = .ok (.iaload, 1) := by decide +kernel
theorem dX12_goesBy_39 : decode cX12_goesBy 39 = .ok (.ifCond .lt 21, 3) := by decide +kernel
theorem dX12_goesBy_42 : decode cX12_goesBy 42 = .ok (.aload_n 0, 1) := by decide +kernel
theorem dX12_goesBy_43 : decode cX12_goesBy 43 = .ok (.aload_n 0, 1) := by decide +kernel
theorem dX12_goesBy_44 : decode cX12_goesBy 44 = .ok (.getfield 109, 3) := by decide +kernel
theorem dX12_goesBy_47 : decode cX12_goesBy 47 = .ok (.aload_n 0, 1) := by decide +kernel
theorem dX12_goesBy_48 : decode cX12_goesBy 48 = .ok (.getfield 106, 3) := by decide +kernel
theorem dX12_goesBy_51 : decode cX12_goesBy 51 = .ok (.iload 4, 2) := by decide +kernel
theorem dX12_goesBy_53 : decode cX12_goesBy 53 = .ok (.iaload, 1) := by decide +kernel
theorem dX12_goesBy_54 : decode cX12_goesBy 54 = .ok (.invokevirtual 334, 3) := by decide +kernel
theorem dX12_goesBy_57 : decode cX12_goesBy 57 = .ok (.ifCond .ne 37, 3) := by decide +kernel
theorem dX12_goesBy_60 : decode cX12_goesBy 60 = .ok (.aload_n 0, 1) := by decide +kernel
theorem dX12_goesBy_61 : decode cX12_goesBy 61 = .ok (.dup, 1) := by decide +kernel
theorem dX12_goesBy_62 : decode cX12_goesBy 62 = .ok (.getfield 112, 3) := by decide +kernel
theorem dX12_goesBy_65 : decode cX12_goesBy 65 = .ok (.iconst 1, 1) := by decide +kernel
theorem dX12_goesBy_66 : decode cX12_goesBy 66 = .ok (.iadd, 1) := by decide +kernel
theorem dX12_goesBy_67 : decode cX12_goesBy 67 = .ok (.putfield 112, 3) := by decide +kernel
theorem dX12_goesBy_70 : decode cX12_goesBy 70 = .ok (.aload_n 0, 1) := by decide +kernel
theorem dX12_goesBy_71 : decode cX12_goesBy 71 = .ok (.aload_n 0, 1) := by decide +kernel
theorem dX12_goesBy_72 : decode cX12_goesBy 72 = .ok (.getfield 115, 3) := by decide +kernel
theorem dX12_goesBy_75 : decode cX12_goesBy 75 = .ok (.ifCond .ne 7, 3) := by decide +kernel
theorem dX12_goesBy_78 : decode cX12_goesBy 78 = .ok (.iconst 0, 1) := by decide +kernel
theorem dX12_goesBy_79 : decode cX12_goesBy 79 = .ok (.goto 9, 3) := by decide +kernel
theorem dX12_goesBy_82 : decode cX12_goesBy 82 = .ok (.aload_n 0, 1) := by decide +kernel
theorem dX12_goesBy_83 : decode cX12_goesBy 83 = .ok (.getfield 115, 3) := by decide +kernel
theorem dX12_goesBy_86 : decode cX12_goesBy 86 = .ok (.iconst 1, 1) := by decide +kernel
theorem dX12_goesBy_87 : decode cX12_goesBy 87 = .ok (.isub, 1) := by decide +kernel
theorem dX12_goesBy_88 : decode cX12_goesBy 88 = .ok (.putfield 115, 3) := by decide +kernel
theorem dX12_goesBy_91 : decode cX12_goesBy 91 = .ok (.goto 68, 3) := by decide +kernel
theorem dX12_goesBy_94 : decode cX12_goesBy 94 = .ok (.aload_n 0, 1) := by decide +kernel
theorem dX12_goesBy_95 : decode cX12_goesBy 95 = .ok (.dup, 1) := by decide +kernel
theorem dX12_goesBy_96 : decode cX12_goesBy 96 = .ok (.getfield 112, 3) := by decide +kernel
theorem dX12_goesBy_99 : decode cX12_goesBy 99 = .ok (.aload_n 0, 1) := by decide +kernel
theorem dX12_goesBy_100 : decode cX12_goesBy 100 = .ok (.iload_n 1, 1) := by decide +kernel
theorem dX12_goesBy_101 : decode cX12_goesBy 101 = .ok (.invokevirtual 337, 3) := by decide +kernel
theorem dX12_goesBy_104 : decode cX12_goesBy 104 = .ok (.iadd, 1) := by decide +kernel
theorem dX12_goesBy_105 : decode cX12_goesBy 105 = .ok (.putfield 112, 3) := by decide +kernel
theorem dX12_goesBy_108 : decode cX12_goesBy 108 = .ok (.aload_n 0, 1) := by decide +kernel
theorem dX12_goesBy_109 : decode cX12_goesBy 109 = .ok (.aload_n 0, 1) := by decide +kernel
theorem dX12_goesBy_110 : decode cX12_goesBy 110 = .ok (.getfield 106, 3) := by decide +kernel
theorem dX12_goesBy_113 : decode cX12_goesBy 113 = .ok (.iload 4, 2) := by decide +kernel
theorem dX12_goesBy_115 : decode cX12_goesBy 115 = .ok (.iaload, 1) := by decide +kernel
theorem dX12_goesBy_116 : decode cX12_goesBy 116 = .ok (.putfield 109, 3) := by decide +kernel
theorem dX12_goesBy_119 : decode cX12_goesBy 119 = .ok (.aload_n 0, 1) := by decide +kernel
theorem dX12_goesBy_120 : decode cX12_goesBy 120 = .ok (.aload_n 0, 1) := by decide +kernel
theorem dX12_goesBy_121 : decode cX12_goesBy 121 = .ok (.iload_n 1, 1) := by decide +kernel
theorem dX12_goesBy_122 : decode cX12_goesBy 122 = .ok (.aload_n 0, 1) := by decide +kernel
theorem dX12_goesBy_123 : decode cX12_goesBy 123 = .ok (.getfield 109, 3) := by decide +kernel
theorem dX12_goesBy_126 : decode cX12_goesBy 126 = .ok (.aload_n 0, 1) := by decide +kernel
theorem dX12_goesBy_127 : decode cX12_goesBy 127 = .ok (.getfield 112, 3) := by decide +kernel
theorem dX12_goesBy_130 : decode cX12_goesBy 130 = .ok (.aload_n 0, 1) := by decide +kernel
theorem dX12_goesBy_131 : decode cX12_goesBy 131 = .ok (.getfield 115, 3) := by decide +kernel
theorem dX12_goesBy_134 : decode cX12_goesBy 134 = .ok (.invokevirtual 340, 3) := by decide +kernel
theorem dX12_goesBy_137 : decode cX12_goesBy 137 = .ok (.putfield 115, 3) := by decide +kernel
theorem dX12_goesBy_140 : decode cX12_goesBy 140 = .ok (.aload_n 0, 1) := by decide +kernel
theorem dX12_goesBy_141 : decode cX12_goesBy 141 = .ok (.getfield 115, 3) := by decide +kernel
theorem dX12_goesBy_144 : decode cX12_goesBy 144 = .ok (.iconst 3, 1) := by decide +kernel
theorem dX12_goesBy_145 : decode cX12_goesBy 145 = .ok (.if_icmp .ge 6, 3) := by decide +kernel
theorem dX12_goesBy_148 : decode cX12_goesBy 148 = .ok (.goto 11, 3) := by decide +kernel
theorem dX12_goesBy_151 : decode cX12_goesBy 151 = .ok (.aload_n 0, 1) := by decide +kernel
theorem dX12_goesBy_152 : decode cX12_goesBy 152 = .ok (.iconst 0, 1) := by decide +kernel
theorem dX12_goesBy_153 : decode cX12_goesBy 153 = .ok (.putfield 115, 3) := by decide +kernel
theorem dX12_goesBy_156 : decode cX12_goesBy 156 = .ok (.iload 4, 2) := by decide +kernel
theorem dX12_goesBy_158 : decode cX12_goesBy 158 = .ok (.ireturn, 1) := by decide +kernel
theorem dX12_goesBy_159 : decode cX12_goesBy 159 = .ok (.iinc 4 1, 3) := by decide +kernel
theorem dX12_goesBy_162 : decode cX12_goesBy 162 = .ok (.goto (-139), 3) := by decide +kernel
theorem dX12_goesBy_165 : decode cX12_goesBy 165 = .ok (.bipush (-5), 2) := by decide +kernel
theorem dX12_goesBy_167 : decode cX12_goesBy 167 = .ok (.ireturn, 1) := by decide +kernel
theorem dX12_goes_0 : decode cX12_goes 0 = .ok (.aload_n 0, 1) := by decide +kernel
theorem dX12_goes_1 : decode cX12_goes 1 = .ok (.iload_n 1, 1) := by decide +kernel
theorem dX12_goes_2 : decode cX12_goes 2 = .ok (.invokevirtual 248, 3) := by decide +kernel
theorem dX12_goes_5 : decode cX12_goes 5 = .ok (.ifCond .eq 13, 3) := by decide +kernel
theorem dX12_goes_8 : decode cX12_goes 8 = .ok (.aload_n 0, 1) := by decide +kernel
theorem dX12_goes_9 : decode cX12_goes 9 = .ok (.iload_n 2, 1) := by decide +kernel
theorem dX12_goes_10 : decode cX12_goes 10 = .ok (.iconst 0, 1) := by decide +kernel
theorem dX12_goes_11 : decode cX12_goes 11 = .ok (.iconst 3, 1) := by decide +kernel
theorem dX12_goes_12 : decode cX12_goes 12 = .ok (.invokevirtual 236, 3) := by decide +kernel
theorem dX12_goes_15 : decode cX12_goes 15 = .ok (.ifCond .ne 5, 3) := by decide +kernel
theorem dX12_goes_18 : decode cX12_goes 18 = .ok (.iconst (-1), 1) := by decide +kernel
theorem dX12_goes_19 : decode cX12_goes 19 = .ok (.ireturn, 1) := by decide +kernel
theorem dX12_goes_20 : decode cX12_goes 20 = .ok (.aload_n 0, 1) := by decide +kernel
theorem dX12_goes_21 : decode cX12_goes 21 = .ok (.iload_n 1, 1) := by decide +kernel
theorem dX12_goes_22 : decode cX12_goes 22 = .ok (.aload_n 0, 1) := by decide +kernel
theorem dX12_goes_23 : decode cX12_goes 23 = .ok (.getfield 13, 3) := by decide +kernel
theorem dX12_goes_26 : decode cX12_goes 26 = .ok (.aload_n 0, 1) := by decide +kernel
theorem dX12_goes_27 : decode cX12_goes 27 = .ok (.getfield 16, 3) := by decide +kernel
theorem dX12_goes_30 : decode cX12_goes 30 = .ok (.invokevirtual 343, 3) := by decide +kernel
theorem dX12_goes_33 : decode cX12_goes 33 = .ok (.istore_n 3, 1) := by decide +kernel
theorem dX12_goes_34 : decode cX12_goes 34 = .ok (.iload_n 2, 1) := by decide +kernel
theorem dX12_goes_35 : decode cX12_goes 35 = .ok (.ifCond .ne 7, 3) := by decide +kernel
theorem dX12_goes_38 : decode cX12_goes 38 = .ok (.iload_n 3, 1) := by decide +kernel
theorem dX12_goes_39 : decode cX12_goes 39 = .ok (.goto 31, 3) := by decide +kernel
theorem dX12_goes_42 : decode cX12_goes 42 = .ok (.iload_n 2, 1) := by decide +kernel
theorem dX12_goes_43 : decode cX12_goes 43 = .ok (.iconst 1, 1) := by decide +kernel
theorem dX12_goes_44 : decode cX12_goes 44 = .ok (.if_icmp .ne 10, 3) := by decide +kernel
theorem dX12_goes_47 : decode cX12_goes 47 = .ok (.aload_n 0, 1) := by decide +kernel
theorem dX12_goes_48 : decode cX12_goes 48 = .ok (.getfield 109, 3) := by decide +kernel
theorem dX12_goes_51 : decode cX12_goes 51 = .ok (.goto 19, 3) := by decide +kernel
theorem dX12_goes_54 : decode cX12_goes 54 = .ok (.iload_n 2, 1) := by decide +kernel
theorem dX12_goes_55 : decode cX12_goes 55 = .ok (.iconst 2, 1) := by decide +kernel
theorem dX12_goes_56 : decode cX12_goes 56 = .ok (.if_icmp .ne 10, 3) := by decide +kernel
theorem dX12_goes_59 : decode cX12_goes 59 = .ok (.aload_n 0, 1) := by decide +kernel
theorem dX12_goes_60 : decode cX12_goes 60 = .ok (.getfield 112, 3) := by decide +kernel
theorem dX12_goes_63 : decode cX12_goes 63 = .ok (.goto 7, 3) := by decide +kernel
theorem dX12_goes_66 : decode cX12_goes 66 = .ok (.aload_n 0, 1) := by decide +kernel
theorem dX12_goes_67 : decode cX12_goes 67 = .ok (.getfield 115, 3) := by decide +kernel
theorem dX12_goes_70 : decode cX12_goes 70 = .ok (.ireturn, 1) := by decide +kernel
theorem dX12_stays_0 : decode cX12_stays 0 = .ok (.aload_n 0, 1) := by decide +kernel
theorem dX12_stays_1 : decode cX12_stays 1 = .ok (.getfield 118, 3) := by decide +kernel
theorem dX12_stays_4 : decode cX12_stays 4 = .ok (.bipush 12, 2) := by decide +kernel
theorem dX12_stays_6 : decode cX12_stays 6 = .ok (.iload_n 1, 1) := by decide +kernel
theorem dX12_stays_7 : decode cX12_stays 7 = .ok (.imul, 1) := by decide +kernel
theorem dX12_stays_8 : decode cX12_stays 8 = .ok (.iload_n 2, 1) := by decide +kernel
theorem dX12_stays_9 : decode cX12_stays 9 = .ok (.iadd, 1) := by decide +kernel
theorem dX12_stays_10 : decode cX12_stays 10 = .ok (.iaload, 1) := by decide +kernel
theorem dX12_stays_11 : decode cX12_stays 11 = .ok (.istore_n 3, 1) := by decide +kernel
theorem dX12_stays_12 : decode cX12_stays 12 = .ok (.aload_n 0, 1) := by decide +kernel
theorem dX12_stays_13 : decode cX12_stays 13 = .ok (.getfield 118, 3) := by decide +kernel
theorem dX12_stays_16 : decode cX12_stays 16 = .ok (.bipush 12, 2) := by decide +kernel
theorem dX12_stays_18 : decode cX12_stays 18 = .ok (.iload_n 1, 1) := by decide +kernel
theorem dX12_stays_19 : decode cX12_stays 19 = .ok (.imul, 1) := by decide +kernel
theorem dX12_stays_20 : decode cX12_stays 20 = .ok (.bipush 12, 2) := by decide +kernel
theorem dX12_stays_22 : decode cX12_stays 22 = .ok (.iadd, 1) := by decide +kernel
theorem dX12_stays_23 : decode cX12_stays 23 = .ok (.iload_n 2, 1) := by decide +kernel
theorem dX12_stays_24 : decode cX12_stays 24 = .ok (.iadd, 1) := by decide +kernel
theorem dX12_stays_25 : decode cX12_stays 25 = .ok (.dup2, 1) := by decide +kernel
theorem dX12_stays_26 : decode cX12_stays 26 = .ok (.iaload, 1) := by decide +kernel
theorem dX12_stays_27 : decode cX12_stays 27 = .ok (.iload_n 3, 1) := by decide +kernel
theorem dX12_stays_28 : decode cX12_stays 28 = .ok (.iconst 1, 1) := by decide +kernel
theorem dX12_stays_29 : decode cX12_stays 29 = .ok (.ishr, 1) := by decide +kernel
theorem dX12_stays_30 : decode cX12_stays 30 = .ok (.iload_n 3, 1) := by decide +kernel
theorem dX12_stays_31 : decode cX12_stays 31 = .ok (.iconst 1, 1) := by decide +kernel
theorem dX12_stays_32 : decode cX12_stays 32 = .ok (.iand, 1) := by decide +kernel
theorem dX12_stays_33 : decode cX12_stays 33 = .ok (.ior, 1) := by decide +kernel
theorem dX12_stays_34 : decode cX12_stays 34 = .ok (.ior, 1) := by decide +kernel
theorem dX12_stays_35 : decode cX12_stays 35 = .ok (.iastore, 1) := by decide +kernel
theorem dX12_stays_36 : decode cX12_stays 36 = .ok (.return_, 1) := by decide +kernel
theorem dX12_treads_0 : decode cX12_treads 0 = .ok (.iload_n 2, 1) := by decide +kernel
theorem dX12_treads_1 : decode cX12_treads 1 = .ok (.aload_n 0, 1) := by decide +kernel
theorem dX12_treads_2 : decode cX12_treads 2 = .ok (.iload_n 1, 1) := by decide +kernel
theorem dX12_treads_3 : decode cX12_treads 3 = .ok (.invokevirtual 337, 3) := by decide +kernel
theorem dX12_treads_6 : decode cX12_treads 6 = .ok (.iadd, 1) := by decide +kernel
theorem dX12_treads_7 : decode cX12_treads 7 = .ok (.istore 5, 2) := by decide +kernel
theorem dX12_treads_9 : decode cX12_treads 9 = .ok (.aload_n 0, 1) := by decide +kernel
theorem dX12_treads_10 : decode cX12_treads 10 = .ok (.iload 4, 2) := by decide +kernel
theorem dX12_treads_12 : decode cX12_treads 12 = .ok (.iload 5, 2) := by decide +kernel
theorem dX12_treads_14 : decode cX12_treads 14 = .ok (.iadd, 1) := by decide +kernel
theorem dX12_treads_15 : decode cX12_treads 15 = .ok (.invokevirtual 331, 3) := by decide +kernel
theorem dX12_treads_18 : decode cX12_treads 18 = .ok (.istore 6, 2) := by decide +kernel
theorem dX12_treads_20 : decode cX12_treads 20 = .ok (.iconst 0, 1) := by decide +kernel
theorem dX12_treads_21 : decode cX12_treads 21 = .ok (.istore 7, 2) := by decide +kernel
theorem dX12_treads_23 : decode cX12_treads 23 = .ok (.iload 7, 2) := by decide +kernel
theorem dX12_treads_25 : decode cX12_treads 25 = .ok (.bipush 12, 2) := by decide +kernel
theorem dX12_treads_27 : decode cX12_treads 27 = .ok (.if_icmp .ge 127, 3) := by decide +kernel
theorem dX12_treads_30 : decode cX12_treads 30 = .ok (.aload_n 0, 1) := by decide +kernel
theorem dX12_treads_31 : decode cX12_treads 31 = .ok (.iload_n 3, 1) := by decide +kernel
theorem dX12_treads_32 : decode cX12_treads 32 = .ok (.iload 7, 2) := by decide +kernel
theorem dX12_treads_34 : decode cX12_treads 34 = .ok (.invokevirtual 334, 3) := by decide +kernel
theorem dX12_treads_37 : decode cX12_treads 37 = .ok (.ifCond .ne 6, 3) := by decide +kernel
theorem dX12_treads_40 : decode cX12_treads 40 = .ok (.goto 108, 3) := by decide +kernel
theorem dX12_treads_43 : decode cX12_treads 43 = .ok (.aload_n 0, 1) := by decide +kernel
theorem dX12_treads_44 : decode cX12_treads 44 = .ok (.iload_n 1, 1) := by decide +kernel
theorem dX12_treads_45 : decode cX12_treads 45 = .ok (.iload 7, 2) := by decide +kernel
theorem dX12_treads_47 : decode cX12_treads 47 = .ok (.iload 4, 2) := by decide +kernel
theorem dX12_treads_49 : decode cX12_treads 49 = .ok (.iload 5, 2) := by decide +kernel
theorem dX12_treads_51 : decode cX12_treads 51 = .ok (.iadd, 1) := by decide +kernel
theorem dX12_treads_52 : decode cX12_treads 52 = .ok (.invokevirtual 328, 3) := by decide +kernel
theorem dX12_treads_55 : decode cX12_treads 55 = .ok (.istore 8, 2) := by decide +kernel
theorem dX12_treads_57 : decode cX12_treads 57 = .ok (.iload 8, 2) := by decide +kernel
theorem dX12_treads_59 : decode cX12_treads 59 = .ok (.iload 6, 2) := by decide +kernel
theorem dX12_treads_61 : decode cX12_treads 61 = .ok (.if_icmp .le 6, 3) := by decide +kernel
theorem dX12_treads_64 : decode cX12_treads 64 = .ok (.goto 84, 3) := by decide +kernel
theorem dX12_treads_67 : decode cX12_treads 67 = .ok (.iconst 0, 1) := by decide +kernel
theorem dX12_treads_68 : decode cX12_treads 68 = .ok (.istore 9, 2) := by decide +kernel
theorem dX12_treads_70 : decode cX12_treads 70 = .ok (.iload 9, 2) := by decide +kernel
theorem dX12_treads_72 : decode cX12_treads 72 = .ok (.iconst 3, 1) := by decide +kernel
theorem dX12_treads_73 : decode cX12_treads 73 = .ok (.if_icmp .ge 75, 3) := by decide +kernel
theorem dX12_treads_76 : decode cX12_treads 76 = .ok (.iconst 2, 1) := by decide +kernel
theorem dX12_treads_77 : decode cX12_treads 77 = .ok (.iload 8, 2) := by decide +kernel
theorem dX12_treads_79 : decode cX12_treads 79 = .ok (.imul, 1) := by decide +kernel
theorem dX12_treads_80 : decode cX12_treads 80 = .ok (.iload 6, 2) := by decide +kernel
theorem dX12_treads_82 : decode cX12_treads 82 = .ok (.if_icmp .le 10, 3) := by decide +kernel
theorem dX12_treads_85 : decode cX12_treads 85 = .ok (.iload 9, 2) := by decide +kernel
theorem dX12_treads_87 : decode cX12_treads 87 = .ok (.iconst 1, 1) := by decide +kernel
theorem dX12_treads_88 : decode cX12_treads 88 = .ok (.iadd, 1) := by decide +kernel
theorem dX12_treads_89 : decode cX12_treads 89 = .ok (.goto 5, 3) := by decide +kernel
theorem dX12_treads_92 : decode cX12_treads 92 = .ok (.iload 9, 2) := by decide +kernel
theorem dX12_treads_94 : decode cX12_treads 94 = .ok (.istore 10, 2) := by decide +kernel
theorem dX12_treads_96 : decode cX12_treads 96 = .ok (.aload_n 0, 1) := by decide +kernel
theorem dX12_treads_97 : decode cX12_treads 97 = .ok (.aload_n 0, 1) := by decide +kernel
theorem dX12_treads_98 : decode cX12_treads 98 = .ok (.getfield 118, 3) := by decide +kernel
theorem dX12_treads_101 : decode cX12_treads 101 = .ok (.bipush 12, 2) := by decide +kernel
theorem dX12_treads_103 : decode cX12_treads 103 = .ok (.iload_n 2, 1) := by decide +kernel
theorem dX12_treads_104 : decode cX12_treads 104 = .ok (.imul, 1) := by decide +kernel
theorem dX12_treads_105 : decode cX12_treads 105 = .ok (.iload_n 3, 1) := by decide +kernel
theorem dX12_treads_106 : decode cX12_treads 106 = .ok (.iadd, 1) := by decide +kernel
theorem dX12_treads_107 : decode cX12_treads 107 = .ok (.iaload, 1) := by decide +kernel
theorem dX12_treads_108 : decode cX12_treads 108 = .ok (.iload 9, 2) := by decide +kernel
theorem dX12_treads_110 : decode cX12_treads 110 = .ok (.invokevirtual 318, 3) := by decide +kernel
theorem dX12_treads_113 : decode cX12_treads 113 = .ok (.ifCond .eq 29, 3) := by decide +kernel
theorem dX12_treads_116 : decode cX12_treads 116 = .ok (.iload 10, 2) := by decide +kernel
theorem dX12_treads_118 : decode cX12_treads 118 = .ok (.iconst 3, 1) := by decide +kernel
theorem dX12_treads_119 : decode cX12_treads 119 = .ok (.if_icmp .ge 23, 3) := by decide +kernel
theorem dX12_treads_122 : decode cX12_treads 122 = .ok (.aload_n 0, 1) := by decide +kernel
theorem dX12_treads_123 : decode cX12_treads 123 = .ok (.getfield 118, 3) := by decide +kernel
theorem dX12_treads_126 : decode cX12_treads 126 = .ok (.bipush 12, 2) := by decide +kernel
theorem dX12_treads_128 : decode cX12_treads 128 = .ok (.iload 5, 2) := by decide +kernel
theorem dX12_treads_130 : decode cX12_treads 130 = .ok (.imul, 1) := by decide +kernel
theorem dX12_treads_131 : decode cX12_treads 131 = .ok (.iload 7, 2) := by decide +kernel
theorem dX12_treads_133 : decode cX12_treads 133 = .ok (.iadd, 1) := by decide +kernel
theorem dX12_treads_134 : decode cX12_treads 134 = .ok (.dup2, 1) := by decide +kernel
theorem dX12_treads_135 : decode cX12_treads 135 = .ok (.iaload, 1) := by decide +kernel
theorem dX12_treads_136 : decode cX12_treads 136 = .ok (.iconst 1, 1) := by decide +kernel
theorem dX12_treads_137 : decode cX12_treads 137 = .ok (.iload 10, 2) := by decide +kernel
theorem dX12_treads_139 : decode cX12_treads 139 = .ok (.ishl, 1) := by decide +kernel
theorem dX12_treads_140 : decode cX12_treads 140 = .ok (.ior, 1) := by decide +kernel
theorem dX12_treads_141 : decode cX12_treads 141 = .ok (.iastore, 1) := by decide +kernel
theorem dX12_treads_142 : decode cX12_treads 142 = .ok (.iinc 9 1, 3) := by decide +kernel
theorem dX12_treads_145 : decode cX12_treads 145 = .ok (.goto (-75), 3) := by decide +kernel
theorem dX12_treads_148 : decode cX12_treads 148 = .ok (.iinc 7 1, 3) := by decide +kernel
theorem dX12_treads_151 : decode cX12_treads 151 = .ok (.goto (-128), 3) := by decide +kernel
theorem dX12_treads_154 : decode cX12_treads 154 = .ok (.return_, 1) := by decide +kernel
theorem dX12_outBy_0 : decode cX12_outBy 0 = .ok (.iconst 0, 1) := by decide +kernel
theorem dX12_outBy_1 : decode cX12_outBy 1 = .ok (.istore 5, 2) := by decide +kernel
theorem dX12_outBy_3 : decode cX12_outBy 3 = .ok (.iload 5, 2) := by decide +kernel
theorem dX12_outBy_5 : decode cX12_outBy 5 = .ok (.sipush 396, 3) := by decide +kernel
theorem dX12_outBy_8 : decode cX12_outBy 8 = .ok (.if_icmp .ge 17, 3) := by decide +kernel
theorem dX12_outBy_11 : decode cX12_outBy 11 = .ok (.aload_n 0, 1) := by decide +kernel
theorem dX12_outBy_12 : decode cX12_outBy 12 = .ok (.getfield 118, 3) := by decide +kernel
theorem dX12_outBy_15 : decode cX12_outBy 15 = .ok (.iload 5, 2) := by decide +kernel
theorem dX12_outBy_17 : decode cX12_outBy 17 = .ok (.iconst 0, 1) := by decide +kernel
theorem dX12_outBy_18 : decode cX12_outBy 18 = .ok (.iastore, 1) := by decide +kernel
theorem dX12_outBy_19 : decode cX12_outBy 19 = .ok (.iinc 5 1, 3) := by decide +kernel
theorem dX12_outBy_22 : decode cX12_outBy 22 = .ok (.goto (-19), 3) := by decide +kernel
theorem dX12_outBy_25 : decode cX12_outBy 25 = .ok (.aload_n 0, 1) := by decide +kernel
theorem dX12_outBy_26 : decode cX12_outBy 26 = .ok (.getfield 118, 3) := by decide +kernel
theorem dX12_outBy_29 : decode cX12_outBy 29 = .ok (.iload_n 2, 1) := by decide +kernel
theorem dX12_outBy_30 : decode cX12_outBy 30 = .ok (.iconst 1, 1) := by decide +kernel
theorem dX12_outBy_31 : decode cX12_outBy 31 = .ok (.iload 4, 2) := by decide +kernel
theorem dX12_outBy_33 : decode cX12_outBy 33 = .ok (.ishl, 1) := by decide +kernel
theorem dX12_outBy_34 : decode cX12_outBy 34 = .ok (.iastore, 1) := by decide +kernel
theorem dX12_outBy_35 : decode cX12_outBy 35 = .ok (.iconst 0, 1) := by decide +kernel
theorem dX12_outBy_36 : decode cX12_outBy 36 = .ok (.istore 5, 2) := by decide +kernel
theorem dX12_outBy_38 : decode cX12_outBy 38 = .ok (.iload 5, 2) := by decide +kernel
theorem dX12_outBy_40 : decode cX12_outBy 40 = .ok (.bipush 31, 2) := by decide +kernel
theorem dX12_outBy_42 : decode cX12_outBy 42 = .ok (.if_icmp .ge 83, 3) := by decide +kernel
theorem dX12_outBy_45 : decode cX12_outBy 45 = .ok (.aload_n 0, 1) := by decide +kernel
theorem dX12_outBy_46 : decode cX12_outBy 46 = .ok (.getfield 118, 3) := by decide +kernel
theorem dX12_outBy_49 : decode cX12_outBy 49 = .ok (.bipush 12, 2) := by decide +kernel
theorem dX12_outBy_51 : decode cX12_outBy 51 = .ok (.iload 5, 2) := by decide +kernel
theorem dX12_outBy_53 : decode cX12_outBy 53 = .ok (.imul, 1) := by decide +kernel
theorem dX12_outBy_54 : decode cX12_outBy 54 = .ok (.aload_n 0, 1) := by decide +kernel
theorem dX12_outBy_55 : decode cX12_outBy 55 = .ok (.getfield 22, 3) := by decide +kernel
theorem dX12_outBy_58 : decode cX12_outBy 58 = .ok (.iadd, 1) := by decide +kernel
theorem dX12_outBy_59 : decode cX12_outBy 59 = .ok (.iaload, 1) := by decide +kernel
theorem dX12_outBy_60 : decode cX12_outBy 60 = .ok (.ifCond .eq 6, 3) := by decide +kernel
theorem dX12_outBy_63 : decode cX12_outBy 63 = .ok (.iload 5, 2) := by decide +kernel
theorem dX12_outBy_65 : decode cX12_outBy 65 = .ok (.ireturn, 1) := by decide +kernel
theorem dX12_outBy_66 : decode cX12_outBy 66 = .ok (.iconst 0, 1) := by decide +kernel
theorem dX12_outBy_67 : decode cX12_outBy 67 = .ok (.istore 6, 2) := by decide +kernel
theorem dX12_outBy_69 : decode cX12_outBy 69 = .ok (.iload 6, 2) := by decide +kernel
theorem dX12_outBy_71 : decode cX12_outBy 71 = .ok (.bipush 12, 2) := by decide +kernel
theorem dX12_outBy_73 : decode cX12_outBy 73 = .ok (.if_icmp .ge 46, 3) := by decide +kernel
theorem dX12_outBy_76 : decode cX12_outBy 76 = .ok (.aload_n 0, 1) := by decide +kernel
theorem dX12_outBy_77 : decode cX12_outBy 77 = .ok (.getfield 118, 3) := by decide +kernel
theorem dX12_outBy_80 : decode cX12_outBy 80 = .ok (.bipush 12, 2) := by decide +kernel
theorem dX12_outBy_82 : decode cX12_outBy 82 = .ok (.iload 5, 2) := by decide +kernel
theorem dX12_outBy_84 : decode cX12_outBy 84 = .ok (.imul, 1) := by decide +kernel
theorem dX12_outBy_85 : decode cX12_outBy 85 = .ok (.iload 6, 2) := by decide +kernel
theorem dX12_outBy_87 : decode cX12_outBy 87 = .ok (.iadd, 1) := by decide +kernel
theorem dX12_outBy_88 : decode cX12_outBy 88 = .ok (.iaload, 1) := by decide +kernel
theorem dX12_outBy_89 : decode cX12_outBy 89 = .ok (.ifCond .ne 6, 3) := by decide +kernel
theorem dX12_outBy_92 : decode cX12_outBy 92 = .ok (.goto 21, 3) := by decide +kernel
theorem dX12_outBy_95 : decode cX12_outBy 95 = .ok (.aload_n 0, 1) := by decide +kernel
theorem dX12_outBy_96 : decode cX12_outBy 96 = .ok (.iload 5, 2) := by decide +kernel
theorem dX12_outBy_98 : decode cX12_outBy 98 = .ok (.iload 6, 2) := by decide +kernel
theorem dX12_outBy_100 : decode cX12_outBy 100 = .ok (.invokevirtual 346, 3) := by decide +kernel
theorem dX12_outBy_103 : decode cX12_outBy 103 = .ok (.aload_n 0, 1) := by decide +kernel
theorem dX12_outBy_104 : decode cX12_outBy 104 = .ok (.iload_n 1, 1) := by decide +kernel
theorem dX12_outBy_105 : decode cX12_outBy 105 = .ok (.iload 5, 2) := by decide +kernel
theorem dX12_outBy_107 : decode cX12_outBy 107 = .ok (.iload 6, 2) := by decide +kernel
theorem dX12_outBy_109 : decode cX12_outBy 109 = .ok (.iload_n 3, 1) := by decide +kernel
theorem dX12_outBy_110 : decode cX12_outBy 110 = .ok (.invokevirtual 350, 3) := by decide +kernel
theorem dX12_outBy_113 : decode cX12_outBy 113 = .ok (.iinc 6 1, 3) := by decide +kernel
theorem dX12_outBy_116 : decode cX12_outBy 116 = .ok (.goto (-47), 3) := by decide +kernel
theorem dX12_outBy_119 : decode cX12_outBy 119 = .ok (.iinc 5 1, 3) := by decide +kernel
theorem dX12_outBy_122 : decode cX12_outBy 122 = .ok (.goto (-84), 3) := by decide +kernel
theorem dX12_outBy_125 : decode cX12_outBy 125 = .ok (.bipush (-5), 2) := by decide +kernel
theorem dX12_outBy_127 : decode cX12_outBy 127 = .ok (.ireturn, 1) := by decide +kernel
theorem dX12_outNow_0 : decode cX12_outNow 0 = .ok (.aload_n 0, 1) := by decide +kernel
theorem dX12_outNow_1 : decode cX12_outNow 1 = .ok (.iload_n 1, 1) := by decide +kernel
theorem dX12_outNow_2 : decode cX12_outNow 2 = .ok (.aload_n 0, 1) := by decide +kernel
theorem dX12_outNow_3 : decode cX12_outNow 3 = .ok (.getfield 39, 3) := by decide +kernel
theorem dX12_outNow_6 : decode cX12_outNow 6 = .ok (.iload_n 1, 1) := by decide +kernel
theorem dX12_outNow_7 : decode cX12_outNow 7 = .ok (.iaload, 1) := by decide +kernel
theorem dX12_outNow_8 : decode cX12_outNow 8 = .ok (.aload_n 0, 1) := by decide +kernel
theorem dX12_outNow_9 : decode cX12_outNow 9 = .ok (.getfield 13, 3) := by decide +kernel
theorem dX12_outNow_12 : decode cX12_outNow 12 = .ok (.aload_n 0, 1) := by decide +kernel
theorem dX12_outNow_13 : decode cX12_outNow 13 = .ok (.getfield 16, 3) := by decide +kernel
theorem dX12_outNow_16 : decode cX12_outNow 16 = .ok (.invokevirtual 354, 3) := by decide +kernel
theorem dX12_outNow_19 : decode cX12_outNow 19 = .ok (.ireturn, 1) := by decide +kernel
theorem dX12_out_0 : decode cX12_out 0 = .ok (.aload_n 0, 1) := by decide +kernel
theorem dX12_out_1 : decode cX12_out 1 = .ok (.iload_n 1, 1) := by decide +kernel
theorem dX12_out_2 : decode cX12_out 2 = .ok (.invokevirtual 248, 3) := by decide +kernel
theorem dX12_out_5 : decode cX12_out 5 = .ok (.ifCond .eq 11, 3) := by decide +kernel
theorem dX12_out_8 : decode cX12_out 8 = .ok (.aload_n 0, 1) := by decide +kernel
theorem dX12_out_9 : decode cX12_out 9 = .ok (.iload_n 1, 1) := by decide +kernel
theorem dX12_out_10 : decode cX12_out 10 = .ok (.invokevirtual 357, 3) := by decide +kernel
theorem dX12_out_13 : decode cX12_out 13 = .ok (.goto 4, 3) := by decide +kernel
theorem dX12_out_16 : decode cX12_out 16 = .ok (.iconst (-1), 1) := by decide +kernel
theorem dX12_out_17 : decode cX12_out 17 = .ok (.ireturn, 1) := by decide +kernel
theorem dX12_isOnTrail_0 : decode cX12_isOnTrail 0 = .ok (.iconst 0, 1) := by decide +kernel
theorem dX12_isOnTrail_1 : decode cX12_isOnTrail 1 = .ok (.istore_n 3, 1) := by decide +kernel
theorem dX12_isOnTrail_2 : decode cX12_isOnTrail 2 = .ok (.iload_n 3, 1) := by decide +kernel
theorem dX12_isOnTrail_3 : decode cX12_isOnTrail 3 = .ok (.iload_n 2, 1) := by decide +kernel
theorem dX12_isOnTrail_4 : decode cX12_isOnTrail 4 = .ok (.if_icmp .gt 21, 3) := by decide +kernel
theorem dX12_isOnTrail_7 : decode cX12_isOnTrail 7 = .ok (.aload_n 0, 1) := by decide +kernel
theorem dX12_isOnTrail_8 : decode cX12_isOnTrail 8 = .ok (.getfield 121, 3) := by decide +kernel
theorem dX12_isOnTrail_11 : decode cX12_isOnTrail 11 = .ok (.iload_n 3, 1) := by decide +kernel
theorem dX12_isOnTrail_12 : decode cX12_isOnTrail 12 = .ok (.iaload, 1) := by decide +kernel
theorem dX12_isOnTrail_13 : decode cX12_isOnTrail 13 = .ok (.iload_n 1, 1) := by decide +kernel
theorem dX12_isOnTrail_14 : decode cX12_isOnTrail 14 = .ok (.if_icmp .ne 5, 3) := by decide +kernel
theorem dX12_isOnTrail_17 : decode cX12_isOnTrail 17 = .ok (.iconst 1, 1) := by decide +kernel
theorem dX12_isOnTrail_18 : decode cX12_isOnTrail 18 = .ok (.ireturn, 1) := by decide +kernel
theorem dX12_isOnTrail_19 : decode cX12_isOnTrail 19 = .ok (.iinc 3 1, 3) := by decide +kernel
theorem dX12_isOnTrail_22 : decode cX12_isOnTrail 22 = .ok (.goto (-20), 3) := by decide +kernel
theorem dX12_isOnTrail_25 : decode cX12_isOnTrail 25 = .ok (.iconst 0, 1) := by decide +kernel
theorem dX12_isOnTrail_26 : decode cX12_isOnTrail 26 = .ok (.ireturn, 1) := by decide +kernel
