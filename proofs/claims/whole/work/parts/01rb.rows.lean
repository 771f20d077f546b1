theorem dX12_rest_24 : decode cX12_rest 24 = .ok (.sipush 999, 3) := by decide +kernel
theorem dX12_rest_27 : decode cX12_rest 27 = .ok (.invokestatic 142, 3) := by decide +kernel
theorem dX12_rest_30 : decode cX12_rest 30 = .ok (.ifCond .ne 5, 3) := by decide +kernel
theorem dX12_rest_33 : decode cX12_rest 33 = .ok (.iconst 0, 1) := by decide +kernel
theorem dX12_rest_34 : decode cX12_rest 34 = .ok (.ireturn, 1) := by decide +kernel
theorem dX12_rest_35 : decode cX12_rest 35 = .ok (.aload_n 0, 1) := by decide +kernel
theorem dX12_rest_36 : decode cX12_rest 36 = .ok (.getfield 64, 3) := by decide +kernel
theorem dX12_rest_39 : decode cX12_rest 39 = .ok (.iload_n 1, 1) := by decide +kernel
theorem dX12_rest_40 : decode cX12_rest 40 = .ok (.iload_n 2, 1) := by decide +kernel
theorem dX12_rest_41 : decode cX12_rest 41 = .ok (.iastore, 1) := by decide +kernel
theorem dX12_rest_42 : decode cX12_rest 42 = .ok (.aload_n 0, 1) := by decide +kernel
theorem dX12_rest_43 : decode cX12_rest 43 = .ok (.getfield 67, 3) := by decide +kernel
theorem dX12_rest_46 : decode cX12_rest 46 = .ok (.iload_n 1, 1) := by decide +kernel
theorem dX12_rest_47 : decode cX12_rest 47 = .ok (.iload_n 3, 1) := by decide +kernel
theorem dX12_rest_48 : decode cX12_rest 48 = .ok (.bastore, 1) := by decide +kernel
theorem dX12_rest_49 : decode cX12_rest 49 = .ok (.iconst 1, 1) := by decide +kernel
theorem dX12_rest_50 : decode cX12_rest 50 = .ok (.ireturn, 1) := by decide +kernel
theorem dX12_shape_0 : decode cX12_shape 0 = .ok (.iload_n 0, 1) := by decide +kernel
theorem dX12_shape_1 : decode cX12_shape 1 = .ok (.ifCond .ne 5, 3) := by decide +kernel
theorem dX12_shape_4 : decode cX12_shape 4 = .ok (.iconst 0, 1) := by decide +kernel
theorem dX12_shape_5 : decode cX12_shape 5 = .ok (.ireturn, 1) := by decide +kernel
theorem dX12_shape_6 : decode cX12_shape 6 = .ok (.iload_n 1, 1) := by decide +kernel
theorem dX12_shape_7 : decode cX12_shape 7 = .ok (.ifCond .eq 7, 3) := by decide +kernel
theorem dX12_shape_10 : decode cX12_shape 10 = .ok (.iload_n 2, 1) := by decide +kernel
theorem dX12_shape_11 : decode cX12_shape 11 = .ok (.ifCond .ne 7, 3) := by decide +kernel
theorem dX12_shape_14 : decode cX12_shape 14 = .ok (.ldc_w 260, 3) := by decide +kernel
theorem dX12_shape_17 : decode cX12_shape 17 = .ok (.ireturn, 1) := by decide +kernel
theorem dX12_shape_18 : decode cX12_shape 18 = .ok (.iload_n 1, 1) := by decide +kernel
theorem dX12_shape_19 : decode cX12_shape 19 = .ok (.iload_n 2, 1) := by decide +kernel
theorem dX12_shape_20 : decode cX12_shape 20 = .ok (.if_icmp .le 7, 3) := by decide +kernel
theorem dX12_shape_23 : decode cX12_shape 23 = .ok (.iload_n 1, 1) := by decide +kernel
theorem dX12_shape_24 : decode cX12_shape 24 = .ok (.goto 4, 3) := by decide +kernel
theorem dX12_shape_27 : decode cX12_shape 27 = .ok (.iload_n 2, 1) := by decide +kernel
theorem dX12_shape_28 : decode cX12_shape 28 = .ok (.sipush 1000, 3) := by decide +kernel
theorem dX12_shape_31 : decode cX12_shape 31 = .ok (.imul, 1) := by decide +kernel
theorem dX12_shape_32 : decode cX12_shape 32 = .ok (.iload_n 1, 1) := by decide +kernel
theorem dX12_shape_33 : decode cX12_shape 33 = .ok (.iload_n 2, 1) := by decide +kernel
theorem dX12_shape_34 : decode cX12_shape 34 = .ok (.if_icmp .le 7, 3) := by decide +kernel
theorem dX12_shape_37 : decode cX12_shape 37 = .ok (.iload_n 2, 1) := by decide +kernel
theorem dX12_shape_38 : decode cX12_shape 38 = .ok (.goto 4, 3) := by decide +kernel
theorem dX12_shape_41 : decode cX12_shape 41 = .ok (.iload_n 1, 1) := by decide +kernel
theorem dX12_shape_42 : decode cX12_shape 42 = .ok (.idiv, 1) := by decide +kernel
theorem dX12_shape_43 : decode cX12_shape 43 = .ok (.ireturn, 1) := by decide +kernel
theorem dX12_worst_0 : decode cX12_worst 0 = .ok (.iconst 0, 1) := by decide +kernel
theorem dX12_worst_1 : decode cX12_worst 1 = .ok (.istore_n 1, 1) := by decide +kernel
theorem dX12_worst_2 : decode cX12_worst 2 = .ok (.iconst 0, 1) := by decide +kernel
theorem dX12_worst_3 : decode cX12_worst 3 = .ok (.istore_n 2, 1) := by decide +kernel
theorem dX12_worst_4 : decode cX12_worst 4 = .ok (.iload_n 2, 1) := by decide +kernel
theorem dX12_worst_5 : decode cX12_worst 5 = .ok (.aload_n 0, 1) := by decide +kernel
theorem dX12_worst_6 : decode cX12_worst 6 = .ok (.getfield 261, 3) := by decide +kernel
theorem dX12_worst_9 : decode cX12_worst 9 = .ok (.if_icmp .ge 35, 3) := by decide +kernel
theorem dX12_worst_12 : decode cX12_worst 12 = .ok (.iload_n 1, 1) := by decide +kernel
theorem dX12_worst_13 : decode cX12_worst 13 = .ok (.aload_n 0, 1) := by decide +kernel
theorem dX12_worst_14 : decode cX12_worst 14 = .ok (.getfield 73, 3) := by decide +kernel
theorem dX12_worst_17 : decode cX12_worst 17 = .ok (.iload_n 2, 1) := by decide +kernel
theorem dX12_worst_18 : decode cX12_worst 18 = .ok (.iaload, 1) := by decide +kernel
theorem dX12_worst_19 : decode cX12_worst 19 = .ok (.aload_n 0, 1) := by decide +kernel
theorem dX12_worst_20 : decode cX12_worst 20 = .ok (.getfield 82, 3) := by decide +kernel
theorem dX12_worst_23 : decode cX12_worst 23 = .ok (.iload_n 2, 1) := by decide +kernel
theorem dX12_worst_24 : decode cX12_worst 24 = .ok (.iaload, 1) := by decide +kernel
theorem dX12_worst_25 : decode cX12_worst 25 = .ok (.aload_n 0, 1) := by decide +kernel
theorem dX12_worst_26 : decode cX12_worst 26 = .ok (.getfield 85, 3) := by decide +kernel
theorem dX12_worst_29 : decode cX12_worst 29 = .ok (.iload_n 2, 1) := by decide +kernel
theorem dX12_worst_30 : decode cX12_worst 30 = .ok (.iaload, 1) := by decide +kernel
theorem dX12_worst_31 : decode cX12_worst 31 = .ok (.invokestatic 264, 3) := by decide +kernel
theorem dX12_worst_34 : decode cX12_worst 34 = .ok (.invokestatic 268, 3) := by decide +kernel
theorem dX12_worst_37 : decode cX12_worst 37 = .ok (.istore_n 1, 1) := by decide +kernel
theorem dX12_worst_38 : decode cX12_worst 38 = .ok (.iinc 2 1, 3) := by decide +kernel
theorem dX12_worst_41 : decode cX12_worst 41 = .ok (.goto (-37), 3) := by decide +kernel
theorem dX12_worst_44 : decode cX12_worst 44 = .ok (.iload_n 1, 1) := by decide +kernel
theorem dX12_worst_45 : decode cX12_worst 45 = .ok (.ireturn, 1) := by decide +kernel
theorem dX12_sum_0 : decode cX12_sum 0 = .ok (.aload_n 0, 1) := by decide +kernel
theorem dX12_sum_1 : decode cX12_sum 1 = .ok (.getfield 91, 3) := by decide +kernel
theorem dX12_sum_4 : decode cX12_sum 4 = .ok (.iload_n 2, 1) := by decide +kernel
theorem dX12_sum_5 : decode cX12_sum 5 = .ok (.iaload, 1) := by decide +kernel
theorem dX12_sum_6 : decode cX12_sum 6 = .ok (.aload_n 0, 1) := by decide +kernel
theorem dX12_sum_7 : decode cX12_sum 7 = .ok (.getfield 91, 3) := by decide +kernel
theorem dX12_sum_10 : decode cX12_sum 10 = .ok (.iload_n 1, 1) := by decide +kernel
theorem dX12_sum_11 : decode cX12_sum 11 = .ok (.iaload, 1) := by decide +kernel
theorem dX12_sum_12 : decode cX12_sum 12 = .ok (.isub, 1) := by decide +kernel
theorem dX12_sum_13 : decode cX12_sum 13 = .ok (.ireturn, 1) := by decide +kernel
theorem dX12_parts_0 : decode cX12_parts 0 = .ok (.aload_n 0, 1) := by decide +kernel
theorem dX12_parts_1 : decode cX12_parts 1 = .ok (.iload_n 2, 1) := by decide +kernel
theorem dX12_parts_2 : decode cX12_parts 2 = .ok (.iload_n 3, 1) := by decide +kernel
theorem dX12_parts_3 : decode cX12_parts 3 = .ok (.invokevirtual 273, 3) := by decide +kernel
theorem dX12_parts_6 : decode cX12_parts 6 = .ok (.istore 4, 2) := by decide +kernel
theorem dX12_parts_8 : decode cX12_parts 8 = .ok (.iload_n 2, 1) := by decide +kernel
theorem dX12_parts_9 : decode cX12_parts 9 = .ok (.istore 5, 2) := by decide +kernel
theorem dX12_parts_11 : decode cX12_parts 11 = .ok (.iload 5, 2) := by decide +kernel
theorem dX12_parts_13 : decode cX12_parts 13 = .ok (.iload_n 3, 1) := by decide +kernel
theorem dX12_parts_14 : decode cX12_parts 14 = .ok (.if_icmp .ge 41, 3) := by decide +kernel
theorem dX12_parts_17 : decode cX12_parts 17 = .ok (.aload_n 0, 1) := by decide +kernel
theorem dX12_parts_18 : decode cX12_parts 18 = .ok (.getfield 88, 3) := by decide +kernel
theorem dX12_parts_21 : decode cX12_parts 21 = .ok (.iload 5, 2) := by decide +kernel
theorem dX12_parts_23 : decode cX12_parts 23 = .ok (.iload 4, 2) := by decide +kernel
theorem dX12_parts_25 : decode cX12_parts 25 = .ok (.ifCond .ne 7, 3) := by decide +kernel
theorem dX12_parts_28 : decode cX12_parts 28 = .ok (.iconst 0, 1) := by decide +kernel
theorem dX12_parts_29 : decode cX12_parts 29 = .ok (.goto 19, 3) := by decide +kernel
theorem dX12_parts_32 : decode cX12_parts 32 = .ok (.iload_n 1, 1) := by decide +kernel
theorem dX12_parts_33 : decode cX12_parts 33 = .ok (.i2l, 1) := by decide +kernel
theorem dX12_parts_34 : decode cX12_parts 34 = .ok (.aload_n 0, 1) := by decide +kernel
theorem dX12_parts_35 : decode cX12_parts 35 = .ok (.iload_n 2, 1) := by decide +kernel
theorem dX12_parts_36 : decode cX12_parts 36 = .ok (.iload 5, 2) := by decide +kernel
theorem dX12_parts_38 : decode cX12_parts 38 = .ok (.invokevirtual 273, 3) := by decide +kernel
theorem dX12_parts_41 : decode cX12_parts 41 = .ok (.i2l, 1) := by decide +kernel
theorem dX12_parts_42 : decode cX12_parts 42 = .ok (.lmul, 1) := by decide +kernel
theorem dX12_parts_43 : decode cX12_parts 43 = .ok (.iload 4, 2) := by decide +kernel
theorem dX12_parts_45 : decode cX12_parts 45 = .ok (.i2l, 1) := by decide +kernel
theorem dX12_parts_46 : decode cX12_parts 46 = .ok (.ldiv, 1) := by decide +kernel
theorem dX12_parts_47 : decode cX12_parts 47 = .ok (.l2i, 1) := by decide +kernel
theorem dX12_parts_48 : decode cX12_parts 48 = .ok (.iastore, 1) := by decide +kernel
theorem dX12_parts_49 : decode cX12_parts 49 = .ok (.iinc 5 1, 3) := by decide +kernel
theorem dX12_parts_52 : decode cX12_parts 52 = .ok (.goto (-41), 3) := by decide +kernel
theorem dX12_parts_55 : decode cX12_parts 55 = .ok (.return_, 1) := by decide +kernel
theorem dX12_partEnd_0 : decode cX12_partEnd 0 = .ok (.iload_n 2, 1) := by decide +kernel
theorem dX12_partEnd_1 : decode cX12_partEnd 1 = .ok (.iconst 1, 1) := by decide +kernel
theorem dX12_partEnd_2 : decode cX12_partEnd 2 = .ok (.iadd, 1) := by decide +kernel
theorem dX12_partEnd_3 : decode cX12_partEnd 3 = .ok (.iload_n 3, 1) := by decide +kernel
theorem dX12_partEnd_4 : decode cX12_partEnd 4 = .ok (.if_icmp .ne 7, 3) := by decide +kernel
theorem dX12_partEnd_7 : decode cX12_partEnd 7 = .ok (.iload_n 1, 1) := by decide +kernel
theorem dX12_partEnd_8 : decode cX12_partEnd 8 = .ok (.goto 11, 3) := by decide +kernel
theorem dX12_partEnd_11 : decode cX12_partEnd 11 = .ok (.aload_n 0, 1) := by decide +kernel
theorem dX12_partEnd_12 : decode cX12_partEnd 12 = .ok (.getfield 88, 3) := by decide +kernel
theorem dX12_partEnd_15 : decode cX12_partEnd 15 = .ok (.iload_n 2, 1) := by decide +kernel
theorem dX12_partEnd_16 : decode cX12_partEnd 16 = .ok (.iconst 1, 1) := by decide +kernel
theorem dX12_partEnd_17 : decode cX12_partEnd 17 = .ok (.iadd, 1) := by decide +kernel
theorem dX12_partEnd_18 : decode cX12_partEnd 18 = .ok (.iaload, 1) := by decide +kernel
theorem dX12_partEnd_19 : decode cX12_partEnd 19 = .ok (.ireturn, 1) := by decide +kernel
theorem dX12_laysNothing_0 : decode cX12_laysNothing 0 = .ok (.iconst 0, 1) := by decide +kernel
theorem dX12_laysNothing_1 : decode cX12_laysNothing 1 = .ok (.istore_n 3, 1) := by decide +kernel
theorem dX12_laysNothing_2 : decode cX12_laysNothing 2 = .ok (.iload_n 3, 1) := by decide +kernel
theorem dX12_laysNothing_3 : decode cX12_laysNothing 3 = .ok (.aload_n 0, 1) := by decide +kernel
theorem dX12_laysNothing_4 : decode cX12_laysNothing 4 = .ok (.getfield 261, 3) := by decide +kernel
theorem dX12_laysNothing_7 : decode cX12_laysNothing 7 = .ok (.if_icmp .ge 37, 3) := by decide +kernel
theorem dX12_laysNothing_10 : decode cX12_laysNothing 10 = .ok (.aload_n 0, 1) := by decide +kernel
theorem dX12_laysNothing_11 : decode cX12_laysNothing 11 = .ok (.getfield 76, 3) := by decide +kernel
theorem dX12_laysNothing_14 : decode cX12_laysNothing 14 = .ok (.iload_n 3, 1) := by decide +kernel
theorem dX12_laysNothing_15 : decode cX12_laysNothing 15 = .ok (.iload_n 1, 1) := by decide +kernel
theorem dX12_laysNothing_16 : decode cX12_laysNothing 16 = .ok (.iastore, 1) := by decide +kernel
theorem dX12_laysNothing_17 : decode cX12_laysNothing 17 = .ok (.aload_n 0, 1) := by decide +kernel
theorem dX12_laysNothing_18 : decode cX12_laysNothing 18 = .ok (.getfield 79, 3) := by decide +kernel
theorem dX12_laysNothing_21 : decode cX12_laysNothing 21 = .ok (.iload_n 3, 1) := by decide +kernel
theorem dX12_laysNothing_22 : decode cX12_laysNothing 22 = .ok (.iload_n 2, 1) := by decide +kernel
theorem dX12_laysNothing_23 : decode cX12_laysNothing 23 = .ok (.iastore, 1) := by decide +kernel
theorem dX12_laysNothing_24 : decode cX12_laysNothing 24 = .ok (.aload_n 0, 1) := by decide +kernel
theorem dX12_laysNothing_25 : decode cX12_laysNothing 25 = .ok (.getfield 82, 3) := by decide +kernel
theorem dX12_laysNothing_28 : decode cX12_laysNothing 28 = .ok (.iload_n 3, 1) := by decide +kernel
theorem dX12_laysNothing_29 : decode cX12_laysNothing 29 = .ok (.iconst 0, 1) := by decide +kernel
theorem dX12_laysNothing_30 : decode cX12_laysNothing 30 = .ok (.iastore, 1) := by decide +kernel
theorem dX12_laysNothing_31 : decode cX12_laysNothing 31 = .ok (.aload_n 0, 1) := by decide +kernel
theorem dX12_laysNothing_32 : decode cX12_laysNothing 32 = .ok (.getfield 85, 3) := by decide +kernel
theorem dX12_laysNothing_35 : decode cX12_laysNothing 35 = .ok (.iload_n 3, 1) := by decide +kernel
theorem dX12_laysNothing_36 : decode cX12_laysNothing 36 = .ok (.iconst 0, 1) := by decide +kernel
theorem dX12_laysNothing_37 : decode cX12_laysNothing 37 = .ok (.iastore, 1) := by decide +kernel
theorem dX12_laysNothing_38 : decode cX12_laysNothing 38 = .ok (.iinc 3 1, 3) := by decide +kernel
theorem dX12_laysNothing_41 : decode cX12_laysNothing 41 = .ok (.goto (-39), 3) := by decide +kernel
theorem dX12_laysNothing_44 : decode cX12_laysNothing 44 = .ok (.return_, 1) := by decide +kernel
theorem dX12_laysSlice_0 : decode cX12_laysSlice 0 = .ok (.iload_n 3, 1) := by decide +kernel
theorem dX12_laysSlice_1 : decode cX12_laysSlice 1 = .ok (.iload 4, 2) := by decide +kernel
theorem dX12_laysSlice_3 : decode cX12_laysSlice 3 = .ok (.if_icmp .lt 7, 3) := by decide +kernel
theorem dX12_laysSlice_6 : decode cX12_laysSlice 6 = .ok (.iconst 1, 1) := by decide +kernel
theorem dX12_laysSlice_7 : decode cX12_laysSlice 7 = .ok (.goto 4, 3) := by decide +kernel
theorem dX12_laysSlice_10 : decode cX12_laysSlice 10 = .ok (.iconst 0, 1) := by decide +kernel
theorem dX12_laysSlice_11 : decode cX12_laysSlice 11 = .ok (.istore 5, 2) := by decide +kernel
theorem dX12_laysSlice_13 : decode cX12_laysSlice 13 = .ok (.iload 5, 2) := by decide +kernel
theorem dX12_laysSlice_15 : decode cX12_laysSlice 15 = .ok (.ifCond .eq 7, 3) := by decide +kernel
theorem dX12_laysSlice_18 : decode cX12_laysSlice 18 = .ok (.iload_n 3, 1) := by decide +kernel
theorem dX12_laysSlice_19 : decode cX12_laysSlice 19 = .ok (.goto 5, 3) := by decide +kernel
theorem dX12_laysSlice_22 : decode cX12_laysSlice 22 = .ok (.iload 4, 2) := by decide +kernel
theorem dX12_laysSlice_24 : decode cX12_laysSlice 24 = .ok (.istore 6, 2) := by decide +kernel
theorem dX12_laysSlice_26 : decode cX12_laysSlice 26 = .ok (.aload_n 0, 1) := by decide +kernel
theorem dX12_laysSlice_27 : decode cX12_laysSlice 27 = .ok (.iload 6, 2) := by decide +kernel
theorem dX12_laysSlice_29 : decode cX12_laysSlice 29 = .ok (.iconst 0, 1) := by decide +kernel
theorem dX12_laysSlice_30 : decode cX12_laysSlice 30 = .ok (.aload_n 0, 1) := by decide +kernel
theorem dX12_laysSlice_31 : decode cX12_laysSlice 31 = .ok (.getfield 261, 3) := by decide +kernel
theorem dX12_laysSlice_34 : decode cX12_laysSlice 34 = .ok (.invokevirtual 276, 3) := by decide +kernel
theorem dX12_laysSlice_37 : decode cX12_laysSlice 37 = .ok (.iconst 0, 1) := by decide +kernel
theorem dX12_laysSlice_38 : decode cX12_laysSlice 38 = .ok (.istore 7, 2) := by decide +kernel
theorem dX12_laysSlice_40 : decode cX12_laysSlice 40 = .ok (.iload 7, 2) := by decide +kernel
theorem dX12_laysSlice_42 : decode cX12_laysSlice 42 = .ok (.aload_n 0, 1) := by decide +kernel
theorem dX12_laysSlice_43 : decode cX12_laysSlice 43 = .ok (.getfield 261, 3) := by decide +kernel
theorem dX12_laysSlice_46 : decode cX12_laysSlice 46 = .ok (.if_icmp .ge 118, 3) := by decide +kernel
theorem dX12_laysSlice_49 : decode cX12_laysSlice 49 = .ok (.aload_n 0, 1) := by decide +kernel
theorem dX12_laysSlice_50 : decode cX12_laysSlice 50 = .ok (.iload 6, 2) := by decide +kernel
theorem dX12_laysSlice_52 : decode cX12_laysSlice 52 = .ok (.iload 7, 2) := by decide +kernel
theorem dX12_laysSlice_54 : decode cX12_laysSlice 54 = .ok (.aload_n 0, 1) := by decide +kernel
theorem dX12_laysSlice_55 : decode cX12_laysSlice 55 = .ok (.getfield 261, 3) := by decide +kernel
theorem dX12_laysSlice_58 : decode cX12_laysSlice 58 = .ok (.invokevirtual 280, 3) := by decide +kernel
theorem dX12_laysSlice_61 : decode cX12_laysSlice 61 = .ok (.aload_n 0, 1) := by decide +kernel
theorem dX12_laysSlice_62 : decode cX12_laysSlice 62 = .ok (.getfield 88, 3) := by decide +kernel
theorem dX12_laysSlice_65 : decode cX12_laysSlice 65 = .ok (.iload 7, 2) := by decide +kernel
theorem dX12_laysSlice_67 : decode cX12_laysSlice 67 = .ok (.iaload, 1) := by decide +kernel
theorem dX12_laysSlice_68 : decode cX12_laysSlice 68 = .ok (.isub, 1) := by decide +kernel
theorem dX12_laysSlice_69 : decode cX12_laysSlice 69 = .ok (.istore 8, 2) := by decide +kernel
theorem dX12_laysSlice_71 : decode cX12_laysSlice 71 = .ok (.aload_n 0, 1) := by decide +kernel
theorem dX12_laysSlice_72 : decode cX12_laysSlice 72 = .ok (.getfield 76, 3) := by decide +kernel
theorem dX12_laysSlice_75 : decode cX12_laysSlice 75 = .ok (.iload 7, 2) := by decide +kernel
theorem dX12_laysSlice_77 : decode cX12_laysSlice 77 = .ok (.iload 5, 2) := by decide +kernel
theorem dX12_laysSlice_79 : decode cX12_laysSlice 79 = .ok (.ifCond .eq 15, 3) := by decide +kernel
theorem dX12_laysSlice_82 : decode cX12_laysSlice 82 = .ok (.iload_n 1, 1) := by decide +kernel
theorem dX12_laysSlice_83 : decode cX12_laysSlice 83 = .ok (.aload_n 0, 1) := by decide +kernel
theorem dX12_laysSlice_84 : decode cX12_laysSlice 84 = .ok (.getfield 88, 3) := by decide +kernel
theorem dX12_laysSlice_87 : decode cX12_laysSlice 87 = .ok (.iload 7, 2) := by decide +kernel
theorem dX12_laysSlice_89 : decode cX12_laysSlice 89 = .ok (.iaload, 1) := by decide +kernel
theorem dX12_laysSlice_90 : decode cX12_laysSlice 90 = .ok (.iadd, 1) := by decide +kernel
theorem dX12_laysSlice_91 : decode cX12_laysSlice 91 = .ok (.goto 4, 3) := by decide +kernel
theorem dX12_laysSlice_94 : decode cX12_laysSlice 94 = .ok (.iload_n 1, 1) := by decide +kernel
theorem dX12_laysSlice_95 : decode cX12_laysSlice 95 = .ok (.iastore, 1) := by decide +kernel
theorem dX12_laysSlice_96 : decode cX12_laysSlice 96 = .ok (.aload_n 0, 1) := by decide +kernel
theorem dX12_laysSlice_97 : decode cX12_laysSlice 97 = .ok (.getfield 79, 3) := by decide +kernel
theorem dX12_laysSlice_100 : decode cX12_laysSlice 100 = .ok (.iload 7, 2) := by decide +kernel
theorem dX12_laysSlice_102 : decode cX12_laysSlice 102 = .ok (.iload 5, 2) := by decide +kernel
theorem dX12_laysSlice_104 : decode cX12_laysSlice 104 = .ok (.ifCond .eq 7, 3) := by decide +kernel
theorem dX12_laysSlice_107 : decode cX12_laysSlice 107 = .ok (.iload_n 2, 1) := by decide +kernel
theorem dX12_laysSlice_108 : decode cX12_laysSlice 108 = .ok (.goto 12, 3) := by decide +kernel
theorem dX12_laysSlice_111 : decode cX12_laysSlice 111 = .ok (.iload_n 2, 1) := by decide +kernel
theorem dX12_laysSlice_112 : decode cX12_laysSlice 112 = .ok (.aload_n 0, 1) := by decide +kernel
theorem dX12_laysSlice_113 : decode cX12_laysSlice 113 = .ok (.getfield 88, 3) := by decide +kernel
theorem dX12_laysSlice_116 : decode cX12_laysSlice 116 = .ok (.iload 7, 2) := by decide +kernel
theorem dX12_laysSlice_118 : decode cX12_laysSlice 118 = .ok (.iaload, 1) := by decide +kernel
theorem dX12_laysSlice_119 : decode cX12_laysSlice 119 = .ok (.iadd, 1) := by decide +kernel
theorem dX12_laysSlice_120 : decode cX12_laysSlice 120 = .ok (.iastore, 1) := by decide +kernel
theorem dX12_laysSlice_121 : decode cX12_laysSlice 121 = .ok (.aload_n 0, 1) := by decide +kernel
theorem dX12_laysSlice_122 : decode cX12_laysSlice 122 = .ok (.getfield 82, 3) := by decide +kernel
theorem dX12_laysSlice_125 : decode cX12_laysSlice 125 = .ok (.iload 7, 2) := by decide +kernel
theorem dX12_laysSlice_127 : decode cX12_laysSlice 127 = .ok (.iload 5, 2) := by decide +kernel
theorem dX12_laysSlice_129 : decode cX12_laysSlice 129 = .ok (.ifCond .eq 8, 3) := by decide +kernel
theorem dX12_laysSlice_132 : decode cX12_laysSlice 132 = .ok (.iload 8, 2) := by decide +kernel
theorem dX12_laysSlice_134 : decode cX12_laysSlice 134 = .ok (.goto 4, 3) := by decide +kernel
theorem dX12_laysSlice_137 : decode cX12_laysSlice 137 = .ok (.iload_n 3, 1) := by decide +kernel
theorem dX12_laysSlice_138 : decode cX12_laysSlice 138 = .ok (.iastore, 1) := by decide +kernel
theorem dX12_laysSlice_139 : decode cX12_laysSlice 139 = .ok (.aload_n 0, 1) := by decide +kernel
theorem dX12_laysSlice_140 : decode cX12_laysSlice 140 = .ok (.getfield 85, 3) := by decide +kernel
theorem dX12_laysSlice_143 : decode cX12_laysSlice 143 = .ok (.iload 7, 2) := by decide +kernel
theorem dX12_laysSlice_145 : decode cX12_laysSlice 145 = .ok (.iload 5, 2) := by decide +kernel
theorem dX12_laysSlice_147 : decode cX12_laysSlice 147 = .ok (.ifCond .eq 8, 3) := by decide +kernel
theorem dX12_laysSlice_150 : decode cX12_laysSlice 150 = .ok (.iload 4, 2) := by decide +kernel
theorem dX12_laysSlice_152 : decode cX12_laysSlice 152 = .ok (.goto 5, 3) := by decide +kernel
theorem dX12_laysSlice_155 : decode cX12_laysSlice 155 = .ok (.iload 8, 2) := by decide +kernel
theorem dX12_laysSlice_157 : decode cX12_laysSlice 157 = .ok (.iastore, 1) := by decide +kernel
theorem dX12_laysSlice_158 : decode cX12_laysSlice 158 = .ok (.iinc 7 1, 3) := by decide +kernel
theorem dX12_laysSlice_161 : decode cX12_laysSlice 161 = .ok (.goto (-121), 3) := by decide +kernel
theorem dX12_laysSlice_164 : decode cX12_laysSlice 164 = .ok (.return_, 1) := by decide +kernel
theorem dX12_laysRows_0 : decode cX12_laysRows 0 = .ok (.aload_n 0, 1) := by decide +kernel
theorem dX12_laysRows_1 : decode cX12_laysRows 1 = .ok (.iload 5, 2) := by decide +kernel
theorem dX12_laysRows_3 : decode cX12_laysRows 3 = .ok (.iconst 0, 1) := by decide +kernel
theorem dX12_laysRows_4 : decode cX12_laysRows 4 = .ok (.aload_n 0, 1) := by decide +kernel
theorem dX12_laysRows_5 : decode cX12_laysRows 5 = .ok (.getfield 261, 3) := by decide +kernel
theorem dX12_laysRows_8 : decode cX12_laysRows 8 = .ok (.invokevirtual 276, 3) := by decide +kernel
theorem dX12_laysRows_11 : decode cX12_laysRows 11 = .ok (.iconst 0, 1) := by decide +kernel
theorem dX12_laysRows_12 : decode cX12_laysRows 12 = .ok (.istore 6, 2) := by decide +kernel
theorem dX12_laysRows_14 : decode cX12_laysRows 14 = .ok (.iload 6, 2) := by decide +kernel
theorem dX12_laysRows_16 : decode cX12_laysRows 16 = .ok (.aload_n 0, 1) := by decide +kernel
theorem dX12_laysRows_17 : decode cX12_laysRows 17 = .ok (.getfield 261, 3) := by decide +kernel
theorem dX12_laysRows_20 : decode cX12_laysRows 20 = .ok (.if_icmp .ge 23, 3) := by decide +kernel
theorem dX12_laysRows_23 : decode cX12_laysRows 23 = .ok (.aload_n 0, 1) := by decide +kernel
theorem dX12_laysRows_24 : decode cX12_laysRows 24 = .ok (.getfield 94, 3) := by decide +kernel
theorem dX12_laysRows_27 : decode cX12_laysRows 27 = .ok (.iload 6, 2) := by decide +kernel
theorem dX12_laysRows_29 : decode cX12_laysRows 29 = .ok (.aload_n 0, 1) := by decide +kernel
theorem dX12_laysRows_30 : decode cX12_laysRows 30 = .ok (.getfield 88, 3) := by decide +kernel
theorem dX12_laysRows_33 : decode cX12_laysRows 33 = .ok (.iload 6, 2) := by decide +kernel
theorem dX12_laysRows_35 : decode cX12_laysRows 35 = .ok (.iaload, 1) := by decide +kernel
theorem dX12_laysRows_36 : decode cX12_laysRows 36 = .ok (.iastore, 1) := by decide +kernel
theorem dX12_laysRows_37 : decode cX12_laysRows 37 = .ok (.iinc 6 1, 3) := by decide +kernel
theorem dX12_laysRows_40 : decode cX12_laysRows 40 = .ok (.goto (-26), 3) := by decide +kernel
theorem dX12_laysRows_43 : decode cX12_laysRows 43 = .ok (.aload_n 0, 1) := by decide +kernel
theorem dX12_laysRows_44 : decode cX12_laysRows 44 = .ok (.getfield 94, 3) := by decide +kernel
theorem dX12_laysRows_47 : decode cX12_laysRows 47 = .ok (.aload_n 0, 1) := by decide +kernel
theorem dX12_laysRows_48 : decode cX12_laysRows 48 = .ok (.getfield 261, 3) := by decide +kernel
theorem dX12_laysRows_51 : decode cX12_laysRows 51 = .ok (.iload 5, 2) := by decide +kernel
theorem dX12_laysRows_53 : decode cX12_laysRows 53 = .ok (.iastore, 1) := by decide +kernel
theorem dX12_laysRows_54 : decode cX12_laysRows 54 = .ok (.iconst 0, 1) := by decide +kernel
theorem dX12_laysRows_55 : decode cX12_laysRows 55 = .ok (.istore 6, 2) := by decide +kernel
theorem dX12_laysRows_57 : decode cX12_laysRows 57 = .ok (.iload 6, 2) := by decide +kernel
theorem dX12_laysRows_59 : decode cX12_laysRows 59 = .ok (.aload_n 0, 1) := by decide +kernel
theorem dX12_laysRows_60 : decode cX12_laysRows 60 = .ok (.getfield 261, 3) := by decide +kernel
theorem dX12_laysRows_63 : decode cX12_laysRows 63 = .ok (.if_icmp .ge 148, 3) := by decide +kernel
theorem dX12_laysRows_66 : decode cX12_laysRows 66 = .ok (.iload 6, 2) := by decide +kernel
theorem dX12_laysRows_68 : decode cX12_laysRows 68 = .ok (.iconst 1, 1) := by decide +kernel
theorem dX12_laysRows_69 : decode cX12_laysRows 69 = .ok (.iadd, 1) := by decide +kernel
theorem dX12_laysRows_70 : decode cX12_laysRows 70 = .ok (.istore 7, 2) := by decide +kernel
theorem dX12_laysRows_72 : decode cX12_laysRows 72 = .ok (.iload 7, 2) := by decide +kernel
theorem dX12_laysRows_74 : decode cX12_laysRows 74 = .ok (.aload_n 0, 1) := by decide +kernel
theorem dX12_laysRows_75 : decode cX12_laysRows 75 = .ok (.getfield 261, 3) := by decide +kernel
theorem dX12_laysRows_78 : decode cX12_laysRows 78 = .ok (.if_icmp .ge 20, 3) := by decide +kernel
theorem dX12_laysRows_81 : decode cX12_laysRows 81 = .ok (.iload_n 1, 1) := by decide +kernel
theorem dX12_laysRows_82 : decode cX12_laysRows 82 = .ok (.iload 7, 2) := by decide +kernel
theorem dX12_laysRows_84 : decode cX12_laysRows 84 = .ok (.iconst 1, 1) := by decide +kernel
theorem dX12_laysRows_85 : decode cX12_laysRows 85 = .ok (.isub, 1) := by decide +kernel
theorem dX12_laysRows_86 : decode cX12_laysRows 86 = .ok (.ishr, 1) := by decide +kernel
theorem dX12_laysRows_87 : decode cX12_laysRows 87 = .ok (.iconst 1, 1) := by decide +kernel
theorem dX12_laysRows_88 : decode cX12_laysRows 88 = .ok (.iand, 1) := by decide +kernel
theorem dX12_laysRows_89 : decode cX12_laysRows 89 = .ok (.ifCond .ne 9, 3) := by decide +kernel
theorem dX12_laysRows_92 : decode cX12_laysRows 92 = .ok (.iinc 7 1, 3) := by decide +kernel
theorem dX12_laysRows_95 : decode cX12_laysRows 95 = .ok (.goto (-23), 3) := by decide +kernel
theorem dX12_laysRows_98 : decode cX12_laysRows 98 = .ok (.aload_n 0, 1) := by decide +kernel
theorem dX12_laysRows_99 : decode cX12_laysRows 99 = .ok (.iload 4, 2) := by decide +kernel
theorem dX12_laysRows_101 : decode cX12_laysRows 101 = .ok (.iload 6, 2) := by decide +kernel
theorem dX12_laysRows_103 : decode cX12_laysRows 103 = .ok (.iload 7, 2) := by decide +kernel
theorem dX12_laysRows_105 : decode cX12_laysRows 105 = .ok (.invokevirtual 276, 3) := by decide +kernel
theorem dX12_laysRows_108 : decode cX12_laysRows 108 = .ok (.iload 6, 2) := by decide +kernel
theorem dX12_laysRows_110 : decode cX12_laysRows 110 = .ok (.istore 8, 2) := by decide +kernel
theorem dX12_laysRows_112 : decode cX12_laysRows 112 = .ok (.iload 8, 2) := by decide +kernel
theorem dX12_laysRows_114 : decode cX12_laysRows 114 = .ok (.iload 7, 2) := by decide +kernel
theorem dX12_laysRows_116 : decode cX12_laysRows 116 = .ok (.if_icmp .ge 88, 3) := by decide +kernel
theorem dX12_laysRows_119 : decode cX12_laysRows 119 = .ok (.aload_n 0, 1) := by decide +kernel
theorem dX12_laysRows_120 : decode cX12_laysRows 120 = .ok (.getfield 76, 3) := by decide +kernel
theorem dX12_laysRows_123 : decode cX12_laysRows 123 = .ok (.iload 8, 2) := by decide +kernel
theorem dX12_laysRows_125 : decode cX12_laysRows 125 = .ok (.iload_n 2, 1) := by decide +kernel
theorem dX12_laysRows_126 : decode cX12_laysRows 126 = .ok (.aload_n 0, 1) := by decide +kernel
theorem dX12_laysRows_127 : decode cX12_laysRows 127 = .ok (.getfield 88, 3) := by decide +kernel
theorem dX12_laysRows_130 : decode cX12_laysRows 130 = .ok (.iload 8, 2) := by decide +kernel
theorem dX12_laysRows_132 : decode cX12_laysRows 132 = .ok (.iaload, 1) := by decide +kernel
theorem dX12_laysRows_133 : decode cX12_laysRows 133 = .ok (.iadd, 1) := by decide +kernel
theorem dX12_laysRows_134 : decode cX12_laysRows 134 = .ok (.iastore, 1) := by decide +kernel
theorem dX12_laysRows_135 : decode cX12_laysRows 135 = .ok (.aload_n 0, 1) := by decide +kernel
theorem dX12_laysRows_136 : decode cX12_laysRows 136 = .ok (.getfield 79, 3) := by decide +kernel
theorem dX12_laysRows_139 : decode cX12_laysRows 139 = .ok (.iload 8, 2) := by decide +kernel
theorem dX12_laysRows_141 : decode cX12_laysRows 141 = .ok (.iload_n 3, 1) := by decide +kernel
theorem dX12_laysRows_142 : decode cX12_laysRows 142 = .ok (.aload_n 0, 1) := by decide +kernel
theorem dX12_laysRows_143 : decode cX12_laysRows 143 = .ok (.getfield 94, 3) := by decide +kernel
theorem dX12_laysRows_146 : decode cX12_laysRows 146 = .ok (.iload 6, 2) := by decide +kernel
theorem dX12_laysRows_148 : decode cX12_laysRows 148 = .ok (.iaload, 1) := by decide +kernel
theorem dX12_laysRows_149 : decode cX12_laysRows 149 = .ok (.iadd, 1) := by decide +kernel
theorem dX12_laysRows_150 : decode cX12_laysRows 150 = .ok (.iastore, 1) := by decide +kernel
theorem dX12_laysRows_151 : decode cX12_laysRows 151 = .ok (.aload_n 0, 1) := by decide +kernel
theorem dX12_laysRows_152 : decode cX12_laysRows 152 = .ok (.getfield 82, 3) := by decide +kernel
theorem dX12_laysRows_155 : decode cX12_laysRows 155 = .ok (.iload 8, 2) := by decide +kernel
theorem dX12_laysRows_157 : decode cX12_laysRows 157 = .ok (.aload_n 0, 1) := by decide +kernel
theorem dX12_laysRows_158 : decode cX12_laysRows 158 = .ok (.iload 4, 2) := by decide +kernel
theorem dX12_laysRows_160 : decode cX12_laysRows 160 = .ok (.iload 8, 2) := by decide +kernel
theorem dX12_laysRows_162 : decode cX12_laysRows 162 = .ok (.iload 7, 2) := by decide +kernel
theorem dX12_laysRows_164 : decode cX12_laysRows 164 = .ok (.invokevirtual 280, 3) := by decide +kernel
theorem dX12_laysRows_167 : decode cX12_laysRows 167 = .ok (.aload_n 0, 1) := by decide +kernel
theorem dX12_laysRows_168 : decode cX12_laysRows 168 = .ok (.getfield 88, 3) := by decide +kernel
theorem dX12_laysRows_171 : decode cX12_laysRows 171 = .ok (.iload 8, 2) := by decide +kernel
theorem dX12_laysRows_173 : decode cX12_laysRows 173 = .ok (.iaload, 1) := by decide +kernel
theorem dX12_laysRows_174 : decode cX12_laysRows 174 = .ok (.isub, 1) := by decide +kernel
theorem dX12_laysRows_175 : decode cX12_laysRows 175 = .ok (.iastore, 1) := by decide +kernel
theorem dX12_laysRows_176 : decode cX12_laysRows 176 = .ok (.aload_n 0, 1) := by decide +kernel
theorem dX12_laysRows_177 : decode cX12_laysRows 177 = .ok (.getfield 85, 3) := by decide +kernel
theorem dX12_laysRows_180 : decode cX12_laysRows 180 = .ok (.iload 8, 2) := by decide +kernel
theorem dX12_laysRows_182 : decode cX12_laysRows 182 = .ok (.aload_n 0, 1) := by decide +kernel
theorem dX12_laysRows_183 : decode cX12_laysRows 183 = .ok (.getfield 94, 3) := by decide +kernel
theorem dX12_laysRows_186 : decode cX12_laysRows 186 = .ok (.iload 7, 2) := by decide +kernel
theorem dX12_laysRows_188 : decode cX12_laysRows 188 = .ok (.iaload, 1) := by decide +kernel
theorem dX12_laysRows_189 : decode cX12_laysRows 189 = .ok (.aload_n 0, 1) := by decide +kernel
theorem dX12_laysRows_190 : decode cX12_laysRows 190 = .ok (.getfield 94, 3) := by decide +kernel
theorem dX12_laysRows_193 : decode cX12_laysRows 193 = .ok (.iload 6, 2) := by decide +kernel
theorem dX12_laysRows_195 : decode cX12_laysRows 195 = .ok (.iaload, 1) := by decide +kernel
theorem dX12_laysRows_196 : decode cX12_laysRows 196 = .ok (.isub, 1) := by decide +kernel
theorem dX12_laysRows_197 : decode cX12_laysRows 197 = .ok (.iastore, 1) := by decide +kernel
theorem dX12_laysRows_198 : decode cX12_laysRows 198 = .ok (.iinc 8 1, 3) := by decide +kernel
theorem dX12_laysRows_201 : decode cX12_laysRows 201 = .ok (.goto (-89), 3) := by decide +kernel
theorem dX12_laysRows_204 : decode cX12_laysRows 204 = .ok (.iload 7, 2) := by decide +kernel
theorem dX12_laysRows_206 : decode cX12_laysRows 206 = .ok (.istore 6, 2) := by decide +kernel
theorem dX12_laysRows_208 : decode cX12_laysRows 208 = .ok (.goto (-151), 3) := by decide +kernel
theorem dX12_laysRows_211 : decode cX12_laysRows 211 = .ok (.return_, 1) := by decide +kernel
theorem dX12_isAhead_0 : decode cX12_isAhead 0 = .ok (.iload_n 1, 1) := by decide +kernel
theorem dX12_isAhead_1 : decode cX12_isAhead 1 = .ok (.invokestatic 283, 3) := by decide +kernel
theorem dX12_isAhead_4 : decode cX12_isAhead 4 = .ok (.iload_n 2, 1) := by decide +kernel
theorem dX12_isAhead_5 : decode cX12_isAhead 5 = .ok (.invokestatic 283, 3) := by decide +kernel
theorem dX12_isAhead_8 : decode cX12_isAhead 8 = .ok (.isub, 1) := by decide +kernel
theorem dX12_isAhead_9 : decode cX12_isAhead 9 = .ok (.istore_n 3, 1) := by decide +kernel
theorem dX12_isAhead_10 : decode cX12_isAhead 10 = .ok (.iload_n 3, 1) := by decide +kernel
theorem dX12_isAhead_11 : decode cX12_isAhead 11 = .ok (.ifCond .eq 13, 3) := by decide +kernel
theorem dX12_isAhead_14 : decode cX12_isAhead 14 = .ok (.iload_n 3, 1) := by decide +kernel
theorem dX12_isAhead_15 : decode cX12_isAhead 15 = .ok (.ifCond .ge 7, 3) := by decide +kernel
theorem dX12_isAhead_18 : decode cX12_isAhead 18 = .ok (.iconst 1, 1) := by decide +kernel
theorem dX12_isAhead_19 : decode cX12_isAhead 19 = .ok (.goto 4, 3) := by decide +kernel
theorem dX12_isAhead_22 : decode cX12_isAhead 22 = .ok (.iconst 0, 1) := by decide +kernel
theorem dX12_isAhead_23 : decode cX12_isAhead 23 = .ok (.ireturn, 1) := by decide +kernel
theorem dX12_isAhead_24 : decode cX12_isAhead 24 = .ok (.iconst 0, 1) := by decide +kernel
theorem dX12_isAhead_25 : decode cX12_isAhead 25 = .ok (.istore 4, 2) := by decide +kernel
theorem dX12_isAhead_27 : decode cX12_isAhead 27 = .ok (.iload 4, 2) := by decide +kernel
theorem dX12_isAhead_29 : decode cX12_isAhead 29 = .ok (.bipush 8, 2) := by decide +kernel
theorem dX12_isAhead_31 : decode cX12_isAhead 31 = .ok (.if_icmp .ge 24, 3) := by decide +kernel
theorem dX12_isAhead_34 : decode cX12_isAhead 34 = .ok (.iload_n 1, 1) := by decide +kernel
theorem dX12_isAhead_35 : decode cX12_isAhead 35 = .ok (.iload 4, 2) := by decide +kernel
theorem dX12_isAhead_37 : decode cX12_isAhead 37 = .ok (.ishr, 1) := by decide +kernel
theorem dX12_isAhead_38 : decode cX12_isAhead 38 = .ok (.iconst 1, 1) := by decide +kernel
theorem dX12_isAhead_39 : decode cX12_isAhead 39 = .ok (.iand, 1) := by decide +kernel
theorem dX12_isAhead_40 : decode cX12_isAhead 40 = .ok (.iload_n 2, 1) := by decide +kernel
theorem dX12_isAhead_41 : decode cX12_isAhead 41 = .ok (.iload 4, 2) := by decide +kernel
theorem dX12_isAhead_43 : decode cX12_isAhead 43 = .ok (.ishr, 1) := by decide +kernel
theorem dX12_isAhead_44 : decode cX12_isAhead 44 = .ok (.iconst 1, 1) := by decide +kernel
theorem dX12_isAhead_45 : decode cX12_isAhead 45 = .ok (.iand, 1) := by decide +kernel
theorem dX12_isAhead_46 : decode cX12_isAhead 46 = .ok (.if_icmp .ne 9, 3) := by decide +kernel
theorem dX12_isAhead_49 : decode cX12_isAhead 49 = .ok (.iinc 4 1, 3) := by decide +kernel
theorem dX12_isAhead_52 : decode cX12_isAhead 52 = .ok (.goto (-25), 3) := by decide +kernel
theorem dX12_isAhead_55 : decode cX12_isAhead 55 = .ok (.iload 4, 2) := by decide +kernel
theorem dX12_isAhead_57 : decode cX12_isAhead 57 = .ok (.bipush 8, 2) := by decide +kernel
theorem dX12_isAhead_59 : decode cX12_isAhead 59 = .ok (.if_icmp .ge 17, 3) := by decide +kernel
theorem dX12_isAhead_62 : decode cX12_isAhead 62 = .ok (.iload_n 2, 1) := by decide +kernel
theorem dX12_isAhead_63 : decode cX12_isAhead 63 = .ok (.iload 4, 2) := by decide +kernel
theorem dX12_isAhead_65 : decode cX12_isAhead 65 = .ok (.ishr, 1) := by decide +kernel
theorem dX12_isAhead_66 : decode cX12_isAhead 66 = .ok (.iconst 1, 1) := by decide +kernel
theorem dX12_isAhead_67 : decode cX12_isAhead 67 = .ok (.iand, 1) := by decide +kernel
theorem dX12_isAhead_68 : decode cX12_isAhead 68 = .ok (.iconst 1, 1) := by decide +kernel
theorem dX12_isAhead_69 : decode cX12_isAhead 69 = .ok (.if_icmp .ne 7, 3) := by decide +kernel
theorem dX12_isAhead_72 : decode cX12_isAhead 72 = .ok (.iconst 1, 1) := by decide +kernel
theorem dX12_isAhead_73 : decode cX12_isAhead 73 = .ok (.goto 4, 3) := by decide +kernel
theorem dX12_isAhead_76 : decode cX12_isAhead 76 = .ok (.iconst 0, 1) := by decide +kernel
theorem dX12_isAhead_77 : decode cX12_isAhead 77 = .ok (.ireturn, 1) := by decide +kernel
theorem dX12_breaks_0 : decode cX12_breaks 0 = .ok (.iconst (-1), 1) := by decide +kernel
theorem dX12_breaks_1 : decode cX12_breaks 1 = .ok (.istore 5, 2) := by decide +kernel
theorem dX12_breaks_3 : decode cX12_breaks 3 = .ok (.iconst 0, 1) := by decide +kernel
theorem dX12_breaks_4 : decode cX12_breaks 4 = .ok (.istore 6, 2) := by decide +kernel
theorem dX12_breaks_6 : decode cX12_breaks 6 = .ok (.iconst 0, 1) := by decide +kernel
theorem dX12_breaks_7 : decode cX12_breaks 7 = .ok (.istore 7, 2) := by decide +kernel
theorem dX12_breaks_9 : decode cX12_breaks 9 = .ok (.iload 7, 2) := by decide +kernel
theorem dX12_breaks_11 : decode cX12_breaks 11 = .ok (.iconst 1, 1) := by decide +kernel
theorem dX12_breaks_12 : decode cX12_breaks 12 = .ok (.aload_n 0, 1) := by decide +kernel
theorem dX12_breaks_13 : decode cX12_breaks 13 = .ok (.getfield 261, 3) := by decide +kernel
theorem dX12_breaks_16 : decode cX12_breaks 16 = .ok (.iconst 1, 1) := by decide +kernel
theorem dX12_breaks_17 : decode cX12_breaks 17 = .ok (.isub, 1) := by decide +kernel
theorem dX12_breaks_18 : decode cX12_breaks 18 = .ok (.ishl, 1) := by decide +kernel
theorem dX12_breaks_19 : decode cX12_breaks 19 = .ok (.if_icmp .ge 65, 3) := by decide +kernel
theorem dX12_breaks_22 : decode cX12_breaks 22 = .ok (.aload_n 0, 1) := by decide +kernel
theorem dX12_breaks_23 : decode cX12_breaks 23 = .ok (.iload 7, 2) := by decide +kernel
theorem dX12_breaks_25 : decode cX12_breaks 25 = .ok (.iload_n 1, 1) := by decide +kernel
theorem dX12_breaks_26 : decode cX12_breaks 26 = .ok (.iload_n 2, 1) := by decide +kernel
theorem dX12_breaks_27 : decode cX12_breaks 27 = .ok (.iload_n 3, 1) := by decide +kernel
theorem dX12_breaks_28 : decode cX12_breaks 28 = .ok (.iload 4, 2) := by decide +kernel
theorem dX12_breaks_30 : decode cX12_breaks 30 = .ok (.invokevirtual 288, 3) := by decide +kernel
theorem dX12_breaks_33 : decode cX12_breaks 33 = .ok (.aload_n 0, 1) := by decide +kernel
theorem dX12_breaks_34 : decode cX12_breaks 34 = .ok (.invokevirtual 292, 3) := by decide +kernel
theorem dX12_breaks_37 : decode cX12_breaks 37 = .ok (.istore 8, 2) := by decide +kernel
theorem dX12_breaks_39 : decode cX12_breaks 39 = .ok (.iload 5, 2) := by decide +kernel
theorem dX12_breaks_41 : decode cX12_breaks 41 = .ok (.iconst (-1), 1) := by decide +kernel
theorem dX12_breaks_42 : decode cX12_breaks 42 = .ok (.if_icmp .eq 28, 3) := by decide +kernel
theorem dX12_breaks_45 : decode cX12_breaks 45 = .ok (.iload 8, 2) := by decide +kernel
theorem dX12_breaks_47 : decode cX12_breaks 47 = .ok (.iload 6, 2) := by decide +kernel
theorem dX12_breaks_49 : decode cX12_breaks 49 = .ok (.if_icmp .lt 21, 3) := by decide +kernel
theorem dX12_breaks_52 : decode cX12_breaks 52 = .ok (.iload 8, 2) := by decide +kernel
theorem dX12_breaks_54 : decode cX12_breaks 54 = .ok (.iload 6, 2) := by decide +kernel
theorem dX12_breaks_56 : decode cX12_breaks 56 = .ok (.if_icmp .ne 22, 3) := by decide +kernel
theorem dX12_breaks_59 : decode cX12_breaks 59 = .ok (.aload_n 0, 1) := by decide +kernel
theorem dX12_breaks_60 : decode cX12_breaks 60 = .ok (.iload 7, 2) := by decide +kernel
theorem dX12_breaks_62 : decode cX12_breaks 62 = .ok (.iload 5, 2) := by decide +kernel
theorem dX12_breaks_64 : decode cX12_breaks 64 = .ok (.invokevirtual 295, 3) := by decide +kernel
theorem dX12_breaks_67 : decode cX12_breaks 67 = .ok (.ifCond .eq 11, 3) := by decide +kernel
theorem dX12_breaks_70 : decode cX12_breaks 70 = .ok (.iload 7, 2) := by decide +kernel
theorem dX12_breaks_72 : decode cX12_breaks 72 = .ok (.istore 5, 2) := by decide +kernel
theorem dX12_breaks_74 : decode cX12_breaks 74 = .ok (.iload 8, 2) := by decide +kernel
theorem dX12_breaks_76 : decode cX12_breaks 76 = .ok (.istore 6, 2) := by decide +kernel
theorem dX12_breaks_78 : decode cX12_breaks 78 = .ok (.iinc 7 1, 3) := by decide +kernel
theorem dX12_breaks_81 : decode cX12_breaks 81 = .ok (.goto (-72), 3) := by decide +kernel
theorem dX12_breaks_84 : decode cX12_breaks 84 = .ok (.iload 5, 2) := by decide +kernel
theorem dX12_breaks_86 : decode cX12_breaks 86 = .ok (.ireturn, 1) := by decide +kernel
theorem dX12_firstPart_0 : decode cX12_firstPart 0 = .ok (.aload_n 0, 1) := by decide +kernel
theorem dX12_firstPart_1 : decode cX12_firstPart 1 = .ok (.iload_n 2, 1) := by decide +kernel
theorem dX12_firstPart_2 : decode cX12_firstPart 2 = .ok (.iload 4, 2) := by decide +kernel
theorem dX12_firstPart_4 : decode cX12_firstPart 4 = .ok (.invokevirtual 273, 3) := by decide +kernel
theorem dX12_firstPart_7 : decode cX12_firstPart 7 = .ok (.istore 5, 2) := by decide +kernel
theorem dX12_firstPart_9 : decode cX12_firstPart 9 = .ok (.iload 5, 2) := by decide +kernel
theorem dX12_firstPart_11 : decode cX12_firstPart 11 = .ok (.ifCond .ne 7, 3) := by decide +kernel
theorem dX12_firstPart_14 : decode cX12_firstPart 14 = .ok (.iconst 0, 1) := by decide +kernel
theorem dX12_firstPart_15 : decode cX12_firstPart 15 = .ok (.goto 20, 3) := by decide +kernel
theorem dX12_firstPart_18 : decode cX12_firstPart 18 = .ok (.iload_n 1, 1) := by decide +kernel
theorem dX12_firstPart_19 : decode cX12_firstPart 19 = .ok (.i2l, 1) := by decide +kernel
theorem dX12_firstPart_20 : decode cX12_firstPart 20 = .ok (.aload_n 0, 1) := by decide +kernel
theorem dX12_firstPart_21 : decode cX12_firstPart 21 = .ok (.iload_n 2, 1) := by decide +kernel
theorem dX12_firstPart_22 : decode cX12_firstPart 22 = .ok (.iload_n 2, 1) := by decide +kernel
theorem dX12_firstPart_23 : decode cX12_firstPart 23 = .ok (.iload_n 3, 1) := by decide +kernel
theorem dX12_firstPart_24 : decode cX12_firstPart 24 = .ok (.iadd, 1) := by decide +kernel
theorem dX12_firstPart_25 : decode cX12_firstPart 25 = .ok (.invokevirtual 273, 3) := by decide +kernel
theorem dX12_firstPart_28 : decode cX12_firstPart 28 = .ok (.i2l, 1) := by decide +kernel
theorem dX12_firstPart_29 : decode cX12_firstPart 29 = .ok (.lmul, 1) := by decide +kernel
theorem dX12_firstPart_30 : decode cX12_firstPart 30 = .ok (.iload 5, 2) := by decide +kernel
theorem dX12_firstPart_32 : decode cX12_firstPart 32 = .ok (.i2l, 1) := by decide +kernel
theorem dX12_firstPart_33 : decode cX12_firstPart 33 = .ok (.ldiv, 1) := by decide +kernel
theorem dX12_firstPart_34 : decode cX12_firstPart 34 = .ok (.l2i, 1) := by decide +kernel
theorem dX12_firstPart_35 : decode cX12_firstPart 35 = .ok (.ireturn, 1) := by decide +kernel
theorem dX12_cutWorst_0 : decode cX12_cutWorst 0 = .ok (.iload_n 2, 1) := by decide +kernel
theorem dX12_cutWorst_1 : decode cX12_cutWorst 1 = .ok (.iload_n 1, 1) := by decide +kernel
theorem dX12_cutWorst_2 : decode cX12_cutWorst 2 = .ok (.isub, 1) := by decide +kernel
theorem dX12_cutWorst_3 : decode cX12_cutWorst 3 = .ok (.iconst 1, 1) := by decide +kernel
theorem dX12_cutWorst_4 : decode cX12_cutWorst 4 = .ok (.if_icmp .ne 16, 3) := by decide +kernel
theorem dX12_cutWorst_7 : decode cX12_cutWorst 7 = .ok (.aload_n 0, 1) := by decide +kernel
theorem dX12_cutWorst_8 : decode cX12_cutWorst 8 = .ok (.getfield 73, 3) := by decide +kernel
theorem dX12_cutWorst_11 : decode cX12_cutWorst 11 = .ok (.iload_n 1, 1) := by decide +kernel
theorem dX12_cutWorst_12 : decode cX12_cutWorst 12 = .ok (.iaload, 1) := by decide +kernel
theorem dX12_cutWorst_13 : decode cX12_cutWorst 13 = .ok (.iload_n 3, 1) := by decide +kernel
theorem dX12_cutWorst_14 : decode cX12_cutWorst 14 = .ok (.iload 4, 2) := by decide +kernel
theorem dX12_cutWorst_16 : decode cX12_cutWorst 16 = .ok (.invokestatic 264, 3) := by decide +kernel
theorem dX12_cutWorst_19 : decode cX12_cutWorst 19 = .ok (.ireturn, 1) := by decide +kernel
theorem dX12_cutWorst_20 : decode cX12_cutWorst 20 = .ok (.ldc_w 299, 3) := by decide +kernel
theorem dX12_cutWorst_23 : decode cX12_cutWorst 23 = .ok (.istore 5, 2) := by decide +kernel
theorem dX12_cutWorst_25 : decode cX12_cutWorst 25 = .ok (.iconst 1, 1) := by decide +kernel
theorem dX12_cutWorst_26 : decode cX12_cutWorst 26 = .ok (.istore 6, 2) := by decide +kernel
theorem dX12_cutWorst_28 : decode cX12_cutWorst 28 = .ok (.iload 6, 2) := by decide +kernel
theorem dX12_cutWorst_30 : decode cX12_cutWorst 30 = .ok (.iload_n 2, 1) := by decide +kernel
theorem dX12_cutWorst_31 : decode cX12_cutWorst 31 = .ok (.iload_n 1, 1) := by decide +kernel
theorem dX12_cutWorst_32 : decode cX12_cutWorst 32 = .ok (.isub, 1) := by decide +kernel
theorem dX12_cutWorst_33 : decode cX12_cutWorst 33 = .ok (.if_icmp .ge 44, 3) := by decide +kernel
theorem dX12_cutWorst_36 : decode cX12_cutWorst 36 = .ok (.iconst 0, 1) := by decide +kernel
theorem dX12_cutWorst_37 : decode cX12_cutWorst 37 = .ok (.istore 7, 2) := by decide +kernel
theorem dX12_cutWorst_39 : decode cX12_cutWorst 39 = .ok (.iload 7, 2) := by decide +kernel
theorem dX12_cutWorst_41 : decode cX12_cutWorst 41 = .ok (.iconst 2, 1) := by decide +kernel
theorem dX12_cutWorst_42 : decode cX12_cutWorst 42 = .ok (.if_icmp .ge 29, 3) := by decide +kernel
theorem dX12_cutWorst_45 : decode cX12_cutWorst 45 = .ok (.iload 5, 2) := by decide +kernel
theorem dX12_cutWorst_47 : decode cX12_cutWorst 47 = .ok (.aload_n 0, 1) := by decide +kernel
theorem dX12_cutWorst_48 : decode cX12_cutWorst 48 = .ok (.iload_n 1, 1) := by decide +kernel
theorem dX12_cutWorst_49 : decode cX12_cutWorst 49 = .ok (.iload_n 2, 1) := by decide +kernel
theorem dX12_cutWorst_50 : decode cX12_cutWorst 50 = .ok (.iload 6, 2) := by decide +kernel
theorem dX12_cutWorst_52 : decode cX12_cutWorst 52 = .ok (.iload 7, 2) := by decide +kernel
theorem dX12_cutWorst_54 : decode cX12_cutWorst 54 = .ok (.iload_n 3, 1) := by decide +kernel
theorem dX12_cutWorst_55 : decode cX12_cutWorst 55 = .ok (.iload 4, 2) := by decide +kernel
theorem dX12_cutWorst_57 : decode cX12_cutWorst 57 = .ok (.invokevirtual 300, 3) := by decide +kernel
theorem dX12_cutWorst_60 : decode cX12_cutWorst 60 = .ok (.invokestatic 304, 3) := by decide +kernel
theorem dX12_cutWorst_63 : decode cX12_cutWorst 63 = .ok (.istore 5, 2) := by decide +kernel
theorem dX12_cutWorst_65 : decode cX12_cutWorst 65 = .ok (.iinc 7 1, 3) := by decide +kernel
theorem dX12_cutWorst_68 : decode cX12_cutWorst 68 = .ok (.goto (-29), 3) := by decide +kernel
theorem dX12_cutWorst_71 : decode cX12_cutWorst 71 = .ok (.iinc 6 1, 3) := by decide +kernel
theorem dX12_cutWorst_74 : decode cX12_cutWorst 74 = .ok (.goto (-46), 3) := by decide +kernel
theorem dX12_cutWorst_77 : decode cX12_cutWorst 77 = .ok (.iload 5, 2) := by decide +kernel
theorem dX12_cutWorst_79 : decode cX12_cutWorst 79 = .ok (.ireturn, 1) := by decide +kernel
theorem dX12_cutBy_0 : decode cX12_cutBy 0 = .ok (.aload_n 0, 1) := by decide +kernel
theorem dX12_cutBy_1 : decode cX12_cutBy 1 = .ok (.iload 4, 2) := by decide +kernel
theorem dX12_cutBy_3 : decode cX12_cutBy 3 = .ok (.ifCond .ne 8, 3) := by decide +kernel
theorem dX12_cutBy_6 : decode cX12_cutBy 6 = .ok (.iload 5, 2) := by decide +kernel
theorem dX12_cutBy_8 : decode cX12_cutBy 8 = .ok (.goto 5, 3) := by decide +kernel
theorem dX12_cutBy_11 : decode cX12_cutBy 11 = .ok (.iload 6, 2) := by decide +kernel
theorem dX12_cutBy_13 : decode cX12_cutBy 13 = .ok (.iload_n 1, 1) := by decide +kernel
theorem dX12_cutBy_14 : decode cX12_cutBy 14 = .ok (.iload_n 3, 1) := by decide +kernel
theorem dX12_cutBy_15 : decode cX12_cutBy 15 = .ok (.iload_n 2, 1) := by decide +kernel
theorem dX12_cutBy_16 : decode cX12_cutBy 16 = .ok (.invokevirtual 307, 3) := by decide +kernel
theorem dX12_cutBy_19 : decode cX12_cutBy 19 = .ok (.istore 7, 2) := by decide +kernel
theorem dX12_cutBy_21 : decode cX12_cutBy 21 = .ok (.aload_n 0, 1) := by decide +kernel
theorem dX12_cutBy_22 : decode cX12_cutBy 22 = .ok (.iload_n 1, 1) := by decide +kernel
theorem dX12_cutBy_23 : decode cX12_cutBy 23 = .ok (.iload_n 1, 1) := by decide +kernel
theorem dX12_cutBy_24 : decode cX12_cutBy 24 = .ok (.iload_n 3, 1) := by decide +kernel
theorem dX12_cutBy_25 : decode cX12_cutBy 25 = .ok (.iadd, 1) := by decide +kernel
theorem dX12_cutBy_26 : decode cX12_cutBy 26 = .ok (.iload 4, 2) := by decide +kernel
theorem dX12_cutBy_28 : decode cX12_cutBy 28 = .ok (.ifCond .ne 8, 3) := by decide +kernel
theorem dX12_cutBy_31 : decode cX12_cutBy 31 = .ok (.iload 7, 2) := by decide +kernel
theorem dX12_cutBy_33 : decode cX12_cutBy 33 = .ok (.goto 5, 3) := by decide +kernel
theorem dX12_cutBy_36 : decode cX12_cutBy 36 = .ok (.iload 5, 2) := by decide +kernel
theorem dX12_cutBy_38 : decode cX12_cutBy 38 = .ok (.iload 4, 2) := by decide +kernel
theorem dX12_cutBy_40 : decode cX12_cutBy 40 = .ok (.ifCond .ne 8, 3) := by decide +kernel
theorem dX12_cutBy_43 : decode cX12_cutBy 43 = .ok (.iload 6, 2) := by decide +kernel
theorem dX12_cutBy_45 : decode cX12_cutBy 45 = .ok (.goto 5, 3) := by decide +kernel
theorem dX12_cutBy_48 : decode cX12_cutBy 48 = .ok (.iload 7, 2) := by decide +kernel
theorem dX12_cutBy_50 : decode cX12_cutBy 50 = .ok (.invokevirtual 311, 3) := by decide +kernel
theorem dX12_cutBy_53 : decode cX12_cutBy 53 = .ok (.istore 8, 2) := by decide +kernel
theorem dX12_cutBy_55 : decode cX12_cutBy 55 = .ok (.aload_n 0, 1) := by decide +kernel
theorem dX12_cutBy_56 : decode cX12_cutBy 56 = .ok (.iload_n 1, 1) := by decide +kernel
theorem dX12_cutBy_57 : decode cX12_cutBy 57 = .ok (.iload_n 3, 1) := by decide +kernel
theorem dX12_cutBy_58 : decode cX12_cutBy 58 = .ok (.iadd, 1) := by decide +kernel
theorem dX12_cutBy_59 : decode cX12_cutBy 59 = .ok (.iload_n 2, 1) := by decide +kernel
theorem dX12_cutBy_60 : decode cX12_cutBy 60 = .ok (.iload 4, 2) := by decide +kernel
theorem dX12_cutBy_62 : decode cX12_cutBy 62 = .ok (.ifCond .ne 11, 3) := by decide +kernel
theorem dX12_cutBy_65 : decode cX12_cutBy 65 = .ok (.iload 5, 2) := by decide +kernel
theorem dX12_cutBy_67 : decode cX12_cutBy 67 = .ok (.iload 7, 2) := by decide +kernel
theorem dX12_cutBy_69 : decode cX12_cutBy 69 = .ok (.isub, 1) := by decide +kernel
theorem dX12_cutBy_70 : decode cX12_cutBy 70 = .ok (.goto 5, 3) := by decide +kernel
theorem dX12_cutBy_73 : decode cX12_cutBy 73 = .ok (.iload 5, 2) := by decide +kernel
theorem dX12_cutBy_75 : decode cX12_cutBy 75 = .ok (.iload 4, 2) := by decide +kernel
theorem dX12_cutBy_77 : decode cX12_cutBy 77 = .ok (.ifCond .ne 8, 3) := by decide +kernel
theorem dX12_cutBy_80 : decode cX12_cutBy 80 = .ok (.iload 6, 2) := by decide +kernel
theorem dX12_cutBy_82 : decode cX12_cutBy 82 = .ok (.goto 8, 3) := by decide +kernel
theorem dX12_cutBy_85 : decode cX12_cutBy 85 = .ok (.iload 6, 2) := by decide +kernel
theorem dX12_cutBy_87 : decode cX12_cutBy 87 = .ok (.iload 7, 2) := by decide +kernel
theorem dX12_cutBy_89 : decode cX12_cutBy 89 = .ok (.isub, 1) := by decide +kernel
theorem dX12_cutBy_90 : decode cX12_cutBy 90 = .ok (.invokevirtual 311, 3) := by decide +kernel
theorem dX12_cutBy_93 : decode cX12_cutBy 93 = .ok (.istore 9, 2) := by decide +kernel
theorem dX12_cutBy_95 : decode cX12_cutBy 95 = .ok (.iload 8, 2) := by decide +kernel
theorem dX12_cutBy_97 : decode cX12_cutBy 97 = .ok (.iload 9, 2) := by decide +kernel
theorem dX12_cutBy_99 : decode cX12_cutBy 99 = .ok (.invokestatic 268, 3) := by decide +kernel
theorem dX12_cutBy_102 : decode cX12_cutBy 102 = .ok (.ireturn, 1) := by decide +kernel
theorem dX12_laysCuts_0 : decode cX12_laysCuts 0 = .ok (.iload_n 2, 1) := by decide +kernel
theorem dX12_laysCuts_1 : decode cX12_laysCuts 1 = .ok (.iload_n 1, 1) := by decide +kernel
theorem dX12_laysCuts_2 : decode cX12_laysCuts 2 = .ok (.isub, 1) := by decide +kernel
theorem dX12_laysCuts_3 : decode cX12_laysCuts 3 = .ok (.iconst 1, 1) := by decide +kernel
theorem dX12_laysCuts_4 : decode cX12_laysCuts 4 = .ok (.if_icmp .ne 35, 3) := by decide +kernel
theorem dX12_laysCuts_7 : decode cX12_laysCuts 7 = .ok (.aload_n 0, 1) := by decide +kernel
theorem dX12_laysCuts_8 : decode cX12_laysCuts 8 = .ok (.getfield 76, 3) := by decide +kernel
theorem dX12_laysCuts_11 : decode cX12_laysCuts 11 = .ok (.iload_n 1, 1) := by decide +kernel
theorem dX12_laysCuts_12 : decode cX12_laysCuts 12 = .ok (.iload_n 3, 1) := by decide +kernel
theorem dX12_laysCuts_13 : decode cX12_laysCuts 13 = .ok (.iastore, 1) := by decide +kernel
theorem dX12_laysCuts_14 : decode cX12_laysCuts 14 = .ok (.aload_n 0, 1) := by decide +kernel
theorem dX12_laysCuts_15 : decode cX12_laysCuts 15 = .ok (.getfield 79, 3) := by decide +kernel
theorem dX12_laysCuts_18 : decode cX12_laysCuts 18 = .ok (.iload_n 1, 1) := by decide +kernel
theorem dX12_laysCuts_19 : decode cX12_laysCuts 19 = .ok (.iload 4, 2) := by decide +kernel
theorem dX12_laysCuts_21 : decode cX12_laysCuts 21 = .ok (.iastore, 1) := by decide +kernel
theorem dX12_laysCuts_22 : decode cX12_laysCuts 22 = .ok (.aload_n 0, 1) := by decide +kernel
theorem dX12_laysCuts_23 : decode cX12_laysCuts 23 = .ok (.getfield 82, 3) := by decide +kernel
theorem dX12_laysCuts_26 : decode cX12_laysCuts 26 = .ok (.iload_n 1, 1) := by decide +kernel
theorem dX12_laysCuts_27 : decode cX12_laysCuts 27 = .ok (.iload 5, 2) := by decide +kernel
theorem dX12_laysCuts_29 : decode cX12_laysCuts 29 = .ok (.iastore, 1) := by decide +kernel
theorem dX12_laysCuts_30 : decode cX12_laysCuts 30 = .ok (.aload_n 0, 1) := by decide +kernel
theorem dX12_laysCuts_31 : decode cX12_laysCuts 31 = .ok (.getfield 85, 3) := by decide +kernel
theorem dX12_laysCuts_34 : decode cX12_laysCuts 34 = .ok (.iload_n 1, 1) := by decide +kernel
theorem dX12_laysCuts_35 : decode cX12_laysCuts 35 = .ok (.iload 6, 2) := by decide +kernel
theorem dX12_laysCuts_37 : decode cX12_laysCuts 37 = .ok (.iastore, 1) := by decide +kernel
theorem dX12_laysCuts_38 : decode cX12_laysCuts 38 = .ok (.return_, 1) := by decide +kernel
theorem dX12_laysCuts_39 : decode cX12_laysCuts 39 = .ok (.iconst (-1), 1) := by decide +kernel
theorem dX12_laysCuts_40 : decode cX12_laysCuts 40 = .ok (.istore 7, 2) := by decide +kernel
theorem dX12_laysCuts_42 : decode cX12_laysCuts 42 = .ok (.iconst 0, 1) := by decide +kernel
theorem dX12_laysCuts_43 : decode cX12_laysCuts 43 = .ok (.istore 8, 2) := by decide +kernel
theorem dX12_laysCuts_45 : decode cX12_laysCuts 45 = .ok (.iconst 2, 1) := by decide +kernel
theorem dX12_laysCuts_46 : decode cX12_laysCuts 46 = .ok (.istore 9, 2) := by decide +kernel
theorem dX12_laysCuts_48 : decode cX12_laysCuts 48 = .ok (.iload 9, 2) := by decide +kernel
theorem dX12_laysCuts_50 : decode cX12_laysCuts 50 = .ok (.iconst 2, 1) := by decide +kernel
theorem dX12_laysCuts_51 : decode cX12_laysCuts 51 = .ok (.iload_n 2, 1) := by decide +kernel
theorem dX12_laysCuts_52 : decode cX12_laysCuts 52 = .ok (.iload_n 1, 1) := by decide +kernel
theorem dX12_laysCuts_53 : decode cX12_laysCuts 53 = .ok (.isub, 1) := by decide +kernel
theorem dX12_laysCuts_54 : decode cX12_laysCuts 54 = .ok (.imul, 1) := by decide +kernel
theorem dX12_laysCuts_55 : decode cX12_laysCuts 55 = .ok (.if_icmp .ge 53, 3) := by decide +kernel
theorem dX12_laysCuts_58 : decode cX12_laysCuts 58 = .ok (.aload_n 0, 1) := by decide +kernel
theorem dX12_laysCuts_59 : decode cX12_laysCuts 59 = .ok (.iload_n 1, 1) := by decide +kernel
theorem dX12_laysCuts_60 : decode cX12_laysCuts 60 = .ok (.iload_n 2, 1) := by decide +kernel
theorem dX12_laysCuts_61 : decode cX12_laysCuts 61 = .ok (.iload 9, 2) := by decide +kernel
theorem dX12_laysCuts_63 : decode cX12_laysCuts 63 = .ok (.iconst 2, 1) := by decide +kernel
theorem dX12_laysCuts_64 : decode cX12_laysCuts 64 = .ok (.idiv, 1) := by decide +kernel
theorem dX12_laysCuts_65 : decode cX12_laysCuts 65 = .ok (.iload 9, 2) := by decide +kernel
theorem dX12_laysCuts_67 : decode cX12_laysCuts 67 = .ok (.iconst 2, 1) := by decide +kernel
theorem dX12_laysCuts_68 : decode cX12_laysCuts 68 = .ok (.irem, 1) := by decide +kernel
theorem dX12_laysCuts_69 : decode cX12_laysCuts 69 = .ok (.iload 5, 2) := by decide +kernel
theorem dX12_laysCuts_71 : decode cX12_laysCuts 71 = .ok (.iload 6, 2) := by decide +kernel
theorem dX12_laysCuts_73 : decode cX12_laysCuts 73 = .ok (.invokevirtual 300, 3) := by decide +kernel
theorem dX12_laysCuts_76 : decode cX12_laysCuts 76 = .ok (.istore 10, 2) := by decide +kernel
theorem dX12_laysCuts_78 : decode cX12_laysCuts 78 = .ok (.iload 7, 2) := by decide +kernel
theorem dX12_laysCuts_80 : decode cX12_laysCuts 80 = .ok (.iconst (-1), 1) := by decide +kernel
theorem dX12_laysCuts_81 : decode cX12_laysCuts 81 = .ok (.if_icmp .eq 13, 3) := by decide +kernel
theorem dX12_laysCuts_84 : decode cX12_laysCuts 84 = .ok (.iload 10, 2) := by decide +kernel
theorem dX12_laysCuts_86 : decode cX12_laysCuts 86 = .ok (.iload 8, 2) := by decide +kernel
theorem dX12_laysCuts_88 : decode cX12_laysCuts 88 = .ok (.if_icmp .lt 6, 3) := by decide +kernel
theorem dX12_laysCuts_91 : decode cX12_laysCuts 91 = .ok (.goto 11, 3) := by decide +kernel
theorem dX12_laysCuts_94 : decode cX12_laysCuts 94 = .ok (.iload 9, 2) := by decide +kernel
theorem dX12_laysCuts_96 : decode cX12_laysCuts 96 = .ok (.istore 7, 2) := by decide +kernel
theorem dX12_laysCuts_98 : decode cX12_laysCuts 98 = .ok (.iload 10, 2) := by decide +kernel
theorem dX12_laysCuts_100 : decode cX12_laysCuts 100 = .ok (.istore 8, 2) := by decide +kernel
theorem dX12_laysCuts_102 : decode cX12_laysCuts 102 = .ok (.iinc 9 1, 3) := by decide +kernel
theorem dX12_laysCuts_105 : decode cX12_laysCuts 105 = .ok (.goto (-57), 3) := by decide +kernel
theorem dX12_laysCuts_108 : decode cX12_laysCuts 108 = .ok (.iload 7, 2) := by decide +kernel
theorem dX12_laysCuts_110 : decode cX12_laysCuts 110 = .ok (.iconst 2, 1) := by decide +kernel
theorem dX12_laysCuts_111 : decode cX12_laysCuts 111 = .ok (.idiv, 1) := by decide +kernel
theorem dX12_laysCuts_112 : decode cX12_laysCuts 112 = .ok (.istore 9, 2) := by decide +kernel
theorem dX12_laysCuts_114 : decode cX12_laysCuts 114 = .ok (.iload 7, 2) := by decide +kernel
theorem dX12_laysCuts_116 : decode cX12_laysCuts 116 = .ok (.iconst 2, 1) := by decide +kernel
theorem dX12_laysCuts_117 : decode cX12_laysCuts 117 = .ok (.irem, 1) := by decide +kernel
theorem dX12_laysCuts_118 : decode cX12_laysCuts 118 = .ok (.ifCond .ne 7, 3) := by decide +kernel
theorem dX12_laysCuts_121 : decode cX12_laysCuts 121 = .ok (.iconst 1, 1) := by decide +kernel
theorem dX12_laysCuts_122 : decode cX12_laysCuts 122 = .ok (.goto 4, 3) := by decide +kernel
theorem dX12_laysCuts_125 : decode cX12_laysCuts 125 = .ok (.iconst 0, 1) := by decide +kernel
theorem dX12_laysCuts_126 : decode cX12_laysCuts 126 = .ok (.istore 10, 2) := by decide +kernel
theorem dX12_laysCuts_128 : decode cX12_laysCuts 128 = .ok (.aload_n 0, 1) := by decide +kernel
theorem dX12_laysCuts_129 : decode cX12_laysCuts 129 = .ok (.iload 10, 2) := by decide +kernel
theorem dX12_laysCuts_131 : decode cX12_laysCuts 131 = .ok (.ifCond .eq 8, 3) := by decide +kernel
theorem dX12_laysCuts_134 : decode cX12_laysCuts 134 = .ok (.iload 5, 2) := by decide +kernel
theorem dX12_laysCuts_136 : decode cX12_laysCuts 136 = .ok (.goto 5, 3) := by decide +kernel
theorem dX12_laysCuts_139 : decode cX12_laysCuts 139 = .ok (.iload 6, 2) := by decide +kernel
theorem dX12_laysCuts_141 : decode cX12_laysCuts 141 = .ok (.iload_n 1, 1) := by decide +kernel
theorem dX12_laysCuts_142 : decode cX12_laysCuts 142 = .ok (.iload 9, 2) := by decide +kernel
theorem dX12_laysCuts_144 : decode cX12_laysCuts 144 = .ok (.iload_n 2, 1) := by decide +kernel
theorem dX12_laysCuts_145 : decode cX12_laysCuts 145 = .ok (.invokevirtual 307, 3) := by decide +kernel
theorem dX12_laysCuts_148 : decode cX12_laysCuts 148 = .ok (.istore 11, 2) := by decide +kernel
theorem dX12_laysCuts_150 : decode cX12_laysCuts 150 = .ok (.aload_n 0, 1) := by decide +kernel
theorem dX12_laysCuts_151 : decode cX12_laysCuts 151 = .ok (.iload_n 1, 1) := by decide +kernel
theorem dX12_laysCuts_152 : decode cX12_laysCuts 152 = .ok (.iload_n 1, 1) := by decide +kernel
theorem dX12_laysCuts_153 : decode cX12_laysCuts 153 = .ok (.iload 9, 2) := by decide +kernel
theorem dX12_laysCuts_155 : decode cX12_laysCuts 155 = .ok (.iadd, 1) := by decide +kernel
theorem dX12_laysCuts_156 : decode cX12_laysCuts 156 = .ok (.iload_n 3, 1) := by decide +kernel
theorem dX12_laysCuts_157 : decode cX12_laysCuts 157 = .ok (.iload 4, 2) := by decide +kernel
theorem dX12_laysCuts_159 : decode cX12_laysCuts 159 = .ok (.iload 10, 2) := by decide +kernel
theorem dX12_laysCuts_161 : decode cX12_laysCuts 161 = .ok (.ifCond .eq 8, 3) := by decide +kernel
theorem dX12_laysCuts_164 : decode cX12_laysCuts 164 = .ok (.iload 11, 2) := by decide +kernel
theorem dX12_laysCuts_166 : decode cX12_laysCuts 166 = .ok (.goto 5, 3) := by decide +kernel
theorem dX12_laysCuts_169 : decode cX12_laysCuts 169 = .ok (.iload 5, 2) := by decide +kernel
theorem dX12_laysCuts_171 : decode cX12_laysCuts 171 = .ok (.iload 10, 2) := by decide +kernel
theorem dX12_laysCuts_173 : decode cX12_laysCuts 173 = .ok (.ifCond .eq 8, 3) := by decide +kernel
theorem dX12_laysCuts_176 : decode cX12_laysCuts 176 = .ok (.iload 6, 2) := by decide +kernel
theorem dX12_laysCuts_178 : decode cX12_laysCuts 178 = .ok (.goto 5, 3) := by decide +kernel
theorem dX12_laysCuts_181 : decode cX12_laysCuts 181 = .ok (.iload 11, 2) := by decide +kernel
theorem dX12_laysCuts_183 : decode cX12_laysCuts 183 = .ok (.invokevirtual 314, 3) := by decide +kernel
theorem dX12_laysCuts_186 : decode cX12_laysCuts 186 = .ok (.aload_n 0, 1) := by decide +kernel
theorem dX12_laysCuts_187 : decode cX12_laysCuts 187 = .ok (.iload_n 1, 1) := by decide +kernel
theorem dX12_laysCuts_188 : decode cX12_laysCuts 188 = .ok (.iload 9, 2) := by decide +kernel
theorem dX12_laysCuts_190 : decode cX12_laysCuts 190 = .ok (.iadd, 1) := by decide +kernel
theorem dX12_laysCuts_191 : decode cX12_laysCuts 191 = .ok (.iload_n 2, 1) := by decide +kernel
theorem dX12_laysCuts_192 : decode cX12_laysCuts 192 = .ok (.iload 10, 2) := by decide +kernel
theorem dX12_laysCuts_194 : decode cX12_laysCuts 194 = .ok (.ifCond .eq 10, 3) := by decide +kernel
theorem dX12_laysCuts_197 : decode cX12_laysCuts 197 = .ok (.iload_n 3, 1) := by decide +kernel
theorem dX12_laysCuts_198 : decode cX12_laysCuts 198 = .ok (.iload 11, 2) := by decide +kernel
theorem dX12_laysCuts_200 : decode cX12_laysCuts 200 = .ok (.iadd, 1) := by decide +kernel
theorem dX12_laysCuts_201 : decode cX12_laysCuts 201 = .ok (.goto 4, 3) := by decide +kernel
theorem dX12_laysCuts_204 : decode cX12_laysCuts 204 = .ok (.iload_n 3, 1) := by decide +kernel
theorem dX12_laysCuts_205 : decode cX12_laysCuts 205 = .ok (.iload 10, 2) := by decide +kernel
theorem dX12_laysCuts_207 : decode cX12_laysCuts 207 = .ok (.ifCond .eq 8, 3) := by decide +kernel
theorem dX12_laysCuts_210 : decode cX12_laysCuts 210 = .ok (.iload 4, 2) := by decide +kernel
theorem dX12_laysCuts_212 : decode cX12_laysCuts 212 = .ok (.goto 8, 3) := by decide +kernel
theorem dX12_laysCuts_215 : decode cX12_laysCuts 215 = .ok (.iload 4, 2) := by decide +kernel
theorem dX12_laysCuts_217 : decode cX12_laysCuts 217 = .ok (.iload 11, 2) := by decide +kernel
theorem dX12_laysCuts_219 : decode cX12_laysCuts 219 = .ok (.iadd, 1) := by decide +kernel
theorem dX12_laysCuts_220 : decode cX12_laysCuts 220 = .ok (.iload 10, 2) := by decide +kernel
theorem dX12_laysCuts_222 : decode cX12_laysCuts 222 = .ok (.ifCond .eq 11, 3) := by decide +kernel
theorem dX12_laysCuts_225 : decode cX12_laysCuts 225 = .ok (.iload 5, 2) := by decide +kernel
theorem dX12_laysCuts_227 : decode cX12_laysCuts 227 = .ok (.iload 11, 2) := by decide +kernel
theorem dX12_laysCuts_229 : decode cX12_laysCuts 229 = .ok (.isub, 1) := by decide +kernel
theorem dX12_laysCuts_230 : decode cX12_laysCuts 230 = .ok (.goto 5, 3) := by decide +kernel
theorem dX12_laysCuts_233 : decode cX12_laysCuts 233 = .ok (.iload 5, 2) := by decide +kernel
theorem dX12_laysCuts_235 : decode cX12_laysCuts 235 = .ok (.iload 10, 2) := by decide +kernel
theorem dX12_laysCuts_237 : decode cX12_laysCuts 237 = .ok (.ifCond .eq 8, 3) := by decide +kernel
theorem dX12_laysCuts_240 : decode cX12_laysCuts 240 = .ok (.iload 6, 2) := by decide +kernel
theorem dX12_laysCuts_242 : decode cX12_laysCuts 242 = .ok (.goto 8, 3) := by decide +kernel
theorem dX12_laysCuts_245 : decode cX12_laysCuts 245 = .ok (.iload 6, 2) := by decide +kernel
theorem dX12_laysCuts_247 : decode cX12_laysCuts 247 = .ok (.iload 11, 2) := by decide +kernel
theorem dX12_laysCuts_249 : decode cX12_laysCuts 249 = .ok (.isub, 1) := by decide +kernel
theorem dX12_laysCuts_250 : decode cX12_laysCuts 250 = .ok (.invokevirtual 314, 3) := by decide +kernel
theorem dX12_laysCuts_253 : decode cX12_laysCuts 253 = .ok (.return_, 1) := by decide +kernel
theorem dX12_lays_0 : decode cX12_lays 0 = .ok (.aload_n 0, 1) := by decide +kernel
theorem dX12_lays_1 : decode cX12_lays 1 = .ok (.iconst 0, 1) := by decide +kernel
theorem dX12_lays_2 : decode cX12_lays 2 = .ok (.aload_n 0, 1) := by decide +kernel
theorem dX12_lays_3 : decode cX12_lays 3 = .ok (.getfield 261, 3) := by decide +kernel
theorem dX12_lays_6 : decode cX12_lays 6 = .ok (.invokevirtual 273, 3) := by decide +kernel
theorem dX12_lays_9 : decode cX12_lays 9 = .ok (.ifCond .ne 12, 3) := by decide +kernel
theorem dX12_lays_12 : decode cX12_lays 12 = .ok (.aload_n 0, 1) := by decide +kernel
theorem dX12_lays_13 : decode cX12_lays 13 = .ok (.iload_n 2, 1) := by decide +kernel
theorem dX12_lays_14 : decode cX12_lays 14 = .ok (.iload_n 3, 1) := by decide +kernel
theorem dX12_lays_15 : decode cX12_lays 15 = .ok (.invokevirtual 318, 3) := by decide +kernel
theorem dX12_lays_18 : decode cX12_lays 18 = .ok (.goto 63, 3) := by decide +kernel
theorem dX12_lays_21 : decode cX12_lays 21 = .ok (.iload_n 1, 1) := by decide +kernel
theorem dX12_lays_22 : decode cX12_lays 22 = .ok (.ifCond .ne 16, 3) := by decide +kernel
theorem dX12_lays_25 : decode cX12_lays 25 = .ok (.aload_n 0, 1) := by decide +kernel
theorem dX12_lays_26 : decode cX12_lays 26 = .ok (.iload_n 2, 1) := by decide +kernel
theorem dX12_lays_27 : decode cX12_lays 27 = .ok (.iload_n 3, 1) := by decide +kernel
theorem dX12_lays_28 : decode cX12_lays 28 = .ok (.iload 4, 2) := by decide +kernel
theorem dX12_lays_30 : decode cX12_lays 30 = .ok (.iload 5, 2) := by decide +kernel
theorem dX12_lays_32 : decode cX12_lays 32 = .ok (.invokevirtual 322, 3) := by decide +kernel
theorem dX12_lays_35 : decode cX12_lays 35 = .ok (.goto 46, 3) := by decide +kernel
theorem dX12_lays_38 : decode cX12_lays 38 = .ok (.iload_n 1, 1) := by decide +kernel
theorem dX12_lays_39 : decode cX12_lays 39 = .ok (.iconst 1, 1) := by decide +kernel
theorem dX12_lays_40 : decode cX12_lays 40 = .ok (.if_icmp .ne 26, 3) := by decide +kernel
theorem dX12_lays_43 : decode cX12_lays 43 = .ok (.aload_n 0, 1) := by decide +kernel
theorem dX12_lays_44 : decode cX12_lays 44 = .ok (.aload_n 0, 1) := by decide +kernel
theorem dX12_lays_45 : decode cX12_lays 45 = .ok (.iload_n 2, 1) := by decide +kernel
theorem dX12_lays_46 : decode cX12_lays 46 = .ok (.iload_n 3, 1) := by decide +kernel
theorem dX12_lays_47 : decode cX12_lays 47 = .ok (.iload 4, 2) := by decide +kernel
theorem dX12_lays_49 : decode cX12_lays 49 = .ok (.iload 5, 2) := by decide +kernel
theorem dX12_lays_51 : decode cX12_lays 51 = .ok (.invokevirtual 326, 3) := by decide +kernel
theorem dX12_lays_54 : decode cX12_lays 54 = .ok (.iload_n 2, 1) := by decide +kernel
theorem dX12_lays_55 : decode cX12_lays 55 = .ok (.iload_n 3, 1) := by decide +kernel
theorem dX12_lays_56 : decode cX12_lays 56 = .ok (.iload 4, 2) := by decide +kernel
theorem dX12_lays_58 : decode cX12_lays 58 = .ok (.iload 5, 2) := by decide +kernel
theorem dX12_lays_60 : decode cX12_lays 60 = .ok (.invokevirtual 288, 3) := by decide +kernel
theorem dX12_lays_63 : decode cX12_lays 63 = .ok (.goto 18, 3) := by decide +kernel
theorem dX12_lays_66 : decode cX12_lays 66 = .ok (.aload_n 0, 1) := by decide +kernel
theorem dX12_lays_67 : decode cX12_lays 67 = .ok (.iconst 0, 1) := by decide +kernel
theorem dX12_lays_68 : decode cX12_lays 68 = .ok (.aload_n 0, 1) := by decide +kernel
theorem dX12_lays_69 : decode cX12_lays 69 = .ok (.getfield 261, 3) := by decide +kernel
theorem dX12_lays_72 : decode cX12_lays 72 = .ok (.iload_n 2, 1) := by decide +kernel
theorem dX12_lays_73 : decode cX12_lays 73 = .ok (.iload_n 3, 1) := by decide +kernel
theorem dX12_lays_74 : decode cX12_lays 74 = .ok (.iload 4, 2) := by decide +kernel
theorem dX12_lays_76 : decode cX12_lays 76 = .ok (.iload 5, 2) := by decide +kernel
theorem dX12_lays_78 : decode cX12_lays 78 = .ok (.invokevirtual 314, 3) := by decide +kernel
theorem dX12_lays_81 : decode cX12_lays 81 = .ok (.return_, 1) := by decide +kernel
theorem dX12_rowOf_0 : decode cX12_rowOf 0 = .ok (.bipush 41, 2) := by decide +kernel
theorem dX12_rowOf_2 : decode cX12_rowOf 2 = .ok (.iload_n 0, 1) := by decide +kernel
theorem dX12_rowOf_3 : decode cX12_rowOf 3 = .ok (.bipush 51, 2) := by decide +kernel
theorem dX12_rowOf_5 : decode cX12_rowOf 5 = .ok (.irem, 1) := by decide +kernel
theorem dX12_rowOf_6 : decode cX12_rowOf 6 = .ok (.imul, 1) := by decide +kernel
theorem dX12_rowOf_7 : decode cX12_rowOf 7 = .ok (.ireturn, 1) := by decide +kernel
theorem dX12_size__0 : decode cX12_size_ 0 = .ok (.iload_n 0, 1) := by decide +kernel
theorem dX12_size__1 : decode cX12_size_ 1 = .ok (.ifCond .ge 8, 3) := by decide +kernel
theorem dX12_size__4 : decode cX12_size_ 4 = .ok (.iload_n 0, 1) := by decide +kernel
theorem dX12_size__5 : decode cX12_size_ 5 = .ok (.ineg, 1) := by decide +kernel
theorem dX12_size__6 : decode cX12_size_ 6 = .ok (.goto 4, 3) := by decide +kernel
theorem dX12_size__9 : decode cX12_size_ 9 = .ok (.iload_n 0, 1) := by decide +kernel
theorem dX12_size__10 : decode cX12_size_ 10 = .ok (.ireturn, 1) := by decide +kernel
theorem dX12_far_0 : decode cX12_far 0 = .ok (.iload_n 1, 1) := by decide +kernel
theorem dX12_far_1 : decode cX12_far 1 = .ok (.iload_n 2, 1) := by decide +kernel
theorem dX12_far_2 : decode cX12_far 2 = .ok (.iadd, 1) := by decide +kernel
theorem dX12_far_3 : decode cX12_far 3 = .ok (.istore 7, 2) := by decide +kernel
theorem dX12_far_5 : decode cX12_far 5 = .ok (.iload_n 3, 1) := by decide +kernel
theorem dX12_far_6 : decode cX12_far 6 = .ok (.aload_n 0, 1) := by decide +kernel
theorem dX12_far_7 : decode cX12_far 7 = .ok (.getfield 103, 3) := by decide +kernel
theorem dX12_far_10 : decode cX12_far 10 = .ok (.iload 7, 2) := by decide +kernel
theorem dX12_far_12 : decode cX12_far 12 = .ok (.iaload, 1) := by decide +kernel
theorem dX12_far_13 : decode cX12_far 13 = .ok (.isub, 1) := by decide +kernel
theorem dX12_far_14 : decode cX12_far 14 = .ok (.invokestatic 329, 3) := by decide +kernel
theorem dX12_far_17 : decode cX12_far 17 = .ok (.iload 4, 2) := by decide +kernel
theorem dX12_far_19 : decode cX12_far 19 = .ok (.aload_n 0, 1) := by decide +kernel
theorem dX12_far_20 : decode cX12_far 20 = .ok (.getfield 106, 3) := by decide +kernel
theorem dX12_far_23 : decode cX12_far 23 = .ok (.iload 7, 2) := by decide +kernel
theorem dX12_far_25 : decode cX12_far 25 = .ok (.iaload, 1) := by decide +kernel
theorem dX12_far_26 : decode cX12_far 26 = .ok (.isub, 1) := by decide +kernel
theorem dX12_far_27 : decode cX12_far 27 = .ok (.invokestatic 329, 3) := by decide +kernel
theorem dX12_far_30 : decode cX12_far 30 = .ok (.iadd, 1) := by decide +kernel
theorem dX12_far_31 : decode cX12_far 31 = .ok (.iload_n 3, 1) := by decide +kernel
theorem dX12_far_32 : decode cX12_far 32 = .ok (.iload 5, 2) := by decide +kernel
theorem dX12_far_34 : decode cX12_far 34 = .ok (.iadd, 1) := by decide +kernel
theorem dX12_far_35 : decode cX12_far 35 = .ok (.aload_n 0, 1) := by decide +kernel
theorem dX12_far_36 : decode cX12_far 36 = .ok (.getfield 103, 3) := by decide +kernel
theorem dX12_far_39 : decode cX12_far 39 = .ok (.iload 7, 2) := by decide +kernel
theorem dX12_far_41 : decode cX12_far 41 = .ok (.iaload, 1) := by decide +kernel
theorem dX12_far_42 : decode cX12_far 42 = .ok (.isub, 1) := by decide +kernel
theorem dX12_far_43 : decode cX12_far 43 = .ok (.aload_n 0, 1) := by decide +kernel
theorem dX12_far_44 : decode cX12_far 44 = .ok (.getfield 109, 3) := by decide +kernel
theorem dX12_far_47 : decode cX12_far 47 = .ok (.iload 7, 2) := by decide +kernel
theorem dX12_far_49 : decode cX12_far 49 = .ok (.iaload, 1) := by decide +kernel
theorem dX12_far_50 : decode cX12_far 50 = .ok (.isub, 1) := by decide +kernel
theorem dX12_far_51 : decode cX12_far 51 = .ok (.invokestatic 329, 3) := by decide +kernel
theorem dX12_far_54 : decode cX12_far 54 = .ok (.iadd, 1) := by decide +kernel
theorem dX12_far_55 : decode cX12_far 55 = .ok (.iload 4, 2) := by decide +kernel
theorem dX12_far_57 : decode cX12_far 57 = .ok (.iload 6, 2) := by decide +kernel
theorem dX12_far_59 : decode cX12_far 59 = .ok (.iadd, 1) := by decide +kernel
theorem dX12_far_60 : decode cX12_far 60 = .ok (.aload_n 0, 1) := by decide +kernel
theorem dX12_far_61 : decode cX12_far 61 = .ok (.getfield 106, 3) := by decide +kernel
theorem dX12_far_64 : decode cX12_far 64 = .ok (.iload 7, 2) := by decide +kernel
theorem dX12_far_66 : decode cX12_far 66 = .ok (.iaload, 1) := by decide +kernel
theorem dX12_far_67 : decode cX12_far 67 = .ok (.isub, 1) := by decide +kernel
theorem dX12_far_68 : decode cX12_far 68 = .ok (.aload_n 0, 1) := by decide +kernel
theorem dX12_far_69 : decode cX12_far 69 = .ok (.getfield 112, 3) := by decide +kernel
theorem dX12_far_72 : decode cX12_far 72 = .ok (.iload 7, 2) := by decide +kernel
theorem dX12_far_74 : decode cX12_far 74 = .ok (.iaload, 1) := by decide +kernel
theorem dX12_far_75 : decode cX12_far 75 = .ok (.isub, 1) := by decide +kernel
theorem dX12_far_76 : decode cX12_far 76 = .ok (.invokestatic 329, 3) := by decide +kernel
theorem dX12_far_79 : decode cX12_far 79 = .ok (.iadd, 1) := by decide +kernel
theorem dX12_far_80 : decode cX12_far 80 = .ok (.ireturn, 1) := by decide +kernel
theorem dX12_moves_0 : decode cX12_moves 0 = .ok (.iconst 0, 1) := by decide +kernel
theorem dX12_moves_1 : decode cX12_moves 1 = .ok (.istore_n 1, 1) := by decide +kernel
theorem dX12_moves_2 : decode cX12_moves 2 = .ok (.iconst 0, 1) := by decide +kernel
theorem dX12_moves_3 : decode cX12_moves 3 = .ok (.istore_n 2, 1) := by decide +kernel
theorem dX12_moves_4 : decode cX12_moves 4 = .ok (.iload_n 2, 1) := by decide +kernel
theorem dX12_moves_5 : decode cX12_moves 5 = .ok (.aload_n 0, 1) := by decide +kernel
theorem dX12_moves_6 : decode cX12_moves 6 = .ok (.getfield 261, 3) := by decide +kernel
theorem dX12_moves_9 : decode cX12_moves 9 = .ok (.if_icmp .ge 90, 3) := by decide +kernel
theorem dX12_moves_12 : decode cX12_moves 12 = .ok (.aload_n 0, 1) := by decide +kernel
theorem dX12_moves_13 : decode cX12_moves 13 = .ok (.getfield 249, 3) := by decide +kernel
theorem dX12_moves_16 : decode cX12_moves 16 = .ok (.ifCond .le 83, 3) := by decide +kernel
theorem dX12_moves_19 : decode cX12_moves 19 = .ok (.aload_n 0, 1) := by decide +kernel
theorem dX12_moves_20 : decode cX12_moves 20 = .ok (.getfield 249, 3) := by decide +kernel
theorem dX12_moves_23 : decode cX12_moves 23 = .ok (.iconst 1, 1) := by decide +kernel
theorem dX12_moves_24 : decode cX12_moves 24 = .ok (.isub, 1) := by decide +kernel
theorem dX12_moves_25 : decode cX12_moves 25 = .ok (.invokestatic 332, 3) := by decide +kernel
theorem dX12_moves_28 : decode cX12_moves 28 = .ok (.istore_n 3, 1) := by decide +kernel
theorem dX12_moves_29 : decode cX12_moves 29 = .ok (.aload_n 0, 1) := by decide +kernel
theorem dX12_moves_30 : decode cX12_moves 30 = .ok (.getfield 70, 3) := by decide +kernel
theorem dX12_moves_33 : decode cX12_moves 33 = .ok (.iload_n 2, 1) := by decide +kernel
theorem dX12_moves_34 : decode cX12_moves 34 = .ok (.iaload, 1) := by decide +kernel
theorem dX12_moves_35 : decode cX12_moves 35 = .ok (.iconst (-1), 1) := by decide +kernel
theorem dX12_moves_36 : decode cX12_moves 36 = .ok (.if_icmp .eq 57, 3) := by decide +kernel
theorem dX12_moves_39 : decode cX12_moves 39 = .ok (.aload_n 0, 1) := by decide +kernel
theorem dX12_moves_40 : decode cX12_moves 40 = .ok (.getfield 100, 3) := by decide +kernel
theorem dX12_moves_43 : decode cX12_moves 43 = .ok (.iload_n 3, 1) := by decide +kernel
theorem dX12_moves_44 : decode cX12_moves 44 = .ok (.aload_n 0, 1) := by decide +kernel
theorem dX12_moves_45 : decode cX12_moves 45 = .ok (.getfield 70, 3) := by decide +kernel
theorem dX12_moves_48 : decode cX12_moves 48 = .ok (.iload_n 2, 1) := by decide +kernel
theorem dX12_moves_49 : decode cX12_moves 49 = .ok (.iaload, 1) := by decide +kernel
theorem dX12_moves_50 : decode cX12_moves 50 = .ok (.iadd, 1) := by decide +kernel
theorem dX12_moves_51 : decode cX12_moves 51 = .ok (.baload, 1) := by decide +kernel
theorem dX12_moves_52 : decode cX12_moves 52 = .ok (.ifCond .eq 41, 3) := by decide +kernel
theorem dX12_moves_55 : decode cX12_moves 55 = .ok (.iload_n 1, 1) := by decide +kernel
theorem dX12_moves_56 : decode cX12_moves 56 = .ok (.aload_n 0, 1) := by decide +kernel
theorem dX12_moves_57 : decode cX12_moves 57 = .ok (.iload_n 3, 1) := by decide +kernel
theorem dX12_moves_58 : decode cX12_moves 58 = .ok (.aload_n 0, 1) := by decide +kernel
theorem dX12_moves_59 : decode cX12_moves 59 = .ok (.getfield 70, 3) := by decide +kernel
theorem dX12_moves_62 : decode cX12_moves 62 = .ok (.iload_n 2, 1) := by decide +kernel
theorem dX12_moves_63 : decode cX12_moves 63 = .ok (.iaload, 1) := by decide +kernel
theorem dX12_moves_64 : decode cX12_moves 64 = .ok (.aload_n 0, 1) := by decide +kernel
theorem dX12_moves_65 : decode cX12_moves 65 = .ok (.getfield 76, 3) := by decide +kernel
theorem dX12_moves_68 : decode cX12_moves 68 = .ok (.iload_n 2, 1) := by decide +kernel
theorem dX12_moves_69 : decode cX12_moves 69 = .ok (.iaload, 1) := by decide +kernel
theorem dX12_moves_70 : decode cX12_moves 70 = .ok (.aload_n 0, 1) := by decide +kernel
theorem dX12_moves_71 : decode cX12_moves 71 = .ok (.getfield 79, 3) := by decide +kernel
theorem dX12_moves_74 : decode cX12_moves 74 = .ok (.iload_n 2, 1) := by decide +kernel
theorem dX12_moves_75 : decode cX12_moves 75 = .ok (.iaload, 1) := by decide +kernel
theorem dX12_moves_76 : decode cX12_moves 76 = .ok (.aload_n 0, 1) := by decide +kernel
theorem dX12_moves_77 : decode cX12_moves 77 = .ok (.getfield 82, 3) := by decide +kernel
theorem dX12_moves_80 : decode cX12_moves 80 = .ok (.iload_n 2, 1) := by decide +kernel
theorem dX12_moves_81 : decode cX12_moves 81 = .ok (.iaload, 1) := by decide +kernel
theorem dX12_moves_82 : decode cX12_moves 82 = .ok (.aload_n 0, 1) := by decide +kernel
theorem dX12_moves_83 : decode cX12_moves 83 = .ok (.getfield 85, 3) := by decide +kernel
theorem dX12_moves_86 : decode cX12_moves 86 = .ok (.iload_n 2, 1) := by decide +kernel
theorem dX12_moves_87 : decode cX12_moves 87 = .ok (.iaload, 1) := by decide +kernel
theorem dX12_moves_88 : decode cX12_moves 88 = .ok (.invokevirtual 335, 3) := by decide +kernel
theorem dX12_moves_91 : decode cX12_moves 91 = .ok (.iadd, 1) := by decide +kernel
theorem dX12_moves_92 : decode cX12_moves 92 = .ok (.istore_n 1, 1) := by decide +kernel
theorem dX12_moves_93 : decode cX12_moves 93 = .ok (.iinc 2 1, 3) := by decide +kernel
theorem dX12_moves_96 : decode cX12_moves 96 = .ok (.goto (-92), 3) := by decide +kernel
theorem dX12_moves_99 : decode cX12_moves 99 = .ok (.iload_n 1, 1) := by decide +kernel
theorem dX12_moves_100 : decode cX12_moves 100 = .ok (.ireturn, 1) := by decide +kernel
theorem dX12_isSmallOne_0 : decode cX12_isSmallOne 0 = .ok (.aload_n 0, 1) := by decide +kernel
theorem dX12_isSmallOne_1 : decode cX12_isSmallOne 1 = .ok (.getfield 30, 3) := by decide +kernel
theorem dX12_isSmallOne_4 : decode cX12_isSmallOne 4 = .ok (.iload_n 1, 1) := by decide +kernel
theorem dX12_isSmallOne_5 : decode cX12_isSmallOne 5 = .ok (.baload, 1) := by decide +kernel
theorem dX12_isSmallOne_6 : decode cX12_isSmallOne 6 = .ok (.ifCond .ne 37, 3) := by decide +kernel
theorem dX12_isSmallOne_9 : decode cX12_isSmallOne 9 = .ok (.ldc2_w 338, 3) := by decide +kernel
theorem dX12_isSmallOne_12 : decode cX12_isSmallOne 12 = .ok (.aload_n 0, 1) := by decide +kernel
theorem dX12_isSmallOne_13 : decode cX12_isSmallOne 13 = .ok (.iload_n 1, 1) := by decide +kernel
theorem dX12_isSmallOne_14 : decode cX12_isSmallOne 14 = .ok (.iload_n 3, 1) := by decide +kernel
theorem dX12_isSmallOne_15 : decode cX12_isSmallOne 15 = .ok (.invokevirtual 256, 3) := by decide +kernel
theorem dX12_isSmallOne_18 : decode cX12_isSmallOne 18 = .ok (.i2l, 1) := by decide +kernel
theorem dX12_isSmallOne_19 : decode cX12_isSmallOne 19 = .ok (.lmul, 1) := by decide +kernel
theorem dX12_isSmallOne_20 : decode cX12_isSmallOne 20 = .ok (.aload_n 0, 1) := by decide +kernel
theorem dX12_isSmallOne_21 : decode cX12_isSmallOne 21 = .ok (.getfield 64, 3) := by decide +kernel
theorem dX12_isSmallOne_24 : decode cX12_isSmallOne 24 = .ok (.iload_n 2, 1) := by decide +kernel
theorem dX12_isSmallOne_25 : decode cX12_isSmallOne 25 = .ok (.iaload, 1) := by decide +kernel
theorem dX12_isSmallOne_26 : decode cX12_isSmallOne 26 = .ok (.i2l, 1) := by decide +kernel
theorem dX12_isSmallOne_27 : decode cX12_isSmallOne 27 = .ok (.aload_n 0, 1) := by decide +kernel
theorem dX12_isSmallOne_28 : decode cX12_isSmallOne 28 = .ok (.iload_n 2, 1) := by decide +kernel
theorem dX12_isSmallOne_29 : decode cX12_isSmallOne 29 = .ok (.iload_n 3, 1) := by decide +kernel
theorem dX12_isSmallOne_30 : decode cX12_isSmallOne 30 = .ok (.invokevirtual 256, 3) := by decide +kernel
theorem dX12_isSmallOne_33 : decode cX12_isSmallOne 33 = .ok (.i2l, 1) := by decide +kernel
theorem dX12_isSmallOne_34 : decode cX12_isSmallOne 34 = .ok (.lmul, 1) := by decide +kernel
theorem dX12_isSmallOne_35 : decode cX12_isSmallOne 35 = .ok (.lcmp, 1) := by decide +kernel
theorem dX12_isSmallOne_36 : decode cX12_isSmallOne 36 = .ok (.ifCond .ge 7, 3) := by decide +kernel
theorem dX12_isSmallOne_39 : decode cX12_isSmallOne 39 = .ok (.iconst 1, 1) := by decide +kernel
theorem dX12_isSmallOne_40 : decode cX12_isSmallOne 40 = .ok (.goto 4, 3) := by decide +kernel
theorem dX12_isSmallOne_43 : decode cX12_isSmallOne 43 = .ok (.iconst 0, 1) := by decide +kernel
theorem dX12_isSmallOne_44 : decode cX12_isSmallOne 44 = .ok (.ireturn, 1) := by decide +kernel
theorem dX12_findItems_0 : decode cX12_findItems 0 = .ok (.iconst 0, 1) := by decide +kernel
theorem dX12_findItems_1 : decode cX12_findItems 1 = .ok (.istore_n 3, 1) := by decide +kernel
theorem dX12_findItems_2 : decode cX12_findItems 2 = .ok (.iload_n 1, 1) := by decide +kernel
theorem dX12_findItems_3 : decode cX12_findItems 3 = .ok (.iconst 1, 1) := by decide +kernel
theorem dX12_findItems_4 : decode cX12_findItems 4 = .ok (.iadd, 1) := by decide +kernel
theorem dX12_findItems_5 : decode cX12_findItems 5 = .ok (.istore 4, 2) := by decide +kernel
theorem dX12_findItems_7 : decode cX12_findItems 7 = .ok (.iload 4, 2) := by decide +kernel
theorem dX12_findItems_9 : decode cX12_findItems 9 = .ok (.aload_n 0, 1) := by decide +kernel
theorem dX12_findItems_10 : decode cX12_findItems 10 = .ok (.getfield 243, 3) := by decide +kernel
theorem dX12_findItems_13 : decode cX12_findItems 13 = .ok (.if_icmp .ge 34, 3) := by decide +kernel
theorem dX12_findItems_16 : decode cX12_findItems 16 = .ok (.aload_n 0, 1) := by decide +kernel
theorem dX12_findItems_17 : decode cX12_findItems 17 = .ok (.getfield 26, 3) := by decide +kernel
theorem dX12_findItems_20 : decode cX12_findItems 20 = .ok (.iload 4, 2) := by decide +kernel
theorem dX12_findItems_22 : decode cX12_findItems 22 = .ok (.iaload, 1) := by decide +kernel
theorem dX12_findItems_23 : decode cX12_findItems 23 = .ok (.iload_n 1, 1) := by decide +kernel
theorem dX12_findItems_24 : decode cX12_findItems 24 = .ok (.if_icmp .ne 17, 3) := by decide +kernel
theorem dX12_findItems_27 : decode cX12_findItems 27 = .ok (.aload_n 0, 1) := by decide +kernel
theorem dX12_findItems_28 : decode cX12_findItems 28 = .ok (.iload 4, 2) := by decide +kernel
theorem dX12_findItems_30 : decode cX12_findItems 30 = .ok (.iload_n 1, 1) := by decide +kernel
theorem dX12_findItems_31 : decode cX12_findItems 31 = .ok (.iload_n 2, 1) := by decide +kernel
theorem dX12_findItems_32 : decode cX12_findItems 32 = .ok (.invokevirtual 340, 3) := by decide +kernel
theorem dX12_findItems_35 : decode cX12_findItems 35 = .ok (.ifCond .eq 6, 3) := by decide +kernel
theorem dX12_findItems_38 : decode cX12_findItems 38 = .ok (.iinc 3 1, 3) := by decide +kernel
theorem dX12_findItems_41 : decode cX12_findItems 41 = .ok (.iinc 4 1, 3) := by decide +kernel
theorem dX12_findItems_44 : decode cX12_findItems 44 = .ok (.goto (-37), 3) := by decide +kernel
theorem dX12_findItems_47 : decode cX12_findItems 47 = .ok (.aload_n 0, 1) := by decide +kernel
theorem dX12_findItems_48 : decode cX12_findItems 48 = .ok (.getfield 67, 3) := by decide +kernel
theorem dX12_findItems_51 : decode cX12_findItems 51 = .ok (.iload_n 1, 1) := by decide +kernel
theorem dX12_findItems_52 : decode cX12_findItems 52 = .ok (.baload, 1) := by decide +kernel
theorem dX12_findItems_53 : decode cX12_findItems 53 = .ok (.ifCond .ne 12, 3) := by decide +kernel
theorem dX12_findItems_56 : decode cX12_findItems 56 = .ok (.iload_n 3, 1) := by decide +kernel
theorem dX12_findItems_57 : decode cX12_findItems 57 = .ok (.iconst 2, 1) := by decide +kernel
theorem dX12_findItems_58 : decode cX12_findItems 58 = .ok (.if_icmp .lt 7, 3) := by decide +kernel
theorem dX12_findItems_61 : decode cX12_findItems 61 = .ok (.iconst 1, 1) := by decide +kernel
theorem dX12_findItems_62 : decode cX12_findItems 62 = .ok (.goto 4, 3) := by decide +kernel
theorem dX12_findItems_65 : decode cX12_findItems 65 = .ok (.iconst 0, 1) := by decide +kernel
theorem dX12_findItems_66 : decode cX12_findItems 66 = .ok (.istore 4, 2) := by decide +kernel
theorem dX12_findItems_68 : decode cX12_findItems 68 = .ok (.aload_n 0, 1) := by decide +kernel
theorem dX12_findItems_69 : decode cX12_findItems 69 = .ok (.iconst 0, 1) := by decide +kernel
theorem dX12_findItems_70 : decode cX12_findItems 70 = .ok (.putfield 261, 3) := by decide +kernel
theorem dX12_findItems_73 : decode cX12_findItems 73 = .ok (.aload_n 0, 1) := by decide +kernel
theorem dX12_findItems_74 : decode cX12_findItems 74 = .ok (.getfield 124, 3) := by decide +kernel
theorem dX12_findItems_77 : decode cX12_findItems 77 = .ok (.iload_n 1, 1) := by decide +kernel
theorem dX12_findItems_78 : decode cX12_findItems 78 = .ok (.iload 4, 2) := by decide +kernel
theorem dX12_findItems_80 : decode cX12_findItems 80 = .ok (.ifCond .eq 7, 3) := by decide +kernel
theorem dX12_findItems_83 : decode cX12_findItems 83 = .ok (.iload_n 3, 1) := by decide +kernel
theorem dX12_findItems_84 : decode cX12_findItems 84 = .ok (.goto 4, 3) := by decide +kernel
theorem dX12_findItems_87 : decode cX12_findItems 87 = .ok (.iconst 0, 1) := by decide +kernel
theorem dX12_findItems_88 : decode cX12_findItems 88 = .ok (.iastore, 1) := by decide +kernel
theorem dX12_findItems_89 : decode cX12_findItems 89 = .ok (.aload_n 0, 1) := by decide +kernel
theorem dX12_findItems_90 : decode cX12_findItems 90 = .ok (.getfield 127, 3) := by decide +kernel
theorem dX12_findItems_93 : decode cX12_findItems 93 = .ok (.iload_n 1, 1) := by decide +kernel
theorem dX12_findItems_94 : decode cX12_findItems 94 = .ok (.iconst 0, 1) := by decide +kernel
theorem dX12_findItems_95 : decode cX12_findItems 95 = .ok (.iastore, 1) := by decide +kernel
theorem dX12_findItems_96 : decode cX12_findItems 96 = .ok (.iload_n 1, 1) := by decide +kernel
theorem dX12_findItems_97 : decode cX12_findItems 97 = .ok (.iconst 1, 1) := by decide +kernel
theorem dX12_findItems_98 : decode cX12_findItems 98 = .ok (.iadd, 1) := by decide +kernel
theorem dX12_findItems_99 : decode cX12_findItems 99 = .ok (.istore 5, 2) := by decide +kernel
theorem dX12_findItems_101 : decode cX12_findItems 101 = .ok (.iload 5, 2) := by decide +kernel
theorem dX12_findItems_103 : decode cX12_findItems 103 = .ok (.aload_n 0, 1) := by decide +kernel
theorem dX12_findItems_104 : decode cX12_findItems 104 = .ok (.getfield 243, 3) := by decide +kernel
theorem dX12_findItems_107 : decode cX12_findItems 107 = .ok (.if_icmp .ge 162, 3) := by decide +kernel
theorem dX12_findItems_110 : decode cX12_findItems 110 = .ok (.aload_n 0, 1) := by decide +kernel
theorem dX12_findItems_111 : decode cX12_findItems 111 = .ok (.getfield 26, 3) := by decide +kernel
theorem dX12_findItems_114 : decode cX12_findItems 114 = .ok (.iload 5, 2) := by decide +kernel
theorem dX12_findItems_116 : decode cX12_findItems 116 = .ok (.iaload, 1) := by decide +kernel
theorem dX12_findItems_117 : decode cX12_findItems 117 = .ok (.iload_n 1, 1) := by decide +kernel
theorem dX12_findItems_118 : decode cX12_findItems 118 = .ok (.if_icmp .eq 6, 3) := by decide +kernel
theorem dX12_findItems_121 : decode cX12_findItems 121 = .ok (.goto 142, 3) := by decide +kernel
theorem dX12_findItems_124 : decode cX12_findItems 124 = .ok (.aload_n 0, 1) := by decide +kernel
theorem dX12_findItems_125 : decode cX12_findItems 125 = .ok (.iload 5, 2) := by decide +kernel
theorem dX12_findItems_127 : decode cX12_findItems 127 = .ok (.iload_n 2, 1) := by decide +kernel
theorem dX12_findItems_128 : decode cX12_findItems 128 = .ok (.invokevirtual 256, 3) := by decide +kernel
theorem dX12_findItems_131 : decode cX12_findItems 131 = .ok (.istore 6, 2) := by decide +kernel
theorem dX12_findItems_133 : decode cX12_findItems 133 = .ok (.iload 4, 2) := by decide +kernel
theorem dX12_findItems_135 : decode cX12_findItems 135 = .ok (.ifCond .eq 28, 3) := by decide +kernel
theorem dX12_findItems_138 : decode cX12_findItems 138 = .ok (.aload_n 0, 1) := by decide +kernel
theorem dX12_findItems_139 : decode cX12_findItems 139 = .ok (.iload 5, 2) := by decide +kernel
theorem dX12_findItems_141 : decode cX12_findItems 141 = .ok (.iload_n 1, 1) := by decide +kernel
theorem dX12_findItems_142 : decode cX12_findItems 142 = .ok (.iload_n 2, 1) := by decide +kernel
theorem dX12_findItems_143 : decode cX12_findItems 143 = .ok (.invokevirtual 340, 3) := by decide +kernel
theorem dX12_findItems_146 : decode cX12_findItems 146 = .ok (.ifCond .eq 17, 3) := by decide +kernel
theorem dX12_findItems_149 : decode cX12_findItems 149 = .ok (.aload_n 0, 1) := by decide +kernel
theorem dX12_findItems_150 : decode cX12_findItems 150 = .ok (.getfield 127, 3) := by decide +kernel
theorem dX12_findItems_153 : decode cX12_findItems 153 = .ok (.iload_n 1, 1) := by decide +kernel
theorem dX12_findItems_154 : decode cX12_findItems 154 = .ok (.dup2, 1) := by decide +kernel
theorem dX12_findItems_155 : decode cX12_findItems 155 = .ok (.iaload, 1) := by decide +kernel
theorem dX12_findItems_156 : decode cX12_findItems 156 = .ok (.iload 6, 2) := by decide +kernel
theorem dX12_findItems_158 : decode cX12_findItems 158 = .ok (.iadd, 1) := by decide +kernel
theorem dX12_findItems_159 : decode cX12_findItems 159 = .ok (.iastore, 1) := by decide +kernel
theorem dX12_findItems_160 : decode cX12_findItems 160 = .ok (.goto 103, 3) := by decide +kernel
theorem dX12_findItems_163 : decode cX12_findItems 163 = .ok (.aload_n 0, 1) := by decide +kernel
theorem dX12_findItems_164 : decode cX12_findItems 164 = .ok (.getfield 261, 3) := by decide +kernel
theorem dX12_findItems_167 : decode cX12_findItems 167 = .ok (.istore 7, 2) := by decide +kernel
theorem dX12_findItems_169 : decode cX12_findItems 169 = .ok (.iload 7, 2) := by decide +kernel
theorem dX12_findItems_171 : decode cX12_findItems 171 = .ok (.ifCond .le 64, 3) := by decide +kernel
theorem dX12_findItems_174 : decode cX12_findItems 174 = .ok (.aload_n 0, 1) := by decide +kernel
theorem dX12_findItems_175 : decode cX12_findItems 175 = .ok (.getfield 43, 3) := by decide +kernel
theorem dX12_findItems_178 : decode cX12_findItems 178 = .ok (.iload_n 1, 1) := by decide +kernel
theorem dX12_findItems_179 : decode cX12_findItems 179 = .ok (.baload, 1) := by decide +kernel
theorem dX12_findItems_180 : decode cX12_findItems 180 = .ok (.ifCond .eq 55, 3) := by decide +kernel
theorem dX12_findItems_183 : decode cX12_findItems 183 = .ok (.aload_n 0, 1) := by decide +kernel
theorem dX12_findItems_184 : decode cX12_findItems 184 = .ok (.getfield 73, 3) := by decide +kernel
theorem dX12_findItems_187 : decode cX12_findItems 187 = .ok (.iload 7, 2) := by decide +kernel
theorem dX12_findItems_189 : decode cX12_findItems 189 = .ok (.iconst 1, 1) := by decide +kernel
theorem dX12_findItems_190 : decode cX12_findItems 190 = .ok (.isub, 1) := by decide +kernel
theorem dX12_findItems_191 : decode cX12_findItems 191 = .ok (.iaload, 1) := by decide +kernel
theorem dX12_findItems_192 : decode cX12_findItems 192 = .ok (.iload 6, 2) := by decide +kernel
theorem dX12_findItems_194 : decode cX12_findItems 194 = .ok (.if_icmp .ge 41, 3) := by decide +kernel
theorem dX12_findItems_197 : decode cX12_findItems 197 = .ok (.aload_n 0, 1) := by decide +kernel
theorem dX12_findItems_198 : decode cX12_findItems 198 = .ok (.getfield 70, 3) := by decide +kernel
theorem dX12_findItems_201 : decode cX12_findItems 201 = .ok (.iload 7, 2) := by decide +kernel
theorem dX12_findItems_203 : decode cX12_findItems 203 = .ok (.aload_n 0, 1) := by decide +kernel
theorem dX12_findItems_204 : decode cX12_findItems 204 = .ok (.getfield 70, 3) := by decide +kernel
theorem dX12_findItems_207 : decode cX12_findItems 207 = .ok (.iload 7, 2) := by decide +kernel
theorem dX12_findItems_209 : decode cX12_findItems 209 = .ok (.iconst 1, 1) := by decide +kernel
theorem dX12_findItems_210 : decode cX12_findItems 210 = .ok (.isub, 1) := by decide +kernel
theorem dX12_findItems_211 : decode cX12_findItems 211 = .ok (.iaload, 1) := by decide +kernel
theorem dX12_findItems_212 : decode cX12_findItems 212 = .ok (.iastore, 1) := by decide +kernel
theorem dX12_findItems_213 : decode cX12_findItems 213 = .ok (.aload_n 0, 1) := by decide +kernel
theorem dX12_findItems_214 : decode cX12_findItems 214 = .ok (.getfield 73, 3) := by decide +kernel
theorem dX12_findItems_217 : decode cX12_findItems 217 = .ok (.iload 7, 2) := by decide +kernel
theorem dX12_findItems_219 : decode cX12_findItems 219 = .ok (.aload_n 0, 1) := by decide +kernel
theorem dX12_findItems_220 : decode cX12_findItems 220 = .ok (.getfield 73, 3) := by decide +kernel
theorem dX12_findItems_223 : decode cX12_findItems 223 = .ok (.iload 7, 2) := by decide +kernel
theorem dX12_findItems_225 : decode cX12_findItems 225 = .ok (.iconst 1, 1) := by decide +kernel
theorem dX12_findItems_226 : decode cX12_findItems 226 = .ok (.isub, 1) := by decide +kernel
theorem dX12_findItems_227 : decode cX12_findItems 227 = .ok (.iaload, 1) := by decide +kernel
theorem dX12_findItems_228 : decode cX12_findItems 228 = .ok (.iastore, 1) := by decide +kernel
theorem dX12_findItems_229 : decode cX12_findItems 229 = .ok (.iinc 7 (-1), 3) := by decide +kernel
theorem dX12_findItems_232 : decode cX12_findItems 232 = .ok (.goto (-63), 3) := by decide +kernel
theorem dX12_findItems_235 : decode cX12_findItems 235 = .ok (.aload_n 0, 1) := by decide +kernel
theorem dX12_findItems_236 : decode cX12_findItems 236 = .ok (.getfield 70, 3) := by decide +kernel
theorem dX12_findItems_239 : decode cX12_findItems 239 = .ok (.iload 7, 2) := by decide +kernel
theorem dX12_findItems_241 : decode cX12_findItems 241 = .ok (.iload 5, 2) := by decide +kernel
theorem dX12_findItems_243 : decode cX12_findItems 243 = .ok (.iastore, 1) := by decide +kernel
theorem dX12_findItems_244 : decode cX12_findItems 244 = .ok (.aload_n 0, 1) := by decide +kernel
theorem dX12_findItems_245 : decode cX12_findItems 245 = .ok (.getfield 73, 3) := by decide +kernel
theorem dX12_findItems_248 : decode cX12_findItems 248 = .ok (.iload 7, 2) := by decide +kernel
theorem dX12_findItems_250 : decode cX12_findItems 250 = .ok (.iload 6, 2) := by decide +kernel
theorem dX12_findItems_252 : decode cX12_findItems 252 = .ok (.iastore, 1) := by decide +kernel
theorem dX12_findItems_253 : decode cX12_findItems 253 = .ok (.aload_n 0, 1) := by decide +kernel
theorem dX12_findItems_254 : decode cX12_findItems 254 = .ok (.dup, 1) := by decide +kernel
theorem dX12_findItems_255 : decode cX12_findItems 255 = .ok (.getfield 261, 3) := by decide +kernel
theorem dX12_findItems_258 : decode cX12_findItems 258 = .ok (.iconst 1, 1) := by decide +kernel
theorem dX12_findItems_259 : decode cX12_findItems 259 = .ok (.iadd, 1) := by decide +kernel
theorem dX12_findItems_260 : decode cX12_findItems 260 = .ok (.putfield 261, 3) := by decide +kernel
theorem dX12_findItems_263 : decode cX12_findItems 263 = .ok (.iinc 5 1, 3) := by decide +kernel
theorem dX12_findItems_266 : decode cX12_findItems 266 = .ok (.goto (-165), 3) := by decide +kernel
theorem dX12_findItems_269 : decode cX12_findItems 269 = .ok (.iload 4, 2) := by decide +kernel
theorem dX12_findItems_271 : decode cX12_findItems 271 = .ok (.ifCond .eq 38, 3) := by decide +kernel
theorem dX12_findItems_274 : decode cX12_findItems 274 = .ok (.aload_n 0, 1) := by decide +kernel
theorem dX12_findItems_275 : decode cX12_findItems 275 = .ok (.getfield 70, 3) := by decide +kernel
theorem dX12_findItems_278 : decode cX12_findItems 278 = .ok (.aload_n 0, 1) := by decide +kernel
theorem dX12_findItems_279 : decode cX12_findItems 279 = .ok (.getfield 261, 3) := by decide +kernel
theorem dX12_findItems_282 : decode cX12_findItems 282 = .ok (.iconst (-1), 1) := by decide +kernel
theorem dX12_findItems_283 : decode cX12_findItems 283 = .ok (.iastore, 1) := by decide +kernel
theorem dX12_findItems_284 : decode cX12_findItems 284 = .ok (.aload_n 0, 1) := by decide +kernel
theorem dX12_findItems_285 : decode cX12_findItems 285 = .ok (.getfield 73, 3) := by decide +kernel
theorem dX12_findItems_288 : decode cX12_findItems 288 = .ok (.aload_n 0, 1) := by decide +kernel
theorem dX12_findItems_289 : decode cX12_findItems 289 = .ok (.getfield 261, 3) := by decide +kernel
theorem dX12_findItems_292 : decode cX12_findItems 292 = .ok (.aload_n 0, 1) := by decide +kernel
theorem dX12_findItems_293 : decode cX12_findItems 293 = .ok (.getfield 127, 3) := by decide +kernel
theorem dX12_findItems_296 : decode cX12_findItems 296 = .ok (.iload_n 1, 1) := by decide +kernel
theorem dX12_findItems_297 : decode cX12_findItems 297 = .ok (.iaload, 1) := by decide +kernel
theorem dX12_findItems_298 : decode cX12_findItems 298 = .ok (.iastore, 1) := by decide +kernel
theorem dX12_findItems_299 : decode cX12_findItems 299 = .ok (.aload_n 0, 1) := by decide +kernel
theorem dX12_findItems_300 : decode cX12_findItems 300 = .ok (.dup, 1) := by decide +kernel
theorem dX12_findItems_301 : decode cX12_findItems 301 = .ok (.getfield 261, 3) := by decide +kernel
theorem dX12_findItems_304 : decode cX12_findItems 304 = .ok (.iconst 1, 1) := by decide +kernel
theorem dX12_findItems_305 : decode cX12_findItems 305 = .ok (.iadd, 1) := by decide +kernel
theorem dX12_findItems_306 : decode cX12_findItems 306 = .ok (.putfield 261, 3) := by decide +kernel
theorem dX12_findItems_309 : decode cX12_findItems 309 = .ok (.aload_n 0, 1) := by decide +kernel
theorem dX12_findItems_310 : decode cX12_findItems 310 = .ok (.getfield 91, 3) := by decide +kernel
theorem dX12_findItems_313 : decode cX12_findItems 313 = .ok (.iconst 0, 1) := by decide +kernel
theorem dX12_findItems_314 : decode cX12_findItems 314 = .ok (.iconst 0, 1) := by decide +kernel
theorem dX12_findItems_315 : decode cX12_findItems 315 = .ok (.iastore, 1) := by decide +kernel
theorem dX12_findItems_316 : decode cX12_findItems 316 = .ok (.iconst 0, 1) := by decide +kernel
theorem dX12_findItems_317 : decode cX12_findItems 317 = .ok (.istore 5, 2) := by decide +kernel
theorem dX12_findItems_319 : decode cX12_findItems 319 = .ok (.iload 5, 2) := by decide +kernel
theorem dX12_findItems_321 : decode cX12_findItems 321 = .ok (.aload_n 0, 1) := by decide +kernel
theorem dX12_findItems_322 : decode cX12_findItems 322 = .ok (.getfield 261, 3) := by decide +kernel
theorem dX12_findItems_325 : decode cX12_findItems 325 = .ok (.if_icmp .ge 33, 3) := by decide +kernel
theorem dX12_findItems_328 : decode cX12_findItems 328 = .ok (.aload_n 0, 1) := by decide +kernel
theorem dX12_findItems_329 : decode cX12_findItems 329 = .ok (.getfield 91, 3) := by decide +kernel
theorem dX12_findItems_332 : decode cX12_findItems 332 = .ok (.iload 5, 2) := by decide +kernel
theorem dX12_findItems_334 : decode cX12_findItems 334 = .ok (.iconst 1, 1) := by decide +kernel
theorem dX12_findItems_335 : decode cX12_findItems 335 = .ok (.iadd, 1) := by decide +kernel
theorem dX12_findItems_336 : decode cX12_findItems 336 = .ok (.aload_n 0, 1) := by decide +kernel
theorem dX12_findItems_337 : decode cX12_findItems 337 = .ok (.getfield 91, 3) := by decide +kernel
theorem dX12_findItems_340 : decode cX12_findItems 340 = .ok (.iload 5, 2) := by decide +kernel
theorem dX12_findItems_342 : decode cX12_findItems 342 = .ok (.iaload, 1) := by decide +kernel
theorem dX12_findItems_343 : decode cX12_findItems 343 = .ok (.aload_n 0, 1) := by decide +kernel
theorem dX12_findItems_344 : decode cX12_findItems 344 = .ok (.getfield 73, 3) := by decide +kernel
theorem dX12_findItems_347 : decode cX12_findItems 347 = .ok (.iload 5, 2) := by decide +kernel
theorem dX12_findItems_349 : decode cX12_findItems 349 = .ok (.iaload, 1) := by decide +kernel
theorem dX12_findItems_350 : decode cX12_findItems 350 = .ok (.iadd, 1) := by decide +kernel
theorem dX12_findItems_351 : decode cX12_findItems 351 = .ok (.iastore, 1) := by decide +kernel
theorem dX12_findItems_352 : decode cX12_findItems 352 = .ok (.iinc 5 1, 3) := by decide +kernel
theorem dX12_findItems_355 : decode cX12_findItems 355 = .ok (.goto (-36), 3) := by decide +kernel
theorem dX12_findItems_358 : decode cX12_findItems 358 = .ok (.return_, 1) := by decide +kernel
theorem dX12_drawGroup_0 : decode cX12_drawGroup 0 = .ok (.aload_n 0, 1) := by decide +kernel
theorem dX12_drawGroup_1 : decode cX12_drawGroup 1 = .ok (.getfield 103, 3) := by decide +kernel
theorem dX12_drawGroup_4 : decode cX12_drawGroup 4 = .ok (.iload_n 2, 1) := by decide +kernel
theorem dX12_drawGroup_5 : decode cX12_drawGroup 5 = .ok (.iload_n 1, 1) := by decide +kernel
theorem dX12_drawGroup_6 : decode cX12_drawGroup 6 = .ok (.iadd, 1) := by decide +kernel
theorem dX12_drawGroup_7 : decode cX12_drawGroup 7 = .ok (.iaload, 1) := by decide +kernel
theorem dX12_drawGroup_8 : decode cX12_drawGroup 8 = .ok (.istore 4, 2) := by decide +kernel
theorem dX12_drawGroup_10 : decode cX12_drawGroup 10 = .ok (.aload_n 0, 1) := by decide +kernel
theorem dX12_drawGroup_11 : decode cX12_drawGroup 11 = .ok (.getfield 106, 3) := by decide +kernel
theorem dX12_drawGroup_14 : decode cX12_drawGroup 14 = .ok (.iload_n 2, 1) := by decide +kernel
theorem dX12_drawGroup_15 : decode cX12_drawGroup 15 = .ok (.iload_n 1, 1) := by decide +kernel
theorem dX12_drawGroup_16 : decode cX12_drawGroup 16 = .ok (.iadd, 1) := by decide +kernel
theorem dX12_drawGroup_17 : decode cX12_drawGroup 17 = .ok (.iaload, 1) := by decide +kernel
theorem dX12_drawGroup_18 : decode cX12_drawGroup 18 = .ok (.istore 5, 2) := by decide +kernel
theorem dX12_drawGroup_20 : decode cX12_drawGroup 20 = .ok (.aload_n 0, 1) := by decide +kernel
theorem dX12_drawGroup_21 : decode cX12_drawGroup 21 = .ok (.getfield 109, 3) := by decide +kernel
theorem dX12_drawGroup_24 : decode cX12_drawGroup 24 = .ok (.iload_n 2, 1) := by decide +kernel
theorem dX12_drawGroup_25 : decode cX12_drawGroup 25 = .ok (.iload_n 1, 1) := by decide +kernel
theorem dX12_drawGroup_26 : decode cX12_drawGroup 26 = .ok (.iadd, 1) := by decide +kernel
theorem dX12_drawGroup_27 : decode cX12_drawGroup 27 = .ok (.iaload, 1) := by decide +kernel
theorem dX12_drawGroup_28 : decode cX12_drawGroup 28 = .ok (.istore 6, 2) := by decide +kernel
theorem dX12_drawGroup_30 : decode cX12_drawGroup 30 = .ok (.aload_n 0, 1) := by decide +kernel
theorem dX12_drawGroup_31 : decode cX12_drawGroup 31 = .ok (.getfield 112, 3) := by decide +kernel
theorem dX12_drawGroup_34 : decode cX12_drawGroup 34 = .ok (.iload_n 2, 1) := by decide +kernel
theorem dX12_drawGroup_35 : decode cX12_drawGroup 35 = .ok (.iload_n 1, 1) := by decide +kernel
theorem dX12_drawGroup_36 : decode cX12_drawGroup 36 = .ok (.iadd, 1) := by decide +kernel
theorem dX12_drawGroup_37 : decode cX12_drawGroup 37 = .ok (.iaload, 1) := by decide +kernel
theorem dX12_drawGroup_38 : decode cX12_drawGroup 38 = .ok (.istore 7, 2) := by decide +kernel
theorem dX12_drawGroup_40 : decode cX12_drawGroup 40 = .ok (.aload_n 0, 1) := by decide +kernel
theorem dX12_drawGroup_41 : decode cX12_drawGroup 41 = .ok (.iload_n 1, 1) := by decide +kernel
theorem dX12_drawGroup_42 : decode cX12_drawGroup 42 = .ok (.iload_n 3, 1) := by decide +kernel
theorem dX12_drawGroup_43 : decode cX12_drawGroup 43 = .ok (.invokevirtual 343, 3) := by decide +kernel
theorem dX12_drawGroup_46 : decode cX12_drawGroup 46 = .ok (.aload_n 0, 1) := by decide +kernel
theorem dX12_drawGroup_47 : decode cX12_drawGroup 47 = .ok (.getfield 40, 3) := by decide +kernel
theorem dX12_drawGroup_50 : decode cX12_drawGroup 50 = .ok (.iload_n 1, 1) := by decide +kernel
theorem dX12_drawGroup_51 : decode cX12_drawGroup 51 = .ok (.iaload, 1) := by decide +kernel
theorem dX12_drawGroup_52 : decode cX12_drawGroup 52 = .ok (.istore 8, 2) := by decide +kernel
theorem dX12_drawGroup_54 : decode cX12_drawGroup 54 = .ok (.iload 8, 2) := by decide +kernel
theorem dX12_drawGroup_56 : decode cX12_drawGroup 56 = .ok (.iconst 3, 1) := by decide +kernel
theorem dX12_drawGroup_57 : decode cX12_drawGroup 57 = .ok (.if_icmp .ne 77, 3) := by decide +kernel
theorem dX12_drawGroup_60 : decode cX12_drawGroup 60 = .ok (.iconst 0, 1) := by decide +kernel
theorem dX12_drawGroup_61 : decode cX12_drawGroup 61 = .ok (.istore 9, 2) := by decide +kernel
theorem dX12_drawGroup_63 : decode cX12_drawGroup 63 = .ok (.iconst 0, 1) := by decide +kernel
theorem dX12_drawGroup_64 : decode cX12_drawGroup 64 = .ok (.istore 10, 2) := by decide +kernel
theorem dX12_drawGroup_66 : decode cX12_drawGroup 66 = .ok (.iload 10, 2) := by decide +kernel
theorem dX12_drawGroup_68 : decode cX12_drawGroup 68 = .ok (.iconst 3, 1) := by decide +kernel
theorem dX12_drawGroup_69 : decode cX12_drawGroup 69 = .ok (.if_icmp .ge 65, 3) := by decide +kernel
theorem dX12_drawGroup_72 : decode cX12_drawGroup 72 = .ok (.aload_n 0, 1) := by decide +kernel
theorem dX12_drawGroup_73 : decode cX12_drawGroup 73 = .ok (.iload 10, 2) := by decide +kernel
theorem dX12_drawGroup_75 : decode cX12_drawGroup 75 = .ok (.iload 4, 2) := by decide +kernel
theorem dX12_drawGroup_77 : decode cX12_drawGroup 77 = .ok (.iload 5, 2) := by decide +kernel
theorem dX12_drawGroup_79 : decode cX12_drawGroup 79 = .ok (.iload 6, 2) := by decide +kernel
theorem dX12_drawGroup_81 : decode cX12_drawGroup 81 = .ok (.iload 7, 2) := by decide +kernel
theorem dX12_drawGroup_83 : decode cX12_drawGroup 83 = .ok (.invokevirtual 346, 3) := by decide +kernel
theorem dX12_drawGroup_86 : decode cX12_drawGroup 86 = .ok (.aload_n 0, 1) := by decide +kernel
theorem dX12_drawGroup_87 : decode cX12_drawGroup 87 = .ok (.invokevirtual 292, 3) := by decide +kernel
theorem dX12_drawGroup_90 : decode cX12_drawGroup 90 = .ok (.aload_n 0, 1) := by decide +kernel
theorem dX12_drawGroup_91 : decode cX12_drawGroup 91 = .ok (.getfield 146, 3) := by decide +kernel
theorem dX12_drawGroup_94 : decode cX12_drawGroup 94 = .ok (.aload_n 0, 1) := by decide +kernel
theorem dX12_drawGroup_95 : decode cX12_drawGroup 95 = .ok (.invokevirtual 349, 3) := by decide +kernel
theorem dX12_drawGroup_98 : decode cX12_drawGroup 98 = .ok (.imul, 1) := by decide +kernel
theorem dX12_drawGroup_99 : decode cX12_drawGroup 99 = .ok (.bipush 100, 2) := by decide +kernel
theorem dX12_drawGroup_101 : decode cX12_drawGroup 101 = .ok (.idiv, 1) := by decide +kernel
theorem dX12_drawGroup_102 : decode cX12_drawGroup 102 = .ok (.iadd, 1) := by decide +kernel
theorem dX12_drawGroup_103 : decode cX12_drawGroup 103 = .ok (.istore 11, 2) := by decide +kernel
theorem dX12_drawGroup_105 : decode cX12_drawGroup 105 = .ok (.iload 10, 2) := by decide +kernel
theorem dX12_drawGroup_107 : decode cX12_drawGroup 107 = .ok (.ifCond .le 13, 3) := by decide +kernel
theorem dX12_drawGroup_110 : decode cX12_drawGroup 110 = .ok (.iload 11, 2) := by decide +kernel
theorem dX12_drawGroup_112 : decode cX12_drawGroup 112 = .ok (.iload 9, 2) := by decide +kernel
theorem dX12_drawGroup_114 : decode cX12_drawGroup 114 = .ok (.if_icmp .lt 6, 3) := by decide +kernel
theorem dX12_drawGroup_117 : decode cX12_drawGroup 117 = .ok (.goto 11, 3) := by decide +kernel
theorem dX12_drawGroup_120 : decode cX12_drawGroup 120 = .ok (.iload 10, 2) := by decide +kernel
theorem dX12_drawGroup_122 : decode cX12_drawGroup 122 = .ok (.istore 8, 2) := by decide +kernel
theorem dX12_drawGroup_124 : decode cX12_drawGroup 124 = .ok (.iload 11, 2) := by decide +kernel
theorem dX12_drawGroup_126 : decode cX12_drawGroup 126 = .ok (.istore 9, 2) := by decide +kernel
theorem dX12_drawGroup_128 : decode cX12_drawGroup 128 = .ok (.iinc 10 1, 3) := by decide +kernel
theorem dX12_drawGroup_131 : decode cX12_drawGroup 131 = .ok (.goto (-65), 3) := by decide +kernel
theorem dX12_drawGroup_134 : decode cX12_drawGroup 134 = .ok (.aload_n 0, 1) := by decide +kernel
theorem dX12_drawGroup_135 : decode cX12_drawGroup 135 = .ok (.iload 8, 2) := by decide +kernel
theorem dX12_drawGroup_137 : decode cX12_drawGroup 137 = .ok (.iload 4, 2) := by decide +kernel
theorem dX12_drawGroup_139 : decode cX12_drawGroup 139 = .ok (.iload 5, 2) := by decide +kernel
theorem dX12_drawGroup_141 : decode cX12_drawGroup 141 = .ok (.iload 6, 2) := by decide +kernel
theorem dX12_drawGroup_143 : decode cX12_drawGroup 143 = .ok (.iload 7, 2) := by decide +kernel
theorem dX12_drawGroup_145 : decode cX12_drawGroup 145 = .ok (.invokevirtual 346, 3) := by decide +kernel
theorem dX12_drawGroup_148 : decode cX12_drawGroup 148 = .ok (.aload_n 0, 1) := by decide +kernel
theorem dX12_drawGroup_149 : decode cX12_drawGroup 149 = .ok (.getfield 118, 3) := by decide +kernel
theorem dX12_drawGroup_152 : decode cX12_drawGroup 152 = .ok (.iload_n 1, 1) := by decide +kernel
theorem dX12_drawGroup_153 : decode cX12_drawGroup 153 = .ok (.aload_n 0, 1) := by decide +kernel
theorem dX12_drawGroup_154 : decode cX12_drawGroup 154 = .ok (.iconst 0, 1) := by decide +kernel
theorem dX12_drawGroup_155 : decode cX12_drawGroup 155 = .ok (.aload_n 0, 1) := by decide +kernel
theorem dX12_drawGroup_156 : decode cX12_drawGroup 156 = .ok (.getfield 261, 3) := by decide +kernel
theorem dX12_drawGroup_159 : decode cX12_drawGroup 159 = .ok (.invokevirtual 273, 3) := by decide +kernel
theorem dX12_drawGroup_162 : decode cX12_drawGroup 162 = .ok (.ifCond .ne 7, 3) := by decide +kernel
theorem dX12_drawGroup_165 : decode cX12_drawGroup 165 = .ok (.iconst 0, 1) := by decide +kernel
theorem dX12_drawGroup_166 : decode cX12_drawGroup 166 = .ok (.goto 5, 3) := by decide +kernel
theorem dX12_drawGroup_169 : decode cX12_drawGroup 169 = .ok (.iload 8, 2) := by decide +kernel
theorem dX12_drawGroup_171 : decode cX12_drawGroup 171 = .ok (.iastore, 1) := by decide +kernel
theorem dX12_drawGroup_172 : decode cX12_drawGroup 172 = .ok (.aload_n 0, 1) := by decide +kernel
theorem dX12_drawGroup_173 : decode cX12_drawGroup 173 = .ok (.getfield 121, 3) := by decide +kernel
theorem dX12_drawGroup_176 : decode cX12_drawGroup 176 = .ok (.iload_n 1, 1) := by decide +kernel
theorem dX12_drawGroup_177 : decode cX12_drawGroup 177 = .ok (.aload_n 0, 1) := by decide +kernel
theorem dX12_drawGroup_178 : decode cX12_drawGroup 178 = .ok (.invokevirtual 292, 3) := by decide +kernel
theorem dX12_drawGroup_181 : decode cX12_drawGroup 181 = .ok (.iastore, 1) := by decide +kernel
theorem dX12_drawGroup_182 : decode cX12_drawGroup 182 = .ok (.iconst 0, 1) := by decide +kernel
theorem dX12_drawGroup_183 : decode cX12_drawGroup 183 = .ok (.istore 9, 2) := by decide +kernel
theorem dX12_drawGroup_185 : decode cX12_drawGroup 185 = .ok (.iload 9, 2) := by decide +kernel
theorem dX12_drawGroup_187 : decode cX12_drawGroup 187 = .ok (.aload_n 0, 1) := by decide +kernel
theorem dX12_drawGroup_188 : decode cX12_drawGroup 188 = .ok (.getfield 261, 3) := by decide +kernel
theorem dX12_drawGroup_191 : decode cX12_drawGroup 191 = .ok (.if_icmp .ge 150, 3) := by decide +kernel
theorem dX12_drawGroup_194 : decode cX12_drawGroup 194 = .ok (.aload_n 0, 1) := by decide +kernel
theorem dX12_drawGroup_195 : decode cX12_drawGroup 195 = .ok (.getfield 70, 3) := by decide +kernel
theorem dX12_drawGroup_198 : decode cX12_drawGroup 198 = .ok (.iload 9, 2) := by decide +kernel
theorem dX12_drawGroup_200 : decode cX12_drawGroup 200 = .ok (.iaload, 1) := by decide +kernel
theorem dX12_drawGroup_201 : decode cX12_drawGroup 201 = .ok (.iconst (-1), 1) := by decide +kernel
theorem dX12_drawGroup_202 : decode cX12_drawGroup 202 = .ok (.if_icmp .ne 58, 3) := by decide +kernel
theorem dX12_drawGroup_205 : decode cX12_drawGroup 205 = .ok (.aload_n 0, 1) := by decide +kernel
theorem dX12_drawGroup_206 : decode cX12_drawGroup 206 = .ok (.getfield 130, 3) := by decide +kernel
theorem dX12_drawGroup_209 : decode cX12_drawGroup 209 = .ok (.iload_n 1, 1) := by decide +kernel
theorem dX12_drawGroup_210 : decode cX12_drawGroup 210 = .ok (.aload_n 0, 1) := by decide +kernel
theorem dX12_drawGroup_211 : decode cX12_drawGroup 211 = .ok (.getfield 76, 3) := by decide +kernel
theorem dX12_drawGroup_214 : decode cX12_drawGroup 214 = .ok (.iload 9, 2) := by decide +kernel
theorem dX12_drawGroup_216 : decode cX12_drawGroup 216 = .ok (.iaload, 1) := by decide +kernel
theorem dX12_drawGroup_217 : decode cX12_drawGroup 217 = .ok (.iastore, 1) := by decide +kernel
theorem dX12_drawGroup_218 : decode cX12_drawGroup 218 = .ok (.aload_n 0, 1) := by decide +kernel
theorem dX12_drawGroup_219 : decode cX12_drawGroup 219 = .ok (.getfield 133, 3) := by decide +kernel
theorem dX12_drawGroup_222 : decode cX12_drawGroup 222 = .ok (.iload_n 1, 1) := by decide +kernel
theorem dX12_drawGroup_223 : decode cX12_drawGroup 223 = .ok (.aload_n 0, 1) := by decide +kernel
theorem dX12_drawGroup_224 : decode cX12_drawGroup 224 = .ok (.getfield 79, 3) := by decide +kernel
theorem dX12_drawGroup_227 : decode cX12_drawGroup 227 = .ok (.iload 9, 2) := by decide +kernel
theorem dX12_drawGroup_229 : decode cX12_drawGroup 229 = .ok (.iaload, 1) := by decide +kernel
theorem dX12_drawGroup_230 : decode cX12_drawGroup 230 = .ok (.iastore, 1) := by decide +kernel
theorem dX12_drawGroup_231 : decode cX12_drawGroup 231 = .ok (.aload_n 0, 1) := by decide +kernel
theorem dX12_drawGroup_232 : decode cX12_drawGroup 232 = .ok (.getfield 136, 3) := by decide +kernel
theorem dX12_drawGroup_235 : decode cX12_drawGroup 235 = .ok (.iload_n 1, 1) := by decide +kernel
theorem dX12_drawGroup_236 : decode cX12_drawGroup 236 = .ok (.aload_n 0, 1) := by decide +kernel
theorem dX12_drawGroup_237 : decode cX12_drawGroup 237 = .ok (.getfield 82, 3) := by decide +kernel
theorem dX12_drawGroup_240 : decode cX12_drawGroup 240 = .ok (.iload 9, 2) := by decide +kernel
theorem dX12_drawGroup_242 : decode cX12_drawGroup 242 = .ok (.iaload, 1) := by decide +kernel
theorem dX12_drawGroup_243 : decode cX12_drawGroup 243 = .ok (.iastore, 1) := by decide +kernel
theorem dX12_drawGroup_244 : decode cX12_drawGroup 244 = .ok (.aload_n 0, 1) := by decide +kernel
theorem dX12_drawGroup_245 : decode cX12_drawGroup 245 = .ok (.getfield 139, 3) := by decide +kernel
theorem dX12_drawGroup_248 : decode cX12_drawGroup 248 = .ok (.iload_n 1, 1) := by decide +kernel
theorem dX12_drawGroup_249 : decode cX12_drawGroup 249 = .ok (.aload_n 0, 1) := by decide +kernel
theorem dX12_drawGroup_250 : decode cX12_drawGroup 250 = .ok (.getfield 85, 3) := by decide +kernel
theorem dX12_drawGroup_253 : decode cX12_drawGroup 253 = .ok (.iload 9, 2) := by decide +kernel
theorem dX12_drawGroup_255 : decode cX12_drawGroup 255 = .ok (.iaload, 1) := by decide +kernel
theorem dX12_drawGroup_256 : decode cX12_drawGroup 256 = .ok (.iastore, 1) := by decide +kernel
theorem dX12_drawGroup_257 : decode cX12_drawGroup 257 = .ok (.goto 78, 3) := by decide +kernel
theorem dX12_drawGroup_260 : decode cX12_drawGroup 260 = .ok (.iload_n 2, 1) := by decide +kernel
theorem dX12_drawGroup_261 : decode cX12_drawGroup 261 = .ok (.aload_n 0, 1) := by decide +kernel
theorem dX12_drawGroup_262 : decode cX12_drawGroup 262 = .ok (.getfield 70, 3) := by decide +kernel
theorem dX12_drawGroup_265 : decode cX12_drawGroup 265 = .ok (.iload 9, 2) := by decide +kernel
theorem dX12_drawGroup_267 : decode cX12_drawGroup 267 = .ok (.iaload, 1) := by decide +kernel
theorem dX12_drawGroup_268 : decode cX12_drawGroup 268 = .ok (.iadd, 1) := by decide +kernel
theorem dX12_drawGroup_269 : decode cX12_drawGroup 269 = .ok (.istore 10, 2) := by decide +kernel
theorem dX12_drawGroup_271 : decode cX12_drawGroup 271 = .ok (.aload_n 0, 1) := by decide +kernel
theorem dX12_drawGroup_272 : decode cX12_drawGroup 272 = .ok (.getfield 100, 3) := by decide +kernel
theorem dX12_drawGroup_275 : decode cX12_drawGroup 275 = .ok (.iload 10, 2) := by decide +kernel
theorem dX12_drawGroup_277 : decode cX12_drawGroup 277 = .ok (.iconst 1, 1) := by decide +kernel
theorem dX12_drawGroup_278 : decode cX12_drawGroup 278 = .ok (.bastore, 1) := by decide +kernel
theorem dX12_drawGroup_279 : decode cX12_drawGroup 279 = .ok (.aload_n 0, 1) := by decide +kernel
theorem dX12_drawGroup_280 : decode cX12_drawGroup 280 = .ok (.getfield 103, 3) := by decide +kernel
theorem dX12_drawGroup_283 : decode cX12_drawGroup 283 = .ok (.iload 10, 2) := by decide +kernel
theorem dX12_drawGroup_285 : decode cX12_drawGroup 285 = .ok (.aload_n 0, 1) := by decide +kernel
theorem dX12_drawGroup_286 : decode cX12_drawGroup 286 = .ok (.getfield 76, 3) := by decide +kernel
theorem dX12_drawGroup_289 : decode cX12_drawGroup 289 = .ok (.iload 9, 2) := by decide +kernel
theorem dX12_drawGroup_291 : decode cX12_drawGroup 291 = .ok (.iaload, 1) := by decide +kernel
theorem dX12_drawGroup_292 : decode cX12_drawGroup 292 = .ok (.iastore, 1) := by decide +kernel
theorem dX12_drawGroup_293 : decode cX12_drawGroup 293 = .ok (.aload_n 0, 1) := by decide +kernel
theorem dX12_drawGroup_294 : decode cX12_drawGroup 294 = .ok (.getfield 106, 3) := by decide +kernel
theorem dX12_drawGroup_297 : decode cX12_drawGroup 297 = .ok (.iload 10, 2) := by decide +kernel
theorem dX12_drawGroup_299 : decode cX12_drawGroup 299 = .ok (.aload_n 0, 1) := by decide +kernel
theorem dX12_drawGroup_300 : decode cX12_drawGroup 300 = .ok (.getfield 79, 3) := by decide +kernel
theorem dX12_drawGroup_303 : decode cX12_drawGroup 303 = .ok (.iload 9, 2) := by decide +kernel
theorem dX12_drawGroup_305 : decode cX12_drawGroup 305 = .ok (.iaload, 1) := by decide +kernel
theorem dX12_drawGroup_306 : decode cX12_drawGroup 306 = .ok (.iastore, 1) := by decide +kernel
theorem dX12_drawGroup_307 : decode cX12_drawGroup 307 = .ok (.aload_n 0, 1) := by decide +kernel
theorem dX12_drawGroup_308 : decode cX12_drawGroup 308 = .ok (.getfield 109, 3) := by decide +kernel
theorem dX12_drawGroup_311 : decode cX12_drawGroup 311 = .ok (.iload 10, 2) := by decide +kernel
theorem dX12_drawGroup_313 : decode cX12_drawGroup 313 = .ok (.aload_n 0, 1) := by decide +kernel
theorem dX12_drawGroup_314 : decode cX12_drawGroup 314 = .ok (.getfield 82, 3) := by decide +kernel
theorem dX12_drawGroup_317 : decode cX12_drawGroup 317 = .ok (.iload 9, 2) := by decide +kernel
theorem dX12_drawGroup_319 : decode cX12_drawGroup 319 = .ok (.iaload, 1) := by decide +kernel
theorem dX12_drawGroup_320 : decode cX12_drawGroup 320 = .ok (.iastore, 1) := by decide +kernel
theorem dX12_drawGroup_321 : decode cX12_drawGroup 321 = .ok (.aload_n 0, 1) := by decide +kernel
theorem dX12_drawGroup_322 : decode cX12_drawGroup 322 = .ok (.getfield 112, 3) := by decide +kernel
