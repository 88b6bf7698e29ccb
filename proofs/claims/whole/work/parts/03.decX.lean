theorem dX0_init_0 : decode cX0_init 0 = .ok (.aload_n 0, 1) := by decide +kernel
theorem dX0_init_1 : decode cX0_init 1 = .ok (.invokespecial 3, 3) := by decide +kernel
theorem dX0_init_4 : decode cX0_init 4 = .ok (.aload_n 0, 1) := by decide +kernel
theorem dX0_init_5 : decode cX0_init 5 = .ok (.sipush 800, 3) := by decide +kernel
theorem dX0_init_8 : decode cX0_init 8 = .ok (.newarray .int, 2) := by decide +kernel
theorem dX0_init_10 : decode cX0_init 10 = .ok (.putfield 9, 3) := by decide +kernel
theorem dX0_init_13 : decode cX0_init 13 = .ok (.aload_n 0, 1) := by decide +kernel
theorem dX0_init_14 : decode cX0_init 14 = .ok (.sipush 200, 3) := by decide +kernel
theorem dX0_init_17 : decode cX0_init 17 = .ok (.newarray .int, 2) := by decide +kernel
theorem dX0_init_19 : decode cX0_init 19 = .ok (.putfield 15, 3) := by decide +kernel
theorem dX0_init_22 : decode cX0_init 22 = .ok (.aload_n 0, 1) := by decide +kernel
theorem dX0_init_23 : decode cX0_init 23 = .ok (.sipush 200, 3) := by decide +kernel
theorem dX0_init_26 : decode cX0_init 26 = .ok (.newarray .int, 2) := by decide +kernel
theorem dX0_init_28 : decode cX0_init 28 = .ok (.putfield 18, 3) := by decide +kernel
theorem dX0_init_31 : decode cX0_init 31 = .ok (.aload_n 0, 1) := by decide +kernel
theorem dX0_init_32 : decode cX0_init 32 = .ok (.sipush 200, 3) := by decide +kernel
theorem dX0_init_35 : decode cX0_init 35 = .ok (.newarray .int, 2) := by decide +kernel
theorem dX0_init_37 : decode cX0_init 37 = .ok (.putfield 21, 3) := by decide +kernel
theorem dX0_init_40 : decode cX0_init 40 = .ok (.aload_n 0, 1) := by decide +kernel
theorem dX0_init_41 : decode cX0_init 41 = .ok (.sipush 200, 3) := by decide +kernel
theorem dX0_init_44 : decode cX0_init 44 = .ok (.newarray .int, 2) := by decide +kernel
theorem dX0_init_46 : decode cX0_init 46 = .ok (.putfield 24, 3) := by decide +kernel
theorem dX0_init_49 : decode cX0_init 49 = .ok (.aload_n 0, 1) := by decide +kernel
theorem dX0_init_50 : decode cX0_init 50 = .ok (.getfield 9, 3) := by decide +kernel
theorem dX0_init_53 : decode cX0_init 53 = .ok (.iconst (-1), 1) := by decide +kernel
theorem dX0_init_54 : decode cX0_init 54 = .ok (.invokestatic 27, 3) := by decide +kernel
theorem dX0_init_57 : decode cX0_init 57 = .ok (.return_, 1) := by decide +kernel
theorem dX0_hasRoom_0 : decode cX0_hasRoom 0 = .ok (.aload_n 0, 1) := by decide +kernel
theorem dX0_hasRoom_1 : decode cX0_hasRoom 1 = .ok (.getfield 33, 3) := by decide +kernel
theorem dX0_hasRoom_4 : decode cX0_hasRoom 4 = .ok (.sipush 200, 3) := by decide +kernel
theorem dX0_hasRoom_7 : decode cX0_hasRoom 7 = .ok (.if_icmp .ge 7, 3) := by decide +kernel
theorem dX0_hasRoom_10 : decode cX0_hasRoom 10 = .ok (.iconst 1, 1) := by decide +kernel
theorem dX0_hasRoom_11 : decode cX0_hasRoom 11 = .ok (.goto 4, 3) := by decide +kernel
theorem dX0_hasRoom_14 : decode cX0_hasRoom 14 = .ok (.iconst 0, 1) := by decide +kernel
theorem dX0_hasRoom_15 : decode cX0_hasRoom 15 = .ok (.ireturn, 1) := by decide +kernel
theorem dX0_tell_0 : decode cX0_tell 0 = .ok (.iload_n 1, 1) := by decide +kernel
theorem dX0_tell_1 : decode cX0_tell 1 = .ok (.bipush 20, 2) := by decide +kernel
theorem dX0_tell_3 : decode cX0_tell 3 = .ok (.imul, 1) := by decide +kernel
theorem dX0_tell_4 : decode cX0_tell 4 = .ok (.iload_n 2, 1) := by decide +kernel
theorem dX0_tell_5 : decode cX0_tell 5 = .ok (.iadd, 1) := by decide +kernel
theorem dX0_tell_6 : decode cX0_tell 6 = .ok (.istore 6, 2) := by decide +kernel
theorem dX0_tell_8 : decode cX0_tell 8 = .ok (.aload_n 0, 1) := by decide +kernel
theorem dX0_tell_9 : decode cX0_tell 9 = .ok (.getfield 18, 3) := by decide +kernel
theorem dX0_tell_12 : decode cX0_tell 12 = .ok (.aload_n 0, 1) := by decide +kernel
theorem dX0_tell_13 : decode cX0_tell 13 = .ok (.getfield 33, 3) := by decide +kernel
theorem dX0_tell_16 : decode cX0_tell 16 = .ok (.iload_n 3, 1) := by decide +kernel
theorem dX0_tell_17 : decode cX0_tell 17 = .ok (.iastore, 1) := by decide +kernel
theorem dX0_tell_18 : decode cX0_tell 18 = .ok (.aload_n 0, 1) := by decide +kernel
theorem dX0_tell_19 : decode cX0_tell 19 = .ok (.getfield 21, 3) := by decide +kernel
theorem dX0_tell_22 : decode cX0_tell 22 = .ok (.aload_n 0, 1) := by decide +kernel
theorem dX0_tell_23 : decode cX0_tell 23 = .ok (.getfield 33, 3) := by decide +kernel
theorem dX0_tell_26 : decode cX0_tell 26 = .ok (.iload 4, 2) := by decide +kernel
theorem dX0_tell_28 : decode cX0_tell 28 = .ok (.iastore, 1) := by decide +kernel
theorem dX0_tell_29 : decode cX0_tell 29 = .ok (.aload_n 0, 1) := by decide +kernel
theorem dX0_tell_30 : decode cX0_tell 30 = .ok (.getfield 24, 3) := by decide +kernel
theorem dX0_tell_33 : decode cX0_tell 33 = .ok (.aload_n 0, 1) := by decide +kernel
theorem dX0_tell_34 : decode cX0_tell 34 = .ok (.getfield 33, 3) := by decide +kernel
theorem dX0_tell_37 : decode cX0_tell 37 = .ok (.iload 5, 2) := by decide +kernel
theorem dX0_tell_39 : decode cX0_tell 39 = .ok (.iastore, 1) := by decide +kernel
theorem dX0_tell_40 : decode cX0_tell 40 = .ok (.aload_n 0, 1) := by decide +kernel
theorem dX0_tell_41 : decode cX0_tell 41 = .ok (.getfield 15, 3) := by decide +kernel
theorem dX0_tell_44 : decode cX0_tell 44 = .ok (.aload_n 0, 1) := by decide +kernel
theorem dX0_tell_45 : decode cX0_tell 45 = .ok (.getfield 33, 3) := by decide +kernel
theorem dX0_tell_48 : decode cX0_tell 48 = .ok (.aload_n 0, 1) := by decide +kernel
theorem dX0_tell_49 : decode cX0_tell 49 = .ok (.getfield 9, 3) := by decide +kernel
theorem dX0_tell_52 : decode cX0_tell 52 = .ok (.iload 6, 2) := by decide +kernel
theorem dX0_tell_54 : decode cX0_tell 54 = .ok (.iaload, 1) := by decide +kernel
theorem dX0_tell_55 : decode cX0_tell 55 = .ok (.iastore, 1) := by decide +kernel
theorem dX0_tell_56 : decode cX0_tell 56 = .ok (.aload_n 0, 1) := by decide +kernel
theorem dX0_tell_57 : decode cX0_tell 57 = .ok (.getfield 9, 3) := by decide +kernel
theorem dX0_tell_60 : decode cX0_tell 60 = .ok (.iload 6, 2) := by decide +kernel
theorem dX0_tell_62 : decode cX0_tell 62 = .ok (.aload_n 0, 1) := by decide +kernel
theorem dX0_tell_63 : decode cX0_tell 63 = .ok (.getfield 33, 3) := by decide +kernel
theorem dX0_tell_66 : decode cX0_tell 66 = .ok (.iastore, 1) := by decide +kernel
theorem dX0_tell_67 : decode cX0_tell 67 = .ok (.aload_n 0, 1) := by decide +kernel
theorem dX0_tell_68 : decode cX0_tell 68 = .ok (.dup, 1) := by decide +kernel
theorem dX0_tell_69 : decode cX0_tell 69 = .ok (.getfield 33, 3) := by decide +kernel
theorem dX0_tell_72 : decode cX0_tell 72 = .ok (.iconst 1, 1) := by decide +kernel
theorem dX0_tell_73 : decode cX0_tell 73 = .ok (.iadd, 1) := by decide +kernel
theorem dX0_tell_74 : decode cX0_tell 74 = .ok (.putfield 33, 3) := by decide +kernel
theorem dX0_tell_77 : decode cX0_tell 77 = .ok (.return_, 1) := by decide +kernel
theorem dX0_latest_0 : decode cX0_latest 0 = .ok (.iconst (-1), 1) := by decide +kernel
theorem dX0_latest_1 : decode cX0_latest 1 = .ok (.istore 4, 2) := by decide +kernel
theorem dX0_latest_3 : decode cX0_latest 3 = .ok (.aload_n 0, 1) := by decide +kernel
theorem dX0_latest_4 : decode cX0_latest 4 = .ok (.getfield 9, 3) := by decide +kernel
theorem dX0_latest_7 : decode cX0_latest 7 = .ok (.iload_n 1, 1) := by decide +kernel
theorem dX0_latest_8 : decode cX0_latest 8 = .ok (.bipush 20, 2) := by decide +kernel
theorem dX0_latest_10 : decode cX0_latest 10 = .ok (.imul, 1) := by decide +kernel
theorem dX0_latest_11 : decode cX0_latest 11 = .ok (.iload_n 2, 1) := by decide +kernel
theorem dX0_latest_12 : decode cX0_latest 12 = .ok (.iadd, 1) := by decide +kernel
theorem dX0_latest_13 : decode cX0_latest 13 = .ok (.iaload, 1) := by decide +kernel
theorem dX0_latest_14 : decode cX0_latest 14 = .ok (.istore 5, 2) := by decide +kernel
theorem dX0_latest_16 : decode cX0_latest 16 = .ok (.iconst 0, 1) := by decide +kernel
theorem dX0_latest_17 : decode cX0_latest 17 = .ok (.istore 6, 2) := by decide +kernel
theorem dX0_latest_19 : decode cX0_latest 19 = .ok (.iload 6, 2) := by decide +kernel
theorem dX0_latest_21 : decode cX0_latest 21 = .ok (.aload_n 0, 1) := by decide +kernel
theorem dX0_latest_22 : decode cX0_latest 22 = .ok (.getfield 33, 3) := by decide +kernel
theorem dX0_latest_25 : decode cX0_latest 25 = .ok (.if_icmp .ge 62, 3) := by decide +kernel
theorem dX0_latest_28 : decode cX0_latest 28 = .ok (.iload 5, 2) := by decide +kernel
theorem dX0_latest_30 : decode cX0_latest 30 = .ok (.iconst (-1), 1) := by decide +kernel
theorem dX0_latest_31 : decode cX0_latest 31 = .ok (.if_icmp .eq 56, 3) := by decide +kernel
theorem dX0_latest_34 : decode cX0_latest 34 = .ok (.aload_n 0, 1) := by decide +kernel
theorem dX0_latest_35 : decode cX0_latest 35 = .ok (.getfield 18, 3) := by decide +kernel
theorem dX0_latest_38 : decode cX0_latest 38 = .ok (.iload 5, 2) := by decide +kernel
theorem dX0_latest_40 : decode cX0_latest 40 = .ok (.iaload, 1) := by decide +kernel
theorem dX0_latest_41 : decode cX0_latest 41 = .ok (.iload_n 3, 1) := by decide +kernel
theorem dX0_latest_42 : decode cX0_latest 42 = .ok (.if_icmp .gt 30, 3) := by decide +kernel
theorem dX0_latest_45 : decode cX0_latest 45 = .ok (.iload 4, 2) := by decide +kernel
theorem dX0_latest_47 : decode cX0_latest 47 = .ok (.iconst (-1), 1) := by decide +kernel
theorem dX0_latest_48 : decode cX0_latest 48 = .ok (.if_icmp .eq 20, 3) := by decide +kernel
theorem dX0_latest_51 : decode cX0_latest 51 = .ok (.aload_n 0, 1) := by decide +kernel
theorem dX0_latest_52 : decode cX0_latest 52 = .ok (.getfield 18, 3) := by decide +kernel
theorem dX0_latest_55 : decode cX0_latest 55 = .ok (.iload 5, 2) := by decide +kernel
theorem dX0_latest_57 : decode cX0_latest 57 = .ok (.iaload, 1) := by decide +kernel
theorem dX0_latest_58 : decode cX0_latest 58 = .ok (.aload_n 0, 1) := by decide +kernel
theorem dX0_latest_59 : decode cX0_latest 59 = .ok (.getfield 18, 3) := by decide +kernel
theorem dX0_latest_62 : decode cX0_latest 62 = .ok (.iload 4, 2) := by decide +kernel
theorem dX0_latest_64 : decode cX0_latest 64 = .ok (.iaload, 1) := by decide +kernel
theorem dX0_latest_65 : decode cX0_latest 65 = .ok (.if_icmp .le 7, 3) := by decide +kernel
theorem dX0_latest_68 : decode cX0_latest 68 = .ok (.iload 5, 2) := by decide +kernel
theorem dX0_latest_70 : decode cX0_latest 70 = .ok (.istore 4, 2) := by decide +kernel
theorem dX0_latest_72 : decode cX0_latest 72 = .ok (.aload_n 0, 1) := by decide +kernel
theorem dX0_latest_73 : decode cX0_latest 73 = .ok (.getfield 15, 3) := by decide +kernel
theorem dX0_latest_76 : decode cX0_latest 76 = .ok (.iload 5, 2) := by decide +kernel
theorem dX0_latest_78 : decode cX0_latest 78 = .ok (.iaload, 1) := by decide +kernel
theorem dX0_latest_79 : decode cX0_latest 79 = .ok (.istore 5, 2) := by decide +kernel
theorem dX0_latest_81 : decode cX0_latest 81 = .ok (.iinc 6 1, 3) := by decide +kernel
theorem dX0_latest_84 : decode cX0_latest 84 = .ok (.goto (-65), 3) := by decide +kernel
theorem dX0_latest_87 : decode cX0_latest 87 = .ok (.iload 4, 2) := by decide +kernel
theorem dX0_latest_89 : decode cX0_latest 89 = .ok (.ireturn, 1) := by decide +kernel
theorem dX1_init_0 : decode cX1_init 0 = .ok (.aload_n 0, 1) := by decide +kernel
theorem dX1_init_1 : decode cX1_init 1 = .ok (.invokespecial 3, 3) := by decide +kernel
theorem dX1_init_4 : decode cX1_init 4 = .ok (.aload_n 0, 1) := by decide +kernel
theorem dX1_init_5 : decode cX1_init 5 = .ok (.iload_n 1, 1) := by decide +kernel
theorem dX1_init_6 : decode cX1_init 6 = .ok (.putfield 9, 3) := by decide +kernel
theorem dX1_init_9 : decode cX1_init 9 = .ok (.aload_n 0, 1) := by decide +kernel
theorem dX1_init_10 : decode cX1_init 10 = .ok (.bipush 40, 2) := by decide +kernel
theorem dX1_init_12 : decode cX1_init 12 = .ok (.iload_n 1, 1) := by decide +kernel
theorem dX1_init_13 : decode cX1_init 13 = .ok (.imul, 1) := by decide +kernel
theorem dX1_init_14 : decode cX1_init 14 = .ok (.newarray .int, 2) := by decide +kernel
theorem dX1_init_16 : decode cX1_init 16 = .ok (.putfield 15, 3) := by decide +kernel
theorem dX1_init_19 : decode cX1_init 19 = .ok (.aload_n 0, 1) := by decide +kernel
theorem dX1_init_20 : decode cX1_init 20 = .ok (.getfield 15, 3) := by decide +kernel
theorem dX1_init_23 : decode cX1_init 23 = .ok (.iconst (-1), 1) := by decide +kernel
theorem dX1_init_24 : decode cX1_init 24 = .ok (.invokestatic 19, 3) := by decide +kernel
theorem dX1_init_27 : decode cX1_init 27 = .ok (.return_, 1) := by decide +kernel
theorem dX1_target_0 : decode cX1_target 0 = .ok (.aload_n 0, 1) := by decide +kernel
theorem dX1_target_1 : decode cX1_target 1 = .ok (.getfield 15, 3) := by decide +kernel
theorem dX1_target_4 : decode cX1_target 4 = .ok (.iload_n 1, 1) := by decide +kernel
theorem dX1_target_5 : decode cX1_target 5 = .ok (.aload_n 0, 1) := by decide +kernel
theorem dX1_target_6 : decode cX1_target 6 = .ok (.getfield 9, 3) := by decide +kernel
theorem dX1_target_9 : decode cX1_target 9 = .ok (.imul, 1) := by decide +kernel
theorem dX1_target_10 : decode cX1_target 10 = .ok (.iload_n 2, 1) := by decide +kernel
theorem dX1_target_11 : decode cX1_target 11 = .ok (.iadd, 1) := by decide +kernel
theorem dX1_target_12 : decode cX1_target 12 = .ok (.iaload, 1) := by decide +kernel
theorem dX1_target_13 : decode cX1_target 13 = .ok (.ireturn, 1) := by decide +kernel
theorem dX1_put_0 : decode cX1_put 0 = .ok (.iload_n 1, 1) := by decide +kernel
theorem dX1_put_1 : decode cX1_put 1 = .ok (.aload_n 0, 1) := by decide +kernel
theorem dX1_put_2 : decode cX1_put 2 = .ok (.getfield 9, 3) := by decide +kernel
theorem dX1_put_5 : decode cX1_put 5 = .ok (.imul, 1) := by decide +kernel
theorem dX1_put_6 : decode cX1_put 6 = .ok (.iload_n 2, 1) := by decide +kernel
theorem dX1_put_7 : decode cX1_put 7 = .ok (.iadd, 1) := by decide +kernel
theorem dX1_put_8 : decode cX1_put 8 = .ok (.istore 4, 2) := by decide +kernel
theorem dX1_put_10 : decode cX1_put 10 = .ok (.aload_n 0, 1) := by decide +kernel
theorem dX1_put_11 : decode cX1_put 11 = .ok (.getfield 15, 3) := by decide +kernel
theorem dX1_put_14 : decode cX1_put 14 = .ok (.iload 4, 2) := by decide +kernel
theorem dX1_put_16 : decode cX1_put 16 = .ok (.iaload, 1) := by decide +kernel
theorem dX1_put_17 : decode cX1_put 17 = .ok (.iconst (-1), 1) := by decide +kernel
theorem dX1_put_18 : decode cX1_put 18 = .ok (.if_icmp .eq 13, 3) := by decide +kernel
theorem dX1_put_21 : decode cX1_put 21 = .ok (.aload_n 0, 1) := by decide +kernel
theorem dX1_put_22 : decode cX1_put 22 = .ok (.dup, 1) := by decide +kernel
theorem dX1_put_23 : decode cX1_put 23 = .ok (.getfield 25, 3) := by decide +kernel
theorem dX1_put_26 : decode cX1_put 26 = .ok (.iconst 1, 1) := by decide +kernel
theorem dX1_put_27 : decode cX1_put 27 = .ok (.isub, 1) := by decide +kernel
theorem dX1_put_28 : decode cX1_put 28 = .ok (.putfield 25, 3) := by decide +kernel
theorem dX1_put_31 : decode cX1_put 31 = .ok (.iload_n 3, 1) := by decide +kernel
theorem dX1_put_32 : decode cX1_put 32 = .ok (.iconst (-1), 1) := by decide +kernel
theorem dX1_put_33 : decode cX1_put 33 = .ok (.if_icmp .eq 13, 3) := by decide +kernel
theorem dX1_put_36 : decode cX1_put 36 = .ok (.aload_n 0, 1) := by decide +kernel
theorem dX1_put_37 : decode cX1_put 37 = .ok (.dup, 1) := by decide +kernel
theorem dX1_put_38 : decode cX1_put 38 = .ok (.getfield 25, 3) := by decide +kernel
theorem dX1_put_41 : decode cX1_put 41 = .ok (.iconst 1, 1) := by decide +kernel
theorem dX1_put_42 : decode cX1_put 42 = .ok (.iadd, 1) := by decide +kernel
theorem dX1_put_43 : decode cX1_put 43 = .ok (.putfield 25, 3) := by decide +kernel
theorem dX1_put_46 : decode cX1_put 46 = .ok (.aload_n 0, 1) := by decide +kernel
theorem dX1_put_47 : decode cX1_put 47 = .ok (.getfield 15, 3) := by decide +kernel
theorem dX1_put_50 : decode cX1_put 50 = .ok (.iload 4, 2) := by decide +kernel
theorem dX1_put_52 : decode cX1_put 52 = .ok (.iload_n 3, 1) := by decide +kernel
theorem dX1_put_53 : decode cX1_put 53 = .ok (.iastore, 1) := by decide +kernel
theorem dX1_put_54 : decode cX1_put 54 = .ok (.return_, 1) := by decide +kernel
theorem dX2_init_0 : decode cX2_init 0 = .ok (.aload_n 0, 1) := by decide +kernel
theorem dX2_init_1 : decode cX2_init 1 = .ok (.invokespecial 3, 3) := by decide +kernel
theorem dX2_init_4 : decode cX2_init 4 = .ok (.aload_n 0, 1) := by decide +kernel
theorem dX2_init_5 : decode cX2_init 5 = .ok (.bipush 40, 2) := by decide +kernel
theorem dX2_init_7 : decode cX2_init 7 = .ok (.newarray .int, 2) := by decide +kernel
theorem dX2_init_9 : decode cX2_init 9 = .ok (.putfield 9, 3) := by decide +kernel
theorem dX2_init_12 : decode cX2_init 12 = .ok (.aload_n 0, 1) := by decide +kernel
theorem dX2_init_13 : decode cX2_init 13 = .ok (.bipush 40, 2) := by decide +kernel
theorem dX2_init_15 : decode cX2_init 15 = .ok (.newarray .int, 2) := by decide +kernel
theorem dX2_init_17 : decode cX2_init 17 = .ok (.putfield 13, 3) := by decide +kernel
theorem dX2_init_20 : decode cX2_init 20 = .ok (.aload_n 0, 1) := by decide +kernel
theorem dX2_init_21 : decode cX2_init 21 = .ok (.new 16, 3) := by decide +kernel
theorem dX2_init_24 : decode cX2_init 24 = .ok (.dup, 1) := by decide +kernel
theorem dX2_init_25 : decode cX2_init 25 = .ok (.invokespecial 18, 3) := by decide +kernel
theorem dX2_init_28 : decode cX2_init 28 = .ok (.putfield 19, 3) := by decide +kernel
theorem dX2_init_31 : decode cX2_init 31 = .ok (.aload_n 0, 1) := by decide +kernel
theorem dX2_init_32 : decode cX2_init 32 = .ok (.new 23, 3) := by decide +kernel
theorem dX2_init_35 : decode cX2_init 35 = .ok (.dup, 1) := by decide +kernel
theorem dX2_init_36 : decode cX2_init 36 = .ok (.bipush 10, 2) := by decide +kernel
theorem dX2_init_38 : decode cX2_init 38 = .ok (.invokespecial 25, 3) := by decide +kernel
theorem dX2_init_41 : decode cX2_init 41 = .ok (.putfield 28, 3) := by decide +kernel
theorem dX2_init_44 : decode cX2_init 44 = .ok (.aload_n 0, 1) := by decide +kernel
theorem dX2_init_45 : decode cX2_init 45 = .ok (.new 23, 3) := by decide +kernel
theorem dX2_init_48 : decode cX2_init 48 = .ok (.dup, 1) := by decide +kernel
theorem dX2_init_49 : decode cX2_init 49 = .ok (.bipush 32, 2) := by decide +kernel
theorem dX2_init_51 : decode cX2_init 51 = .ok (.invokespecial 25, 3) := by decide +kernel
theorem dX2_init_54 : decode cX2_init 54 = .ok (.putfield 32, 3) := by decide +kernel
theorem dX2_init_57 : decode cX2_init 57 = .ok (.aload_n 0, 1) := by decide +kernel
theorem dX2_init_58 : decode cX2_init 58 = .ok (.bipush 60, 2) := by decide +kernel
theorem dX2_init_60 : decode cX2_init 60 = .ok (.newarray .int, 2) := by decide +kernel
theorem dX2_init_62 : decode cX2_init 62 = .ok (.putfield 35, 3) := by decide +kernel
theorem dX2_init_65 : decode cX2_init 65 = .ok (.aload_n 0, 1) := by decide +kernel
theorem dX2_init_66 : decode cX2_init 66 = .ok (.bipush 60, 2) := by decide +kernel
theorem dX2_init_68 : decode cX2_init 68 = .ok (.newarray .int, 2) := by decide +kernel
theorem dX2_init_70 : decode cX2_init 70 = .ok (.putfield 38, 3) := by decide +kernel
theorem dX2_init_73 : decode cX2_init 73 = .ok (.aload_n 0, 1) := by decide +kernel
theorem dX2_init_74 : decode cX2_init 74 = .ok (.bipush 60, 2) := by decide +kernel
theorem dX2_init_76 : decode cX2_init 76 = .ok (.newarray .int, 2) := by decide +kernel
theorem dX2_init_78 : decode cX2_init 78 = .ok (.putfield 41, 3) := by decide +kernel
theorem dX2_init_81 : decode cX2_init 81 = .ok (.aload_n 0, 1) := by decide +kernel
theorem dX2_init_82 : decode cX2_init 82 = .ok (.sipush 960, 3) := by decide +kernel
theorem dX2_init_85 : decode cX2_init 85 = .ok (.newarray .int, 2) := by decide +kernel
theorem dX2_init_87 : decode cX2_init 87 = .ok (.putfield 44, 3) := by decide +kernel
theorem dX2_init_90 : decode cX2_init 90 = .ok (.aload_n 0, 1) := by decide +kernel
theorem dX2_init_91 : decode cX2_init 91 = .ok (.bipush 20, 2) := by decide +kernel
theorem dX2_init_93 : decode cX2_init 93 = .ok (.newarray .int, 2) := by decide +kernel
theorem dX2_init_95 : decode cX2_init 95 = .ok (.putfield 47, 3) := by decide +kernel
theorem dX2_init_98 : decode cX2_init 98 = .ok (.return_, 1) := by decide +kernel
theorem dX2_kind_0 : decode cX2_kind 0 = .ok (.aload_n 0, 1) := by decide +kernel
theorem dX2_kind_1 : decode cX2_kind 1 = .ok (.iload_n 1, 1) := by decide +kernel
theorem dX2_kind_2 : decode cX2_kind 2 = .ok (.invokevirtual 50, 3) := by decide +kernel
theorem dX2_kind_5 : decode cX2_kind 5 = .ok (.invokestatic 54, 3) := by decide +kernel
theorem dX2_kind_8 : decode cX2_kind 8 = .ok (.aload_n 0, 1) := by decide +kernel
theorem dX2_kind_9 : decode cX2_kind 9 = .ok (.getfield 58, 3) := by decide +kernel
theorem dX2_kind_12 : decode cX2_kind 12 = .ok (.bipush 40, 2) := by decide +kernel
theorem dX2_kind_14 : decode cX2_kind 14 = .ok (.if_icmp .ge 7, 3) := by decide +kernel
theorem dX2_kind_17 : decode cX2_kind 17 = .ok (.iconst 1, 1) := by decide +kernel
theorem dX2_kind_18 : decode cX2_kind 18 = .ok (.goto 4, 3) := by decide +kernel
theorem dX2_kind_21 : decode cX2_kind 21 = .ok (.iconst 0, 1) := by decide +kernel
theorem dX2_kind_22 : decode cX2_kind 22 = .ok (.invokestatic 62, 3) := by decide +kernel
theorem dX2_kind_25 : decode cX2_kind 25 = .ok (.aload_n 0, 1) := by decide +kernel
theorem dX2_kind_26 : decode cX2_kind 26 = .ok (.getfield 58, 3) := by decide +kernel
theorem dX2_kind_29 : decode cX2_kind 29 = .ok (.istore_n 2, 1) := by decide +kernel
theorem dX2_kind_30 : decode cX2_kind 30 = .ok (.aload_n 0, 1) := by decide +kernel
theorem dX2_kind_31 : decode cX2_kind 31 = .ok (.getfield 9, 3) := by decide +kernel
theorem dX2_kind_34 : decode cX2_kind 34 = .ok (.iload_n 2, 1) := by decide +kernel
theorem dX2_kind_35 : decode cX2_kind 35 = .ok (.iload_n 1, 1) := by decide +kernel
theorem dX2_kind_36 : decode cX2_kind 36 = .ok (.iastore, 1) := by decide +kernel
theorem dX2_kind_37 : decode cX2_kind 37 = .ok (.aload_n 0, 1) := by decide +kernel
theorem dX2_kind_38 : decode cX2_kind 38 = .ok (.getfield 13, 3) := by decide +kernel
theorem dX2_kind_41 : decode cX2_kind 41 = .ok (.iload_n 2, 1) := by decide +kernel
theorem dX2_kind_42 : decode cX2_kind 42 = .ok (.iconst (-1), 1) := by decide +kernel
theorem dX2_kind_43 : decode cX2_kind 43 = .ok (.iastore, 1) := by decide +kernel
theorem dX2_kind_44 : decode cX2_kind 44 = .ok (.aload_n 0, 1) := by decide +kernel
theorem dX2_kind_45 : decode cX2_kind 45 = .ok (.dup, 1) := by decide +kernel
theorem dX2_kind_46 : decode cX2_kind 46 = .ok (.getfield 58, 3) := by decide +kernel
theorem dX2_kind_49 : decode cX2_kind 49 = .ok (.iconst 1, 1) := by decide +kernel
theorem dX2_kind_50 : decode cX2_kind 50 = .ok (.iadd, 1) := by decide +kernel
theorem dX2_kind_51 : decode cX2_kind 51 = .ok (.putfield 58, 3) := by decide +kernel
theorem dX2_kind_54 : decode cX2_kind 54 = .ok (.iload_n 2, 1) := by decide +kernel
theorem dX2_kind_55 : decode cX2_kind 55 = .ok (.ireturn, 1) := by decide +kernel
theorem dX2_parent_0 : decode cX2_parent 0 = .ok (.aload_n 0, 1) := by decide +kernel
theorem dX2_parent_1 : decode cX2_parent 1 = .ok (.iload_n 1, 1) := by decide +kernel
theorem dX2_parent_2 : decode cX2_parent 2 = .ok (.invokevirtual 65, 3) := by decide +kernel
theorem dX2_parent_5 : decode cX2_parent 5 = .ok (.ifCond .eq 15, 3) := by decide +kernel
theorem dX2_parent_8 : decode cX2_parent 8 = .ok (.aload_n 0, 1) := by decide +kernel
theorem dX2_parent_9 : decode cX2_parent 9 = .ok (.iload_n 2, 1) := by decide +kernel
theorem dX2_parent_10 : decode cX2_parent 10 = .ok (.invokevirtual 50, 3) := by decide +kernel
theorem dX2_parent_13 : decode cX2_parent 13 = .ok (.ifCond .eq 7, 3) := by decide +kernel
theorem dX2_parent_16 : decode cX2_parent 16 = .ok (.iconst 1, 1) := by decide +kernel
theorem dX2_parent_17 : decode cX2_parent 17 = .ok (.goto 4, 3) := by decide +kernel
theorem dX2_parent_20 : decode cX2_parent 20 = .ok (.iconst 0, 1) := by decide +kernel
theorem dX2_parent_21 : decode cX2_parent 21 = .ok (.invokestatic 54, 3) := by decide +kernel
theorem dX2_parent_24 : decode cX2_parent 24 = .ok (.aload_n 0, 1) := by decide +kernel
theorem dX2_parent_25 : decode cX2_parent 25 = .ok (.getfield 9, 3) := by decide +kernel
theorem dX2_parent_28 : decode cX2_parent 28 = .ok (.iload_n 1, 1) := by decide +kernel
theorem dX2_parent_29 : decode cX2_parent 29 = .ok (.iaload, 1) := by decide +kernel
theorem dX2_parent_30 : decode cX2_parent 30 = .ok (.iload_n 2, 1) := by decide +kernel
theorem dX2_parent_31 : decode cX2_parent 31 = .ok (.if_icmp .eq 16, 3) := by decide +kernel
theorem dX2_parent_34 : decode cX2_parent 34 = .ok (.aload_n 0, 1) := by decide +kernel
theorem dX2_parent_35 : decode cX2_parent 35 = .ok (.iload_n 1, 1) := by decide +kernel
theorem dX2_parent_36 : decode cX2_parent 36 = .ok (.iload_n 2, 1) := by decide +kernel
theorem dX2_parent_37 : decode cX2_parent 37 = .ok (.invokevirtual 68, 3) := by decide +kernel
theorem dX2_parent_40 : decode cX2_parent 40 = .ok (.ifCond .ne 7, 3) := by decide +kernel
theorem dX2_parent_43 : decode cX2_parent 43 = .ok (.iconst 1, 1) := by decide +kernel
theorem dX2_parent_44 : decode cX2_parent 44 = .ok (.goto 4, 3) := by decide +kernel
theorem dX2_parent_47 : decode cX2_parent 47 = .ok (.iconst 0, 1) := by decide +kernel
theorem dX2_parent_48 : decode cX2_parent 48 = .ok (.invokestatic 72, 3) := by decide +kernel
theorem dX2_parent_51 : decode cX2_parent 51 = .ok (.aload_n 0, 1) := by decide +kernel
theorem dX2_parent_52 : decode cX2_parent 52 = .ok (.getfield 9, 3) := by decide +kernel
theorem dX2_parent_55 : decode cX2_parent 55 = .ok (.iload_n 1, 1) := by decide +kernel
theorem dX2_parent_56 : decode cX2_parent 56 = .ok (.iload_n 2, 1) := by decide +kernel
theorem dX2_parent_57 : decode cX2_parent 57 = .ok (.iastore, 1) := by decide +kernel
theorem dX2_parent_58 : decode cX2_parent 58 = .ok (.return_, 1) := by decide +kernel
theorem dX2_says_0 : decode cX2_says 0 = .ok (.aload_n 0, 1) := by decide +kernel
theorem dX2_says_1 : decode cX2_says 1 = .ok (.iload_n 1, 1) := by decide +kernel
theorem dX2_says_2 : decode cX2_says 2 = .ok (.invokevirtual 65, 3) := by decide +kernel
theorem dX2_says_5 : decode cX2_says 5 = .ok (.ifCond .eq 15, 3) := by decide +kernel
theorem dX2_says_8 : decode cX2_says 8 = .ok (.iload_n 2, 1) := by decide +kernel
theorem dX2_says_9 : decode cX2_says 9 = .ok (.iconst 4, 1) := by decide +kernel
theorem dX2_says_10 : decode cX2_says 10 = .ok (.invokestatic 75, 3) := by decide +kernel
theorem dX2_says_13 : decode cX2_says 13 = .ok (.ifCond .eq 7, 3) := by decide +kernel
theorem dX2_says_16 : decode cX2_says 16 = .ok (.iconst 1, 1) := by decide +kernel
theorem dX2_says_17 : decode cX2_says 17 = .ok (.goto 4, 3) := by decide +kernel
theorem dX2_says_20 : decode cX2_says 20 = .ok (.iconst 0, 1) := by decide +kernel
theorem dX2_says_21 : decode cX2_says 21 = .ok (.invokestatic 54, 3) := by decide +kernel
theorem dX2_says_24 : decode cX2_says 24 = .ok (.iload_n 3, 1) := by decide +kernel
theorem dX2_says_25 : decode cX2_says 25 = .ok (.invokestatic 78, 3) := by decide +kernel
theorem dX2_says_28 : decode cX2_says 28 = .ok (.ifCond .eq 23, 3) := by decide +kernel
theorem dX2_says_31 : decode cX2_says 31 = .ok (.iload 4, 2) := by decide +kernel
theorem dX2_says_33 : decode cX2_says 33 = .ok (.iconst (-1), 1) := by decide +kernel
theorem dX2_says_34 : decode cX2_says 34 = .ok (.if_icmp .lt 17, 3) := by decide +kernel
theorem dX2_says_37 : decode cX2_says 37 = .ok (.iload 4, 2) := by decide +kernel
theorem dX2_says_39 : decode cX2_says 39 = .ok (.getstatic 81, 3) := by decide +kernel
theorem dX2_says_42 : decode cX2_says 42 = .ok (.iload_n 2, 1) := by decide +kernel
theorem dX2_says_43 : decode cX2_says 43 = .ok (.iaload, 1) := by decide +kernel
theorem dX2_says_44 : decode cX2_says 44 = .ok (.if_icmp .gt 7, 3) := by decide +kernel
theorem dX2_says_47 : decode cX2_says 47 = .ok (.iconst 1, 1) := by decide +kernel
theorem dX2_says_48 : decode cX2_says 48 = .ok (.goto 4, 3) := by decide +kernel
theorem dX2_says_51 : decode cX2_says 51 = .ok (.iconst 0, 1) := by decide +kernel
theorem dX2_says_52 : decode cX2_says 52 = .ok (.invokestatic 84, 3) := by decide +kernel
theorem dX2_says_55 : decode cX2_says 55 = .ok (.aload_n 0, 1) := by decide +kernel
theorem dX2_says_56 : decode cX2_says 56 = .ok (.getfield 19, 3) := by decide +kernel
theorem dX2_says_59 : decode cX2_says 59 = .ok (.invokevirtual 87, 3) := by decide +kernel
theorem dX2_says_62 : decode cX2_says 62 = .ok (.invokestatic 62, 3) := by decide +kernel
theorem dX2_says_65 : decode cX2_says 65 = .ok (.aload_n 0, 1) := by decide +kernel
theorem dX2_says_66 : decode cX2_says 66 = .ok (.getfield 19, 3) := by decide +kernel
theorem dX2_says_69 : decode cX2_says 69 = .ok (.iload_n 1, 1) := by decide +kernel
theorem dX2_says_70 : decode cX2_says 70 = .ok (.iload_n 2, 1) := by decide +kernel
theorem dX2_says_71 : decode cX2_says 71 = .ok (.iload_n 3, 1) := by decide +kernel
theorem dX2_says_72 : decode cX2_says 72 = .ok (.iload 4, 2) := by decide +kernel
theorem dX2_says_74 : decode cX2_says 74 = .ok (.iconst (-1), 1) := by decide +kernel
theorem dX2_says_75 : decode cX2_says 75 = .ok (.if_icmp .ne 7, 3) := by decide +kernel
theorem dX2_says_78 : decode cX2_says 78 = .ok (.iconst 0, 1) := by decide +kernel
theorem dX2_says_79 : decode cX2_says 79 = .ok (.goto 4, 3) := by decide +kernel
theorem dX2_says_82 : decode cX2_says 82 = .ok (.iconst 1, 1) := by decide +kernel
theorem dX2_says_83 : decode cX2_says 83 = .ok (.iload 4, 2) := by decide +kernel
theorem dX2_says_85 : decode cX2_says 85 = .ok (.invokevirtual 91, 3) := by decide +kernel
theorem dX2_says_88 : decode cX2_says 88 = .ok (.return_, 1) := by decide +kernel
theorem dX2_need_0 : decode cX2_need 0 = .ok (.aload_n 0, 1) := by decide +kernel
theorem dX2_need_1 : decode cX2_need 1 = .ok (.iload_n 1, 1) := by decide +kernel
theorem dX2_need_2 : decode cX2_need 2 = .ok (.invokevirtual 65, 3) := by decide +kernel
theorem dX2_need_5 : decode cX2_need 5 = .ok (.ifCond .eq 16, 3) := by decide +kernel
theorem dX2_need_8 : decode cX2_need 8 = .ok (.iload_n 2, 1) := by decide +kernel
theorem dX2_need_9 : decode cX2_need 9 = .ok (.bipush 16, 2) := by decide +kernel
theorem dX2_need_11 : decode cX2_need 11 = .ok (.invokestatic 75, 3) := by decide +kernel
theorem dX2_need_14 : decode cX2_need 14 = .ok (.ifCond .eq 7, 3) := by decide +kernel
theorem dX2_need_17 : decode cX2_need 17 = .ok (.iconst 1, 1) := by decide +kernel
theorem dX2_need_18 : decode cX2_need 18 = .ok (.goto 4, 3) := by decide +kernel
theorem dX2_need_21 : decode cX2_need 21 = .ok (.iconst 0, 1) := by decide +kernel
theorem dX2_need_22 : decode cX2_need 22 = .ok (.invokestatic 54, 3) := by decide +kernel
theorem dX2_need_25 : decode cX2_need 25 = .ok (.iload_n 3, 1) := by decide +kernel
theorem dX2_need_26 : decode cX2_need 26 = .ok (.invokestatic 78, 3) := by decide +kernel
theorem dX2_need_29 : decode cX2_need 29 = .ok (.ifCond .eq 30, 3) := by decide +kernel
theorem dX2_need_32 : decode cX2_need 32 = .ok (.iload 4, 2) := by decide +kernel
theorem dX2_need_34 : decode cX2_need 34 = .ok (.ifCond .lt 25, 3) := by decide +kernel
theorem dX2_need_37 : decode cX2_need 37 = .ok (.iload 4, 2) := by decide +kernel
theorem dX2_need_39 : decode cX2_need 39 = .ok (.iconst 2, 1) := by decide +kernel
theorem dX2_need_40 : decode cX2_need 40 = .ok (.if_icmp .gt 19, 3) := by decide +kernel
theorem dX2_need_43 : decode cX2_need 43 = .ok (.iload 5, 2) := by decide +kernel
theorem dX2_need_45 : decode cX2_need 45 = .ok (.ifCond .lt 14, 3) := by decide +kernel
theorem dX2_need_48 : decode cX2_need 48 = .ok (.iload 5, 2) := by decide +kernel
theorem dX2_need_50 : decode cX2_need 50 = .ok (.bipush 20, 2) := by decide +kernel
theorem dX2_need_52 : decode cX2_need 52 = .ok (.if_icmp .gt 7, 3) := by decide +kernel
theorem dX2_need_55 : decode cX2_need 55 = .ok (.iconst 1, 1) := by decide +kernel
theorem dX2_need_56 : decode cX2_need 56 = .ok (.goto 4, 3) := by decide +kernel
theorem dX2_need_59 : decode cX2_need 59 = .ok (.iconst 0, 1) := by decide +kernel
theorem dX2_need_60 : decode cX2_need 60 = .ok (.invokestatic 84, 3) := by decide +kernel
theorem dX2_need_63 : decode cX2_need 63 = .ok (.aload_n 0, 1) := by decide +kernel
theorem dX2_need_64 : decode cX2_need 64 = .ok (.getfield 19, 3) := by decide +kernel
theorem dX2_need_67 : decode cX2_need 67 = .ok (.invokevirtual 87, 3) := by decide +kernel
theorem dX2_need_70 : decode cX2_need 70 = .ok (.invokestatic 62, 3) := by decide +kernel
theorem dX2_need_73 : decode cX2_need 73 = .ok (.aload_n 0, 1) := by decide +kernel
theorem dX2_need_74 : decode cX2_need 74 = .ok (.getfield 19, 3) := by decide +kernel
theorem dX2_need_77 : decode cX2_need 77 = .ok (.iload_n 1, 1) := by decide +kernel
theorem dX2_need_78 : decode cX2_need 78 = .ok (.iconst 4, 1) := by decide +kernel
theorem dX2_need_79 : decode cX2_need 79 = .ok (.iload_n 2, 1) := by decide +kernel
theorem dX2_need_80 : decode cX2_need 80 = .ok (.iadd, 1) := by decide +kernel
theorem dX2_need_81 : decode cX2_need 81 = .ok (.iload_n 3, 1) := by decide +kernel
theorem dX2_need_82 : decode cX2_need 82 = .ok (.iload 4, 2) := by decide +kernel
theorem dX2_need_84 : decode cX2_need 84 = .ok (.iload 5, 2) := by decide +kernel
theorem dX2_need_86 : decode cX2_need 86 = .ok (.invokevirtual 91, 3) := by decide +kernel
theorem dX2_need_89 : decode cX2_need 89 = .ok (.return_, 1) := by decide +kernel
theorem dX2_close_0 : decode cX2_close 0 = .ok (.aload_n 0, 1) := by decide +kernel
theorem dX2_close_1 : decode cX2_close 1 = .ok (.iload_n 1, 1) := by decide +kernel
theorem dX2_close_2 : decode cX2_close 2 = .ok (.invokevirtual 65, 3) := by decide +kernel
theorem dX2_close_5 : decode cX2_close 5 = .ok (.invokestatic 54, 3) := by decide +kernel
theorem dX2_close_8 : decode cX2_close 8 = .ok (.iload_n 2, 1) := by decide +kernel
theorem dX2_close_9 : decode cX2_close 9 = .ok (.iconst (-1), 1) := by decide +kernel
theorem dX2_close_10 : decode cX2_close 10 = .ok (.if_icmp .eq 10, 3) := by decide +kernel
theorem dX2_close_13 : decode cX2_close 13 = .ok (.iload_n 2, 1) := by decide +kernel
theorem dX2_close_14 : decode cX2_close 14 = .ok (.invokestatic 78, 3) := by decide +kernel
theorem dX2_close_17 : decode cX2_close 17 = .ok (.ifCond .eq 7, 3) := by decide +kernel
theorem dX2_close_20 : decode cX2_close 20 = .ok (.iconst 1, 1) := by decide +kernel
theorem dX2_close_21 : decode cX2_close 21 = .ok (.goto 4, 3) := by decide +kernel
theorem dX2_close_24 : decode cX2_close 24 = .ok (.iconst 0, 1) := by decide +kernel
theorem dX2_close_25 : decode cX2_close 25 = .ok (.invokestatic 84, 3) := by decide +kernel
theorem dX2_close_28 : decode cX2_close 28 = .ok (.aload_n 0, 1) := by decide +kernel
theorem dX2_close_29 : decode cX2_close 29 = .ok (.getfield 13, 3) := by decide +kernel
theorem dX2_close_32 : decode cX2_close 32 = .ok (.iload_n 1, 1) := by decide +kernel
theorem dX2_close_33 : decode cX2_close 33 = .ok (.iload_n 2, 1) := by decide +kernel
theorem dX2_close_34 : decode cX2_close 34 = .ok (.iastore, 1) := by decide +kernel
theorem dX2_close_35 : decode cX2_close 35 = .ok (.return_, 1) := by decide +kernel
theorem dX2_area_0 : decode cX2_area 0 = .ok (.aload_n 0, 1) := by decide +kernel
theorem dX2_area_1 : decode cX2_area 1 = .ok (.iload_n 1, 1) := by decide +kernel
theorem dX2_area_2 : decode cX2_area 2 = .ok (.invokevirtual 65, 3) := by decide +kernel
theorem dX2_area_5 : decode cX2_area 5 = .ok (.ifCond .eq 15, 3) := by decide +kernel
theorem dX2_area_8 : decode cX2_area 8 = .ok (.aload_n 0, 1) := by decide +kernel
theorem dX2_area_9 : decode cX2_area 9 = .ok (.iload_n 3, 1) := by decide +kernel
theorem dX2_area_10 : decode cX2_area 10 = .ok (.invokevirtual 50, 3) := by decide +kernel
theorem dX2_area_13 : decode cX2_area 13 = .ok (.ifCond .eq 7, 3) := by decide +kernel
theorem dX2_area_16 : decode cX2_area 16 = .ok (.iconst 1, 1) := by decide +kernel
theorem dX2_area_17 : decode cX2_area 17 = .ok (.goto 4, 3) := by decide +kernel
theorem dX2_area_20 : decode cX2_area 20 = .ok (.iconst 0, 1) := by decide +kernel
theorem dX2_area_21 : decode cX2_area 21 = .ok (.invokestatic 54, 3) := by decide +kernel
theorem dX2_area_24 : decode cX2_area 24 = .ok (.iload_n 2, 1) := by decide +kernel
theorem dX2_area_25 : decode cX2_area 25 = .ok (.bipush 10, 2) := by decide +kernel
theorem dX2_area_27 : decode cX2_area 27 = .ok (.invokestatic 75, 3) := by decide +kernel
theorem dX2_area_30 : decode cX2_area 30 = .ok (.invokestatic 84, 3) := by decide +kernel
theorem dX2_area_33 : decode cX2_area 33 = .ok (.aload_n 0, 1) := by decide +kernel
theorem dX2_area_34 : decode cX2_area 34 = .ok (.iload_n 3, 1) := by decide +kernel
theorem dX2_area_35 : decode cX2_area 35 = .ok (.iload_n 2, 1) := by decide +kernel
theorem dX2_area_36 : decode cX2_area 36 = .ok (.iload_n 1, 1) := by decide +kernel
theorem dX2_area_37 : decode cX2_area 37 = .ok (.invokevirtual 95, 3) := by decide +kernel
theorem dX2_area_40 : decode cX2_area 40 = .ok (.ifCond .ne 7, 3) := by decide +kernel
theorem dX2_area_43 : decode cX2_area 43 = .ok (.iconst 1, 1) := by decide +kernel
theorem dX2_area_44 : decode cX2_area 44 = .ok (.goto 4, 3) := by decide +kernel
theorem dX2_area_47 : decode cX2_area 47 = .ok (.iconst 0, 1) := by decide +kernel
theorem dX2_area_48 : decode cX2_area 48 = .ok (.invokestatic 72, 3) := by decide +kernel
theorem dX2_area_51 : decode cX2_area 51 = .ok (.aload_n 0, 1) := by decide +kernel
theorem dX2_area_52 : decode cX2_area 52 = .ok (.getfield 28, 3) := by decide +kernel
theorem dX2_area_55 : decode cX2_area 55 = .ok (.iload_n 1, 1) := by decide +kernel
theorem dX2_area_56 : decode cX2_area 56 = .ok (.iload_n 2, 1) := by decide +kernel
theorem dX2_area_57 : decode cX2_area 57 = .ok (.iload_n 3, 1) := by decide +kernel
theorem dX2_area_58 : decode cX2_area 58 = .ok (.invokevirtual 99, 3) := by decide +kernel
theorem dX2_area_61 : decode cX2_area 61 = .ok (.return_, 1) := by decide +kernel
theorem dX2_upgrade_0 : decode cX2_upgrade 0 = .ok (.aload_n 0, 1) := by decide +kernel
theorem dX2_upgrade_1 : decode cX2_upgrade 1 = .ok (.iload_n 1, 1) := by decide +kernel
theorem dX2_upgrade_2 : decode cX2_upgrade 2 = .ok (.invokevirtual 65, 3) := by decide +kernel
theorem dX2_upgrade_5 : decode cX2_upgrade 5 = .ok (.ifCond .eq 15, 3) := by decide +kernel
theorem dX2_upgrade_8 : decode cX2_upgrade 8 = .ok (.aload_n 0, 1) := by decide +kernel
theorem dX2_upgrade_9 : decode cX2_upgrade 9 = .ok (.iload_n 3, 1) := by decide +kernel
theorem dX2_upgrade_10 : decode cX2_upgrade 10 = .ok (.invokevirtual 50, 3) := by decide +kernel
theorem dX2_upgrade_13 : decode cX2_upgrade 13 = .ok (.ifCond .eq 7, 3) := by decide +kernel
theorem dX2_upgrade_16 : decode cX2_upgrade 16 = .ok (.iconst 1, 1) := by decide +kernel
theorem dX2_upgrade_17 : decode cX2_upgrade 17 = .ok (.goto 4, 3) := by decide +kernel
theorem dX2_upgrade_20 : decode cX2_upgrade 20 = .ok (.iconst 0, 1) := by decide +kernel
theorem dX2_upgrade_21 : decode cX2_upgrade 21 = .ok (.invokestatic 54, 3) := by decide +kernel
theorem dX2_upgrade_24 : decode cX2_upgrade 24 = .ok (.iload_n 2, 1) := by decide +kernel
theorem dX2_upgrade_25 : decode cX2_upgrade 25 = .ok (.bipush 32, 2) := by decide +kernel
theorem dX2_upgrade_27 : decode cX2_upgrade 27 = .ok (.invokestatic 75, 3) := by decide +kernel
theorem dX2_upgrade_30 : decode cX2_upgrade 30 = .ok (.invokestatic 84, 3) := by decide +kernel
theorem dX2_upgrade_33 : decode cX2_upgrade 33 = .ok (.iload_n 3, 1) := by decide +kernel
theorem dX2_upgrade_34 : decode cX2_upgrade 34 = .ok (.iload_n 1, 1) := by decide +kernel
theorem dX2_upgrade_35 : decode cX2_upgrade 35 = .ok (.if_icmp .eq 7, 3) := by decide +kernel
theorem dX2_upgrade_38 : decode cX2_upgrade 38 = .ok (.iconst 1, 1) := by decide +kernel
theorem dX2_upgrade_39 : decode cX2_upgrade 39 = .ok (.goto 4, 3) := by decide +kernel
theorem dX2_upgrade_42 : decode cX2_upgrade 42 = .ok (.iconst 0, 1) := by decide +kernel
theorem dX2_upgrade_43 : decode cX2_upgrade 43 = .ok (.invokestatic 72, 3) := by decide +kernel
theorem dX2_upgrade_46 : decode cX2_upgrade 46 = .ok (.iload_n 3, 1) := by decide +kernel
theorem dX2_upgrade_47 : decode cX2_upgrade 47 = .ok (.iconst (-1), 1) := by decide +kernel
theorem dX2_upgrade_48 : decode cX2_upgrade 48 = .ok (.if_icmp .eq 28, 3) := by decide +kernel
theorem dX2_upgrade_51 : decode cX2_upgrade 51 = .ok (.aload_n 0, 1) := by decide +kernel
theorem dX2_upgrade_52 : decode cX2_upgrade 52 = .ok (.getfield 32, 3) := by decide +kernel
theorem dX2_upgrade_55 : decode cX2_upgrade 55 = .ok (.iload_n 1, 1) := by decide +kernel
theorem dX2_upgrade_56 : decode cX2_upgrade 56 = .ok (.iload_n 2, 1) := by decide +kernel
theorem dX2_upgrade_57 : decode cX2_upgrade 57 = .ok (.invokevirtual 103, 3) := by decide +kernel
theorem dX2_upgrade_60 : decode cX2_upgrade 60 = .ok (.iconst (-1), 1) := by decide +kernel
theorem dX2_upgrade_61 : decode cX2_upgrade 61 = .ok (.if_icmp .ne 15, 3) := by decide +kernel
theorem dX2_upgrade_64 : decode cX2_upgrade 64 = .ok (.aload_n 0, 1) := by decide +kernel
theorem dX2_upgrade_65 : decode cX2_upgrade 65 = .ok (.getfield 32, 3) := by decide +kernel
theorem dX2_upgrade_68 : decode cX2_upgrade 68 = .ok (.getfield 107, 3) := by decide +kernel
theorem dX2_upgrade_71 : decode cX2_upgrade 71 = .ok (.bipush 100, 2) := by decide +kernel
theorem dX2_upgrade_73 : decode cX2_upgrade 73 = .ok (.if_icmp .ge 7, 3) := by decide +kernel
theorem dX2_upgrade_76 : decode cX2_upgrade 76 = .ok (.iconst 1, 1) := by decide +kernel
theorem dX2_upgrade_77 : decode cX2_upgrade 77 = .ok (.goto 4, 3) := by decide +kernel
theorem dX2_upgrade_80 : decode cX2_upgrade 80 = .ok (.iconst 0, 1) := by decide +kernel
theorem dX2_upgrade_81 : decode cX2_upgrade 81 = .ok (.invokestatic 62, 3) := by decide +kernel
theorem dX2_upgrade_84 : decode cX2_upgrade 84 = .ok (.aload_n 0, 1) := by decide +kernel
theorem dX2_upgrade_85 : decode cX2_upgrade 85 = .ok (.getfield 32, 3) := by decide +kernel
theorem dX2_upgrade_88 : decode cX2_upgrade 88 = .ok (.iload_n 1, 1) := by decide +kernel
theorem dX2_upgrade_89 : decode cX2_upgrade 89 = .ok (.iload_n 2, 1) := by decide +kernel
theorem dX2_upgrade_90 : decode cX2_upgrade 90 = .ok (.iload_n 3, 1) := by decide +kernel
theorem dX2_upgrade_91 : decode cX2_upgrade 91 = .ok (.invokevirtual 99, 3) := by decide +kernel
theorem dX2_upgrade_94 : decode cX2_upgrade 94 = .ok (.return_, 1) := by decide +kernel
theorem dX2_has_0 : decode cX2_has 0 = .ok (.aload_n 0, 1) := by decide +kernel
theorem dX2_has_1 : decode cX2_has 1 = .ok (.iload_n 1, 1) := by decide +kernel
theorem dX2_has_2 : decode cX2_has 2 = .ok (.invokevirtual 65, 3) := by decide +kernel
theorem dX2_has_5 : decode cX2_has 5 = .ok (.ifCond .eq 23, 3) := by decide +kernel
theorem dX2_has_8 : decode cX2_has 8 = .ok (.iload_n 2, 1) := by decide +kernel
theorem dX2_has_9 : decode cX2_has 9 = .ok (.bipush 6, 2) := by decide +kernel
theorem dX2_has_11 : decode cX2_has 11 = .ok (.invokestatic 75, 3) := by decide +kernel
theorem dX2_has_14 : decode cX2_has 14 = .ok (.ifCond .ne 10, 3) := by decide +kernel
theorem dX2_has_17 : decode cX2_has 17 = .ok (.iload_n 2, 1) := by decide +kernel
theorem dX2_has_18 : decode cX2_has 18 = .ok (.invokestatic 110, 3) := by decide +kernel
theorem dX2_has_21 : decode cX2_has 21 = .ok (.ifCond .eq 7, 3) := by decide +kernel
theorem dX2_has_24 : decode cX2_has 24 = .ok (.iconst 1, 1) := by decide +kernel
theorem dX2_has_25 : decode cX2_has 25 = .ok (.goto 4, 3) := by decide +kernel
theorem dX2_has_28 : decode cX2_has 28 = .ok (.iconst 0, 1) := by decide +kernel
theorem dX2_has_29 : decode cX2_has 29 = .ok (.invokestatic 54, 3) := by decide +kernel
theorem dX2_has_32 : decode cX2_has 32 = .ok (.iload_n 3, 1) := by decide +kernel
theorem dX2_has_33 : decode cX2_has 33 = .ok (.invokestatic 78, 3) := by decide +kernel
theorem dX2_has_36 : decode cX2_has 36 = .ok (.invokestatic 84, 3) := by decide +kernel
theorem dX2_has_39 : decode cX2_has 39 = .ok (.iload_n 2, 1) := by decide +kernel
theorem dX2_has_40 : decode cX2_has 40 = .ok (.iconst 4, 1) := by decide +kernel
theorem dX2_has_41 : decode cX2_has 41 = .ok (.if_icmp .ne 18, 3) := by decide +kernel
theorem dX2_has_44 : decode cX2_has 44 = .ok (.aload_n 0, 1) := by decide +kernel
theorem dX2_has_45 : decode cX2_has 45 = .ok (.iload_n 1, 1) := by decide +kernel
theorem dX2_has_46 : decode cX2_has 46 = .ok (.iload_n 3, 1) := by decide +kernel
theorem dX2_has_47 : decode cX2_has 47 = .ok (.invokevirtual 113, 3) := by decide +kernel
theorem dX2_has_50 : decode cX2_has 50 = .ok (.ifCond .eq 7, 3) := by decide +kernel
theorem dX2_has_53 : decode cX2_has 53 = .ok (.iconst 1, 1) := by decide +kernel
theorem dX2_has_54 : decode cX2_has 54 = .ok (.goto 4, 3) := by decide +kernel
theorem dX2_has_57 : decode cX2_has 57 = .ok (.iconst 0, 1) := by decide +kernel
theorem dX2_has_58 : decode cX2_has 58 = .ok (.ireturn, 1) := by decide +kernel
theorem dX2_has_59 : decode cX2_has 59 = .ok (.iload_n 2, 1) := by decide +kernel
theorem dX2_has_60 : decode cX2_has 60 = .ok (.iconst 5, 1) := by decide +kernel
theorem dX2_has_61 : decode cX2_has 61 = .ok (.if_icmp .ne 9, 3) := by decide +kernel
theorem dX2_has_64 : decode cX2_has 64 = .ok (.aload_n 0, 1) := by decide +kernel
theorem dX2_has_65 : decode cX2_has 65 = .ok (.iload_n 1, 1) := by decide +kernel
theorem dX2_has_66 : decode cX2_has 66 = .ok (.invokevirtual 116, 3) := by decide +kernel
theorem dX2_has_69 : decode cX2_has 69 = .ok (.ireturn, 1) := by decide +kernel
theorem dX2_has_70 : decode cX2_has 70 = .ok (.iload_n 2, 1) := by decide +kernel
theorem dX2_has_71 : decode cX2_has 71 = .ok (.iconst 4, 1) := by decide +kernel
theorem dX2_has_72 : decode cX2_has 72 = .ok (.if_icmp .ge 13, 3) := by decide +kernel
theorem dX2_has_75 : decode cX2_has 75 = .ok (.aload_n 0, 1) := by decide +kernel
theorem dX2_has_76 : decode cX2_has 76 = .ok (.iload_n 1, 1) := by decide +kernel
theorem dX2_has_77 : decode cX2_has 77 = .ok (.iload_n 2, 1) := by decide +kernel
theorem dX2_has_78 : decode cX2_has 78 = .ok (.iload_n 3, 1) := by decide +kernel
theorem dX2_has_79 : decode cX2_has 79 = .ok (.invokevirtual 120, 3) := by decide +kernel
theorem dX2_has_82 : decode cX2_has 82 = .ok (.goto 13, 3) := by decide +kernel
theorem dX2_has_85 : decode cX2_has 85 = .ok (.aload_n 0, 1) := by decide +kernel
theorem dX2_has_86 : decode cX2_has 86 = .ok (.iload_n 1, 1) := by decide +kernel
theorem dX2_has_87 : decode cX2_has 87 = .ok (.iload_n 2, 1) := by decide +kernel
theorem dX2_has_88 : decode cX2_has 88 = .ok (.bipush 10, 2) := by decide +kernel
theorem dX2_has_90 : decode cX2_has 90 = .ok (.isub, 1) := by decide +kernel
theorem dX2_has_91 : decode cX2_has 91 = .ok (.iload_n 3, 1) := by decide +kernel
theorem dX2_has_92 : decode cX2_has 92 = .ok (.invokevirtual 124, 3) := by decide +kernel
theorem dX2_has_95 : decode cX2_has 95 = .ok (.ireturn, 1) := by decide +kernel
theorem dX2_in_0 : decode cX2_in 0 = .ok (.aload_n 0, 1) := by decide +kernel
theorem dX2_in_1 : decode cX2_in 1 = .ok (.iload_n 1, 1) := by decide +kernel
theorem dX2_in_2 : decode cX2_in 2 = .ok (.invokevirtual 65, 3) := by decide +kernel
theorem dX2_in_5 : decode cX2_in 5 = .ok (.invokestatic 54, 3) := by decide +kernel
theorem dX2_in_8 : decode cX2_in 8 = .ok (.iload_n 2, 1) := by decide +kernel
theorem dX2_in_9 : decode cX2_in 9 = .ok (.bipush 10, 2) := by decide +kernel
theorem dX2_in_11 : decode cX2_in 11 = .ok (.invokestatic 75, 3) := by decide +kernel
theorem dX2_in_14 : decode cX2_in 14 = .ok (.invokestatic 84, 3) := by decide +kernel
theorem dX2_in_17 : decode cX2_in 17 = .ok (.aload_n 0, 1) := by decide +kernel
theorem dX2_in_18 : decode cX2_in 18 = .ok (.iload_n 1, 1) := by decide +kernel
theorem dX2_in_19 : decode cX2_in 19 = .ok (.iload_n 2, 1) := by decide +kernel
theorem dX2_in_20 : decode cX2_in 20 = .ok (.invokevirtual 127, 3) := by decide +kernel
theorem dX2_in_23 : decode cX2_in 23 = .ok (.ireturn, 1) := by decide +kernel
theorem dX2_open_0 : decode cX2_open 0 = .ok (.aload_n 0, 1) := by decide +kernel
theorem dX2_open_1 : decode cX2_open 1 = .ok (.iload_n 1, 1) := by decide +kernel
theorem dX2_open_2 : decode cX2_open 2 = .ok (.invokevirtual 65, 3) := by decide +kernel
theorem dX2_open_5 : decode cX2_open 5 = .ok (.invokestatic 54, 3) := by decide +kernel
theorem dX2_open_8 : decode cX2_open 8 = .ok (.iload_n 2, 1) := by decide +kernel
theorem dX2_open_9 : decode cX2_open 9 = .ok (.bipush 10, 2) := by decide +kernel
theorem dX2_open_11 : decode cX2_open 11 = .ok (.invokestatic 75, 3) := by decide +kernel
theorem dX2_open_14 : decode cX2_open 14 = .ok (.ifCond .eq 14, 3) := by decide +kernel
theorem dX2_open_17 : decode cX2_open 17 = .ok (.iload_n 3, 1) := by decide +kernel
theorem dX2_open_18 : decode cX2_open 18 = .ok (.invokestatic 78, 3) := by decide +kernel
theorem dX2_open_21 : decode cX2_open 21 = .ok (.ifCond .eq 7, 3) := by decide +kernel
theorem dX2_open_24 : decode cX2_open 24 = .ok (.iconst 1, 1) := by decide +kernel
theorem dX2_open_25 : decode cX2_open 25 = .ok (.goto 4, 3) := by decide +kernel
theorem dX2_open_28 : decode cX2_open 28 = .ok (.iconst 0, 1) := by decide +kernel
theorem dX2_open_29 : decode cX2_open 29 = .ok (.invokestatic 84, 3) := by decide +kernel
theorem dX2_open_32 : decode cX2_open 32 = .ok (.aload_n 0, 1) := by decide +kernel
theorem dX2_open_33 : decode cX2_open 33 = .ok (.iload_n 1, 1) := by decide +kernel
theorem dX2_open_34 : decode cX2_open 34 = .ok (.iload_n 2, 1) := by decide +kernel
theorem dX2_open_35 : decode cX2_open 35 = .ok (.invokevirtual 127, 3) := by decide +kernel
theorem dX2_open_38 : decode cX2_open 38 = .ok (.istore 4, 2) := by decide +kernel
theorem dX2_open_40 : decode cX2_open 40 = .ok (.aload_n 0, 1) := by decide +kernel
theorem dX2_open_41 : decode cX2_open 41 = .ok (.iload 4, 2) := by decide +kernel
theorem dX2_open_43 : decode cX2_open 43 = .ok (.iload_n 3, 1) := by decide +kernel
theorem dX2_open_44 : decode cX2_open 44 = .ok (.invokevirtual 113, 3) := by decide +kernel
theorem dX2_open_47 : decode cX2_open 47 = .ok (.ifCond .ne 7, 3) := by decide +kernel
theorem dX2_open_50 : decode cX2_open 50 = .ok (.iconst 1, 1) := by decide +kernel
theorem dX2_open_51 : decode cX2_open 51 = .ok (.goto 4, 3) := by decide +kernel
theorem dX2_open_54 : decode cX2_open 54 = .ok (.iconst 0, 1) := by decide +kernel
theorem dX2_open_55 : decode cX2_open 55 = .ok (.invokestatic 72, 3) := by decide +kernel
theorem dX2_open_58 : decode cX2_open 58 = .ok (.aload_n 0, 1) := by decide +kernel
theorem dX2_open_59 : decode cX2_open 59 = .ok (.getfield 130, 3) := by decide +kernel
theorem dX2_open_62 : decode cX2_open 62 = .ok (.bipush 60, 2) := by decide +kernel
theorem dX2_open_64 : decode cX2_open 64 = .ok (.if_icmp .ge 7, 3) := by decide +kernel
theorem dX2_open_67 : decode cX2_open 67 = .ok (.iconst 1, 1) := by decide +kernel
theorem dX2_open_68 : decode cX2_open 68 = .ok (.goto 4, 3) := by decide +kernel
theorem dX2_open_71 : decode cX2_open 71 = .ok (.iconst 0, 1) := by decide +kernel
theorem dX2_open_72 : decode cX2_open 72 = .ok (.invokestatic 62, 3) := by decide +kernel
theorem dX2_open_75 : decode cX2_open 75 = .ok (.aload_n 0, 1) := by decide +kernel
theorem dX2_open_76 : decode cX2_open 76 = .ok (.getfield 130, 3) := by decide +kernel
theorem dX2_open_79 : decode cX2_open 79 = .ok (.istore 5, 2) := by decide +kernel
theorem dX2_open_81 : decode cX2_open 81 = .ok (.aload_n 0, 1) := by decide +kernel
theorem dX2_open_82 : decode cX2_open 82 = .ok (.getfield 35, 3) := by decide +kernel
theorem dX2_open_85 : decode cX2_open 85 = .ok (.iload 5, 2) := by decide +kernel
theorem dX2_open_87 : decode cX2_open 87 = .ok (.iload 4, 2) := by decide +kernel
theorem dX2_open_89 : decode cX2_open 89 = .ok (.iastore, 1) := by decide +kernel
theorem dX2_open_90 : decode cX2_open 90 = .ok (.aload_n 0, 1) := by decide +kernel
theorem dX2_open_91 : decode cX2_open 91 = .ok (.getfield 38, 3) := by decide +kernel
theorem dX2_open_94 : decode cX2_open 94 = .ok (.iload 5, 2) := by decide +kernel
theorem dX2_open_96 : decode cX2_open 96 = .ok (.iload_n 2, 1) := by decide +kernel
theorem dX2_open_97 : decode cX2_open 97 = .ok (.iastore, 1) := by decide +kernel
theorem dX2_open_98 : decode cX2_open 98 = .ok (.aload_n 0, 1) := by decide +kernel
theorem dX2_open_99 : decode cX2_open 99 = .ok (.dup, 1) := by decide +kernel
theorem dX2_open_100 : decode cX2_open 100 = .ok (.getfield 130, 3) := by decide +kernel
theorem dX2_open_103 : decode cX2_open 103 = .ok (.iconst 1, 1) := by decide +kernel
theorem dX2_open_104 : decode cX2_open 104 = .ok (.iadd, 1) := by decide +kernel
theorem dX2_open_105 : decode cX2_open 105 = .ok (.putfield 130, 3) := by decide +kernel
theorem dX2_open_108 : decode cX2_open 108 = .ok (.iload 5, 2) := by decide +kernel
theorem dX2_open_110 : decode cX2_open 110 = .ok (.ireturn, 1) := by decide +kernel
theorem dX2_found_0 : decode cX2_found 0 = .ok (.aload_n 0, 1) := by decide +kernel
theorem dX2_found_1 : decode cX2_found 1 = .ok (.iload_n 1, 1) := by decide +kernel
theorem dX2_found_2 : decode cX2_found 2 = .ok (.invokevirtual 133, 3) := by decide +kernel
theorem dX2_found_5 : decode cX2_found 5 = .ok (.invokestatic 54, 3) := by decide +kernel
theorem dX2_found_8 : decode cX2_found 8 = .ok (.iload_n 2, 1) := by decide +kernel
theorem dX2_found_9 : decode cX2_found 9 = .ok (.bipush 32, 2) := by decide +kernel
theorem dX2_found_11 : decode cX2_found 11 = .ok (.invokestatic 75, 3) := by decide +kernel
theorem dX2_found_14 : decode cX2_found 14 = .ok (.ifCond .eq 14, 3) := by decide +kernel
theorem dX2_found_17 : decode cX2_found 17 = .ok (.iload_n 3, 1) := by decide +kernel
theorem dX2_found_18 : decode cX2_found 18 = .ok (.invokestatic 78, 3) := by decide +kernel
theorem dX2_found_21 : decode cX2_found 21 = .ok (.ifCond .eq 7, 3) := by decide +kernel
theorem dX2_found_24 : decode cX2_found 24 = .ok (.iconst 1, 1) := by decide +kernel
theorem dX2_found_25 : decode cX2_found 25 = .ok (.goto 4, 3) := by decide +kernel
theorem dX2_found_28 : decode cX2_found 28 = .ok (.iconst 0, 1) := by decide +kernel
theorem dX2_found_29 : decode cX2_found 29 = .ok (.invokestatic 84, 3) := by decide +kernel
theorem dX2_found_32 : decode cX2_found 32 = .ok (.aload_n 0, 1) := by decide +kernel
theorem dX2_found_33 : decode cX2_found 33 = .ok (.aload_n 0, 1) := by decide +kernel
theorem dX2_found_34 : decode cX2_found 34 = .ok (.getfield 35, 3) := by decide +kernel
theorem dX2_found_37 : decode cX2_found 37 = .ok (.iload_n 1, 1) := by decide +kernel
theorem dX2_found_38 : decode cX2_found 38 = .ok (.iaload, 1) := by decide +kernel
theorem dX2_found_39 : decode cX2_found 39 = .ok (.iload_n 2, 1) := by decide +kernel
theorem dX2_found_40 : decode cX2_found 40 = .ok (.invokevirtual 136, 3) := by decide +kernel
theorem dX2_found_43 : decode cX2_found 43 = .ok (.istore 4, 2) := by decide +kernel
theorem dX2_found_45 : decode cX2_found 45 = .ok (.iload 4, 2) := by decide +kernel
theorem dX2_found_47 : decode cX2_found 47 = .ok (.iconst (-1), 1) := by decide +kernel
theorem dX2_found_48 : decode cX2_found 48 = .ok (.if_icmp .eq 17, 3) := by decide +kernel
theorem dX2_found_51 : decode cX2_found 51 = .ok (.aload_n 0, 1) := by decide +kernel
theorem dX2_found_52 : decode cX2_found 52 = .ok (.iload 4, 2) := by decide +kernel
theorem dX2_found_54 : decode cX2_found 54 = .ok (.iload_n 3, 1) := by decide +kernel
theorem dX2_found_55 : decode cX2_found 55 = .ok (.invokevirtual 113, 3) := by decide +kernel
theorem dX2_found_58 : decode cX2_found 58 = .ok (.ifCond .ne 7, 3) := by decide +kernel
theorem dX2_found_61 : decode cX2_found 61 = .ok (.iconst 1, 1) := by decide +kernel
theorem dX2_found_62 : decode cX2_found 62 = .ok (.goto 4, 3) := by decide +kernel
theorem dX2_found_65 : decode cX2_found 65 = .ok (.iconst 0, 1) := by decide +kernel
theorem dX2_found_66 : decode cX2_found 66 = .ok (.invokestatic 72, 3) := by decide +kernel
theorem dX2_found_69 : decode cX2_found 69 = .ok (.iload 4, 2) := by decide +kernel
theorem dX2_found_71 : decode cX2_found 71 = .ok (.aload_n 0, 1) := by decide +kernel
theorem dX2_found_72 : decode cX2_found 72 = .ok (.getfield 35, 3) := by decide +kernel
theorem dX2_found_75 : decode cX2_found 75 = .ok (.iload_n 1, 1) := by decide +kernel
theorem dX2_found_76 : decode cX2_found 76 = .ok (.iaload, 1) := by decide +kernel
theorem dX2_found_77 : decode cX2_found 77 = .ok (.if_icmp .eq 21, 3) := by decide +kernel
theorem dX2_found_80 : decode cX2_found 80 = .ok (.aload_n 0, 1) := by decide +kernel
theorem dX2_found_81 : decode cX2_found 81 = .ok (.getfield 35, 3) := by decide +kernel
theorem dX2_found_84 : decode cX2_found 84 = .ok (.iload_n 1, 1) := by decide +kernel
theorem dX2_found_85 : decode cX2_found 85 = .ok (.iload 4, 2) := by decide +kernel
theorem dX2_found_87 : decode cX2_found 87 = .ok (.iastore, 1) := by decide +kernel
theorem dX2_found_88 : decode cX2_found 88 = .ok (.aload_n 0, 1) := by decide +kernel
theorem dX2_found_89 : decode cX2_found 89 = .ok (.getfield 41, 3) := by decide +kernel
theorem dX2_found_92 : decode cX2_found 92 = .ok (.iload_n 1, 1) := by decide +kernel
theorem dX2_found_93 : decode cX2_found 93 = .ok (.dup2, 1) := by decide +kernel
theorem dX2_found_94 : decode cX2_found 94 = .ok (.iaload, 1) := by decide +kernel
theorem dX2_found_95 : decode cX2_found 95 = .ok (.iconst 1, 1) := by decide +kernel
theorem dX2_found_96 : decode cX2_found 96 = .ok (.iadd, 1) := by decide +kernel
theorem dX2_found_97 : decode cX2_found 97 = .ok (.iastore, 1) := by decide +kernel
theorem dX2_found_98 : decode cX2_found 98 = .ok (.iload 4, 2) := by decide +kernel
theorem dX2_found_100 : decode cX2_found 100 = .ok (.ireturn, 1) := by decide +kernel
theorem dX2_send_0 : decode cX2_send 0 = .ok (.aload_n 0, 1) := by decide +kernel
theorem dX2_send_1 : decode cX2_send 1 = .ok (.iload_n 1, 1) := by decide +kernel
theorem dX2_send_2 : decode cX2_send 2 = .ok (.invokevirtual 133, 3) := by decide +kernel
theorem dX2_send_5 : decode cX2_send 5 = .ok (.ifCond .eq 16, 3) := by decide +kernel
theorem dX2_send_8 : decode cX2_send 8 = .ok (.iload_n 2, 1) := by decide +kernel
theorem dX2_send_9 : decode cX2_send 9 = .ok (.bipush 16, 2) := by decide +kernel
theorem dX2_send_11 : decode cX2_send 11 = .ok (.invokestatic 75, 3) := by decide +kernel
theorem dX2_send_14 : decode cX2_send 14 = .ok (.ifCond .eq 7, 3) := by decide +kernel
theorem dX2_send_17 : decode cX2_send 17 = .ok (.iconst 1, 1) := by decide +kernel
theorem dX2_send_18 : decode cX2_send 18 = .ok (.goto 4, 3) := by decide +kernel
theorem dX2_send_21 : decode cX2_send 21 = .ok (.iconst 0, 1) := by decide +kernel
theorem dX2_send_22 : decode cX2_send 22 = .ok (.invokestatic 54, 3) := by decide +kernel
theorem dX2_send_25 : decode cX2_send 25 = .ok (.iload_n 3, 1) := by decide +kernel
theorem dX2_send_26 : decode cX2_send 26 = .ok (.iconst 1, 1) := by decide +kernel
theorem dX2_send_27 : decode cX2_send 27 = .ok (.if_icmp .lt 13, 3) := by decide +kernel
theorem dX2_send_30 : decode cX2_send 30 = .ok (.iload_n 3, 1) := by decide +kernel
theorem dX2_send_31 : decode cX2_send 31 = .ok (.bipush 100, 2) := by decide +kernel
theorem dX2_send_33 : decode cX2_send 33 = .ok (.if_icmp .gt 7, 3) := by decide +kernel
theorem dX2_send_36 : decode cX2_send 36 = .ok (.iconst 1, 1) := by decide +kernel
theorem dX2_send_37 : decode cX2_send 37 = .ok (.goto 4, 3) := by decide +kernel
theorem dX2_send_40 : decode cX2_send 40 = .ok (.iconst 0, 1) := by decide +kernel
theorem dX2_send_41 : decode cX2_send 41 = .ok (.invokestatic 84, 3) := by decide +kernel
theorem dX2_send_44 : decode cX2_send 44 = .ok (.iload_n 1, 1) := by decide +kernel
theorem dX2_send_45 : decode cX2_send 45 = .ok (.bipush 16, 2) := by decide +kernel
theorem dX2_send_47 : decode cX2_send 47 = .ok (.imul, 1) := by decide +kernel
theorem dX2_send_48 : decode cX2_send 48 = .ok (.iload_n 2, 1) := by decide +kernel
theorem dX2_send_49 : decode cX2_send 49 = .ok (.iadd, 1) := by decide +kernel
theorem dX2_send_50 : decode cX2_send 50 = .ok (.istore 4, 2) := by decide +kernel
theorem dX2_send_52 : decode cX2_send 52 = .ok (.aload_n 0, 1) := by decide +kernel
theorem dX2_send_53 : decode cX2_send 53 = .ok (.getfield 44, 3) := by decide +kernel
theorem dX2_send_56 : decode cX2_send 56 = .ok (.iload 4, 2) := by decide +kernel
theorem dX2_send_58 : decode cX2_send 58 = .ok (.iaload, 1) := by decide +kernel
theorem dX2_send_59 : decode cX2_send 59 = .ok (.iload_n 3, 1) := by decide +kernel
theorem dX2_send_60 : decode cX2_send 60 = .ok (.iadd, 1) := by decide +kernel
theorem dX2_send_61 : decode cX2_send 61 = .ok (.sipush 1000, 3) := by decide +kernel
theorem dX2_send_64 : decode cX2_send 64 = .ok (.if_icmp .gt 7, 3) := by decide +kernel
theorem dX2_send_67 : decode cX2_send 67 = .ok (.iconst 1, 1) := by decide +kernel
theorem dX2_send_68 : decode cX2_send 68 = .ok (.goto 4, 3) := by decide +kernel
theorem dX2_send_71 : decode cX2_send 71 = .ok (.iconst 0, 1) := by decide +kernel
theorem dX2_send_72 : decode cX2_send 72 = .ok (.invokestatic 62, 3) := by decide +kernel
theorem dX2_send_75 : decode cX2_send 75 = .ok (.aload_n 0, 1) := by decide +kernel
theorem dX2_send_76 : decode cX2_send 76 = .ok (.getfield 44, 3) := by decide +kernel
theorem dX2_send_79 : decode cX2_send 79 = .ok (.iload 4, 2) := by decide +kernel
theorem dX2_send_81 : decode cX2_send 81 = .ok (.dup2, 1) := by decide +kernel
theorem dX2_send_82 : decode cX2_send 82 = .ok (.iaload, 1) := by decide +kernel
theorem dX2_send_83 : decode cX2_send 83 = .ok (.iload_n 3, 1) := by decide +kernel
theorem dX2_send_84 : decode cX2_send 84 = .ok (.iadd, 1) := by decide +kernel
theorem dX2_send_85 : decode cX2_send 85 = .ok (.iastore, 1) := by decide +kernel
theorem dX2_send_86 : decode cX2_send 86 = .ok (.aload_n 0, 1) := by decide +kernel
theorem dX2_send_87 : decode cX2_send 87 = .ok (.getfield 44, 3) := by decide +kernel
theorem dX2_send_90 : decode cX2_send 90 = .ok (.iload 4, 2) := by decide +kernel
theorem dX2_send_92 : decode cX2_send 92 = .ok (.iaload, 1) := by decide +kernel
theorem dX2_send_93 : decode cX2_send 93 = .ok (.ireturn, 1) := by decide +kernel
theorem dX2_missing_0 : decode cX2_missing 0 = .ok (.aload_n 0, 1) := by decide +kernel
theorem dX2_missing_1 : decode cX2_missing 1 = .ok (.iload_n 1, 1) := by decide +kernel
theorem dX2_missing_2 : decode cX2_missing 2 = .ok (.invokevirtual 133, 3) := by decide +kernel
theorem dX2_missing_5 : decode cX2_missing 5 = .ok (.ifCond .eq 16, 3) := by decide +kernel
theorem dX2_missing_8 : decode cX2_missing 8 = .ok (.iload_n 2, 1) := by decide +kernel
theorem dX2_missing_9 : decode cX2_missing 9 = .ok (.bipush 16, 2) := by decide +kernel
theorem dX2_missing_11 : decode cX2_missing 11 = .ok (.invokestatic 75, 3) := by decide +kernel
theorem dX2_missing_14 : decode cX2_missing 14 = .ok (.ifCond .eq 7, 3) := by decide +kernel
theorem dX2_missing_17 : decode cX2_missing 17 = .ok (.iconst 1, 1) := by decide +kernel
theorem dX2_missing_18 : decode cX2_missing 18 = .ok (.goto 4, 3) := by decide +kernel
theorem dX2_missing_21 : decode cX2_missing 21 = .ok (.iconst 0, 1) := by decide +kernel
theorem dX2_missing_22 : decode cX2_missing 22 = .ok (.invokestatic 54, 3) := by decide +kernel
theorem dX2_missing_25 : decode cX2_missing 25 = .ok (.iload_n 3, 1) := by decide +kernel
theorem dX2_missing_26 : decode cX2_missing 26 = .ok (.invokestatic 78, 3) := by decide +kernel
theorem dX2_missing_29 : decode cX2_missing 29 = .ok (.invokestatic 84, 3) := by decide +kernel
theorem dX2_missing_32 : decode cX2_missing 32 = .ok (.iconst 0, 1) := by decide +kernel
theorem dX2_missing_33 : decode cX2_missing 33 = .ok (.aload_n 0, 1) := by decide +kernel
theorem dX2_missing_34 : decode cX2_missing 34 = .ok (.aload_n 0, 1) := by decide +kernel
theorem dX2_missing_35 : decode cX2_missing 35 = .ok (.getfield 35, 3) := by decide +kernel
theorem dX2_missing_38 : decode cX2_missing 38 = .ok (.iload_n 1, 1) := by decide +kernel
theorem dX2_missing_39 : decode cX2_missing 39 = .ok (.iaload, 1) := by decide +kernel
theorem dX2_missing_40 : decode cX2_missing 40 = .ok (.iload_n 2, 1) := by decide +kernel
theorem dX2_missing_41 : decode cX2_missing 41 = .ok (.iload_n 3, 1) := by decide +kernel
theorem dX2_missing_42 : decode cX2_missing 42 = .ok (.invokevirtual 124, 3) := by decide +kernel
theorem dX2_missing_45 : decode cX2_missing 45 = .ok (.aload_n 0, 1) := by decide +kernel
theorem dX2_missing_46 : decode cX2_missing 46 = .ok (.getfield 44, 3) := by decide +kernel
theorem dX2_missing_49 : decode cX2_missing 49 = .ok (.iload_n 1, 1) := by decide +kernel
theorem dX2_missing_50 : decode cX2_missing 50 = .ok (.bipush 16, 2) := by decide +kernel
theorem dX2_missing_52 : decode cX2_missing 52 = .ok (.imul, 1) := by decide +kernel
theorem dX2_missing_53 : decode cX2_missing 53 = .ok (.iload_n 2, 1) := by decide +kernel
theorem dX2_missing_54 : decode cX2_missing 54 = .ok (.iadd, 1) := by decide +kernel
theorem dX2_missing_55 : decode cX2_missing 55 = .ok (.iaload, 1) := by decide +kernel
theorem dX2_missing_56 : decode cX2_missing 56 = .ok (.isub, 1) := by decide +kernel
theorem dX2_missing_57 : decode cX2_missing 57 = .ok (.invokestatic 139, 3) := by decide +kernel
theorem dX2_missing_60 : decode cX2_missing 60 = .ok (.ireturn, 1) := by decide +kernel
theorem dX2_incident_0 : decode cX2_incident 0 = .ok (.aload_n 0, 1) := by decide +kernel
theorem dX2_incident_1 : decode cX2_incident 1 = .ok (.iload_n 1, 1) := by decide +kernel
theorem dX2_incident_2 : decode cX2_incident 2 = .ok (.invokevirtual 133, 3) := by decide +kernel
theorem dX2_incident_5 : decode cX2_incident 5 = .ok (.ifCond .eq 15, 3) := by decide +kernel
theorem dX2_incident_8 : decode cX2_incident 8 = .ok (.iload_n 2, 1) := by decide +kernel
theorem dX2_incident_9 : decode cX2_incident 9 = .ok (.iconst 3, 1) := by decide +kernel
theorem dX2_incident_10 : decode cX2_incident 10 = .ok (.invokestatic 75, 3) := by decide +kernel
theorem dX2_incident_13 : decode cX2_incident 13 = .ok (.ifCond .eq 7, 3) := by decide +kernel
theorem dX2_incident_16 : decode cX2_incident 16 = .ok (.iconst 1, 1) := by decide +kernel
theorem dX2_incident_17 : decode cX2_incident 17 = .ok (.goto 4, 3) := by decide +kernel
theorem dX2_incident_20 : decode cX2_incident 20 = .ok (.iconst 0, 1) := by decide +kernel
theorem dX2_incident_21 : decode cX2_incident 21 = .ok (.invokestatic 54, 3) := by decide +kernel
theorem dX2_incident_24 : decode cX2_incident 24 = .ok (.iload_n 2, 1) := by decide +kernel
theorem dX2_incident_25 : decode cX2_incident 25 = .ok (.lookupswitch 41 #[(0, 27), (1, 34)], 27) := by decide +kernel
theorem dX2_incident_52 : decode cX2_incident 52 = .ok (.aload_n 0, 1) := by decide +kernel
theorem dX2_incident_53 : decode cX2_incident 53 = .ok (.getfield 35, 3) := by decide +kernel
theorem dX2_incident_56 : decode cX2_incident 56 = .ok (.iload_n 1, 1) := by decide +kernel
theorem dX2_incident_57 : decode cX2_incident 57 = .ok (.iaload, 1) := by decide +kernel
theorem dX2_incident_58 : decode cX2_incident 58 = .ok (.ireturn, 1) := by decide +kernel
theorem dX2_incident_59 : decode cX2_incident 59 = .ok (.aload_n 0, 1) := by decide +kernel
theorem dX2_incident_60 : decode cX2_incident 60 = .ok (.getfield 38, 3) := by decide +kernel
theorem dX2_incident_63 : decode cX2_incident 63 = .ok (.iload_n 1, 1) := by decide +kernel
theorem dX2_incident_64 : decode cX2_incident 64 = .ok (.iaload, 1) := by decide +kernel
theorem dX2_incident_65 : decode cX2_incident 65 = .ok (.ireturn, 1) := by decide +kernel
theorem dX2_incident_66 : decode cX2_incident 66 = .ok (.aload_n 0, 1) := by decide +kernel
theorem dX2_incident_67 : decode cX2_incident 67 = .ok (.getfield 41, 3) := by decide +kernel
theorem dX2_incident_70 : decode cX2_incident 70 = .ok (.iload_n 1, 1) := by decide +kernel
theorem dX2_incident_71 : decode cX2_incident 71 = .ok (.iaload, 1) := by decide +kernel
theorem dX2_incident_72 : decode cX2_incident 72 = .ok (.ireturn, 1) := by decide +kernel
theorem dX2_unit_0 : decode cX2_unit 0 = .ok (.iload_n 1, 1) := by decide +kernel
theorem dX2_unit_1 : decode cX2_unit 1 = .ok (.bipush 20, 2) := by decide +kernel
theorem dX2_unit_3 : decode cX2_unit 3 = .ok (.invokestatic 75, 3) := by decide +kernel
theorem dX2_unit_6 : decode cX2_unit 6 = .ok (.invokestatic 54, 3) := by decide +kernel
theorem dX2_unit_9 : decode cX2_unit 9 = .ok (.iload_n 2, 1) := by decide +kernel
theorem dX2_unit_10 : decode cX2_unit 10 = .ok (.ifCond .lt 13, 3) := by decide +kernel
theorem dX2_unit_13 : decode cX2_unit 13 = .ok (.iload_n 2, 1) := by decide +kernel
theorem dX2_unit_14 : decode cX2_unit 14 = .ok (.ldc 144, 2) := by decide +kernel
theorem dX2_unit_16 : decode cX2_unit 16 = .ok (.if_icmp .gt 7, 3) := by decide +kernel
theorem dX2_unit_19 : decode cX2_unit 19 = .ok (.iconst 1, 1) := by decide +kernel
theorem dX2_unit_20 : decode cX2_unit 20 = .ok (.goto 4, 3) := by decide +kernel
theorem dX2_unit_23 : decode cX2_unit 23 = .ok (.iconst 0, 1) := by decide +kernel
theorem dX2_unit_24 : decode cX2_unit 24 = .ok (.invokestatic 84, 3) := by decide +kernel
theorem dX2_unit_27 : decode cX2_unit 27 = .ok (.aload_n 0, 1) := by decide +kernel
theorem dX2_unit_28 : decode cX2_unit 28 = .ok (.getfield 47, 3) := by decide +kernel
theorem dX2_unit_31 : decode cX2_unit 31 = .ok (.iload_n 1, 1) := by decide +kernel
theorem dX2_unit_32 : decode cX2_unit 32 = .ok (.iload_n 2, 1) := by decide +kernel
theorem dX2_unit_33 : decode cX2_unit 33 = .ok (.iastore, 1) := by decide +kernel
theorem dX2_unit_34 : decode cX2_unit 34 = .ok (.return_, 1) := by decide +kernel
theorem dX2_uncovered_0 : decode cX2_uncovered 0 = .ok (.iload_n 1, 1) := by decide +kernel
theorem dX2_uncovered_1 : decode cX2_uncovered 1 = .ok (.invokestatic 78, 3) := by decide +kernel
theorem dX2_uncovered_4 : decode cX2_uncovered 4 = .ok (.ifCond .eq 11, 3) := by decide +kernel
theorem dX2_uncovered_7 : decode cX2_uncovered 7 = .ok (.iload_n 2, 1) := by decide +kernel
theorem dX2_uncovered_8 : decode cX2_uncovered 8 = .ok (.ifCond .lt 7, 3) := by decide +kernel
theorem dX2_uncovered_11 : decode cX2_uncovered 11 = .ok (.iconst 1, 1) := by decide +kernel
theorem dX2_uncovered_12 : decode cX2_uncovered 12 = .ok (.goto 4, 3) := by decide +kernel
theorem dX2_uncovered_15 : decode cX2_uncovered 15 = .ok (.iconst 0, 1) := by decide +kernel
theorem dX2_uncovered_16 : decode cX2_uncovered 16 = .ok (.invokestatic 84, 3) := by decide +kernel
theorem dX2_uncovered_19 : decode cX2_uncovered 19 = .ok (.ldc 144, 2) := by decide +kernel
theorem dX2_uncovered_21 : decode cX2_uncovered 21 = .ok (.aload_n 0, 1) := by decide +kernel
theorem dX2_uncovered_22 : decode cX2_uncovered 22 = .ok (.invokevirtual 145, 3) := by decide +kernel
theorem dX2_uncovered_25 : decode cX2_uncovered 25 = .ok (.iconst (-1), 1) := by decide +kernel
theorem dX2_uncovered_26 : decode cX2_uncovered 26 = .ok (.ixor, 1) := by decide +kernel
theorem dX2_uncovered_27 : decode cX2_uncovered 27 = .ok (.iand, 1) := by decide +kernel
theorem dX2_uncovered_28 : decode cX2_uncovered 28 = .ok (.istore_n 3, 1) := by decide +kernel
theorem dX2_uncovered_29 : decode cX2_uncovered 29 = .ok (.iload_n 2, 1) := by decide +kernel
theorem dX2_uncovered_30 : decode cX2_uncovered 30 = .ok (.istore 4, 2) := by decide +kernel
theorem dX2_uncovered_32 : decode cX2_uncovered 32 = .ok (.iconst 0, 1) := by decide +kernel
theorem dX2_uncovered_33 : decode cX2_uncovered 33 = .ok (.istore 5, 2) := by decide +kernel
theorem dX2_uncovered_35 : decode cX2_uncovered 35 = .ok (.iload 5, 2) := by decide +kernel
theorem dX2_uncovered_37 : decode cX2_uncovered 37 = .ok (.aload_n 0, 1) := by decide +kernel
theorem dX2_uncovered_38 : decode cX2_uncovered 38 = .ok (.getfield 58, 3) := by decide +kernel
theorem dX2_uncovered_41 : decode cX2_uncovered 41 = .ok (.if_icmp .ge 41, 3) := by decide +kernel
theorem dX2_uncovered_44 : decode cX2_uncovered 44 = .ok (.aload_n 0, 1) := by decide +kernel
theorem dX2_uncovered_45 : decode cX2_uncovered 45 = .ok (.iload 5, 2) := by decide +kernel
theorem dX2_uncovered_47 : decode cX2_uncovered 47 = .ok (.iload_n 1, 1) := by decide +kernel
theorem dX2_uncovered_48 : decode cX2_uncovered 48 = .ok (.invokevirtual 113, 3) := by decide +kernel
theorem dX2_uncovered_51 : decode cX2_uncovered 51 = .ok (.ifCond .ne 25, 3) := by decide +kernel
theorem dX2_uncovered_54 : decode cX2_uncovered 54 = .ok (.aload_n 0, 1) := by decide +kernel
theorem dX2_uncovered_55 : decode cX2_uncovered 55 = .ok (.iload 5, 2) := by decide +kernel
theorem dX2_uncovered_57 : decode cX2_uncovered 57 = .ok (.iload_n 3, 1) := by decide +kernel
theorem dX2_uncovered_58 : decode cX2_uncovered 58 = .ok (.iload_n 1, 1) := by decide +kernel
theorem dX2_uncovered_59 : decode cX2_uncovered 59 = .ok (.invokevirtual 149, 3) := by decide +kernel
theorem dX2_uncovered_62 : decode cX2_uncovered 62 = .ok (.ifCond .eq 14, 3) := by decide +kernel
theorem dX2_uncovered_65 : decode cX2_uncovered 65 = .ok (.iload 4, 2) := by decide +kernel
theorem dX2_uncovered_67 : decode cX2_uncovered 67 = .ok (.ifCond .ne 6, 3) := by decide +kernel
theorem dX2_uncovered_70 : decode cX2_uncovered 70 = .ok (.iload 5, 2) := by decide +kernel
theorem dX2_uncovered_72 : decode cX2_uncovered 72 = .ok (.ireturn, 1) := by decide +kernel
theorem dX2_uncovered_73 : decode cX2_uncovered 73 = .ok (.iinc 4 (-1), 3) := by decide +kernel
theorem dX2_uncovered_76 : decode cX2_uncovered 76 = .ok (.iinc 5 1, 3) := by decide +kernel
theorem dX2_uncovered_79 : decode cX2_uncovered 79 = .ok (.goto (-44), 3) := by decide +kernel
theorem dX2_uncovered_82 : decode cX2_uncovered 82 = .ok (.iconst (-1), 1) := by decide +kernel
theorem dX2_uncovered_83 : decode cX2_uncovered 83 = .ok (.ireturn, 1) := by decide +kernel
theorem dX2_coded_0 : decode cX2_coded 0 = .ok (.iload_n 1, 1) := by decide +kernel
theorem dX2_coded_1 : decode cX2_coded 1 = .ok (.ifCond .lt 20, 3) := by decide +kernel
theorem dX2_coded_4 : decode cX2_coded 4 = .ok (.iload_n 1, 1) := by decide +kernel
theorem dX2_coded_5 : decode cX2_coded 5 = .ok (.bipush 99, 2) := by decide +kernel
theorem dX2_coded_7 : decode cX2_coded 7 = .ok (.if_icmp .gt 14, 3) := by decide +kernel
theorem dX2_coded_10 : decode cX2_coded 10 = .ok (.iload_n 2, 1) := by decide +kernel
theorem dX2_coded_11 : decode cX2_coded 11 = .ok (.invokestatic 78, 3) := by decide +kernel
theorem dX2_coded_14 : decode cX2_coded 14 = .ok (.ifCond .eq 7, 3) := by decide +kernel
theorem dX2_coded_17 : decode cX2_coded 17 = .ok (.iconst 1, 1) := by decide +kernel
theorem dX2_coded_18 : decode cX2_coded 18 = .ok (.goto 4, 3) := by decide +kernel
theorem dX2_coded_21 : decode cX2_coded 21 = .ok (.iconst 0, 1) := by decide +kernel
theorem dX2_coded_22 : decode cX2_coded 22 = .ok (.invokestatic 84, 3) := by decide +kernel
theorem dX2_coded_25 : decode cX2_coded 25 = .ok (.iconst 0, 1) := by decide +kernel
theorem dX2_coded_26 : decode cX2_coded 26 = .ok (.istore_n 3, 1) := by decide +kernel
theorem dX2_coded_27 : decode cX2_coded 27 = .ok (.iconst 0, 1) := by decide +kernel
theorem dX2_coded_28 : decode cX2_coded 28 = .ok (.istore 4, 2) := by decide +kernel
theorem dX2_coded_30 : decode cX2_coded 30 = .ok (.iload 4, 2) := by decide +kernel
theorem dX2_coded_32 : decode cX2_coded 32 = .ok (.aload_n 0, 1) := by decide +kernel
theorem dX2_coded_33 : decode cX2_coded 33 = .ok (.getfield 130, 3) := by decide +kernel
theorem dX2_coded_36 : decode cX2_coded 36 = .ok (.if_icmp .ge 29, 3) := by decide +kernel
theorem dX2_coded_39 : decode cX2_coded 39 = .ok (.aload_n 0, 1) := by decide +kernel
theorem dX2_coded_40 : decode cX2_coded 40 = .ok (.aload_n 0, 1) := by decide +kernel
theorem dX2_coded_41 : decode cX2_coded 41 = .ok (.getfield 35, 3) := by decide +kernel
theorem dX2_coded_44 : decode cX2_coded 44 = .ok (.iload 4, 2) := by decide +kernel
theorem dX2_coded_46 : decode cX2_coded 46 = .ok (.iaload, 1) := by decide +kernel
theorem dX2_coded_47 : decode cX2_coded 47 = .ok (.iconst 3, 1) := by decide +kernel
theorem dX2_coded_48 : decode cX2_coded 48 = .ok (.iload_n 2, 1) := by decide +kernel
theorem dX2_coded_49 : decode cX2_coded 49 = .ok (.invokevirtual 120, 3) := by decide +kernel
theorem dX2_coded_52 : decode cX2_coded 52 = .ok (.iload_n 1, 1) := by decide +kernel
theorem dX2_coded_53 : decode cX2_coded 53 = .ok (.if_icmp .ne 6, 3) := by decide +kernel
theorem dX2_coded_56 : decode cX2_coded 56 = .ok (.iinc 3 1, 3) := by decide +kernel
theorem dX2_coded_59 : decode cX2_coded 59 = .ok (.iinc 4 1, 3) := by decide +kernel
theorem dX2_coded_62 : decode cX2_coded 62 = .ok (.goto (-32), 3) := by decide +kernel
theorem dX2_coded_65 : decode cX2_coded 65 = .ok (.iload_n 3, 1) := by decide +kernel
theorem dX2_coded_66 : decode cX2_coded 66 = .ok (.ireturn, 1) := by decide +kernel
theorem dX2_count_0 : decode cX2_count 0 = .ok (.iload_n 1, 1) := by decide +kernel
theorem dX2_count_1 : decode cX2_count 1 = .ok (.iconst 5, 1) := by decide +kernel
theorem dX2_count_2 : decode cX2_count 2 = .ok (.invokestatic 75, 3) := by decide +kernel
theorem dX2_count_5 : decode cX2_count 5 = .ok (.invokestatic 54, 3) := by decide +kernel
theorem dX2_count_8 : decode cX2_count 8 = .ok (.iload_n 1, 1) := by decide +kernel
theorem dX2_count_9 : decode cX2_count 9 = .ok (.tableswitch 60 0 3 #[31, 36, 44, 52], 31) := by decide +kernel
theorem dX2_count_40 : decode cX2_count 40 = .ok (.aload_n 0, 1) := by decide +kernel
theorem dX2_count_41 : decode cX2_count 41 = .ok (.getfield 58, 3) := by decide +kernel
theorem dX2_count_44 : decode cX2_count 44 = .ok (.ireturn, 1) := by decide +kernel
theorem dX2_count_45 : decode cX2_count 45 = .ok (.aload_n 0, 1) := by decide +kernel
theorem dX2_count_46 : decode cX2_count 46 = .ok (.getfield 19, 3) := by decide +kernel
theorem dX2_count_49 : decode cX2_count 49 = .ok (.getfield 152, 3) := by decide +kernel
theorem dX2_count_52 : decode cX2_count 52 = .ok (.ireturn, 1) := by decide +kernel
theorem dX2_count_53 : decode cX2_count 53 = .ok (.aload_n 0, 1) := by decide +kernel
theorem dX2_count_54 : decode cX2_count 54 = .ok (.getfield 28, 3) := by decide +kernel
theorem dX2_count_57 : decode cX2_count 57 = .ok (.getfield 107, 3) := by decide +kernel
theorem dX2_count_60 : decode cX2_count 60 = .ok (.ireturn, 1) := by decide +kernel
theorem dX2_count_61 : decode cX2_count 61 = .ok (.aload_n 0, 1) := by decide +kernel
theorem dX2_count_62 : decode cX2_count 62 = .ok (.getfield 32, 3) := by decide +kernel
theorem dX2_count_65 : decode cX2_count 65 = .ok (.getfield 107, 3) := by decide +kernel
theorem dX2_count_68 : decode cX2_count 68 = .ok (.ireturn, 1) := by decide +kernel
theorem dX2_count_69 : decode cX2_count 69 = .ok (.aload_n 0, 1) := by decide +kernel
theorem dX2_count_70 : decode cX2_count 70 = .ok (.getfield 130, 3) := by decide +kernel
theorem dX2_count_73 : decode cX2_count 73 = .ok (.ireturn, 1) := by decide +kernel
theorem dX2_checkKnown_0 : decode cX2_checkKnown 0 = .ok (.iload_n 0, 1) := by decide +kernel
theorem dX2_checkKnown_1 : decode cX2_checkKnown 1 = .ok (.ifCond .ne 13, 3) := by decide +kernel
theorem dX2_checkKnown_4 : decode cX2_checkKnown 4 = .ok (.new 153, 3) := by decide +kernel
theorem dX2_checkKnown_7 : decode cX2_checkKnown 7 = .ok (.dup, 1) := by decide +kernel
theorem dX2_checkKnown_8 : decode cX2_checkKnown 8 = .ok (.ldc 155, 2) := by decide +kernel
theorem dX2_checkKnown_10 : decode cX2_checkKnown 10 = .ok (.invokespecial 157, 3) := by decide +kernel
theorem dX2_checkKnown_13 : decode cX2_checkKnown 13 = .ok (.athrow, 1) := by decide +kernel
theorem dX2_checkKnown_14 : decode cX2_checkKnown 14 = .ok (.return_, 1) := by decide +kernel
theorem dX2_checkRange_0 : decode cX2_checkRange 0 = .ok (.iload_n 0, 1) := by decide +kernel
theorem dX2_checkRange_1 : decode cX2_checkRange 1 = .ok (.ifCond .ne 13, 3) := by decide +kernel
theorem dX2_checkRange_4 : decode cX2_checkRange 4 = .ok (.new 160, 3) := by decide +kernel
theorem dX2_checkRange_7 : decode cX2_checkRange 7 = .ok (.dup, 1) := by decide +kernel
theorem dX2_checkRange_8 : decode cX2_checkRange 8 = .ok (.ldc 162, 2) := by decide +kernel
theorem dX2_checkRange_10 : decode cX2_checkRange 10 = .ok (.invokespecial 164, 3) := by decide +kernel
theorem dX2_checkRange_13 : decode cX2_checkRange 13 = .ok (.athrow, 1) := by decide +kernel
theorem dX2_checkRange_14 : decode cX2_checkRange 14 = .ok (.return_, 1) := by decide +kernel
theorem dX2_checkState_0 : decode cX2_checkState 0 = .ok (.iload_n 0, 1) := by decide +kernel
theorem dX2_checkState_1 : decode cX2_checkState 1 = .ok (.ifCond .ne 13, 3) := by decide +kernel
theorem dX2_checkState_4 : decode cX2_checkState 4 = .ok (.new 165, 3) := by decide +kernel
theorem dX2_checkState_7 : decode cX2_checkState 7 = .ok (.dup, 1) := by decide +kernel
theorem dX2_checkState_8 : decode cX2_checkState 8 = .ok (.ldc 167, 2) := by decide +kernel
theorem dX2_checkState_10 : decode cX2_checkState 10 = .ok (.invokespecial 169, 3) := by decide +kernel
theorem dX2_checkState_13 : decode cX2_checkState 13 = .ok (.athrow, 1) := by decide +kernel
theorem dX2_checkState_14 : decode cX2_checkState 14 = .ok (.return_, 1) := by decide +kernel
theorem dX2_checkRoom_0 : decode cX2_checkRoom 0 = .ok (.iload_n 0, 1) := by decide +kernel
theorem dX2_checkRoom_1 : decode cX2_checkRoom 1 = .ok (.ifCond .ne 13, 3) := by decide +kernel
theorem dX2_checkRoom_4 : decode cX2_checkRoom 4 = .ok (.new 170, 3) := by decide +kernel
theorem dX2_checkRoom_7 : decode cX2_checkRoom 7 = .ok (.dup, 1) := by decide +kernel
theorem dX2_checkRoom_8 : decode cX2_checkRoom 8 = .ok (.ldc 172, 2) := by decide +kernel
theorem dX2_checkRoom_10 : decode cX2_checkRoom 10 = .ok (.invokespecial 174, 3) := by decide +kernel
theorem dX2_checkRoom_13 : decode cX2_checkRoom 13 = .ok (.athrow, 1) := by decide +kernel
theorem dX2_checkRoom_14 : decode cX2_checkRoom 14 = .ok (.return_, 1) := by decide +kernel
theorem dX2_isKind_0 : decode cX2_isKind 0 = .ok (.iload_n 1, 1) := by decide +kernel
theorem dX2_isKind_1 : decode cX2_isKind 1 = .ok (.aload_n 0, 1) := by decide +kernel
theorem dX2_isKind_2 : decode cX2_isKind 2 = .ok (.getfield 58, 3) := by decide +kernel
theorem dX2_isKind_5 : decode cX2_isKind 5 = .ok (.invokestatic 75, 3) := by decide +kernel
theorem dX2_isKind_8 : decode cX2_isKind 8 = .ok (.ireturn, 1) := by decide +kernel
theorem dX2_isKindOrNone_0 : decode cX2_isKindOrNone 0 = .ok (.iload_n 1, 1) := by decide +kernel
theorem dX2_isKindOrNone_1 : decode cX2_isKindOrNone 1 = .ok (.iconst (-1), 1) := by decide +kernel
theorem dX2_isKindOrNone_2 : decode cX2_isKindOrNone 2 = .ok (.if_icmp .eq 11, 3) := by decide +kernel
theorem dX2_isKindOrNone_5 : decode cX2_isKindOrNone 5 = .ok (.aload_n 0, 1) := by decide +kernel
theorem dX2_isKindOrNone_6 : decode cX2_isKindOrNone 6 = .ok (.iload_n 1, 1) := by decide +kernel
theorem dX2_isKindOrNone_7 : decode cX2_isKindOrNone 7 = .ok (.invokevirtual 65, 3) := by decide +kernel
theorem dX2_isKindOrNone_10 : decode cX2_isKindOrNone 10 = .ok (.ifCond .eq 7, 3) := by decide +kernel
theorem dX2_isKindOrNone_13 : decode cX2_isKindOrNone 13 = .ok (.iconst 1, 1) := by decide +kernel
theorem dX2_isKindOrNone_14 : decode cX2_isKindOrNone 14 = .ok (.goto 4, 3) := by decide +kernel
theorem dX2_isKindOrNone_17 : decode cX2_isKindOrNone 17 = .ok (.iconst 0, 1) := by decide +kernel
theorem dX2_isKindOrNone_18 : decode cX2_isKindOrNone 18 = .ok (.ireturn, 1) := by decide +kernel
theorem dX2_isIncident_0 : decode cX2_isIncident 0 = .ok (.iload_n 1, 1) := by decide +kernel
theorem dX2_isIncident_1 : decode cX2_isIncident 1 = .ok (.aload_n 0, 1) := by decide +kernel
theorem dX2_isIncident_2 : decode cX2_isIncident 2 = .ok (.getfield 130, 3) := by decide +kernel
theorem dX2_isIncident_5 : decode cX2_isIncident 5 = .ok (.invokestatic 75, 3) := by decide +kernel
theorem dX2_isIncident_8 : decode cX2_isIncident 8 = .ok (.ireturn, 1) := by decide +kernel
theorem dX2_isDay_0 : decode cX2_isDay 0 = .ok (.iload_n 0, 1) := by decide +kernel
theorem dX2_isDay_1 : decode cX2_isDay 1 = .ok (.ifCond .lt 14, 3) := by decide +kernel
theorem dX2_isDay_4 : decode cX2_isDay 4 = .ok (.iload_n 0, 1) := by decide +kernel
theorem dX2_isDay_5 : decode cX2_isDay 5 = .ok (.sipush 9999, 3) := by decide +kernel
theorem dX2_isDay_8 : decode cX2_isDay 8 = .ok (.if_icmp .gt 7, 3) := by decide +kernel
theorem dX2_isDay_11 : decode cX2_isDay 11 = .ok (.iconst 1, 1) := by decide +kernel
theorem dX2_isDay_12 : decode cX2_isDay 12 = .ok (.goto 4, 3) := by decide +kernel
theorem dX2_isDay_15 : decode cX2_isDay 15 = .ok (.iconst 0, 1) := by decide +kernel
theorem dX2_isDay_16 : decode cX2_isDay 16 = .ok (.ireturn, 1) := by decide +kernel
theorem dX2_isNeed_0 : decode cX2_isNeed 0 = .ok (.iload_n 0, 1) := by decide +kernel
theorem dX2_isNeed_1 : decode cX2_isNeed 1 = .ok (.bipush 10, 2) := by decide +kernel
theorem dX2_isNeed_3 : decode cX2_isNeed 3 = .ok (.if_icmp .lt 13, 3) := by decide +kernel
theorem dX2_isNeed_6 : decode cX2_isNeed 6 = .ok (.iload_n 0, 1) := by decide +kernel
theorem dX2_isNeed_7 : decode cX2_isNeed 7 = .ok (.bipush 26, 2) := by decide +kernel
theorem dX2_isNeed_9 : decode cX2_isNeed 9 = .ok (.if_icmp .ge 7, 3) := by decide +kernel
theorem dX2_isNeed_12 : decode cX2_isNeed 12 = .ok (.iconst 1, 1) := by decide +kernel
theorem dX2_isNeed_13 : decode cX2_isNeed 13 = .ok (.goto 4, 3) := by decide +kernel
theorem dX2_isNeed_16 : decode cX2_isNeed 16 = .ok (.iconst 0, 1) := by decide +kernel
theorem dX2_isNeed_17 : decode cX2_isNeed 17 = .ok (.ireturn, 1) := by decide +kernel
theorem dX2_isBelow_0 : decode cX2_isBelow 0 = .ok (.iload_n 0, 1) := by decide +kernel
theorem dX2_isBelow_1 : decode cX2_isBelow 1 = .ok (.ifCond .lt 12, 3) := by decide +kernel
theorem dX2_isBelow_4 : decode cX2_isBelow 4 = .ok (.iload_n 0, 1) := by decide +kernel
theorem dX2_isBelow_5 : decode cX2_isBelow 5 = .ok (.iload_n 1, 1) := by decide +kernel
theorem dX2_isBelow_6 : decode cX2_isBelow 6 = .ok (.if_icmp .ge 7, 3) := by decide +kernel
theorem dX2_isBelow_9 : decode cX2_isBelow 9 = .ok (.iconst 1, 1) := by decide +kernel
theorem dX2_isBelow_10 : decode cX2_isBelow 10 = .ok (.goto 4, 3) := by decide +kernel
theorem dX2_isBelow_13 : decode cX2_isBelow 13 = .ok (.iconst 0, 1) := by decide +kernel
theorem dX2_isBelow_14 : decode cX2_isBelow 14 = .ok (.ireturn, 1) := by decide +kernel
theorem dX2_isSameOrAbove_0 : decode cX2_isSameOrAbove 0 = .ok (.iload_n 2, 1) := by decide +kernel
theorem dX2_isSameOrAbove_1 : decode cX2_isSameOrAbove 1 = .ok (.istore_n 3, 1) := by decide +kernel
theorem dX2_isSameOrAbove_2 : decode cX2_isSameOrAbove 2 = .ok (.iconst 0, 1) := by decide +kernel
theorem dX2_isSameOrAbove_3 : decode cX2_isSameOrAbove 3 = .ok (.istore 4, 2) := by decide +kernel
theorem dX2_isSameOrAbove_5 : decode cX2_isSameOrAbove 5 = .ok (.iload 4, 2) := by decide +kernel
theorem dX2_isSameOrAbove_7 : decode cX2_isSameOrAbove 7 = .ok (.bipush 40, 2) := by decide +kernel
theorem dX2_isSameOrAbove_9 : decode cX2_isSameOrAbove 9 = .ok (.if_icmp .ge 31, 3) := by decide +kernel
theorem dX2_isSameOrAbove_12 : decode cX2_isSameOrAbove 12 = .ok (.aload_n 0, 1) := by decide +kernel
theorem dX2_isSameOrAbove_13 : decode cX2_isSameOrAbove 13 = .ok (.iload_n 3, 1) := by decide +kernel
theorem dX2_isSameOrAbove_14 : decode cX2_isSameOrAbove 14 = .ok (.invokevirtual 65, 3) := by decide +kernel
theorem dX2_isSameOrAbove_17 : decode cX2_isSameOrAbove 17 = .ok (.ifCond .eq 23, 3) := by decide +kernel
theorem dX2_isSameOrAbove_20 : decode cX2_isSameOrAbove 20 = .ok (.iload_n 3, 1) := by decide +kernel
theorem dX2_isSameOrAbove_21 : decode cX2_isSameOrAbove 21 = .ok (.iload_n 1, 1) := by decide +kernel
theorem dX2_isSameOrAbove_22 : decode cX2_isSameOrAbove 22 = .ok (.if_icmp .ne 5, 3) := by decide +kernel
theorem dX2_isSameOrAbove_25 : decode cX2_isSameOrAbove 25 = .ok (.iconst 1, 1) := by decide +kernel
theorem dX2_isSameOrAbove_26 : decode cX2_isSameOrAbove 26 = .ok (.ireturn, 1) := by decide +kernel
theorem dX2_isSameOrAbove_27 : decode cX2_isSameOrAbove 27 = .ok (.aload_n 0, 1) := by decide +kernel
theorem dX2_isSameOrAbove_28 : decode cX2_isSameOrAbove 28 = .ok (.getfield 9, 3) := by decide +kernel
theorem dX2_isSameOrAbove_31 : decode cX2_isSameOrAbove 31 = .ok (.iload_n 3, 1) := by decide +kernel
theorem dX2_isSameOrAbove_32 : decode cX2_isSameOrAbove 32 = .ok (.iaload, 1) := by decide +kernel
theorem dX2_isSameOrAbove_33 : decode cX2_isSameOrAbove 33 = .ok (.istore_n 3, 1) := by decide +kernel
theorem dX2_isSameOrAbove_34 : decode cX2_isSameOrAbove 34 = .ok (.iinc 4 1, 3) := by decide +kernel
theorem dX2_isSameOrAbove_37 : decode cX2_isSameOrAbove 37 = .ok (.goto (-32), 3) := by decide +kernel
theorem dX2_isSameOrAbove_40 : decode cX2_isSameOrAbove 40 = .ok (.iconst 0, 1) := by decide +kernel
theorem dX2_isSameOrAbove_41 : decode cX2_isSameOrAbove 41 = .ok (.ireturn, 1) := by decide +kernel
theorem dX2_depth_0 : decode cX2_depth 0 = .ok (.iconst 0, 1) := by decide +kernel
theorem dX2_depth_1 : decode cX2_depth 1 = .ok (.istore_n 2, 1) := by decide +kernel
theorem dX2_depth_2 : decode cX2_depth 2 = .ok (.aload_n 0, 1) := by decide +kernel
theorem dX2_depth_3 : decode cX2_depth 3 = .ok (.getfield 9, 3) := by decide +kernel
theorem dX2_depth_6 : decode cX2_depth 6 = .ok (.iload_n 1, 1) := by decide +kernel
theorem dX2_depth_7 : decode cX2_depth 7 = .ok (.iaload, 1) := by decide +kernel
theorem dX2_depth_8 : decode cX2_depth 8 = .ok (.istore_n 3, 1) := by decide +kernel
theorem dX2_depth_9 : decode cX2_depth 9 = .ok (.iconst 0, 1) := by decide +kernel
theorem dX2_depth_10 : decode cX2_depth 10 = .ok (.istore 4, 2) := by decide +kernel
theorem dX2_depth_12 : decode cX2_depth 12 = .ok (.iload 4, 2) := by decide +kernel
theorem dX2_depth_14 : decode cX2_depth 14 = .ok (.bipush 40, 2) := by decide +kernel
theorem dX2_depth_16 : decode cX2_depth 16 = .ok (.if_icmp .ge 27, 3) := by decide +kernel
theorem dX2_depth_19 : decode cX2_depth 19 = .ok (.aload_n 0, 1) := by decide +kernel
theorem dX2_depth_20 : decode cX2_depth 20 = .ok (.iload_n 3, 1) := by decide +kernel
theorem dX2_depth_21 : decode cX2_depth 21 = .ok (.invokevirtual 65, 3) := by decide +kernel
theorem dX2_depth_24 : decode cX2_depth 24 = .ok (.ifCond .eq 19, 3) := by decide +kernel
theorem dX2_depth_27 : decode cX2_depth 27 = .ok (.iinc 2 1, 3) := by decide +kernel
theorem dX2_depth_30 : decode cX2_depth 30 = .ok (.aload_n 0, 1) := by decide +kernel
theorem dX2_depth_31 : decode cX2_depth 31 = .ok (.getfield 9, 3) := by decide +kernel
theorem dX2_depth_34 : decode cX2_depth 34 = .ok (.iload_n 3, 1) := by decide +kernel
theorem dX2_depth_35 : decode cX2_depth 35 = .ok (.iaload, 1) := by decide +kernel
theorem dX2_depth_36 : decode cX2_depth 36 = .ok (.istore_n 3, 1) := by decide +kernel
theorem dX2_depth_37 : decode cX2_depth 37 = .ok (.iinc 4 1, 3) := by decide +kernel
theorem dX2_depth_40 : decode cX2_depth 40 = .ok (.goto (-28), 3) := by decide +kernel
theorem dX2_depth_43 : decode cX2_depth 43 = .ok (.iload_n 2, 1) := by decide +kernel
theorem dX2_depth_44 : decode cX2_depth 44 = .ok (.ireturn, 1) := by decide +kernel
theorem dX2_isClosed_0 : decode cX2_isClosed 0 = .ok (.iload_n 1, 1) := by decide +kernel
theorem dX2_isClosed_1 : decode cX2_isClosed 1 = .ok (.istore_n 3, 1) := by decide +kernel
theorem dX2_isClosed_2 : decode cX2_isClosed 2 = .ok (.iconst 0, 1) := by decide +kernel
theorem dX2_isClosed_3 : decode cX2_isClosed 3 = .ok (.istore 4, 2) := by decide +kernel
theorem dX2_isClosed_5 : decode cX2_isClosed 5 = .ok (.iload 4, 2) := by decide +kernel
theorem dX2_isClosed_7 : decode cX2_isClosed 7 = .ok (.bipush 40, 2) := by decide +kernel
theorem dX2_isClosed_9 : decode cX2_isClosed 9 = .ok (.if_icmp .ge 46, 3) := by decide +kernel
theorem dX2_isClosed_12 : decode cX2_isClosed 12 = .ok (.aload_n 0, 1) := by decide +kernel
theorem dX2_isClosed_13 : decode cX2_isClosed 13 = .ok (.iload_n 3, 1) := by decide +kernel
theorem dX2_isClosed_14 : decode cX2_isClosed 14 = .ok (.invokevirtual 65, 3) := by decide +kernel
theorem dX2_isClosed_17 : decode cX2_isClosed 17 = .ok (.ifCond .eq 38, 3) := by decide +kernel
theorem dX2_isClosed_20 : decode cX2_isClosed 20 = .ok (.aload_n 0, 1) := by decide +kernel
theorem dX2_isClosed_21 : decode cX2_isClosed 21 = .ok (.getfield 13, 3) := by decide +kernel
theorem dX2_isClosed_24 : decode cX2_isClosed 24 = .ok (.iload_n 3, 1) := by decide +kernel
theorem dX2_isClosed_25 : decode cX2_isClosed 25 = .ok (.iaload, 1) := by decide +kernel
theorem dX2_isClosed_26 : decode cX2_isClosed 26 = .ok (.iconst (-1), 1) := by decide +kernel
theorem dX2_isClosed_27 : decode cX2_isClosed 27 = .ok (.if_icmp .eq 15, 3) := by decide +kernel
theorem dX2_isClosed_30 : decode cX2_isClosed 30 = .ok (.aload_n 0, 1) := by decide +kernel
theorem dX2_isClosed_31 : decode cX2_isClosed 31 = .ok (.getfield 13, 3) := by decide +kernel
theorem dX2_isClosed_34 : decode cX2_isClosed 34 = .ok (.iload_n 3, 1) := by decide +kernel
theorem dX2_isClosed_35 : decode cX2_isClosed 35 = .ok (.iaload, 1) := by decide +kernel
theorem dX2_isClosed_36 : decode cX2_isClosed 36 = .ok (.iload_n 2, 1) := by decide +kernel
theorem dX2_isClosed_37 : decode cX2_isClosed 37 = .ok (.if_icmp .gt 5, 3) := by decide +kernel
theorem dX2_isClosed_40 : decode cX2_isClosed 40 = .ok (.iconst 1, 1) := by decide +kernel
theorem dX2_isClosed_41 : decode cX2_isClosed 41 = .ok (.ireturn, 1) := by decide +kernel
theorem dX2_isClosed_42 : decode cX2_isClosed 42 = .ok (.aload_n 0, 1) := by decide +kernel
theorem dX2_isClosed_43 : decode cX2_isClosed 43 = .ok (.getfield 9, 3) := by decide +kernel
theorem dX2_isClosed_46 : decode cX2_isClosed 46 = .ok (.iload_n 3, 1) := by decide +kernel
theorem dX2_isClosed_47 : decode cX2_isClosed 47 = .ok (.iaload, 1) := by decide +kernel
theorem dX2_isClosed_48 : decode cX2_isClosed 48 = .ok (.istore_n 3, 1) := by decide +kernel
theorem dX2_isClosed_49 : decode cX2_isClosed 49 = .ok (.iinc 4 1, 3) := by decide +kernel
theorem dX2_isClosed_52 : decode cX2_isClosed 52 = .ok (.goto (-47), 3) := by decide +kernel
theorem dX2_isClosed_55 : decode cX2_isClosed 55 = .ok (.iconst 0, 1) := by decide +kernel
theorem dX2_isClosed_56 : decode cX2_isClosed 56 = .ok (.ireturn, 1) := by decide +kernel
theorem dX2_wordOf_0 : decode cX2_wordOf 0 = .ok (.aload_n 0, 1) := by decide +kernel
theorem dX2_wordOf_1 : decode cX2_wordOf 1 = .ok (.iload_n 1, 1) := by decide +kernel
theorem dX2_wordOf_2 : decode cX2_wordOf 2 = .ok (.iload_n 2, 1) := by decide +kernel
theorem dX2_wordOf_3 : decode cX2_wordOf 3 = .ok (.iload_n 3, 1) := by decide +kernel
theorem dX2_wordOf_4 : decode cX2_wordOf 4 = .ok (.getstatic 175, 3) := by decide +kernel
theorem dX2_wordOf_7 : decode cX2_wordOf 7 = .ok (.iload_n 2, 1) := by decide +kernel
theorem dX2_wordOf_8 : decode cX2_wordOf 8 = .ok (.iaload, 1) := by decide +kernel
theorem dX2_wordOf_9 : decode cX2_wordOf 9 = .ok (.invokevirtual 178, 3) := by decide +kernel
theorem dX2_wordOf_12 : decode cX2_wordOf 12 = .ok (.ireturn, 1) := by decide +kernel
theorem dX2_needOf_0 : decode cX2_needOf 0 = .ok (.aload_n 0, 1) := by decide +kernel
theorem dX2_needOf_1 : decode cX2_needOf 1 = .ok (.iload_n 1, 1) := by decide +kernel
theorem dX2_needOf_2 : decode cX2_needOf 2 = .ok (.iconst 4, 1) := by decide +kernel
theorem dX2_needOf_3 : decode cX2_needOf 3 = .ok (.iload_n 2, 1) := by decide +kernel
theorem dX2_needOf_4 : decode cX2_needOf 4 = .ok (.iadd, 1) := by decide +kernel
theorem dX2_needOf_5 : decode cX2_needOf 5 = .ok (.iload_n 3, 1) := by decide +kernel
theorem dX2_needOf_6 : decode cX2_needOf 6 = .ok (.iconst 0, 1) := by decide +kernel
theorem dX2_needOf_7 : decode cX2_needOf 7 = .ok (.invokevirtual 178, 3) := by decide +kernel
theorem dX2_needOf_10 : decode cX2_needOf 10 = .ok (.ireturn, 1) := by decide +kernel
theorem dX2_inherited_0 : decode cX2_inherited 0 = .ok (.iconst 0, 1) := by decide +kernel
theorem dX2_inherited_1 : decode cX2_inherited 1 = .ok (.istore 5, 2) := by decide +kernel
theorem dX2_inherited_3 : decode cX2_inherited 3 = .ok (.iload_n 1, 1) := by decide +kernel
theorem dX2_inherited_4 : decode cX2_inherited 4 = .ok (.istore 6, 2) := by decide +kernel
theorem dX2_inherited_6 : decode cX2_inherited 6 = .ok (.iconst 0, 1) := by decide +kernel
theorem dX2_inherited_7 : decode cX2_inherited 7 = .ok (.istore 7, 2) := by decide +kernel
theorem dX2_inherited_9 : decode cX2_inherited 9 = .ok (.iload 7, 2) := by decide +kernel
theorem dX2_inherited_11 : decode cX2_inherited 11 = .ok (.bipush 40, 2) := by decide +kernel
theorem dX2_inherited_13 : decode cX2_inherited 13 = .ok (.if_icmp .ge 113, 3) := by decide +kernel
theorem dX2_inherited_16 : decode cX2_inherited 16 = .ok (.aload_n 0, 1) := by decide +kernel
theorem dX2_inherited_17 : decode cX2_inherited 17 = .ok (.iload 6, 2) := by decide +kernel
theorem dX2_inherited_19 : decode cX2_inherited 19 = .ok (.invokevirtual 65, 3) := by decide +kernel
theorem dX2_inherited_22 : decode cX2_inherited 22 = .ok (.ifCond .eq 104, 3) := by decide +kernel
theorem dX2_inherited_25 : decode cX2_inherited 25 = .ok (.aload_n 0, 1) := by decide +kernel
theorem dX2_inherited_26 : decode cX2_inherited 26 = .ok (.getfield 19, 3) := by decide +kernel
theorem dX2_inherited_29 : decode cX2_inherited 29 = .ok (.iload 6, 2) := by decide +kernel
theorem dX2_inherited_31 : decode cX2_inherited 31 = .ok (.iload_n 2, 1) := by decide +kernel
theorem dX2_inherited_32 : decode cX2_inherited 32 = .ok (.iload_n 3, 1) := by decide +kernel
theorem dX2_inherited_33 : decode cX2_inherited 33 = .ok (.invokevirtual 182, 3) := by decide +kernel
theorem dX2_inherited_36 : decode cX2_inherited 36 = .ok (.istore 8, 2) := by decide +kernel
theorem dX2_inherited_38 : decode cX2_inherited 38 = .ok (.iload 8, 2) := by decide +kernel
theorem dX2_inherited_40 : decode cX2_inherited 40 = .ok (.iconst (-1), 1) := by decide +kernel
theorem dX2_inherited_41 : decode cX2_inherited 41 = .ok (.if_icmp .eq 33, 3) := by decide +kernel
theorem dX2_inherited_44 : decode cX2_inherited 44 = .ok (.aload_n 0, 1) := by decide +kernel
theorem dX2_inherited_45 : decode cX2_inherited 45 = .ok (.getfield 19, 3) := by decide +kernel
theorem dX2_inherited_48 : decode cX2_inherited 48 = .ok (.getfield 185, 3) := by decide +kernel
theorem dX2_inherited_51 : decode cX2_inherited 51 = .ok (.iload 8, 2) := by decide +kernel
theorem dX2_inherited_53 : decode cX2_inherited 53 = .ok (.iaload, 1) := by decide +kernel
theorem dX2_inherited_54 : decode cX2_inherited 54 = .ok (.iconst 1, 1) := by decide +kernel
theorem dX2_inherited_55 : decode cX2_inherited 55 = .ok (.if_icmp .ne 19, 3) := by decide +kernel
theorem dX2_inherited_58 : decode cX2_inherited 58 = .ok (.iload 5, 2) := by decide +kernel
theorem dX2_inherited_60 : decode cX2_inherited 60 = .ok (.aload_n 0, 1) := by decide +kernel
theorem dX2_inherited_61 : decode cX2_inherited 61 = .ok (.getfield 19, 3) := by decide +kernel
theorem dX2_inherited_64 : decode cX2_inherited 64 = .ok (.getfield 188, 3) := by decide +kernel
theorem dX2_inherited_67 : decode cX2_inherited 67 = .ok (.iload 8, 2) := by decide +kernel
theorem dX2_inherited_69 : decode cX2_inherited 69 = .ok (.iaload, 1) := by decide +kernel
theorem dX2_inherited_70 : decode cX2_inherited 70 = .ok (.invokestatic 139, 3) := by decide +kernel
theorem dX2_inherited_73 : decode cX2_inherited 73 = .ok (.ireturn, 1) := by decide +kernel
theorem dX2_inherited_74 : decode cX2_inherited 74 = .ok (.iload 8, 2) := by decide +kernel
theorem dX2_inherited_76 : decode cX2_inherited 76 = .ok (.iconst (-1), 1) := by decide +kernel
theorem dX2_inherited_77 : decode cX2_inherited 77 = .ok (.if_icmp .eq 34, 3) := by decide +kernel
theorem dX2_inherited_80 : decode cX2_inherited 80 = .ok (.aload_n 0, 1) := by decide +kernel
theorem dX2_inherited_81 : decode cX2_inherited 81 = .ok (.getfield 19, 3) := by decide +kernel
theorem dX2_inherited_84 : decode cX2_inherited 84 = .ok (.getfield 185, 3) := by decide +kernel
theorem dX2_inherited_87 : decode cX2_inherited 87 = .ok (.iload 8, 2) := by decide +kernel
theorem dX2_inherited_89 : decode cX2_inherited 89 = .ok (.iaload, 1) := by decide +kernel
theorem dX2_inherited_90 : decode cX2_inherited 90 = .ok (.iconst 2, 1) := by decide +kernel
theorem dX2_inherited_91 : decode cX2_inherited 91 = .ok (.if_icmp .ne 20, 3) := by decide +kernel
theorem dX2_inherited_94 : decode cX2_inherited 94 = .ok (.iload 5, 2) := by decide +kernel
theorem dX2_inherited_96 : decode cX2_inherited 96 = .ok (.aload_n 0, 1) := by decide +kernel
theorem dX2_inherited_97 : decode cX2_inherited 97 = .ok (.getfield 19, 3) := by decide +kernel
theorem dX2_inherited_100 : decode cX2_inherited 100 = .ok (.getfield 188, 3) := by decide +kernel
theorem dX2_inherited_103 : decode cX2_inherited 103 = .ok (.iload 8, 2) := by decide +kernel
theorem dX2_inherited_105 : decode cX2_inherited 105 = .ok (.iaload, 1) := by decide +kernel
theorem dX2_inherited_106 : decode cX2_inherited 106 = .ok (.invokestatic 139, 3) := by decide +kernel
theorem dX2_inherited_109 : decode cX2_inherited 109 = .ok (.istore 5, 2) := by decide +kernel
theorem dX2_inherited_111 : decode cX2_inherited 111 = .ok (.aload_n 0, 1) := by decide +kernel
theorem dX2_inherited_112 : decode cX2_inherited 112 = .ok (.getfield 9, 3) := by decide +kernel
theorem dX2_inherited_115 : decode cX2_inherited 115 = .ok (.iload 6, 2) := by decide +kernel
theorem dX2_inherited_117 : decode cX2_inherited 117 = .ok (.iaload, 1) := by decide +kernel
theorem dX2_inherited_118 : decode cX2_inherited 118 = .ok (.istore 6, 2) := by decide +kernel
theorem dX2_inherited_120 : decode cX2_inherited 120 = .ok (.iinc 7 1, 3) := by decide +kernel
theorem dX2_inherited_123 : decode cX2_inherited 123 = .ok (.goto (-114), 3) := by decide +kernel
theorem dX2_inherited_126 : decode cX2_inherited 126 = .ok (.iload 5, 2) := by decide +kernel
theorem dX2_inherited_128 : decode cX2_inherited 128 = .ok (.iload 4, 2) := by decide +kernel
theorem dX2_inherited_130 : decode cX2_inherited 130 = .ok (.invokestatic 139, 3) := by decide +kernel
theorem dX2_inherited_133 : decode cX2_inherited 133 = .ok (.ireturn, 1) := by decide +kernel
theorem dX2_kindInArea_0 : decode cX2_kindInArea 0 = .ok (.iload_n 1, 1) := by decide +kernel
theorem dX2_kindInArea_1 : decode cX2_kindInArea 1 = .ok (.istore_n 3, 1) := by decide +kernel
theorem dX2_kindInArea_2 : decode cX2_kindInArea 2 = .ok (.iconst 0, 1) := by decide +kernel
theorem dX2_kindInArea_3 : decode cX2_kindInArea 3 = .ok (.istore 4, 2) := by decide +kernel
theorem dX2_kindInArea_5 : decode cX2_kindInArea 5 = .ok (.iload 4, 2) := by decide +kernel
theorem dX2_kindInArea_7 : decode cX2_kindInArea 7 = .ok (.bipush 40, 2) := by decide +kernel
theorem dX2_kindInArea_9 : decode cX2_kindInArea 9 = .ok (.if_icmp .ge 34, 3) := by decide +kernel
theorem dX2_kindInArea_12 : decode cX2_kindInArea 12 = .ok (.aload_n 0, 1) := by decide +kernel
theorem dX2_kindInArea_13 : decode cX2_kindInArea 13 = .ok (.getfield 28, 3) := by decide +kernel
theorem dX2_kindInArea_16 : decode cX2_kindInArea 16 = .ok (.iload_n 3, 1) := by decide +kernel
theorem dX2_kindInArea_17 : decode cX2_kindInArea 17 = .ok (.iload_n 2, 1) := by decide +kernel
theorem dX2_kindInArea_18 : decode cX2_kindInArea 18 = .ok (.invokevirtual 103, 3) := by decide +kernel
theorem dX2_kindInArea_21 : decode cX2_kindInArea 21 = .ok (.istore 5, 2) := by decide +kernel
theorem dX2_kindInArea_23 : decode cX2_kindInArea 23 = .ok (.aload_n 0, 1) := by decide +kernel
theorem dX2_kindInArea_24 : decode cX2_kindInArea 24 = .ok (.iload 5, 2) := by decide +kernel
theorem dX2_kindInArea_26 : decode cX2_kindInArea 26 = .ok (.invokevirtual 65, 3) := by decide +kernel
theorem dX2_kindInArea_29 : decode cX2_kindInArea 29 = .ok (.ifCond .ne 5, 3) := by decide +kernel
theorem dX2_kindInArea_32 : decode cX2_kindInArea 32 = .ok (.iload_n 3, 1) := by decide +kernel
theorem dX2_kindInArea_33 : decode cX2_kindInArea 33 = .ok (.ireturn, 1) := by decide +kernel
theorem dX2_kindInArea_34 : decode cX2_kindInArea 34 = .ok (.iload 5, 2) := by decide +kernel
theorem dX2_kindInArea_36 : decode cX2_kindInArea 36 = .ok (.istore_n 3, 1) := by decide +kernel
theorem dX2_kindInArea_37 : decode cX2_kindInArea 37 = .ok (.iinc 4 1, 3) := by decide +kernel
theorem dX2_kindInArea_40 : decode cX2_kindInArea 40 = .ok (.goto (-35), 3) := by decide +kernel
theorem dX2_kindInArea_43 : decode cX2_kindInArea 43 = .ok (.iload_n 3, 1) := by decide +kernel
theorem dX2_kindInArea_44 : decode cX2_kindInArea 44 = .ok (.ireturn, 1) := by decide +kernel
theorem dX2_leadsTo_0 : decode cX2_leadsTo 0 = .ok (.iload_n 1, 1) := by decide +kernel
theorem dX2_leadsTo_1 : decode cX2_leadsTo 1 = .ok (.istore 4, 2) := by decide +kernel
theorem dX2_leadsTo_3 : decode cX2_leadsTo 3 = .ok (.iconst 0, 1) := by decide +kernel
theorem dX2_leadsTo_4 : decode cX2_leadsTo 4 = .ok (.istore 5, 2) := by decide +kernel
theorem dX2_leadsTo_6 : decode cX2_leadsTo 6 = .ok (.iload 5, 2) := by decide +kernel
theorem dX2_leadsTo_8 : decode cX2_leadsTo 8 = .ok (.bipush 40, 2) := by decide +kernel
theorem dX2_leadsTo_10 : decode cX2_leadsTo 10 = .ok (.if_icmp .ge 38, 3) := by decide +kernel
theorem dX2_leadsTo_13 : decode cX2_leadsTo 13 = .ok (.aload_n 0, 1) := by decide +kernel
theorem dX2_leadsTo_14 : decode cX2_leadsTo 14 = .ok (.iload 4, 2) := by decide +kernel
theorem dX2_leadsTo_16 : decode cX2_leadsTo 16 = .ok (.invokevirtual 65, 3) := by decide +kernel
theorem dX2_leadsTo_19 : decode cX2_leadsTo 19 = .ok (.ifCond .eq 29, 3) := by decide +kernel
theorem dX2_leadsTo_22 : decode cX2_leadsTo 22 = .ok (.iload 4, 2) := by decide +kernel
theorem dX2_leadsTo_24 : decode cX2_leadsTo 24 = .ok (.iload_n 3, 1) := by decide +kernel
theorem dX2_leadsTo_25 : decode cX2_leadsTo 25 = .ok (.if_icmp .ne 5, 3) := by decide +kernel
theorem dX2_leadsTo_28 : decode cX2_leadsTo 28 = .ok (.iconst 1, 1) := by decide +kernel
theorem dX2_leadsTo_29 : decode cX2_leadsTo 29 = .ok (.ireturn, 1) := by decide +kernel
theorem dX2_leadsTo_30 : decode cX2_leadsTo 30 = .ok (.aload_n 0, 1) := by decide +kernel
theorem dX2_leadsTo_31 : decode cX2_leadsTo 31 = .ok (.getfield 28, 3) := by decide +kernel
theorem dX2_leadsTo_34 : decode cX2_leadsTo 34 = .ok (.iload 4, 2) := by decide +kernel
theorem dX2_leadsTo_36 : decode cX2_leadsTo 36 = .ok (.iload_n 2, 1) := by decide +kernel
theorem dX2_leadsTo_37 : decode cX2_leadsTo 37 = .ok (.invokevirtual 103, 3) := by decide +kernel
theorem dX2_leadsTo_40 : decode cX2_leadsTo 40 = .ok (.istore 4, 2) := by decide +kernel
theorem dX2_leadsTo_42 : decode cX2_leadsTo 42 = .ok (.iinc 5 1, 3) := by decide +kernel
theorem dX2_leadsTo_45 : decode cX2_leadsTo 45 = .ok (.goto (-39), 3) := by decide +kernel
theorem dX2_leadsTo_48 : decode cX2_leadsTo 48 = .ok (.iconst 0, 1) := by decide +kernel
theorem dX2_leadsTo_49 : decode cX2_leadsTo 49 = .ok (.ireturn, 1) := by decide +kernel
theorem dX2_upgradeOf_0 : decode cX2_upgradeOf 0 = .ok (.iload_n 1, 1) := by decide +kernel
theorem dX2_upgradeOf_1 : decode cX2_upgradeOf 1 = .ok (.istore_n 3, 1) := by decide +kernel
theorem dX2_upgradeOf_2 : decode cX2_upgradeOf 2 = .ok (.iconst 0, 1) := by decide +kernel
theorem dX2_upgradeOf_3 : decode cX2_upgradeOf 3 = .ok (.istore 4, 2) := by decide +kernel
theorem dX2_upgradeOf_5 : decode cX2_upgradeOf 5 = .ok (.iload 4, 2) := by decide +kernel
theorem dX2_upgradeOf_7 : decode cX2_upgradeOf 7 = .ok (.bipush 40, 2) := by decide +kernel
theorem dX2_upgradeOf_9 : decode cX2_upgradeOf 9 = .ok (.if_icmp .ge 44, 3) := by decide +kernel
theorem dX2_upgradeOf_12 : decode cX2_upgradeOf 12 = .ok (.aload_n 0, 1) := by decide +kernel
theorem dX2_upgradeOf_13 : decode cX2_upgradeOf 13 = .ok (.iload_n 3, 1) := by decide +kernel
theorem dX2_upgradeOf_14 : decode cX2_upgradeOf 14 = .ok (.invokevirtual 65, 3) := by decide +kernel
theorem dX2_upgradeOf_17 : decode cX2_upgradeOf 17 = .ok (.ifCond .eq 36, 3) := by decide +kernel
theorem dX2_upgradeOf_20 : decode cX2_upgradeOf 20 = .ok (.aload_n 0, 1) := by decide +kernel
theorem dX2_upgradeOf_21 : decode cX2_upgradeOf 21 = .ok (.getfield 32, 3) := by decide +kernel
theorem dX2_upgradeOf_24 : decode cX2_upgradeOf 24 = .ok (.iload_n 3, 1) := by decide +kernel
theorem dX2_upgradeOf_25 : decode cX2_upgradeOf 25 = .ok (.iload_n 2, 1) := by decide +kernel
theorem dX2_upgradeOf_26 : decode cX2_upgradeOf 26 = .ok (.invokevirtual 103, 3) := by decide +kernel
theorem dX2_upgradeOf_29 : decode cX2_upgradeOf 29 = .ok (.istore 5, 2) := by decide +kernel
theorem dX2_upgradeOf_31 : decode cX2_upgradeOf 31 = .ok (.iload 5, 2) := by decide +kernel
theorem dX2_upgradeOf_33 : decode cX2_upgradeOf 33 = .ok (.iconst (-1), 1) := by decide +kernel
theorem dX2_upgradeOf_34 : decode cX2_upgradeOf 34 = .ok (.if_icmp .eq 6, 3) := by decide +kernel
theorem dX2_upgradeOf_37 : decode cX2_upgradeOf 37 = .ok (.iload 5, 2) := by decide +kernel
theorem dX2_upgradeOf_39 : decode cX2_upgradeOf 39 = .ok (.ireturn, 1) := by decide +kernel
theorem dX2_upgradeOf_40 : decode cX2_upgradeOf 40 = .ok (.aload_n 0, 1) := by decide +kernel
theorem dX2_upgradeOf_41 : decode cX2_upgradeOf 41 = .ok (.getfield 9, 3) := by decide +kernel
theorem dX2_upgradeOf_44 : decode cX2_upgradeOf 44 = .ok (.iload_n 3, 1) := by decide +kernel
theorem dX2_upgradeOf_45 : decode cX2_upgradeOf 45 = .ok (.iaload, 1) := by decide +kernel
theorem dX2_upgradeOf_46 : decode cX2_upgradeOf 46 = .ok (.istore_n 3, 1) := by decide +kernel
theorem dX2_upgradeOf_47 : decode cX2_upgradeOf 47 = .ok (.iinc 4 1, 3) := by decide +kernel
theorem dX2_upgradeOf_50 : decode cX2_upgradeOf 50 = .ok (.goto (-45), 3) := by decide +kernel
theorem dX2_upgradeOf_53 : decode cX2_upgradeOf 53 = .ok (.iconst (-1), 1) := by decide +kernel
theorem dX2_upgradeOf_54 : decode cX2_upgradeOf 54 = .ok (.ireturn, 1) := by decide +kernel
theorem dX2_skillsOfAllUnits_0 : decode cX2_skillsOfAllUnits 0 = .ok (.iconst 0, 1) := by decide +kernel
theorem dX2_skillsOfAllUnits_1 : decode cX2_skillsOfAllUnits 1 = .ok (.istore_n 1, 1) := by decide +kernel
theorem dX2_skillsOfAllUnits_2 : decode cX2_skillsOfAllUnits 2 = .ok (.iconst 0, 1) := by decide +kernel
theorem dX2_skillsOfAllUnits_3 : decode cX2_skillsOfAllUnits 3 = .ok (.istore_n 2, 1) := by decide +kernel
theorem dX2_skillsOfAllUnits_4 : decode cX2_skillsOfAllUnits 4 = .ok (.iload_n 2, 1) := by decide +kernel
theorem dX2_skillsOfAllUnits_5 : decode cX2_skillsOfAllUnits 5 = .ok (.bipush 20, 2) := by decide +kernel
theorem dX2_skillsOfAllUnits_7 : decode cX2_skillsOfAllUnits 7 = .ok (.if_icmp .ge 18, 3) := by decide +kernel
theorem dX2_skillsOfAllUnits_10 : decode cX2_skillsOfAllUnits 10 = .ok (.iload_n 1, 1) := by decide +kernel
theorem dX2_skillsOfAllUnits_11 : decode cX2_skillsOfAllUnits 11 = .ok (.aload_n 0, 1) := by decide +kernel
theorem dX2_skillsOfAllUnits_12 : decode cX2_skillsOfAllUnits 12 = .ok (.getfield 47, 3) := by decide +kernel
theorem dX2_skillsOfAllUnits_15 : decode cX2_skillsOfAllUnits 15 = .ok (.iload_n 2, 1) := by decide +kernel
theorem dX2_skillsOfAllUnits_16 : decode cX2_skillsOfAllUnits 16 = .ok (.iaload, 1) := by decide +kernel
theorem dX2_skillsOfAllUnits_17 : decode cX2_skillsOfAllUnits 17 = .ok (.ior, 1) := by decide +kernel
theorem dX2_skillsOfAllUnits_18 : decode cX2_skillsOfAllUnits 18 = .ok (.istore_n 1, 1) := by decide +kernel
theorem dX2_skillsOfAllUnits_19 : decode cX2_skillsOfAllUnits 19 = .ok (.iinc 2 1, 3) := by decide +kernel
theorem dX2_skillsOfAllUnits_22 : decode cX2_skillsOfAllUnits 22 = .ok (.goto (-18), 3) := by decide +kernel
theorem dX2_skillsOfAllUnits_25 : decode cX2_skillsOfAllUnits 25 = .ok (.iload_n 1, 1) := by decide +kernel
theorem dX2_skillsOfAllUnits_26 : decode cX2_skillsOfAllUnits 26 = .ok (.ireturn, 1) := by decide +kernel
theorem dX2_needsOneOf_0 : decode cX2_needsOneOf 0 = .ok (.iconst 0, 1) := by decide +kernel
theorem dX2_needsOneOf_1 : decode cX2_needsOneOf 1 = .ok (.istore 4, 2) := by decide +kernel
theorem dX2_needsOneOf_3 : decode cX2_needsOneOf 3 = .ok (.iload 4, 2) := by decide +kernel
theorem dX2_needsOneOf_5 : decode cX2_needsOneOf 5 = .ok (.bipush 16, 2) := by decide +kernel
theorem dX2_needsOneOf_7 : decode cX2_needsOneOf 7 = .ok (.if_icmp .ge 32, 3) := by decide +kernel
theorem dX2_needsOneOf_10 : decode cX2_needsOneOf 10 = .ok (.iload_n 2, 1) := by decide +kernel
theorem dX2_needsOneOf_11 : decode cX2_needsOneOf 11 = .ok (.iload 4, 2) := by decide +kernel
theorem dX2_needsOneOf_13 : decode cX2_needsOneOf 13 = .ok (.ishr, 1) := by decide +kernel
theorem dX2_needsOneOf_14 : decode cX2_needsOneOf 14 = .ok (.iconst 1, 1) := by decide +kernel
theorem dX2_needsOneOf_15 : decode cX2_needsOneOf 15 = .ok (.iand, 1) := by decide +kernel
theorem dX2_needsOneOf_16 : decode cX2_needsOneOf 16 = .ok (.iconst 1, 1) := by decide +kernel
theorem dX2_needsOneOf_17 : decode cX2_needsOneOf 17 = .ok (.if_icmp .ne 16, 3) := by decide +kernel
theorem dX2_needsOneOf_20 : decode cX2_needsOneOf 20 = .ok (.aload_n 0, 1) := by decide +kernel
theorem dX2_needsOneOf_21 : decode cX2_needsOneOf 21 = .ok (.iload_n 1, 1) := by decide +kernel
theorem dX2_needsOneOf_22 : decode cX2_needsOneOf 22 = .ok (.iload 4, 2) := by decide +kernel
theorem dX2_needsOneOf_24 : decode cX2_needsOneOf 24 = .ok (.iload_n 3, 1) := by decide +kernel
theorem dX2_needsOneOf_25 : decode cX2_needsOneOf 25 = .ok (.invokevirtual 124, 3) := by decide +kernel
theorem dX2_needsOneOf_28 : decode cX2_needsOneOf 28 = .ok (.ifCond .le 5, 3) := by decide +kernel
theorem dX2_needsOneOf_31 : decode cX2_needsOneOf 31 = .ok (.iconst 1, 1) := by decide +kernel
theorem dX2_needsOneOf_32 : decode cX2_needsOneOf 32 = .ok (.ireturn, 1) := by decide +kernel
theorem dX2_needsOneOf_33 : decode cX2_needsOneOf 33 = .ok (.iinc 4 1, 3) := by decide +kernel
theorem dX2_needsOneOf_36 : decode cX2_needsOneOf 36 = .ok (.goto (-33), 3) := by decide +kernel
theorem dX2_needsOneOf_39 : decode cX2_needsOneOf 39 = .ok (.iconst 0, 1) := by decide +kernel
theorem dX2_needsOneOf_40 : decode cX2_needsOneOf 40 = .ok (.ireturn, 1) := by decide +kernel
