theorem dX5_weighFrom_1 : decode cX5_weighFrom 1 = .ok (.iconst 1, 1) := by decide +kernel
theorem dX5_weighFrom_2 : decode cX5_weighFrom 2 = .ok (.aload_n 0, 1) := by decide +kernel
theorem dX5_weighFrom_3 : decode cX5_weighFrom 3 = .ok (.getfield 21, 3) := by decide +kernel
theorem dX5_weighFrom_6 : decode cX5_weighFrom 6 = .ok (.getfield 35, 3) := by decide +kernel
theorem dX5_weighFrom_9 : decode cX5_weighFrom 9 = .ok (.getfield 39, 3) := by decide +kernel
theorem dX5_weighFrom_12 : decode cX5_weighFrom 12 = .ok (.ishl, 1) := by decide +kernel
theorem dX5_weighFrom_13 : decode cX5_weighFrom 13 = .ok (.iconst 1, 1) := by decide +kernel
theorem dX5_weighFrom_14 : decode cX5_weighFrom 14 = .ok (.isub, 1) := by decide +kernel
theorem dX5_weighFrom_15 : decode cX5_weighFrom 15 = .ok (.iconst (-1), 1) := by decide +kernel
theorem dX5_weighFrom_16 : decode cX5_weighFrom 16 = .ok (.iload_n 1, 1) := by decide +kernel
theorem dX5_weighFrom_17 : decode cX5_weighFrom 17 = .ok (.ishl, 1) := by decide +kernel
theorem dX5_weighFrom_18 : decode cX5_weighFrom 18 = .ok (.iand, 1) := by decide +kernel
theorem dX5_weighFrom_19 : decode cX5_weighFrom 19 = .ok (.invokevirtual 61, 3) := by decide +kernel
theorem dX5_weighFrom_22 : decode cX5_weighFrom 22 = .ok (.pop, 1) := by decide +kernel
theorem dX5_weighFrom_23 : decode cX5_weighFrom 23 = .ok (.aload_n 0, 1) := by decide +kernel
theorem dX5_weighFrom_24 : decode cX5_weighFrom 24 = .ok (.iload_n 2, 1) := by decide +kernel
theorem dX5_weighFrom_25 : decode cX5_weighFrom 25 = .ok (.invokevirtual 68, 3) := by decide +kernel
theorem dX5_weighFrom_28 : decode cX5_weighFrom 28 = .ok (.iconst 0, 1) := by decide +kernel
theorem dX5_weighFrom_29 : decode cX5_weighFrom 29 = .ok (.istore_n 3, 1) := by decide +kernel
theorem dX5_weighFrom_30 : decode cX5_weighFrom 30 = .ok (.iload_n 3, 1) := by decide +kernel
theorem dX5_weighFrom_31 : decode cX5_weighFrom 31 = .ok (.iload_n 2, 1) := by decide +kernel
theorem dX5_weighFrom_32 : decode cX5_weighFrom 32 = .ok (.if_icmp .gt 55, 3) := by decide +kernel
theorem dX5_weighFrom_35 : decode cX5_weighFrom 35 = .ok (.iload_n 3, 1) := by decide +kernel
theorem dX5_weighFrom_36 : decode cX5_weighFrom 36 = .ok (.sipush 1024, 3) := by decide +kernel
theorem dX5_weighFrom_39 : decode cX5_weighFrom 39 = .ok (.if_icmp .ge 48, 3) := by decide +kernel
theorem dX5_weighFrom_42 : decode cX5_weighFrom 42 = .ok (.iload_n 3, 1) := by decide +kernel
theorem dX5_weighFrom_43 : decode cX5_weighFrom 43 = .ok (.iload_n 2, 1) := by decide +kernel
theorem dX5_weighFrom_44 : decode cX5_weighFrom 44 = .ok (.iconst (-1), 1) := by decide +kernel
theorem dX5_weighFrom_45 : decode cX5_weighFrom 45 = .ok (.ixor, 1) := by decide +kernel
theorem dX5_weighFrom_46 : decode cX5_weighFrom 46 = .ok (.iand, 1) := by decide +kernel
theorem dX5_weighFrom_47 : decode cX5_weighFrom 47 = .ok (.ifCond .ne 34, 3) := by decide +kernel
theorem dX5_weighFrom_50 : decode cX5_weighFrom 50 = .ok (.aload_n 0, 1) := by decide +kernel
theorem dX5_weighFrom_51 : decode cX5_weighFrom 51 = .ok (.getfield 15, 3) := by decide +kernel
theorem dX5_weighFrom_54 : decode cX5_weighFrom 54 = .ok (.iload_n 3, 1) := by decide +kernel
theorem dX5_weighFrom_55 : decode cX5_weighFrom 55 = .ok (.aload_n 0, 1) := by decide +kernel
theorem dX5_weighFrom_56 : decode cX5_weighFrom 56 = .ok (.getfield 11, 3) := by decide +kernel
theorem dX5_weighFrom_59 : decode cX5_weighFrom 59 = .ok (.iload_n 3, 1) := by decide +kernel
theorem dX5_weighFrom_60 : decode cX5_weighFrom 60 = .ok (.iaload, 1) := by decide +kernel
theorem dX5_weighFrom_61 : decode cX5_weighFrom 61 = .ok (.sipush 640, 3) := by decide +kernel
theorem dX5_weighFrom_64 : decode cX5_weighFrom 64 = .ok (.if_icmp .ge 11, 3) := by decide +kernel
theorem dX5_weighFrom_67 : decode cX5_weighFrom 67 = .ok (.aload_n 0, 1) := by decide +kernel
theorem dX5_weighFrom_68 : decode cX5_weighFrom 68 = .ok (.iload_n 3, 1) := by decide +kernel
theorem dX5_weighFrom_69 : decode cX5_weighFrom 69 = .ok (.invokevirtual 49, 3) := by decide +kernel
theorem dX5_weighFrom_72 : decode cX5_weighFrom 72 = .ok (.goto 8, 3) := by decide +kernel
theorem dX5_weighFrom_75 : decode cX5_weighFrom 75 = .ok (.aload_n 0, 1) := by decide +kernel
theorem dX5_weighFrom_76 : decode cX5_weighFrom 76 = .ok (.iload_n 3, 1) := by decide +kernel
theorem dX5_weighFrom_77 : decode cX5_weighFrom 77 = .ok (.invokevirtual 75, 3) := by decide +kernel
theorem dX5_weighFrom_80 : decode cX5_weighFrom 80 = .ok (.iastore, 1) := by decide +kernel
theorem dX5_weighFrom_81 : decode cX5_weighFrom 81 = .ok (.iinc 3 1, 3) := by decide +kernel
theorem dX5_weighFrom_84 : decode cX5_weighFrom 84 = .ok (.goto (-54), 3) := by decide +kernel
theorem dX5_weighFrom_87 : decode cX5_weighFrom 87 = .ok (.return_, 1) := by decide +kernel
theorem dX5_mostWithoutOne_0 : decode cX5_mostWithoutOne 0 = .ok (.iconst 0, 1) := by decide +kernel
theorem dX5_mostWithoutOne_1 : decode cX5_mostWithoutOne 1 = .ok (.istore_n 2, 1) := by decide +kernel
theorem dX5_mostWithoutOne_2 : decode cX5_mostWithoutOne 2 = .ok (.iconst 0, 1) := by decide +kernel
theorem dX5_mostWithoutOne_3 : decode cX5_mostWithoutOne 3 = .ok (.istore_n 3, 1) := by decide +kernel
theorem dX5_mostWithoutOne_4 : decode cX5_mostWithoutOne 4 = .ok (.iload_n 3, 1) := by decide +kernel
theorem dX5_mostWithoutOne_5 : decode cX5_mostWithoutOne 5 = .ok (.aload_n 0, 1) := by decide +kernel
theorem dX5_mostWithoutOne_6 : decode cX5_mostWithoutOne 6 = .ok (.getfield 21, 3) := by decide +kernel
theorem dX5_mostWithoutOne_9 : decode cX5_mostWithoutOne 9 = .ok (.getfield 35, 3) := by decide +kernel
theorem dX5_mostWithoutOne_12 : decode cX5_mostWithoutOne 12 = .ok (.getfield 78, 3) := by decide +kernel
theorem dX5_mostWithoutOne_15 : decode cX5_mostWithoutOne 15 = .ok (.if_icmp .ge 34, 3) := by decide +kernel
theorem dX5_mostWithoutOne_18 : decode cX5_mostWithoutOne 18 = .ok (.iload_n 1, 1) := by decide +kernel
theorem dX5_mostWithoutOne_19 : decode cX5_mostWithoutOne 19 = .ok (.iload_n 3, 1) := by decide +kernel
theorem dX5_mostWithoutOne_20 : decode cX5_mostWithoutOne 20 = .ok (.ishr, 1) := by decide +kernel
theorem dX5_mostWithoutOne_21 : decode cX5_mostWithoutOne 21 = .ok (.iconst 1, 1) := by decide +kernel
theorem dX5_mostWithoutOne_22 : decode cX5_mostWithoutOne 22 = .ok (.iand, 1) := by decide +kernel
theorem dX5_mostWithoutOne_23 : decode cX5_mostWithoutOne 23 = .ok (.ifCond .eq 20, 3) := by decide +kernel
theorem dX5_mostWithoutOne_26 : decode cX5_mostWithoutOne 26 = .ok (.iload_n 2, 1) := by decide +kernel
theorem dX5_mostWithoutOne_27 : decode cX5_mostWithoutOne 27 = .ok (.aload_n 0, 1) := by decide +kernel
theorem dX5_mostWithoutOne_28 : decode cX5_mostWithoutOne 28 = .ok (.getfield 15, 3) := by decide +kernel
theorem dX5_mostWithoutOne_31 : decode cX5_mostWithoutOne 31 = .ok (.iload_n 1, 1) := by decide +kernel
theorem dX5_mostWithoutOne_32 : decode cX5_mostWithoutOne 32 = .ok (.iconst 1, 1) := by decide +kernel
theorem dX5_mostWithoutOne_33 : decode cX5_mostWithoutOne 33 = .ok (.iload_n 3, 1) := by decide +kernel
theorem dX5_mostWithoutOne_34 : decode cX5_mostWithoutOne 34 = .ok (.ishl, 1) := by decide +kernel
theorem dX5_mostWithoutOne_35 : decode cX5_mostWithoutOne 35 = .ok (.iconst (-1), 1) := by decide +kernel
theorem dX5_mostWithoutOne_36 : decode cX5_mostWithoutOne 36 = .ok (.ixor, 1) := by decide +kernel
theorem dX5_mostWithoutOne_37 : decode cX5_mostWithoutOne 37 = .ok (.iand, 1) := by decide +kernel
theorem dX5_mostWithoutOne_38 : decode cX5_mostWithoutOne 38 = .ok (.iaload, 1) := by decide +kernel
theorem dX5_mostWithoutOne_39 : decode cX5_mostWithoutOne 39 = .ok (.invokestatic 81, 3) := by decide +kernel
theorem dX5_mostWithoutOne_42 : decode cX5_mostWithoutOne 42 = .ok (.istore_n 2, 1) := by decide +kernel
theorem dX5_mostWithoutOne_43 : decode cX5_mostWithoutOne 43 = .ok (.iinc 3 1, 3) := by decide +kernel
theorem dX5_mostWithoutOne_46 : decode cX5_mostWithoutOne 46 = .ok (.goto (-42), 3) := by decide +kernel
theorem dX5_mostWithoutOne_49 : decode cX5_mostWithoutOne 49 = .ok (.iload_n 2, 1) := by decide +kernel
theorem dX5_mostWithoutOne_50 : decode cX5_mostWithoutOne 50 = .ok (.ireturn, 1) := by decide +kernel
theorem dX5_roomIn_0 : decode cX5_roomIn 0 = .ok (.iconst 0, 1) := by decide +kernel
theorem dX5_roomIn_1 : decode cX5_roomIn 1 = .ok (.istore_n 2, 1) := by decide +kernel
theorem dX5_roomIn_2 : decode cX5_roomIn 2 = .ok (.aload_n 0, 1) := by decide +kernel
theorem dX5_roomIn_3 : decode cX5_roomIn 3 = .ok (.iconst 0, 1) := by decide +kernel
theorem dX5_roomIn_4 : decode cX5_roomIn 4 = .ok (.putfield 87, 3) := by decide +kernel
theorem dX5_roomIn_7 : decode cX5_roomIn 7 = .ok (.iconst 0, 1) := by decide +kernel
theorem dX5_roomIn_8 : decode cX5_roomIn 8 = .ok (.istore_n 3, 1) := by decide +kernel
theorem dX5_roomIn_9 : decode cX5_roomIn 9 = .ok (.iload_n 3, 1) := by decide +kernel
theorem dX5_roomIn_10 : decode cX5_roomIn 10 = .ok (.aload_n 0, 1) := by decide +kernel
theorem dX5_roomIn_11 : decode cX5_roomIn 11 = .ok (.getfield 21, 3) := by decide +kernel
theorem dX5_roomIn_14 : decode cX5_roomIn 14 = .ok (.getfield 35, 3) := by decide +kernel
theorem dX5_roomIn_17 : decode cX5_roomIn 17 = .ok (.getfield 39, 3) := by decide +kernel
theorem dX5_roomIn_20 : decode cX5_roomIn 20 = .ok (.if_icmp .ge 64, 3) := by decide +kernel
theorem dX5_roomIn_23 : decode cX5_roomIn 23 = .ok (.iload_n 1, 1) := by decide +kernel
theorem dX5_roomIn_24 : decode cX5_roomIn 24 = .ok (.iload_n 3, 1) := by decide +kernel
theorem dX5_roomIn_25 : decode cX5_roomIn 25 = .ok (.ishr, 1) := by decide +kernel
theorem dX5_roomIn_26 : decode cX5_roomIn 26 = .ok (.iconst 1, 1) := by decide +kernel
theorem dX5_roomIn_27 : decode cX5_roomIn 27 = .ok (.iand, 1) := by decide +kernel
theorem dX5_roomIn_28 : decode cX5_roomIn 28 = .ok (.ifCond .eq 50, 3) := by decide +kernel
theorem dX5_roomIn_31 : decode cX5_roomIn 31 = .ok (.aload_n 0, 1) := by decide +kernel
theorem dX5_roomIn_32 : decode cX5_roomIn 32 = .ok (.getfield 87, 3) := by decide +kernel
theorem dX5_roomIn_35 : decode cX5_roomIn 35 = .ok (.iconst 5, 1) := by decide +kernel
theorem dX5_roomIn_36 : decode cX5_roomIn 36 = .ok (.if_icmp .ge 42, 3) := by decide +kernel
theorem dX5_roomIn_39 : decode cX5_roomIn 39 = .ok (.aload_n 0, 1) := by decide +kernel
theorem dX5_roomIn_40 : decode cX5_roomIn 40 = .ok (.getfield 18, 3) := by decide +kernel
theorem dX5_roomIn_43 : decode cX5_roomIn 43 = .ok (.aload_n 0, 1) := by decide +kernel
theorem dX5_roomIn_44 : decode cX5_roomIn 44 = .ok (.getfield 87, 3) := by decide +kernel
theorem dX5_roomIn_47 : decode cX5_roomIn 47 = .ok (.aload_n 0, 1) := by decide +kernel
theorem dX5_roomIn_48 : decode cX5_roomIn 48 = .ok (.getfield 21, 3) := by decide +kernel
theorem dX5_roomIn_51 : decode cX5_roomIn 51 = .ok (.iload_n 3, 1) := by decide +kernel
theorem dX5_roomIn_52 : decode cX5_roomIn 52 = .ok (.invokevirtual 72, 3) := by decide +kernel
theorem dX5_roomIn_55 : decode cX5_roomIn 55 = .ok (.iastore, 1) := by decide +kernel
theorem dX5_roomIn_56 : decode cX5_roomIn 56 = .ok (.iload_n 2, 1) := by decide +kernel
theorem dX5_roomIn_57 : decode cX5_roomIn 57 = .ok (.aload_n 0, 1) := by decide +kernel
theorem dX5_roomIn_58 : decode cX5_roomIn 58 = .ok (.getfield 18, 3) := by decide +kernel
theorem dX5_roomIn_61 : decode cX5_roomIn 61 = .ok (.aload_n 0, 1) := by decide +kernel
theorem dX5_roomIn_62 : decode cX5_roomIn 62 = .ok (.getfield 87, 3) := by decide +kernel
theorem dX5_roomIn_65 : decode cX5_roomIn 65 = .ok (.iaload, 1) := by decide +kernel
theorem dX5_roomIn_66 : decode cX5_roomIn 66 = .ok (.iadd, 1) := by decide +kernel
theorem dX5_roomIn_67 : decode cX5_roomIn 67 = .ok (.istore_n 2, 1) := by decide +kernel
theorem dX5_roomIn_68 : decode cX5_roomIn 68 = .ok (.aload_n 0, 1) := by decide +kernel
theorem dX5_roomIn_69 : decode cX5_roomIn 69 = .ok (.dup, 1) := by decide +kernel
theorem dX5_roomIn_70 : decode cX5_roomIn 70 = .ok (.getfield 87, 3) := by decide +kernel
theorem dX5_roomIn_73 : decode cX5_roomIn 73 = .ok (.iconst 1, 1) := by decide +kernel
theorem dX5_roomIn_74 : decode cX5_roomIn 74 = .ok (.iadd, 1) := by decide +kernel
theorem dX5_roomIn_75 : decode cX5_roomIn 75 = .ok (.putfield 87, 3) := by decide +kernel
theorem dX5_roomIn_78 : decode cX5_roomIn 78 = .ok (.iinc 3 1, 3) := by decide +kernel
theorem dX5_roomIn_81 : decode cX5_roomIn 81 = .ok (.goto (-72), 3) := by decide +kernel
theorem dX5_roomIn_84 : decode cX5_roomIn 84 = .ok (.iload_n 2, 1) := by decide +kernel
theorem dX5_roomIn_85 : decode cX5_roomIn 85 = .ok (.ireturn, 1) := by decide +kernel
theorem dX5_fill_0 : decode cX5_fill 0 = .ok (.aload_n 0, 1) := by decide +kernel
theorem dX5_fill_1 : decode cX5_fill 1 = .ok (.getfield 11, 3) := by decide +kernel
theorem dX5_fill_4 : decode cX5_fill 4 = .ok (.iconst 0, 1) := by decide +kernel
theorem dX5_fill_5 : decode cX5_fill 5 = .ok (.iconst 0, 1) := by decide +kernel
theorem dX5_fill_6 : decode cX5_fill 6 = .ok (.iastore, 1) := by decide +kernel
theorem dX5_fill_7 : decode cX5_fill 7 = .ok (.iconst 1, 1) := by decide +kernel
theorem dX5_fill_8 : decode cX5_fill 8 = .ok (.istore_n 2, 1) := by decide +kernel
theorem dX5_fill_9 : decode cX5_fill 9 = .ok (.iload_n 2, 1) := by decide +kernel
theorem dX5_fill_10 : decode cX5_fill 10 = .ok (.iload_n 1, 1) := by decide +kernel
theorem dX5_fill_11 : decode cX5_fill 11 = .ok (.if_icmp .gt 35, 3) := by decide +kernel
theorem dX5_fill_14 : decode cX5_fill 14 = .ok (.iload_n 2, 1) := by decide +kernel
theorem dX5_fill_15 : decode cX5_fill 15 = .ok (.sipush 1024, 3) := by decide +kernel
theorem dX5_fill_18 : decode cX5_fill 18 = .ok (.if_icmp .ge 28, 3) := by decide +kernel
theorem dX5_fill_21 : decode cX5_fill 21 = .ok (.iload_n 2, 1) := by decide +kernel
theorem dX5_fill_22 : decode cX5_fill 22 = .ok (.iload_n 1, 1) := by decide +kernel
theorem dX5_fill_23 : decode cX5_fill 23 = .ok (.iconst (-1), 1) := by decide +kernel
theorem dX5_fill_24 : decode cX5_fill 24 = .ok (.ixor, 1) := by decide +kernel
theorem dX5_fill_25 : decode cX5_fill 25 = .ok (.iand, 1) := by decide +kernel
theorem dX5_fill_26 : decode cX5_fill 26 = .ok (.ifCond .ne 14, 3) := by decide +kernel
theorem dX5_fill_29 : decode cX5_fill 29 = .ok (.aload_n 0, 1) := by decide +kernel
theorem dX5_fill_30 : decode cX5_fill 30 = .ok (.getfield 11, 3) := by decide +kernel
theorem dX5_fill_33 : decode cX5_fill 33 = .ok (.iload_n 2, 1) := by decide +kernel
theorem dX5_fill_34 : decode cX5_fill 34 = .ok (.aload_n 0, 1) := by decide +kernel
theorem dX5_fill_35 : decode cX5_fill 35 = .ok (.iload_n 2, 1) := by decide +kernel
theorem dX5_fill_36 : decode cX5_fill 36 = .ok (.invokevirtual 90, 3) := by decide +kernel
theorem dX5_fill_39 : decode cX5_fill 39 = .ok (.iastore, 1) := by decide +kernel
theorem dX5_fill_40 : decode cX5_fill 40 = .ok (.iinc 2 1, 3) := by decide +kernel
theorem dX5_fill_43 : decode cX5_fill 43 = .ok (.goto (-34), 3) := by decide +kernel
theorem dX5_fill_46 : decode cX5_fill 46 = .ok (.return_, 1) := by decide +kernel
theorem dX5_leastFilling_0 : decode cX5_leastFilling 0 = .ok (.sipush 640, 3) := by decide +kernel
theorem dX5_leastFilling_3 : decode cX5_leastFilling 3 = .ok (.istore_n 2, 1) := by decide +kernel
theorem dX5_leastFilling_4 : decode cX5_leastFilling 4 = .ok (.iconst 0, 1) := by decide +kernel
theorem dX5_leastFilling_5 : decode cX5_leastFilling 5 = .ok (.istore_n 3, 1) := by decide +kernel
theorem dX5_leastFilling_6 : decode cX5_leastFilling 6 = .ok (.iload_n 3, 1) := by decide +kernel
theorem dX5_leastFilling_7 : decode cX5_leastFilling 7 = .ok (.aload_n 0, 1) := by decide +kernel
theorem dX5_leastFilling_8 : decode cX5_leastFilling 8 = .ok (.getfield 21, 3) := by decide +kernel
theorem dX5_leastFilling_11 : decode cX5_leastFilling 11 = .ok (.getfield 35, 3) := by decide +kernel
theorem dX5_leastFilling_14 : decode cX5_leastFilling 14 = .ok (.getfield 78, 3) := by decide +kernel
theorem dX5_leastFilling_17 : decode cX5_leastFilling 17 = .ok (.if_icmp .ge 50, 3) := by decide +kernel
theorem dX5_leastFilling_20 : decode cX5_leastFilling 20 = .ok (.iload_n 1, 1) := by decide +kernel
theorem dX5_leastFilling_21 : decode cX5_leastFilling 21 = .ok (.iload_n 3, 1) := by decide +kernel
theorem dX5_leastFilling_22 : decode cX5_leastFilling 22 = .ok (.ishr, 1) := by decide +kernel
theorem dX5_leastFilling_23 : decode cX5_leastFilling 23 = .ok (.iconst 1, 1) := by decide +kernel
theorem dX5_leastFilling_24 : decode cX5_leastFilling 24 = .ok (.iand, 1) := by decide +kernel
theorem dX5_leastFilling_25 : decode cX5_leastFilling 25 = .ok (.ifCond .eq 36, 3) := by decide +kernel
theorem dX5_leastFilling_28 : decode cX5_leastFilling 28 = .ok (.iload_n 2, 1) := by decide +kernel
theorem dX5_leastFilling_29 : decode cX5_leastFilling 29 = .ok (.aload_n 0, 1) := by decide +kernel
theorem dX5_leastFilling_30 : decode cX5_leastFilling 30 = .ok (.aload_n 0, 1) := by decide +kernel
theorem dX5_leastFilling_31 : decode cX5_leastFilling 31 = .ok (.getfield 11, 3) := by decide +kernel
theorem dX5_leastFilling_34 : decode cX5_leastFilling 34 = .ok (.iload_n 1, 1) := by decide +kernel
theorem dX5_leastFilling_35 : decode cX5_leastFilling 35 = .ok (.iconst 1, 1) := by decide +kernel
theorem dX5_leastFilling_36 : decode cX5_leastFilling 36 = .ok (.iload_n 3, 1) := by decide +kernel
theorem dX5_leastFilling_37 : decode cX5_leastFilling 37 = .ok (.ishl, 1) := by decide +kernel
theorem dX5_leastFilling_38 : decode cX5_leastFilling 38 = .ok (.iconst (-1), 1) := by decide +kernel
theorem dX5_leastFilling_39 : decode cX5_leastFilling 39 = .ok (.ixor, 1) := by decide +kernel
theorem dX5_leastFilling_40 : decode cX5_leastFilling 40 = .ok (.iand, 1) := by decide +kernel
theorem dX5_leastFilling_41 : decode cX5_leastFilling 41 = .ok (.iaload, 1) := by decide +kernel
theorem dX5_leastFilling_42 : decode cX5_leastFilling 42 = .ok (.aload_n 0, 1) := by decide +kernel
theorem dX5_leastFilling_43 : decode cX5_leastFilling 43 = .ok (.getfield 21, 3) := by decide +kernel
theorem dX5_leastFilling_46 : decode cX5_leastFilling 46 = .ok (.getfield 35, 3) := by decide +kernel
theorem dX5_leastFilling_49 : decode cX5_leastFilling 49 = .ok (.getfield 93, 3) := by decide +kernel
theorem dX5_leastFilling_52 : decode cX5_leastFilling 52 = .ok (.iload_n 3, 1) := by decide +kernel
theorem dX5_leastFilling_53 : decode cX5_leastFilling 53 = .ok (.iaload, 1) := by decide +kernel
theorem dX5_leastFilling_54 : decode cX5_leastFilling 54 = .ok (.invokevirtual 96, 3) := by decide +kernel
theorem dX5_leastFilling_57 : decode cX5_leastFilling 57 = .ok (.invokestatic 99, 3) := by decide +kernel
theorem dX5_leastFilling_60 : decode cX5_leastFilling 60 = .ok (.istore_n 2, 1) := by decide +kernel
theorem dX5_leastFilling_61 : decode cX5_leastFilling 61 = .ok (.iinc 3 1, 3) := by decide +kernel
theorem dX5_leastFilling_64 : decode cX5_leastFilling 64 = .ok (.goto (-58), 3) := by decide +kernel
theorem dX5_leastFilling_67 : decode cX5_leastFilling 67 = .ok (.iload_n 2, 1) := by decide +kernel
theorem dX5_leastFilling_68 : decode cX5_leastFilling 68 = .ok (.ireturn, 1) := by decide +kernel
theorem dX5_fillingWith_0 : decode cX5_fillingWith 0 = .ok (.iload_n 1, 1) := by decide +kernel
theorem dX5_fillingWith_1 : decode cX5_fillingWith 1 = .ok (.sipush 128, 3) := by decide +kernel
theorem dX5_fillingWith_4 : decode cX5_fillingWith 4 = .ok (.irem, 1) := by decide +kernel
theorem dX5_fillingWith_5 : decode cX5_fillingWith 5 = .ok (.istore_n 3, 1) := by decide +kernel
theorem dX5_fillingWith_6 : decode cX5_fillingWith 6 = .ok (.iload_n 1, 1) := by decide +kernel
theorem dX5_fillingWith_7 : decode cX5_fillingWith 7 = .ok (.sipush 128, 3) := by decide +kernel
theorem dX5_fillingWith_10 : decode cX5_fillingWith 10 = .ok (.idiv, 1) := by decide +kernel
theorem dX5_fillingWith_11 : decode cX5_fillingWith 11 = .ok (.istore 4, 2) := by decide +kernel
theorem dX5_fillingWith_13 : decode cX5_fillingWith 13 = .ok (.iload 4, 2) := by decide +kernel
theorem dX5_fillingWith_15 : decode cX5_fillingWith 15 = .ok (.aload_n 0, 1) := by decide +kernel
theorem dX5_fillingWith_16 : decode cX5_fillingWith 16 = .ok (.getfield 87, 3) := by decide +kernel
theorem dX5_fillingWith_19 : decode cX5_fillingWith 19 = .ok (.if_icmp .ge 35, 3) := by decide +kernel
theorem dX5_fillingWith_22 : decode cX5_fillingWith 22 = .ok (.iload_n 3, 1) := by decide +kernel
theorem dX5_fillingWith_23 : decode cX5_fillingWith 23 = .ok (.iload_n 2, 1) := by decide +kernel
theorem dX5_fillingWith_24 : decode cX5_fillingWith 24 = .ok (.iadd, 1) := by decide +kernel
theorem dX5_fillingWith_25 : decode cX5_fillingWith 25 = .ok (.aload_n 0, 1) := by decide +kernel
theorem dX5_fillingWith_26 : decode cX5_fillingWith 26 = .ok (.getfield 18, 3) := by decide +kernel
theorem dX5_fillingWith_29 : decode cX5_fillingWith 29 = .ok (.iload 4, 2) := by decide +kernel
theorem dX5_fillingWith_31 : decode cX5_fillingWith 31 = .ok (.iaload, 1) := by decide +kernel
theorem dX5_fillingWith_32 : decode cX5_fillingWith 32 = .ok (.if_icmp .gt 14, 3) := by decide +kernel
theorem dX5_fillingWith_35 : decode cX5_fillingWith 35 = .ok (.iload 4, 2) := by decide +kernel
theorem dX5_fillingWith_37 : decode cX5_fillingWith 37 = .ok (.sipush 128, 3) := by decide +kernel
theorem dX5_fillingWith_40 : decode cX5_fillingWith 40 = .ok (.imul, 1) := by decide +kernel
theorem dX5_fillingWith_41 : decode cX5_fillingWith 41 = .ok (.iload_n 3, 1) := by decide +kernel
theorem dX5_fillingWith_42 : decode cX5_fillingWith 42 = .ok (.iadd, 1) := by decide +kernel
theorem dX5_fillingWith_43 : decode cX5_fillingWith 43 = .ok (.iload_n 2, 1) := by decide +kernel
theorem dX5_fillingWith_44 : decode cX5_fillingWith 44 = .ok (.iadd, 1) := by decide +kernel
theorem dX5_fillingWith_45 : decode cX5_fillingWith 45 = .ok (.ireturn, 1) := by decide +kernel
theorem dX5_fillingWith_46 : decode cX5_fillingWith 46 = .ok (.iconst 0, 1) := by decide +kernel
theorem dX5_fillingWith_47 : decode cX5_fillingWith 47 = .ok (.istore_n 3, 1) := by decide +kernel
theorem dX5_fillingWith_48 : decode cX5_fillingWith 48 = .ok (.iinc 4 1, 3) := by decide +kernel
theorem dX5_fillingWith_51 : decode cX5_fillingWith 51 = .ok (.goto (-38), 3) := by decide +kernel
theorem dX5_fillingWith_54 : decode cX5_fillingWith 54 = .ok (.sipush 640, 3) := by decide +kernel
theorem dX5_fillingWith_57 : decode cX5_fillingWith 57 = .ok (.ireturn, 1) := by decide +kernel
theorem dX5_angerOf_0 : decode cX5_angerOf 0 = .ok (.iconst 0, 1) := by decide +kernel
theorem dX5_angerOf_1 : decode cX5_angerOf 1 = .ok (.istore_n 2, 1) := by decide +kernel
theorem dX5_angerOf_2 : decode cX5_angerOf 2 = .ok (.iconst 0, 1) := by decide +kernel
theorem dX5_angerOf_3 : decode cX5_angerOf 3 = .ok (.istore_n 3, 1) := by decide +kernel
theorem dX5_angerOf_4 : decode cX5_angerOf 4 = .ok (.iload_n 3, 1) := by decide +kernel
theorem dX5_angerOf_5 : decode cX5_angerOf 5 = .ok (.aload_n 0, 1) := by decide +kernel
theorem dX5_angerOf_6 : decode cX5_angerOf 6 = .ok (.getfield 21, 3) := by decide +kernel
theorem dX5_angerOf_9 : decode cX5_angerOf 9 = .ok (.getfield 35, 3) := by decide +kernel
theorem dX5_angerOf_12 : decode cX5_angerOf 12 = .ok (.getfield 78, 3) := by decide +kernel
theorem dX5_angerOf_15 : decode cX5_angerOf 15 = .ok (.if_icmp .ge 29, 3) := by decide +kernel
theorem dX5_angerOf_18 : decode cX5_angerOf 18 = .ok (.iload_n 1, 1) := by decide +kernel
theorem dX5_angerOf_19 : decode cX5_angerOf 19 = .ok (.iload_n 3, 1) := by decide +kernel
theorem dX5_angerOf_20 : decode cX5_angerOf 20 = .ok (.ishr, 1) := by decide +kernel
theorem dX5_angerOf_21 : decode cX5_angerOf 21 = .ok (.iconst 1, 1) := by decide +kernel
theorem dX5_angerOf_22 : decode cX5_angerOf 22 = .ok (.iand, 1) := by decide +kernel
theorem dX5_angerOf_23 : decode cX5_angerOf 23 = .ok (.ifCond .eq 15, 3) := by decide +kernel
theorem dX5_angerOf_26 : decode cX5_angerOf 26 = .ok (.iload_n 2, 1) := by decide +kernel
theorem dX5_angerOf_27 : decode cX5_angerOf 27 = .ok (.aload_n 0, 1) := by decide +kernel
theorem dX5_angerOf_28 : decode cX5_angerOf 28 = .ok (.getfield 21, 3) := by decide +kernel
theorem dX5_angerOf_31 : decode cX5_angerOf 31 = .ok (.getfield 102, 3) := by decide +kernel
theorem dX5_angerOf_34 : decode cX5_angerOf 34 = .ok (.iload_n 3, 1) := by decide +kernel
theorem dX5_angerOf_35 : decode cX5_angerOf 35 = .ok (.iaload, 1) := by decide +kernel
theorem dX5_angerOf_36 : decode cX5_angerOf 36 = .ok (.iadd, 1) := by decide +kernel
theorem dX5_angerOf_37 : decode cX5_angerOf 37 = .ok (.istore_n 2, 1) := by decide +kernel
theorem dX5_angerOf_38 : decode cX5_angerOf 38 = .ok (.iinc 3 1, 3) := by decide +kernel
theorem dX5_angerOf_41 : decode cX5_angerOf 41 = .ok (.goto (-37), 3) := by decide +kernel
theorem dX5_angerOf_44 : decode cX5_angerOf 44 = .ok (.iload_n 2, 1) := by decide +kernel
theorem dX5_angerOf_45 : decode cX5_angerOf 45 = .ok (.ireturn, 1) := by decide +kernel
theorem dX5_lengthOf_0 : decode cX5_lengthOf 0 = .ok (.iconst 0, 1) := by decide +kernel
theorem dX5_lengthOf_1 : decode cX5_lengthOf 1 = .ok (.istore_n 2, 1) := by decide +kernel
theorem dX5_lengthOf_2 : decode cX5_lengthOf 2 = .ok (.iconst 0, 1) := by decide +kernel
theorem dX5_lengthOf_3 : decode cX5_lengthOf 3 = .ok (.istore_n 3, 1) := by decide +kernel
theorem dX5_lengthOf_4 : decode cX5_lengthOf 4 = .ok (.iload_n 3, 1) := by decide +kernel
theorem dX5_lengthOf_5 : decode cX5_lengthOf 5 = .ok (.aload_n 0, 1) := by decide +kernel
theorem dX5_lengthOf_6 : decode cX5_lengthOf 6 = .ok (.getfield 21, 3) := by decide +kernel
theorem dX5_lengthOf_9 : decode cX5_lengthOf 9 = .ok (.getfield 35, 3) := by decide +kernel
theorem dX5_lengthOf_12 : decode cX5_lengthOf 12 = .ok (.getfield 78, 3) := by decide +kernel
theorem dX5_lengthOf_15 : decode cX5_lengthOf 15 = .ok (.if_icmp .ge 32, 3) := by decide +kernel
theorem dX5_lengthOf_18 : decode cX5_lengthOf 18 = .ok (.iload_n 1, 1) := by decide +kernel
theorem dX5_lengthOf_19 : decode cX5_lengthOf 19 = .ok (.iload_n 3, 1) := by decide +kernel
theorem dX5_lengthOf_20 : decode cX5_lengthOf 20 = .ok (.ishr, 1) := by decide +kernel
theorem dX5_lengthOf_21 : decode cX5_lengthOf 21 = .ok (.iconst 1, 1) := by decide +kernel
theorem dX5_lengthOf_22 : decode cX5_lengthOf 22 = .ok (.iand, 1) := by decide +kernel
theorem dX5_lengthOf_23 : decode cX5_lengthOf 23 = .ok (.ifCond .eq 18, 3) := by decide +kernel
theorem dX5_lengthOf_26 : decode cX5_lengthOf 26 = .ok (.iload_n 2, 1) := by decide +kernel
theorem dX5_lengthOf_27 : decode cX5_lengthOf 27 = .ok (.aload_n 0, 1) := by decide +kernel
theorem dX5_lengthOf_28 : decode cX5_lengthOf 28 = .ok (.getfield 21, 3) := by decide +kernel
theorem dX5_lengthOf_31 : decode cX5_lengthOf 31 = .ok (.getfield 35, 3) := by decide +kernel
theorem dX5_lengthOf_34 : decode cX5_lengthOf 34 = .ok (.getfield 93, 3) := by decide +kernel
theorem dX5_lengthOf_37 : decode cX5_lengthOf 37 = .ok (.iload_n 3, 1) := by decide +kernel
theorem dX5_lengthOf_38 : decode cX5_lengthOf 38 = .ok (.iaload, 1) := by decide +kernel
theorem dX5_lengthOf_39 : decode cX5_lengthOf 39 = .ok (.iadd, 1) := by decide +kernel
theorem dX5_lengthOf_40 : decode cX5_lengthOf 40 = .ok (.istore_n 2, 1) := by decide +kernel
theorem dX5_lengthOf_41 : decode cX5_lengthOf 41 = .ok (.iinc 3 1, 3) := by decide +kernel
theorem dX5_lengthOf_44 : decode cX5_lengthOf 44 = .ok (.goto (-40), 3) := by decide +kernel
theorem dX5_lengthOf_47 : decode cX5_lengthOf 47 = .ok (.iload_n 2, 1) := by decide +kernel
theorem dX5_lengthOf_48 : decode cX5_lengthOf 48 = .ok (.ireturn, 1) := by decide +kernel
theorem dX6_init_0 : decode cX6_init 0 = .ok (.aload_n 0, 1) := by decide +kernel
theorem dX6_init_1 : decode cX6_init 1 = .ok (.invokespecial 3, 3) := by decide +kernel
theorem dX6_init_4 : decode cX6_init 4 = .ok (.aload_n 0, 1) := by decide +kernel
theorem dX6_init_5 : decode cX6_init 5 = .ok (.bipush 64, 2) := by decide +kernel
theorem dX6_init_7 : decode cX6_init 7 = .ok (.newarray .int, 2) := by decide +kernel
theorem dX6_init_9 : decode cX6_init 9 = .ok (.putfield 11, 3) := by decide +kernel
theorem dX6_init_12 : decode cX6_init 12 = .ok (.aload_n 0, 1) := by decide +kernel
theorem dX6_init_13 : decode cX6_init 13 = .ok (.aload_n 1, 1) := by decide +kernel
theorem dX6_init_14 : decode cX6_init 14 = .ok (.putfield 15, 3) := by decide +kernel
theorem dX6_init_17 : decode cX6_init 17 = .ok (.return_, 1) := by decide +kernel
theorem dX6_between_0 : decode cX6_between 0 = .ok (.aload_n 0, 1) := by decide +kernel
theorem dX6_between_1 : decode cX6_between 1 = .ok (.getfield 15, 3) := by decide +kernel
theorem dX6_between_4 : decode cX6_between 4 = .ok (.bipush 35, 2) := by decide +kernel
theorem dX6_between_6 : decode cX6_between 6 = .ok (.iload_n 1, 1) := by decide +kernel
theorem dX6_between_7 : decode cX6_between 7 = .ok (.iadd, 1) := by decide +kernel
theorem dX6_between_8 : decode cX6_between 8 = .ok (.iaload, 1) := by decide +kernel
theorem dX6_between_9 : decode cX6_between 9 = .ok (.iload_n 2, 1) := by decide +kernel
theorem dX6_between_10 : decode cX6_between 10 = .ok (.ishr, 1) := by decide +kernel
theorem dX6_between_11 : decode cX6_between 11 = .ok (.iconst 1, 1) := by decide +kernel
theorem dX6_between_12 : decode cX6_between 12 = .ok (.iand, 1) := by decide +kernel
theorem dX6_between_13 : decode cX6_between 13 = .ok (.ifCond .eq 7, 3) := by decide +kernel
theorem dX6_between_16 : decode cX6_between 16 = .ok (.iconst 1, 1) := by decide +kernel
theorem dX6_between_17 : decode cX6_between 17 = .ok (.goto 4, 3) := by decide +kernel
theorem dX6_between_20 : decode cX6_between 20 = .ok (.iconst 0, 1) := by decide +kernel
theorem dX6_between_21 : decode cX6_between 21 = .ok (.ireturn, 1) := by decide +kernel
theorem dX6_howMany_0 : decode cX6_howMany 0 = .ok (.iconst 0, 1) := by decide +kernel
theorem dX6_howMany_1 : decode cX6_howMany 1 = .ok (.istore_n 1, 1) := by decide +kernel
theorem dX6_howMany_2 : decode cX6_howMany 2 = .ok (.iconst 0, 1) := by decide +kernel
theorem dX6_howMany_3 : decode cX6_howMany 3 = .ok (.istore_n 2, 1) := by decide +kernel
theorem dX6_howMany_4 : decode cX6_howMany 4 = .ok (.iload_n 2, 1) := by decide +kernel
theorem dX6_howMany_5 : decode cX6_howMany 5 = .ok (.bipush 6, 2) := by decide +kernel
theorem dX6_howMany_7 : decode cX6_howMany 7 = .ok (.if_icmp .ge 24, 3) := by decide +kernel
theorem dX6_howMany_10 : decode cX6_howMany 10 = .ok (.iload_n 1, 1) := by decide +kernel
theorem dX6_howMany_11 : decode cX6_howMany 11 = .ok (.aload_n 0, 1) := by decide +kernel
theorem dX6_howMany_12 : decode cX6_howMany 12 = .ok (.getfield 15, 3) := by decide +kernel
theorem dX6_howMany_15 : decode cX6_howMany 15 = .ok (.bipush 35, 2) := by decide +kernel
theorem dX6_howMany_17 : decode cX6_howMany 17 = .ok (.iload_n 2, 1) := by decide +kernel
theorem dX6_howMany_18 : decode cX6_howMany 18 = .ok (.iadd, 1) := by decide +kernel
theorem dX6_howMany_19 : decode cX6_howMany 19 = .ok (.iaload, 1) := by decide +kernel
theorem dX6_howMany_20 : decode cX6_howMany 20 = .ok (.invokestatic 20, 3) := by decide +kernel
theorem dX6_howMany_23 : decode cX6_howMany 23 = .ok (.iadd, 1) := by decide +kernel
theorem dX6_howMany_24 : decode cX6_howMany 24 = .ok (.istore_n 1, 1) := by decide +kernel
theorem dX6_howMany_25 : decode cX6_howMany 25 = .ok (.iinc 2 1, 3) := by decide +kernel
theorem dX6_howMany_28 : decode cX6_howMany 28 = .ok (.goto (-24), 3) := by decide +kernel
theorem dX6_howMany_31 : decode cX6_howMany 31 = .ok (.iload_n 1, 1) := by decide +kernel
theorem dX6_howMany_32 : decode cX6_howMany 32 = .ok (.iconst 2, 1) := by decide +kernel
theorem dX6_howMany_33 : decode cX6_howMany 33 = .ok (.idiv, 1) := by decide +kernel
theorem dX6_howMany_34 : decode cX6_howMany 34 = .ok (.ireturn, 1) := by decide +kernel
theorem dX6_foesOfSet_0 : decode cX6_foesOfSet 0 = .ok (.iconst 0, 1) := by decide +kernel
theorem dX6_foesOfSet_1 : decode cX6_foesOfSet 1 = .ok (.istore_n 2, 1) := by decide +kernel
theorem dX6_foesOfSet_2 : decode cX6_foesOfSet 2 = .ok (.iconst 0, 1) := by decide +kernel
theorem dX6_foesOfSet_3 : decode cX6_foesOfSet 3 = .ok (.istore_n 3, 1) := by decide +kernel
theorem dX6_foesOfSet_4 : decode cX6_foesOfSet 4 = .ok (.iload_n 3, 1) := by decide +kernel
theorem dX6_foesOfSet_5 : decode cX6_foesOfSet 5 = .ok (.bipush 6, 2) := by decide +kernel
theorem dX6_foesOfSet_7 : decode cX6_foesOfSet 7 = .ok (.if_icmp .ge 29, 3) := by decide +kernel
theorem dX6_foesOfSet_10 : decode cX6_foesOfSet 10 = .ok (.iload_n 1, 1) := by decide +kernel
theorem dX6_foesOfSet_11 : decode cX6_foesOfSet 11 = .ok (.iload_n 3, 1) := by decide +kernel
theorem dX6_foesOfSet_12 : decode cX6_foesOfSet 12 = .ok (.ishr, 1) := by decide +kernel
theorem dX6_foesOfSet_13 : decode cX6_foesOfSet 13 = .ok (.iconst 1, 1) := by decide +kernel
theorem dX6_foesOfSet_14 : decode cX6_foesOfSet 14 = .ok (.iand, 1) := by decide +kernel
theorem dX6_foesOfSet_15 : decode cX6_foesOfSet 15 = .ok (.ifCond .eq 15, 3) := by decide +kernel
theorem dX6_foesOfSet_18 : decode cX6_foesOfSet 18 = .ok (.iload_n 2, 1) := by decide +kernel
theorem dX6_foesOfSet_19 : decode cX6_foesOfSet 19 = .ok (.aload_n 0, 1) := by decide +kernel
theorem dX6_foesOfSet_20 : decode cX6_foesOfSet 20 = .ok (.getfield 15, 3) := by decide +kernel
theorem dX6_foesOfSet_23 : decode cX6_foesOfSet 23 = .ok (.bipush 35, 2) := by decide +kernel
theorem dX6_foesOfSet_25 : decode cX6_foesOfSet 25 = .ok (.iload_n 3, 1) := by decide +kernel
theorem dX6_foesOfSet_26 : decode cX6_foesOfSet 26 = .ok (.iadd, 1) := by decide +kernel
theorem dX6_foesOfSet_27 : decode cX6_foesOfSet 27 = .ok (.iaload, 1) := by decide +kernel
theorem dX6_foesOfSet_28 : decode cX6_foesOfSet 28 = .ok (.ior, 1) := by decide +kernel
theorem dX6_foesOfSet_29 : decode cX6_foesOfSet 29 = .ok (.istore_n 2, 1) := by decide +kernel
theorem dX6_foesOfSet_30 : decode cX6_foesOfSet 30 = .ok (.iinc 3 1, 3) := by decide +kernel
theorem dX6_foesOfSet_33 : decode cX6_foesOfSet 33 = .ok (.goto (-29), 3) := by decide +kernel
theorem dX6_foesOfSet_36 : decode cX6_foesOfSet 36 = .ok (.iload_n 2, 1) := by decide +kernel
theorem dX6_foesOfSet_37 : decode cX6_foesOfSet 37 = .ok (.ireturn, 1) := by decide +kernel
theorem dX6_campOf_0 : decode cX6_campOf 0 = .ok (.iconst 1, 1) := by decide +kernel
theorem dX6_campOf_1 : decode cX6_campOf 1 = .ok (.iload_n 1, 1) := by decide +kernel
theorem dX6_campOf_2 : decode cX6_campOf 2 = .ok (.ishl, 1) := by decide +kernel
theorem dX6_campOf_3 : decode cX6_campOf 3 = .ok (.istore_n 2, 1) := by decide +kernel
theorem dX6_campOf_4 : decode cX6_campOf 4 = .ok (.iconst 0, 1) := by decide +kernel
theorem dX6_campOf_5 : decode cX6_campOf 5 = .ok (.istore_n 3, 1) := by decide +kernel
theorem dX6_campOf_6 : decode cX6_campOf 6 = .ok (.iload_n 3, 1) := by decide +kernel
theorem dX6_campOf_7 : decode cX6_campOf 7 = .ok (.bipush 6, 2) := by decide +kernel
theorem dX6_campOf_9 : decode cX6_campOf 9 = .ok (.if_icmp .ge 21, 3) := by decide +kernel
theorem dX6_campOf_12 : decode cX6_campOf 12 = .ok (.iload_n 2, 1) := by decide +kernel
theorem dX6_campOf_13 : decode cX6_campOf 13 = .ok (.aload_n 0, 1) := by decide +kernel
theorem dX6_campOf_14 : decode cX6_campOf 14 = .ok (.aload_n 0, 1) := by decide +kernel
theorem dX6_campOf_15 : decode cX6_campOf 15 = .ok (.iload_n 2, 1) := by decide +kernel
theorem dX6_campOf_16 : decode cX6_campOf 16 = .ok (.invokevirtual 26, 3) := by decide +kernel
theorem dX6_campOf_19 : decode cX6_campOf 19 = .ok (.invokevirtual 26, 3) := by decide +kernel
theorem dX6_campOf_22 : decode cX6_campOf 22 = .ok (.ior, 1) := by decide +kernel
theorem dX6_campOf_23 : decode cX6_campOf 23 = .ok (.istore_n 2, 1) := by decide +kernel
theorem dX6_campOf_24 : decode cX6_campOf 24 = .ok (.iinc 3 1, 3) := by decide +kernel
theorem dX6_campOf_27 : decode cX6_campOf 27 = .ok (.goto (-21), 3) := by decide +kernel
theorem dX6_campOf_30 : decode cX6_campOf 30 = .ok (.iload_n 2, 1) := by decide +kernel
theorem dX6_campOf_31 : decode cX6_campOf 31 = .ok (.ireturn, 1) := by decide +kernel
theorem dX6_firstCamp_0 : decode cX6_firstCamp 0 = .ok (.iconst 0, 1) := by decide +kernel
theorem dX6_firstCamp_1 : decode cX6_firstCamp 1 = .ok (.istore_n 1, 1) := by decide +kernel
theorem dX6_firstCamp_2 : decode cX6_firstCamp 2 = .ok (.iconst 0, 1) := by decide +kernel
theorem dX6_firstCamp_3 : decode cX6_firstCamp 3 = .ok (.istore_n 2, 1) := by decide +kernel
theorem dX6_firstCamp_4 : decode cX6_firstCamp 4 = .ok (.iconst 0, 1) := by decide +kernel
theorem dX6_firstCamp_5 : decode cX6_firstCamp 5 = .ok (.istore_n 3, 1) := by decide +kernel
theorem dX6_firstCamp_6 : decode cX6_firstCamp 6 = .ok (.iload_n 3, 1) := by decide +kernel
theorem dX6_firstCamp_7 : decode cX6_firstCamp 7 = .ok (.bipush 6, 2) := by decide +kernel
theorem dX6_firstCamp_9 : decode cX6_firstCamp 9 = .ok (.if_icmp .ge 67, 3) := by decide +kernel
theorem dX6_firstCamp_12 : decode cX6_firstCamp 12 = .ok (.aload_n 0, 1) := by decide +kernel
theorem dX6_firstCamp_13 : decode cX6_firstCamp 13 = .ok (.getfield 15, 3) := by decide +kernel
theorem dX6_firstCamp_16 : decode cX6_firstCamp 16 = .ok (.bipush 35, 2) := by decide +kernel
theorem dX6_firstCamp_18 : decode cX6_firstCamp 18 = .ok (.iload_n 3, 1) := by decide +kernel
theorem dX6_firstCamp_19 : decode cX6_firstCamp 19 = .ok (.iadd, 1) := by decide +kernel
theorem dX6_firstCamp_20 : decode cX6_firstCamp 20 = .ok (.iaload, 1) := by decide +kernel
theorem dX6_firstCamp_21 : decode cX6_firstCamp 21 = .ok (.ifCond .eq 49, 3) := by decide +kernel
theorem dX6_firstCamp_24 : decode cX6_firstCamp 24 = .ok (.iload_n 2, 1) := by decide +kernel
theorem dX6_firstCamp_25 : decode cX6_firstCamp 25 = .ok (.iload_n 3, 1) := by decide +kernel
theorem dX6_firstCamp_26 : decode cX6_firstCamp 26 = .ok (.ishr, 1) := by decide +kernel
theorem dX6_firstCamp_27 : decode cX6_firstCamp 27 = .ok (.iconst 1, 1) := by decide +kernel
theorem dX6_firstCamp_28 : decode cX6_firstCamp 28 = .ok (.iand, 1) := by decide +kernel
theorem dX6_firstCamp_29 : decode cX6_firstCamp 29 = .ok (.ifCond .ne 41, 3) := by decide +kernel
theorem dX6_firstCamp_32 : decode cX6_firstCamp 32 = .ok (.aload_n 0, 1) := by decide +kernel
theorem dX6_firstCamp_33 : decode cX6_firstCamp 33 = .ok (.iload_n 3, 1) := by decide +kernel
theorem dX6_firstCamp_34 : decode cX6_firstCamp 34 = .ok (.invokevirtual 29, 3) := by decide +kernel
theorem dX6_firstCamp_37 : decode cX6_firstCamp 37 = .ok (.istore 4, 2) := by decide +kernel
theorem dX6_firstCamp_39 : decode cX6_firstCamp 39 = .ok (.aload_n 0, 1) := by decide +kernel
theorem dX6_firstCamp_40 : decode cX6_firstCamp 40 = .ok (.iload 4, 2) := by decide +kernel
theorem dX6_firstCamp_42 : decode cX6_firstCamp 42 = .ok (.invokevirtual 26, 3) := by decide +kernel
theorem dX6_firstCamp_45 : decode cX6_firstCamp 45 = .ok (.istore 5, 2) := by decide +kernel
theorem dX6_firstCamp_47 : decode cX6_firstCamp 47 = .ok (.iload 4, 2) := by decide +kernel
theorem dX6_firstCamp_49 : decode cX6_firstCamp 49 = .ok (.iload 5, 2) := by decide +kernel
theorem dX6_firstCamp_51 : decode cX6_firstCamp 51 = .ok (.iand, 1) := by decide +kernel
theorem dX6_firstCamp_52 : decode cX6_firstCamp 52 = .ok (.ifCond .eq 5, 3) := by decide +kernel
theorem dX6_firstCamp_55 : decode cX6_firstCamp 55 = .ok (.iconst (-1), 1) := by decide +kernel
theorem dX6_firstCamp_56 : decode cX6_firstCamp 56 = .ok (.ireturn, 1) := by decide +kernel
theorem dX6_firstCamp_57 : decode cX6_firstCamp 57 = .ok (.iload_n 1, 1) := by decide +kernel
theorem dX6_firstCamp_58 : decode cX6_firstCamp 58 = .ok (.iload 4, 2) := by decide +kernel
theorem dX6_firstCamp_60 : decode cX6_firstCamp 60 = .ok (.ior, 1) := by decide +kernel
theorem dX6_firstCamp_61 : decode cX6_firstCamp 61 = .ok (.istore_n 1, 1) := by decide +kernel
theorem dX6_firstCamp_62 : decode cX6_firstCamp 62 = .ok (.iload_n 2, 1) := by decide +kernel
theorem dX6_firstCamp_63 : decode cX6_firstCamp 63 = .ok (.iload 4, 2) := by decide +kernel
theorem dX6_firstCamp_65 : decode cX6_firstCamp 65 = .ok (.iload 5, 2) := by decide +kernel
theorem dX6_firstCamp_67 : decode cX6_firstCamp 67 = .ok (.ior, 1) := by decide +kernel
theorem dX6_firstCamp_68 : decode cX6_firstCamp 68 = .ok (.ior, 1) := by decide +kernel
theorem dX6_firstCamp_69 : decode cX6_firstCamp 69 = .ok (.istore_n 2, 1) := by decide +kernel
theorem dX6_firstCamp_70 : decode cX6_firstCamp 70 = .ok (.iinc 3 1, 3) := by decide +kernel
theorem dX6_firstCamp_73 : decode cX6_firstCamp 73 = .ok (.goto (-67), 3) := by decide +kernel
theorem dX6_firstCamp_76 : decode cX6_firstCamp 76 = .ok (.iload_n 1, 1) := by decide +kernel
theorem dX6_firstCamp_77 : decode cX6_firstCamp 77 = .ok (.ireturn, 1) := by decide +kernel
theorem dX6_parties_0 : decode cX6_parties 0 = .ok (.iconst 0, 1) := by decide +kernel
theorem dX6_parties_1 : decode cX6_parties 1 = .ok (.istore_n 1, 1) := by decide +kernel
theorem dX6_parties_2 : decode cX6_parties 2 = .ok (.iconst 0, 1) := by decide +kernel
theorem dX6_parties_3 : decode cX6_parties 3 = .ok (.istore_n 2, 1) := by decide +kernel
theorem dX6_parties_4 : decode cX6_parties 4 = .ok (.iconst 0, 1) := by decide +kernel
theorem dX6_parties_5 : decode cX6_parties 5 = .ok (.istore_n 3, 1) := by decide +kernel
theorem dX6_parties_6 : decode cX6_parties 6 = .ok (.iload_n 3, 1) := by decide +kernel
theorem dX6_parties_7 : decode cX6_parties 7 = .ok (.bipush 6, 2) := by decide +kernel
theorem dX6_parties_9 : decode cX6_parties 9 = .ok (.if_icmp .ge 51, 3) := by decide +kernel
theorem dX6_parties_12 : decode cX6_parties 12 = .ok (.aload_n 0, 1) := by decide +kernel
theorem dX6_parties_13 : decode cX6_parties 13 = .ok (.getfield 15, 3) := by decide +kernel
theorem dX6_parties_16 : decode cX6_parties 16 = .ok (.bipush 35, 2) := by decide +kernel
theorem dX6_parties_18 : decode cX6_parties 18 = .ok (.iload_n 3, 1) := by decide +kernel
theorem dX6_parties_19 : decode cX6_parties 19 = .ok (.iadd, 1) := by decide +kernel
theorem dX6_parties_20 : decode cX6_parties 20 = .ok (.iaload, 1) := by decide +kernel
theorem dX6_parties_21 : decode cX6_parties 21 = .ok (.ifCond .eq 33, 3) := by decide +kernel
theorem dX6_parties_24 : decode cX6_parties 24 = .ok (.iload_n 2, 1) := by decide +kernel
theorem dX6_parties_25 : decode cX6_parties 25 = .ok (.iload_n 3, 1) := by decide +kernel
theorem dX6_parties_26 : decode cX6_parties 26 = .ok (.ishr, 1) := by decide +kernel
theorem dX6_parties_27 : decode cX6_parties 27 = .ok (.iconst 1, 1) := by decide +kernel
theorem dX6_parties_28 : decode cX6_parties 28 = .ok (.iand, 1) := by decide +kernel
theorem dX6_parties_29 : decode cX6_parties 29 = .ok (.ifCond .ne 25, 3) := by decide +kernel
theorem dX6_parties_32 : decode cX6_parties 32 = .ok (.aload_n 0, 1) := by decide +kernel
theorem dX6_parties_33 : decode cX6_parties 33 = .ok (.iload_n 3, 1) := by decide +kernel
theorem dX6_parties_34 : decode cX6_parties 34 = .ok (.invokevirtual 29, 3) := by decide +kernel
theorem dX6_parties_37 : decode cX6_parties 37 = .ok (.istore 4, 2) := by decide +kernel
theorem dX6_parties_39 : decode cX6_parties 39 = .ok (.iload_n 2, 1) := by decide +kernel
theorem dX6_parties_40 : decode cX6_parties 40 = .ok (.iload 4, 2) := by decide +kernel
theorem dX6_parties_42 : decode cX6_parties 42 = .ok (.aload_n 0, 1) := by decide +kernel
theorem dX6_parties_43 : decode cX6_parties 43 = .ok (.iload 4, 2) := by decide +kernel
theorem dX6_parties_45 : decode cX6_parties 45 = .ok (.invokevirtual 26, 3) := by decide +kernel
theorem dX6_parties_48 : decode cX6_parties 48 = .ok (.ior, 1) := by decide +kernel
theorem dX6_parties_49 : decode cX6_parties 49 = .ok (.ior, 1) := by decide +kernel
theorem dX6_parties_50 : decode cX6_parties 50 = .ok (.istore_n 2, 1) := by decide +kernel
theorem dX6_parties_51 : decode cX6_parties 51 = .ok (.iinc 1 1, 3) := by decide +kernel
theorem dX6_parties_54 : decode cX6_parties 54 = .ok (.iinc 3 1, 3) := by decide +kernel
theorem dX6_parties_57 : decode cX6_parties 57 = .ok (.goto (-51), 3) := by decide +kernel
theorem dX6_parties_60 : decode cX6_parties 60 = .ok (.iload_n 1, 1) := by decide +kernel
theorem dX6_parties_61 : decode cX6_parties 61 = .ok (.ireturn, 1) := by decide +kernel
theorem dX6_mostCouples_0 : decode cX6_mostCouples 0 = .ok (.iconst 1, 1) := by decide +kernel
theorem dX6_mostCouples_1 : decode cX6_mostCouples 1 = .ok (.istore_n 1, 1) := by decide +kernel
theorem dX6_mostCouples_2 : decode cX6_mostCouples 2 = .ok (.iload_n 1, 1) := by decide +kernel
theorem dX6_mostCouples_3 : decode cX6_mostCouples 3 = .ok (.bipush 64, 2) := by decide +kernel
theorem dX6_mostCouples_5 : decode cX6_mostCouples 5 = .ok (.if_icmp .ge 20, 3) := by decide +kernel
theorem dX6_mostCouples_8 : decode cX6_mostCouples 8 = .ok (.aload_n 0, 1) := by decide +kernel
theorem dX6_mostCouples_9 : decode cX6_mostCouples 9 = .ok (.getfield 11, 3) := by decide +kernel
theorem dX6_mostCouples_12 : decode cX6_mostCouples 12 = .ok (.iload_n 1, 1) := by decide +kernel
theorem dX6_mostCouples_13 : decode cX6_mostCouples 13 = .ok (.aload_n 0, 1) := by decide +kernel
theorem dX6_mostCouples_14 : decode cX6_mostCouples 14 = .ok (.iload_n 1, 1) := by decide +kernel
theorem dX6_mostCouples_15 : decode cX6_mostCouples 15 = .ok (.invokevirtual 32, 3) := by decide +kernel
theorem dX6_mostCouples_18 : decode cX6_mostCouples 18 = .ok (.iastore, 1) := by decide +kernel
theorem dX6_mostCouples_19 : decode cX6_mostCouples 19 = .ok (.iinc 1 1, 3) := by decide +kernel
theorem dX6_mostCouples_22 : decode cX6_mostCouples 22 = .ok (.goto (-20), 3) := by decide +kernel
theorem dX6_mostCouples_25 : decode cX6_mostCouples 25 = .ok (.aload_n 0, 1) := by decide +kernel
theorem dX6_mostCouples_26 : decode cX6_mostCouples 26 = .ok (.getfield 11, 3) := by decide +kernel
theorem dX6_mostCouples_29 : decode cX6_mostCouples 29 = .ok (.bipush 63, 2) := by decide +kernel
theorem dX6_mostCouples_31 : decode cX6_mostCouples 31 = .ok (.iaload, 1) := by decide +kernel
theorem dX6_mostCouples_32 : decode cX6_mostCouples 32 = .ok (.ireturn, 1) := by decide +kernel
theorem dX6_mostCouplesIn_0 : decode cX6_mostCouplesIn 0 = .ok (.iconst 5, 1) := by decide +kernel
theorem dX6_mostCouplesIn_1 : decode cX6_mostCouplesIn 1 = .ok (.istore_n 2, 1) := by decide +kernel
theorem dX6_mostCouplesIn_2 : decode cX6_mostCouplesIn 2 = .ok (.iload_n 2, 1) := by decide +kernel
theorem dX6_mostCouplesIn_3 : decode cX6_mostCouplesIn 3 = .ok (.ifCond .le 17, 3) := by decide +kernel
theorem dX6_mostCouplesIn_6 : decode cX6_mostCouplesIn 6 = .ok (.iload_n 1, 1) := by decide +kernel
theorem dX6_mostCouplesIn_7 : decode cX6_mostCouplesIn 7 = .ok (.iload_n 2, 1) := by decide +kernel
theorem dX6_mostCouplesIn_8 : decode cX6_mostCouplesIn 8 = .ok (.ishr, 1) := by decide +kernel
theorem dX6_mostCouplesIn_9 : decode cX6_mostCouplesIn 9 = .ok (.iconst 1, 1) := by decide +kernel
theorem dX6_mostCouplesIn_10 : decode cX6_mostCouplesIn 10 = .ok (.iand, 1) := by decide +kernel
theorem dX6_mostCouplesIn_11 : decode cX6_mostCouplesIn 11 = .ok (.ifCond .ne 9, 3) := by decide +kernel
theorem dX6_mostCouplesIn_14 : decode cX6_mostCouplesIn 14 = .ok (.iinc 2 (-1), 3) := by decide +kernel
theorem dX6_mostCouplesIn_17 : decode cX6_mostCouplesIn 17 = .ok (.goto (-15), 3) := by decide +kernel
theorem dX6_mostCouplesIn_20 : decode cX6_mostCouplesIn 20 = .ok (.iload_n 1, 1) := by decide +kernel
theorem dX6_mostCouplesIn_21 : decode cX6_mostCouplesIn 21 = .ok (.iconst 1, 1) := by decide +kernel
theorem dX6_mostCouplesIn_22 : decode cX6_mostCouplesIn 22 = .ok (.iload_n 2, 1) := by decide +kernel
theorem dX6_mostCouplesIn_23 : decode cX6_mostCouplesIn 23 = .ok (.ishl, 1) := by decide +kernel
theorem dX6_mostCouplesIn_24 : decode cX6_mostCouplesIn 24 = .ok (.iconst (-1), 1) := by decide +kernel
theorem dX6_mostCouplesIn_25 : decode cX6_mostCouplesIn 25 = .ok (.ixor, 1) := by decide +kernel
theorem dX6_mostCouplesIn_26 : decode cX6_mostCouplesIn 26 = .ok (.iand, 1) := by decide +kernel
theorem dX6_mostCouplesIn_27 : decode cX6_mostCouplesIn 27 = .ok (.istore_n 3, 1) := by decide +kernel
theorem dX6_mostCouplesIn_28 : decode cX6_mostCouplesIn 28 = .ok (.aload_n 0, 1) := by decide +kernel
theorem dX6_mostCouplesIn_29 : decode cX6_mostCouplesIn 29 = .ok (.getfield 11, 3) := by decide +kernel
theorem dX6_mostCouplesIn_32 : decode cX6_mostCouplesIn 32 = .ok (.iload_n 3, 1) := by decide +kernel
theorem dX6_mostCouplesIn_33 : decode cX6_mostCouplesIn 33 = .ok (.iaload, 1) := by decide +kernel
theorem dX6_mostCouplesIn_34 : decode cX6_mostCouplesIn 34 = .ok (.istore 4, 2) := by decide +kernel
theorem dX6_mostCouplesIn_36 : decode cX6_mostCouplesIn 36 = .ok (.iconst 0, 1) := by decide +kernel
theorem dX6_mostCouplesIn_37 : decode cX6_mostCouplesIn 37 = .ok (.istore 5, 2) := by decide +kernel
theorem dX6_mostCouplesIn_39 : decode cX6_mostCouplesIn 39 = .ok (.iload 5, 2) := by decide +kernel
theorem dX6_mostCouplesIn_41 : decode cX6_mostCouplesIn 41 = .ok (.iload_n 2, 1) := by decide +kernel
theorem dX6_mostCouplesIn_42 : decode cX6_mostCouplesIn 42 = .ok (.if_icmp .ge 50, 3) := by decide +kernel
theorem dX6_mostCouplesIn_45 : decode cX6_mostCouplesIn 45 = .ok (.iload_n 3, 1) := by decide +kernel
theorem dX6_mostCouplesIn_46 : decode cX6_mostCouplesIn 46 = .ok (.iload 5, 2) := by decide +kernel
theorem dX6_mostCouplesIn_48 : decode cX6_mostCouplesIn 48 = .ok (.ishr, 1) := by decide +kernel
theorem dX6_mostCouplesIn_49 : decode cX6_mostCouplesIn 49 = .ok (.iconst 1, 1) := by decide +kernel
theorem dX6_mostCouplesIn_50 : decode cX6_mostCouplesIn 50 = .ok (.iand, 1) := by decide +kernel
theorem dX6_mostCouplesIn_51 : decode cX6_mostCouplesIn 51 = .ok (.ifCond .eq 35, 3) := by decide +kernel
theorem dX6_mostCouplesIn_54 : decode cX6_mostCouplesIn 54 = .ok (.aload_n 0, 1) := by decide +kernel
theorem dX6_mostCouplesIn_55 : decode cX6_mostCouplesIn 55 = .ok (.iload_n 2, 1) := by decide +kernel
theorem dX6_mostCouplesIn_56 : decode cX6_mostCouplesIn 56 = .ok (.iload 5, 2) := by decide +kernel
theorem dX6_mostCouplesIn_58 : decode cX6_mostCouplesIn 58 = .ok (.invokevirtual 35, 3) := by decide +kernel
theorem dX6_mostCouplesIn_61 : decode cX6_mostCouplesIn 61 = .ok (.ifCond .eq 25, 3) := by decide +kernel
theorem dX6_mostCouplesIn_64 : decode cX6_mostCouplesIn 64 = .ok (.iload 4, 2) := by decide +kernel
theorem dX6_mostCouplesIn_66 : decode cX6_mostCouplesIn 66 = .ok (.iconst 1, 1) := by decide +kernel
theorem dX6_mostCouplesIn_67 : decode cX6_mostCouplesIn 67 = .ok (.aload_n 0, 1) := by decide +kernel
theorem dX6_mostCouplesIn_68 : decode cX6_mostCouplesIn 68 = .ok (.getfield 11, 3) := by decide +kernel
theorem dX6_mostCouplesIn_71 : decode cX6_mostCouplesIn 71 = .ok (.iload_n 3, 1) := by decide +kernel
theorem dX6_mostCouplesIn_72 : decode cX6_mostCouplesIn 72 = .ok (.iconst 1, 1) := by decide +kernel
theorem dX6_mostCouplesIn_73 : decode cX6_mostCouplesIn 73 = .ok (.iload 5, 2) := by decide +kernel
theorem dX6_mostCouplesIn_75 : decode cX6_mostCouplesIn 75 = .ok (.ishl, 1) := by decide +kernel
theorem dX6_mostCouplesIn_76 : decode cX6_mostCouplesIn 76 = .ok (.iconst (-1), 1) := by decide +kernel
theorem dX6_mostCouplesIn_77 : decode cX6_mostCouplesIn 77 = .ok (.ixor, 1) := by decide +kernel
theorem dX6_mostCouplesIn_78 : decode cX6_mostCouplesIn 78 = .ok (.iand, 1) := by decide +kernel
theorem dX6_mostCouplesIn_79 : decode cX6_mostCouplesIn 79 = .ok (.iaload, 1) := by decide +kernel
theorem dX6_mostCouplesIn_80 : decode cX6_mostCouplesIn 80 = .ok (.iadd, 1) := by decide +kernel
theorem dX6_mostCouplesIn_81 : decode cX6_mostCouplesIn 81 = .ok (.invokestatic 39, 3) := by decide +kernel
theorem dX6_mostCouplesIn_84 : decode cX6_mostCouplesIn 84 = .ok (.istore 4, 2) := by decide +kernel
theorem dX6_mostCouplesIn_86 : decode cX6_mostCouplesIn 86 = .ok (.iinc 5 1, 3) := by decide +kernel
theorem dX6_mostCouplesIn_89 : decode cX6_mostCouplesIn 89 = .ok (.goto (-50), 3) := by decide +kernel
theorem dX6_mostCouplesIn_92 : decode cX6_mostCouplesIn 92 = .ok (.iload 4, 2) := by decide +kernel
theorem dX6_mostCouplesIn_94 : decode cX6_mostCouplesIn 94 = .ok (.ireturn, 1) := by decide +kernel
theorem dX7_init_0 : decode cX7_init 0 = .ok (.aload_n 0, 1) := by decide +kernel
theorem dX7_init_1 : decode cX7_init 1 = .ok (.invokespecial 3, 3) := by decide +kernel
theorem dX7_init_4 : decode cX7_init 4 = .ok (.aload_n 0, 1) := by decide +kernel
theorem dX7_init_5 : decode cX7_init 5 = .ok (.aload_n 1, 1) := by decide +kernel
theorem dX7_init_6 : decode cX7_init 6 = .ok (.putfield 9, 3) := by decide +kernel
theorem dX7_init_9 : decode cX7_init 9 = .ok (.aload_n 0, 1) := by decide +kernel
theorem dX7_init_10 : decode cX7_init 10 = .ok (.aload_n 2, 1) := by decide +kernel
theorem dX7_init_11 : decode cX7_init 11 = .ok (.putfield 15, 3) := by decide +kernel
theorem dX7_init_14 : decode cX7_init 14 = .ok (.return_, 1) := by decide +kernel
theorem dX7_tell_0 : decode cX7_tell 0 = .ok (.aload_n 0, 1) := by decide +kernel
theorem dX7_tell_1 : decode cX7_tell 1 = .ok (.aload_n 2, 1) := by decide +kernel
theorem dX7_tell_2 : decode cX7_tell 2 = .ok (.putfield 15, 3) := by decide +kernel
theorem dX7_tell_5 : decode cX7_tell 5 = .ok (.aload_n 0, 1) := by decide +kernel
theorem dX7_tell_6 : decode cX7_tell 6 = .ok (.getfield 15, 3) := by decide +kernel
theorem dX7_tell_9 : decode cX7_tell 9 = .ok (.invokevirtual 19, 3) := by decide +kernel
theorem dX7_tell_12 : decode cX7_tell 12 = .ok (.aload_n 0, 1) := by decide +kernel
theorem dX7_tell_13 : decode cX7_tell 13 = .ok (.iconst 0, 1) := by decide +kernel
theorem dX7_tell_14 : decode cX7_tell 14 = .ok (.putfield 24, 3) := by decide +kernel
theorem dX7_tell_17 : decode cX7_tell 17 = .ok (.aload_n 0, 1) := by decide +kernel
theorem dX7_tell_18 : decode cX7_tell 18 = .ok (.getfield 9, 3) := by decide +kernel
theorem dX7_tell_21 : decode cX7_tell 21 = .ok (.iload_n 1, 1) := by decide +kernel
theorem dX7_tell_22 : decode cX7_tell 22 = .ok (.invokevirtual 28, 3) := by decide +kernel
theorem dX7_tell_25 : decode cX7_tell 25 = .ok (.iconst 0, 1) := by decide +kernel
theorem dX7_tell_26 : decode cX7_tell 26 = .ok (.istore_n 3, 1) := by decide +kernel
theorem dX7_tell_27 : decode cX7_tell 27 = .ok (.iload_n 3, 1) := by decide +kernel
theorem dX7_tell_28 : decode cX7_tell 28 = .ok (.iload_n 1, 1) := by decide +kernel
theorem dX7_tell_29 : decode cX7_tell 29 = .ok (.if_icmp .gt 31, 3) := by decide +kernel
theorem dX7_tell_32 : decode cX7_tell 32 = .ok (.aload_n 0, 1) := by decide +kernel
theorem dX7_tell_33 : decode cX7_tell 33 = .ok (.getfield 9, 3) := by decide +kernel
theorem dX7_tell_36 : decode cX7_tell 36 = .ok (.getfield 34, 3) := by decide +kernel
theorem dX7_tell_39 : decode cX7_tell 39 = .ok (.ifCond .eq 21, 3) := by decide +kernel
theorem dX7_tell_42 : decode cX7_tell 42 = .ok (.aload_n 0, 1) := by decide +kernel
theorem dX7_tell_43 : decode cX7_tell 43 = .ok (.invokevirtual 37, 3) := by decide +kernel
theorem dX7_tell_46 : decode cX7_tell 46 = .ok (.ifCond .ne 8, 3) := by decide +kernel
theorem dX7_tell_49 : decode cX7_tell 49 = .ok (.aload_n 0, 1) := by decide +kernel
theorem dX7_tell_50 : decode cX7_tell 50 = .ok (.getfield 24, 3) := by decide +kernel
theorem dX7_tell_53 : decode cX7_tell 53 = .ok (.ireturn, 1) := by decide +kernel
theorem dX7_tell_54 : decode cX7_tell 54 = .ok (.iinc 3 1, 3) := by decide +kernel
theorem dX7_tell_57 : decode cX7_tell 57 = .ok (.goto (-30), 3) := by decide +kernel
theorem dX7_tell_60 : decode cX7_tell 60 = .ok (.iconst 0, 1) := by decide +kernel
theorem dX7_tell_61 : decode cX7_tell 61 = .ok (.ireturn, 1) := by decide +kernel
theorem dX7_fail_0 : decode cX7_fail 0 = .ok (.aload_n 0, 1) := by decide +kernel
theorem dX7_fail_1 : decode cX7_fail 1 = .ok (.iload_n 1, 1) := by decide +kernel
theorem dX7_fail_2 : decode cX7_fail 2 = .ok (.putfield 24, 3) := by decide +kernel
theorem dX7_fail_5 : decode cX7_fail 5 = .ok (.aload_n 0, 1) := by decide +kernel
theorem dX7_fail_6 : decode cX7_fail 6 = .ok (.aload_n 0, 1) := by decide +kernel
theorem dX7_fail_7 : decode cX7_fail 7 = .ok (.getfield 9, 3) := by decide +kernel
theorem dX7_fail_10 : decode cX7_fail 10 = .ok (.getfield 41, 3) := by decide +kernel
theorem dX7_fail_13 : decode cX7_fail 13 = .ok (.putfield 44, 3) := by decide +kernel
theorem dX7_fail_16 : decode cX7_fail 16 = .ok (.iconst 0, 1) := by decide +kernel
theorem dX7_fail_17 : decode cX7_fail 17 = .ok (.ireturn, 1) := by decide +kernel
theorem dX7_line_0 : decode cX7_line 0 = .ok (.aload_n 0, 1) := by decide +kernel
theorem dX7_line_1 : decode cX7_line 1 = .ok (.getfield 9, 3) := by decide +kernel
theorem dX7_line_4 : decode cX7_line 4 = .ok (.ldc 47, 2) := by decide +kernel
theorem dX7_line_6 : decode cX7_line 6 = .ok (.invokevirtual 49, 3) := by decide +kernel
theorem dX7_line_9 : decode cX7_line 9 = .ok (.ifCond .eq 11, 3) := by decide +kernel
theorem dX7_line_12 : decode cX7_line 12 = .ok (.aload_n 0, 1) := by decide +kernel
theorem dX7_line_13 : decode cX7_line 13 = .ok (.invokevirtual 53, 3) := by decide +kernel
theorem dX7_line_16 : decode cX7_line 16 = .ok (.istore_n 1, 1) := by decide +kernel
theorem dX7_line_17 : decode cX7_line 17 = .ok (.goto 109, 3) := by decide +kernel
theorem dX7_line_20 : decode cX7_line 20 = .ok (.aload_n 0, 1) := by decide +kernel
theorem dX7_line_21 : decode cX7_line 21 = .ok (.getfield 9, 3) := by decide +kernel
theorem dX7_line_24 : decode cX7_line 24 = .ok (.ldc 56, 2) := by decide +kernel
theorem dX7_line_26 : decode cX7_line 26 = .ok (.invokevirtual 49, 3) := by decide +kernel
theorem dX7_line_29 : decode cX7_line 29 = .ok (.ifCond .eq 11, 3) := by decide +kernel
theorem dX7_line_32 : decode cX7_line 32 = .ok (.aload_n 0, 1) := by decide +kernel
theorem dX7_line_33 : decode cX7_line 33 = .ok (.invokevirtual 58, 3) := by decide +kernel
theorem dX7_line_36 : decode cX7_line 36 = .ok (.istore_n 1, 1) := by decide +kernel
theorem dX7_line_37 : decode cX7_line 37 = .ok (.goto 89, 3) := by decide +kernel
theorem dX7_line_40 : decode cX7_line 40 = .ok (.aload_n 0, 1) := by decide +kernel
theorem dX7_line_41 : decode cX7_line 41 = .ok (.getfield 9, 3) := by decide +kernel
theorem dX7_line_44 : decode cX7_line 44 = .ok (.ldc 61, 2) := by decide +kernel
theorem dX7_line_46 : decode cX7_line 46 = .ok (.invokevirtual 49, 3) := by decide +kernel
theorem dX7_line_49 : decode cX7_line 49 = .ok (.ifCond .eq 11, 3) := by decide +kernel
theorem dX7_line_52 : decode cX7_line 52 = .ok (.aload_n 0, 1) := by decide +kernel
theorem dX7_line_53 : decode cX7_line 53 = .ok (.invokevirtual 63, 3) := by decide +kernel
theorem dX7_line_56 : decode cX7_line 56 = .ok (.istore_n 1, 1) := by decide +kernel
theorem dX7_line_57 : decode cX7_line 57 = .ok (.goto 69, 3) := by decide +kernel
theorem dX7_line_60 : decode cX7_line 60 = .ok (.aload_n 0, 1) := by decide +kernel
theorem dX7_line_61 : decode cX7_line 61 = .ok (.getfield 9, 3) := by decide +kernel
theorem dX7_line_64 : decode cX7_line 64 = .ok (.ldc 66, 2) := by decide +kernel
theorem dX7_line_66 : decode cX7_line 66 = .ok (.invokevirtual 49, 3) := by decide +kernel
theorem dX7_line_69 : decode cX7_line 69 = .ok (.ifCond .eq 11, 3) := by decide +kernel
theorem dX7_line_72 : decode cX7_line 72 = .ok (.aload_n 0, 1) := by decide +kernel
theorem dX7_line_73 : decode cX7_line 73 = .ok (.invokevirtual 68, 3) := by decide +kernel
theorem dX7_line_76 : decode cX7_line 76 = .ok (.istore_n 1, 1) := by decide +kernel
theorem dX7_line_77 : decode cX7_line 77 = .ok (.goto 49, 3) := by decide +kernel
theorem dX7_line_80 : decode cX7_line 80 = .ok (.aload_n 0, 1) := by decide +kernel
theorem dX7_line_81 : decode cX7_line 81 = .ok (.getfield 9, 3) := by decide +kernel
theorem dX7_line_84 : decode cX7_line 84 = .ok (.ldc 71, 2) := by decide +kernel
theorem dX7_line_86 : decode cX7_line 86 = .ok (.invokevirtual 49, 3) := by decide +kernel
theorem dX7_line_89 : decode cX7_line 89 = .ok (.ifCond .eq 11, 3) := by decide +kernel
theorem dX7_line_92 : decode cX7_line 92 = .ok (.aload_n 0, 1) := by decide +kernel
theorem dX7_line_93 : decode cX7_line 93 = .ok (.invokevirtual 73, 3) := by decide +kernel
theorem dX7_line_96 : decode cX7_line 96 = .ok (.istore_n 1, 1) := by decide +kernel
theorem dX7_line_97 : decode cX7_line 97 = .ok (.goto 29, 3) := by decide +kernel
theorem dX7_line_100 : decode cX7_line 100 = .ok (.aload_n 0, 1) := by decide +kernel
theorem dX7_line_101 : decode cX7_line 101 = .ok (.getfield 9, 3) := by decide +kernel
theorem dX7_line_104 : decode cX7_line 104 = .ok (.ldc 76, 2) := by decide +kernel
theorem dX7_line_106 : decode cX7_line 106 = .ok (.invokevirtual 49, 3) := by decide +kernel
theorem dX7_line_109 : decode cX7_line 109 = .ok (.ifCond .eq 11, 3) := by decide +kernel
theorem dX7_line_112 : decode cX7_line 112 = .ok (.aload_n 0, 1) := by decide +kernel
theorem dX7_line_113 : decode cX7_line 113 = .ok (.invokevirtual 78, 3) := by decide +kernel
theorem dX7_line_116 : decode cX7_line 116 = .ok (.istore_n 1, 1) := by decide +kernel
theorem dX7_line_117 : decode cX7_line 117 = .ok (.goto 9, 3) := by decide +kernel
theorem dX7_line_120 : decode cX7_line 120 = .ok (.aload_n 0, 1) := by decide +kernel
theorem dX7_line_121 : decode cX7_line 121 = .ok (.iconst 1, 1) := by decide +kernel
theorem dX7_line_122 : decode cX7_line 122 = .ok (.invokevirtual 81, 3) := by decide +kernel
theorem dX7_line_125 : decode cX7_line 125 = .ok (.istore_n 1, 1) := by decide +kernel
theorem dX7_line_126 : decode cX7_line 126 = .ok (.iload_n 1, 1) := by decide +kernel
theorem dX7_line_127 : decode cX7_line 127 = .ok (.ifCond .eq 16, 3) := by decide +kernel
theorem dX7_line_130 : decode cX7_line 130 = .ok (.aload_n 0, 1) := by decide +kernel
theorem dX7_line_131 : decode cX7_line 131 = .ok (.bipush 59, 2) := by decide +kernel
theorem dX7_line_133 : decode cX7_line 133 = .ok (.invokevirtual 85, 3) := by decide +kernel
theorem dX7_line_136 : decode cX7_line 136 = .ok (.ifCond .eq 7, 3) := by decide +kernel
theorem dX7_line_139 : decode cX7_line 139 = .ok (.iconst 1, 1) := by decide +kernel
theorem dX7_line_140 : decode cX7_line 140 = .ok (.goto 4, 3) := by decide +kernel
theorem dX7_line_143 : decode cX7_line 143 = .ok (.iconst 0, 1) := by decide +kernel
theorem dX7_line_144 : decode cX7_line 144 = .ok (.ireturn, 1) := by decide +kernel
theorem dX7_feudLine_0 : decode cX7_feudLine 0 = .ok (.aload_n 0, 1) := by decide +kernel
theorem dX7_feudLine_1 : decode cX7_feudLine 1 = .ok (.getfield 15, 3) := by decide +kernel
theorem dX7_feudLine_4 : decode cX7_feudLine 4 = .ok (.getfield 89, 3) := by decide +kernel
theorem dX7_feudLine_7 : decode cX7_feudLine 7 = .ok (.bipush 9, 2) := by decide +kernel
theorem dX7_feudLine_9 : decode cX7_feudLine 9 = .ok (.if_icmp .lt 9, 3) := by decide +kernel
theorem dX7_feudLine_12 : decode cX7_feudLine 12 = .ok (.aload_n 0, 1) := by decide +kernel
theorem dX7_feudLine_13 : decode cX7_feudLine 13 = .ok (.iconst 2, 1) := by decide +kernel
theorem dX7_feudLine_14 : decode cX7_feudLine 14 = .ok (.invokevirtual 81, 3) := by decide +kernel
theorem dX7_feudLine_17 : decode cX7_feudLine 17 = .ok (.ireturn, 1) := by decide +kernel
theorem dX7_feudLine_18 : decode cX7_feudLine 18 = .ok (.aload_n 0, 1) := by decide +kernel
theorem dX7_feudLine_19 : decode cX7_feudLine 19 = .ok (.getfield 9, 3) := by decide +kernel
theorem dX7_feudLine_22 : decode cX7_feudLine 22 = .ok (.invokevirtual 92, 3) := by decide +kernel
theorem dX7_feudLine_25 : decode cX7_feudLine 25 = .ok (.aload_n 0, 1) := by decide +kernel
theorem dX7_feudLine_26 : decode cX7_feudLine 26 = .ok (.iconst 0, 1) := by decide +kernel
theorem dX7_feudLine_27 : decode cX7_feudLine 27 = .ok (.iconst 5, 1) := by decide +kernel
theorem dX7_feudLine_28 : decode cX7_feudLine 28 = .ok (.invokevirtual 95, 3) := by decide +kernel
theorem dX7_feudLine_31 : decode cX7_feudLine 31 = .ok (.ifCond .ne 5, 3) := by decide +kernel
theorem dX7_feudLine_34 : decode cX7_feudLine 34 = .ok (.iconst 0, 1) := by decide +kernel
theorem dX7_feudLine_35 : decode cX7_feudLine 35 = .ok (.ireturn, 1) := by decide +kernel
theorem dX7_feudLine_36 : decode cX7_feudLine 36 = .ok (.aload_n 0, 1) := by decide +kernel
theorem dX7_feudLine_37 : decode cX7_feudLine 37 = .ok (.getfield 9, 3) := by decide +kernel
theorem dX7_feudLine_40 : decode cX7_feudLine 40 = .ok (.getfield 99, 3) := by decide +kernel
theorem dX7_feudLine_43 : decode cX7_feudLine 43 = .ok (.istore_n 1, 1) := by decide +kernel
theorem dX7_feudLine_44 : decode cX7_feudLine 44 = .ok (.aload_n 0, 1) := by decide +kernel
theorem dX7_feudLine_45 : decode cX7_feudLine 45 = .ok (.getfield 9, 3) := by decide +kernel
theorem dX7_feudLine_48 : decode cX7_feudLine 48 = .ok (.invokevirtual 92, 3) := by decide +kernel
theorem dX7_feudLine_51 : decode cX7_feudLine 51 = .ok (.aload_n 0, 1) := by decide +kernel
theorem dX7_feudLine_52 : decode cX7_feudLine 52 = .ok (.iconst 0, 1) := by decide +kernel
theorem dX7_feudLine_53 : decode cX7_feudLine 53 = .ok (.iconst 5, 1) := by decide +kernel
theorem dX7_feudLine_54 : decode cX7_feudLine 54 = .ok (.invokevirtual 95, 3) := by decide +kernel
theorem dX7_feudLine_57 : decode cX7_feudLine 57 = .ok (.ifCond .ne 5, 3) := by decide +kernel
theorem dX7_feudLine_60 : decode cX7_feudLine 60 = .ok (.iconst 0, 1) := by decide +kernel
theorem dX7_feudLine_61 : decode cX7_feudLine 61 = .ok (.ireturn, 1) := by decide +kernel
theorem dX7_feudLine_62 : decode cX7_feudLine 62 = .ok (.aload_n 0, 1) := by decide +kernel
theorem dX7_feudLine_63 : decode cX7_feudLine 63 = .ok (.getfield 9, 3) := by decide +kernel
theorem dX7_feudLine_66 : decode cX7_feudLine 66 = .ok (.getfield 99, 3) := by decide +kernel
theorem dX7_feudLine_69 : decode cX7_feudLine 69 = .ok (.istore_n 2, 1) := by decide +kernel
theorem dX7_feudLine_70 : decode cX7_feudLine 70 = .ok (.iload_n 1, 1) := by decide +kernel
theorem dX7_feudLine_71 : decode cX7_feudLine 71 = .ok (.iload_n 2, 1) := by decide +kernel
theorem dX7_feudLine_72 : decode cX7_feudLine 72 = .ok (.if_icmp .eq 19, 3) := by decide +kernel
theorem dX7_feudLine_75 : decode cX7_feudLine 75 = .ok (.aload_n 0, 1) := by decide +kernel
theorem dX7_feudLine_76 : decode cX7_feudLine 76 = .ok (.getfield 15, 3) := by decide +kernel
theorem dX7_feudLine_79 : decode cX7_feudLine 79 = .ok (.getfield 102, 3) := by decide +kernel
theorem dX7_feudLine_82 : decode cX7_feudLine 82 = .ok (.iload_n 1, 1) := by decide +kernel
theorem dX7_feudLine_83 : decode cX7_feudLine 83 = .ok (.iaload, 1) := by decide +kernel
theorem dX7_feudLine_84 : decode cX7_feudLine 84 = .ok (.iload_n 2, 1) := by decide +kernel
theorem dX7_feudLine_85 : decode cX7_feudLine 85 = .ok (.ishr, 1) := by decide +kernel
theorem dX7_feudLine_86 : decode cX7_feudLine 86 = .ok (.iconst 1, 1) := by decide +kernel
theorem dX7_feudLine_87 : decode cX7_feudLine 87 = .ok (.iand, 1) := by decide +kernel
theorem dX7_feudLine_88 : decode cX7_feudLine 88 = .ok (.ifCond .eq 9, 3) := by decide +kernel
theorem dX7_feudLine_91 : decode cX7_feudLine 91 = .ok (.aload_n 0, 1) := by decide +kernel
theorem dX7_feudLine_92 : decode cX7_feudLine 92 = .ok (.iconst 4, 1) := by decide +kernel
theorem dX7_feudLine_93 : decode cX7_feudLine 93 = .ok (.invokevirtual 81, 3) := by decide +kernel
theorem dX7_feudLine_96 : decode cX7_feudLine 96 = .ok (.ireturn, 1) := by decide +kernel
theorem dX7_feudLine_97 : decode cX7_feudLine 97 = .ok (.aload_n 0, 1) := by decide +kernel
theorem dX7_feudLine_98 : decode cX7_feudLine 98 = .ok (.getfield 15, 3) := by decide +kernel
theorem dX7_feudLine_101 : decode cX7_feudLine 101 = .ok (.getfield 102, 3) := by decide +kernel
theorem dX7_feudLine_104 : decode cX7_feudLine 104 = .ok (.iload_n 1, 1) := by decide +kernel
theorem dX7_feudLine_105 : decode cX7_feudLine 105 = .ok (.dup2, 1) := by decide +kernel
theorem dX7_feudLine_106 : decode cX7_feudLine 106 = .ok (.iaload, 1) := by decide +kernel
theorem dX7_feudLine_107 : decode cX7_feudLine 107 = .ok (.iconst 1, 1) := by decide +kernel
theorem dX7_feudLine_108 : decode cX7_feudLine 108 = .ok (.iload_n 2, 1) := by decide +kernel
theorem dX7_feudLine_109 : decode cX7_feudLine 109 = .ok (.ishl, 1) := by decide +kernel
theorem dX7_feudLine_110 : decode cX7_feudLine 110 = .ok (.ior, 1) := by decide +kernel
theorem dX7_feudLine_111 : decode cX7_feudLine 111 = .ok (.iastore, 1) := by decide +kernel
theorem dX7_feudLine_112 : decode cX7_feudLine 112 = .ok (.aload_n 0, 1) := by decide +kernel
theorem dX7_feudLine_113 : decode cX7_feudLine 113 = .ok (.getfield 15, 3) := by decide +kernel
theorem dX7_feudLine_116 : decode cX7_feudLine 116 = .ok (.getfield 102, 3) := by decide +kernel
theorem dX7_feudLine_119 : decode cX7_feudLine 119 = .ok (.iload_n 2, 1) := by decide +kernel
theorem dX7_feudLine_120 : decode cX7_feudLine 120 = .ok (.dup2, 1) := by decide +kernel
theorem dX7_feudLine_121 : decode cX7_feudLine 121 = .ok (.iaload, 1) := by decide +kernel
theorem dX7_feudLine_122 : decode cX7_feudLine 122 = .ok (.iconst 1, 1) := by decide +kernel
theorem dX7_feudLine_123 : decode cX7_feudLine 123 = .ok (.iload_n 1, 1) := by decide +kernel
theorem dX7_feudLine_124 : decode cX7_feudLine 124 = .ok (.ishl, 1) := by decide +kernel
theorem dX7_feudLine_125 : decode cX7_feudLine 125 = .ok (.ior, 1) := by decide +kernel
theorem dX7_feudLine_126 : decode cX7_feudLine 126 = .ok (.iastore, 1) := by decide +kernel
theorem dX7_feudLine_127 : decode cX7_feudLine 127 = .ok (.aload_n 0, 1) := by decide +kernel
theorem dX7_feudLine_128 : decode cX7_feudLine 128 = .ok (.getfield 15, 3) := by decide +kernel
theorem dX7_feudLine_131 : decode cX7_feudLine 131 = .ok (.dup, 1) := by decide +kernel
theorem dX7_feudLine_132 : decode cX7_feudLine 132 = .ok (.getfield 89, 3) := by decide +kernel
theorem dX7_feudLine_135 : decode cX7_feudLine 135 = .ok (.iconst 1, 1) := by decide +kernel
theorem dX7_feudLine_136 : decode cX7_feudLine 136 = .ok (.iadd, 1) := by decide +kernel
theorem dX7_feudLine_137 : decode cX7_feudLine 137 = .ok (.putfield 89, 3) := by decide +kernel
theorem dX7_feudLine_140 : decode cX7_feudLine 140 = .ok (.aload_n 0, 1) := by decide +kernel
theorem dX7_feudLine_141 : decode cX7_feudLine 141 = .ok (.getfield 9, 3) := by decide +kernel
theorem dX7_feudLine_144 : decode cX7_feudLine 144 = .ok (.invokevirtual 92, 3) := by decide +kernel
theorem dX7_feudLine_147 : decode cX7_feudLine 147 = .ok (.iconst 1, 1) := by decide +kernel
theorem dX7_feudLine_148 : decode cX7_feudLine 148 = .ok (.ireturn, 1) := by decide +kernel
theorem dX7_swallowerLine_0 : decode cX7_swallowerLine 0 = .ok (.aload_n 0, 1) := by decide +kernel
theorem dX7_swallowerLine_1 : decode cX7_swallowerLine 1 = .ok (.getfield 15, 3) := by decide +kernel
theorem dX7_swallowerLine_4 : decode cX7_swallowerLine 4 = .ok (.getfield 106, 3) := by decide +kernel
theorem dX7_swallowerLine_7 : decode cX7_swallowerLine 7 = .ok (.istore_n 1, 1) := by decide +kernel
theorem dX7_swallowerLine_8 : decode cX7_swallowerLine 8 = .ok (.iload_n 1, 1) := by decide +kernel
theorem dX7_swallowerLine_9 : decode cX7_swallowerLine 9 = .ok (.iconst 5, 1) := by decide +kernel
theorem dX7_swallowerLine_10 : decode cX7_swallowerLine 10 = .ok (.if_icmp .lt 9, 3) := by decide +kernel
theorem dX7_swallowerLine_13 : decode cX7_swallowerLine 13 = .ok (.aload_n 0, 1) := by decide +kernel
theorem dX7_swallowerLine_14 : decode cX7_swallowerLine 14 = .ok (.iconst 2, 1) := by decide +kernel
theorem dX7_swallowerLine_15 : decode cX7_swallowerLine 15 = .ok (.invokevirtual 81, 3) := by decide +kernel
theorem dX7_swallowerLine_18 : decode cX7_swallowerLine 18 = .ok (.ireturn, 1) := by decide +kernel
theorem dX7_swallowerLine_19 : decode cX7_swallowerLine 19 = .ok (.aload_n 0, 1) := by decide +kernel
theorem dX7_swallowerLine_20 : decode cX7_swallowerLine 20 = .ok (.getfield 9, 3) := by decide +kernel
theorem dX7_swallowerLine_23 : decode cX7_swallowerLine 23 = .ok (.invokevirtual 92, 3) := by decide +kernel
theorem dX7_swallowerLine_26 : decode cX7_swallowerLine 26 = .ok (.aload_n 0, 1) := by decide +kernel
theorem dX7_swallowerLine_27 : decode cX7_swallowerLine 27 = .ok (.iconst 1, 1) := by decide +kernel
theorem dX7_swallowerLine_28 : decode cX7_swallowerLine 28 = .ok (.bipush 99, 2) := by decide +kernel
theorem dX7_swallowerLine_30 : decode cX7_swallowerLine 30 = .ok (.invokevirtual 95, 3) := by decide +kernel
theorem dX7_swallowerLine_33 : decode cX7_swallowerLine 33 = .ok (.ifCond .ne 5, 3) := by decide +kernel
theorem dX7_swallowerLine_36 : decode cX7_swallowerLine 36 = .ok (.iconst 0, 1) := by decide +kernel
theorem dX7_swallowerLine_37 : decode cX7_swallowerLine 37 = .ok (.ireturn, 1) := by decide +kernel
theorem dX7_swallowerLine_38 : decode cX7_swallowerLine 38 = .ok (.aload_n 0, 1) := by decide +kernel
theorem dX7_swallowerLine_39 : decode cX7_swallowerLine 39 = .ok (.getfield 15, 3) := by decide +kernel
theorem dX7_swallowerLine_42 : decode cX7_swallowerLine 42 = .ok (.getfield 109, 3) := by decide +kernel
theorem dX7_swallowerLine_45 : decode cX7_swallowerLine 45 = .ok (.iload_n 1, 1) := by decide +kernel
theorem dX7_swallowerLine_46 : decode cX7_swallowerLine 46 = .ok (.aload_n 0, 1) := by decide +kernel
theorem dX7_swallowerLine_47 : decode cX7_swallowerLine 47 = .ok (.getfield 9, 3) := by decide +kernel
theorem dX7_swallowerLine_50 : decode cX7_swallowerLine 50 = .ok (.getfield 99, 3) := by decide +kernel
theorem dX7_swallowerLine_53 : decode cX7_swallowerLine 53 = .ok (.iastore, 1) := by decide +kernel
theorem dX7_swallowerLine_54 : decode cX7_swallowerLine 54 = .ok (.aload_n 0, 1) := by decide +kernel
theorem dX7_swallowerLine_55 : decode cX7_swallowerLine 55 = .ok (.getfield 9, 3) := by decide +kernel
theorem dX7_swallowerLine_58 : decode cX7_swallowerLine 58 = .ok (.invokevirtual 92, 3) := by decide +kernel
theorem dX7_swallowerLine_61 : decode cX7_swallowerLine 61 = .ok (.aload_n 0, 1) := by decide +kernel
theorem dX7_swallowerLine_62 : decode cX7_swallowerLine 62 = .ok (.iconst 0, 1) := by decide +kernel
theorem dX7_swallowerLine_63 : decode cX7_swallowerLine 63 = .ok (.bipush 30, 2) := by decide +kernel
theorem dX7_swallowerLine_65 : decode cX7_swallowerLine 65 = .ok (.invokevirtual 95, 3) := by decide +kernel
theorem dX7_swallowerLine_68 : decode cX7_swallowerLine 68 = .ok (.ifCond .ne 5, 3) := by decide +kernel
theorem dX7_swallowerLine_71 : decode cX7_swallowerLine 71 = .ok (.iconst 0, 1) := by decide +kernel
theorem dX7_swallowerLine_72 : decode cX7_swallowerLine 72 = .ok (.ireturn, 1) := by decide +kernel
theorem dX7_swallowerLine_73 : decode cX7_swallowerLine 73 = .ok (.aload_n 0, 1) := by decide +kernel
theorem dX7_swallowerLine_74 : decode cX7_swallowerLine 74 = .ok (.getfield 15, 3) := by decide +kernel
theorem dX7_swallowerLine_77 : decode cX7_swallowerLine 77 = .ok (.getfield 112, 3) := by decide +kernel
theorem dX7_swallowerLine_80 : decode cX7_swallowerLine 80 = .ok (.iload_n 1, 1) := by decide +kernel
theorem dX7_swallowerLine_81 : decode cX7_swallowerLine 81 = .ok (.aload_n 0, 1) := by decide +kernel
theorem dX7_swallowerLine_82 : decode cX7_swallowerLine 82 = .ok (.getfield 9, 3) := by decide +kernel
theorem dX7_swallowerLine_85 : decode cX7_swallowerLine 85 = .ok (.getfield 99, 3) := by decide +kernel
theorem dX7_swallowerLine_88 : decode cX7_swallowerLine 88 = .ok (.iastore, 1) := by decide +kernel
theorem dX7_swallowerLine_89 : decode cX7_swallowerLine 89 = .ok (.aload_n 0, 1) := by decide +kernel
theorem dX7_swallowerLine_90 : decode cX7_swallowerLine 90 = .ok (.getfield 15, 3) := by decide +kernel
theorem dX7_swallowerLine_93 : decode cX7_swallowerLine 93 = .ok (.dup, 1) := by decide +kernel
theorem dX7_swallowerLine_94 : decode cX7_swallowerLine 94 = .ok (.getfield 106, 3) := by decide +kernel
theorem dX7_swallowerLine_97 : decode cX7_swallowerLine 97 = .ok (.iconst 1, 1) := by decide +kernel
theorem dX7_swallowerLine_98 : decode cX7_swallowerLine 98 = .ok (.iadd, 1) := by decide +kernel
theorem dX7_swallowerLine_99 : decode cX7_swallowerLine 99 = .ok (.putfield 106, 3) := by decide +kernel
theorem dX7_swallowerLine_102 : decode cX7_swallowerLine 102 = .ok (.aload_n 0, 1) := by decide +kernel
theorem dX7_swallowerLine_103 : decode cX7_swallowerLine 103 = .ok (.getfield 9, 3) := by decide +kernel
theorem dX7_swallowerLine_106 : decode cX7_swallowerLine 106 = .ok (.invokevirtual 92, 3) := by decide +kernel
theorem dX7_swallowerLine_109 : decode cX7_swallowerLine 109 = .ok (.iconst 1, 1) := by decide +kernel
theorem dX7_swallowerLine_110 : decode cX7_swallowerLine 110 = .ok (.ireturn, 1) := by decide +kernel
theorem dX7_bladeLine_0 : decode cX7_bladeLine 0 = .ok (.aload_n 0, 1) := by decide +kernel
theorem dX7_bladeLine_1 : decode cX7_bladeLine 1 = .ok (.getfield 15, 3) := by decide +kernel
theorem dX7_bladeLine_4 : decode cX7_bladeLine 4 = .ok (.getfield 115, 3) := by decide +kernel
theorem dX7_bladeLine_7 : decode cX7_bladeLine 7 = .ok (.istore_n 1, 1) := by decide +kernel
theorem dX7_bladeLine_8 : decode cX7_bladeLine 8 = .ok (.iload_n 1, 1) := by decide +kernel
theorem dX7_bladeLine_9 : decode cX7_bladeLine 9 = .ok (.bipush 10, 2) := by decide +kernel
theorem dX7_bladeLine_11 : decode cX7_bladeLine 11 = .ok (.if_icmp .lt 9, 3) := by decide +kernel
theorem dX7_bladeLine_14 : decode cX7_bladeLine 14 = .ok (.aload_n 0, 1) := by decide +kernel
theorem dX7_bladeLine_15 : decode cX7_bladeLine 15 = .ok (.iconst 2, 1) := by decide +kernel
theorem dX7_bladeLine_16 : decode cX7_bladeLine 16 = .ok (.invokevirtual 81, 3) := by decide +kernel
theorem dX7_bladeLine_19 : decode cX7_bladeLine 19 = .ok (.ireturn, 1) := by decide +kernel
theorem dX7_bladeLine_20 : decode cX7_bladeLine 20 = .ok (.aload_n 0, 1) := by decide +kernel
theorem dX7_bladeLine_21 : decode cX7_bladeLine 21 = .ok (.getfield 9, 3) := by decide +kernel
theorem dX7_bladeLine_24 : decode cX7_bladeLine 24 = .ok (.invokevirtual 92, 3) := by decide +kernel
theorem dX7_bladeLine_27 : decode cX7_bladeLine 27 = .ok (.aload_n 0, 1) := by decide +kernel
theorem dX7_bladeLine_28 : decode cX7_bladeLine 28 = .ok (.iconst 0, 1) := by decide +kernel
theorem dX7_bladeLine_29 : decode cX7_bladeLine 29 = .ok (.iconst 5, 1) := by decide +kernel
theorem dX7_bladeLine_30 : decode cX7_bladeLine 30 = .ok (.invokevirtual 95, 3) := by decide +kernel
theorem dX7_bladeLine_33 : decode cX7_bladeLine 33 = .ok (.ifCond .ne 5, 3) := by decide +kernel
theorem dX7_bladeLine_36 : decode cX7_bladeLine 36 = .ok (.iconst 0, 1) := by decide +kernel
theorem dX7_bladeLine_37 : decode cX7_bladeLine 37 = .ok (.ireturn, 1) := by decide +kernel
theorem dX7_bladeLine_38 : decode cX7_bladeLine 38 = .ok (.aload_n 0, 1) := by decide +kernel
theorem dX7_bladeLine_39 : decode cX7_bladeLine 39 = .ok (.getfield 9, 3) := by decide +kernel
theorem dX7_bladeLine_42 : decode cX7_bladeLine 42 = .ok (.getfield 99, 3) := by decide +kernel
theorem dX7_bladeLine_45 : decode cX7_bladeLine 45 = .ok (.istore_n 2, 1) := by decide +kernel
theorem dX7_bladeLine_46 : decode cX7_bladeLine 46 = .ok (.aload_n 0, 1) := by decide +kernel
theorem dX7_bladeLine_47 : decode cX7_bladeLine 47 = .ok (.getfield 9, 3) := by decide +kernel
theorem dX7_bladeLine_50 : decode cX7_bladeLine 50 = .ok (.invokevirtual 92, 3) := by decide +kernel
theorem dX7_bladeLine_53 : decode cX7_bladeLine 53 = .ok (.aload_n 0, 1) := by decide +kernel
theorem dX7_bladeLine_54 : decode cX7_bladeLine 54 = .ok (.iconst 1, 1) := by decide +kernel
theorem dX7_bladeLine_55 : decode cX7_bladeLine 55 = .ok (.bipush 40, 2) := by decide +kernel
theorem dX7_bladeLine_57 : decode cX7_bladeLine 57 = .ok (.invokevirtual 95, 3) := by decide +kernel
theorem dX7_bladeLine_60 : decode cX7_bladeLine 60 = .ok (.ifCond .ne 5, 3) := by decide +kernel
theorem dX7_bladeLine_63 : decode cX7_bladeLine 63 = .ok (.iconst 0, 1) := by decide +kernel
theorem dX7_bladeLine_64 : decode cX7_bladeLine 64 = .ok (.ireturn, 1) := by decide +kernel
theorem dX7_bladeLine_65 : decode cX7_bladeLine 65 = .ok (.aload_n 0, 1) := by decide +kernel
theorem dX7_bladeLine_66 : decode cX7_bladeLine 66 = .ok (.getfield 15, 3) := by decide +kernel
theorem dX7_bladeLine_69 : decode cX7_bladeLine 69 = .ok (.getfield 118, 3) := by decide +kernel
theorem dX7_bladeLine_72 : decode cX7_bladeLine 72 = .ok (.iload_n 1, 1) := by decide +kernel
theorem dX7_bladeLine_73 : decode cX7_bladeLine 73 = .ok (.aload_n 0, 1) := by decide +kernel
theorem dX7_bladeLine_74 : decode cX7_bladeLine 74 = .ok (.getfield 9, 3) := by decide +kernel
theorem dX7_bladeLine_77 : decode cX7_bladeLine 77 = .ok (.getfield 99, 3) := by decide +kernel
theorem dX7_bladeLine_80 : decode cX7_bladeLine 80 = .ok (.iastore, 1) := by decide +kernel
theorem dX7_bladeLine_81 : decode cX7_bladeLine 81 = .ok (.aload_n 0, 1) := by decide +kernel
theorem dX7_bladeLine_82 : decode cX7_bladeLine 82 = .ok (.getfield 9, 3) := by decide +kernel
theorem dX7_bladeLine_85 : decode cX7_bladeLine 85 = .ok (.invokevirtual 92, 3) := by decide +kernel
theorem dX7_bladeLine_88 : decode cX7_bladeLine 88 = .ok (.aload_n 0, 1) := by decide +kernel
theorem dX7_bladeLine_89 : decode cX7_bladeLine 89 = .ok (.iconst 0, 1) := by decide +kernel
theorem dX7_bladeLine_90 : decode cX7_bladeLine 90 = .ok (.bipush 99, 2) := by decide +kernel
theorem dX7_bladeLine_92 : decode cX7_bladeLine 92 = .ok (.invokevirtual 95, 3) := by decide +kernel
theorem dX7_bladeLine_95 : decode cX7_bladeLine 95 = .ok (.ifCond .ne 5, 3) := by decide +kernel
theorem dX7_bladeLine_98 : decode cX7_bladeLine 98 = .ok (.iconst 0, 1) := by decide +kernel
theorem dX7_bladeLine_99 : decode cX7_bladeLine 99 = .ok (.ireturn, 1) := by decide +kernel
theorem dX7_bladeLine_100 : decode cX7_bladeLine 100 = .ok (.aload_n 0, 1) := by decide +kernel
theorem dX7_bladeLine_101 : decode cX7_bladeLine 101 = .ok (.getfield 15, 3) := by decide +kernel
theorem dX7_bladeLine_104 : decode cX7_bladeLine 104 = .ok (.getfield 121, 3) := by decide +kernel
theorem dX7_bladeLine_107 : decode cX7_bladeLine 107 = .ok (.iload_n 1, 1) := by decide +kernel
theorem dX7_bladeLine_108 : decode cX7_bladeLine 108 = .ok (.aload_n 0, 1) := by decide +kernel
theorem dX7_bladeLine_109 : decode cX7_bladeLine 109 = .ok (.getfield 9, 3) := by decide +kernel
theorem dX7_bladeLine_112 : decode cX7_bladeLine 112 = .ok (.getfield 99, 3) := by decide +kernel
theorem dX7_bladeLine_115 : decode cX7_bladeLine 115 = .ok (.iastore, 1) := by decide +kernel
theorem dX7_bladeLine_116 : decode cX7_bladeLine 116 = .ok (.aload_n 0, 1) := by decide +kernel
theorem dX7_bladeLine_117 : decode cX7_bladeLine 117 = .ok (.getfield 15, 3) := by decide +kernel
theorem dX7_bladeLine_120 : decode cX7_bladeLine 120 = .ok (.getfield 124, 3) := by decide +kernel
theorem dX7_bladeLine_123 : decode cX7_bladeLine 123 = .ok (.iload_n 1, 1) := by decide +kernel
theorem dX7_bladeLine_124 : decode cX7_bladeLine 124 = .ok (.iload_n 2, 1) := by decide +kernel
theorem dX7_bladeLine_125 : decode cX7_bladeLine 125 = .ok (.iastore, 1) := by decide +kernel
theorem dX7_bladeLine_126 : decode cX7_bladeLine 126 = .ok (.aload_n 0, 1) := by decide +kernel
theorem dX7_bladeLine_127 : decode cX7_bladeLine 127 = .ok (.getfield 15, 3) := by decide +kernel
theorem dX7_bladeLine_130 : decode cX7_bladeLine 130 = .ok (.getfield 127, 3) := by decide +kernel
theorem dX7_bladeLine_133 : decode cX7_bladeLine 133 = .ok (.iload_n 2, 1) := by decide +kernel
theorem dX7_bladeLine_134 : decode cX7_bladeLine 134 = .ok (.dup2, 1) := by decide +kernel
theorem dX7_bladeLine_135 : decode cX7_bladeLine 135 = .ok (.iaload, 1) := by decide +kernel
theorem dX7_bladeLine_136 : decode cX7_bladeLine 136 = .ok (.iconst 1, 1) := by decide +kernel
theorem dX7_bladeLine_137 : decode cX7_bladeLine 137 = .ok (.iload_n 1, 1) := by decide +kernel
theorem dX7_bladeLine_138 : decode cX7_bladeLine 138 = .ok (.ishl, 1) := by decide +kernel
theorem dX7_bladeLine_139 : decode cX7_bladeLine 139 = .ok (.ior, 1) := by decide +kernel
theorem dX7_bladeLine_140 : decode cX7_bladeLine 140 = .ok (.iastore, 1) := by decide +kernel
theorem dX7_bladeLine_141 : decode cX7_bladeLine 141 = .ok (.aload_n 0, 1) := by decide +kernel
theorem dX7_bladeLine_142 : decode cX7_bladeLine 142 = .ok (.getfield 15, 3) := by decide +kernel
theorem dX7_bladeLine_145 : decode cX7_bladeLine 145 = .ok (.dup, 1) := by decide +kernel
theorem dX7_bladeLine_146 : decode cX7_bladeLine 146 = .ok (.getfield 115, 3) := by decide +kernel
theorem dX7_bladeLine_149 : decode cX7_bladeLine 149 = .ok (.iconst 1, 1) := by decide +kernel
theorem dX7_bladeLine_150 : decode cX7_bladeLine 150 = .ok (.iadd, 1) := by decide +kernel
theorem dX7_bladeLine_151 : decode cX7_bladeLine 151 = .ok (.putfield 115, 3) := by decide +kernel
theorem dX7_bladeLine_154 : decode cX7_bladeLine 154 = .ok (.aload_n 0, 1) := by decide +kernel
theorem dX7_bladeLine_155 : decode cX7_bladeLine 155 = .ok (.getfield 9, 3) := by decide +kernel
theorem dX7_bladeLine_158 : decode cX7_bladeLine 158 = .ok (.invokevirtual 92, 3) := by decide +kernel
theorem dX7_bladeLine_161 : decode cX7_bladeLine 161 = .ok (.iconst 1, 1) := by decide +kernel
theorem dX7_bladeLine_162 : decode cX7_bladeLine 162 = .ok (.ireturn, 1) := by decide +kernel
theorem dX7_patienceLine_0 : decode cX7_patienceLine 0 = .ok (.aload_n 0, 1) := by decide +kernel
theorem dX7_patienceLine_1 : decode cX7_patienceLine 1 = .ok (.getfield 15, 3) := by decide +kernel
theorem dX7_patienceLine_4 : decode cX7_patienceLine 4 = .ok (.getfield 130, 3) := by decide +kernel
theorem dX7_patienceLine_7 : decode cX7_patienceLine 7 = .ok (.ifCond .eq 9, 3) := by decide +kernel
theorem dX7_patienceLine_10 : decode cX7_patienceLine 10 = .ok (.aload_n 0, 1) := by decide +kernel
theorem dX7_patienceLine_11 : decode cX7_patienceLine 11 = .ok (.iconst 5, 1) := by decide +kernel
theorem dX7_patienceLine_12 : decode cX7_patienceLine 12 = .ok (.invokevirtual 81, 3) := by decide +kernel
theorem dX7_patienceLine_15 : decode cX7_patienceLine 15 = .ok (.ireturn, 1) := by decide +kernel
theorem dX7_patienceLine_16 : decode cX7_patienceLine 16 = .ok (.aload_n 0, 1) := by decide +kernel
theorem dX7_patienceLine_17 : decode cX7_patienceLine 17 = .ok (.getfield 9, 3) := by decide +kernel
theorem dX7_patienceLine_20 : decode cX7_patienceLine 20 = .ok (.invokevirtual 92, 3) := by decide +kernel
theorem dX7_patienceLine_23 : decode cX7_patienceLine 23 = .ok (.aload_n 0, 1) := by decide +kernel
theorem dX7_patienceLine_24 : decode cX7_patienceLine 24 = .ok (.iconst 1, 1) := by decide +kernel
theorem dX7_patienceLine_25 : decode cX7_patienceLine 25 = .ok (.bipush 99, 2) := by decide +kernel
theorem dX7_patienceLine_27 : decode cX7_patienceLine 27 = .ok (.invokevirtual 95, 3) := by decide +kernel
theorem dX7_patienceLine_30 : decode cX7_patienceLine 30 = .ok (.ifCond .ne 5, 3) := by decide +kernel
theorem dX7_patienceLine_33 : decode cX7_patienceLine 33 = .ok (.iconst 0, 1) := by decide +kernel
theorem dX7_patienceLine_34 : decode cX7_patienceLine 34 = .ok (.ireturn, 1) := by decide +kernel
theorem dX7_patienceLine_35 : decode cX7_patienceLine 35 = .ok (.aload_n 0, 1) := by decide +kernel
theorem dX7_patienceLine_36 : decode cX7_patienceLine 36 = .ok (.getfield 15, 3) := by decide +kernel
theorem dX7_patienceLine_39 : decode cX7_patienceLine 39 = .ok (.aload_n 0, 1) := by decide +kernel
theorem dX7_patienceLine_40 : decode cX7_patienceLine 40 = .ok (.getfield 9, 3) := by decide +kernel
theorem dX7_patienceLine_43 : decode cX7_patienceLine 43 = .ok (.getfield 99, 3) := by decide +kernel
theorem dX7_patienceLine_46 : decode cX7_patienceLine 46 = .ok (.putfield 134, 3) := by decide +kernel
theorem dX7_patienceLine_49 : decode cX7_patienceLine 49 = .ok (.aload_n 0, 1) := by decide +kernel
theorem dX7_patienceLine_50 : decode cX7_patienceLine 50 = .ok (.getfield 15, 3) := by decide +kernel
theorem dX7_patienceLine_53 : decode cX7_patienceLine 53 = .ok (.iconst 1, 1) := by decide +kernel
theorem dX7_patienceLine_54 : decode cX7_patienceLine 54 = .ok (.putfield 130, 3) := by decide +kernel
theorem dX7_patienceLine_57 : decode cX7_patienceLine 57 = .ok (.aload_n 0, 1) := by decide +kernel
theorem dX7_patienceLine_58 : decode cX7_patienceLine 58 = .ok (.getfield 9, 3) := by decide +kernel
theorem dX7_patienceLine_61 : decode cX7_patienceLine 61 = .ok (.invokevirtual 92, 3) := by decide +kernel
theorem dX7_patienceLine_64 : decode cX7_patienceLine 64 = .ok (.iconst 1, 1) := by decide +kernel
theorem dX7_patienceLine_65 : decode cX7_patienceLine 65 = .ok (.ireturn, 1) := by decide +kernel
theorem dX7_coolsLine_0 : decode cX7_coolsLine 0 = .ok (.aload_n 0, 1) := by decide +kernel
theorem dX7_coolsLine_1 : decode cX7_coolsLine 1 = .ok (.getfield 15, 3) := by decide +kernel
theorem dX7_coolsLine_4 : decode cX7_coolsLine 4 = .ok (.invokevirtual 136, 3) := by decide +kernel
theorem dX7_coolsLine_7 : decode cX7_coolsLine 7 = .ok (.ifCond .eq 9, 3) := by decide +kernel
theorem dX7_coolsLine_10 : decode cX7_coolsLine 10 = .ok (.aload_n 0, 1) := by decide +kernel
theorem dX7_coolsLine_11 : decode cX7_coolsLine 11 = .ok (.iconst 5, 1) := by decide +kernel
theorem dX7_coolsLine_12 : decode cX7_coolsLine 12 = .ok (.invokevirtual 81, 3) := by decide +kernel
theorem dX7_coolsLine_15 : decode cX7_coolsLine 15 = .ok (.ireturn, 1) := by decide +kernel
theorem dX7_coolsLine_16 : decode cX7_coolsLine 16 = .ok (.aload_n 0, 1) := by decide +kernel
theorem dX7_coolsLine_17 : decode cX7_coolsLine 17 = .ok (.getfield 9, 3) := by decide +kernel
theorem dX7_coolsLine_20 : decode cX7_coolsLine 20 = .ok (.invokevirtual 92, 3) := by decide +kernel
theorem dX7_coolsLine_23 : decode cX7_coolsLine 23 = .ok (.aload_n 0, 1) := by decide +kernel
theorem dX7_coolsLine_24 : decode cX7_coolsLine 24 = .ok (.iconst 1, 1) := by decide +kernel
theorem dX7_coolsLine_25 : decode cX7_coolsLine 25 = .ok (.putfield 139, 3) := by decide +kernel
theorem dX7_coolsLine_28 : decode cX7_coolsLine 28 = .ok (.aload_n 0, 1) := by decide +kernel
theorem dX7_coolsLine_29 : decode cX7_coolsLine 29 = .ok (.getfield 15, 3) := by decide +kernel
theorem dX7_coolsLine_32 : decode cX7_coolsLine 32 = .ok (.aload_n 0, 1) := by decide +kernel
theorem dX7_coolsLine_33 : decode cX7_coolsLine 33 = .ok (.getfield 15, 3) := by decide +kernel
theorem dX7_coolsLine_36 : decode cX7_coolsLine 36 = .ok (.getfield 142, 3) := by decide +kernel
theorem dX7_coolsLine_39 : decode cX7_coolsLine 39 = .ok (.putfield 145, 3) := by decide +kernel
theorem dX7_coolsLine_42 : decode cX7_coolsLine 42 = .ok (.aload_n 0, 1) := by decide +kernel
theorem dX7_coolsLine_43 : decode cX7_coolsLine 43 = .ok (.iconst 0, 1) := by decide +kernel
theorem dX7_coolsLine_44 : decode cX7_coolsLine 44 = .ok (.invokevirtual 148, 3) := by decide +kernel
theorem dX7_coolsLine_47 : decode cX7_coolsLine 47 = .ok (.istore_n 1, 1) := by decide +kernel
theorem dX7_coolsLine_48 : decode cX7_coolsLine 48 = .ok (.aload_n 0, 1) := by decide +kernel
theorem dX7_coolsLine_49 : decode cX7_coolsLine 49 = .ok (.getfield 15, 3) := by decide +kernel
theorem dX7_coolsLine_52 : decode cX7_coolsLine 52 = .ok (.aload_n 0, 1) := by decide +kernel
theorem dX7_coolsLine_53 : decode cX7_coolsLine 53 = .ok (.getfield 15, 3) := by decide +kernel
theorem dX7_coolsLine_56 : decode cX7_coolsLine 56 = .ok (.getfield 142, 3) := by decide +kernel
theorem dX7_coolsLine_59 : decode cX7_coolsLine 59 = .ok (.putfield 151, 3) := by decide +kernel
theorem dX7_coolsLine_62 : decode cX7_coolsLine 62 = .ok (.iload_n 1, 1) := by decide +kernel
theorem dX7_coolsLine_63 : decode cX7_coolsLine 63 = .ok (.ireturn, 1) := by decide +kernel
theorem dX7_risesLine_0 : decode cX7_risesLine 0 = .ok (.aload_n 0, 1) := by decide +kernel
theorem dX7_risesLine_1 : decode cX7_risesLine 1 = .ok (.getfield 15, 3) := by decide +kernel
theorem dX7_risesLine_4 : decode cX7_risesLine 4 = .ok (.invokevirtual 154, 3) := by decide +kernel
theorem dX7_risesLine_7 : decode cX7_risesLine 7 = .ok (.ifCond .eq 9, 3) := by decide +kernel
theorem dX7_risesLine_10 : decode cX7_risesLine 10 = .ok (.aload_n 0, 1) := by decide +kernel
theorem dX7_risesLine_11 : decode cX7_risesLine 11 = .ok (.iconst 5, 1) := by decide +kernel
theorem dX7_risesLine_12 : decode cX7_risesLine 12 = .ok (.invokevirtual 81, 3) := by decide +kernel
theorem dX7_risesLine_15 : decode cX7_risesLine 15 = .ok (.ireturn, 1) := by decide +kernel
theorem dX7_risesLine_16 : decode cX7_risesLine 16 = .ok (.aload_n 0, 1) := by decide +kernel
theorem dX7_risesLine_17 : decode cX7_risesLine 17 = .ok (.getfield 9, 3) := by decide +kernel
theorem dX7_risesLine_20 : decode cX7_risesLine 20 = .ok (.invokevirtual 92, 3) := by decide +kernel
theorem dX7_risesLine_23 : decode cX7_risesLine 23 = .ok (.aload_n 0, 1) := by decide +kernel
theorem dX7_risesLine_24 : decode cX7_risesLine 24 = .ok (.iconst 0, 1) := by decide +kernel
theorem dX7_risesLine_25 : decode cX7_risesLine 25 = .ok (.putfield 139, 3) := by decide +kernel
theorem dX7_risesLine_28 : decode cX7_risesLine 28 = .ok (.aload_n 0, 1) := by decide +kernel
theorem dX7_risesLine_29 : decode cX7_risesLine 29 = .ok (.getfield 15, 3) := by decide +kernel
theorem dX7_risesLine_32 : decode cX7_risesLine 32 = .ok (.aload_n 0, 1) := by decide +kernel
theorem dX7_risesLine_33 : decode cX7_risesLine 33 = .ok (.getfield 15, 3) := by decide +kernel
theorem dX7_risesLine_36 : decode cX7_risesLine 36 = .ok (.getfield 142, 3) := by decide +kernel
theorem dX7_risesLine_39 : decode cX7_risesLine 39 = .ok (.putfield 157, 3) := by decide +kernel
theorem dX7_risesLine_42 : decode cX7_risesLine 42 = .ok (.aload_n 0, 1) := by decide +kernel
theorem dX7_risesLine_43 : decode cX7_risesLine 43 = .ok (.iconst 0, 1) := by decide +kernel
theorem dX7_risesLine_44 : decode cX7_risesLine 44 = .ok (.invokevirtual 148, 3) := by decide +kernel
theorem dX7_risesLine_47 : decode cX7_risesLine 47 = .ok (.istore_n 1, 1) := by decide +kernel
theorem dX7_risesLine_48 : decode cX7_risesLine 48 = .ok (.aload_n 0, 1) := by decide +kernel
theorem dX7_risesLine_49 : decode cX7_risesLine 49 = .ok (.getfield 15, 3) := by decide +kernel
theorem dX7_risesLine_52 : decode cX7_risesLine 52 = .ok (.aload_n 0, 1) := by decide +kernel
theorem dX7_risesLine_53 : decode cX7_risesLine 53 = .ok (.getfield 15, 3) := by decide +kernel
theorem dX7_risesLine_56 : decode cX7_risesLine 56 = .ok (.getfield 142, 3) := by decide +kernel
theorem dX7_risesLine_59 : decode cX7_risesLine 59 = .ok (.putfield 160, 3) := by decide +kernel
theorem dX7_risesLine_62 : decode cX7_risesLine 62 = .ok (.iload_n 1, 1) := by decide +kernel
theorem dX7_risesLine_63 : decode cX7_risesLine 63 = .ok (.ireturn, 1) := by decide +kernel
theorem dX7_passSign_0 : decode cX7_passSign 0 = .ok (.aload_n 0, 1) := by decide +kernel
theorem dX7_passSign_1 : decode cX7_passSign 1 = .ok (.getfield 9, 3) := by decide +kernel
theorem dX7_passSign_4 : decode cX7_passSign 4 = .ok (.getfield 34, 3) := by decide +kernel
theorem dX7_passSign_7 : decode cX7_passSign 7 = .ok (.iload_n 1, 1) := by decide +kernel
theorem dX7_passSign_8 : decode cX7_passSign 8 = .ok (.if_icmp .eq 9, 3) := by decide +kernel
theorem dX7_passSign_11 : decode cX7_passSign 11 = .ok (.aload_n 0, 1) := by decide +kernel
theorem dX7_passSign_12 : decode cX7_passSign 12 = .ok (.iconst 1, 1) := by decide +kernel
theorem dX7_passSign_13 : decode cX7_passSign 13 = .ok (.invokevirtual 81, 3) := by decide +kernel
theorem dX7_passSign_16 : decode cX7_passSign 16 = .ok (.ireturn, 1) := by decide +kernel
theorem dX7_passSign_17 : decode cX7_passSign 17 = .ok (.aload_n 0, 1) := by decide +kernel
theorem dX7_passSign_18 : decode cX7_passSign 18 = .ok (.getfield 9, 3) := by decide +kernel
theorem dX7_passSign_21 : decode cX7_passSign 21 = .ok (.invokevirtual 92, 3) := by decide +kernel
theorem dX7_passSign_24 : decode cX7_passSign 24 = .ok (.iconst 1, 1) := by decide +kernel
theorem dX7_passSign_25 : decode cX7_passSign 25 = .ok (.ireturn, 1) := by decide +kernel
theorem dX7_isNumber_0 : decode cX7_isNumber 0 = .ok (.aload_n 0, 1) := by decide +kernel
theorem dX7_isNumber_1 : decode cX7_isNumber 1 = .ok (.getfield 9, 3) := by decide +kernel
theorem dX7_isNumber_4 : decode cX7_isNumber 4 = .ok (.getfield 34, 3) := by decide +kernel
theorem dX7_isNumber_7 : decode cX7_isNumber 7 = .ok (.iconst 2, 1) := by decide +kernel
theorem dX7_isNumber_8 : decode cX7_isNumber 8 = .ok (.if_icmp .eq 9, 3) := by decide +kernel
theorem dX7_isNumber_11 : decode cX7_isNumber 11 = .ok (.aload_n 0, 1) := by decide +kernel
theorem dX7_isNumber_12 : decode cX7_isNumber 12 = .ok (.iconst 1, 1) := by decide +kernel
theorem dX7_isNumber_13 : decode cX7_isNumber 13 = .ok (.invokevirtual 81, 3) := by decide +kernel
theorem dX7_isNumber_16 : decode cX7_isNumber 16 = .ok (.ireturn, 1) := by decide +kernel
theorem dX7_isNumber_17 : decode cX7_isNumber 17 = .ok (.aload_n 0, 1) := by decide +kernel
theorem dX7_isNumber_18 : decode cX7_isNumber 18 = .ok (.getfield 9, 3) := by decide +kernel
theorem dX7_isNumber_21 : decode cX7_isNumber 21 = .ok (.getfield 99, 3) := by decide +kernel
theorem dX7_isNumber_24 : decode cX7_isNumber 24 = .ok (.iload_n 1, 1) := by decide +kernel
theorem dX7_isNumber_25 : decode cX7_isNumber 25 = .ok (.if_icmp .lt 14, 3) := by decide +kernel
theorem dX7_isNumber_28 : decode cX7_isNumber 28 = .ok (.aload_n 0, 1) := by decide +kernel
theorem dX7_isNumber_29 : decode cX7_isNumber 29 = .ok (.getfield 9, 3) := by decide +kernel
theorem dX7_isNumber_32 : decode cX7_isNumber 32 = .ok (.getfield 99, 3) := by decide +kernel
theorem dX7_isNumber_35 : decode cX7_isNumber 35 = .ok (.iload_n 2, 1) := by decide +kernel
theorem dX7_isNumber_36 : decode cX7_isNumber 36 = .ok (.if_icmp .le 9, 3) := by decide +kernel
theorem dX7_isNumber_39 : decode cX7_isNumber 39 = .ok (.aload_n 0, 1) := by decide +kernel
theorem dX7_isNumber_40 : decode cX7_isNumber 40 = .ok (.iconst 2, 1) := by decide +kernel
theorem dX7_isNumber_41 : decode cX7_isNumber 41 = .ok (.invokevirtual 81, 3) := by decide +kernel
theorem dX7_isNumber_44 : decode cX7_isNumber 44 = .ok (.ireturn, 1) := by decide +kernel
theorem dX7_isNumber_45 : decode cX7_isNumber 45 = .ok (.iconst 1, 1) := by decide +kernel
theorem dX7_isNumber_46 : decode cX7_isNumber 46 = .ok (.ireturn, 1) := by decide +kernel
theorem dX7_either_0 : decode cX7_either 0 = .ok (.iload_n 1, 1) := by decide +kernel
theorem dX7_either_1 : decode cX7_either 1 = .ok (.iconst 5, 1) := by decide +kernel
theorem dX7_either_2 : decode cX7_either 2 = .ok (.if_icmp .le 20, 3) := by decide +kernel
theorem dX7_either_5 : decode cX7_either 5 = .ok (.aload_n 0, 1) := by decide +kernel
theorem dX7_either_6 : decode cX7_either 6 = .ok (.aload_n 0, 1) := by decide +kernel
theorem dX7_either_7 : decode cX7_either 7 = .ok (.invokevirtual 163, 3) := by decide +kernel
theorem dX7_either_10 : decode cX7_either 10 = .ok (.ifCond .eq 7, 3) := by decide +kernel
theorem dX7_either_13 : decode cX7_either 13 = .ok (.iconst 2, 1) := by decide +kernel
theorem dX7_either_14 : decode cX7_either 14 = .ok (.goto 4, 3) := by decide +kernel
theorem dX7_either_17 : decode cX7_either 17 = .ok (.iconst 1, 1) := by decide +kernel
theorem dX7_either_18 : decode cX7_either 18 = .ok (.invokevirtual 81, 3) := by decide +kernel
theorem dX7_either_21 : decode cX7_either 21 = .ok (.ireturn, 1) := by decide +kernel
theorem dX7_either_22 : decode cX7_either 22 = .ok (.aload_n 0, 1) := by decide +kernel
theorem dX7_either_23 : decode cX7_either 23 = .ok (.iload_n 1, 1) := by decide +kernel
theorem dX7_either_24 : decode cX7_either 24 = .ok (.invokevirtual 166, 3) := by decide +kernel
theorem dX7_either_27 : decode cX7_either 27 = .ok (.istore_n 2, 1) := by decide +kernel
theorem dX7_either_28 : decode cX7_either 28 = .ok (.iconst 0, 1) := by decide +kernel
theorem dX7_either_29 : decode cX7_either 29 = .ok (.istore_n 3, 1) := by decide +kernel
theorem dX7_either_30 : decode cX7_either 30 = .ok (.iload_n 3, 1) := by decide +kernel
theorem dX7_either_31 : decode cX7_either 31 = .ok (.sipush 700, 3) := by decide +kernel
theorem dX7_either_34 : decode cX7_either 34 = .ok (.if_icmp .ge 47, 3) := by decide +kernel
theorem dX7_either_37 : decode cX7_either 37 = .ok (.iload_n 2, 1) := by decide +kernel
theorem dX7_either_38 : decode cX7_either 38 = .ok (.ifCond .eq 43, 3) := by decide +kernel
theorem dX7_either_41 : decode cX7_either 41 = .ok (.aload_n 0, 1) := by decide +kernel
theorem dX7_either_42 : decode cX7_either 42 = .ok (.getfield 9, 3) := by decide +kernel
theorem dX7_either_45 : decode cX7_either 45 = .ok (.ldc 169, 2) := by decide +kernel
theorem dX7_either_47 : decode cX7_either 47 = .ok (.invokevirtual 49, 3) := by decide +kernel
theorem dX7_either_50 : decode cX7_either 50 = .ok (.ifCond .eq 31, 3) := by decide +kernel
theorem dX7_either_53 : decode cX7_either 53 = .ok (.aload_n 0, 1) := by decide +kernel
theorem dX7_either_54 : decode cX7_either 54 = .ok (.getfield 9, 3) := by decide +kernel
theorem dX7_either_57 : decode cX7_either 57 = .ok (.invokevirtual 92, 3) := by decide +kernel
theorem dX7_either_60 : decode cX7_either 60 = .ok (.aload_n 0, 1) := by decide +kernel
theorem dX7_either_61 : decode cX7_either 61 = .ok (.iload_n 1, 1) := by decide +kernel
theorem dX7_either_62 : decode cX7_either 62 = .ok (.invokevirtual 166, 3) := by decide +kernel
theorem dX7_either_65 : decode cX7_either 65 = .ok (.istore_n 2, 1) := by decide +kernel
theorem dX7_either_66 : decode cX7_either 66 = .ok (.aload_n 0, 1) := by decide +kernel
theorem dX7_either_67 : decode cX7_either 67 = .ok (.getfield 15, 3) := by decide +kernel
theorem dX7_either_70 : decode cX7_either 70 = .ok (.bipush (-15), 2) := by decide +kernel
theorem dX7_either_72 : decode cX7_either 72 = .ok (.invokevirtual 173, 3) := by decide +kernel
theorem dX7_either_75 : decode cX7_either 75 = .ok (.iinc 3 1, 3) := by decide +kernel
theorem dX7_either_78 : decode cX7_either 78 = .ok (.goto (-48), 3) := by decide +kernel
theorem dX7_either_81 : decode cX7_either 81 = .ok (.iload_n 2, 1) := by decide +kernel
theorem dX7_either_82 : decode cX7_either 82 = .ok (.ireturn, 1) := by decide +kernel
theorem dX7_partMayStart_0 : decode cX7_partMayStart 0 = .ok (.aload_n 0, 1) := by decide +kernel
theorem dX7_partMayStart_1 : decode cX7_partMayStart 1 = .ok (.getfield 9, 3) := by decide +kernel
theorem dX7_partMayStart_4 : decode cX7_partMayStart 4 = .ok (.getfield 34, 3) := by decide +kernel
theorem dX7_partMayStart_7 : decode cX7_partMayStart 7 = .ok (.iconst 2, 1) := by decide +kernel
theorem dX7_partMayStart_8 : decode cX7_partMayStart 8 = .ok (.if_icmp .eq 26, 3) := by decide +kernel
theorem dX7_partMayStart_11 : decode cX7_partMayStart 11 = .ok (.aload_n 0, 1) := by decide +kernel
theorem dX7_partMayStart_12 : decode cX7_partMayStart 12 = .ok (.getfield 9, 3) := by decide +kernel
theorem dX7_partMayStart_15 : decode cX7_partMayStart 15 = .ok (.getfield 34, 3) := by decide +kernel
theorem dX7_partMayStart_18 : decode cX7_partMayStart 18 = .ok (.iconst 1, 1) := by decide +kernel
theorem dX7_partMayStart_19 : decode cX7_partMayStart 19 = .ok (.if_icmp .eq 15, 3) := by decide +kernel
theorem dX7_partMayStart_22 : decode cX7_partMayStart 22 = .ok (.aload_n 0, 1) := by decide +kernel
theorem dX7_partMayStart_23 : decode cX7_partMayStart 23 = .ok (.getfield 9, 3) := by decide +kernel
theorem dX7_partMayStart_26 : decode cX7_partMayStart 26 = .ok (.getfield 34, 3) := by decide +kernel
theorem dX7_partMayStart_29 : decode cX7_partMayStart 29 = .ok (.bipush 40, 2) := by decide +kernel
theorem dX7_partMayStart_31 : decode cX7_partMayStart 31 = .ok (.if_icmp .ne 7, 3) := by decide +kernel
theorem dX7_partMayStart_34 : decode cX7_partMayStart 34 = .ok (.iconst 1, 1) := by decide +kernel
theorem dX7_partMayStart_35 : decode cX7_partMayStart 35 = .ok (.goto 4, 3) := by decide +kernel
theorem dX7_partMayStart_38 : decode cX7_partMayStart 38 = .ok (.iconst 0, 1) := by decide +kernel
theorem dX7_partMayStart_39 : decode cX7_partMayStart 39 = .ok (.ireturn, 1) := by decide +kernel
theorem dX7_both_0 : decode cX7_both 0 = .ok (.aload_n 0, 1) := by decide +kernel
theorem dX7_both_1 : decode cX7_both 1 = .ok (.iload_n 1, 1) := by decide +kernel
theorem dX7_both_2 : decode cX7_both 2 = .ok (.invokevirtual 176, 3) := by decide +kernel
theorem dX7_both_5 : decode cX7_both 5 = .ok (.istore_n 2, 1) := by decide +kernel
theorem dX7_both_6 : decode cX7_both 6 = .ok (.iconst 0, 1) := by decide +kernel
theorem dX7_both_7 : decode cX7_both 7 = .ok (.istore_n 3, 1) := by decide +kernel
theorem dX7_both_8 : decode cX7_both 8 = .ok (.iload_n 3, 1) := by decide +kernel
theorem dX7_both_9 : decode cX7_both 9 = .ok (.sipush 700, 3) := by decide +kernel
theorem dX7_both_12 : decode cX7_both 12 = .ok (.if_icmp .ge 47, 3) := by decide +kernel
theorem dX7_both_15 : decode cX7_both 15 = .ok (.iload_n 2, 1) := by decide +kernel
theorem dX7_both_16 : decode cX7_both 16 = .ok (.ifCond .eq 43, 3) := by decide +kernel
theorem dX7_both_19 : decode cX7_both 19 = .ok (.aload_n 0, 1) := by decide +kernel
theorem dX7_both_20 : decode cX7_both 20 = .ok (.getfield 9, 3) := by decide +kernel
theorem dX7_both_23 : decode cX7_both 23 = .ok (.ldc 179, 2) := by decide +kernel
theorem dX7_both_25 : decode cX7_both 25 = .ok (.invokevirtual 49, 3) := by decide +kernel
theorem dX7_both_28 : decode cX7_both 28 = .ok (.ifCond .eq 31, 3) := by decide +kernel
theorem dX7_both_31 : decode cX7_both 31 = .ok (.aload_n 0, 1) := by decide +kernel
theorem dX7_both_32 : decode cX7_both 32 = .ok (.getfield 9, 3) := by decide +kernel
theorem dX7_both_35 : decode cX7_both 35 = .ok (.invokevirtual 92, 3) := by decide +kernel
theorem dX7_both_38 : decode cX7_both 38 = .ok (.aload_n 0, 1) := by decide +kernel
theorem dX7_both_39 : decode cX7_both 39 = .ok (.iload_n 1, 1) := by decide +kernel
theorem dX7_both_40 : decode cX7_both 40 = .ok (.invokevirtual 176, 3) := by decide +kernel
theorem dX7_both_43 : decode cX7_both 43 = .ok (.istore_n 2, 1) := by decide +kernel
theorem dX7_both_44 : decode cX7_both 44 = .ok (.aload_n 0, 1) := by decide +kernel
theorem dX7_both_45 : decode cX7_both 45 = .ok (.getfield 15, 3) := by decide +kernel
theorem dX7_both_48 : decode cX7_both 48 = .ok (.bipush (-14), 2) := by decide +kernel
theorem dX7_both_50 : decode cX7_both 50 = .ok (.invokevirtual 173, 3) := by decide +kernel
theorem dX7_both_53 : decode cX7_both 53 = .ok (.iinc 3 1, 3) := by decide +kernel
theorem dX7_both_56 : decode cX7_both 56 = .ok (.goto (-48), 3) := by decide +kernel
theorem dX7_both_59 : decode cX7_both 59 = .ok (.iload_n 2, 1) := by decide +kernel
theorem dX7_both_60 : decode cX7_both 60 = .ok (.ireturn, 1) := by decide +kernel
theorem dX7_perhapsNot_0 : decode cX7_perhapsNot 0 = .ok (.iconst 0, 1) := by decide +kernel
theorem dX7_perhapsNot_1 : decode cX7_perhapsNot 1 = .ok (.istore_n 2, 1) := by decide +kernel
theorem dX7_perhapsNot_2 : decode cX7_perhapsNot 2 = .ok (.iconst 0, 1) := by decide +kernel
theorem dX7_perhapsNot_3 : decode cX7_perhapsNot 3 = .ok (.istore_n 3, 1) := by decide +kernel
theorem dX7_perhapsNot_4 : decode cX7_perhapsNot 4 = .ok (.iload_n 3, 1) := by decide +kernel
theorem dX7_perhapsNot_5 : decode cX7_perhapsNot 5 = .ok (.bipush 6, 2) := by decide +kernel
theorem dX7_perhapsNot_7 : decode cX7_perhapsNot 7 = .ok (.if_icmp .ge 31, 3) := by decide +kernel
theorem dX7_perhapsNot_10 : decode cX7_perhapsNot 10 = .ok (.aload_n 0, 1) := by decide +kernel
theorem dX7_perhapsNot_11 : decode cX7_perhapsNot 11 = .ok (.getfield 9, 3) := by decide +kernel
theorem dX7_perhapsNot_14 : decode cX7_perhapsNot 14 = .ok (.ldc 181, 2) := by decide +kernel
theorem dX7_perhapsNot_16 : decode cX7_perhapsNot 16 = .ok (.invokevirtual 49, 3) := by decide +kernel
theorem dX7_perhapsNot_19 : decode cX7_perhapsNot 19 = .ok (.ifCond .eq 19, 3) := by decide +kernel
theorem dX7_perhapsNot_22 : decode cX7_perhapsNot 22 = .ok (.aload_n 0, 1) := by decide +kernel
theorem dX7_perhapsNot_23 : decode cX7_perhapsNot 23 = .ok (.getfield 9, 3) := by decide +kernel
theorem dX7_perhapsNot_26 : decode cX7_perhapsNot 26 = .ok (.invokevirtual 92, 3) := by decide +kernel
theorem dX7_perhapsNot_29 : decode cX7_perhapsNot 29 = .ok (.iinc 2 1, 3) := by decide +kernel
theorem dX7_perhapsNot_32 : decode cX7_perhapsNot 32 = .ok (.iinc 3 1, 3) := by decide +kernel
theorem dX7_perhapsNot_35 : decode cX7_perhapsNot 35 = .ok (.goto (-31), 3) := by decide +kernel
theorem dX7_perhapsNot_38 : decode cX7_perhapsNot 38 = .ok (.iload_n 2, 1) := by decide +kernel
theorem dX7_perhapsNot_39 : decode cX7_perhapsNot 39 = .ok (.bipush 6, 2) := by decide +kernel
theorem dX7_perhapsNot_41 : decode cX7_perhapsNot 41 = .ok (.if_icmp .ne 21, 3) := by decide +kernel
theorem dX7_perhapsNot_44 : decode cX7_perhapsNot 44 = .ok (.aload_n 0, 1) := by decide +kernel
theorem dX7_perhapsNot_45 : decode cX7_perhapsNot 45 = .ok (.getfield 9, 3) := by decide +kernel
theorem dX7_perhapsNot_48 : decode cX7_perhapsNot 48 = .ok (.ldc 181, 2) := by decide +kernel
theorem dX7_perhapsNot_50 : decode cX7_perhapsNot 50 = .ok (.invokevirtual 49, 3) := by decide +kernel
theorem dX7_perhapsNot_53 : decode cX7_perhapsNot 53 = .ok (.ifCond .eq 9, 3) := by decide +kernel
theorem dX7_perhapsNot_56 : decode cX7_perhapsNot 56 = .ok (.aload_n 0, 1) := by decide +kernel
theorem dX7_perhapsNot_57 : decode cX7_perhapsNot 57 = .ok (.iconst 2, 1) := by decide +kernel
theorem dX7_perhapsNot_58 : decode cX7_perhapsNot 58 = .ok (.invokevirtual 81, 3) := by decide +kernel
theorem dX7_perhapsNot_61 : decode cX7_perhapsNot 61 = .ok (.ireturn, 1) := by decide +kernel
theorem dX7_perhapsNot_62 : decode cX7_perhapsNot 62 = .ok (.aload_n 0, 1) := by decide +kernel
theorem dX7_perhapsNot_63 : decode cX7_perhapsNot 63 = .ok (.iload_n 1, 1) := by decide +kernel
theorem dX7_perhapsNot_64 : decode cX7_perhapsNot 64 = .ok (.invokevirtual 183, 3) := by decide +kernel
theorem dX7_perhapsNot_67 : decode cX7_perhapsNot 67 = .ok (.istore_n 3, 1) := by decide +kernel
theorem dX7_perhapsNot_68 : decode cX7_perhapsNot 68 = .ok (.iconst 0, 1) := by decide +kernel
theorem dX7_perhapsNot_69 : decode cX7_perhapsNot 69 = .ok (.istore 4, 2) := by decide +kernel
theorem dX7_perhapsNot_71 : decode cX7_perhapsNot 71 = .ok (.iload 4, 2) := by decide +kernel
theorem dX7_perhapsNot_73 : decode cX7_perhapsNot 73 = .ok (.iload_n 2, 1) := by decide +kernel
theorem dX7_perhapsNot_74 : decode cX7_perhapsNot 74 = .ok (.if_icmp .ge 18, 3) := by decide +kernel
theorem dX7_perhapsNot_77 : decode cX7_perhapsNot 77 = .ok (.aload_n 0, 1) := by decide +kernel
theorem dX7_perhapsNot_78 : decode cX7_perhapsNot 78 = .ok (.getfield 15, 3) := by decide +kernel
theorem dX7_perhapsNot_81 : decode cX7_perhapsNot 81 = .ok (.bipush (-13), 2) := by decide +kernel
theorem dX7_perhapsNot_83 : decode cX7_perhapsNot 83 = .ok (.invokevirtual 173, 3) := by decide +kernel
theorem dX7_perhapsNot_86 : decode cX7_perhapsNot 86 = .ok (.iinc 4 1, 3) := by decide +kernel
theorem dX7_perhapsNot_89 : decode cX7_perhapsNot 89 = .ok (.goto (-18), 3) := by decide +kernel
theorem dX7_perhapsNot_92 : decode cX7_perhapsNot 92 = .ok (.iload_n 3, 1) := by decide +kernel
theorem dX7_perhapsNot_93 : decode cX7_perhapsNot 93 = .ok (.ireturn, 1) := by decide +kernel
theorem dX7_test_0 : decode cX7_test 0 = .ok (.aload_n 0, 1) := by decide +kernel
theorem dX7_test_1 : decode cX7_test 1 = .ok (.iload_n 1, 1) := by decide +kernel
theorem dX7_test_2 : decode cX7_test 2 = .ok (.invokevirtual 186, 3) := by decide +kernel
theorem dX7_test_5 : decode cX7_test 5 = .ok (.ifCond .ne 5, 3) := by decide +kernel
theorem dX7_test_8 : decode cX7_test 8 = .ok (.iconst 0, 1) := by decide +kernel
theorem dX7_test_9 : decode cX7_test 9 = .ok (.ireturn, 1) := by decide +kernel
theorem dX7_test_10 : decode cX7_test 10 = .ok (.aload_n 0, 1) := by decide +kernel
theorem dX7_test_11 : decode cX7_test 11 = .ok (.getfield 9, 3) := by decide +kernel
theorem dX7_test_14 : decode cX7_test 14 = .ok (.getfield 34, 3) := by decide +kernel
theorem dX7_test_17 : decode cX7_test 17 = .ok (.istore_n 2, 1) := by decide +kernel
theorem dX7_test_18 : decode cX7_test 18 = .ok (.iload_n 2, 1) := by decide +kernel
theorem dX7_test_19 : decode cX7_test 19 = .ok (.bipush 60, 2) := by decide +kernel
theorem dX7_test_21 : decode cX7_test 21 = .ok (.if_icmp .eq 11, 3) := by decide +kernel
theorem dX7_test_24 : decode cX7_test 24 = .ok (.iload_n 2, 1) := by decide +kernel
theorem dX7_test_25 : decode cX7_test 25 = .ok (.bipush 61, 2) := by decide +kernel
theorem dX7_test_27 : decode cX7_test 27 = .ok (.if_icmp .eq 5, 3) := by decide +kernel
theorem dX7_test_30 : decode cX7_test 30 = .ok (.iconst 1, 1) := by decide +kernel
theorem dX7_test_31 : decode cX7_test 31 = .ok (.ireturn, 1) := by decide +kernel
theorem dX7_test_32 : decode cX7_test 32 = .ok (.aload_n 0, 1) := by decide +kernel
theorem dX7_test_33 : decode cX7_test 33 = .ok (.getfield 9, 3) := by decide +kernel
theorem dX7_test_36 : decode cX7_test 36 = .ok (.invokevirtual 92, 3) := by decide +kernel
theorem dX7_test_39 : decode cX7_test 39 = .ok (.aload_n 0, 1) := by decide +kernel
theorem dX7_test_40 : decode cX7_test 40 = .ok (.iload_n 1, 1) := by decide +kernel
theorem dX7_test_41 : decode cX7_test 41 = .ok (.invokevirtual 186, 3) := by decide +kernel
theorem dX7_test_44 : decode cX7_test 44 = .ok (.istore_n 3, 1) := by decide +kernel
theorem dX7_test_45 : decode cX7_test 45 = .ok (.aload_n 0, 1) := by decide +kernel
theorem dX7_test_46 : decode cX7_test 46 = .ok (.getfield 15, 3) := by decide +kernel
theorem dX7_test_49 : decode cX7_test 49 = .ok (.iload_n 2, 1) := by decide +kernel
theorem dX7_test_50 : decode cX7_test 50 = .ok (.bipush 60, 2) := by decide +kernel
theorem dX7_test_52 : decode cX7_test 52 = .ok (.if_icmp .ne 8, 3) := by decide +kernel
theorem dX7_test_55 : decode cX7_test 55 = .ok (.bipush (-11), 2) := by decide +kernel
theorem dX7_test_57 : decode cX7_test 57 = .ok (.goto 5, 3) := by decide +kernel
theorem dX7_test_60 : decode cX7_test 60 = .ok (.bipush (-12), 2) := by decide +kernel
theorem dX7_test_62 : decode cX7_test 62 = .ok (.invokevirtual 173, 3) := by decide +kernel
theorem dX7_test_65 : decode cX7_test 65 = .ok (.iload_n 3, 1) := by decide +kernel
theorem dX7_test_66 : decode cX7_test 66 = .ok (.ireturn, 1) := by decide +kernel
theorem dX7_sum_0 : decode cX7_sum 0 = .ok (.aload_n 0, 1) := by decide +kernel
theorem dX7_sum_1 : decode cX7_sum 1 = .ok (.iload_n 1, 1) := by decide +kernel
theorem dX7_sum_2 : decode cX7_sum 2 = .ok (.invokevirtual 189, 3) := by decide +kernel
theorem dX7_sum_5 : decode cX7_sum 5 = .ok (.istore_n 2, 1) := by decide +kernel
theorem dX7_sum_6 : decode cX7_sum 6 = .ok (.iconst 0, 1) := by decide +kernel
theorem dX7_sum_7 : decode cX7_sum 7 = .ok (.istore_n 3, 1) := by decide +kernel
theorem dX7_sum_8 : decode cX7_sum 8 = .ok (.iload_n 3, 1) := by decide +kernel
theorem dX7_sum_9 : decode cX7_sum 9 = .ok (.sipush 700, 3) := by decide +kernel
theorem dX7_sum_12 : decode cX7_sum 12 = .ok (.if_icmp .ge 80, 3) := by decide +kernel
theorem dX7_sum_15 : decode cX7_sum 15 = .ok (.iload_n 2, 1) := by decide +kernel
theorem dX7_sum_16 : decode cX7_sum 16 = .ok (.ifCond .eq 76, 3) := by decide +kernel
theorem dX7_sum_19 : decode cX7_sum 19 = .ok (.aload_n 0, 1) := by decide +kernel
theorem dX7_sum_20 : decode cX7_sum 20 = .ok (.getfield 9, 3) := by decide +kernel
theorem dX7_sum_23 : decode cX7_sum 23 = .ok (.getfield 34, 3) := by decide +kernel
theorem dX7_sum_26 : decode cX7_sum 26 = .ok (.bipush 43, 2) := by decide +kernel
theorem dX7_sum_28 : decode cX7_sum 28 = .ok (.if_icmp .eq 15, 3) := by decide +kernel
theorem dX7_sum_31 : decode cX7_sum 31 = .ok (.aload_n 0, 1) := by decide +kernel
theorem dX7_sum_32 : decode cX7_sum 32 = .ok (.getfield 9, 3) := by decide +kernel
theorem dX7_sum_35 : decode cX7_sum 35 = .ok (.getfield 34, 3) := by decide +kernel
theorem dX7_sum_38 : decode cX7_sum 38 = .ok (.bipush 45, 2) := by decide +kernel
theorem dX7_sum_40 : decode cX7_sum 40 = .ok (.if_icmp .ne 52, 3) := by decide +kernel
theorem dX7_sum_43 : decode cX7_sum 43 = .ok (.aload_n 0, 1) := by decide +kernel
theorem dX7_sum_44 : decode cX7_sum 44 = .ok (.getfield 9, 3) := by decide +kernel
theorem dX7_sum_47 : decode cX7_sum 47 = .ok (.getfield 34, 3) := by decide +kernel
theorem dX7_sum_50 : decode cX7_sum 50 = .ok (.bipush 43, 2) := by decide +kernel
theorem dX7_sum_52 : decode cX7_sum 52 = .ok (.if_icmp .ne 8, 3) := by decide +kernel
theorem dX7_sum_55 : decode cX7_sum 55 = .ok (.bipush (-7), 2) := by decide +kernel
theorem dX7_sum_57 : decode cX7_sum 57 = .ok (.goto 5, 3) := by decide +kernel
theorem dX7_sum_60 : decode cX7_sum 60 = .ok (.bipush (-8), 2) := by decide +kernel
theorem dX7_sum_62 : decode cX7_sum 62 = .ok (.istore 4, 2) := by decide +kernel
theorem dX7_sum_64 : decode cX7_sum 64 = .ok (.aload_n 0, 1) := by decide +kernel
theorem dX7_sum_65 : decode cX7_sum 65 = .ok (.getfield 9, 3) := by decide +kernel
theorem dX7_sum_68 : decode cX7_sum 68 = .ok (.invokevirtual 92, 3) := by decide +kernel
theorem dX7_sum_71 : decode cX7_sum 71 = .ok (.aload_n 0, 1) := by decide +kernel
theorem dX7_sum_72 : decode cX7_sum 72 = .ok (.iload_n 1, 1) := by decide +kernel
theorem dX7_sum_73 : decode cX7_sum 73 = .ok (.invokevirtual 189, 3) := by decide +kernel
theorem dX7_sum_76 : decode cX7_sum 76 = .ok (.istore_n 2, 1) := by decide +kernel
theorem dX7_sum_77 : decode cX7_sum 77 = .ok (.aload_n 0, 1) := by decide +kernel
theorem dX7_sum_78 : decode cX7_sum 78 = .ok (.getfield 15, 3) := by decide +kernel
theorem dX7_sum_81 : decode cX7_sum 81 = .ok (.iload 4, 2) := by decide +kernel
theorem dX7_sum_83 : decode cX7_sum 83 = .ok (.invokevirtual 173, 3) := by decide +kernel
theorem dX7_sum_86 : decode cX7_sum 86 = .ok (.iinc 3 1, 3) := by decide +kernel
theorem dX7_sum_89 : decode cX7_sum 89 = .ok (.goto (-81), 3) := by decide +kernel
theorem dX7_sum_92 : decode cX7_sum 92 = .ok (.iload_n 2, 1) := by decide +kernel
theorem dX7_sum_93 : decode cX7_sum 93 = .ok (.ireturn, 1) := by decide +kernel
theorem dX7_product_0 : decode cX7_product 0 = .ok (.aload_n 0, 1) := by decide +kernel
theorem dX7_product_1 : decode cX7_product 1 = .ok (.iload_n 1, 1) := by decide +kernel
theorem dX7_product_2 : decode cX7_product 2 = .ok (.invokevirtual 192, 3) := by decide +kernel
theorem dX7_product_5 : decode cX7_product 5 = .ok (.istore_n 2, 1) := by decide +kernel
theorem dX7_product_6 : decode cX7_product 6 = .ok (.iconst 0, 1) := by decide +kernel
theorem dX7_product_7 : decode cX7_product 7 = .ok (.istore_n 3, 1) := by decide +kernel
theorem dX7_product_8 : decode cX7_product 8 = .ok (.iload_n 3, 1) := by decide +kernel
theorem dX7_product_9 : decode cX7_product 9 = .ok (.sipush 700, 3) := by decide +kernel
theorem dX7_product_12 : decode cX7_product 12 = .ok (.if_icmp .ge 80, 3) := by decide +kernel
theorem dX7_product_15 : decode cX7_product 15 = .ok (.iload_n 2, 1) := by decide +kernel
theorem dX7_product_16 : decode cX7_product 16 = .ok (.ifCond .eq 76, 3) := by decide +kernel
theorem dX7_product_19 : decode cX7_product 19 = .ok (.aload_n 0, 1) := by decide +kernel
theorem dX7_product_20 : decode cX7_product 20 = .ok (.getfield 9, 3) := by decide +kernel
theorem dX7_product_23 : decode cX7_product 23 = .ok (.getfield 34, 3) := by decide +kernel
theorem dX7_product_26 : decode cX7_product 26 = .ok (.bipush 42, 2) := by decide +kernel
theorem dX7_product_28 : decode cX7_product 28 = .ok (.if_icmp .eq 15, 3) := by decide +kernel
theorem dX7_product_31 : decode cX7_product 31 = .ok (.aload_n 0, 1) := by decide +kernel
theorem dX7_product_32 : decode cX7_product 32 = .ok (.getfield 9, 3) := by decide +kernel
theorem dX7_product_35 : decode cX7_product 35 = .ok (.getfield 34, 3) := by decide +kernel
theorem dX7_product_38 : decode cX7_product 38 = .ok (.bipush 47, 2) := by decide +kernel
theorem dX7_product_40 : decode cX7_product 40 = .ok (.if_icmp .ne 52, 3) := by decide +kernel
theorem dX7_product_43 : decode cX7_product 43 = .ok (.aload_n 0, 1) := by decide +kernel
theorem dX7_product_44 : decode cX7_product 44 = .ok (.getfield 9, 3) := by decide +kernel
theorem dX7_product_47 : decode cX7_product 47 = .ok (.getfield 34, 3) := by decide +kernel
theorem dX7_product_50 : decode cX7_product 50 = .ok (.bipush 42, 2) := by decide +kernel
theorem dX7_product_52 : decode cX7_product 52 = .ok (.if_icmp .ne 8, 3) := by decide +kernel
theorem dX7_product_55 : decode cX7_product 55 = .ok (.bipush (-9), 2) := by decide +kernel
theorem dX7_product_57 : decode cX7_product 57 = .ok (.goto 5, 3) := by decide +kernel
theorem dX7_product_60 : decode cX7_product 60 = .ok (.bipush (-10), 2) := by decide +kernel
theorem dX7_product_62 : decode cX7_product 62 = .ok (.istore 4, 2) := by decide +kernel
theorem dX7_product_64 : decode cX7_product 64 = .ok (.aload_n 0, 1) := by decide +kernel
theorem dX7_product_65 : decode cX7_product 65 = .ok (.getfield 9, 3) := by decide +kernel
theorem dX7_product_68 : decode cX7_product 68 = .ok (.invokevirtual 92, 3) := by decide +kernel
theorem dX7_product_71 : decode cX7_product 71 = .ok (.aload_n 0, 1) := by decide +kernel
theorem dX7_product_72 : decode cX7_product 72 = .ok (.iload_n 1, 1) := by decide +kernel
theorem dX7_product_73 : decode cX7_product 73 = .ok (.invokevirtual 192, 3) := by decide +kernel
theorem dX7_product_76 : decode cX7_product 76 = .ok (.istore_n 2, 1) := by decide +kernel
theorem dX7_product_77 : decode cX7_product 77 = .ok (.aload_n 0, 1) := by decide +kernel
theorem dX7_product_78 : decode cX7_product 78 = .ok (.getfield 15, 3) := by decide +kernel
theorem dX7_product_81 : decode cX7_product 81 = .ok (.iload 4, 2) := by decide +kernel
theorem dX7_product_83 : decode cX7_product 83 = .ok (.invokevirtual 173, 3) := by decide +kernel
theorem dX7_product_86 : decode cX7_product 86 = .ok (.iinc 3 1, 3) := by decide +kernel
theorem dX7_product_89 : decode cX7_product 89 = .ok (.goto (-81), 3) := by decide +kernel
theorem dX7_product_92 : decode cX7_product 92 = .ok (.iload_n 2, 1) := by decide +kernel
theorem dX7_product_93 : decode cX7_product 93 = .ok (.ireturn, 1) := by decide +kernel
theorem dX7_part_0 : decode cX7_part 0 = .ok (.aload_n 0, 1) := by decide +kernel
theorem dX7_part_1 : decode cX7_part 1 = .ok (.getfield 9, 3) := by decide +kernel
theorem dX7_part_4 : decode cX7_part 4 = .ok (.getfield 34, 3) := by decide +kernel
theorem dX7_part_7 : decode cX7_part 7 = .ok (.bipush 40, 2) := by decide +kernel
theorem dX7_part_9 : decode cX7_part 9 = .ok (.if_icmp .ne 35, 3) := by decide +kernel
theorem dX7_part_12 : decode cX7_part 12 = .ok (.aload_n 0, 1) := by decide +kernel
theorem dX7_part_13 : decode cX7_part 13 = .ok (.getfield 9, 3) := by decide +kernel
theorem dX7_part_16 : decode cX7_part 16 = .ok (.invokevirtual 92, 3) := by decide +kernel
theorem dX7_part_19 : decode cX7_part 19 = .ok (.aload_n 0, 1) := by decide +kernel
theorem dX7_part_20 : decode cX7_part 20 = .ok (.iload_n 1, 1) := by decide +kernel
theorem dX7_part_21 : decode cX7_part 21 = .ok (.iconst 1, 1) := by decide +kernel
theorem dX7_part_22 : decode cX7_part 22 = .ok (.iadd, 1) := by decide +kernel
theorem dX7_part_23 : decode cX7_part 23 = .ok (.invokevirtual 148, 3) := by decide +kernel
theorem dX7_part_26 : decode cX7_part 26 = .ok (.ifCond .eq 16, 3) := by decide +kernel
theorem dX7_part_29 : decode cX7_part 29 = .ok (.aload_n 0, 1) := by decide +kernel
theorem dX7_part_30 : decode cX7_part 30 = .ok (.bipush 41, 2) := by decide +kernel
theorem dX7_part_32 : decode cX7_part 32 = .ok (.invokevirtual 85, 3) := by decide +kernel
theorem dX7_part_35 : decode cX7_part 35 = .ok (.ifCond .eq 7, 3) := by decide +kernel
theorem dX7_part_38 : decode cX7_part 38 = .ok (.iconst 1, 1) := by decide +kernel
theorem dX7_part_39 : decode cX7_part 39 = .ok (.goto 4, 3) := by decide +kernel
theorem dX7_part_42 : decode cX7_part 42 = .ok (.iconst 0, 1) := by decide +kernel
theorem dX7_part_43 : decode cX7_part 43 = .ok (.ireturn, 1) := by decide +kernel
theorem dX7_part_44 : decode cX7_part 44 = .ok (.aload_n 0, 1) := by decide +kernel
theorem dX7_part_45 : decode cX7_part 45 = .ok (.getfield 9, 3) := by decide +kernel
theorem dX7_part_48 : decode cX7_part 48 = .ok (.getfield 34, 3) := by decide +kernel
theorem dX7_part_51 : decode cX7_part 51 = .ok (.iconst 1, 1) := by decide +kernel
theorem dX7_part_52 : decode cX7_part 52 = .ok (.if_icmp .ne 7, 3) := by decide +kernel
theorem dX7_part_55 : decode cX7_part 55 = .ok (.iconst 1, 1) := by decide +kernel
theorem dX7_part_56 : decode cX7_part 56 = .ok (.goto 4, 3) := by decide +kernel
theorem dX7_part_59 : decode cX7_part 59 = .ok (.iconst 0, 1) := by decide +kernel
theorem dX7_part_60 : decode cX7_part 60 = .ok (.istore_n 2, 1) := by decide +kernel
theorem dX7_part_61 : decode cX7_part 61 = .ok (.iload_n 2, 1) := by decide +kernel
theorem dX7_part_62 : decode cX7_part 62 = .ok (.ifCond .ne 16, 3) := by decide +kernel
theorem dX7_part_65 : decode cX7_part 65 = .ok (.aload_n 0, 1) := by decide +kernel
theorem dX7_part_66 : decode cX7_part 66 = .ok (.iconst 0, 1) := by decide +kernel
theorem dX7_part_67 : decode cX7_part 67 = .ok (.sipush 9999, 3) := by decide +kernel
theorem dX7_part_70 : decode cX7_part 70 = .ok (.invokevirtual 95, 3) := by decide +kernel
theorem dX7_part_73 : decode cX7_part 73 = .ok (.ifCond .ne 5, 3) := by decide +kernel
theorem dX7_part_76 : decode cX7_part 76 = .ok (.iconst 0, 1) := by decide +kernel
theorem dX7_part_77 : decode cX7_part 77 = .ok (.ireturn, 1) := by decide +kernel
theorem dX7_part_78 : decode cX7_part 78 = .ok (.iload_n 2, 1) := by decide +kernel
theorem dX7_part_79 : decode cX7_part 79 = .ok (.ifCond .eq 10, 3) := by decide +kernel
theorem dX7_part_82 : decode cX7_part 82 = .ok (.aload_n 0, 1) := by decide +kernel
theorem dX7_part_83 : decode cX7_part 83 = .ok (.invokevirtual 195, 3) := by decide +kernel
theorem dX7_part_86 : decode cX7_part 86 = .ok (.goto 10, 3) := by decide +kernel
theorem dX7_part_89 : decode cX7_part 89 = .ok (.aload_n 0, 1) := by decide +kernel
theorem dX7_part_90 : decode cX7_part 90 = .ok (.getfield 9, 3) := by decide +kernel
theorem dX7_part_93 : decode cX7_part 93 = .ok (.getfield 99, 3) := by decide +kernel
theorem dX7_part_96 : decode cX7_part 96 = .ok (.istore_n 3, 1) := by decide +kernel
theorem dX7_part_97 : decode cX7_part 97 = .ok (.iload_n 2, 1) := by decide +kernel
theorem dX7_part_98 : decode cX7_part 98 = .ok (.ifCond .eq 13, 3) := by decide +kernel
theorem dX7_part_101 : decode cX7_part 101 = .ok (.iload_n 3, 1) := by decide +kernel
theorem dX7_part_102 : decode cX7_part 102 = .ok (.ifCond .ne 9, 3) := by decide +kernel
theorem dX7_part_105 : decode cX7_part 105 = .ok (.aload_n 0, 1) := by decide +kernel
theorem dX7_part_106 : decode cX7_part 106 = .ok (.iconst 3, 1) := by decide +kernel
theorem dX7_part_107 : decode cX7_part 107 = .ok (.invokevirtual 81, 3) := by decide +kernel
theorem dX7_part_110 : decode cX7_part 110 = .ok (.ireturn, 1) := by decide +kernel
theorem dX7_part_111 : decode cX7_part 111 = .ok (.aload_n 0, 1) := by decide +kernel
theorem dX7_part_112 : decode cX7_part 112 = .ok (.getfield 15, 3) := by decide +kernel
theorem dX7_part_115 : decode cX7_part 115 = .ok (.iload_n 3, 1) := by decide +kernel
theorem dX7_part_116 : decode cX7_part 116 = .ok (.invokevirtual 173, 3) := by decide +kernel
theorem dX7_part_119 : decode cX7_part 119 = .ok (.aload_n 0, 1) := by decide +kernel
theorem dX7_part_120 : decode cX7_part 120 = .ok (.getfield 9, 3) := by decide +kernel
theorem dX7_part_123 : decode cX7_part 123 = .ok (.invokevirtual 92, 3) := by decide +kernel
theorem dX7_part_126 : decode cX7_part 126 = .ok (.iconst 1, 1) := by decide +kernel
theorem dX7_part_127 : decode cX7_part 127 = .ok (.ireturn, 1) := by decide +kernel
theorem dX7_valueNamed_0 : decode cX7_valueNamed 0 = .ok (.aload_n 0, 1) := by decide +kernel
theorem dX7_valueNamed_1 : decode cX7_valueNamed 1 = .ok (.getfield 9, 3) := by decide +kernel
theorem dX7_valueNamed_4 : decode cX7_valueNamed 4 = .ok (.ldc 199, 2) := by decide +kernel
theorem dX7_valueNamed_6 : decode cX7_valueNamed 6 = .ok (.invokevirtual 49, 3) := by decide +kernel
theorem dX7_valueNamed_9 : decode cX7_valueNamed 9 = .ok (.ifCond .eq 5, 3) := by decide +kernel
theorem dX7_valueNamed_12 : decode cX7_valueNamed 12 = .ok (.iconst (-1), 1) := by decide +kernel
theorem dX7_valueNamed_13 : decode cX7_valueNamed 13 = .ok (.ireturn, 1) := by decide +kernel
theorem dX7_valueNamed_14 : decode cX7_valueNamed 14 = .ok (.aload_n 0, 1) := by decide +kernel
theorem dX7_valueNamed_15 : decode cX7_valueNamed 15 = .ok (.getfield 9, 3) := by decide +kernel
theorem dX7_valueNamed_18 : decode cX7_valueNamed 18 = .ok (.ldc 200, 2) := by decide +kernel
theorem dX7_valueNamed_20 : decode cX7_valueNamed 20 = .ok (.invokevirtual 49, 3) := by decide +kernel
theorem dX7_valueNamed_23 : decode cX7_valueNamed 23 = .ok (.ifCond .eq 6, 3) := by decide +kernel
theorem dX7_valueNamed_26 : decode cX7_valueNamed 26 = .ok (.bipush (-2), 2) := by decide +kernel
theorem dX7_valueNamed_28 : decode cX7_valueNamed 28 = .ok (.ireturn, 1) := by decide +kernel
theorem dX7_valueNamed_29 : decode cX7_valueNamed 29 = .ok (.aload_n 0, 1) := by decide +kernel
theorem dX7_valueNamed_30 : decode cX7_valueNamed 30 = .ok (.getfield 9, 3) := by decide +kernel
theorem dX7_valueNamed_33 : decode cX7_valueNamed 33 = .ok (.ldc 201, 2) := by decide +kernel
theorem dX7_valueNamed_35 : decode cX7_valueNamed 35 = .ok (.invokevirtual 49, 3) := by decide +kernel
theorem dX7_valueNamed_38 : decode cX7_valueNamed 38 = .ok (.ifCond .eq 6, 3) := by decide +kernel
theorem dX7_valueNamed_41 : decode cX7_valueNamed 41 = .ok (.bipush (-3), 2) := by decide +kernel
theorem dX7_valueNamed_43 : decode cX7_valueNamed 43 = .ok (.ireturn, 1) := by decide +kernel
theorem dX7_valueNamed_44 : decode cX7_valueNamed 44 = .ok (.aload_n 0, 1) := by decide +kernel
theorem dX7_valueNamed_45 : decode cX7_valueNamed 45 = .ok (.getfield 9, 3) := by decide +kernel
theorem dX7_valueNamed_48 : decode cX7_valueNamed 48 = .ok (.ldc 203, 2) := by decide +kernel
theorem dX7_valueNamed_50 : decode cX7_valueNamed 50 = .ok (.invokevirtual 49, 3) := by decide +kernel
theorem dX7_valueNamed_53 : decode cX7_valueNamed 53 = .ok (.ifCond .eq 6, 3) := by decide +kernel
theorem dX7_valueNamed_56 : decode cX7_valueNamed 56 = .ok (.bipush (-4), 2) := by decide +kernel
theorem dX7_valueNamed_58 : decode cX7_valueNamed 58 = .ok (.ireturn, 1) := by decide +kernel
theorem dX7_valueNamed_59 : decode cX7_valueNamed 59 = .ok (.aload_n 0, 1) := by decide +kernel
theorem dX7_valueNamed_60 : decode cX7_valueNamed 60 = .ok (.getfield 139, 3) := by decide +kernel
theorem dX7_valueNamed_63 : decode cX7_valueNamed 63 = .ok (.ifCond .eq 18, 3) := by decide +kernel
theorem dX7_valueNamed_66 : decode cX7_valueNamed 66 = .ok (.aload_n 0, 1) := by decide +kernel
theorem dX7_valueNamed_67 : decode cX7_valueNamed 67 = .ok (.getfield 9, 3) := by decide +kernel
theorem dX7_valueNamed_70 : decode cX7_valueNamed 70 = .ok (.ldc 205, 2) := by decide +kernel
theorem dX7_valueNamed_72 : decode cX7_valueNamed 72 = .ok (.invokevirtual 49, 3) := by decide +kernel
theorem dX7_valueNamed_75 : decode cX7_valueNamed 75 = .ok (.ifCond .eq 6, 3) := by decide +kernel
theorem dX7_valueNamed_78 : decode cX7_valueNamed 78 = .ok (.bipush (-5), 2) := by decide +kernel
theorem dX7_valueNamed_80 : decode cX7_valueNamed 80 = .ok (.ireturn, 1) := by decide +kernel
theorem dX7_valueNamed_81 : decode cX7_valueNamed 81 = .ok (.aload_n 0, 1) := by decide +kernel
theorem dX7_valueNamed_82 : decode cX7_valueNamed 82 = .ok (.getfield 139, 3) := by decide +kernel
theorem dX7_valueNamed_85 : decode cX7_valueNamed 85 = .ok (.ifCond .eq 18, 3) := by decide +kernel
theorem dX7_valueNamed_88 : decode cX7_valueNamed 88 = .ok (.aload_n 0, 1) := by decide +kernel
theorem dX7_valueNamed_89 : decode cX7_valueNamed 89 = .ok (.getfield 9, 3) := by decide +kernel
theorem dX7_valueNamed_92 : decode cX7_valueNamed 92 = .ok (.ldc 207, 2) := by decide +kernel
theorem dX7_valueNamed_94 : decode cX7_valueNamed 94 = .ok (.invokevirtual 49, 3) := by decide +kernel
theorem dX7_valueNamed_97 : decode cX7_valueNamed 97 = .ok (.ifCond .eq 6, 3) := by decide +kernel
theorem dX7_valueNamed_100 : decode cX7_valueNamed 100 = .ok (.bipush (-6), 2) := by decide +kernel
theorem dX7_valueNamed_102 : decode cX7_valueNamed 102 = .ok (.ireturn, 1) := by decide +kernel
theorem dX7_valueNamed_103 : decode cX7_valueNamed 103 = .ok (.iconst 0, 1) := by decide +kernel
theorem dX7_valueNamed_104 : decode cX7_valueNamed 104 = .ok (.ireturn, 1) := by decide +kernel
theorem dX8_init_0 : decode cX8_init 0 = .ok (.aload_n 0, 1) := by decide +kernel
theorem dX8_init_1 : decode cX8_init 1 = .ok (.invokespecial 5, 3) := by decide +kernel
theorem dX8_init_4 : decode cX8_init 4 = .ok (.aload_n 0, 1) := by decide +kernel
theorem dX8_init_5 : decode cX8_init 5 = .ok (.bipush 50, 2) := by decide +kernel
theorem dX8_init_7 : decode cX8_init 7 = .ok (.newarray .int, 2) := by decide +kernel
theorem dX8_init_9 : decode cX8_init 9 = .ok (.putfield 11, 3) := by decide +kernel
theorem dX8_init_12 : decode cX8_init 12 = .ok (.aload_n 0, 1) := by decide +kernel
theorem dX8_init_13 : decode cX8_init 13 = .ok (.bipush 6, 2) := by decide +kernel
theorem dX8_init_15 : decode cX8_init 15 = .ok (.newarray .int, 2) := by decide +kernel
theorem dX8_init_17 : decode cX8_init 17 = .ok (.putfield 15, 3) := by decide +kernel
theorem dX8_init_20 : decode cX8_init 20 = .ok (.aload_n 0, 1) := by decide +kernel
theorem dX8_init_21 : decode cX8_init 21 = .ok (.bipush 7, 2) := by decide +kernel
theorem dX8_init_23 : decode cX8_init 23 = .ok (.newarray .int, 2) := by decide +kernel
theorem dX8_init_25 : decode cX8_init 25 = .ok (.putfield 18, 3) := by decide +kernel
theorem dX8_init_28 : decode cX8_init 28 = .ok (.aload_n 0, 1) := by decide +kernel
theorem dX8_init_29 : decode cX8_init 29 = .ok (.bipush 10, 2) := by decide +kernel
theorem dX8_init_31 : decode cX8_init 31 = .ok (.newarray .int, 2) := by decide +kernel
theorem dX8_init_33 : decode cX8_init 33 = .ok (.putfield 21, 3) := by decide +kernel
theorem dX8_init_36 : decode cX8_init 36 = .ok (.aload_n 0, 1) := by decide +kernel
theorem dX8_init_37 : decode cX8_init 37 = .ok (.new 24, 3) := by decide +kernel
theorem dX8_init_40 : decode cX8_init 40 = .ok (.dup, 1) := by decide +kernel
theorem dX8_init_41 : decode cX8_init 41 = .ok (.invokespecial 26, 3) := by decide +kernel
theorem dX8_init_44 : decode cX8_init 44 = .ok (.putfield 27, 3) := by decide +kernel
theorem dX8_init_47 : decode cX8_init 47 = .ok (.aload_n 0, 1) := by decide +kernel
theorem dX8_init_48 : decode cX8_init 48 = .ok (.aload_n 1, 1) := by decide +kernel
theorem dX8_init_49 : decode cX8_init 49 = .ok (.putfield 31, 3) := by decide +kernel
theorem dX8_init_52 : decode cX8_init 52 = .ok (.return_, 1) := by decide +kernel
theorem dX8_begin_0 : decode cX8_begin 0 = .ok (.aload_n 0, 1) := by decide +kernel
theorem dX8_begin_1 : decode cX8_begin 1 = .ok (.aload_n 1, 1) := by decide +kernel
theorem dX8_begin_2 : decode cX8_begin 2 = .ok (.putfield 31, 3) := by decide +kernel
theorem dX8_begin_5 : decode cX8_begin 5 = .ok (.iconst 0, 1) := by decide +kernel
theorem dX8_begin_6 : decode cX8_begin 6 = .ok (.istore_n 2, 1) := by decide +kernel
theorem dX8_begin_7 : decode cX8_begin 7 = .ok (.iload_n 2, 1) := by decide +kernel
theorem dX8_begin_8 : decode cX8_begin 8 = .ok (.bipush 50, 2) := by decide +kernel
theorem dX8_begin_10 : decode cX8_begin 10 = .ok (.if_icmp .ge 16, 3) := by decide +kernel
theorem dX8_begin_13 : decode cX8_begin 13 = .ok (.aload_n 0, 1) := by decide +kernel
theorem dX8_begin_14 : decode cX8_begin 14 = .ok (.getfield 11, 3) := by decide +kernel
theorem dX8_begin_17 : decode cX8_begin 17 = .ok (.iload_n 2, 1) := by decide +kernel
theorem dX8_begin_18 : decode cX8_begin 18 = .ok (.iconst 0, 1) := by decide +kernel
theorem dX8_begin_19 : decode cX8_begin 19 = .ok (.iastore, 1) := by decide +kernel
theorem dX8_begin_20 : decode cX8_begin 20 = .ok (.iinc 2 1, 3) := by decide +kernel
theorem dX8_begin_23 : decode cX8_begin 23 = .ok (.goto (-16), 3) := by decide +kernel
theorem dX8_begin_26 : decode cX8_begin 26 = .ok (.aload_n 0, 1) := by decide +kernel
theorem dX8_begin_27 : decode cX8_begin 27 = .ok (.getfield 31, 3) := by decide +kernel
theorem dX8_begin_30 : decode cX8_begin 30 = .ok (.getfield 35, 3) := by decide +kernel
theorem dX8_begin_33 : decode cX8_begin 33 = .ok (.iconst 0, 1) := by decide +kernel
theorem dX8_begin_34 : decode cX8_begin 34 = .ok (.aload_n 0, 1) := by decide +kernel
theorem dX8_begin_35 : decode cX8_begin 35 = .ok (.getfield 11, 3) := by decide +kernel
theorem dX8_begin_38 : decode cX8_begin 38 = .ok (.iconst 0, 1) := by decide +kernel
theorem dX8_begin_39 : decode cX8_begin 39 = .ok (.aload_n 0, 1) := by decide +kernel
theorem dX8_begin_40 : decode cX8_begin 40 = .ok (.getfield 31, 3) := by decide +kernel
theorem dX8_begin_43 : decode cX8_begin 43 = .ok (.getfield 40, 3) := by decide +kernel
theorem dX8_begin_46 : decode cX8_begin 46 = .ok (.invokestatic 44, 3) := by decide +kernel
theorem dX8_begin_49 : decode cX8_begin 49 = .ok (.aload_n 0, 1) := by decide +kernel
theorem dX8_begin_50 : decode cX8_begin 50 = .ok (.getfield 31, 3) := by decide +kernel
theorem dX8_begin_53 : decode cX8_begin 53 = .ok (.getfield 50, 3) := by decide +kernel
theorem dX8_begin_56 : decode cX8_begin 56 = .ok (.iconst 0, 1) := by decide +kernel
theorem dX8_begin_57 : decode cX8_begin 57 = .ok (.aload_n 0, 1) := by decide +kernel
theorem dX8_begin_58 : decode cX8_begin 58 = .ok (.getfield 11, 3) := by decide +kernel
theorem dX8_begin_61 : decode cX8_begin 61 = .ok (.bipush 30, 2) := by decide +kernel
theorem dX8_begin_63 : decode cX8_begin 63 = .ok (.aload_n 0, 1) := by decide +kernel
theorem dX8_begin_64 : decode cX8_begin 64 = .ok (.getfield 31, 3) := by decide +kernel
theorem dX8_begin_67 : decode cX8_begin 67 = .ok (.getfield 53, 3) := by decide +kernel
theorem dX8_begin_70 : decode cX8_begin 70 = .ok (.invokestatic 44, 3) := by decide +kernel
theorem dX8_begin_73 : decode cX8_begin 73 = .ok (.iconst 0, 1) := by decide +kernel
theorem dX8_begin_74 : decode cX8_begin 74 = .ok (.istore_n 2, 1) := by decide +kernel
theorem dX8_begin_75 : decode cX8_begin 75 = .ok (.iload_n 2, 1) := by decide +kernel
theorem dX8_begin_76 : decode cX8_begin 76 = .ok (.bipush 6, 2) := by decide +kernel
theorem dX8_begin_78 : decode cX8_begin 78 = .ok (.if_icmp .ge 44, 3) := by decide +kernel
theorem dX8_begin_81 : decode cX8_begin 81 = .ok (.iconst 0, 1) := by decide +kernel
theorem dX8_begin_82 : decode cX8_begin 82 = .ok (.istore_n 3, 1) := by decide +kernel
theorem dX8_begin_83 : decode cX8_begin 83 = .ok (.iload_n 3, 1) := by decide +kernel
theorem dX8_begin_84 : decode cX8_begin 84 = .ok (.iload_n 2, 1) := by decide +kernel
theorem dX8_begin_85 : decode cX8_begin 85 = .ok (.if_icmp .ge 31, 3) := by decide +kernel
theorem dX8_begin_88 : decode cX8_begin 88 = .ok (.aload_n 0, 1) := by decide +kernel
theorem dX8_begin_89 : decode cX8_begin 89 = .ok (.getfield 31, 3) := by decide +kernel
theorem dX8_begin_92 : decode cX8_begin 92 = .ok (.getfield 56, 3) := by decide +kernel
theorem dX8_begin_95 : decode cX8_begin 95 = .ok (.iload_n 2, 1) := by decide +kernel
theorem dX8_begin_96 : decode cX8_begin 96 = .ok (.iaload, 1) := by decide +kernel
theorem dX8_begin_97 : decode cX8_begin 97 = .ok (.iload_n 3, 1) := by decide +kernel
theorem dX8_begin_98 : decode cX8_begin 98 = .ok (.ishr, 1) := by decide +kernel
theorem dX8_begin_99 : decode cX8_begin 99 = .ok (.iconst 1, 1) := by decide +kernel
theorem dX8_begin_100 : decode cX8_begin 100 = .ok (.iand, 1) := by decide +kernel
theorem dX8_begin_101 : decode cX8_begin 101 = .ok (.ifCond .eq 9, 3) := by decide +kernel
theorem dX8_begin_104 : decode cX8_begin 104 = .ok (.aload_n 0, 1) := by decide +kernel
theorem dX8_begin_105 : decode cX8_begin 105 = .ok (.iload_n 2, 1) := by decide +kernel
theorem dX8_begin_106 : decode cX8_begin 106 = .ok (.iload_n 3, 1) := by decide +kernel
theorem dX8_begin_107 : decode cX8_begin 107 = .ok (.invokevirtual 59, 3) := by decide +kernel
theorem dX8_begin_110 : decode cX8_begin 110 = .ok (.iinc 3 1, 3) := by decide +kernel
theorem dX8_begin_113 : decode cX8_begin 113 = .ok (.goto (-30), 3) := by decide +kernel
theorem dX8_begin_116 : decode cX8_begin 116 = .ok (.iinc 2 1, 3) := by decide +kernel
theorem dX8_begin_119 : decode cX8_begin 119 = .ok (.goto (-44), 3) := by decide +kernel
theorem dX8_begin_122 : decode cX8_begin 122 = .ok (.return_, 1) := by decide +kernel
theorem dX8_turnFeud_0 : decode cX8_turnFeud 0 = .ok (.aload_n 0, 1) := by decide +kernel
theorem dX8_turnFeud_1 : decode cX8_turnFeud 1 = .ok (.getfield 11, 3) := by decide +kernel
theorem dX8_turnFeud_4 : decode cX8_turnFeud 4 = .ok (.bipush 35, 2) := by decide +kernel
theorem dX8_turnFeud_6 : decode cX8_turnFeud 6 = .ok (.iload_n 1, 1) := by decide +kernel
theorem dX8_turnFeud_7 : decode cX8_turnFeud 7 = .ok (.iadd, 1) := by decide +kernel
theorem dX8_turnFeud_8 : decode cX8_turnFeud 8 = .ok (.dup2, 1) := by decide +kernel
theorem dX8_turnFeud_9 : decode cX8_turnFeud 9 = .ok (.iaload, 1) := by decide +kernel
theorem dX8_turnFeud_10 : decode cX8_turnFeud 10 = .ok (.iconst 1, 1) := by decide +kernel
theorem dX8_turnFeud_11 : decode cX8_turnFeud 11 = .ok (.iload_n 2, 1) := by decide +kernel
theorem dX8_turnFeud_12 : decode cX8_turnFeud 12 = .ok (.ishl, 1) := by decide +kernel
theorem dX8_turnFeud_13 : decode cX8_turnFeud 13 = .ok (.ixor, 1) := by decide +kernel
theorem dX8_turnFeud_14 : decode cX8_turnFeud 14 = .ok (.iastore, 1) := by decide +kernel
theorem dX8_turnFeud_15 : decode cX8_turnFeud 15 = .ok (.aload_n 0, 1) := by decide +kernel
theorem dX8_turnFeud_16 : decode cX8_turnFeud 16 = .ok (.getfield 11, 3) := by decide +kernel
theorem dX8_turnFeud_19 : decode cX8_turnFeud 19 = .ok (.bipush 35, 2) := by decide +kernel
theorem dX8_turnFeud_21 : decode cX8_turnFeud 21 = .ok (.iload_n 2, 1) := by decide +kernel
theorem dX8_turnFeud_22 : decode cX8_turnFeud 22 = .ok (.iadd, 1) := by decide +kernel
theorem dX8_turnFeud_23 : decode cX8_turnFeud 23 = .ok (.dup2, 1) := by decide +kernel
theorem dX8_turnFeud_24 : decode cX8_turnFeud 24 = .ok (.iaload, 1) := by decide +kernel
theorem dX8_turnFeud_25 : decode cX8_turnFeud 25 = .ok (.iconst 1, 1) := by decide +kernel
theorem dX8_turnFeud_26 : decode cX8_turnFeud 26 = .ok (.iload_n 1, 1) := by decide +kernel
theorem dX8_turnFeud_27 : decode cX8_turnFeud 27 = .ok (.ishl, 1) := by decide +kernel
theorem dX8_turnFeud_28 : decode cX8_turnFeud 28 = .ok (.ixor, 1) := by decide +kernel
theorem dX8_turnFeud_29 : decode cX8_turnFeud 29 = .ok (.iastore, 1) := by decide +kernel
theorem dX8_turnFeud_30 : decode cX8_turnFeud 30 = .ok (.aload_n 0, 1) := by decide +kernel
theorem dX8_turnFeud_31 : decode cX8_turnFeud 31 = .ok (.getfield 11, 3) := by decide +kernel
theorem dX8_turnFeud_34 : decode cX8_turnFeud 34 = .ok (.bipush 41, 2) := by decide +kernel
theorem dX8_turnFeud_36 : decode cX8_turnFeud 36 = .ok (.iload_n 1, 1) := by decide +kernel
theorem dX8_turnFeud_37 : decode cX8_turnFeud 37 = .ok (.iadd, 1) := by decide +kernel
theorem dX8_turnFeud_38 : decode cX8_turnFeud 38 = .ok (.dup2, 1) := by decide +kernel
theorem dX8_turnFeud_39 : decode cX8_turnFeud 39 = .ok (.iaload, 1) := by decide +kernel
theorem dX8_turnFeud_40 : decode cX8_turnFeud 40 = .ok (.aload_n 0, 1) := by decide +kernel
theorem dX8_turnFeud_41 : decode cX8_turnFeud 41 = .ok (.getfield 31, 3) := by decide +kernel
theorem dX8_turnFeud_44 : decode cX8_turnFeud 44 = .ok (.getfield 63, 3) := by decide +kernel
theorem dX8_turnFeud_47 : decode cX8_turnFeud 47 = .ok (.iload_n 2, 1) := by decide +kernel
theorem dX8_turnFeud_48 : decode cX8_turnFeud 48 = .ok (.iaload, 1) := by decide +kernel
theorem dX8_turnFeud_49 : decode cX8_turnFeud 49 = .ok (.ixor, 1) := by decide +kernel
theorem dX8_turnFeud_50 : decode cX8_turnFeud 50 = .ok (.iastore, 1) := by decide +kernel
theorem dX8_turnFeud_51 : decode cX8_turnFeud 51 = .ok (.aload_n 0, 1) := by decide +kernel
theorem dX8_turnFeud_52 : decode cX8_turnFeud 52 = .ok (.getfield 11, 3) := by decide +kernel
theorem dX8_turnFeud_55 : decode cX8_turnFeud 55 = .ok (.bipush 41, 2) := by decide +kernel
theorem dX8_turnFeud_57 : decode cX8_turnFeud 57 = .ok (.iload_n 2, 1) := by decide +kernel
theorem dX8_turnFeud_58 : decode cX8_turnFeud 58 = .ok (.iadd, 1) := by decide +kernel
theorem dX8_turnFeud_59 : decode cX8_turnFeud 59 = .ok (.dup2, 1) := by decide +kernel
theorem dX8_turnFeud_60 : decode cX8_turnFeud 60 = .ok (.iaload, 1) := by decide +kernel
theorem dX8_turnFeud_61 : decode cX8_turnFeud 61 = .ok (.aload_n 0, 1) := by decide +kernel
theorem dX8_turnFeud_62 : decode cX8_turnFeud 62 = .ok (.getfield 31, 3) := by decide +kernel
theorem dX8_turnFeud_65 : decode cX8_turnFeud 65 = .ok (.getfield 63, 3) := by decide +kernel
theorem dX8_turnFeud_68 : decode cX8_turnFeud 68 = .ok (.iload_n 1, 1) := by decide +kernel
theorem dX8_turnFeud_69 : decode cX8_turnFeud 69 = .ok (.iaload, 1) := by decide +kernel
theorem dX8_turnFeud_70 : decode cX8_turnFeud 70 = .ok (.ixor, 1) := by decide +kernel
theorem dX8_turnFeud_71 : decode cX8_turnFeud 71 = .ok (.iastore, 1) := by decide +kernel
theorem dX8_turnFeud_72 : decode cX8_turnFeud 72 = .ok (.return_, 1) := by decide +kernel
theorem dX8_copy_0 : decode cX8_copy 0 = .ok (.aload_n 0, 1) := by decide +kernel
theorem dX8_copy_1 : decode cX8_copy 1 = .ok (.aload_n 1, 1) := by decide +kernel
theorem dX8_copy_2 : decode cX8_copy 2 = .ok (.getfield 31, 3) := by decide +kernel
theorem dX8_copy_5 : decode cX8_copy 5 = .ok (.putfield 31, 3) := by decide +kernel
theorem dX8_copy_8 : decode cX8_copy 8 = .ok (.aload_n 1, 1) := by decide +kernel
theorem dX8_copy_9 : decode cX8_copy 9 = .ok (.getfield 11, 3) := by decide +kernel
theorem dX8_copy_12 : decode cX8_copy 12 = .ok (.iconst 0, 1) := by decide +kernel
theorem dX8_copy_13 : decode cX8_copy 13 = .ok (.aload_n 0, 1) := by decide +kernel
theorem dX8_copy_14 : decode cX8_copy 14 = .ok (.getfield 11, 3) := by decide +kernel
theorem dX8_copy_17 : decode cX8_copy 17 = .ok (.iconst 0, 1) := by decide +kernel
theorem dX8_copy_18 : decode cX8_copy 18 = .ok (.bipush 50, 2) := by decide +kernel
theorem dX8_copy_20 : decode cX8_copy 20 = .ok (.invokestatic 44, 3) := by decide +kernel
theorem dX8_copy_23 : decode cX8_copy 23 = .ok (.iconst 0, 1) := by decide +kernel
theorem dX8_copy_24 : decode cX8_copy 24 = .ok (.istore_n 2, 1) := by decide +kernel
theorem dX8_copy_25 : decode cX8_copy 25 = .ok (.iload_n 2, 1) := by decide +kernel
theorem dX8_copy_26 : decode cX8_copy 26 = .ok (.bipush 6, 2) := by decide +kernel
theorem dX8_copy_28 : decode cX8_copy 28 = .ok (.if_icmp .ge 16, 3) := by decide +kernel
theorem dX8_copy_31 : decode cX8_copy 31 = .ok (.aload_n 0, 1) := by decide +kernel
theorem dX8_copy_32 : decode cX8_copy 32 = .ok (.getfield 15, 3) := by decide +kernel
theorem dX8_copy_35 : decode cX8_copy 35 = .ok (.iload_n 2, 1) := by decide +kernel
theorem dX8_copy_36 : decode cX8_copy 36 = .ok (.iconst 0, 1) := by decide +kernel
theorem dX8_copy_37 : decode cX8_copy 37 = .ok (.iastore, 1) := by decide +kernel
theorem dX8_copy_38 : decode cX8_copy 38 = .ok (.iinc 2 1, 3) := by decide +kernel
theorem dX8_copy_41 : decode cX8_copy 41 = .ok (.goto (-16), 3) := by decide +kernel
theorem dX8_copy_44 : decode cX8_copy 44 = .ok (.return_, 1) := by decide +kernel
theorem dX8_isOut_0 : decode cX8_isOut 0 = .ok (.aload_n 0, 1) := by decide +kernel
theorem dX8_isOut_1 : decode cX8_isOut 1 = .ok (.getfield 11, 3) := by decide +kernel
theorem dX8_isOut_4 : decode cX8_isOut 4 = .ok (.bipush 10, 2) := by decide +kernel
theorem dX8_isOut_6 : decode cX8_isOut 6 = .ok (.iload_n 1, 1) := by decide +kernel
theorem dX8_isOut_7 : decode cX8_isOut 7 = .ok (.iadd, 1) := by decide +kernel
theorem dX8_isOut_8 : decode cX8_isOut 8 = .ok (.iaload, 1) := by decide +kernel
theorem dX8_isOut_9 : decode cX8_isOut 9 = .ok (.ifCond .ne 7, 3) := by decide +kernel
theorem dX8_isOut_12 : decode cX8_isOut 12 = .ok (.iconst 1, 1) := by decide +kernel
theorem dX8_isOut_13 : decode cX8_isOut 13 = .ok (.goto 4, 3) := by decide +kernel
theorem dX8_isOut_16 : decode cX8_isOut 16 = .ok (.iconst 0, 1) := by decide +kernel
theorem dX8_isOut_17 : decode cX8_isOut 17 = .ok (.ireturn, 1) := by decide +kernel
theorem dX8_isIn_0 : decode cX8_isIn 0 = .ok (.aload_n 0, 1) := by decide +kernel
theorem dX8_isIn_1 : decode cX8_isIn 1 = .ok (.getfield 11, 3) := by decide +kernel
theorem dX8_isIn_4 : decode cX8_isIn 4 = .ok (.bipush 10, 2) := by decide +kernel
theorem dX8_isIn_6 : decode cX8_isIn 6 = .ok (.iload_n 1, 1) := by decide +kernel
theorem dX8_isIn_7 : decode cX8_isIn 7 = .ok (.iadd, 1) := by decide +kernel
theorem dX8_isIn_8 : decode cX8_isIn 8 = .ok (.iaload, 1) := by decide +kernel
theorem dX8_isIn_9 : decode cX8_isIn 9 = .ok (.ifCond .eq 21, 3) := by decide +kernel
theorem dX8_isIn_12 : decode cX8_isIn 12 = .ok (.aload_n 0, 1) := by decide +kernel
theorem dX8_isIn_13 : decode cX8_isIn 13 = .ok (.getfield 11, 3) := by decide +kernel
theorem dX8_isIn_16 : decode cX8_isIn 16 = .ok (.bipush 10, 2) := by decide +kernel
theorem dX8_isIn_18 : decode cX8_isIn 18 = .ok (.iload_n 1, 1) := by decide +kernel
theorem dX8_isIn_19 : decode cX8_isIn 19 = .ok (.iadd, 1) := by decide +kernel
theorem dX8_isIn_20 : decode cX8_isIn 20 = .ok (.iaload, 1) := by decide +kernel
theorem dX8_isIn_21 : decode cX8_isIn 21 = .ok (.bipush 6, 2) := by decide +kernel
theorem dX8_isIn_23 : decode cX8_isIn 23 = .ok (.if_icmp .eq 7, 3) := by decide +kernel
theorem dX8_isIn_26 : decode cX8_isIn 26 = .ok (.iconst 1, 1) := by decide +kernel
theorem dX8_isIn_27 : decode cX8_isIn 27 = .ok (.goto 4, 3) := by decide +kernel
theorem dX8_isIn_30 : decode cX8_isIn 30 = .ok (.iconst 0, 1) := by decide +kernel
theorem dX8_isIn_31 : decode cX8_isIn 31 = .ok (.ireturn, 1) := by decide +kernel
theorem dX8_state_0 : decode cX8_state 0 = .ok (.aload_n 0, 1) := by decide +kernel
theorem dX8_state_1 : decode cX8_state 1 = .ok (.iload_n 1, 1) := by decide +kernel
theorem dX8_state_2 : decode cX8_state 2 = .ok (.invokevirtual 66, 3) := by decide +kernel
theorem dX8_state_5 : decode cX8_state 5 = .ok (.ifCond .eq 5, 3) := by decide +kernel
theorem dX8_state_8 : decode cX8_state 8 = .ok (.iconst 0, 1) := by decide +kernel
theorem dX8_state_9 : decode cX8_state 9 = .ok (.ireturn, 1) := by decide +kernel
theorem dX8_state_10 : decode cX8_state 10 = .ok (.aload_n 0, 1) := by decide +kernel
theorem dX8_state_11 : decode cX8_state 11 = .ok (.iload_n 1, 1) := by decide +kernel
theorem dX8_state_12 : decode cX8_state 12 = .ok (.invokevirtual 70, 3) := by decide +kernel
theorem dX8_state_15 : decode cX8_state 15 = .ok (.ifCond .eq 7, 3) := by decide +kernel
theorem dX8_state_18 : decode cX8_state 18 = .ok (.iconst 1, 1) := by decide +kernel
theorem dX8_state_19 : decode cX8_state 19 = .ok (.goto 4, 3) := by decide +kernel
theorem dX8_state_22 : decode cX8_state 22 = .ok (.iconst 2, 1) := by decide +kernel
theorem dX8_state_23 : decode cX8_state 23 = .ok (.ireturn, 1) := by decide +kernel
theorem dX8_swallowerOf_0 : decode cX8_swallowerOf 0 = .ok (.aload_n 0, 1) := by decide +kernel
theorem dX8_swallowerOf_1 : decode cX8_swallowerOf 1 = .ok (.iload_n 1, 1) := by decide +kernel
theorem dX8_swallowerOf_2 : decode cX8_swallowerOf 2 = .ok (.invokevirtual 70, 3) := by decide +kernel
theorem dX8_swallowerOf_5 : decode cX8_swallowerOf 5 = .ok (.ifCond .eq 17, 3) := by decide +kernel
theorem dX8_swallowerOf_8 : decode cX8_swallowerOf 8 = .ok (.aload_n 0, 1) := by decide +kernel
theorem dX8_swallowerOf_9 : decode cX8_swallowerOf 9 = .ok (.getfield 11, 3) := by decide +kernel
theorem dX8_swallowerOf_12 : decode cX8_swallowerOf 12 = .ok (.bipush 10, 2) := by decide +kernel
theorem dX8_swallowerOf_14 : decode cX8_swallowerOf 14 = .ok (.iload_n 1, 1) := by decide +kernel
theorem dX8_swallowerOf_15 : decode cX8_swallowerOf 15 = .ok (.iadd, 1) := by decide +kernel
theorem dX8_swallowerOf_16 : decode cX8_swallowerOf 16 = .ok (.iaload, 1) := by decide +kernel
theorem dX8_swallowerOf_17 : decode cX8_swallowerOf 17 = .ok (.iconst 1, 1) := by decide +kernel
theorem dX8_swallowerOf_18 : decode cX8_swallowerOf 18 = .ok (.isub, 1) := by decide +kernel
theorem dX8_swallowerOf_19 : decode cX8_swallowerOf 19 = .ok (.goto 4, 3) := by decide +kernel
theorem dX8_swallowerOf_22 : decode cX8_swallowerOf 22 = .ok (.iconst (-1), 1) := by decide +kernel
theorem dX8_swallowerOf_23 : decode cX8_swallowerOf 23 = .ok (.ireturn, 1) := by decide +kernel
theorem dX8_bladesAt_0 : decode cX8_bladesAt 0 = .ok (.iconst 0, 1) := by decide +kernel
theorem dX8_bladesAt_1 : decode cX8_bladesAt 1 = .ok (.istore_n 2, 1) := by decide +kernel
theorem dX8_bladesAt_2 : decode cX8_bladesAt 2 = .ok (.iconst 0, 1) := by decide +kernel
theorem dX8_bladesAt_3 : decode cX8_bladesAt 3 = .ok (.istore_n 3, 1) := by decide +kernel
theorem dX8_bladesAt_4 : decode cX8_bladesAt 4 = .ok (.iload_n 3, 1) := by decide +kernel
theorem dX8_bladesAt_5 : decode cX8_bladesAt 5 = .ok (.aload_n 0, 1) := by decide +kernel
theorem dX8_bladesAt_6 : decode cX8_bladesAt 6 = .ok (.getfield 31, 3) := by decide +kernel
theorem dX8_bladesAt_9 : decode cX8_bladesAt 9 = .ok (.getfield 40, 3) := by decide +kernel
theorem dX8_bladesAt_12 : decode cX8_bladesAt 12 = .ok (.if_icmp .ge 28, 3) := by decide +kernel
theorem dX8_bladesAt_15 : decode cX8_bladesAt 15 = .ok (.aload_n 0, 1) := by decide +kernel
theorem dX8_bladesAt_16 : decode cX8_bladesAt 16 = .ok (.getfield 11, 3) := by decide +kernel
theorem dX8_bladesAt_19 : decode cX8_bladesAt 19 = .ok (.bipush 10, 2) := by decide +kernel
theorem dX8_bladesAt_21 : decode cX8_bladesAt 21 = .ok (.iload_n 3, 1) := by decide +kernel
theorem dX8_bladesAt_22 : decode cX8_bladesAt 22 = .ok (.iadd, 1) := by decide +kernel
theorem dX8_bladesAt_23 : decode cX8_bladesAt 23 = .ok (.iaload, 1) := by decide +kernel
theorem dX8_bladesAt_24 : decode cX8_bladesAt 24 = .ok (.iload_n 1, 1) := by decide +kernel
theorem dX8_bladesAt_25 : decode cX8_bladesAt 25 = .ok (.if_icmp .ne 9, 3) := by decide +kernel
theorem dX8_bladesAt_28 : decode cX8_bladesAt 28 = .ok (.iload_n 2, 1) := by decide +kernel
theorem dX8_bladesAt_29 : decode cX8_bladesAt 29 = .ok (.iconst 1, 1) := by decide +kernel
theorem dX8_bladesAt_30 : decode cX8_bladesAt 30 = .ok (.iload_n 3, 1) := by decide +kernel
theorem dX8_bladesAt_31 : decode cX8_bladesAt 31 = .ok (.ishl, 1) := by decide +kernel
theorem dX8_bladesAt_32 : decode cX8_bladesAt 32 = .ok (.ior, 1) := by decide +kernel
theorem dX8_bladesAt_33 : decode cX8_bladesAt 33 = .ok (.istore_n 2, 1) := by decide +kernel
theorem dX8_bladesAt_34 : decode cX8_bladesAt 34 = .ok (.iinc 3 1, 3) := by decide +kernel
theorem dX8_bladesAt_37 : decode cX8_bladesAt 37 = .ok (.goto (-33), 3) := by decide +kernel
theorem dX8_bladesAt_40 : decode cX8_bladesAt 40 = .ok (.iload_n 2, 1) := by decide +kernel
theorem dX8_bladesAt_41 : decode cX8_bladesAt 41 = .ok (.ireturn, 1) := by decide +kernel
theorem dX8_bladesOut_0 : decode cX8_bladesOut 0 = .ok (.aload_n 0, 1) := by decide +kernel
theorem dX8_bladesOut_1 : decode cX8_bladesOut 1 = .ok (.iconst 0, 1) := by decide +kernel
theorem dX8_bladesOut_2 : decode cX8_bladesOut 2 = .ok (.invokevirtual 73, 3) := by decide +kernel
theorem dX8_bladesOut_5 : decode cX8_bladesOut 5 = .ok (.ireturn, 1) := by decide +kernel
theorem dX8_bladesAtRest_0 : decode cX8_bladesAtRest 0 = .ok (.aload_n 0, 1) := by decide +kernel
theorem dX8_bladesAtRest_1 : decode cX8_bladesAtRest 1 = .ok (.bipush 6, 2) := by decide +kernel
theorem dX8_bladesAtRest_3 : decode cX8_bladesAtRest 3 = .ok (.invokevirtual 73, 3) := by decide +kernel
theorem dX8_bladesAtRest_6 : decode cX8_bladesAtRest 6 = .ok (.ireturn, 1) := by decide +kernel
theorem dX8_bladesIn_0 : decode cX8_bladesIn 0 = .ok (.iconst 1, 1) := by decide +kernel
theorem dX8_bladesIn_1 : decode cX8_bladesIn 1 = .ok (.aload_n 0, 1) := by decide +kernel
theorem dX8_bladesIn_2 : decode cX8_bladesIn 2 = .ok (.getfield 31, 3) := by decide +kernel
theorem dX8_bladesIn_5 : decode cX8_bladesIn 5 = .ok (.getfield 40, 3) := by decide +kernel
theorem dX8_bladesIn_8 : decode cX8_bladesIn 8 = .ok (.ishl, 1) := by decide +kernel
theorem dX8_bladesIn_9 : decode cX8_bladesIn 9 = .ok (.iconst 1, 1) := by decide +kernel
theorem dX8_bladesIn_10 : decode cX8_bladesIn 10 = .ok (.isub, 1) := by decide +kernel
theorem dX8_bladesIn_11 : decode cX8_bladesIn 11 = .ok (.aload_n 0, 1) := by decide +kernel
theorem dX8_bladesIn_12 : decode cX8_bladesIn 12 = .ok (.invokevirtual 77, 3) := by decide +kernel
theorem dX8_bladesIn_15 : decode cX8_bladesIn 15 = .ok (.iconst (-1), 1) := by decide +kernel
theorem dX8_bladesIn_16 : decode cX8_bladesIn 16 = .ok (.ixor, 1) := by decide +kernel
theorem dX8_bladesIn_17 : decode cX8_bladesIn 17 = .ok (.iand, 1) := by decide +kernel
theorem dX8_bladesIn_18 : decode cX8_bladesIn 18 = .ok (.aload_n 0, 1) := by decide +kernel
theorem dX8_bladesIn_19 : decode cX8_bladesIn 19 = .ok (.invokevirtual 81, 3) := by decide +kernel
theorem dX8_bladesIn_22 : decode cX8_bladesIn 22 = .ok (.iconst (-1), 1) := by decide +kernel
theorem dX8_bladesIn_23 : decode cX8_bladesIn 23 = .ok (.ixor, 1) := by decide +kernel
theorem dX8_bladesIn_24 : decode cX8_bladesIn 24 = .ok (.iand, 1) := by decide +kernel
theorem dX8_bladesIn_25 : decode cX8_bladesIn 25 = .ok (.ireturn, 1) := by decide +kernel
theorem dX8_left_0 : decode cX8_left 0 = .ok (.aload_n 0, 1) := by decide +kernel
theorem dX8_left_1 : decode cX8_left 1 = .ok (.getfield 11, 3) := by decide +kernel
theorem dX8_left_4 : decode cX8_left 4 = .ok (.bipush 30, 2) := by decide +kernel
theorem dX8_left_6 : decode cX8_left 6 = .ok (.iload_n 1, 1) := by decide +kernel
theorem dX8_left_7 : decode cX8_left 7 = .ok (.iadd, 1) := by decide +kernel
theorem dX8_left_8 : decode cX8_left 8 = .ok (.iaload, 1) := by decide +kernel
theorem dX8_left_9 : decode cX8_left 9 = .ok (.istore_n 2, 1) := by decide +kernel
theorem dX8_left_10 : decode cX8_left 10 = .ok (.iconst 0, 1) := by decide +kernel
theorem dX8_left_11 : decode cX8_left 11 = .ok (.istore_n 3, 1) := by decide +kernel
theorem dX8_left_12 : decode cX8_left 12 = .ok (.iload_n 3, 1) := by decide +kernel
theorem dX8_left_13 : decode cX8_left 13 = .ok (.aload_n 0, 1) := by decide +kernel
theorem dX8_left_14 : decode cX8_left 14 = .ok (.getfield 31, 3) := by decide +kernel
theorem dX8_left_17 : decode cX8_left 17 = .ok (.getfield 40, 3) := by decide +kernel
theorem dX8_left_20 : decode cX8_left 20 = .ok (.if_icmp .ge 36, 3) := by decide +kernel
theorem dX8_left_23 : decode cX8_left 23 = .ok (.aload_n 0, 1) := by decide +kernel
theorem dX8_left_24 : decode cX8_left 24 = .ok (.getfield 11, 3) := by decide +kernel
theorem dX8_left_27 : decode cX8_left 27 = .ok (.bipush 10, 2) := by decide +kernel
theorem dX8_left_29 : decode cX8_left 29 = .ok (.iload_n 3, 1) := by decide +kernel
theorem dX8_left_30 : decode cX8_left 30 = .ok (.iadd, 1) := by decide +kernel
theorem dX8_left_31 : decode cX8_left 31 = .ok (.iaload, 1) := by decide +kernel
theorem dX8_left_32 : decode cX8_left 32 = .ok (.iload_n 1, 1) := by decide +kernel
theorem dX8_left_33 : decode cX8_left 33 = .ok (.iconst 1, 1) := by decide +kernel
theorem dX8_left_34 : decode cX8_left 34 = .ok (.iadd, 1) := by decide +kernel
theorem dX8_left_35 : decode cX8_left 35 = .ok (.if_icmp .ne 15, 3) := by decide +kernel
theorem dX8_left_38 : decode cX8_left 38 = .ok (.iload_n 2, 1) := by decide +kernel
theorem dX8_left_39 : decode cX8_left 39 = .ok (.aload_n 0, 1) := by decide +kernel
theorem dX8_left_40 : decode cX8_left 40 = .ok (.getfield 31, 3) := by decide +kernel
theorem dX8_left_43 : decode cX8_left 43 = .ok (.getfield 84, 3) := by decide +kernel
theorem dX8_left_46 : decode cX8_left 46 = .ok (.iload_n 3, 1) := by decide +kernel
theorem dX8_left_47 : decode cX8_left 47 = .ok (.iaload, 1) := by decide +kernel
theorem dX8_left_48 : decode cX8_left 48 = .ok (.isub, 1) := by decide +kernel
theorem dX8_left_49 : decode cX8_left 49 = .ok (.istore_n 2, 1) := by decide +kernel
theorem dX8_left_50 : decode cX8_left 50 = .ok (.iinc 3 1, 3) := by decide +kernel
theorem dX8_left_53 : decode cX8_left 53 = .ok (.goto (-41), 3) := by decide +kernel
theorem dX8_left_56 : decode cX8_left 56 = .ok (.iload_n 2, 1) := by decide +kernel
theorem dX8_left_57 : decode cX8_left 57 = .ok (.ireturn, 1) := by decide +kernel
theorem dX8_hasRoom_0 : decode cX8_hasRoom 0 = .ok (.aload_n 0, 1) := by decide +kernel
theorem dX8_hasRoom_1 : decode cX8_hasRoom 1 = .ok (.iload_n 1, 1) := by decide +kernel
theorem dX8_hasRoom_2 : decode cX8_hasRoom 2 = .ok (.invokevirtual 87, 3) := by decide +kernel
theorem dX8_hasRoom_5 : decode cX8_hasRoom 5 = .ok (.aload_n 0, 1) := by decide +kernel
theorem dX8_hasRoom_6 : decode cX8_hasRoom 6 = .ok (.getfield 31, 3) := by decide +kernel
theorem dX8_hasRoom_9 : decode cX8_hasRoom 9 = .ok (.getfield 84, 3) := by decide +kernel
theorem dX8_hasRoom_12 : decode cX8_hasRoom 12 = .ok (.iload_n 2, 1) := by decide +kernel
theorem dX8_hasRoom_13 : decode cX8_hasRoom 13 = .ok (.iaload, 1) := by decide +kernel
theorem dX8_hasRoom_14 : decode cX8_hasRoom 14 = .ok (.if_icmp .lt 7, 3) := by decide +kernel
theorem dX8_hasRoom_17 : decode cX8_hasRoom 17 = .ok (.iconst 1, 1) := by decide +kernel
theorem dX8_hasRoom_18 : decode cX8_hasRoom 18 = .ok (.goto 4, 3) := by decide +kernel
theorem dX8_hasRoom_21 : decode cX8_hasRoom 21 = .ok (.iconst 0, 1) := by decide +kernel
theorem dX8_hasRoom_22 : decode cX8_hasRoom 22 = .ok (.ireturn, 1) := by decide +kernel
theorem dX8_top_0 : decode cX8_top 0 = .ok (.iconst (-1), 1) := by decide +kernel
theorem dX8_top_1 : decode cX8_top 1 = .ok (.istore_n 2, 1) := by decide +kernel
theorem dX8_top_2 : decode cX8_top 2 = .ok (.iconst 0, 1) := by decide +kernel
theorem dX8_top_3 : decode cX8_top 3 = .ok (.istore_n 3, 1) := by decide +kernel
theorem dX8_top_4 : decode cX8_top 4 = .ok (.iload_n 3, 1) := by decide +kernel
theorem dX8_top_5 : decode cX8_top 5 = .ok (.aload_n 0, 1) := by decide +kernel
theorem dX8_top_6 : decode cX8_top 6 = .ok (.getfield 31, 3) := by decide +kernel
theorem dX8_top_9 : decode cX8_top 9 = .ok (.getfield 40, 3) := by decide +kernel
theorem dX8_top_12 : decode cX8_top 12 = .ok (.if_icmp .ge 52, 3) := by decide +kernel
theorem dX8_top_15 : decode cX8_top 15 = .ok (.aload_n 0, 1) := by decide +kernel
theorem dX8_top_16 : decode cX8_top 16 = .ok (.getfield 11, 3) := by decide +kernel
theorem dX8_top_19 : decode cX8_top 19 = .ok (.bipush 10, 2) := by decide +kernel
theorem dX8_top_21 : decode cX8_top 21 = .ok (.iload_n 3, 1) := by decide +kernel
theorem dX8_top_22 : decode cX8_top 22 = .ok (.iadd, 1) := by decide +kernel
theorem dX8_top_23 : decode cX8_top 23 = .ok (.iaload, 1) := by decide +kernel
theorem dX8_top_24 : decode cX8_top 24 = .ok (.iload_n 1, 1) := by decide +kernel
theorem dX8_top_25 : decode cX8_top 25 = .ok (.iconst 1, 1) := by decide +kernel
theorem dX8_top_26 : decode cX8_top 26 = .ok (.iadd, 1) := by decide +kernel
theorem dX8_top_27 : decode cX8_top 27 = .ok (.if_icmp .ne 31, 3) := by decide +kernel
theorem dX8_top_30 : decode cX8_top 30 = .ok (.iload_n 2, 1) := by decide +kernel
theorem dX8_top_31 : decode cX8_top 31 = .ok (.iconst (-1), 1) := by decide +kernel
theorem dX8_top_32 : decode cX8_top 32 = .ok (.if_icmp .eq 24, 3) := by decide +kernel
theorem dX8_top_35 : decode cX8_top 35 = .ok (.aload_n 0, 1) := by decide +kernel
theorem dX8_top_36 : decode cX8_top 36 = .ok (.getfield 11, 3) := by decide +kernel
theorem dX8_top_39 : decode cX8_top 39 = .ok (.bipush 20, 2) := by decide +kernel
theorem dX8_top_41 : decode cX8_top 41 = .ok (.iload_n 3, 1) := by decide +kernel
theorem dX8_top_42 : decode cX8_top 42 = .ok (.iadd, 1) := by decide +kernel
theorem dX8_top_43 : decode cX8_top 43 = .ok (.iaload, 1) := by decide +kernel
theorem dX8_top_44 : decode cX8_top 44 = .ok (.aload_n 0, 1) := by decide +kernel
theorem dX8_top_45 : decode cX8_top 45 = .ok (.getfield 11, 3) := by decide +kernel
theorem dX8_top_48 : decode cX8_top 48 = .ok (.bipush 20, 2) := by decide +kernel
theorem dX8_top_50 : decode cX8_top 50 = .ok (.iload_n 2, 1) := by decide +kernel
theorem dX8_top_51 : decode cX8_top 51 = .ok (.iadd, 1) := by decide +kernel
theorem dX8_top_52 : decode cX8_top 52 = .ok (.iaload, 1) := by decide +kernel
theorem dX8_top_53 : decode cX8_top 53 = .ok (.if_icmp .le 5, 3) := by decide +kernel
theorem dX8_top_56 : decode cX8_top 56 = .ok (.iload_n 3, 1) := by decide +kernel
theorem dX8_top_57 : decode cX8_top 57 = .ok (.istore_n 2, 1) := by decide +kernel
theorem dX8_top_58 : decode cX8_top 58 = .ok (.iinc 3 1, 3) := by decide +kernel
theorem dX8_top_61 : decode cX8_top 61 = .ok (.goto (-57), 3) := by decide +kernel
theorem dX8_top_64 : decode cX8_top 64 = .ok (.iload_n 2, 1) := by decide +kernel
theorem dX8_top_65 : decode cX8_top 65 = .ok (.ireturn, 1) := by decide +kernel
theorem dX8_bladesAbove_0 : decode cX8_bladesAbove 0 = .ok (.iconst 0, 1) := by decide +kernel
theorem dX8_bladesAbove_1 : decode cX8_bladesAbove 1 = .ok (.istore_n 2, 1) := by decide +kernel
theorem dX8_bladesAbove_2 : decode cX8_bladesAbove 2 = .ok (.iconst 0, 1) := by decide +kernel
theorem dX8_bladesAbove_3 : decode cX8_bladesAbove 3 = .ok (.istore_n 3, 1) := by decide +kernel
theorem dX8_bladesAbove_4 : decode cX8_bladesAbove 4 = .ok (.iload_n 3, 1) := by decide +kernel
theorem dX8_bladesAbove_5 : decode cX8_bladesAbove 5 = .ok (.aload_n 0, 1) := by decide +kernel
theorem dX8_bladesAbove_6 : decode cX8_bladesAbove 6 = .ok (.getfield 31, 3) := by decide +kernel
theorem dX8_bladesAbove_9 : decode cX8_bladesAbove 9 = .ok (.getfield 40, 3) := by decide +kernel
theorem dX8_bladesAbove_12 : decode cX8_bladesAbove 12 = .ok (.if_icmp .ge 57, 3) := by decide +kernel
theorem dX8_bladesAbove_15 : decode cX8_bladesAbove 15 = .ok (.aload_n 0, 1) := by decide +kernel
theorem dX8_bladesAbove_16 : decode cX8_bladesAbove 16 = .ok (.getfield 11, 3) := by decide +kernel
theorem dX8_bladesAbove_19 : decode cX8_bladesAbove 19 = .ok (.bipush 10, 2) := by decide +kernel
theorem dX8_bladesAbove_21 : decode cX8_bladesAbove 21 = .ok (.iload_n 3, 1) := by decide +kernel
theorem dX8_bladesAbove_22 : decode cX8_bladesAbove 22 = .ok (.iadd, 1) := by decide +kernel
theorem dX8_bladesAbove_23 : decode cX8_bladesAbove 23 = .ok (.iaload, 1) := by decide +kernel
theorem dX8_bladesAbove_24 : decode cX8_bladesAbove 24 = .ok (.aload_n 0, 1) := by decide +kernel
theorem dX8_bladesAbove_25 : decode cX8_bladesAbove 25 = .ok (.getfield 11, 3) := by decide +kernel
theorem dX8_bladesAbove_28 : decode cX8_bladesAbove 28 = .ok (.bipush 10, 2) := by decide +kernel
theorem dX8_bladesAbove_30 : decode cX8_bladesAbove 30 = .ok (.iload_n 1, 1) := by decide +kernel
theorem dX8_bladesAbove_31 : decode cX8_bladesAbove 31 = .ok (.iadd, 1) := by decide +kernel
theorem dX8_bladesAbove_32 : decode cX8_bladesAbove 32 = .ok (.iaload, 1) := by decide +kernel
theorem dX8_bladesAbove_33 : decode cX8_bladesAbove 33 = .ok (.if_icmp .ne 30, 3) := by decide +kernel
theorem dX8_bladesAbove_36 : decode cX8_bladesAbove 36 = .ok (.aload_n 0, 1) := by decide +kernel
theorem dX8_bladesAbove_37 : decode cX8_bladesAbove 37 = .ok (.getfield 11, 3) := by decide +kernel
theorem dX8_bladesAbove_40 : decode cX8_bladesAbove 40 = .ok (.bipush 20, 2) := by decide +kernel
theorem dX8_bladesAbove_42 : decode cX8_bladesAbove 42 = .ok (.iload_n 3, 1) := by decide +kernel
theorem dX8_bladesAbove_43 : decode cX8_bladesAbove 43 = .ok (.iadd, 1) := by decide +kernel
theorem dX8_bladesAbove_44 : decode cX8_bladesAbove 44 = .ok (.iaload, 1) := by decide +kernel
theorem dX8_bladesAbove_45 : decode cX8_bladesAbove 45 = .ok (.aload_n 0, 1) := by decide +kernel
theorem dX8_bladesAbove_46 : decode cX8_bladesAbove 46 = .ok (.getfield 11, 3) := by decide +kernel
theorem dX8_bladesAbove_49 : decode cX8_bladesAbove 49 = .ok (.bipush 20, 2) := by decide +kernel
theorem dX8_bladesAbove_51 : decode cX8_bladesAbove 51 = .ok (.iload_n 1, 1) := by decide +kernel
theorem dX8_bladesAbove_52 : decode cX8_bladesAbove 52 = .ok (.iadd, 1) := by decide +kernel
theorem dX8_bladesAbove_53 : decode cX8_bladesAbove 53 = .ok (.iaload, 1) := by decide +kernel
theorem dX8_bladesAbove_54 : decode cX8_bladesAbove 54 = .ok (.if_icmp .le 9, 3) := by decide +kernel
theorem dX8_bladesAbove_57 : decode cX8_bladesAbove 57 = .ok (.iload_n 2, 1) := by decide +kernel
theorem dX8_bladesAbove_58 : decode cX8_bladesAbove 58 = .ok (.iconst 1, 1) := by decide +kernel
theorem dX8_bladesAbove_59 : decode cX8_bladesAbove 59 = .ok (.iload_n 3, 1) := by decide +kernel
theorem dX8_bladesAbove_60 : decode cX8_bladesAbove 60 = .ok (.ishl, 1) := by decide +kernel
theorem dX8_bladesAbove_61 : decode cX8_bladesAbove 61 = .ok (.ior, 1) := by decide +kernel
theorem dX8_bladesAbove_62 : decode cX8_bladesAbove 62 = .ok (.istore_n 2, 1) := by decide +kernel
theorem dX8_bladesAbove_63 : decode cX8_bladesAbove 63 = .ok (.iinc 3 1, 3) := by decide +kernel
theorem dX8_bladesAbove_66 : decode cX8_bladesAbove 66 = .ok (.goto (-62), 3) := by decide +kernel
theorem dX8_bladesAbove_69 : decode cX8_bladesAbove 69 = .ok (.iload_n 2, 1) := by decide +kernel
theorem dX8_bladesAbove_70 : decode cX8_bladesAbove 70 = .ok (.ireturn, 1) := by decide +kernel
theorem dX8_putInto_0 : decode cX8_putInto 0 = .ok (.aload_n 0, 1) := by decide +kernel
theorem dX8_putInto_1 : decode cX8_putInto 1 = .ok (.getfield 11, 3) := by decide +kernel
theorem dX8_putInto_4 : decode cX8_putInto 4 = .ok (.bipush 49, 2) := by decide +kernel
theorem dX8_putInto_6 : decode cX8_putInto 6 = .ok (.dup2, 1) := by decide +kernel
theorem dX8_putInto_7 : decode cX8_putInto 7 = .ok (.iaload, 1) := by decide +kernel
theorem dX8_putInto_8 : decode cX8_putInto 8 = .ok (.iconst 1, 1) := by decide +kernel
theorem dX8_putInto_9 : decode cX8_putInto 9 = .ok (.iadd, 1) := by decide +kernel
theorem dX8_putInto_10 : decode cX8_putInto 10 = .ok (.iastore, 1) := by decide +kernel
theorem dX8_putInto_11 : decode cX8_putInto 11 = .ok (.aload_n 0, 1) := by decide +kernel
theorem dX8_putInto_12 : decode cX8_putInto 12 = .ok (.getfield 11, 3) := by decide +kernel
theorem dX8_putInto_15 : decode cX8_putInto 15 = .ok (.bipush 20, 2) := by decide +kernel
theorem dX8_putInto_17 : decode cX8_putInto 17 = .ok (.iload_n 1, 1) := by decide +kernel
theorem dX8_putInto_18 : decode cX8_putInto 18 = .ok (.iadd, 1) := by decide +kernel
theorem dX8_putInto_19 : decode cX8_putInto 19 = .ok (.aload_n 0, 1) := by decide +kernel
theorem dX8_putInto_20 : decode cX8_putInto 20 = .ok (.getfield 11, 3) := by decide +kernel
theorem dX8_putInto_23 : decode cX8_putInto 23 = .ok (.bipush 49, 2) := by decide +kernel
theorem dX8_putInto_25 : decode cX8_putInto 25 = .ok (.iaload, 1) := by decide +kernel
theorem dX8_putInto_26 : decode cX8_putInto 26 = .ok (.iastore, 1) := by decide +kernel
theorem dX8_putInto_27 : decode cX8_putInto 27 = .ok (.aload_n 0, 1) := by decide +kernel
theorem dX8_putInto_28 : decode cX8_putInto 28 = .ok (.getfield 11, 3) := by decide +kernel
theorem dX8_putInto_31 : decode cX8_putInto 31 = .ok (.bipush 10, 2) := by decide +kernel
theorem dX8_putInto_33 : decode cX8_putInto 33 = .ok (.iload_n 1, 1) := by decide +kernel
theorem dX8_putInto_34 : decode cX8_putInto 34 = .ok (.iadd, 1) := by decide +kernel
theorem dX8_putInto_35 : decode cX8_putInto 35 = .ok (.iload_n 2, 1) := by decide +kernel
theorem dX8_putInto_36 : decode cX8_putInto 36 = .ok (.iconst 1, 1) := by decide +kernel
theorem dX8_putInto_37 : decode cX8_putInto 37 = .ok (.iadd, 1) := by decide +kernel
theorem dX8_putInto_38 : decode cX8_putInto 38 = .ok (.iastore, 1) := by decide +kernel
theorem dX8_putInto_39 : decode cX8_putInto 39 = .ok (.return_, 1) := by decide +kernel
theorem dX8_putIntoLeast_0 : decode cX8_putIntoLeast 0 = .ok (.iconst 0, 1) := by decide +kernel
theorem dX8_putIntoLeast_1 : decode cX8_putIntoLeast 1 = .ok (.istore_n 2, 1) := by decide +kernel
theorem dX8_putIntoLeast_2 : decode cX8_putIntoLeast 2 = .ok (.iload_n 2, 1) := by decide +kernel
theorem dX8_putIntoLeast_3 : decode cX8_putIntoLeast 3 = .ok (.aload_n 0, 1) := by decide +kernel
theorem dX8_putIntoLeast_4 : decode cX8_putIntoLeast 4 = .ok (.getfield 31, 3) := by decide +kernel
theorem dX8_putIntoLeast_7 : decode cX8_putIntoLeast 7 = .ok (.getfield 53, 3) := by decide +kernel
theorem dX8_putIntoLeast_10 : decode cX8_putIntoLeast 10 = .ok (.if_icmp .ge 25, 3) := by decide +kernel
theorem dX8_putIntoLeast_13 : decode cX8_putIntoLeast 13 = .ok (.aload_n 0, 1) := by decide +kernel
theorem dX8_putIntoLeast_14 : decode cX8_putIntoLeast 14 = .ok (.iload_n 2, 1) := by decide +kernel
theorem dX8_putIntoLeast_15 : decode cX8_putIntoLeast 15 = .ok (.iload_n 1, 1) := by decide +kernel
theorem dX8_putIntoLeast_16 : decode cX8_putIntoLeast 16 = .ok (.invokevirtual 90, 3) := by decide +kernel
theorem dX8_putIntoLeast_19 : decode cX8_putIntoLeast 19 = .ok (.ifCond .eq 10, 3) := by decide +kernel
theorem dX8_putIntoLeast_22 : decode cX8_putIntoLeast 22 = .ok (.aload_n 0, 1) := by decide +kernel
theorem dX8_putIntoLeast_23 : decode cX8_putIntoLeast 23 = .ok (.iload_n 1, 1) := by decide +kernel
theorem dX8_putIntoLeast_24 : decode cX8_putIntoLeast 24 = .ok (.iload_n 2, 1) := by decide +kernel
theorem dX8_putIntoLeast_25 : decode cX8_putIntoLeast 25 = .ok (.invokevirtual 94, 3) := by decide +kernel
theorem dX8_putIntoLeast_28 : decode cX8_putIntoLeast 28 = .ok (.return_, 1) := by decide +kernel
theorem dX8_putIntoLeast_29 : decode cX8_putIntoLeast 29 = .ok (.iinc 2 1, 3) := by decide +kernel
theorem dX8_putIntoLeast_32 : decode cX8_putIntoLeast 32 = .ok (.goto (-30), 3) := by decide +kernel
theorem dX8_putIntoLeast_35 : decode cX8_putIntoLeast 35 = .ok (.return_, 1) := by decide +kernel
theorem dX8_letTopOut_0 : decode cX8_letTopOut 0 = .ok (.aload_n 0, 1) := by decide +kernel
theorem dX8_letTopOut_1 : decode cX8_letTopOut 1 = .ok (.iload_n 1, 1) := by decide +kernel
theorem dX8_letTopOut_2 : decode cX8_letTopOut 2 = .ok (.invokevirtual 97, 3) := by decide +kernel
theorem dX8_letTopOut_5 : decode cX8_letTopOut 5 = .ok (.istore_n 2, 1) := by decide +kernel
theorem dX8_letTopOut_6 : decode cX8_letTopOut 6 = .ok (.iload_n 2, 1) := by decide +kernel
theorem dX8_letTopOut_7 : decode cX8_letTopOut 7 = .ok (.iconst (-1), 1) := by decide +kernel
theorem dX8_letTopOut_8 : decode cX8_letTopOut 8 = .ok (.if_icmp .eq 13, 3) := by decide +kernel
theorem dX8_letTopOut_11 : decode cX8_letTopOut 11 = .ok (.aload_n 0, 1) := by decide +kernel
theorem dX8_letTopOut_12 : decode cX8_letTopOut 12 = .ok (.getfield 11, 3) := by decide +kernel
theorem dX8_letTopOut_15 : decode cX8_letTopOut 15 = .ok (.bipush 10, 2) := by decide +kernel
theorem dX8_letTopOut_17 : decode cX8_letTopOut 17 = .ok (.iload_n 2, 1) := by decide +kernel
theorem dX8_letTopOut_18 : decode cX8_letTopOut 18 = .ok (.iadd, 1) := by decide +kernel
theorem dX8_letTopOut_19 : decode cX8_letTopOut 19 = .ok (.iconst 0, 1) := by decide +kernel
theorem dX8_letTopOut_20 : decode cX8_letTopOut 20 = .ok (.iastore, 1) := by decide +kernel
theorem dX8_letTopOut_21 : decode cX8_letTopOut 21 = .ok (.return_, 1) := by decide +kernel
theorem dX8_angerOfAll_0 : decode cX8_angerOfAll 0 = .ok (.iconst 0, 1) := by decide +kernel
theorem dX8_angerOfAll_1 : decode cX8_angerOfAll 1 = .ok (.istore_n 1, 1) := by decide +kernel
theorem dX8_angerOfAll_2 : decode cX8_angerOfAll 2 = .ok (.iconst 0, 1) := by decide +kernel
theorem dX8_angerOfAll_3 : decode cX8_angerOfAll 3 = .ok (.istore_n 2, 1) := by decide +kernel
theorem dX8_angerOfAll_4 : decode cX8_angerOfAll 4 = .ok (.iload_n 2, 1) := by decide +kernel
theorem dX8_angerOfAll_5 : decode cX8_angerOfAll 5 = .ok (.aload_n 0, 1) := by decide +kernel
theorem dX8_angerOfAll_6 : decode cX8_angerOfAll 6 = .ok (.getfield 31, 3) := by decide +kernel
theorem dX8_angerOfAll_9 : decode cX8_angerOfAll 9 = .ok (.getfield 40, 3) := by decide +kernel
theorem dX8_angerOfAll_12 : decode cX8_angerOfAll 12 = .ok (.if_icmp .ge 18, 3) := by decide +kernel
theorem dX8_angerOfAll_15 : decode cX8_angerOfAll 15 = .ok (.iload_n 1, 1) := by decide +kernel
theorem dX8_angerOfAll_16 : decode cX8_angerOfAll 16 = .ok (.aload_n 0, 1) := by decide +kernel
theorem dX8_angerOfAll_17 : decode cX8_angerOfAll 17 = .ok (.getfield 11, 3) := by decide +kernel
theorem dX8_angerOfAll_20 : decode cX8_angerOfAll 20 = .ok (.iload_n 2, 1) := by decide +kernel
theorem dX8_angerOfAll_21 : decode cX8_angerOfAll 21 = .ok (.iaload, 1) := by decide +kernel
theorem dX8_angerOfAll_22 : decode cX8_angerOfAll 22 = .ok (.iadd, 1) := by decide +kernel
theorem dX8_angerOfAll_23 : decode cX8_angerOfAll 23 = .ok (.istore_n 1, 1) := by decide +kernel
theorem dX8_angerOfAll_24 : decode cX8_angerOfAll 24 = .ok (.iinc 2 1, 3) := by decide +kernel
theorem dX8_angerOfAll_27 : decode cX8_angerOfAll 27 = .ok (.goto (-23), 3) := by decide +kernel
theorem dX8_angerOfAll_30 : decode cX8_angerOfAll 30 = .ok (.iload_n 1, 1) := by decide +kernel
theorem dX8_angerOfAll_31 : decode cX8_angerOfAll 31 = .ok (.ireturn, 1) := by decide +kernel
theorem dX8_foesNow_0 : decode cX8_foesNow 0 = .ok (.aload_n 0, 1) := by decide +kernel
theorem dX8_foesNow_1 : decode cX8_foesNow 1 = .ok (.invokevirtual 100, 3) := by decide +kernel
theorem dX8_foesNow_4 : decode cX8_foesNow 4 = .ok (.aload_n 0, 1) := by decide +kernel
theorem dX8_foesNow_5 : decode cX8_foesNow 5 = .ok (.iload_n 1, 1) := by decide +kernel
theorem dX8_foesNow_6 : decode cX8_foesNow 6 = .ok (.invokevirtual 103, 3) := by decide +kernel
theorem dX8_foesNow_9 : decode cX8_foesNow 9 = .ok (.ireturn, 1) := by decide +kernel
theorem dX8_changeNow_0 : decode cX8_changeNow 0 = .ok (.aload_n 0, 1) := by decide +kernel
theorem dX8_changeNow_1 : decode cX8_changeNow 1 = .ok (.invokevirtual 100, 3) := by decide +kernel
theorem dX8_changeNow_4 : decode cX8_changeNow 4 = .ok (.aload_n 0, 1) := by decide +kernel
theorem dX8_changeNow_5 : decode cX8_changeNow 5 = .ok (.iload_n 1, 1) := by decide +kernel
theorem dX8_changeNow_6 : decode cX8_changeNow 6 = .ok (.invokevirtual 106, 3) := by decide +kernel
theorem dX8_changeNow_9 : decode cX8_changeNow 9 = .ok (.ireturn, 1) := by decide +kernel
theorem dX8_passDays_0 : decode cX8_passDays 0 = .ok (.iconst 0, 1) := by decide +kernel
theorem dX8_passDays_1 : decode cX8_passDays 1 = .ok (.istore_n 2, 1) := by decide +kernel
theorem dX8_passDays_2 : decode cX8_passDays 2 = .ok (.iload_n 2, 1) := by decide +kernel
theorem dX8_passDays_3 : decode cX8_passDays 3 = .ok (.iload_n 1, 1) := by decide +kernel
theorem dX8_passDays_4 : decode cX8_passDays 4 = .ok (.if_icmp .ge 13, 3) := by decide +kernel
theorem dX8_passDays_7 : decode cX8_passDays 7 = .ok (.aload_n 0, 1) := by decide +kernel
theorem dX8_passDays_8 : decode cX8_passDays 8 = .ok (.invokevirtual 109, 3) := by decide +kernel
theorem dX8_passDays_11 : decode cX8_passDays 11 = .ok (.iinc 2 1, 3) := by decide +kernel
theorem dX8_passDays_14 : decode cX8_passDays 14 = .ok (.goto (-12), 3) := by decide +kernel
theorem dX8_passDays_17 : decode cX8_passDays 17 = .ok (.return_, 1) := by decide +kernel
theorem dX8_passDay_0 : decode cX8_passDay 0 = .ok (.aload_n 0, 1) := by decide +kernel
theorem dX8_passDay_1 : decode cX8_passDay 1 = .ok (.invokevirtual 112, 3) := by decide +kernel
theorem dX8_passDay_4 : decode cX8_passDay 4 = .ok (.aload_n 0, 1) := by decide +kernel
theorem dX8_passDay_5 : decode cX8_passDay 5 = .ok (.invokevirtual 115, 3) := by decide +kernel
theorem dX8_passDay_8 : decode cX8_passDay 8 = .ok (.aload_n 0, 1) := by decide +kernel
theorem dX8_passDay_9 : decode cX8_passDay 9 = .ok (.invokevirtual 118, 3) := by decide +kernel
theorem dX8_passDay_12 : decode cX8_passDay 12 = .ok (.aload_n 0, 1) := by decide +kernel
theorem dX8_passDay_13 : decode cX8_passDay 13 = .ok (.invokevirtual 121, 3) := by decide +kernel
theorem dX8_passDay_16 : decode cX8_passDay 16 = .ok (.aload_n 0, 1) := by decide +kernel
theorem dX8_passDay_17 : decode cX8_passDay 17 = .ok (.getfield 11, 3) := by decide +kernel
theorem dX8_passDay_20 : decode cX8_passDay 20 = .ok (.bipush 47, 2) := by decide +kernel
theorem dX8_passDay_22 : decode cX8_passDay 22 = .ok (.dup2, 1) := by decide +kernel
theorem dX8_passDay_23 : decode cX8_passDay 23 = .ok (.iaload, 1) := by decide +kernel
theorem dX8_passDay_24 : decode cX8_passDay 24 = .ok (.iconst 1, 1) := by decide +kernel
theorem dX8_passDay_25 : decode cX8_passDay 25 = .ok (.iadd, 1) := by decide +kernel
theorem dX8_passDay_26 : decode cX8_passDay 26 = .ok (.iastore, 1) := by decide +kernel
theorem dX8_passDay_27 : decode cX8_passDay 27 = .ok (.return_, 1) := by decide +kernel
theorem dX8_lookRound_0 : decode cX8_lookRound 0 = .ok (.iconst 0, 1) := by decide +kernel
theorem dX8_lookRound_1 : decode cX8_lookRound 1 = .ok (.istore_n 1, 1) := by decide +kernel
theorem dX8_lookRound_2 : decode cX8_lookRound 2 = .ok (.iload_n 1, 1) := by decide +kernel
theorem dX8_lookRound_3 : decode cX8_lookRound 3 = .ok (.bipush 6, 2) := by decide +kernel
theorem dX8_lookRound_5 : decode cX8_lookRound 5 = .ok (.if_icmp .gt 16, 3) := by decide +kernel
theorem dX8_lookRound_8 : decode cX8_lookRound 8 = .ok (.aload_n 0, 1) := by decide +kernel
theorem dX8_lookRound_9 : decode cX8_lookRound 9 = .ok (.getfield 18, 3) := by decide +kernel
theorem dX8_lookRound_12 : decode cX8_lookRound 12 = .ok (.iload_n 1, 1) := by decide +kernel
theorem dX8_lookRound_13 : decode cX8_lookRound 13 = .ok (.iconst 0, 1) := by decide +kernel
theorem dX8_lookRound_14 : decode cX8_lookRound 14 = .ok (.iastore, 1) := by decide +kernel
theorem dX8_lookRound_15 : decode cX8_lookRound 15 = .ok (.iinc 1 1, 3) := by decide +kernel
theorem dX8_lookRound_18 : decode cX8_lookRound 18 = .ok (.goto (-16), 3) := by decide +kernel
theorem dX8_lookRound_21 : decode cX8_lookRound 21 = .ok (.iconst 0, 1) := by decide +kernel
theorem dX8_lookRound_22 : decode cX8_lookRound 22 = .ok (.istore_n 1, 1) := by decide +kernel
theorem dX8_lookRound_23 : decode cX8_lookRound 23 = .ok (.iload_n 1, 1) := by decide +kernel
theorem dX8_lookRound_24 : decode cX8_lookRound 24 = .ok (.aload_n 0, 1) := by decide +kernel
theorem dX8_lookRound_25 : decode cX8_lookRound 25 = .ok (.getfield 31, 3) := by decide +kernel
theorem dX8_lookRound_28 : decode cX8_lookRound 28 = .ok (.getfield 40, 3) := by decide +kernel
theorem dX8_lookRound_31 : decode cX8_lookRound 31 = .ok (.if_icmp .ge 41, 3) := by decide +kernel
theorem dX8_lookRound_34 : decode cX8_lookRound 34 = .ok (.aload_n 0, 1) := by decide +kernel
theorem dX8_lookRound_35 : decode cX8_lookRound 35 = .ok (.getfield 11, 3) := by decide +kernel
theorem dX8_lookRound_38 : decode cX8_lookRound 38 = .ok (.bipush 10, 2) := by decide +kernel
theorem dX8_lookRound_40 : decode cX8_lookRound 40 = .ok (.iload_n 1, 1) := by decide +kernel
theorem dX8_lookRound_41 : decode cX8_lookRound 41 = .ok (.iadd, 1) := by decide +kernel
theorem dX8_lookRound_42 : decode cX8_lookRound 42 = .ok (.iaload, 1) := by decide +kernel
theorem dX8_lookRound_43 : decode cX8_lookRound 43 = .ok (.istore_n 2, 1) := by decide +kernel
theorem dX8_lookRound_44 : decode cX8_lookRound 44 = .ok (.iload_n 2, 1) := by decide +kernel
theorem dX8_lookRound_45 : decode cX8_lookRound 45 = .ok (.ifCond .lt 21, 3) := by decide +kernel
theorem dX8_lookRound_48 : decode cX8_lookRound 48 = .ok (.iload_n 2, 1) := by decide +kernel
theorem dX8_lookRound_49 : decode cX8_lookRound 49 = .ok (.bipush 6, 2) := by decide +kernel
theorem dX8_lookRound_51 : decode cX8_lookRound 51 = .ok (.if_icmp .gt 15, 3) := by decide +kernel
theorem dX8_lookRound_54 : decode cX8_lookRound 54 = .ok (.aload_n 0, 1) := by decide +kernel
theorem dX8_lookRound_55 : decode cX8_lookRound 55 = .ok (.getfield 18, 3) := by decide +kernel
theorem dX8_lookRound_58 : decode cX8_lookRound 58 = .ok (.iload_n 2, 1) := by decide +kernel
theorem dX8_lookRound_59 : decode cX8_lookRound 59 = .ok (.dup2, 1) := by decide +kernel
theorem dX8_lookRound_60 : decode cX8_lookRound 60 = .ok (.iaload, 1) := by decide +kernel
theorem dX8_lookRound_61 : decode cX8_lookRound 61 = .ok (.iconst 1, 1) := by decide +kernel
theorem dX8_lookRound_62 : decode cX8_lookRound 62 = .ok (.iload_n 1, 1) := by decide +kernel
theorem dX8_lookRound_63 : decode cX8_lookRound 63 = .ok (.ishl, 1) := by decide +kernel
theorem dX8_lookRound_64 : decode cX8_lookRound 64 = .ok (.ior, 1) := by decide +kernel
theorem dX8_lookRound_65 : decode cX8_lookRound 65 = .ok (.iastore, 1) := by decide +kernel
theorem dX8_lookRound_66 : decode cX8_lookRound 66 = .ok (.iinc 1 1, 3) := by decide +kernel
theorem dX8_lookRound_69 : decode cX8_lookRound 69 = .ok (.goto (-46), 3) := by decide +kernel
theorem dX8_lookRound_72 : decode cX8_lookRound 72 = .ok (.return_, 1) := by decide +kernel
theorem dX8_foesWith_0 : decode cX8_foesWith 0 = .ok (.aload_n 0, 1) := by decide +kernel
theorem dX8_foesWith_1 : decode cX8_foesWith 1 = .ok (.getfield 11, 3) := by decide +kernel
theorem dX8_foesWith_4 : decode cX8_foesWith 4 = .ok (.bipush 10, 2) := by decide +kernel
theorem dX8_foesWith_6 : decode cX8_foesWith 6 = .ok (.iload_n 1, 1) := by decide +kernel
theorem dX8_foesWith_7 : decode cX8_foesWith 7 = .ok (.iadd, 1) := by decide +kernel
theorem dX8_foesWith_8 : decode cX8_foesWith 8 = .ok (.iaload, 1) := by decide +kernel
theorem dX8_foesWith_9 : decode cX8_foesWith 9 = .ok (.istore_n 2, 1) := by decide +kernel
theorem dX8_foesWith_10 : decode cX8_foesWith 10 = .ok (.iload_n 2, 1) := by decide +kernel
theorem dX8_foesWith_11 : decode cX8_foesWith 11 = .ok (.ifCond .lt 9, 3) := by decide +kernel
theorem dX8_foesWith_14 : decode cX8_foesWith 14 = .ok (.iload_n 2, 1) := by decide +kernel
theorem dX8_foesWith_15 : decode cX8_foesWith 15 = .ok (.bipush 6, 2) := by decide +kernel
theorem dX8_foesWith_17 : decode cX8_foesWith 17 = .ok (.if_icmp .lt 5, 3) := by decide +kernel
theorem dX8_foesWith_20 : decode cX8_foesWith 20 = .ok (.iconst 0, 1) := by decide +kernel
theorem dX8_foesWith_21 : decode cX8_foesWith 21 = .ok (.ireturn, 1) := by decide +kernel
theorem dX8_foesWith_22 : decode cX8_foesWith 22 = .ok (.aload_n 0, 1) := by decide +kernel
theorem dX8_foesWith_23 : decode cX8_foesWith 23 = .ok (.getfield 18, 3) := by decide +kernel
theorem dX8_foesWith_26 : decode cX8_foesWith 26 = .ok (.iload_n 2, 1) := by decide +kernel
theorem dX8_foesWith_27 : decode cX8_foesWith 27 = .ok (.iaload, 1) := by decide +kernel
theorem dX8_foesWith_28 : decode cX8_foesWith 28 = .ok (.aload_n 0, 1) := by decide +kernel
theorem dX8_foesWith_29 : decode cX8_foesWith 29 = .ok (.getfield 11, 3) := by decide +kernel
theorem dX8_foesWith_32 : decode cX8_foesWith 32 = .ok (.bipush 41, 2) := by decide +kernel
theorem dX8_foesWith_34 : decode cX8_foesWith 34 = .ok (.aload_n 0, 1) := by decide +kernel
theorem dX8_foesWith_35 : decode cX8_foesWith 35 = .ok (.getfield 31, 3) := by decide +kernel
theorem dX8_foesWith_38 : decode cX8_foesWith 38 = .ok (.getfield 124, 3) := by decide +kernel
theorem dX8_foesWith_41 : decode cX8_foesWith 41 = .ok (.iload_n 1, 1) := by decide +kernel
theorem dX8_foesWith_42 : decode cX8_foesWith 42 = .ok (.iaload, 1) := by decide +kernel
theorem dX8_foesWith_43 : decode cX8_foesWith 43 = .ok (.iadd, 1) := by decide +kernel
theorem dX8_foesWith_44 : decode cX8_foesWith 44 = .ok (.iaload, 1) := by decide +kernel
theorem dX8_foesWith_45 : decode cX8_foesWith 45 = .ok (.iand, 1) := by decide +kernel
theorem dX8_foesWith_46 : decode cX8_foesWith 46 = .ok (.invokestatic 127, 3) := by decide +kernel
theorem dX8_foesWith_49 : decode cX8_foesWith 49 = .ok (.ireturn, 1) := by decide +kernel
theorem dX8_changeOf_0 : decode cX8_changeOf 0 = .ok (.aload_n 0, 1) := by decide +kernel
theorem dX8_changeOf_1 : decode cX8_changeOf 1 = .ok (.getfield 11, 3) := by decide +kernel
theorem dX8_changeOf_4 : decode cX8_changeOf 4 = .ok (.bipush 10, 2) := by decide +kernel
theorem dX8_changeOf_6 : decode cX8_changeOf 6 = .ok (.iload_n 1, 1) := by decide +kernel
theorem dX8_changeOf_7 : decode cX8_changeOf 7 = .ok (.iadd, 1) := by decide +kernel
theorem dX8_changeOf_8 : decode cX8_changeOf 8 = .ok (.iaload, 1) := by decide +kernel
theorem dX8_changeOf_9 : decode cX8_changeOf 9 = .ok (.istore_n 2, 1) := by decide +kernel
theorem dX8_changeOf_10 : decode cX8_changeOf 10 = .ok (.iload_n 2, 1) := by decide +kernel
theorem dX8_changeOf_11 : decode cX8_changeOf 11 = .ok (.ifCond .lt 9, 3) := by decide +kernel
theorem dX8_changeOf_14 : decode cX8_changeOf 14 = .ok (.iload_n 2, 1) := by decide +kernel
theorem dX8_changeOf_15 : decode cX8_changeOf 15 = .ok (.bipush 6, 2) := by decide +kernel
theorem dX8_changeOf_17 : decode cX8_changeOf 17 = .ok (.if_icmp .lt 5, 3) := by decide +kernel
theorem dX8_changeOf_20 : decode cX8_changeOf 20 = .ok (.iconst 0, 1) := by decide +kernel
theorem dX8_changeOf_21 : decode cX8_changeOf 21 = .ok (.ireturn, 1) := by decide +kernel
theorem dX8_changeOf_22 : decode cX8_changeOf 22 = .ok (.iload_n 2, 1) := by decide +kernel
theorem dX8_changeOf_23 : decode cX8_changeOf 23 = .ok (.ifCond .ne 7, 3) := by decide +kernel
theorem dX8_changeOf_26 : decode cX8_changeOf 26 = .ok (.iconst 1, 1) := by decide +kernel
theorem dX8_changeOf_27 : decode cX8_changeOf 27 = .ok (.goto 4, 3) := by decide +kernel
theorem dX8_changeOf_30 : decode cX8_changeOf 30 = .ok (.iconst 0, 1) := by decide +kernel
theorem dX8_changeOf_31 : decode cX8_changeOf 31 = .ok (.istore_n 3, 1) := by decide +kernel
theorem dX8_changeOf_32 : decode cX8_changeOf 32 = .ok (.aload_n 0, 1) := by decide +kernel
theorem dX8_changeOf_33 : decode cX8_changeOf 33 = .ok (.iload_n 1, 1) := by decide +kernel
theorem dX8_changeOf_34 : decode cX8_changeOf 34 = .ok (.invokevirtual 103, 3) := by decide +kernel
theorem dX8_changeOf_37 : decode cX8_changeOf 37 = .ok (.istore 4, 2) := by decide +kernel
theorem dX8_changeOf_39 : decode cX8_changeOf 39 = .ok (.iload_n 3, 1) := by decide +kernel
theorem dX8_changeOf_40 : decode cX8_changeOf 40 = .ok (.ifCond .eq 16, 3) := by decide +kernel
theorem dX8_changeOf_43 : decode cX8_changeOf 43 = .ok (.aload_n 0, 1) := by decide +kernel
theorem dX8_changeOf_44 : decode cX8_changeOf 44 = .ok (.getfield 31, 3) := by decide +kernel
theorem dX8_changeOf_47 : decode cX8_changeOf 47 = .ok (.invokevirtual 132, 3) := by decide +kernel
theorem dX8_changeOf_50 : decode cX8_changeOf 50 = .ok (.ifCond .ne 30, 3) := by decide +kernel
theorem dX8_changeOf_53 : decode cX8_changeOf 53 = .ok (.goto 13, 3) := by decide +kernel
theorem dX8_changeOf_56 : decode cX8_changeOf 56 = .ok (.aload_n 0, 1) := by decide +kernel
theorem dX8_changeOf_57 : decode cX8_changeOf 57 = .ok (.getfield 31, 3) := by decide +kernel
theorem dX8_changeOf_60 : decode cX8_changeOf 60 = .ok (.invokevirtual 136, 3) := by decide +kernel
theorem dX8_changeOf_63 : decode cX8_changeOf 63 = .ok (.ifCond .ne 17, 3) := by decide +kernel
theorem dX8_changeOf_66 : decode cX8_changeOf 66 = .ok (.iload_n 3, 1) := by decide +kernel
theorem dX8_changeOf_67 : decode cX8_changeOf 67 = .ok (.ifCond .eq 8, 3) := by decide +kernel
theorem dX8_changeOf_70 : decode cX8_changeOf 70 = .ok (.iload 4, 2) := by decide +kernel
theorem dX8_changeOf_72 : decode cX8_changeOf 72 = .ok (.goto 7, 3) := by decide +kernel
theorem dX8_changeOf_75 : decode cX8_changeOf 75 = .ok (.iconst 2, 1) := by decide +kernel
theorem dX8_changeOf_76 : decode cX8_changeOf 76 = .ok (.iload 4, 2) := by decide +kernel
theorem dX8_changeOf_78 : decode cX8_changeOf 78 = .ok (.iadd, 1) := by decide +kernel
theorem dX8_changeOf_79 : decode cX8_changeOf 79 = .ok (.ireturn, 1) := by decide +kernel
theorem dX8_changeOf_80 : decode cX8_changeOf 80 = .ok (.aload_n 0, 1) := by decide +kernel
theorem dX8_changeOf_81 : decode cX8_changeOf 81 = .ok (.getfield 27, 3) := by decide +kernel
theorem dX8_changeOf_84 : decode cX8_changeOf 84 = .ok (.aload_n 0, 1) := by decide +kernel
theorem dX8_changeOf_85 : decode cX8_changeOf 85 = .ok (.getfield 11, 3) := by decide +kernel
theorem dX8_changeOf_88 : decode cX8_changeOf 88 = .ok (.iload_n 1, 1) := by decide +kernel
theorem dX8_changeOf_89 : decode cX8_changeOf 89 = .ok (.iaload, 1) := by decide +kernel
theorem dX8_changeOf_90 : decode cX8_changeOf 90 = .ok (.aload_n 0, 1) := by decide +kernel
theorem dX8_changeOf_91 : decode cX8_changeOf 91 = .ok (.getfield 31, 3) := by decide +kernel
theorem dX8_changeOf_94 : decode cX8_changeOf 94 = .ok (.getfield 84, 3) := by decide +kernel
theorem dX8_changeOf_97 : decode cX8_changeOf 97 = .ok (.iload_n 1, 1) := by decide +kernel
theorem dX8_changeOf_98 : decode cX8_changeOf 98 = .ok (.iaload, 1) := by decide +kernel
theorem dX8_changeOf_99 : decode cX8_changeOf 99 = .ok (.aload_n 0, 1) := by decide +kernel
theorem dX8_changeOf_100 : decode cX8_changeOf 100 = .ok (.getfield 11, 3) := by decide +kernel
theorem dX8_changeOf_103 : decode cX8_changeOf 103 = .ok (.bipush 47, 2) := by decide +kernel
theorem dX8_changeOf_105 : decode cX8_changeOf 105 = .ok (.iaload, 1) := by decide +kernel
theorem dX8_changeOf_106 : decode cX8_changeOf 106 = .ok (.iload 4, 2) := by decide +kernel
theorem dX8_changeOf_108 : decode cX8_changeOf 108 = .ok (.invokevirtual 139, 3) := by decide +kernel
theorem dX8_changeOf_111 : decode cX8_changeOf 111 = .ok (.iload_n 3, 1) := by decide +kernel
theorem dX8_changeOf_112 : decode cX8_changeOf 112 = .ok (.ifCond .eq 36, 3) := by decide +kernel
theorem dX8_changeOf_115 : decode cX8_changeOf 115 = .ok (.aload_n 0, 1) := by decide +kernel
theorem dX8_changeOf_116 : decode cX8_changeOf 116 = .ok (.getfield 27, 3) := by decide +kernel
theorem dX8_changeOf_119 : decode cX8_changeOf 119 = .ok (.aload_n 0, 1) := by decide +kernel
theorem dX8_changeOf_120 : decode cX8_changeOf 120 = .ok (.getfield 31, 3) := by decide +kernel
theorem dX8_changeOf_123 : decode cX8_changeOf 123 = .ok (.getfield 143, 3) := by decide +kernel
theorem dX8_changeOf_126 : decode cX8_changeOf 126 = .ok (.aload_n 0, 1) := by decide +kernel
theorem dX8_changeOf_127 : decode cX8_changeOf 127 = .ok (.getfield 31, 3) := by decide +kernel
theorem dX8_changeOf_130 : decode cX8_changeOf 130 = .ok (.getfield 146, 3) := by decide +kernel
theorem dX8_changeOf_133 : decode cX8_changeOf 133 = .ok (.aload_n 0, 1) := by decide +kernel
theorem dX8_changeOf_134 : decode cX8_changeOf 134 = .ok (.getfield 31, 3) := by decide +kernel
theorem dX8_changeOf_137 : decode cX8_changeOf 137 = .ok (.getfield 149, 3) := by decide +kernel
theorem dX8_changeOf_140 : decode cX8_changeOf 140 = .ok (.invokevirtual 152, 3) := by decide +kernel
theorem dX8_changeOf_143 : decode cX8_changeOf 143 = .ok (.istore 5, 2) := by decide +kernel
theorem dX8_changeOf_145 : decode cX8_changeOf 145 = .ok (.goto 59, 3) := by decide +kernel
theorem dX8_changeOf_148 : decode cX8_changeOf 148 = .ok (.aload_n 0, 1) := by decide +kernel
theorem dX8_changeOf_149 : decode cX8_changeOf 149 = .ok (.getfield 27, 3) := by decide +kernel
theorem dX8_changeOf_152 : decode cX8_changeOf 152 = .ok (.aload_n 0, 1) := by decide +kernel
theorem dX8_changeOf_153 : decode cX8_changeOf 153 = .ok (.getfield 18, 3) := by decide +kernel
theorem dX8_changeOf_156 : decode cX8_changeOf 156 = .ok (.iload_n 2, 1) := by decide +kernel
theorem dX8_changeOf_157 : decode cX8_changeOf 157 = .ok (.iaload, 1) := by decide +kernel
theorem dX8_changeOf_158 : decode cX8_changeOf 158 = .ok (.invokestatic 127, 3) := by decide +kernel
theorem dX8_changeOf_161 : decode cX8_changeOf 161 = .ok (.iconst 1, 1) := by decide +kernel
theorem dX8_changeOf_162 : decode cX8_changeOf 162 = .ok (.isub, 1) := by decide +kernel
theorem dX8_changeOf_163 : decode cX8_changeOf 163 = .ok (.aload_n 0, 1) := by decide +kernel
theorem dX8_changeOf_164 : decode cX8_changeOf 164 = .ok (.iload_n 1, 1) := by decide +kernel
theorem dX8_changeOf_165 : decode cX8_changeOf 165 = .ok (.invokevirtual 156, 3) := by decide +kernel
theorem dX8_changeOf_168 : decode cX8_changeOf 168 = .ok (.invokestatic 127, 3) := by decide +kernel
theorem dX8_changeOf_171 : decode cX8_changeOf 171 = .ok (.invokevirtual 159, 3) := by decide +kernel
theorem dX8_changeOf_174 : decode cX8_changeOf 174 = .ok (.aload_n 0, 1) := by decide +kernel
theorem dX8_changeOf_175 : decode cX8_changeOf 175 = .ok (.getfield 27, 3) := by decide +kernel
theorem dX8_changeOf_178 : decode cX8_changeOf 178 = .ok (.aload_n 0, 1) := by decide +kernel
theorem dX8_changeOf_179 : decode cX8_changeOf 179 = .ok (.getfield 31, 3) := by decide +kernel
theorem dX8_changeOf_182 : decode cX8_changeOf 182 = .ok (.getfield 143, 3) := by decide +kernel
theorem dX8_changeOf_185 : decode cX8_changeOf 185 = .ok (.aload_n 0, 1) := by decide +kernel
theorem dX8_changeOf_186 : decode cX8_changeOf 186 = .ok (.getfield 31, 3) := by decide +kernel
theorem dX8_changeOf_189 : decode cX8_changeOf 189 = .ok (.getfield 162, 3) := by decide +kernel
theorem dX8_changeOf_192 : decode cX8_changeOf 192 = .ok (.aload_n 0, 1) := by decide +kernel
theorem dX8_changeOf_193 : decode cX8_changeOf 193 = .ok (.getfield 31, 3) := by decide +kernel
theorem dX8_changeOf_196 : decode cX8_changeOf 196 = .ok (.getfield 165, 3) := by decide +kernel
theorem dX8_changeOf_199 : decode cX8_changeOf 199 = .ok (.invokevirtual 152, 3) := by decide +kernel
theorem dX8_changeOf_202 : decode cX8_changeOf 202 = .ok (.istore 5, 2) := by decide +kernel
theorem dX8_changeOf_204 : decode cX8_changeOf 204 = .ok (.iconst 0, 1) := by decide +kernel
theorem dX8_changeOf_205 : decode cX8_changeOf 205 = .ok (.bipush 99, 2) := by decide +kernel
theorem dX8_changeOf_207 : decode cX8_changeOf 207 = .ok (.iload 5, 2) := by decide +kernel
theorem dX8_changeOf_209 : decode cX8_changeOf 209 = .ok (.invokestatic 168, 3) := by decide +kernel
theorem dX8_changeOf_212 : decode cX8_changeOf 212 = .ok (.invokestatic 174, 3) := by decide +kernel
theorem dX8_changeOf_215 : decode cX8_changeOf 215 = .ok (.ireturn, 1) := by decide +kernel
theorem dX8_changeAngers_0 : decode cX8_changeAngers 0 = .ok (.aload_n 0, 1) := by decide +kernel
theorem dX8_changeAngers_1 : decode cX8_changeAngers 1 = .ok (.invokevirtual 100, 3) := by decide +kernel
theorem dX8_changeAngers_4 : decode cX8_changeAngers 4 = .ok (.iconst 0, 1) := by decide +kernel
theorem dX8_changeAngers_5 : decode cX8_changeAngers 5 = .ok (.istore_n 1, 1) := by decide +kernel
theorem dX8_changeAngers_6 : decode cX8_changeAngers 6 = .ok (.iload_n 1, 1) := by decide +kernel
theorem dX8_changeAngers_7 : decode cX8_changeAngers 7 = .ok (.aload_n 0, 1) := by decide +kernel
theorem dX8_changeAngers_8 : decode cX8_changeAngers 8 = .ok (.getfield 31, 3) := by decide +kernel
theorem dX8_changeAngers_11 : decode cX8_changeAngers 11 = .ok (.getfield 40, 3) := by decide +kernel
theorem dX8_changeAngers_14 : decode cX8_changeAngers 14 = .ok (.if_icmp .ge 20, 3) := by decide +kernel
theorem dX8_changeAngers_17 : decode cX8_changeAngers 17 = .ok (.aload_n 0, 1) := by decide +kernel
theorem dX8_changeAngers_18 : decode cX8_changeAngers 18 = .ok (.getfield 21, 3) := by decide +kernel
theorem dX8_changeAngers_21 : decode cX8_changeAngers 21 = .ok (.iload_n 1, 1) := by decide +kernel
theorem dX8_changeAngers_22 : decode cX8_changeAngers 22 = .ok (.aload_n 0, 1) := by decide +kernel
theorem dX8_changeAngers_23 : decode cX8_changeAngers 23 = .ok (.iload_n 1, 1) := by decide +kernel
theorem dX8_changeAngers_24 : decode cX8_changeAngers 24 = .ok (.invokevirtual 106, 3) := by decide +kernel
theorem dX8_changeAngers_27 : decode cX8_changeAngers 27 = .ok (.iastore, 1) := by decide +kernel
theorem dX8_changeAngers_28 : decode cX8_changeAngers 28 = .ok (.iinc 1 1, 3) := by decide +kernel
theorem dX8_changeAngers_31 : decode cX8_changeAngers 31 = .ok (.goto (-25), 3) := by decide +kernel
theorem dX8_changeAngers_34 : decode cX8_changeAngers 34 = .ok (.iconst 0, 1) := by decide +kernel
theorem dX8_changeAngers_35 : decode cX8_changeAngers 35 = .ok (.istore_n 1, 1) := by decide +kernel
theorem dX8_changeAngers_36 : decode cX8_changeAngers 36 = .ok (.iload_n 1, 1) := by decide +kernel
theorem dX8_changeAngers_37 : decode cX8_changeAngers 37 = .ok (.aload_n 0, 1) := by decide +kernel
theorem dX8_changeAngers_38 : decode cX8_changeAngers 38 = .ok (.getfield 31, 3) := by decide +kernel
theorem dX8_changeAngers_41 : decode cX8_changeAngers 41 = .ok (.getfield 40, 3) := by decide +kernel
theorem dX8_changeAngers_44 : decode cX8_changeAngers 44 = .ok (.if_icmp .ge 67, 3) := by decide +kernel
theorem dX8_changeAngers_47 : decode cX8_changeAngers 47 = .ok (.aload_n 0, 1) := by decide +kernel
theorem dX8_changeAngers_48 : decode cX8_changeAngers 48 = .ok (.iload_n 1, 1) := by decide +kernel
theorem dX8_changeAngers_49 : decode cX8_changeAngers 49 = .ok (.invokevirtual 66, 3) := by decide +kernel
theorem dX8_changeAngers_52 : decode cX8_changeAngers 52 = .ok (.ifCond .eq 30, 3) := by decide +kernel
theorem dX8_changeAngers_55 : decode cX8_changeAngers 55 = .ok (.aload_n 0, 1) := by decide +kernel
theorem dX8_changeAngers_56 : decode cX8_changeAngers 56 = .ok (.getfield 11, 3) := by decide +kernel
theorem dX8_changeAngers_59 : decode cX8_changeAngers 59 = .ok (.iload_n 1, 1) := by decide +kernel
theorem dX8_changeAngers_60 : decode cX8_changeAngers 60 = .ok (.bipush 99, 2) := by decide +kernel
theorem dX8_changeAngers_62 : decode cX8_changeAngers 62 = .ok (.aload_n 0, 1) := by decide +kernel
theorem dX8_changeAngers_63 : decode cX8_changeAngers 63 = .ok (.getfield 11, 3) := by decide +kernel
theorem dX8_changeAngers_66 : decode cX8_changeAngers 66 = .ok (.iload_n 1, 1) := by decide +kernel
theorem dX8_changeAngers_67 : decode cX8_changeAngers 67 = .ok (.iaload, 1) := by decide +kernel
theorem dX8_changeAngers_68 : decode cX8_changeAngers 68 = .ok (.aload_n 0, 1) := by decide +kernel
theorem dX8_changeAngers_69 : decode cX8_changeAngers 69 = .ok (.getfield 21, 3) := by decide +kernel
theorem dX8_changeAngers_72 : decode cX8_changeAngers 72 = .ok (.iload_n 1, 1) := by decide +kernel
theorem dX8_changeAngers_73 : decode cX8_changeAngers 73 = .ok (.iaload, 1) := by decide +kernel
theorem dX8_changeAngers_74 : decode cX8_changeAngers 74 = .ok (.iadd, 1) := by decide +kernel
theorem dX8_changeAngers_75 : decode cX8_changeAngers 75 = .ok (.invokestatic 168, 3) := by decide +kernel
theorem dX8_changeAngers_78 : decode cX8_changeAngers 78 = .ok (.iastore, 1) := by decide +kernel
theorem dX8_changeAngers_79 : decode cX8_changeAngers 79 = .ok (.goto 26, 3) := by decide +kernel
theorem dX8_changeAngers_82 : decode cX8_changeAngers 82 = .ok (.aload_n 0, 1) := by decide +kernel
theorem dX8_changeAngers_83 : decode cX8_changeAngers 83 = .ok (.getfield 11, 3) := by decide +kernel
theorem dX8_changeAngers_86 : decode cX8_changeAngers 86 = .ok (.iload_n 1, 1) := by decide +kernel
theorem dX8_changeAngers_87 : decode cX8_changeAngers 87 = .ok (.iconst 0, 1) := by decide +kernel
theorem dX8_changeAngers_88 : decode cX8_changeAngers 88 = .ok (.aload_n 0, 1) := by decide +kernel
theorem dX8_changeAngers_89 : decode cX8_changeAngers 89 = .ok (.getfield 11, 3) := by decide +kernel
theorem dX8_changeAngers_92 : decode cX8_changeAngers 92 = .ok (.iload_n 1, 1) := by decide +kernel
theorem dX8_changeAngers_93 : decode cX8_changeAngers 93 = .ok (.iaload, 1) := by decide +kernel
theorem dX8_changeAngers_94 : decode cX8_changeAngers 94 = .ok (.aload_n 0, 1) := by decide +kernel
theorem dX8_changeAngers_95 : decode cX8_changeAngers 95 = .ok (.getfield 21, 3) := by decide +kernel
theorem dX8_changeAngers_98 : decode cX8_changeAngers 98 = .ok (.iload_n 1, 1) := by decide +kernel
theorem dX8_changeAngers_99 : decode cX8_changeAngers 99 = .ok (.iaload, 1) := by decide +kernel
theorem dX8_changeAngers_100 : decode cX8_changeAngers 100 = .ok (.isub, 1) := by decide +kernel
theorem dX8_changeAngers_101 : decode cX8_changeAngers 101 = .ok (.invokestatic 174, 3) := by decide +kernel
theorem dX8_changeAngers_104 : decode cX8_changeAngers 104 = .ok (.iastore, 1) := by decide +kernel
theorem dX8_changeAngers_105 : decode cX8_changeAngers 105 = .ok (.iinc 1 1, 3) := by decide +kernel
theorem dX8_changeAngers_108 : decode cX8_changeAngers 108 = .ok (.goto (-72), 3) := by decide +kernel
theorem dX8_changeAngers_111 : decode cX8_changeAngers 111 = .ok (.return_, 1) := by decide +kernel
theorem dX8_layToRest_0 : decode cX8_layToRest 0 = .ok (.iconst 0, 1) := by decide +kernel
theorem dX8_layToRest_1 : decode cX8_layToRest 1 = .ok (.istore_n 1, 1) := by decide +kernel
theorem dX8_layToRest_2 : decode cX8_layToRest 2 = .ok (.iload_n 1, 1) := by decide +kernel
theorem dX8_layToRest_3 : decode cX8_layToRest 3 = .ok (.aload_n 0, 1) := by decide +kernel
theorem dX8_layToRest_4 : decode cX8_layToRest 4 = .ok (.getfield 31, 3) := by decide +kernel
theorem dX8_layToRest_7 : decode cX8_layToRest 7 = .ok (.getfield 40, 3) := by decide +kernel
theorem dX8_layToRest_10 : decode cX8_layToRest 10 = .ok (.if_icmp .ge 37, 3) := by decide +kernel
theorem dX8_layToRest_13 : decode cX8_layToRest 13 = .ok (.aload_n 0, 1) := by decide +kernel
theorem dX8_layToRest_14 : decode cX8_layToRest 14 = .ok (.iload_n 1, 1) := by decide +kernel
theorem dX8_layToRest_15 : decode cX8_layToRest 15 = .ok (.invokevirtual 70, 3) := by decide +kernel
theorem dX8_layToRest_18 : decode cX8_layToRest 18 = .ok (.ifCond .eq 23, 3) := by decide +kernel
theorem dX8_layToRest_21 : decode cX8_layToRest 21 = .ok (.aload_n 0, 1) := by decide +kernel
theorem dX8_layToRest_22 : decode cX8_layToRest 22 = .ok (.getfield 11, 3) := by decide +kernel
theorem dX8_layToRest_25 : decode cX8_layToRest 25 = .ok (.iload_n 1, 1) := by decide +kernel
theorem dX8_layToRest_26 : decode cX8_layToRest 26 = .ok (.iaload, 1) := by decide +kernel
theorem dX8_layToRest_27 : decode cX8_layToRest 27 = .ok (.ifCond .ne 14, 3) := by decide +kernel
theorem dX8_layToRest_30 : decode cX8_layToRest 30 = .ok (.aload_n 0, 1) := by decide +kernel
theorem dX8_layToRest_31 : decode cX8_layToRest 31 = .ok (.getfield 11, 3) := by decide +kernel
theorem dX8_layToRest_34 : decode cX8_layToRest 34 = .ok (.bipush 10, 2) := by decide +kernel
theorem dX8_layToRest_36 : decode cX8_layToRest 36 = .ok (.iload_n 1, 1) := by decide +kernel
theorem dX8_layToRest_37 : decode cX8_layToRest 37 = .ok (.iadd, 1) := by decide +kernel
theorem dX8_layToRest_38 : decode cX8_layToRest 38 = .ok (.bipush 6, 2) := by decide +kernel
theorem dX8_layToRest_40 : decode cX8_layToRest 40 = .ok (.iastore, 1) := by decide +kernel
theorem dX8_layToRest_41 : decode cX8_layToRest 41 = .ok (.iinc 1 1, 3) := by decide +kernel
theorem dX8_layToRest_44 : decode cX8_layToRest 44 = .ok (.goto (-42), 3) := by decide +kernel
theorem dX8_layToRest_47 : decode cX8_layToRest 47 = .ok (.return_, 1) := by decide +kernel
theorem dX8_hiccupAll_0 : decode cX8_hiccupAll 0 = .ok (.iconst 0, 1) := by decide +kernel
theorem dX8_hiccupAll_1 : decode cX8_hiccupAll 1 = .ok (.istore_n 1, 1) := by decide +kernel
theorem dX8_hiccupAll_2 : decode cX8_hiccupAll 2 = .ok (.iload_n 1, 1) := by decide +kernel
theorem dX8_hiccupAll_3 : decode cX8_hiccupAll 3 = .ok (.aload_n 0, 1) := by decide +kernel
theorem dX8_hiccupAll_4 : decode cX8_hiccupAll 4 = .ok (.getfield 31, 3) := by decide +kernel
theorem dX8_hiccupAll_7 : decode cX8_hiccupAll 7 = .ok (.getfield 53, 3) := by decide +kernel
theorem dX8_hiccupAll_10 : decode cX8_hiccupAll 10 = .ok (.if_icmp .ge 42, 3) := by decide +kernel
theorem dX8_hiccupAll_13 : decode cX8_hiccupAll 13 = .ok (.aload_n 0, 1) := by decide +kernel
theorem dX8_hiccupAll_14 : decode cX8_hiccupAll 14 = .ok (.getfield 31, 3) := by decide +kernel
theorem dX8_hiccupAll_17 : decode cX8_hiccupAll 17 = .ok (.getfield 177, 3) := by decide +kernel
theorem dX8_hiccupAll_20 : decode cX8_hiccupAll 20 = .ok (.iload_n 1, 1) := by decide +kernel
theorem dX8_hiccupAll_21 : decode cX8_hiccupAll 21 = .ok (.iaload, 1) := by decide +kernel
theorem dX8_hiccupAll_22 : decode cX8_hiccupAll 22 = .ok (.istore_n 2, 1) := by decide +kernel
theorem dX8_hiccupAll_23 : decode cX8_hiccupAll 23 = .ok (.iload_n 2, 1) := by decide +kernel
theorem dX8_hiccupAll_24 : decode cX8_hiccupAll 24 = .ok (.ifCond .le 22, 3) := by decide +kernel
theorem dX8_hiccupAll_27 : decode cX8_hiccupAll 27 = .ok (.aload_n 0, 1) := by decide +kernel
theorem dX8_hiccupAll_28 : decode cX8_hiccupAll 28 = .ok (.getfield 11, 3) := by decide +kernel
theorem dX8_hiccupAll_31 : decode cX8_hiccupAll 31 = .ok (.bipush 47, 2) := by decide +kernel
theorem dX8_hiccupAll_33 : decode cX8_hiccupAll 33 = .ok (.iaload, 1) := by decide +kernel
theorem dX8_hiccupAll_34 : decode cX8_hiccupAll 34 = .ok (.iconst 1, 1) := by decide +kernel
theorem dX8_hiccupAll_35 : decode cX8_hiccupAll 35 = .ok (.iadd, 1) := by decide +kernel
theorem dX8_hiccupAll_36 : decode cX8_hiccupAll 36 = .ok (.iload_n 2, 1) := by decide +kernel
theorem dX8_hiccupAll_37 : decode cX8_hiccupAll 37 = .ok (.irem, 1) := by decide +kernel
theorem dX8_hiccupAll_38 : decode cX8_hiccupAll 38 = .ok (.ifCond .ne 8, 3) := by decide +kernel
theorem dX8_hiccupAll_41 : decode cX8_hiccupAll 41 = .ok (.aload_n 0, 1) := by decide +kernel
theorem dX8_hiccupAll_42 : decode cX8_hiccupAll 42 = .ok (.iload_n 1, 1) := by decide +kernel
theorem dX8_hiccupAll_43 : decode cX8_hiccupAll 43 = .ok (.invokevirtual 180, 3) := by decide +kernel
theorem dX8_hiccupAll_46 : decode cX8_hiccupAll 46 = .ok (.iinc 1 1, 3) := by decide +kernel
theorem dX8_hiccupAll_49 : decode cX8_hiccupAll 49 = .ok (.goto (-47), 3) := by decide +kernel
theorem dX8_hiccupAll_52 : decode cX8_hiccupAll 52 = .ok (.return_, 1) := by decide +kernel
theorem dX8_fightAll_0 : decode cX8_fightAll 0 = .ok (.iconst 0, 1) := by decide +kernel
theorem dX8_fightAll_1 : decode cX8_fightAll 1 = .ok (.istore_n 1, 1) := by decide +kernel
theorem dX8_fightAll_2 : decode cX8_fightAll 2 = .ok (.iconst 0, 1) := by decide +kernel
theorem dX8_fightAll_3 : decode cX8_fightAll 3 = .ok (.istore_n 2, 1) := by decide +kernel
theorem dX8_fightAll_4 : decode cX8_fightAll 4 = .ok (.iload_n 2, 1) := by decide +kernel
theorem dX8_fightAll_5 : decode cX8_fightAll 5 = .ok (.aload_n 0, 1) := by decide +kernel
theorem dX8_fightAll_6 : decode cX8_fightAll 6 = .ok (.getfield 31, 3) := by decide +kernel
theorem dX8_fightAll_9 : decode cX8_fightAll 9 = .ok (.getfield 40, 3) := by decide +kernel
theorem dX8_fightAll_12 : decode cX8_fightAll 12 = .ok (.if_icmp .ge 39, 3) := by decide +kernel
theorem dX8_fightAll_15 : decode cX8_fightAll 15 = .ok (.aload_n 0, 1) := by decide +kernel
theorem dX8_fightAll_16 : decode cX8_fightAll 16 = .ok (.iload_n 2, 1) := by decide +kernel
theorem dX8_fightAll_17 : decode cX8_fightAll 17 = .ok (.invokevirtual 66, 3) := by decide +kernel
theorem dX8_fightAll_20 : decode cX8_fightAll 20 = .ok (.ifCond .eq 25, 3) := by decide +kernel
theorem dX8_fightAll_23 : decode cX8_fightAll 23 = .ok (.aload_n 0, 1) := by decide +kernel
theorem dX8_fightAll_24 : decode cX8_fightAll 24 = .ok (.getfield 11, 3) := by decide +kernel
theorem dX8_fightAll_27 : decode cX8_fightAll 27 = .ok (.iload_n 2, 1) := by decide +kernel
theorem dX8_fightAll_28 : decode cX8_fightAll 28 = .ok (.iaload, 1) := by decide +kernel
theorem dX8_fightAll_29 : decode cX8_fightAll 29 = .ok (.aload_n 0, 1) := by decide +kernel
theorem dX8_fightAll_30 : decode cX8_fightAll 30 = .ok (.getfield 31, 3) := by decide +kernel
theorem dX8_fightAll_33 : decode cX8_fightAll 33 = .ok (.getfield 184, 3) := by decide +kernel
theorem dX8_fightAll_36 : decode cX8_fightAll 36 = .ok (.if_icmp .lt 9, 3) := by decide +kernel
theorem dX8_fightAll_39 : decode cX8_fightAll 39 = .ok (.iload_n 1, 1) := by decide +kernel
theorem dX8_fightAll_40 : decode cX8_fightAll 40 = .ok (.iconst 1, 1) := by decide +kernel
theorem dX8_fightAll_41 : decode cX8_fightAll 41 = .ok (.iload_n 2, 1) := by decide +kernel
theorem dX8_fightAll_42 : decode cX8_fightAll 42 = .ok (.ishl, 1) := by decide +kernel
theorem dX8_fightAll_43 : decode cX8_fightAll 43 = .ok (.ior, 1) := by decide +kernel
theorem dX8_fightAll_44 : decode cX8_fightAll 44 = .ok (.istore_n 1, 1) := by decide +kernel
theorem dX8_fightAll_45 : decode cX8_fightAll 45 = .ok (.iinc 2 1, 3) := by decide +kernel
theorem dX8_fightAll_48 : decode cX8_fightAll 48 = .ok (.goto (-44), 3) := by decide +kernel
theorem dX8_fightAll_51 : decode cX8_fightAll 51 = .ok (.iconst 0, 1) := by decide +kernel
theorem dX8_fightAll_52 : decode cX8_fightAll 52 = .ok (.istore_n 2, 1) := by decide +kernel
theorem dX8_fightAll_53 : decode cX8_fightAll 53 = .ok (.iload_n 2, 1) := by decide +kernel
theorem dX8_fightAll_54 : decode cX8_fightAll 54 = .ok (.aload_n 0, 1) := by decide +kernel
theorem dX8_fightAll_55 : decode cX8_fightAll 55 = .ok (.getfield 31, 3) := by decide +kernel
theorem dX8_fightAll_58 : decode cX8_fightAll 58 = .ok (.getfield 40, 3) := by decide +kernel
theorem dX8_fightAll_61 : decode cX8_fightAll 61 = .ok (.if_icmp .ge 41, 3) := by decide +kernel
theorem dX8_fightAll_64 : decode cX8_fightAll 64 = .ok (.aload_n 0, 1) := by decide +kernel
theorem dX8_fightAll_65 : decode cX8_fightAll 65 = .ok (.iload_n 2, 1) := by decide +kernel
theorem dX8_fightAll_66 : decode cX8_fightAll 66 = .ok (.iload_n 1, 1) := by decide +kernel
theorem dX8_fightAll_67 : decode cX8_fightAll 67 = .ok (.invokevirtual 187, 3) := by decide +kernel
theorem dX8_fightAll_70 : decode cX8_fightAll 70 = .ok (.istore_n 3, 1) := by decide +kernel
theorem dX8_fightAll_71 : decode cX8_fightAll 71 = .ok (.iload_n 3, 1) := by decide +kernel
theorem dX8_fightAll_72 : decode cX8_fightAll 72 = .ok (.iconst (-1), 1) := by decide +kernel
theorem dX8_fightAll_73 : decode cX8_fightAll 73 = .ok (.if_icmp .eq 23, 3) := by decide +kernel
theorem dX8_fightAll_76 : decode cX8_fightAll 76 = .ok (.aload_n 0, 1) := by decide +kernel
theorem dX8_fightAll_77 : decode cX8_fightAll 77 = .ok (.iload_n 2, 1) := by decide +kernel
theorem dX8_fightAll_78 : decode cX8_fightAll 78 = .ok (.iload_n 3, 1) := by decide +kernel
theorem dX8_fightAll_79 : decode cX8_fightAll 79 = .ok (.invokevirtual 190, 3) := by decide +kernel
theorem dX8_fightAll_82 : decode cX8_fightAll 82 = .ok (.iload_n 1, 1) := by decide +kernel
theorem dX8_fightAll_83 : decode cX8_fightAll 83 = .ok (.iconst 1, 1) := by decide +kernel
theorem dX8_fightAll_84 : decode cX8_fightAll 84 = .ok (.iload_n 2, 1) := by decide +kernel
theorem dX8_fightAll_85 : decode cX8_fightAll 85 = .ok (.ishl, 1) := by decide +kernel
theorem dX8_fightAll_86 : decode cX8_fightAll 86 = .ok (.iconst (-1), 1) := by decide +kernel
theorem dX8_fightAll_87 : decode cX8_fightAll 87 = .ok (.ixor, 1) := by decide +kernel
theorem dX8_fightAll_88 : decode cX8_fightAll 88 = .ok (.iconst 1, 1) := by decide +kernel
theorem dX8_fightAll_89 : decode cX8_fightAll 89 = .ok (.iload_n 3, 1) := by decide +kernel
theorem dX8_fightAll_90 : decode cX8_fightAll 90 = .ok (.ishl, 1) := by decide +kernel
theorem dX8_fightAll_91 : decode cX8_fightAll 91 = .ok (.iconst (-1), 1) := by decide +kernel
theorem dX8_fightAll_92 : decode cX8_fightAll 92 = .ok (.ixor, 1) := by decide +kernel
theorem dX8_fightAll_93 : decode cX8_fightAll 93 = .ok (.iand, 1) := by decide +kernel
theorem dX8_fightAll_94 : decode cX8_fightAll 94 = .ok (.iand, 1) := by decide +kernel
theorem dX8_fightAll_95 : decode cX8_fightAll 95 = .ok (.istore_n 1, 1) := by decide +kernel
theorem dX8_fightAll_96 : decode cX8_fightAll 96 = .ok (.iinc 2 1, 3) := by decide +kernel
theorem dX8_fightAll_99 : decode cX8_fightAll 99 = .ok (.goto (-46), 3) := by decide +kernel
theorem dX8_fightAll_102 : decode cX8_fightAll 102 = .ok (.return_, 1) := by decide +kernel
theorem dX8_firstFoe_0 : decode cX8_firstFoe 0 = .ok (.iload_n 2, 1) := by decide +kernel
theorem dX8_firstFoe_1 : decode cX8_firstFoe 1 = .ok (.iload_n 1, 1) := by decide +kernel
theorem dX8_firstFoe_2 : decode cX8_firstFoe 2 = .ok (.ishr, 1) := by decide +kernel
theorem dX8_firstFoe_3 : decode cX8_firstFoe 3 = .ok (.iconst 1, 1) := by decide +kernel
theorem dX8_firstFoe_4 : decode cX8_firstFoe 4 = .ok (.iand, 1) := by decide +kernel
theorem dX8_firstFoe_5 : decode cX8_firstFoe 5 = .ok (.ifCond .ne 5, 3) := by decide +kernel
theorem dX8_firstFoe_8 : decode cX8_firstFoe 8 = .ok (.iconst (-1), 1) := by decide +kernel
theorem dX8_firstFoe_9 : decode cX8_firstFoe 9 = .ok (.ireturn, 1) := by decide +kernel
theorem dX8_firstFoe_10 : decode cX8_firstFoe 10 = .ok (.iload_n 2, 1) := by decide +kernel
theorem dX8_firstFoe_11 : decode cX8_firstFoe 11 = .ok (.aload_n 0, 1) := by decide +kernel
theorem dX8_firstFoe_12 : decode cX8_firstFoe 12 = .ok (.getfield 11, 3) := by decide +kernel
theorem dX8_firstFoe_15 : decode cX8_firstFoe 15 = .ok (.bipush 41, 2) := by decide +kernel
theorem dX8_firstFoe_17 : decode cX8_firstFoe 17 = .ok (.aload_n 0, 1) := by decide +kernel
theorem dX8_firstFoe_18 : decode cX8_firstFoe 18 = .ok (.getfield 31, 3) := by decide +kernel
theorem dX8_firstFoe_21 : decode cX8_firstFoe 21 = .ok (.getfield 124, 3) := by decide +kernel
theorem dX8_firstFoe_24 : decode cX8_firstFoe 24 = .ok (.iload_n 1, 1) := by decide +kernel
theorem dX8_firstFoe_25 : decode cX8_firstFoe 25 = .ok (.iaload, 1) := by decide +kernel
theorem dX8_firstFoe_26 : decode cX8_firstFoe 26 = .ok (.iadd, 1) := by decide +kernel
theorem dX8_firstFoe_27 : decode cX8_firstFoe 27 = .ok (.iaload, 1) := by decide +kernel
theorem dX8_firstFoe_28 : decode cX8_firstFoe 28 = .ok (.iand, 1) := by decide +kernel
theorem dX8_firstFoe_29 : decode cX8_firstFoe 29 = .ok (.istore_n 3, 1) := by decide +kernel
theorem dX8_firstFoe_30 : decode cX8_firstFoe 30 = .ok (.iload_n 1, 1) := by decide +kernel
theorem dX8_firstFoe_31 : decode cX8_firstFoe 31 = .ok (.iconst 1, 1) := by decide +kernel
theorem dX8_firstFoe_32 : decode cX8_firstFoe 32 = .ok (.iadd, 1) := by decide +kernel
theorem dX8_firstFoe_33 : decode cX8_firstFoe 33 = .ok (.istore 4, 2) := by decide +kernel
theorem dX8_firstFoe_35 : decode cX8_firstFoe 35 = .ok (.iload 4, 2) := by decide +kernel
theorem dX8_firstFoe_37 : decode cX8_firstFoe 37 = .ok (.aload_n 0, 1) := by decide +kernel
theorem dX8_firstFoe_38 : decode cX8_firstFoe 38 = .ok (.getfield 31, 3) := by decide +kernel
theorem dX8_firstFoe_41 : decode cX8_firstFoe 41 = .ok (.getfield 40, 3) := by decide +kernel
theorem dX8_firstFoe_44 : decode cX8_firstFoe 44 = .ok (.if_icmp .ge 21, 3) := by decide +kernel
theorem dX8_firstFoe_47 : decode cX8_firstFoe 47 = .ok (.iload_n 3, 1) := by decide +kernel
theorem dX8_firstFoe_48 : decode cX8_firstFoe 48 = .ok (.iload 4, 2) := by decide +kernel
theorem dX8_firstFoe_50 : decode cX8_firstFoe 50 = .ok (.ishr, 1) := by decide +kernel
theorem dX8_firstFoe_51 : decode cX8_firstFoe 51 = .ok (.iconst 1, 1) := by decide +kernel
theorem dX8_firstFoe_52 : decode cX8_firstFoe 52 = .ok (.iand, 1) := by decide +kernel
theorem dX8_firstFoe_53 : decode cX8_firstFoe 53 = .ok (.ifCond .eq 6, 3) := by decide +kernel
theorem dX8_firstFoe_56 : decode cX8_firstFoe 56 = .ok (.iload 4, 2) := by decide +kernel
theorem dX8_firstFoe_58 : decode cX8_firstFoe 58 = .ok (.ireturn, 1) := by decide +kernel
theorem dX8_firstFoe_59 : decode cX8_firstFoe 59 = .ok (.iinc 4 1, 3) := by decide +kernel
theorem dX8_firstFoe_62 : decode cX8_firstFoe 62 = .ok (.goto (-27), 3) := by decide +kernel
theorem dX8_firstFoe_65 : decode cX8_firstFoe 65 = .ok (.iconst (-1), 1) := by decide +kernel
theorem dX8_firstFoe_66 : decode cX8_firstFoe 66 = .ok (.ireturn, 1) := by decide +kernel
theorem dX8_fight_0 : decode cX8_fight 0 = .ok (.aload_n 0, 1) := by decide +kernel
theorem dX8_fight_1 : decode cX8_fight 1 = .ok (.getfield 11, 3) := by decide +kernel
theorem dX8_fight_4 : decode cX8_fight 4 = .ok (.iload_n 1, 1) := by decide +kernel
theorem dX8_fight_5 : decode cX8_fight 5 = .ok (.dup2, 1) := by decide +kernel
theorem dX8_fight_6 : decode cX8_fight 6 = .ok (.iaload, 1) := by decide +kernel
theorem dX8_fight_7 : decode cX8_fight 7 = .ok (.iconst 2, 1) := by decide +kernel
theorem dX8_fight_8 : decode cX8_fight 8 = .ok (.idiv, 1) := by decide +kernel
theorem dX8_fight_9 : decode cX8_fight 9 = .ok (.iastore, 1) := by decide +kernel
theorem dX8_fight_10 : decode cX8_fight 10 = .ok (.aload_n 0, 1) := by decide +kernel
theorem dX8_fight_11 : decode cX8_fight 11 = .ok (.getfield 11, 3) := by decide +kernel
theorem dX8_fight_14 : decode cX8_fight 14 = .ok (.iload_n 2, 1) := by decide +kernel
theorem dX8_fight_15 : decode cX8_fight 15 = .ok (.dup2, 1) := by decide +kernel
theorem dX8_fight_16 : decode cX8_fight 16 = .ok (.iaload, 1) := by decide +kernel
theorem dX8_fight_17 : decode cX8_fight 17 = .ok (.iconst 2, 1) := by decide +kernel
theorem dX8_fight_18 : decode cX8_fight 18 = .ok (.idiv, 1) := by decide +kernel
theorem dX8_fight_19 : decode cX8_fight 19 = .ok (.iastore, 1) := by decide +kernel
theorem dX8_fight_20 : decode cX8_fight 20 = .ok (.aload_n 0, 1) := by decide +kernel
theorem dX8_fight_21 : decode cX8_fight 21 = .ok (.getfield 11, 3) := by decide +kernel
theorem dX8_fight_24 : decode cX8_fight 24 = .ok (.bipush 48, 2) := by decide +kernel
theorem dX8_fight_26 : decode cX8_fight 26 = .ok (.dup2, 1) := by decide +kernel
theorem dX8_fight_27 : decode cX8_fight 27 = .ok (.iaload, 1) := by decide +kernel
theorem dX8_fight_28 : decode cX8_fight 28 = .ok (.iconst 1, 1) := by decide +kernel
theorem dX8_fight_29 : decode cX8_fight 29 = .ok (.iadd, 1) := by decide +kernel
theorem dX8_fight_30 : decode cX8_fight 30 = .ok (.iastore, 1) := by decide +kernel
theorem dX8_fight_31 : decode cX8_fight 31 = .ok (.aload_n 0, 1) := by decide +kernel
theorem dX8_fight_32 : decode cX8_fight 32 = .ok (.getfield 15, 3) := by decide +kernel
theorem dX8_fight_35 : decode cX8_fight 35 = .ok (.aload_n 0, 1) := by decide +kernel
theorem dX8_fight_36 : decode cX8_fight 36 = .ok (.getfield 31, 3) := by decide +kernel
theorem dX8_fight_39 : decode cX8_fight 39 = .ok (.getfield 124, 3) := by decide +kernel
theorem dX8_fight_42 : decode cX8_fight 42 = .ok (.iload_n 1, 1) := by decide +kernel
theorem dX8_fight_43 : decode cX8_fight 43 = .ok (.iaload, 1) := by decide +kernel
theorem dX8_fight_44 : decode cX8_fight 44 = .ok (.dup2, 1) := by decide +kernel
theorem dX8_fight_45 : decode cX8_fight 45 = .ok (.iaload, 1) := by decide +kernel
theorem dX8_fight_46 : decode cX8_fight 46 = .ok (.iconst 1, 1) := by decide +kernel
theorem dX8_fight_47 : decode cX8_fight 47 = .ok (.iadd, 1) := by decide +kernel
theorem dX8_fight_48 : decode cX8_fight 48 = .ok (.iastore, 1) := by decide +kernel
theorem dX8_fight_49 : decode cX8_fight 49 = .ok (.aload_n 0, 1) := by decide +kernel
theorem dX8_fight_50 : decode cX8_fight 50 = .ok (.getfield 15, 3) := by decide +kernel
theorem dX8_fight_53 : decode cX8_fight 53 = .ok (.aload_n 0, 1) := by decide +kernel
theorem dX8_fight_54 : decode cX8_fight 54 = .ok (.getfield 31, 3) := by decide +kernel
theorem dX8_fight_57 : decode cX8_fight 57 = .ok (.getfield 124, 3) := by decide +kernel
theorem dX8_fight_60 : decode cX8_fight 60 = .ok (.iload_n 2, 1) := by decide +kernel
theorem dX8_fight_61 : decode cX8_fight 61 = .ok (.iaload, 1) := by decide +kernel
theorem dX8_fight_62 : decode cX8_fight 62 = .ok (.dup2, 1) := by decide +kernel
theorem dX8_fight_63 : decode cX8_fight 63 = .ok (.iaload, 1) := by decide +kernel
theorem dX8_fight_64 : decode cX8_fight 64 = .ok (.iconst 1, 1) := by decide +kernel
theorem dX8_fight_65 : decode cX8_fight 65 = .ok (.iadd, 1) := by decide +kernel
theorem dX8_fight_66 : decode cX8_fight 66 = .ok (.iastore, 1) := by decide +kernel
theorem dX8_fight_67 : decode cX8_fight 67 = .ok (.return_, 1) := by decide +kernel
theorem dX9_init_0 : decode cX9_init 0 = .ok (.aload_n 0, 1) := by decide +kernel
theorem dX9_init_1 : decode cX9_init 1 = .ok (.invokespecial 3, 3) := by decide +kernel
theorem dX9_init_4 : decode cX9_init 4 = .ok (.aload_n 0, 1) := by decide +kernel
theorem dX9_init_5 : decode cX9_init 5 = .ok (.bipush 8, 2) := by decide +kernel
theorem dX9_init_7 : decode cX9_init 7 = .ok (.newarray .int, 2) := by decide +kernel
theorem dX9_init_9 : decode cX9_init 9 = .ok (.putfield 9, 3) := by decide +kernel
theorem dX9_init_12 : decode cX9_init 12 = .ok (.aload_n 0, 1) := by decide +kernel
theorem dX9_init_13 : decode cX9_init 13 = .ok (.bipush 8, 2) := by decide +kernel
theorem dX9_init_15 : decode cX9_init 15 = .ok (.newarray .int, 2) := by decide +kernel
theorem dX9_init_17 : decode cX9_init 17 = .ok (.putfield 15, 3) := by decide +kernel
theorem dX9_init_20 : decode cX9_init 20 = .ok (.aload_n 0, 1) := by decide +kernel
theorem dX9_init_21 : decode cX9_init 21 = .ok (.bipush 8, 2) := by decide +kernel
theorem dX9_init_23 : decode cX9_init 23 = .ok (.newarray .int, 2) := by decide +kernel
theorem dX9_init_25 : decode cX9_init 25 = .ok (.putfield 18, 3) := by decide +kernel
theorem dX9_init_28 : decode cX9_init 28 = .ok (.return_, 1) := by decide +kernel
theorem dX9_note_0 : decode cX9_note 0 = .ok (.aload_n 0, 1) := by decide +kernel
theorem dX9_note_1 : decode cX9_note 1 = .ok (.getfield 21, 3) := by decide +kernel
theorem dX9_note_4 : decode cX9_note 4 = .ok (.bipush 8, 2) := by decide +kernel
theorem dX9_note_6 : decode cX9_note 6 = .ok (.if_icmp .ge 43, 3) := by decide +kernel
theorem dX9_note_9 : decode cX9_note 9 = .ok (.aload_n 0, 1) := by decide +kernel
theorem dX9_note_10 : decode cX9_note 10 = .ok (.getfield 9, 3) := by decide +kernel
theorem dX9_note_13 : decode cX9_note 13 = .ok (.aload_n 0, 1) := by decide +kernel
theorem dX9_note_14 : decode cX9_note 14 = .ok (.getfield 21, 3) := by decide +kernel
theorem dX9_note_17 : decode cX9_note 17 = .ok (.iload_n 1, 1) := by decide +kernel
theorem dX9_note_18 : decode cX9_note 18 = .ok (.iastore, 1) := by decide +kernel
theorem dX9_note_19 : decode cX9_note 19 = .ok (.aload_n 0, 1) := by decide +kernel
theorem dX9_note_20 : decode cX9_note 20 = .ok (.getfield 15, 3) := by decide +kernel
theorem dX9_note_23 : decode cX9_note 23 = .ok (.aload_n 0, 1) := by decide +kernel
theorem dX9_note_24 : decode cX9_note 24 = .ok (.getfield 21, 3) := by decide +kernel
theorem dX9_note_27 : decode cX9_note 27 = .ok (.iload_n 2, 1) := by decide +kernel
theorem dX9_note_28 : decode cX9_note 28 = .ok (.iastore, 1) := by decide +kernel
theorem dX9_note_29 : decode cX9_note 29 = .ok (.aload_n 0, 1) := by decide +kernel
theorem dX9_note_30 : decode cX9_note 30 = .ok (.getfield 18, 3) := by decide +kernel
theorem dX9_note_33 : decode cX9_note 33 = .ok (.aload_n 0, 1) := by decide +kernel
theorem dX9_note_34 : decode cX9_note 34 = .ok (.getfield 21, 3) := by decide +kernel
theorem dX9_note_37 : decode cX9_note 37 = .ok (.iload_n 3, 1) := by decide +kernel
theorem dX9_note_38 : decode cX9_note 38 = .ok (.iastore, 1) := by decide +kernel
theorem dX9_note_39 : decode cX9_note 39 = .ok (.aload_n 0, 1) := by decide +kernel
theorem dX9_note_40 : decode cX9_note 40 = .ok (.dup, 1) := by decide +kernel
theorem dX9_note_41 : decode cX9_note 41 = .ok (.getfield 21, 3) := by decide +kernel
theorem dX9_note_44 : decode cX9_note 44 = .ok (.iconst 1, 1) := by decide +kernel
theorem dX9_note_45 : decode cX9_note 45 = .ok (.iadd, 1) := by decide +kernel
theorem dX9_note_46 : decode cX9_note 46 = .ok (.putfield 21, 3) := by decide +kernel
theorem dX9_note_49 : decode cX9_note 49 = .ok (.return_, 1) := by decide +kernel
theorem dX9_lastDay_0 : decode cX9_lastDay 0 = .ok (.iconst (-1), 1) := by decide +kernel
theorem dX9_lastDay_1 : decode cX9_lastDay 1 = .ok (.istore_n 1, 1) := by decide +kernel
theorem dX9_lastDay_2 : decode cX9_lastDay 2 = .ok (.iconst 0, 1) := by decide +kernel
theorem dX9_lastDay_3 : decode cX9_lastDay 3 = .ok (.istore_n 2, 1) := by decide +kernel
theorem dX9_lastDay_4 : decode cX9_lastDay 4 = .ok (.iload_n 2, 1) := by decide +kernel
theorem dX9_lastDay_5 : decode cX9_lastDay 5 = .ok (.aload_n 0, 1) := by decide +kernel
theorem dX9_lastDay_6 : decode cX9_lastDay 6 = .ok (.getfield 21, 3) := by decide +kernel
theorem dX9_lastDay_9 : decode cX9_lastDay 9 = .ok (.if_icmp .ge 20, 3) := by decide +kernel
theorem dX9_lastDay_12 : decode cX9_lastDay 12 = .ok (.iload_n 1, 1) := by decide +kernel
theorem dX9_lastDay_13 : decode cX9_lastDay 13 = .ok (.aload_n 0, 1) := by decide +kernel
theorem dX9_lastDay_14 : decode cX9_lastDay 14 = .ok (.getfield 15, 3) := by decide +kernel
theorem dX9_lastDay_17 : decode cX9_lastDay 17 = .ok (.iload_n 2, 1) := by decide +kernel
theorem dX9_lastDay_18 : decode cX9_lastDay 18 = .ok (.iaload, 1) := by decide +kernel
theorem dX9_lastDay_19 : decode cX9_lastDay 19 = .ok (.invokestatic 25, 3) := by decide +kernel
theorem dX9_lastDay_22 : decode cX9_lastDay 22 = .ok (.istore_n 1, 1) := by decide +kernel
theorem dX9_lastDay_23 : decode cX9_lastDay 23 = .ok (.iinc 2 1, 3) := by decide +kernel
theorem dX9_lastDay_26 : decode cX9_lastDay 26 = .ok (.goto (-22), 3) := by decide +kernel
theorem dX9_lastDay_29 : decode cX9_lastDay 29 = .ok (.iload_n 1, 1) := by decide +kernel
theorem dX9_lastDay_30 : decode cX9_lastDay 30 = .ok (.ireturn, 1) := by decide +kernel
theorem dX9_copy_0 : decode cX9_copy 0 = .ok (.aload_n 1, 1) := by decide +kernel
theorem dX9_copy_1 : decode cX9_copy 1 = .ok (.getfield 9, 3) := by decide +kernel
theorem dX9_copy_4 : decode cX9_copy 4 = .ok (.iconst 0, 1) := by decide +kernel
theorem dX9_copy_5 : decode cX9_copy 5 = .ok (.aload_n 0, 1) := by decide +kernel
theorem dX9_copy_6 : decode cX9_copy 6 = .ok (.getfield 9, 3) := by decide +kernel
theorem dX9_copy_9 : decode cX9_copy 9 = .ok (.iconst 0, 1) := by decide +kernel
theorem dX9_copy_10 : decode cX9_copy 10 = .ok (.bipush 8, 2) := by decide +kernel
theorem dX9_copy_12 : decode cX9_copy 12 = .ok (.invokestatic 31, 3) := by decide +kernel
theorem dX9_copy_15 : decode cX9_copy 15 = .ok (.aload_n 1, 1) := by decide +kernel
theorem dX9_copy_16 : decode cX9_copy 16 = .ok (.getfield 15, 3) := by decide +kernel
theorem dX9_copy_19 : decode cX9_copy 19 = .ok (.iconst 0, 1) := by decide +kernel
theorem dX9_copy_20 : decode cX9_copy 20 = .ok (.aload_n 0, 1) := by decide +kernel
theorem dX9_copy_21 : decode cX9_copy 21 = .ok (.getfield 15, 3) := by decide +kernel
theorem dX9_copy_24 : decode cX9_copy 24 = .ok (.iconst 0, 1) := by decide +kernel
theorem dX9_copy_25 : decode cX9_copy 25 = .ok (.bipush 8, 2) := by decide +kernel
theorem dX9_copy_27 : decode cX9_copy 27 = .ok (.invokestatic 31, 3) := by decide +kernel
theorem dX9_copy_30 : decode cX9_copy 30 = .ok (.aload_n 1, 1) := by decide +kernel
theorem dX9_copy_31 : decode cX9_copy 31 = .ok (.getfield 18, 3) := by decide +kernel
theorem dX9_copy_34 : decode cX9_copy 34 = .ok (.iconst 0, 1) := by decide +kernel
theorem dX9_copy_35 : decode cX9_copy 35 = .ok (.aload_n 0, 1) := by decide +kernel
theorem dX9_copy_36 : decode cX9_copy 36 = .ok (.getfield 18, 3) := by decide +kernel
theorem dX9_copy_39 : decode cX9_copy 39 = .ok (.iconst 0, 1) := by decide +kernel
theorem dX9_copy_40 : decode cX9_copy 40 = .ok (.bipush 8, 2) := by decide +kernel
theorem dX9_copy_42 : decode cX9_copy 42 = .ok (.invokestatic 31, 3) := by decide +kernel
theorem dX9_copy_45 : decode cX9_copy 45 = .ok (.aload_n 0, 1) := by decide +kernel
theorem dX9_copy_46 : decode cX9_copy 46 = .ok (.aload_n 1, 1) := by decide +kernel
theorem dX9_copy_47 : decode cX9_copy 47 = .ok (.getfield 21, 3) := by decide +kernel
theorem dX9_copy_50 : decode cX9_copy 50 = .ok (.putfield 21, 3) := by decide +kernel
theorem dX9_copy_53 : decode cX9_copy 53 = .ok (.return_, 1) := by decide +kernel
theorem dX10_init_0 : decode cX10_init 0 = .ok (.aload_n 0, 1) := by decide +kernel
theorem dX10_init_1 : decode cX10_init 1 = .ok (.invokespecial 1, 3) := by decide +kernel
theorem dX10_init_4 : decode cX10_init 4 = .ok (.aload_n 0, 1) := by decide +kernel
theorem dX10_init_5 : decode cX10_init 5 = .ok (.aload_n 1, 1) := by decide +kernel
theorem dX10_init_6 : decode cX10_init 6 = .ok (.putfield 7, 3) := by decide +kernel
theorem dX10_init_9 : decode cX10_init 9 = .ok (.return_, 1) := by decide +kernel
theorem dX10_open_0 : decode cX10_open 0 = .ok (.aload_n 0, 1) := by decide +kernel
theorem dX10_open_1 : decode cX10_open 1 = .ok (.iload_n 1, 1) := by decide +kernel
theorem dX10_open_2 : decode cX10_open 2 = .ok (.aload_n 0, 1) := by decide +kernel
theorem dX10_open_3 : decode cX10_open 3 = .ok (.getfield 7, 3) := by decide +kernel
theorem dX10_open_6 : decode cX10_open 6 = .ok (.arraylength, 1) := by decide +kernel
theorem dX10_open_7 : decode cX10_open 7 = .ok (.invokestatic 13, 3) := by decide +kernel
theorem dX10_open_10 : decode cX10_open 10 = .ok (.putfield 19, 3) := by decide +kernel
theorem dX10_open_13 : decode cX10_open 13 = .ok (.aload_n 0, 1) := by decide +kernel
theorem dX10_open_14 : decode cX10_open 14 = .ok (.iconst 0, 1) := by decide +kernel
theorem dX10_open_15 : decode cX10_open 15 = .ok (.putfield 23, 3) := by decide +kernel
theorem dX10_open_18 : decode cX10_open 18 = .ok (.aload_n 0, 1) := by decide +kernel
theorem dX10_open_19 : decode cX10_open 19 = .ok (.invokevirtual 26, 3) := by decide +kernel
theorem dX10_open_22 : decode cX10_open 22 = .ok (.return_, 1) := by decide +kernel
theorem dX10_next_0 : decode cX10_next 0 = .ok (.aload_n 0, 1) := by decide +kernel
theorem dX10_next_1 : decode cX10_next 1 = .ok (.aload_n 0, 1) := by decide +kernel
theorem dX10_next_2 : decode cX10_next 2 = .ok (.aload_n 0, 1) := by decide +kernel
theorem dX10_next_3 : decode cX10_next 3 = .ok (.getfield 23, 3) := by decide +kernel
theorem dX10_next_6 : decode cX10_next 6 = .ok (.invokevirtual 29, 3) := by decide +kernel
theorem dX10_next_9 : decode cX10_next 9 = .ok (.putfield 33, 3) := by decide +kernel
theorem dX10_next_12 : decode cX10_next 12 = .ok (.aload_n 0, 1) := by decide +kernel
theorem dX10_next_13 : decode cX10_next 13 = .ok (.getfield 33, 3) := by decide +kernel
theorem dX10_next_16 : decode cX10_next 16 = .ok (.aload_n 0, 1) := by decide +kernel
theorem dX10_next_17 : decode cX10_next 17 = .ok (.getfield 19, 3) := by decide +kernel
theorem dX10_next_20 : decode cX10_next 20 = .ok (.if_icmp .lt 17, 3) := by decide +kernel
theorem dX10_next_23 : decode cX10_next 23 = .ok (.aload_n 0, 1) := by decide +kernel
theorem dX10_next_24 : decode cX10_next 24 = .ok (.iconst 0, 1) := by decide +kernel
theorem dX10_next_25 : decode cX10_next 25 = .ok (.putfield 36, 3) := by decide +kernel
theorem dX10_next_28 : decode cX10_next 28 = .ok (.aload_n 0, 1) := by decide +kernel
theorem dX10_next_29 : decode cX10_next 29 = .ok (.aload_n 0, 1) := by decide +kernel
theorem dX10_next_30 : decode cX10_next 30 = .ok (.getfield 33, 3) := by decide +kernel
theorem dX10_next_33 : decode cX10_next 33 = .ok (.putfield 23, 3) := by decide +kernel
theorem dX10_next_36 : decode cX10_next 36 = .ok (.return_, 1) := by decide +kernel
theorem dX10_next_37 : decode cX10_next 37 = .ok (.aload_n 0, 1) := by decide +kernel
theorem dX10_next_38 : decode cX10_next 38 = .ok (.getfield 7, 3) := by decide +kernel
theorem dX10_next_41 : decode cX10_next 41 = .ok (.aload_n 0, 1) := by decide +kernel
theorem dX10_next_42 : decode cX10_next 42 = .ok (.getfield 33, 3) := by decide +kernel
theorem dX10_next_45 : decode cX10_next 45 = .ok (.iaload, 1) := by decide +kernel
theorem dX10_next_46 : decode cX10_next 46 = .ok (.istore_n 1, 1) := by decide +kernel
theorem dX10_next_47 : decode cX10_next 47 = .ok (.iload_n 1, 1) := by decide +kernel
theorem dX10_next_48 : decode cX10_next 48 = .ok (.invokestatic 39, 3) := by decide +kernel
theorem dX10_next_51 : decode cX10_next 51 = .ok (.ifCond .eq 23, 3) := by decide +kernel
theorem dX10_next_54 : decode cX10_next 54 = .ok (.aload_n 0, 1) := by decide +kernel
theorem dX10_next_55 : decode cX10_next 55 = .ok (.iconst 1, 1) := by decide +kernel
theorem dX10_next_56 : decode cX10_next 56 = .ok (.putfield 36, 3) := by decide +kernel
theorem dX10_next_59 : decode cX10_next 59 = .ok (.aload_n 0, 1) := by decide +kernel
theorem dX10_next_60 : decode cX10_next 60 = .ok (.aload_n 0, 1) := by decide +kernel
theorem dX10_next_61 : decode cX10_next 61 = .ok (.aload_n 0, 1) := by decide +kernel
theorem dX10_next_62 : decode cX10_next 62 = .ok (.getfield 33, 3) := by decide +kernel
theorem dX10_next_65 : decode cX10_next 65 = .ok (.invokevirtual 43, 3) := by decide +kernel
theorem dX10_next_68 : decode cX10_next 68 = .ok (.putfield 23, 3) := by decide +kernel
theorem dX10_next_71 : decode cX10_next 71 = .ok (.goto 72, 3) := by decide +kernel
theorem dX10_next_74 : decode cX10_next 74 = .ok (.iload_n 1, 1) := by decide +kernel
theorem dX10_next_75 : decode cX10_next 75 = .ok (.invokestatic 46, 3) := by decide +kernel
theorem dX10_next_78 : decode cX10_next 78 = .ok (.ifCond .eq 39, 3) := by decide +kernel
theorem dX10_next_81 : decode cX10_next 81 = .ok (.aload_n 0, 1) := by decide +kernel
theorem dX10_next_82 : decode cX10_next 82 = .ok (.iconst 2, 1) := by decide +kernel
theorem dX10_next_83 : decode cX10_next 83 = .ok (.putfield 36, 3) := by decide +kernel
theorem dX10_next_86 : decode cX10_next 86 = .ok (.aload_n 0, 1) := by decide +kernel
theorem dX10_next_87 : decode cX10_next 87 = .ok (.aload_n 0, 1) := by decide +kernel
theorem dX10_next_88 : decode cX10_next 88 = .ok (.aload_n 0, 1) := by decide +kernel
theorem dX10_next_89 : decode cX10_next 89 = .ok (.getfield 33, 3) := by decide +kernel
theorem dX10_next_92 : decode cX10_next 92 = .ok (.invokevirtual 49, 3) := by decide +kernel
theorem dX10_next_95 : decode cX10_next 95 = .ok (.putfield 23, 3) := by decide +kernel
theorem dX10_next_98 : decode cX10_next 98 = .ok (.aload_n 0, 1) := by decide +kernel
theorem dX10_next_99 : decode cX10_next 99 = .ok (.aload_n 0, 1) := by decide +kernel
theorem dX10_next_100 : decode cX10_next 100 = .ok (.aload_n 0, 1) := by decide +kernel
theorem dX10_next_101 : decode cX10_next 101 = .ok (.getfield 33, 3) := by decide +kernel
theorem dX10_next_104 : decode cX10_next 104 = .ok (.aload_n 0, 1) := by decide +kernel
theorem dX10_next_105 : decode cX10_next 105 = .ok (.getfield 23, 3) := by decide +kernel
theorem dX10_next_108 : decode cX10_next 108 = .ok (.invokevirtual 52, 3) := by decide +kernel
theorem dX10_next_111 : decode cX10_next 111 = .ok (.putfield 55, 3) := by decide +kernel
