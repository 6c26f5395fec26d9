theorem dX12_couples_2 : decode cX12_couples 2 = .ok (.putfield 158, 3) := by decide +kernel
theorem dX12_couples_5 : decode cX12_couples 5 = .ok (.aload_n 0, 1) := by decide +kernel
theorem dX12_couples_6 : decode cX12_couples 6 = .ok (.bipush 63, 2) := by decide +kernel
theorem dX12_couples_8 : decode cX12_couples 8 = .ok (.invokevirtual 454, 3) := by decide +kernel
theorem dX12_couples_11 : decode cX12_couples 11 = .ok (.ireturn, 1) := by decide +kernel
theorem dX12_grudge_0 : decode cX12_grudge 0 = .ok (.aload_n 0, 1) := by decide +kernel
theorem dX12_grudge_1 : decode cX12_grudge 1 = .ok (.iconst 0, 1) := by decide +kernel
theorem dX12_grudge_2 : decode cX12_grudge 2 = .ok (.putfield 158, 3) := by decide +kernel
theorem dX12_grudge_5 : decode cX12_grudge 5 = .ok (.iload_n 1, 1) := by decide +kernel
theorem dX12_grudge_6 : decode cX12_grudge 6 = .ok (.invokestatic 408, 3) := by decide +kernel
theorem dX12_grudge_9 : decode cX12_grudge 9 = .ok (.ifCond .ne 9, 3) := by decide +kernel
theorem dX12_grudge_12 : decode cX12_grudge 12 = .ok (.aload_n 0, 1) := by decide +kernel
theorem dX12_grudge_13 : decode cX12_grudge 13 = .ok (.iconst 1, 1) := by decide +kernel
theorem dX12_grudge_14 : decode cX12_grudge 14 = .ok (.invokevirtual 312, 3) := by decide +kernel
theorem dX12_grudge_17 : decode cX12_grudge 17 = .ok (.ireturn, 1) := by decide +kernel
theorem dX12_grudge_18 : decode cX12_grudge 18 = .ok (.iconst 0, 1) := by decide +kernel
theorem dX12_grudge_19 : decode cX12_grudge 19 = .ok (.istore_n 2, 1) := by decide +kernel
theorem dX12_grudge_20 : decode cX12_grudge 20 = .ok (.iconst 0, 1) := by decide +kernel
theorem dX12_grudge_21 : decode cX12_grudge 21 = .ok (.istore_n 3, 1) := by decide +kernel
theorem dX12_grudge_22 : decode cX12_grudge 22 = .ok (.iload_n 3, 1) := by decide +kernel
theorem dX12_grudge_23 : decode cX12_grudge 23 = .ok (.aload_n 0, 1) := by decide +kernel
theorem dX12_grudge_24 : decode cX12_grudge 24 = .ok (.getfield 33, 3) := by decide +kernel
theorem dX12_grudge_27 : decode cX12_grudge 27 = .ok (.iconst 2, 1) := by decide +kernel
theorem dX12_grudge_28 : decode cX12_grudge 28 = .ok (.iaload, 1) := by decide +kernel
theorem dX12_grudge_29 : decode cX12_grudge 29 = .ok (.if_icmp .ge 32, 3) := by decide +kernel
theorem dX12_grudge_32 : decode cX12_grudge 32 = .ok (.iload_n 2, 1) := by decide +kernel
theorem dX12_grudge_33 : decode cX12_grudge 33 = .ok (.aload_n 0, 1) := by decide +kernel
theorem dX12_grudge_34 : decode cX12_grudge 34 = .ok (.getfield 46, 3) := by decide +kernel
theorem dX12_grudge_37 : decode cX12_grudge 37 = .ok (.iload_n 3, 1) := by decide +kernel
theorem dX12_grudge_38 : decode cX12_grudge 38 = .ok (.iaload, 1) := by decide +kernel
theorem dX12_grudge_39 : decode cX12_grudge 39 = .ok (.iload_n 1, 1) := by decide +kernel
theorem dX12_grudge_40 : decode cX12_grudge 40 = .ok (.if_icmp .ne 12, 3) := by decide +kernel
theorem dX12_grudge_43 : decode cX12_grudge 43 = .ok (.aload_n 0, 1) := by decide +kernel
theorem dX12_grudge_44 : decode cX12_grudge 44 = .ok (.getfield 70, 3) := by decide +kernel
theorem dX12_grudge_47 : decode cX12_grudge 47 = .ok (.iload_n 3, 1) := by decide +kernel
theorem dX12_grudge_48 : decode cX12_grudge 48 = .ok (.iaload, 1) := by decide +kernel
theorem dX12_grudge_49 : decode cX12_grudge 49 = .ok (.goto 4, 3) := by decide +kernel
theorem dX12_grudge_52 : decode cX12_grudge 52 = .ok (.iconst 0, 1) := by decide +kernel
theorem dX12_grudge_53 : decode cX12_grudge 53 = .ok (.iadd, 1) := by decide +kernel
theorem dX12_grudge_54 : decode cX12_grudge 54 = .ok (.istore_n 2, 1) := by decide +kernel
theorem dX12_grudge_55 : decode cX12_grudge 55 = .ok (.iinc 3 1, 3) := by decide +kernel
theorem dX12_grudge_58 : decode cX12_grudge 58 = .ok (.goto (-36), 3) := by decide +kernel
theorem dX12_grudge_61 : decode cX12_grudge 61 = .ok (.iload_n 2, 1) := by decide +kernel
theorem dX12_grudge_62 : decode cX12_grudge 62 = .ok (.ireturn, 1) := by decide +kernel
theorem dX12_foes_0 : decode cX12_foes 0 = .ok (.aload_n 0, 1) := by decide +kernel
theorem dX12_foes_1 : decode cX12_foes 1 = .ok (.iconst 0, 1) := by decide +kernel
theorem dX12_foes_2 : decode cX12_foes 2 = .ok (.putfield 158, 3) := by decide +kernel
theorem dX12_foes_5 : decode cX12_foes 5 = .ok (.iload_n 1, 1) := by decide +kernel
theorem dX12_foes_6 : decode cX12_foes 6 = .ok (.invokestatic 408, 3) := by decide +kernel
theorem dX12_foes_9 : decode cX12_foes 9 = .ok (.ifCond .eq 26, 3) := by decide +kernel
theorem dX12_foes_12 : decode cX12_foes 12 = .ok (.iload_n 2, 1) := by decide +kernel
theorem dX12_foes_13 : decode cX12_foes 13 = .ok (.invokestatic 408, 3) := by decide +kernel
theorem dX12_foes_16 : decode cX12_foes 16 = .ok (.ifCond .eq 19, 3) := by decide +kernel
theorem dX12_foes_19 : decode cX12_foes 19 = .ok (.aload_n 0, 1) := by decide +kernel
theorem dX12_foes_20 : decode cX12_foes 20 = .ok (.getfield 84, 3) := by decide +kernel
theorem dX12_foes_23 : decode cX12_foes 23 = .ok (.iload_n 1, 1) := by decide +kernel
theorem dX12_foes_24 : decode cX12_foes 24 = .ok (.iaload, 1) := by decide +kernel
theorem dX12_foes_25 : decode cX12_foes 25 = .ok (.aload_n 0, 1) := by decide +kernel
theorem dX12_foes_26 : decode cX12_foes 26 = .ok (.getfield 84, 3) := by decide +kernel
theorem dX12_foes_29 : decode cX12_foes 29 = .ok (.iload_n 2, 1) := by decide +kernel
theorem dX12_foes_30 : decode cX12_foes 30 = .ok (.iaload, 1) := by decide +kernel
theorem dX12_foes_31 : decode cX12_foes 31 = .ok (.iand, 1) := by decide +kernel
theorem dX12_foes_32 : decode cX12_foes 32 = .ok (.goto 8, 3) := by decide +kernel
theorem dX12_foes_35 : decode cX12_foes 35 = .ok (.aload_n 0, 1) := by decide +kernel
theorem dX12_foes_36 : decode cX12_foes 36 = .ok (.iconst 1, 1) := by decide +kernel
theorem dX12_foes_37 : decode cX12_foes 37 = .ok (.invokevirtual 312, 3) := by decide +kernel
theorem dX12_foes_40 : decode cX12_foes 40 = .ok (.ireturn, 1) := by decide +kernel
theorem dX12_parts_0 : decode cX12_parts 0 = .ok (.aload_n 0, 1) := by decide +kernel
theorem dX12_parts_1 : decode cX12_parts 1 = .ok (.iconst 0, 1) := by decide +kernel
theorem dX12_parts_2 : decode cX12_parts 2 = .ok (.putfield 158, 3) := by decide +kernel
theorem dX12_parts_5 : decode cX12_parts 5 = .ok (.iconst 0, 1) := by decide +kernel
theorem dX12_parts_6 : decode cX12_parts 6 = .ok (.istore_n 1, 1) := by decide +kernel
theorem dX12_parts_7 : decode cX12_parts 7 = .ok (.iconst 0, 1) := by decide +kernel
theorem dX12_parts_8 : decode cX12_parts 8 = .ok (.istore_n 2, 1) := by decide +kernel
theorem dX12_parts_9 : decode cX12_parts 9 = .ok (.iconst 0, 1) := by decide +kernel
theorem dX12_parts_10 : decode cX12_parts 10 = .ok (.istore_n 3, 1) := by decide +kernel
theorem dX12_parts_11 : decode cX12_parts 11 = .ok (.iload_n 3, 1) := by decide +kernel
theorem dX12_parts_12 : decode cX12_parts 12 = .ok (.bipush 6, 2) := by decide +kernel
theorem dX12_parts_14 : decode cX12_parts 14 = .ok (.if_icmp .ge 96, 3) := by decide +kernel
theorem dX12_parts_17 : decode cX12_parts 17 = .ok (.aload_n 0, 1) := by decide +kernel
theorem dX12_parts_18 : decode cX12_parts 18 = .ok (.getfield 84, 3) := by decide +kernel
theorem dX12_parts_21 : decode cX12_parts 21 = .ok (.iload_n 3, 1) := by decide +kernel
theorem dX12_parts_22 : decode cX12_parts 22 = .ok (.iaload, 1) := by decide +kernel
theorem dX12_parts_23 : decode cX12_parts 23 = .ok (.ifCond .eq 81, 3) := by decide +kernel
theorem dX12_parts_26 : decode cX12_parts 26 = .ok (.iload_n 1, 1) := by decide +kernel
theorem dX12_parts_27 : decode cX12_parts 27 = .ok (.iload_n 3, 1) := by decide +kernel
theorem dX12_parts_28 : decode cX12_parts 28 = .ok (.invokestatic 284, 3) := by decide +kernel
theorem dX12_parts_31 : decode cX12_parts 31 = .ok (.ifCond .eq 6, 3) := by decide +kernel
theorem dX12_parts_34 : decode cX12_parts 34 = .ok (.goto 70, 3) := by decide +kernel
theorem dX12_parts_37 : decode cX12_parts 37 = .ok (.iconst 1, 1) := by decide +kernel
theorem dX12_parts_38 : decode cX12_parts 38 = .ok (.iload_n 3, 1) := by decide +kernel
theorem dX12_parts_39 : decode cX12_parts 39 = .ok (.ishl, 1) := by decide +kernel
theorem dX12_parts_40 : decode cX12_parts 40 = .ok (.istore 4, 2) := by decide +kernel
theorem dX12_parts_42 : decode cX12_parts 42 = .ok (.iconst 0, 1) := by decide +kernel
theorem dX12_parts_43 : decode cX12_parts 43 = .ok (.istore 5, 2) := by decide +kernel
theorem dX12_parts_45 : decode cX12_parts 45 = .ok (.iload 5, 2) := by decide +kernel
theorem dX12_parts_47 : decode cX12_parts 47 = .ok (.bipush 6, 2) := by decide +kernel
theorem dX12_parts_49 : decode cX12_parts 49 = .ok (.if_icmp .ge 47, 3) := by decide +kernel
theorem dX12_parts_52 : decode cX12_parts 52 = .ok (.iconst 0, 1) := by decide +kernel
theorem dX12_parts_53 : decode cX12_parts 53 = .ok (.istore 6, 2) := by decide +kernel
theorem dX12_parts_55 : decode cX12_parts 55 = .ok (.iload 6, 2) := by decide +kernel
theorem dX12_parts_57 : decode cX12_parts 57 = .ok (.bipush 6, 2) := by decide +kernel
theorem dX12_parts_59 : decode cX12_parts 59 = .ok (.if_icmp .ge 31, 3) := by decide +kernel
theorem dX12_parts_62 : decode cX12_parts 62 = .ok (.iload 4, 2) := by decide +kernel
theorem dX12_parts_64 : decode cX12_parts 64 = .ok (.iload 6, 2) := by decide +kernel
theorem dX12_parts_66 : decode cX12_parts 66 = .ok (.invokestatic 284, 3) := by decide +kernel
theorem dX12_parts_69 : decode cX12_parts 69 = .ok (.ifCond .eq 15, 3) := by decide +kernel
theorem dX12_parts_72 : decode cX12_parts 72 = .ok (.iload 4, 2) := by decide +kernel
theorem dX12_parts_74 : decode cX12_parts 74 = .ok (.aload_n 0, 1) := by decide +kernel
theorem dX12_parts_75 : decode cX12_parts 75 = .ok (.getfield 84, 3) := by decide +kernel
theorem dX12_parts_78 : decode cX12_parts 78 = .ok (.iload 6, 2) := by decide +kernel
theorem dX12_parts_80 : decode cX12_parts 80 = .ok (.iaload, 1) := by decide +kernel
theorem dX12_parts_81 : decode cX12_parts 81 = .ok (.ior, 1) := by decide +kernel
theorem dX12_parts_82 : decode cX12_parts 82 = .ok (.istore 4, 2) := by decide +kernel
theorem dX12_parts_84 : decode cX12_parts 84 = .ok (.iinc 6 1, 3) := by decide +kernel
theorem dX12_parts_87 : decode cX12_parts 87 = .ok (.goto (-32), 3) := by decide +kernel
theorem dX12_parts_90 : decode cX12_parts 90 = .ok (.iinc 5 1, 3) := by decide +kernel
theorem dX12_parts_93 : decode cX12_parts 93 = .ok (.goto (-48), 3) := by decide +kernel
theorem dX12_parts_96 : decode cX12_parts 96 = .ok (.iload_n 1, 1) := by decide +kernel
theorem dX12_parts_97 : decode cX12_parts 97 = .ok (.iload 4, 2) := by decide +kernel
theorem dX12_parts_99 : decode cX12_parts 99 = .ok (.ior, 1) := by decide +kernel
theorem dX12_parts_100 : decode cX12_parts 100 = .ok (.istore_n 1, 1) := by decide +kernel
theorem dX12_parts_101 : decode cX12_parts 101 = .ok (.iinc 2 1, 3) := by decide +kernel
theorem dX12_parts_104 : decode cX12_parts 104 = .ok (.iinc 3 1, 3) := by decide +kernel
theorem dX12_parts_107 : decode cX12_parts 107 = .ok (.goto (-96), 3) := by decide +kernel
theorem dX12_parts_110 : decode cX12_parts 110 = .ok (.iload_n 2, 1) := by decide +kernel
theorem dX12_parts_111 : decode cX12_parts 111 = .ok (.ireturn, 1) := by decide +kernel
theorem dX12_calm_0 : decode cX12_calm 0 = .ok (.aload_n 0, 1) := by decide +kernel
theorem dX12_calm_1 : decode cX12_calm 1 = .ok (.iconst 0, 1) := by decide +kernel
theorem dX12_calm_2 : decode cX12_calm 2 = .ok (.putfield 158, 3) := by decide +kernel
theorem dX12_calm_5 : decode cX12_calm 5 = .ok (.iload_n 1, 1) := by decide +kernel
theorem dX12_calm_6 : decode cX12_calm 6 = .ok (.i2l, 1) := by decide +kernel
theorem dX12_calm_7 : decode cX12_calm 7 = .ok (.lconst 0, 1) := by decide +kernel
theorem dX12_calm_8 : decode cX12_calm 8 = .ok (.ldc2_w 435, 3) := by decide +kernel
theorem dX12_calm_11 : decode cX12_calm 11 = .ok (.invokestatic 161, 3) := by decide +kernel
theorem dX12_calm_14 : decode cX12_calm 14 = .ok (.ifCond .ne 9, 3) := by decide +kernel
theorem dX12_calm_17 : decode cX12_calm 17 = .ok (.aload_n 0, 1) := by decide +kernel
theorem dX12_calm_18 : decode cX12_calm 18 = .ok (.iconst 1, 1) := by decide +kernel
theorem dX12_calm_19 : decode cX12_calm 19 = .ok (.invokevirtual 312, 3) := by decide +kernel
theorem dX12_calm_22 : decode cX12_calm 22 = .ok (.ireturn, 1) := by decide +kernel
theorem dX12_calm_23 : decode cX12_calm 23 = .ok (.aload_n 0, 1) := by decide +kernel
theorem dX12_calm_24 : decode cX12_calm 24 = .ok (.aload_n 0, 1) := by decide +kernel
theorem dX12_calm_25 : decode cX12_calm 25 = .ok (.getfield 102, 3) := by decide +kernel
theorem dX12_calm_28 : decode cX12_calm 28 = .ok (.iconst 0, 1) := by decide +kernel
theorem dX12_calm_29 : decode cX12_calm 29 = .ok (.invokevirtual 414, 3) := by decide +kernel
theorem dX12_calm_32 : decode cX12_calm 32 = .ok (.aload_n 0, 1) := by decide +kernel
theorem dX12_calm_33 : decode cX12_calm 33 = .ok (.iload_n 1, 1) := by decide +kernel
theorem dX12_calm_34 : decode cX12_calm 34 = .ok (.invokevirtual 426, 3) := by decide +kernel
theorem dX12_calm_37 : decode cX12_calm 37 = .ok (.aload_n 0, 1) := by decide +kernel
theorem dX12_calm_38 : decode cX12_calm 38 = .ok (.iconst 2, 1) := by decide +kernel
theorem dX12_calm_39 : decode cX12_calm 39 = .ok (.invokevirtual 348, 3) := by decide +kernel
theorem dX12_calm_42 : decode cX12_calm 42 = .ok (.istore_n 2, 1) := by decide +kernel
theorem dX12_calm_43 : decode cX12_calm 43 = .ok (.aload_n 0, 1) := by decide +kernel
theorem dX12_calm_44 : decode cX12_calm 44 = .ok (.aload_n 0, 1) := by decide +kernel
theorem dX12_calm_45 : decode cX12_calm 45 = .ok (.getfield 102, 3) := by decide +kernel
theorem dX12_calm_48 : decode cX12_calm 48 = .ok (.iconst 0, 1) := by decide +kernel
theorem dX12_calm_49 : decode cX12_calm 49 = .ok (.invokevirtual 432, 3) := by decide +kernel
theorem dX12_calm_52 : decode cX12_calm 52 = .ok (.iload_n 2, 1) := by decide +kernel
theorem dX12_calm_53 : decode cX12_calm 53 = .ok (.ireturn, 1) := by decide +kernel
theorem dX12_lacks_0 : decode cX12_lacks 0 = .ok (.aload_n 0, 1) := by decide +kernel
theorem dX12_lacks_1 : decode cX12_lacks 1 = .ok (.iconst 0, 1) := by decide +kernel
theorem dX12_lacks_2 : decode cX12_lacks 2 = .ok (.putfield 158, 3) := by decide +kernel
theorem dX12_lacks_5 : decode cX12_lacks 5 = .ok (.aload_n 0, 1) := by decide +kernel
theorem dX12_lacks_6 : decode cX12_lacks 6 = .ok (.iload_n 1, 1) := by decide +kernel
theorem dX12_lacks_7 : decode cX12_lacks 7 = .ok (.invokevirtual 399, 3) := by decide +kernel
theorem dX12_lacks_10 : decode cX12_lacks 10 = .ok (.ifCond .ne 9, 3) := by decide +kernel
theorem dX12_lacks_13 : decode cX12_lacks 13 = .ok (.aload_n 0, 1) := by decide +kernel
theorem dX12_lacks_14 : decode cX12_lacks 14 = .ok (.iconst 1, 1) := by decide +kernel
theorem dX12_lacks_15 : decode cX12_lacks 15 = .ok (.invokevirtual 312, 3) := by decide +kernel
theorem dX12_lacks_18 : decode cX12_lacks 18 = .ok (.ireturn, 1) := by decide +kernel
theorem dX12_lacks_19 : decode cX12_lacks 19 = .ok (.aload_n 0, 1) := by decide +kernel
theorem dX12_lacks_20 : decode cX12_lacks 20 = .ok (.getfield 72, 3) := by decide +kernel
theorem dX12_lacks_23 : decode cX12_lacks 23 = .ok (.iload_n 1, 1) := by decide +kernel
theorem dX12_lacks_24 : decode cX12_lacks 24 = .ok (.iaload, 1) := by decide +kernel
theorem dX12_lacks_25 : decode cX12_lacks 25 = .ok (.ifCond .ne 12, 3) := by decide +kernel
theorem dX12_lacks_28 : decode cX12_lacks 28 = .ok (.aload_n 0, 1) := by decide +kernel
theorem dX12_lacks_29 : decode cX12_lacks 29 = .ok (.getfield 33, 3) := by decide +kernel
theorem dX12_lacks_32 : decode cX12_lacks 32 = .ok (.iconst 1, 1) := by decide +kernel
theorem dX12_lacks_33 : decode cX12_lacks 33 = .ok (.iaload, 1) := by decide +kernel
theorem dX12_lacks_34 : decode cX12_lacks 34 = .ok (.ifCond .ne 5, 3) := by decide +kernel
theorem dX12_lacks_37 : decode cX12_lacks 37 = .ok (.iconst (-1), 1) := by decide +kernel
theorem dX12_lacks_38 : decode cX12_lacks 38 = .ok (.ireturn, 1) := by decide +kernel
theorem dX12_lacks_39 : decode cX12_lacks 39 = .ok (.ldc 196, 2) := by decide +kernel
theorem dX12_lacks_41 : decode cX12_lacks 41 = .ok (.istore_n 2, 1) := by decide +kernel
theorem dX12_lacks_42 : decode cX12_lacks 42 = .ok (.iconst 0, 1) := by decide +kernel
theorem dX12_lacks_43 : decode cX12_lacks 43 = .ok (.istore_n 3, 1) := by decide +kernel
theorem dX12_lacks_44 : decode cX12_lacks 44 = .ok (.iload_n 3, 1) := by decide +kernel
theorem dX12_lacks_45 : decode cX12_lacks 45 = .ok (.aload_n 0, 1) := by decide +kernel
theorem dX12_lacks_46 : decode cX12_lacks 46 = .ok (.getfield 33, 3) := by decide +kernel
theorem dX12_lacks_49 : decode cX12_lacks 49 = .ok (.iconst 1, 1) := by decide +kernel
theorem dX12_lacks_50 : decode cX12_lacks 50 = .ok (.iaload, 1) := by decide +kernel
theorem dX12_lacks_51 : decode cX12_lacks 51 = .ok (.if_icmp .ge 30, 3) := by decide +kernel
theorem dX12_lacks_54 : decode cX12_lacks 54 = .ok (.iload_n 2, 1) := by decide +kernel
theorem dX12_lacks_55 : decode cX12_lacks 55 = .ok (.iconst 0, 1) := by decide +kernel
theorem dX12_lacks_56 : decode cX12_lacks 56 = .ok (.aload_n 0, 1) := by decide +kernel
theorem dX12_lacks_57 : decode cX12_lacks 57 = .ok (.getfield 49, 3) := by decide +kernel
theorem dX12_lacks_60 : decode cX12_lacks 60 = .ok (.iload_n 1, 1) := by decide +kernel
theorem dX12_lacks_61 : decode cX12_lacks 61 = .ok (.iaload, 1) := by decide +kernel
theorem dX12_lacks_62 : decode cX12_lacks 62 = .ok (.aload_n 0, 1) := by decide +kernel
theorem dX12_lacks_63 : decode cX12_lacks 63 = .ok (.iload_n 3, 1) := by decide +kernel
theorem dX12_lacks_64 : decode cX12_lacks 64 = .ok (.invokevirtual 405, 3) := by decide +kernel
theorem dX12_lacks_67 : decode cX12_lacks 67 = .ok (.isub, 1) := by decide +kernel
theorem dX12_lacks_68 : decode cX12_lacks 68 = .ok (.invokestatic 371, 3) := by decide +kernel
theorem dX12_lacks_71 : decode cX12_lacks 71 = .ok (.invokestatic 197, 3) := by decide +kernel
theorem dX12_lacks_74 : decode cX12_lacks 74 = .ok (.istore_n 2, 1) := by decide +kernel
theorem dX12_lacks_75 : decode cX12_lacks 75 = .ok (.iinc 3 1, 3) := by decide +kernel
theorem dX12_lacks_78 : decode cX12_lacks 78 = .ok (.goto (-34), 3) := by decide +kernel
theorem dX12_lacks_81 : decode cX12_lacks 81 = .ok (.iload_n 2, 1) := by decide +kernel
theorem dX12_lacks_82 : decode cX12_lacks 82 = .ok (.ireturn, 1) := by decide +kernel
theorem dX12_above_0 : decode cX12_above 0 = .ok (.aload_n 0, 1) := by decide +kernel
theorem dX12_above_1 : decode cX12_above 1 = .ok (.iconst 0, 1) := by decide +kernel
theorem dX12_above_2 : decode cX12_above 2 = .ok (.putfield 158, 3) := by decide +kernel
theorem dX12_above_5 : decode cX12_above 5 = .ok (.aload_n 0, 1) := by decide +kernel
theorem dX12_above_6 : decode cX12_above 6 = .ok (.iload_n 1, 1) := by decide +kernel
theorem dX12_above_7 : decode cX12_above 7 = .ok (.invokevirtual 399, 3) := by decide +kernel
theorem dX12_above_10 : decode cX12_above 10 = .ok (.ifCond .ne 9, 3) := by decide +kernel
theorem dX12_above_13 : decode cX12_above 13 = .ok (.aload_n 0, 1) := by decide +kernel
theorem dX12_above_14 : decode cX12_above 14 = .ok (.iconst 1, 1) := by decide +kernel
theorem dX12_above_15 : decode cX12_above 15 = .ok (.invokevirtual 312, 3) := by decide +kernel
theorem dX12_above_18 : decode cX12_above 18 = .ok (.ireturn, 1) := by decide +kernel
theorem dX12_above_19 : decode cX12_above 19 = .ok (.aload_n 0, 1) := by decide +kernel
theorem dX12_above_20 : decode cX12_above 20 = .ok (.getfield 72, 3) := by decide +kernel
theorem dX12_above_23 : decode cX12_above 23 = .ok (.iload_n 1, 1) := by decide +kernel
theorem dX12_above_24 : decode cX12_above 24 = .ok (.iaload, 1) := by decide +kernel
theorem dX12_above_25 : decode cX12_above 25 = .ok (.iconst 1, 1) := by decide +kernel
theorem dX12_above_26 : decode cX12_above 26 = .ok (.if_icmp .ne 14, 3) := by decide +kernel
theorem dX12_above_29 : decode cX12_above 29 = .ok (.aload_n 0, 1) := by decide +kernel
theorem dX12_above_30 : decode cX12_above 30 = .ok (.iload_n 1, 1) := by decide +kernel
theorem dX12_above_31 : decode cX12_above 31 = .ok (.invokevirtual 361, 3) := by decide +kernel
theorem dX12_above_34 : decode cX12_above 34 = .ok (.invokestatic 364, 3) := by decide +kernel
theorem dX12_above_37 : decode cX12_above 37 = .ok (.goto 4, 3) := by decide +kernel
theorem dX12_above_40 : decode cX12_above 40 = .ok (.iconst (-1), 1) := by decide +kernel
theorem dX12_above_41 : decode cX12_above 41 = .ok (.ireturn, 1) := by decide +kernel
theorem dX12_hiccup_0 : decode cX12_hiccup 0 = .ok (.aload_n 0, 1) := by decide +kernel
theorem dX12_hiccup_1 : decode cX12_hiccup 1 = .ok (.iconst 0, 1) := by decide +kernel
theorem dX12_hiccup_2 : decode cX12_hiccup 2 = .ok (.putfield 158, 3) := by decide +kernel
theorem dX12_hiccup_5 : decode cX12_hiccup 5 = .ok (.aload_n 0, 1) := by decide +kernel
theorem dX12_hiccup_6 : decode cX12_hiccup 6 = .ok (.iload_n 1, 1) := by decide +kernel
theorem dX12_hiccup_7 : decode cX12_hiccup 7 = .ok (.invokevirtual 402, 3) := by decide +kernel
theorem dX12_hiccup_10 : decode cX12_hiccup 10 = .ok (.ifCond .ne 9, 3) := by decide +kernel
theorem dX12_hiccup_13 : decode cX12_hiccup 13 = .ok (.aload_n 0, 1) := by decide +kernel
theorem dX12_hiccup_14 : decode cX12_hiccup 14 = .ok (.iconst 1, 1) := by decide +kernel
theorem dX12_hiccup_15 : decode cX12_hiccup 15 = .ok (.invokevirtual 312, 3) := by decide +kernel
theorem dX12_hiccup_18 : decode cX12_hiccup 18 = .ok (.ireturn, 1) := by decide +kernel
theorem dX12_hiccup_19 : decode cX12_hiccup 19 = .ok (.aload_n 0, 1) := by decide +kernel
theorem dX12_hiccup_20 : decode cX12_hiccup 20 = .ok (.getfield 43, 3) := by decide +kernel
theorem dX12_hiccup_23 : decode cX12_hiccup 23 = .ok (.iload_n 1, 1) := by decide +kernel
theorem dX12_hiccup_24 : decode cX12_hiccup 24 = .ok (.iaload, 1) := by decide +kernel
theorem dX12_hiccup_25 : decode cX12_hiccup 25 = .ok (.ifCond .ne 7, 3) := by decide +kernel
theorem dX12_hiccup_28 : decode cX12_hiccup 28 = .ok (.iconst (-1), 1) := by decide +kernel
theorem dX12_hiccup_29 : decode cX12_hiccup 29 = .ok (.goto 21, 3) := by decide +kernel
theorem dX12_hiccup_32 : decode cX12_hiccup 32 = .ok (.aload_n 0, 1) := by decide +kernel
theorem dX12_hiccup_33 : decode cX12_hiccup 33 = .ok (.getfield 43, 3) := by decide +kernel
theorem dX12_hiccup_36 : decode cX12_hiccup 36 = .ok (.iload_n 1, 1) := by decide +kernel
theorem dX12_hiccup_37 : decode cX12_hiccup 37 = .ok (.iaload, 1) := by decide +kernel
theorem dX12_hiccup_38 : decode cX12_hiccup 38 = .ok (.aload_n 0, 1) := by decide +kernel
theorem dX12_hiccup_39 : decode cX12_hiccup 39 = .ok (.getfield 325, 3) := by decide +kernel
theorem dX12_hiccup_42 : decode cX12_hiccup 42 = .ok (.aload_n 0, 1) := by decide +kernel
theorem dX12_hiccup_43 : decode cX12_hiccup 43 = .ok (.getfield 43, 3) := by decide +kernel
theorem dX12_hiccup_46 : decode cX12_hiccup 46 = .ok (.iload_n 1, 1) := by decide +kernel
theorem dX12_hiccup_47 : decode cX12_hiccup 47 = .ok (.iaload, 1) := by decide +kernel
theorem dX12_hiccup_48 : decode cX12_hiccup 48 = .ok (.irem, 1) := by decide +kernel
theorem dX12_hiccup_49 : decode cX12_hiccup 49 = .ok (.isub, 1) := by decide +kernel
theorem dX12_hiccup_50 : decode cX12_hiccup 50 = .ok (.ireturn, 1) := by decide +kernel
theorem dX12_see_0 : decode cX12_see 0 = .ok (.aload_n 0, 1) := by decide +kernel
theorem dX12_see_1 : decode cX12_see 1 = .ok (.iconst 0, 1) := by decide +kernel
theorem dX12_see_2 : decode cX12_see 2 = .ok (.putfield 158, 3) := by decide +kernel
theorem dX12_see_5 : decode cX12_see 5 = .ok (.aload_n 0, 1) := by decide +kernel
theorem dX12_see_6 : decode cX12_see 6 = .ok (.iload_n 1, 1) := by decide +kernel
theorem dX12_see_7 : decode cX12_see 7 = .ok (.invokevirtual 399, 3) := by decide +kernel
theorem dX12_see_10 : decode cX12_see 10 = .ok (.ifCond .ne 9, 3) := by decide +kernel
theorem dX12_see_13 : decode cX12_see 13 = .ok (.aload_n 0, 1) := by decide +kernel
theorem dX12_see_14 : decode cX12_see 14 = .ok (.iconst 1, 1) := by decide +kernel
theorem dX12_see_15 : decode cX12_see 15 = .ok (.invokevirtual 312, 3) := by decide +kernel
theorem dX12_see_18 : decode cX12_see 18 = .ok (.ireturn, 1) := by decide +kernel
theorem dX12_see_19 : decode cX12_see 19 = .ok (.aload_n 0, 1) := by decide +kernel
theorem dX12_see_20 : decode cX12_see 20 = .ok (.getfield 333, 3) := by decide +kernel
theorem dX12_see_23 : decode cX12_see 23 = .ok (.bipush 8, 2) := by decide +kernel
theorem dX12_see_25 : decode cX12_see 25 = .ok (.if_icmp .eq 27, 3) := by decide +kernel
theorem dX12_see_28 : decode cX12_see 28 = .ok (.iload_n 2, 1) := by decide +kernel
theorem dX12_see_29 : decode cX12_see 29 = .ok (.i2l, 1) := by decide +kernel
theorem dX12_see_30 : decode cX12_see 30 = .ok (.lconst 0, 1) := by decide +kernel
theorem dX12_see_31 : decode cX12_see 31 = .ok (.ldc2_w 457, 3) := by decide +kernel
theorem dX12_see_34 : decode cX12_see 34 = .ok (.invokestatic 161, 3) := by decide +kernel
theorem dX12_see_37 : decode cX12_see 37 = .ok (.ifCond .eq 15, 3) := by decide +kernel
theorem dX12_see_40 : decode cX12_see 40 = .ok (.iload_n 3, 1) := by decide +kernel
theorem dX12_see_41 : decode cX12_see 41 = .ok (.i2l, 1) := by decide +kernel
theorem dX12_see_42 : decode cX12_see 42 = .ok (.lconst 0, 1) := by decide +kernel
theorem dX12_see_43 : decode cX12_see 43 = .ok (.ldc2_w 459, 3) := by decide +kernel
theorem dX12_see_46 : decode cX12_see 46 = .ok (.invokestatic 161, 3) := by decide +kernel
theorem dX12_see_49 : decode cX12_see 49 = .ok (.ifCond .ne 9, 3) := by decide +kernel
theorem dX12_see_52 : decode cX12_see 52 = .ok (.aload_n 0, 1) := by decide +kernel
theorem dX12_see_53 : decode cX12_see 53 = .ok (.iconst 2, 1) := by decide +kernel
theorem dX12_see_54 : decode cX12_see 54 = .ok (.invokevirtual 420, 3) := by decide +kernel
theorem dX12_see_57 : decode cX12_see 57 = .ok (.ireturn, 1) := by decide +kernel
theorem dX12_see_58 : decode cX12_see 58 = .ok (.aload_n 0, 1) := by decide +kernel
theorem dX12_see_59 : decode cX12_see 59 = .ok (.getfield 116, 3) := by decide +kernel
theorem dX12_see_62 : decode cX12_see 62 = .ok (.aload_n 0, 1) := by decide +kernel
theorem dX12_see_63 : decode cX12_see 63 = .ok (.getfield 333, 3) := by decide +kernel
theorem dX12_see_66 : decode cX12_see 66 = .ok (.iload_n 1, 1) := by decide +kernel
theorem dX12_see_67 : decode cX12_see 67 = .ok (.iastore, 1) := by decide +kernel
theorem dX12_see_68 : decode cX12_see 68 = .ok (.aload_n 0, 1) := by decide +kernel
theorem dX12_see_69 : decode cX12_see 69 = .ok (.getfield 119, 3) := by decide +kernel
theorem dX12_see_72 : decode cX12_see 72 = .ok (.aload_n 0, 1) := by decide +kernel
theorem dX12_see_73 : decode cX12_see 73 = .ok (.getfield 333, 3) := by decide +kernel
theorem dX12_see_76 : decode cX12_see 76 = .ok (.iload_n 2, 1) := by decide +kernel
theorem dX12_see_77 : decode cX12_see 77 = .ok (.iastore, 1) := by decide +kernel
theorem dX12_see_78 : decode cX12_see 78 = .ok (.aload_n 0, 1) := by decide +kernel
theorem dX12_see_79 : decode cX12_see 79 = .ok (.getfield 122, 3) := by decide +kernel
theorem dX12_see_82 : decode cX12_see 82 = .ok (.aload_n 0, 1) := by decide +kernel
theorem dX12_see_83 : decode cX12_see 83 = .ok (.getfield 333, 3) := by decide +kernel
theorem dX12_see_86 : decode cX12_see 86 = .ok (.iload_n 3, 1) := by decide +kernel
theorem dX12_see_87 : decode cX12_see 87 = .ok (.iastore, 1) := by decide +kernel
theorem dX12_see_88 : decode cX12_see 88 = .ok (.aload_n 0, 1) := by decide +kernel
theorem dX12_see_89 : decode cX12_see 89 = .ok (.dup, 1) := by decide +kernel
theorem dX12_see_90 : decode cX12_see 90 = .ok (.getfield 333, 3) := by decide +kernel
theorem dX12_see_93 : decode cX12_see 93 = .ok (.iconst 1, 1) := by decide +kernel
theorem dX12_see_94 : decode cX12_see 94 = .ok (.iadd, 1) := by decide +kernel
theorem dX12_see_95 : decode cX12_see 95 = .ok (.putfield 333, 3) := by decide +kernel
theorem dX12_see_98 : decode cX12_see 98 = .ok (.aload_n 0, 1) := by decide +kernel
theorem dX12_see_99 : decode cX12_see 99 = .ok (.getfield 333, 3) := by decide +kernel
theorem dX12_see_102 : decode cX12_see 102 = .ok (.ireturn, 1) := by decide +kernel
theorem dX12_isAsSeen_0 : decode cX12_isAsSeen 0 = .ok (.iconst (-1), 1) := by decide +kernel
theorem dX12_isAsSeen_1 : decode cX12_isAsSeen 1 = .ok (.istore_n 1, 1) := by decide +kernel
theorem dX12_isAsSeen_2 : decode cX12_isAsSeen 2 = .ok (.iconst 0, 1) := by decide +kernel
theorem dX12_isAsSeen_3 : decode cX12_isAsSeen 3 = .ok (.istore_n 2, 1) := by decide +kernel
theorem dX12_isAsSeen_4 : decode cX12_isAsSeen 4 = .ok (.iload_n 2, 1) := by decide +kernel
theorem dX12_isAsSeen_5 : decode cX12_isAsSeen 5 = .ok (.aload_n 0, 1) := by decide +kernel
theorem dX12_isAsSeen_6 : decode cX12_isAsSeen 6 = .ok (.getfield 333, 3) := by decide +kernel
theorem dX12_isAsSeen_9 : decode cX12_isAsSeen 9 = .ok (.if_icmp .ge 20, 3) := by decide +kernel
theorem dX12_isAsSeen_12 : decode cX12_isAsSeen 12 = .ok (.iload_n 1, 1) := by decide +kernel
theorem dX12_isAsSeen_13 : decode cX12_isAsSeen 13 = .ok (.aload_n 0, 1) := by decide +kernel
theorem dX12_isAsSeen_14 : decode cX12_isAsSeen 14 = .ok (.getfield 119, 3) := by decide +kernel
theorem dX12_isAsSeen_17 : decode cX12_isAsSeen 17 = .ok (.iload_n 2, 1) := by decide +kernel
theorem dX12_isAsSeen_18 : decode cX12_isAsSeen 18 = .ok (.iaload, 1) := by decide +kernel
theorem dX12_isAsSeen_19 : decode cX12_isAsSeen 19 = .ok (.invokestatic 371, 3) := by decide +kernel
theorem dX12_isAsSeen_22 : decode cX12_isAsSeen 22 = .ok (.istore_n 1, 1) := by decide +kernel
theorem dX12_isAsSeen_23 : decode cX12_isAsSeen 23 = .ok (.iinc 2 1, 3) := by decide +kernel
theorem dX12_isAsSeen_26 : decode cX12_isAsSeen 26 = .ok (.goto (-22), 3) := by decide +kernel
theorem dX12_isAsSeen_29 : decode cX12_isAsSeen 29 = .ok (.aload_n 0, 1) := by decide +kernel
theorem dX12_isAsSeen_30 : decode cX12_isAsSeen 30 = .ok (.aload_n 0, 1) := by decide +kernel
theorem dX12_isAsSeen_31 : decode cX12_isAsSeen 31 = .ok (.getfield 125, 3) := by decide +kernel
theorem dX12_isAsSeen_34 : decode cX12_isAsSeen 34 = .ok (.iconst 0, 1) := by decide +kernel
theorem dX12_isAsSeen_35 : decode cX12_isAsSeen 35 = .ok (.invokevirtual 414, 3) := by decide +kernel
theorem dX12_isAsSeen_38 : decode cX12_isAsSeen 38 = .ok (.iconst 1, 1) := by decide +kernel
theorem dX12_isAsSeen_39 : decode cX12_isAsSeen 39 = .ok (.istore_n 2, 1) := by decide +kernel
theorem dX12_isAsSeen_40 : decode cX12_isAsSeen 40 = .ok (.iconst 0, 1) := by decide +kernel
theorem dX12_isAsSeen_41 : decode cX12_isAsSeen 41 = .ok (.istore_n 3, 1) := by decide +kernel
theorem dX12_isAsSeen_42 : decode cX12_isAsSeen 42 = .ok (.iload_n 3, 1) := by decide +kernel
theorem dX12_isAsSeen_43 : decode cX12_isAsSeen 43 = .ok (.iload_n 1, 1) := by decide +kernel
theorem dX12_isAsSeen_44 : decode cX12_isAsSeen 44 = .ok (.if_icmp .gt 78, 3) := by decide +kernel
theorem dX12_isAsSeen_47 : decode cX12_isAsSeen 47 = .ok (.iload_n 2, 1) := by decide +kernel
theorem dX12_isAsSeen_48 : decode cX12_isAsSeen 48 = .ok (.ifCond .eq 74, 3) := by decide +kernel
theorem dX12_isAsSeen_51 : decode cX12_isAsSeen 51 = .ok (.iconst 0, 1) := by decide +kernel
theorem dX12_isAsSeen_52 : decode cX12_isAsSeen 52 = .ok (.istore 4, 2) := by decide +kernel
theorem dX12_isAsSeen_54 : decode cX12_isAsSeen 54 = .ok (.iload 4, 2) := by decide +kernel
theorem dX12_isAsSeen_56 : decode cX12_isAsSeen 56 = .ok (.aload_n 0, 1) := by decide +kernel
theorem dX12_isAsSeen_57 : decode cX12_isAsSeen 57 = .ok (.getfield 333, 3) := by decide +kernel
theorem dX12_isAsSeen_60 : decode cX12_isAsSeen 60 = .ok (.if_icmp .ge 52, 3) := by decide +kernel
theorem dX12_isAsSeen_63 : decode cX12_isAsSeen 63 = .ok (.iload_n 2, 1) := by decide +kernel
theorem dX12_isAsSeen_64 : decode cX12_isAsSeen 64 = .ok (.ifCond .eq 40, 3) := by decide +kernel
theorem dX12_isAsSeen_67 : decode cX12_isAsSeen 67 = .ok (.aload_n 0, 1) := by decide +kernel
theorem dX12_isAsSeen_68 : decode cX12_isAsSeen 68 = .ok (.getfield 119, 3) := by decide +kernel
theorem dX12_isAsSeen_71 : decode cX12_isAsSeen 71 = .ok (.iload 4, 2) := by decide +kernel
theorem dX12_isAsSeen_73 : decode cX12_isAsSeen 73 = .ok (.iaload, 1) := by decide +kernel
theorem dX12_isAsSeen_74 : decode cX12_isAsSeen 74 = .ok (.iload_n 3, 1) := by decide +kernel
theorem dX12_isAsSeen_75 : decode cX12_isAsSeen 75 = .ok (.if_icmp .ne 25, 3) := by decide +kernel
theorem dX12_isAsSeen_78 : decode cX12_isAsSeen 78 = .ok (.aload_n 0, 1) := by decide +kernel
theorem dX12_isAsSeen_79 : decode cX12_isAsSeen 79 = .ok (.getfield 70, 3) := by decide +kernel
theorem dX12_isAsSeen_82 : decode cX12_isAsSeen 82 = .ok (.aload_n 0, 1) := by decide +kernel
theorem dX12_isAsSeen_83 : decode cX12_isAsSeen 83 = .ok (.getfield 116, 3) := by decide +kernel
theorem dX12_isAsSeen_86 : decode cX12_isAsSeen 86 = .ok (.iload 4, 2) := by decide +kernel
theorem dX12_isAsSeen_88 : decode cX12_isAsSeen 88 = .ok (.iaload, 1) := by decide +kernel
theorem dX12_isAsSeen_89 : decode cX12_isAsSeen 89 = .ok (.iaload, 1) := by decide +kernel
theorem dX12_isAsSeen_90 : decode cX12_isAsSeen 90 = .ok (.aload_n 0, 1) := by decide +kernel
theorem dX12_isAsSeen_91 : decode cX12_isAsSeen 91 = .ok (.getfield 122, 3) := by decide +kernel
theorem dX12_isAsSeen_94 : decode cX12_isAsSeen 94 = .ok (.iload 4, 2) := by decide +kernel
theorem dX12_isAsSeen_96 : decode cX12_isAsSeen 96 = .ok (.iaload, 1) := by decide +kernel
theorem dX12_isAsSeen_97 : decode cX12_isAsSeen 97 = .ok (.if_icmp .ne 7, 3) := by decide +kernel
theorem dX12_isAsSeen_100 : decode cX12_isAsSeen 100 = .ok (.iconst 1, 1) := by decide +kernel
theorem dX12_isAsSeen_101 : decode cX12_isAsSeen 101 = .ok (.goto 4, 3) := by decide +kernel
theorem dX12_isAsSeen_104 : decode cX12_isAsSeen 104 = .ok (.iconst 0, 1) := by decide +kernel
theorem dX12_isAsSeen_105 : decode cX12_isAsSeen 105 = .ok (.istore_n 2, 1) := by decide +kernel
theorem dX12_isAsSeen_106 : decode cX12_isAsSeen 106 = .ok (.iinc 4 1, 3) := by decide +kernel
theorem dX12_isAsSeen_109 : decode cX12_isAsSeen 109 = .ok (.goto (-55), 3) := by decide +kernel
theorem dX12_isAsSeen_112 : decode cX12_isAsSeen 112 = .ok (.aload_n 0, 1) := by decide +kernel
theorem dX12_isAsSeen_113 : decode cX12_isAsSeen 113 = .ok (.invokevirtual 393, 3) := by decide +kernel
theorem dX12_isAsSeen_116 : decode cX12_isAsSeen 116 = .ok (.iinc 3 1, 3) := by decide +kernel
theorem dX12_isAsSeen_119 : decode cX12_isAsSeen 119 = .ok (.goto (-77), 3) := by decide +kernel
theorem dX12_isAsSeen_122 : decode cX12_isAsSeen 122 = .ok (.aload_n 0, 1) := by decide +kernel
theorem dX12_isAsSeen_123 : decode cX12_isAsSeen 123 = .ok (.aload_n 0, 1) := by decide +kernel
theorem dX12_isAsSeen_124 : decode cX12_isAsSeen 124 = .ok (.getfield 125, 3) := by decide +kernel
theorem dX12_isAsSeen_127 : decode cX12_isAsSeen 127 = .ok (.iconst 0, 1) := by decide +kernel
theorem dX12_isAsSeen_128 : decode cX12_isAsSeen 128 = .ok (.invokevirtual 432, 3) := by decide +kernel
theorem dX12_isAsSeen_131 : decode cX12_isAsSeen 131 = .ok (.iload_n 2, 1) := by decide +kernel
theorem dX12_isAsSeen_132 : decode cX12_isAsSeen 132 = .ok (.ireturn, 1) := by decide +kernel
theorem dX12_tellFits_0 : decode cX12_tellFits 0 = .ok (.aload_n 0, 1) := by decide +kernel
theorem dX12_tellFits_1 : decode cX12_tellFits 1 = .ok (.iconst 0, 1) := by decide +kernel
theorem dX12_tellFits_2 : decode cX12_tellFits 2 = .ok (.putfield 461, 3) := by decide +kernel
theorem dX12_tellFits_5 : decode cX12_tellFits 5 = .ok (.iconst 0, 1) := by decide +kernel
theorem dX12_tellFits_6 : decode cX12_tellFits 6 = .ok (.istore_n 1, 1) := by decide +kernel
theorem dX12_tellFits_7 : decode cX12_tellFits 7 = .ok (.iload_n 1, 1) := by decide +kernel
theorem dX12_tellFits_8 : decode cX12_tellFits 8 = .ok (.aload_n 0, 1) := by decide +kernel
theorem dX12_tellFits_9 : decode cX12_tellFits 9 = .ok (.getfield 33, 3) := by decide +kernel
theorem dX12_tellFits_12 : decode cX12_tellFits 12 = .ok (.iconst 2, 1) := by decide +kernel
theorem dX12_tellFits_13 : decode cX12_tellFits 13 = .ok (.iaload, 1) := by decide +kernel
theorem dX12_tellFits_14 : decode cX12_tellFits 14 = .ok (.if_icmp .ge 84, 3) := by decide +kernel
theorem dX12_tellFits_17 : decode cX12_tellFits 17 = .ok (.aload_n 0, 1) := by decide +kernel
theorem dX12_tellFits_18 : decode cX12_tellFits 18 = .ok (.getfield 70, 3) := by decide +kernel
theorem dX12_tellFits_21 : decode cX12_tellFits 21 = .ok (.iload_n 1, 1) := by decide +kernel
theorem dX12_tellFits_22 : decode cX12_tellFits 22 = .ok (.iaload, 1) := by decide +kernel
theorem dX12_tellFits_23 : decode cX12_tellFits 23 = .ok (.istore_n 2, 1) := by decide +kernel
theorem dX12_tellFits_24 : decode cX12_tellFits 24 = .ok (.iconst 0, 1) := by decide +kernel
theorem dX12_tellFits_25 : decode cX12_tellFits 25 = .ok (.istore_n 3, 1) := by decide +kernel
theorem dX12_tellFits_26 : decode cX12_tellFits 26 = .ok (.iload_n 3, 1) := by decide +kernel
theorem dX12_tellFits_27 : decode cX12_tellFits 27 = .ok (.bipush 99, 2) := by decide +kernel
theorem dX12_tellFits_29 : decode cX12_tellFits 29 = .ok (.if_icmp .gt 56, 3) := by decide +kernel
theorem dX12_tellFits_32 : decode cX12_tellFits 32 = .ok (.aload_n 0, 1) := by decide +kernel
theorem dX12_tellFits_33 : decode cX12_tellFits 33 = .ok (.getfield 70, 3) := by decide +kernel
theorem dX12_tellFits_36 : decode cX12_tellFits 36 = .ok (.iload_n 1, 1) := by decide +kernel
theorem dX12_tellFits_37 : decode cX12_tellFits 37 = .ok (.iload_n 3, 1) := by decide +kernel
theorem dX12_tellFits_38 : decode cX12_tellFits 38 = .ok (.iastore, 1) := by decide +kernel
theorem dX12_tellFits_39 : decode cX12_tellFits 39 = .ok (.iload_n 3, 1) := by decide +kernel
theorem dX12_tellFits_40 : decode cX12_tellFits 40 = .ok (.iload_n 2, 1) := by decide +kernel
theorem dX12_tellFits_41 : decode cX12_tellFits 41 = .ok (.if_icmp .eq 38, 3) := by decide +kernel
theorem dX12_tellFits_44 : decode cX12_tellFits 44 = .ok (.aload_n 0, 1) := by decide +kernel
theorem dX12_tellFits_45 : decode cX12_tellFits 45 = .ok (.invokevirtual 464, 3) := by decide +kernel
theorem dX12_tellFits_48 : decode cX12_tellFits 48 = .ok (.ifCond .ne 6, 3) := by decide +kernel
theorem dX12_tellFits_51 : decode cX12_tellFits 51 = .ok (.goto 28, 3) := by decide +kernel
theorem dX12_tellFits_54 : decode cX12_tellFits 54 = .ok (.aload_n 0, 1) := by decide +kernel
theorem dX12_tellFits_55 : decode cX12_tellFits 55 = .ok (.getfield 128, 3) := by decide +kernel
theorem dX12_tellFits_58 : decode cX12_tellFits 58 = .ok (.aload_n 0, 1) := by decide +kernel
theorem dX12_tellFits_59 : decode cX12_tellFits 59 = .ok (.getfield 461, 3) := by decide +kernel
theorem dX12_tellFits_62 : decode cX12_tellFits 62 = .ok (.bipush 100, 2) := by decide +kernel
theorem dX12_tellFits_64 : decode cX12_tellFits 64 = .ok (.iload_n 1, 1) := by decide +kernel
theorem dX12_tellFits_65 : decode cX12_tellFits 65 = .ok (.imul, 1) := by decide +kernel
theorem dX12_tellFits_66 : decode cX12_tellFits 66 = .ok (.iload_n 3, 1) := by decide +kernel
theorem dX12_tellFits_67 : decode cX12_tellFits 67 = .ok (.iadd, 1) := by decide +kernel
theorem dX12_tellFits_68 : decode cX12_tellFits 68 = .ok (.iastore, 1) := by decide +kernel
theorem dX12_tellFits_69 : decode cX12_tellFits 69 = .ok (.aload_n 0, 1) := by decide +kernel
theorem dX12_tellFits_70 : decode cX12_tellFits 70 = .ok (.dup, 1) := by decide +kernel
theorem dX12_tellFits_71 : decode cX12_tellFits 71 = .ok (.getfield 461, 3) := by decide +kernel
theorem dX12_tellFits_74 : decode cX12_tellFits 74 = .ok (.iconst 1, 1) := by decide +kernel
theorem dX12_tellFits_75 : decode cX12_tellFits 75 = .ok (.iadd, 1) := by decide +kernel
theorem dX12_tellFits_76 : decode cX12_tellFits 76 = .ok (.putfield 461, 3) := by decide +kernel
theorem dX12_tellFits_79 : decode cX12_tellFits 79 = .ok (.iinc 3 1, 3) := by decide +kernel
theorem dX12_tellFits_82 : decode cX12_tellFits 82 = .ok (.goto (-56), 3) := by decide +kernel
theorem dX12_tellFits_85 : decode cX12_tellFits 85 = .ok (.aload_n 0, 1) := by decide +kernel
theorem dX12_tellFits_86 : decode cX12_tellFits 86 = .ok (.getfield 70, 3) := by decide +kernel
theorem dX12_tellFits_89 : decode cX12_tellFits 89 = .ok (.iload_n 1, 1) := by decide +kernel
theorem dX12_tellFits_90 : decode cX12_tellFits 90 = .ok (.iload_n 2, 1) := by decide +kernel
theorem dX12_tellFits_91 : decode cX12_tellFits 91 = .ok (.iastore, 1) := by decide +kernel
theorem dX12_tellFits_92 : decode cX12_tellFits 92 = .ok (.iinc 1 1, 3) := by decide +kernel
theorem dX12_tellFits_95 : decode cX12_tellFits 95 = .ok (.goto (-88), 3) := by decide +kernel
theorem dX12_tellFits_98 : decode cX12_tellFits 98 = .ok (.return_, 1) := by decide +kernel
theorem dX12_wrong_0 : decode cX12_wrong 0 = .ok (.aload_n 0, 1) := by decide +kernel
theorem dX12_wrong_1 : decode cX12_wrong 1 = .ok (.iconst 0, 1) := by decide +kernel
theorem dX12_wrong_2 : decode cX12_wrong 2 = .ok (.putfield 158, 3) := by decide +kernel
theorem dX12_wrong_5 : decode cX12_wrong 5 = .ok (.iload_n 1, 1) := by decide +kernel
theorem dX12_wrong_6 : decode cX12_wrong 6 = .ok (.i2l, 1) := by decide +kernel
theorem dX12_wrong_7 : decode cX12_wrong 7 = .ok (.lconst 0, 1) := by decide +kernel
theorem dX12_wrong_8 : decode cX12_wrong 8 = .ok (.ldc2_w 468, 3) := by decide +kernel
theorem dX12_wrong_11 : decode cX12_wrong 11 = .ok (.invokestatic 161, 3) := by decide +kernel
theorem dX12_wrong_14 : decode cX12_wrong 14 = .ok (.ifCond .ne 9, 3) := by decide +kernel
theorem dX12_wrong_17 : decode cX12_wrong 17 = .ok (.aload_n 0, 1) := by decide +kernel
theorem dX12_wrong_18 : decode cX12_wrong 18 = .ok (.iconst 1, 1) := by decide +kernel
theorem dX12_wrong_19 : decode cX12_wrong 19 = .ok (.invokevirtual 312, 3) := by decide +kernel
theorem dX12_wrong_22 : decode cX12_wrong 22 = .ok (.ireturn, 1) := by decide +kernel
theorem dX12_wrong_23 : decode cX12_wrong 23 = .ok (.iload_n 1, 1) := by decide +kernel
theorem dX12_wrong_24 : decode cX12_wrong 24 = .ok (.iconst 2, 1) := by decide +kernel
theorem dX12_wrong_25 : decode cX12_wrong 25 = .ok (.if_icmp .ne 16, 3) := by decide +kernel
theorem dX12_wrong_28 : decode cX12_wrong 28 = .ok (.aload_n 0, 1) := by decide +kernel
theorem dX12_wrong_29 : decode cX12_wrong 29 = .ok (.invokevirtual 464, 3) := by decide +kernel
theorem dX12_wrong_32 : decode cX12_wrong 32 = .ok (.ifCond .eq 7, 3) := by decide +kernel
theorem dX12_wrong_35 : decode cX12_wrong 35 = .ok (.iconst 1, 1) := by decide +kernel
theorem dX12_wrong_36 : decode cX12_wrong 36 = .ok (.goto 4, 3) := by decide +kernel
theorem dX12_wrong_39 : decode cX12_wrong 39 = .ok (.iconst 0, 1) := by decide +kernel
theorem dX12_wrong_40 : decode cX12_wrong 40 = .ok (.ireturn, 1) := by decide +kernel
theorem dX12_wrong_41 : decode cX12_wrong 41 = .ok (.aload_n 0, 1) := by decide +kernel
theorem dX12_wrong_42 : decode cX12_wrong 42 = .ok (.invokevirtual 470, 3) := by decide +kernel
theorem dX12_wrong_45 : decode cX12_wrong 45 = .ok (.iload_n 1, 1) := by decide +kernel
theorem dX12_wrong_46 : decode cX12_wrong 46 = .ok (.ifCond .ne 10, 3) := by decide +kernel
theorem dX12_wrong_49 : decode cX12_wrong 49 = .ok (.aload_n 0, 1) := by decide +kernel
theorem dX12_wrong_50 : decode cX12_wrong 50 = .ok (.getfield 461, 3) := by decide +kernel
theorem dX12_wrong_53 : decode cX12_wrong 53 = .ok (.goto 20, 3) := by decide +kernel
theorem dX12_wrong_56 : decode cX12_wrong 56 = .ok (.aload_n 0, 1) := by decide +kernel
theorem dX12_wrong_57 : decode cX12_wrong 57 = .ok (.getfield 461, 3) := by decide +kernel
theorem dX12_wrong_60 : decode cX12_wrong 60 = .ok (.ifCond .ne 7, 3) := by decide +kernel
theorem dX12_wrong_63 : decode cX12_wrong 63 = .ok (.iconst (-1), 1) := by decide +kernel
theorem dX12_wrong_64 : decode cX12_wrong 64 = .ok (.goto 9, 3) := by decide +kernel
theorem dX12_wrong_67 : decode cX12_wrong 67 = .ok (.aload_n 0, 1) := by decide +kernel
theorem dX12_wrong_68 : decode cX12_wrong 68 = .ok (.getfield 128, 3) := by decide +kernel
theorem dX12_wrong_71 : decode cX12_wrong 71 = .ok (.iconst 0, 1) := by decide +kernel
theorem dX12_wrong_72 : decode cX12_wrong 72 = .ok (.iaload, 1) := by decide +kernel
theorem dX12_wrong_73 : decode cX12_wrong 73 = .ok (.ireturn, 1) := by decide +kernel
theorem dX12_unlike_0 : decode cX12_unlike 0 = .ok (.iconst 0, 1) := by decide +kernel
theorem dX12_unlike_1 : decode cX12_unlike 1 = .ok (.istore_n 2, 1) := by decide +kernel
theorem dX12_unlike_2 : decode cX12_unlike 2 = .ok (.iload_n 2, 1) := by decide +kernel
theorem dX12_unlike_3 : decode cX12_unlike 3 = .ok (.bipush 99, 2) := by decide +kernel
theorem dX12_unlike_5 : decode cX12_unlike 5 = .ok (.if_icmp .gt 16, 3) := by decide +kernel
theorem dX12_unlike_8 : decode cX12_unlike 8 = .ok (.aload_n 0, 1) := by decide +kernel
theorem dX12_unlike_9 : decode cX12_unlike 9 = .ok (.getfield 134, 3) := by decide +kernel
theorem dX12_unlike_12 : decode cX12_unlike 12 = .ok (.iload_n 2, 1) := by decide +kernel
theorem dX12_unlike_13 : decode cX12_unlike 13 = .ok (.iconst 0, 1) := by decide +kernel
theorem dX12_unlike_14 : decode cX12_unlike 14 = .ok (.bastore, 1) := by decide +kernel
theorem dX12_unlike_15 : decode cX12_unlike 15 = .ok (.iinc 2 1, 3) := by decide +kernel
theorem dX12_unlike_18 : decode cX12_unlike 18 = .ok (.goto (-16), 3) := by decide +kernel
theorem dX12_unlike_21 : decode cX12_unlike 21 = .ok (.iconst 0, 1) := by decide +kernel
theorem dX12_unlike_22 : decode cX12_unlike 22 = .ok (.istore_n 2, 1) := by decide +kernel
theorem dX12_unlike_23 : decode cX12_unlike 23 = .ok (.iconst 0, 1) := by decide +kernel
theorem dX12_unlike_24 : decode cX12_unlike 24 = .ok (.istore_n 3, 1) := by decide +kernel
theorem dX12_unlike_25 : decode cX12_unlike 25 = .ok (.iload_n 3, 1) := by decide +kernel
theorem dX12_unlike_26 : decode cX12_unlike 26 = .ok (.aload_n 0, 1) := by decide +kernel
theorem dX12_unlike_27 : decode cX12_unlike 27 = .ok (.getfield 461, 3) := by decide +kernel
theorem dX12_unlike_30 : decode cX12_unlike 30 = .ok (.if_icmp .ge 48, 3) := by decide +kernel
theorem dX12_unlike_33 : decode cX12_unlike 33 = .ok (.aload_n 0, 1) := by decide +kernel
theorem dX12_unlike_34 : decode cX12_unlike 34 = .ok (.getfield 131, 3) := by decide +kernel
theorem dX12_unlike_37 : decode cX12_unlike 37 = .ok (.bipush 10, 2) := by decide +kernel
theorem dX12_unlike_39 : decode cX12_unlike 39 = .ok (.iload_n 3, 1) := by decide +kernel
theorem dX12_unlike_40 : decode cX12_unlike 40 = .ok (.imul, 1) := by decide +kernel
theorem dX12_unlike_41 : decode cX12_unlike 41 = .ok (.iload_n 1, 1) := by decide +kernel
theorem dX12_unlike_42 : decode cX12_unlike 42 = .ok (.iadd, 1) := by decide +kernel
theorem dX12_unlike_43 : decode cX12_unlike 43 = .ok (.iaload, 1) := by decide +kernel
theorem dX12_unlike_44 : decode cX12_unlike 44 = .ok (.istore 4, 2) := by decide +kernel
theorem dX12_unlike_46 : decode cX12_unlike 46 = .ok (.iload_n 2, 1) := by decide +kernel
theorem dX12_unlike_47 : decode cX12_unlike 47 = .ok (.aload_n 0, 1) := by decide +kernel
theorem dX12_unlike_48 : decode cX12_unlike 48 = .ok (.getfield 134, 3) := by decide +kernel
theorem dX12_unlike_51 : decode cX12_unlike 51 = .ok (.iload 4, 2) := by decide +kernel
theorem dX12_unlike_53 : decode cX12_unlike 53 = .ok (.baload, 1) := by decide +kernel
theorem dX12_unlike_54 : decode cX12_unlike 54 = .ok (.ifCond .eq 7, 3) := by decide +kernel
theorem dX12_unlike_57 : decode cX12_unlike 57 = .ok (.iconst 0, 1) := by decide +kernel
theorem dX12_unlike_58 : decode cX12_unlike 58 = .ok (.goto 4, 3) := by decide +kernel
theorem dX12_unlike_61 : decode cX12_unlike 61 = .ok (.iconst 1, 1) := by decide +kernel
theorem dX12_unlike_62 : decode cX12_unlike 62 = .ok (.iadd, 1) := by decide +kernel
theorem dX12_unlike_63 : decode cX12_unlike 63 = .ok (.istore_n 2, 1) := by decide +kernel
theorem dX12_unlike_64 : decode cX12_unlike 64 = .ok (.aload_n 0, 1) := by decide +kernel
theorem dX12_unlike_65 : decode cX12_unlike 65 = .ok (.getfield 134, 3) := by decide +kernel
theorem dX12_unlike_68 : decode cX12_unlike 68 = .ok (.iload 4, 2) := by decide +kernel
theorem dX12_unlike_70 : decode cX12_unlike 70 = .ok (.iconst 1, 1) := by decide +kernel
theorem dX12_unlike_71 : decode cX12_unlike 71 = .ok (.bastore, 1) := by decide +kernel
theorem dX12_unlike_72 : decode cX12_unlike 72 = .ok (.iinc 3 1, 3) := by decide +kernel
theorem dX12_unlike_75 : decode cX12_unlike 75 = .ok (.goto (-50), 3) := by decide +kernel
theorem dX12_unlike_78 : decode cX12_unlike 78 = .ok (.iload_n 2, 1) := by decide +kernel
theorem dX12_unlike_79 : decode cX12_unlike 79 = .ok (.ireturn, 1) := by decide +kernel
theorem dX12_look_0 : decode cX12_look 0 = .ok (.aload_n 0, 1) := by decide +kernel
theorem dX12_look_1 : decode cX12_look 1 = .ok (.iconst 0, 1) := by decide +kernel
theorem dX12_look_2 : decode cX12_look 2 = .ok (.putfield 158, 3) := by decide +kernel
theorem dX12_look_5 : decode cX12_look 5 = .ok (.iload_n 1, 1) := by decide +kernel
theorem dX12_look_6 : decode cX12_look 6 = .ok (.ifCond .lt 8, 3) := by decide +kernel
theorem dX12_look_9 : decode cX12_look 9 = .ok (.iload_n 1, 1) := by decide +kernel
theorem dX12_look_10 : decode cX12_look 10 = .ok (.iconst 1, 1) := by decide +kernel
theorem dX12_look_11 : decode cX12_look 11 = .ok (.if_icmp .le 9, 3) := by decide +kernel
theorem dX12_look_14 : decode cX12_look 14 = .ok (.aload_n 0, 1) := by decide +kernel
theorem dX12_look_15 : decode cX12_look 15 = .ok (.iconst 1, 1) := by decide +kernel
theorem dX12_look_16 : decode cX12_look 16 = .ok (.invokevirtual 312, 3) := by decide +kernel
theorem dX12_look_19 : decode cX12_look 19 = .ok (.ireturn, 1) := by decide +kernel
theorem dX12_look_20 : decode cX12_look 20 = .ok (.aload_n 0, 1) := by decide +kernel
theorem dX12_look_21 : decode cX12_look 21 = .ok (.invokevirtual 470, 3) := by decide +kernel
theorem dX12_look_24 : decode cX12_look 24 = .ok (.aload_n 0, 1) := by decide +kernel
theorem dX12_look_25 : decode cX12_look 25 = .ok (.aload_n 0, 1) := by decide +kernel
theorem dX12_look_26 : decode cX12_look 26 = .ok (.getfield 102, 3) := by decide +kernel
theorem dX12_look_29 : decode cX12_look 29 = .ok (.iconst 0, 1) := by decide +kernel
theorem dX12_look_30 : decode cX12_look 30 = .ok (.invokevirtual 414, 3) := by decide +kernel
theorem dX12_look_33 : decode cX12_look 33 = .ok (.iconst 0, 1) := by decide +kernel
theorem dX12_look_34 : decode cX12_look 34 = .ok (.istore_n 2, 1) := by decide +kernel
theorem dX12_look_35 : decode cX12_look 35 = .ok (.iload_n 2, 1) := by decide +kernel
theorem dX12_look_36 : decode cX12_look 36 = .ok (.aload_n 0, 1) := by decide +kernel
theorem dX12_look_37 : decode cX12_look 37 = .ok (.getfield 461, 3) := by decide +kernel
theorem dX12_look_40 : decode cX12_look 40 = .ok (.if_icmp .ge 77, 3) := by decide +kernel
theorem dX12_look_43 : decode cX12_look 43 = .ok (.aload_n 0, 1) := by decide +kernel
theorem dX12_look_44 : decode cX12_look 44 = .ok (.getfield 70, 3) := by decide +kernel
theorem dX12_look_47 : decode cX12_look 47 = .ok (.aload_n 0, 1) := by decide +kernel
theorem dX12_look_48 : decode cX12_look 48 = .ok (.getfield 128, 3) := by decide +kernel
theorem dX12_look_51 : decode cX12_look 51 = .ok (.iload_n 2, 1) := by decide +kernel
theorem dX12_look_52 : decode cX12_look 52 = .ok (.iaload, 1) := by decide +kernel
theorem dX12_look_53 : decode cX12_look 53 = .ok (.bipush 100, 2) := by decide +kernel
theorem dX12_look_55 : decode cX12_look 55 = .ok (.idiv, 1) := by decide +kernel
theorem dX12_look_56 : decode cX12_look 56 = .ok (.aload_n 0, 1) := by decide +kernel
theorem dX12_look_57 : decode cX12_look 57 = .ok (.getfield 128, 3) := by decide +kernel
theorem dX12_look_60 : decode cX12_look 60 = .ok (.iload_n 2, 1) := by decide +kernel
theorem dX12_look_61 : decode cX12_look 61 = .ok (.iaload, 1) := by decide +kernel
theorem dX12_look_62 : decode cX12_look 62 = .ok (.bipush 100, 2) := by decide +kernel
theorem dX12_look_64 : decode cX12_look 64 = .ok (.irem, 1) := by decide +kernel
theorem dX12_look_65 : decode cX12_look 65 = .ok (.iastore, 1) := by decide +kernel
theorem dX12_look_66 : decode cX12_look 66 = .ok (.aload_n 0, 1) := by decide +kernel
theorem dX12_look_67 : decode cX12_look 67 = .ok (.iconst 3, 1) := by decide +kernel
theorem dX12_look_68 : decode cX12_look 68 = .ok (.invokevirtual 426, 3) := by decide +kernel
theorem dX12_look_71 : decode cX12_look 71 = .ok (.iconst 0, 1) := by decide +kernel
theorem dX12_look_72 : decode cX12_look 72 = .ok (.istore_n 3, 1) := by decide +kernel
theorem dX12_look_73 : decode cX12_look 73 = .ok (.iload_n 3, 1) := by decide +kernel
theorem dX12_look_74 : decode cX12_look 74 = .ok (.bipush 10, 2) := by decide +kernel
theorem dX12_look_76 : decode cX12_look 76 = .ok (.if_icmp .ge 26, 3) := by decide +kernel
theorem dX12_look_79 : decode cX12_look 79 = .ok (.aload_n 0, 1) := by decide +kernel
theorem dX12_look_80 : decode cX12_look 80 = .ok (.getfield 131, 3) := by decide +kernel
theorem dX12_look_83 : decode cX12_look 83 = .ok (.bipush 10, 2) := by decide +kernel
theorem dX12_look_85 : decode cX12_look 85 = .ok (.iload_n 2, 1) := by decide +kernel
theorem dX12_look_86 : decode cX12_look 86 = .ok (.imul, 1) := by decide +kernel
theorem dX12_look_87 : decode cX12_look 87 = .ok (.iload_n 3, 1) := by decide +kernel
theorem dX12_look_88 : decode cX12_look 88 = .ok (.iadd, 1) := by decide +kernel
theorem dX12_look_89 : decode cX12_look 89 = .ok (.aload_n 0, 1) := by decide +kernel
theorem dX12_look_90 : decode cX12_look 90 = .ok (.getfield 70, 3) := by decide +kernel
theorem dX12_look_93 : decode cX12_look 93 = .ok (.iload_n 3, 1) := by decide +kernel
theorem dX12_look_94 : decode cX12_look 94 = .ok (.iaload, 1) := by decide +kernel
theorem dX12_look_95 : decode cX12_look 95 = .ok (.iastore, 1) := by decide +kernel
theorem dX12_look_96 : decode cX12_look 96 = .ok (.iinc 3 1, 3) := by decide +kernel
theorem dX12_look_99 : decode cX12_look 99 = .ok (.goto (-26), 3) := by decide +kernel
theorem dX12_look_102 : decode cX12_look 102 = .ok (.aload_n 0, 1) := by decide +kernel
theorem dX12_look_103 : decode cX12_look 103 = .ok (.aload_n 0, 1) := by decide +kernel
theorem dX12_look_104 : decode cX12_look 104 = .ok (.getfield 102, 3) := by decide +kernel
theorem dX12_look_107 : decode cX12_look 107 = .ok (.iconst 0, 1) := by decide +kernel
theorem dX12_look_108 : decode cX12_look 108 = .ok (.invokevirtual 432, 3) := by decide +kernel
theorem dX12_look_111 : decode cX12_look 111 = .ok (.iinc 2 1, 3) := by decide +kernel
theorem dX12_look_114 : decode cX12_look 114 = .ok (.goto (-79), 3) := by decide +kernel
theorem dX12_look_117 : decode cX12_look 117 = .ok (.iconst (-1), 1) := by decide +kernel
theorem dX12_look_118 : decode cX12_look 118 = .ok (.istore_n 2, 1) := by decide +kernel
theorem dX12_look_119 : decode cX12_look 119 = .ok (.iconst 0, 1) := by decide +kernel
theorem dX12_look_120 : decode cX12_look 120 = .ok (.istore_n 3, 1) := by decide +kernel
theorem dX12_look_121 : decode cX12_look 121 = .ok (.iconst 0, 1) := by decide +kernel
theorem dX12_look_122 : decode cX12_look 122 = .ok (.istore 4, 2) := by decide +kernel
theorem dX12_look_124 : decode cX12_look 124 = .ok (.iload 4, 2) := by decide +kernel
theorem dX12_look_126 : decode cX12_look 126 = .ok (.aload_n 0, 1) := by decide +kernel
theorem dX12_look_127 : decode cX12_look 127 = .ok (.getfield 33, 3) := by decide +kernel
theorem dX12_look_130 : decode cX12_look 130 = .ok (.iconst 2, 1) := by decide +kernel
theorem dX12_look_131 : decode cX12_look 131 = .ok (.iaload, 1) := by decide +kernel
theorem dX12_look_132 : decode cX12_look 132 = .ok (.if_icmp .ge 32, 3) := by decide +kernel
theorem dX12_look_135 : decode cX12_look 135 = .ok (.aload_n 0, 1) := by decide +kernel
theorem dX12_look_136 : decode cX12_look 136 = .ok (.iload 4, 2) := by decide +kernel
theorem dX12_look_138 : decode cX12_look 138 = .ok (.invokevirtual 473, 3) := by decide +kernel
theorem dX12_look_141 : decode cX12_look 141 = .ok (.istore 5, 2) := by decide +kernel
theorem dX12_look_143 : decode cX12_look 143 = .ok (.iload 5, 2) := by decide +kernel
theorem dX12_look_145 : decode cX12_look 145 = .ok (.iload_n 3, 1) := by decide +kernel
theorem dX12_look_146 : decode cX12_look 146 = .ok (.if_icmp .gt 6, 3) := by decide +kernel
theorem dX12_look_149 : decode cX12_look 149 = .ok (.goto 9, 3) := by decide +kernel
theorem dX12_look_152 : decode cX12_look 152 = .ok (.iload 4, 2) := by decide +kernel
theorem dX12_look_154 : decode cX12_look 154 = .ok (.istore_n 2, 1) := by decide +kernel
theorem dX12_look_155 : decode cX12_look 155 = .ok (.iload 5, 2) := by decide +kernel
theorem dX12_look_157 : decode cX12_look 157 = .ok (.istore_n 3, 1) := by decide +kernel
theorem dX12_look_158 : decode cX12_look 158 = .ok (.iinc 4 1, 3) := by decide +kernel
theorem dX12_look_161 : decode cX12_look 161 = .ok (.goto (-37), 3) := by decide +kernel
theorem dX12_look_164 : decode cX12_look 164 = .ok (.iload_n 1, 1) := by decide +kernel
theorem dX12_look_165 : decode cX12_look 165 = .ok (.ifCond .ne 7, 3) := by decide +kernel
theorem dX12_look_168 : decode cX12_look 168 = .ok (.iload_n 2, 1) := by decide +kernel
theorem dX12_look_169 : decode cX12_look 169 = .ok (.goto 4, 3) := by decide +kernel
theorem dX12_look_172 : decode cX12_look 172 = .ok (.iload_n 3, 1) := by decide +kernel
theorem dX12_look_173 : decode cX12_look 173 = .ok (.ireturn, 1) := by decide +kernel
theorem dX12_forget_0 : decode cX12_forget 0 = .ok (.aload_n 0, 1) := by decide +kernel
theorem dX12_forget_1 : decode cX12_forget 1 = .ok (.iconst 0, 1) := by decide +kernel
theorem dX12_forget_2 : decode cX12_forget 2 = .ok (.putfield 158, 3) := by decide +kernel
theorem dX12_forget_5 : decode cX12_forget 5 = .ok (.aload_n 0, 1) := by decide +kernel
theorem dX12_forget_6 : decode cX12_forget 6 = .ok (.iconst 0, 1) := by decide +kernel
theorem dX12_forget_7 : decode cX12_forget 7 = .ok (.putfield 333, 3) := by decide +kernel
theorem dX12_forget_10 : decode cX12_forget 10 = .ok (.return_, 1) := by decide +kernel
theorem dX12_insideOf_0 : decode cX12_insideOf 0 = .ok (.iconst 0, 1) := by decide +kernel
theorem dX12_insideOf_1 : decode cX12_insideOf 1 = .ok (.istore_n 2, 1) := by decide +kernel
theorem dX12_insideOf_2 : decode cX12_insideOf 2 = .ok (.iconst 0, 1) := by decide +kernel
theorem dX12_insideOf_3 : decode cX12_insideOf 3 = .ok (.istore_n 3, 1) := by decide +kernel
theorem dX12_insideOf_4 : decode cX12_insideOf 4 = .ok (.iload_n 3, 1) := by decide +kernel
theorem dX12_insideOf_5 : decode cX12_insideOf 5 = .ok (.aload_n 0, 1) := by decide +kernel
theorem dX12_insideOf_6 : decode cX12_insideOf 6 = .ok (.getfield 33, 3) := by decide +kernel
theorem dX12_insideOf_9 : decode cX12_insideOf 9 = .ok (.iconst 2, 1) := by decide +kernel
theorem dX12_insideOf_10 : decode cX12_insideOf 10 = .ok (.iaload, 1) := by decide +kernel
theorem dX12_insideOf_11 : decode cX12_insideOf 11 = .ok (.if_icmp .ge 37, 3) := by decide +kernel
theorem dX12_insideOf_14 : decode cX12_insideOf 14 = .ok (.iload_n 2, 1) := by decide +kernel
theorem dX12_insideOf_15 : decode cX12_insideOf 15 = .ok (.aload_n 0, 1) := by decide +kernel
theorem dX12_insideOf_16 : decode cX12_insideOf 16 = .ok (.getfield 72, 3) := by decide +kernel
theorem dX12_insideOf_19 : decode cX12_insideOf 19 = .ok (.iload_n 3, 1) := by decide +kernel
theorem dX12_insideOf_20 : decode cX12_insideOf 20 = .ok (.iaload, 1) := by decide +kernel
theorem dX12_insideOf_21 : decode cX12_insideOf 21 = .ok (.iconst 1, 1) := by decide +kernel
theorem dX12_insideOf_22 : decode cX12_insideOf 22 = .ok (.if_icmp .ne 17, 3) := by decide +kernel
theorem dX12_insideOf_25 : decode cX12_insideOf 25 = .ok (.aload_n 0, 1) := by decide +kernel
theorem dX12_insideOf_26 : decode cX12_insideOf 26 = .ok (.getfield 46, 3) := by decide +kernel
theorem dX12_insideOf_29 : decode cX12_insideOf 29 = .ok (.iload_n 3, 1) := by decide +kernel
theorem dX12_insideOf_30 : decode cX12_insideOf 30 = .ok (.iaload, 1) := by decide +kernel
theorem dX12_insideOf_31 : decode cX12_insideOf 31 = .ok (.iload_n 1, 1) := by decide +kernel
theorem dX12_insideOf_32 : decode cX12_insideOf 32 = .ok (.if_icmp .ne 7, 3) := by decide +kernel
theorem dX12_insideOf_35 : decode cX12_insideOf 35 = .ok (.iconst 1, 1) := by decide +kernel
theorem dX12_insideOf_36 : decode cX12_insideOf 36 = .ok (.goto 4, 3) := by decide +kernel
theorem dX12_insideOf_39 : decode cX12_insideOf 39 = .ok (.iconst 0, 1) := by decide +kernel
theorem dX12_insideOf_40 : decode cX12_insideOf 40 = .ok (.iadd, 1) := by decide +kernel
theorem dX12_insideOf_41 : decode cX12_insideOf 41 = .ok (.istore_n 2, 1) := by decide +kernel
theorem dX12_insideOf_42 : decode cX12_insideOf 42 = .ok (.iinc 3 1, 3) := by decide +kernel
theorem dX12_insideOf_45 : decode cX12_insideOf 45 = .ok (.goto (-41), 3) := by decide +kernel
theorem dX12_insideOf_48 : decode cX12_insideOf 48 = .ok (.iload_n 2, 1) := by decide +kernel
theorem dX12_insideOf_49 : decode cX12_insideOf 49 = .ok (.ireturn, 1) := by decide +kernel
theorem dX12_tellLosses_0 : decode cX12_tellLosses 0 = .ok (.aload_n 0, 1) := by decide +kernel
theorem dX12_tellLosses_1 : decode cX12_tellLosses 1 = .ok (.aload_n 0, 1) := by decide +kernel
theorem dX12_tellLosses_2 : decode cX12_tellLosses 2 = .ok (.getfield 102, 3) := by decide +kernel
theorem dX12_tellLosses_5 : decode cX12_tellLosses 5 = .ok (.iconst 0, 1) := by decide +kernel
theorem dX12_tellLosses_6 : decode cX12_tellLosses 6 = .ok (.invokevirtual 414, 3) := by decide +kernel
theorem dX12_tellLosses_9 : decode cX12_tellLosses 9 = .ok (.iconst 0, 1) := by decide +kernel
theorem dX12_tellLosses_10 : decode cX12_tellLosses 10 = .ok (.istore_n 3, 1) := by decide +kernel
theorem dX12_tellLosses_11 : decode cX12_tellLosses 11 = .ok (.iload_n 3, 1) := by decide +kernel
theorem dX12_tellLosses_12 : decode cX12_tellLosses 12 = .ok (.iconst 4, 1) := by decide +kernel
theorem dX12_tellLosses_13 : decode cX12_tellLosses 13 = .ok (.if_icmp .ge 198, 3) := by decide +kernel
theorem dX12_tellLosses_16 : decode cX12_tellLosses 16 = .ok (.iconst 0, 1) := by decide +kernel
theorem dX12_tellLosses_17 : decode cX12_tellLosses 17 = .ok (.istore 4, 2) := by decide +kernel
theorem dX12_tellLosses_19 : decode cX12_tellLosses 19 = .ok (.iload 4, 2) := by decide +kernel
theorem dX12_tellLosses_21 : decode cX12_tellLosses 21 = .ok (.aload_n 0, 1) := by decide +kernel
theorem dX12_tellLosses_22 : decode cX12_tellLosses 22 = .ok (.getfield 33, 3) := by decide +kernel
theorem dX12_tellLosses_25 : decode cX12_tellLosses 25 = .ok (.iconst 2, 1) := by decide +kernel
theorem dX12_tellLosses_26 : decode cX12_tellLosses 26 = .ok (.iaload, 1) := by decide +kernel
theorem dX12_tellLosses_27 : decode cX12_tellLosses 27 = .ok (.if_icmp .ge 93, 3) := by decide +kernel
theorem dX12_tellLosses_30 : decode cX12_tellLosses 30 = .ok (.aload_n 0, 1) := by decide +kernel
theorem dX12_tellLosses_31 : decode cX12_tellLosses 31 = .ok (.getfield 46, 3) := by decide +kernel
theorem dX12_tellLosses_34 : decode cX12_tellLosses 34 = .ok (.iload 4, 2) := by decide +kernel
theorem dX12_tellLosses_36 : decode cX12_tellLosses 36 = .ok (.iaload, 1) := by decide +kernel
theorem dX12_tellLosses_37 : decode cX12_tellLosses 37 = .ok (.iload_n 1, 1) := by decide +kernel
theorem dX12_tellLosses_38 : decode cX12_tellLosses 38 = .ok (.if_icmp .ne 10, 3) := by decide +kernel
theorem dX12_tellLosses_41 : decode cX12_tellLosses 41 = .ok (.iload_n 3, 1) := by decide +kernel
theorem dX12_tellLosses_42 : decode cX12_tellLosses 42 = .ok (.iconst 2, 1) := by decide +kernel
theorem dX12_tellLosses_43 : decode cX12_tellLosses 43 = .ok (.idiv, 1) := by decide +kernel
theorem dX12_tellLosses_44 : decode cX12_tellLosses 44 = .ok (.iconst 1, 1) := by decide +kernel
theorem dX12_tellLosses_45 : decode cX12_tellLosses 45 = .ok (.if_icmp .eq 21, 3) := by decide +kernel
theorem dX12_tellLosses_48 : decode cX12_tellLosses 48 = .ok (.aload_n 0, 1) := by decide +kernel
theorem dX12_tellLosses_49 : decode cX12_tellLosses 49 = .ok (.getfield 46, 3) := by decide +kernel
theorem dX12_tellLosses_52 : decode cX12_tellLosses 52 = .ok (.iload 4, 2) := by decide +kernel
theorem dX12_tellLosses_54 : decode cX12_tellLosses 54 = .ok (.iaload, 1) := by decide +kernel
theorem dX12_tellLosses_55 : decode cX12_tellLosses 55 = .ok (.iload_n 2, 1) := by decide +kernel
theorem dX12_tellLosses_56 : decode cX12_tellLosses 56 = .ok (.if_icmp .ne 14, 3) := by decide +kernel
theorem dX12_tellLosses_59 : decode cX12_tellLosses 59 = .ok (.iload_n 3, 1) := by decide +kernel
theorem dX12_tellLosses_60 : decode cX12_tellLosses 60 = .ok (.iconst 2, 1) := by decide +kernel
theorem dX12_tellLosses_61 : decode cX12_tellLosses 61 = .ok (.irem, 1) := by decide +kernel
theorem dX12_tellLosses_62 : decode cX12_tellLosses 62 = .ok (.iconst 1, 1) := by decide +kernel
theorem dX12_tellLosses_63 : decode cX12_tellLosses 63 = .ok (.if_icmp .ne 7, 3) := by decide +kernel
theorem dX12_tellLosses_66 : decode cX12_tellLosses 66 = .ok (.iconst 1, 1) := by decide +kernel
theorem dX12_tellLosses_67 : decode cX12_tellLosses 67 = .ok (.goto 4, 3) := by decide +kernel
theorem dX12_tellLosses_70 : decode cX12_tellLosses 70 = .ok (.iconst 0, 1) := by decide +kernel
theorem dX12_tellLosses_71 : decode cX12_tellLosses 71 = .ok (.istore 5, 2) := by decide +kernel
theorem dX12_tellLosses_73 : decode cX12_tellLosses 73 = .ok (.iload 5, 2) := by decide +kernel
theorem dX12_tellLosses_75 : decode cX12_tellLosses 75 = .ok (.ifCond .eq 22, 3) := by decide +kernel
theorem dX12_tellLosses_78 : decode cX12_tellLosses 78 = .ok (.aload_n 0, 1) := by decide +kernel
theorem dX12_tellLosses_79 : decode cX12_tellLosses 79 = .ok (.getfield 72, 3) := by decide +kernel
theorem dX12_tellLosses_82 : decode cX12_tellLosses 82 = .ok (.iload 4, 2) := by decide +kernel
theorem dX12_tellLosses_84 : decode cX12_tellLosses 84 = .ok (.iaload, 1) := by decide +kernel
theorem dX12_tellLosses_85 : decode cX12_tellLosses 85 = .ok (.ifCond .ne 12, 3) := by decide +kernel
theorem dX12_tellLosses_88 : decode cX12_tellLosses 88 = .ok (.aload_n 0, 1) := by decide +kernel
theorem dX12_tellLosses_89 : decode cX12_tellLosses 89 = .ok (.iload 4, 2) := by decide +kernel
theorem dX12_tellLosses_91 : decode cX12_tellLosses 91 = .ok (.invokevirtual 451, 3) := by decide +kernel
theorem dX12_tellLosses_94 : decode cX12_tellLosses 94 = .ok (.goto 4, 3) := by decide +kernel
theorem dX12_tellLosses_97 : decode cX12_tellLosses 97 = .ok (.iconst (-1), 1) := by decide +kernel
theorem dX12_tellLosses_98 : decode cX12_tellLosses 98 = .ok (.istore 6, 2) := by decide +kernel
theorem dX12_tellLosses_100 : decode cX12_tellLosses 100 = .ok (.iload 6, 2) := by decide +kernel
theorem dX12_tellLosses_102 : decode cX12_tellLosses 102 = .ok (.iconst (-1), 1) := by decide +kernel
theorem dX12_tellLosses_103 : decode cX12_tellLosses 103 = .ok (.if_icmp .eq 11, 3) := by decide +kernel
theorem dX12_tellLosses_106 : decode cX12_tellLosses 106 = .ok (.aload_n 0, 1) := by decide +kernel
theorem dX12_tellLosses_107 : decode cX12_tellLosses 107 = .ok (.iload 4, 2) := by decide +kernel
theorem dX12_tellLosses_109 : decode cX12_tellLosses 109 = .ok (.iload 6, 2) := by decide +kernel
theorem dX12_tellLosses_111 : decode cX12_tellLosses 111 = .ok (.invokevirtual 429, 3) := by decide +kernel
theorem dX12_tellLosses_114 : decode cX12_tellLosses 114 = .ok (.iinc 4 1, 3) := by decide +kernel
theorem dX12_tellLosses_117 : decode cX12_tellLosses 117 = .ok (.goto (-98), 3) := by decide +kernel
theorem dX12_tellLosses_120 : decode cX12_tellLosses 120 = .ok (.iconst 0, 1) := by decide +kernel
theorem dX12_tellLosses_121 : decode cX12_tellLosses 121 = .ok (.istore 4, 2) := by decide +kernel
theorem dX12_tellLosses_123 : decode cX12_tellLosses 123 = .ok (.iload 4, 2) := by decide +kernel
theorem dX12_tellLosses_125 : decode cX12_tellLosses 125 = .ok (.bipush 6, 2) := by decide +kernel
theorem dX12_tellLosses_127 : decode cX12_tellLosses 127 = .ok (.if_icmp .ge 17, 3) := by decide +kernel
theorem dX12_tellLosses_130 : decode cX12_tellLosses 130 = .ok (.aload_n 0, 1) := by decide +kernel
theorem dX12_tellLosses_131 : decode cX12_tellLosses 131 = .ok (.getfield 99, 3) := by decide +kernel
theorem dX12_tellLosses_134 : decode cX12_tellLosses 134 = .ok (.iload 4, 2) := by decide +kernel
theorem dX12_tellLosses_136 : decode cX12_tellLosses 136 = .ok (.iconst 0, 1) := by decide +kernel
theorem dX12_tellLosses_137 : decode cX12_tellLosses 137 = .ok (.iastore, 1) := by decide +kernel
theorem dX12_tellLosses_138 : decode cX12_tellLosses 138 = .ok (.iinc 4 1, 3) := by decide +kernel
theorem dX12_tellLosses_141 : decode cX12_tellLosses 141 = .ok (.goto (-18), 3) := by decide +kernel
theorem dX12_tellLosses_144 : decode cX12_tellLosses 144 = .ok (.aload_n 0, 1) := by decide +kernel
theorem dX12_tellLosses_145 : decode cX12_tellLosses 145 = .ok (.bipush 10, 2) := by decide +kernel
theorem dX12_tellLosses_147 : decode cX12_tellLosses 147 = .ok (.invokevirtual 426, 3) := by decide +kernel
theorem dX12_tellLosses_150 : decode cX12_tellLosses 150 = .ok (.aload_n 0, 1) := by decide +kernel
theorem dX12_tellLosses_151 : decode cX12_tellLosses 151 = .ok (.getfield 137, 3) := by decide +kernel
theorem dX12_tellLosses_154 : decode cX12_tellLosses 154 = .ok (.iconst 2, 1) := by decide +kernel
theorem dX12_tellLosses_155 : decode cX12_tellLosses 155 = .ok (.iload_n 3, 1) := by decide +kernel
theorem dX12_tellLosses_156 : decode cX12_tellLosses 156 = .ok (.imul, 1) := by decide +kernel
theorem dX12_tellLosses_157 : decode cX12_tellLosses 157 = .ok (.iconst 5, 1) := by decide +kernel
theorem dX12_tellLosses_158 : decode cX12_tellLosses 158 = .ok (.aload_n 0, 1) := by decide +kernel
theorem dX12_tellLosses_159 : decode cX12_tellLosses 159 = .ok (.getfield 99, 3) := by decide +kernel
theorem dX12_tellLosses_162 : decode cX12_tellLosses 162 = .ok (.iload_n 1, 1) := by decide +kernel
theorem dX12_tellLosses_163 : decode cX12_tellLosses 163 = .ok (.iaload, 1) := by decide +kernel
theorem dX12_tellLosses_164 : decode cX12_tellLosses 164 = .ok (.imul, 1) := by decide +kernel
theorem dX12_tellLosses_165 : decode cX12_tellLosses 165 = .ok (.aload_n 0, 1) := by decide +kernel
theorem dX12_tellLosses_166 : decode cX12_tellLosses 166 = .ok (.iload_n 1, 1) := by decide +kernel
theorem dX12_tellLosses_167 : decode cX12_tellLosses 167 = .ok (.invokevirtual 476, 3) := by decide +kernel
theorem dX12_tellLosses_170 : decode cX12_tellLosses 170 = .ok (.iadd, 1) := by decide +kernel
theorem dX12_tellLosses_171 : decode cX12_tellLosses 171 = .ok (.iastore, 1) := by decide +kernel
theorem dX12_tellLosses_172 : decode cX12_tellLosses 172 = .ok (.aload_n 0, 1) := by decide +kernel
theorem dX12_tellLosses_173 : decode cX12_tellLosses 173 = .ok (.getfield 137, 3) := by decide +kernel
theorem dX12_tellLosses_176 : decode cX12_tellLosses 176 = .ok (.iconst 2, 1) := by decide +kernel
theorem dX12_tellLosses_177 : decode cX12_tellLosses 177 = .ok (.iload_n 3, 1) := by decide +kernel
theorem dX12_tellLosses_178 : decode cX12_tellLosses 178 = .ok (.imul, 1) := by decide +kernel
theorem dX12_tellLosses_179 : decode cX12_tellLosses 179 = .ok (.iconst 1, 1) := by decide +kernel
theorem dX12_tellLosses_180 : decode cX12_tellLosses 180 = .ok (.iadd, 1) := by decide +kernel
theorem dX12_tellLosses_181 : decode cX12_tellLosses 181 = .ok (.iconst 5, 1) := by decide +kernel
theorem dX12_tellLosses_182 : decode cX12_tellLosses 182 = .ok (.aload_n 0, 1) := by decide +kernel
theorem dX12_tellLosses_183 : decode cX12_tellLosses 183 = .ok (.getfield 99, 3) := by decide +kernel
theorem dX12_tellLosses_186 : decode cX12_tellLosses 186 = .ok (.iload_n 2, 1) := by decide +kernel
theorem dX12_tellLosses_187 : decode cX12_tellLosses 187 = .ok (.iaload, 1) := by decide +kernel
theorem dX12_tellLosses_188 : decode cX12_tellLosses 188 = .ok (.imul, 1) := by decide +kernel
theorem dX12_tellLosses_189 : decode cX12_tellLosses 189 = .ok (.aload_n 0, 1) := by decide +kernel
theorem dX12_tellLosses_190 : decode cX12_tellLosses 190 = .ok (.iload_n 2, 1) := by decide +kernel
theorem dX12_tellLosses_191 : decode cX12_tellLosses 191 = .ok (.invokevirtual 476, 3) := by decide +kernel
theorem dX12_tellLosses_194 : decode cX12_tellLosses 194 = .ok (.iadd, 1) := by decide +kernel
theorem dX12_tellLosses_195 : decode cX12_tellLosses 195 = .ok (.iastore, 1) := by decide +kernel
theorem dX12_tellLosses_196 : decode cX12_tellLosses 196 = .ok (.aload_n 0, 1) := by decide +kernel
theorem dX12_tellLosses_197 : decode cX12_tellLosses 197 = .ok (.aload_n 0, 1) := by decide +kernel
theorem dX12_tellLosses_198 : decode cX12_tellLosses 198 = .ok (.getfield 102, 3) := by decide +kernel
theorem dX12_tellLosses_201 : decode cX12_tellLosses 201 = .ok (.iconst 0, 1) := by decide +kernel
theorem dX12_tellLosses_202 : decode cX12_tellLosses 202 = .ok (.invokevirtual 432, 3) := by decide +kernel
theorem dX12_tellLosses_205 : decode cX12_tellLosses 205 = .ok (.iinc 3 1, 3) := by decide +kernel
theorem dX12_tellLosses_208 : decode cX12_tellLosses 208 = .ok (.goto (-197), 3) := by decide +kernel
theorem dX12_tellLosses_211 : decode cX12_tellLosses 211 = .ok (.return_, 1) := by decide +kernel
theorem dX12_game_0 : decode cX12_game 0 = .ok (.aload_n 0, 1) := by decide +kernel
theorem dX12_game_1 : decode cX12_game 1 = .ok (.iconst 0, 1) := by decide +kernel
theorem dX12_game_2 : decode cX12_game 2 = .ok (.putfield 158, 3) := by decide +kernel
theorem dX12_game_5 : decode cX12_game 5 = .ok (.iload_n 1, 1) := by decide +kernel
theorem dX12_game_6 : decode cX12_game 6 = .ok (.invokestatic 408, 3) := by decide +kernel
theorem dX12_game_9 : decode cX12_game 9 = .ok (.ifCond .eq 19, 3) := by decide +kernel
theorem dX12_game_12 : decode cX12_game 12 = .ok (.iload_n 2, 1) := by decide +kernel
theorem dX12_game_13 : decode cX12_game 13 = .ok (.invokestatic 408, 3) := by decide +kernel
theorem dX12_game_16 : decode cX12_game 16 = .ok (.ifCond .eq 12, 3) := by decide +kernel
theorem dX12_game_19 : decode cX12_game 19 = .ok (.iload_n 3, 1) := by decide +kernel
theorem dX12_game_20 : decode cX12_game 20 = .ok (.ifCond .lt 8, 3) := by decide +kernel
theorem dX12_game_23 : decode cX12_game 23 = .ok (.iload_n 3, 1) := by decide +kernel
theorem dX12_game_24 : decode cX12_game 24 = .ok (.iconst 1, 1) := by decide +kernel
theorem dX12_game_25 : decode cX12_game 25 = .ok (.if_icmp .le 9, 3) := by decide +kernel
theorem dX12_game_28 : decode cX12_game 28 = .ok (.aload_n 0, 1) := by decide +kernel
theorem dX12_game_29 : decode cX12_game 29 = .ok (.iconst 1, 1) := by decide +kernel
theorem dX12_game_30 : decode cX12_game 30 = .ok (.invokevirtual 312, 3) := by decide +kernel
theorem dX12_game_33 : decode cX12_game 33 = .ok (.ireturn, 1) := by decide +kernel
theorem dX12_game_34 : decode cX12_game 34 = .ok (.aload_n 0, 1) := by decide +kernel
theorem dX12_game_35 : decode cX12_game 35 = .ok (.getfield 84, 3) := by decide +kernel
theorem dX12_game_38 : decode cX12_game 38 = .ok (.iload_n 1, 1) := by decide +kernel
theorem dX12_game_39 : decode cX12_game 39 = .ok (.iaload, 1) := by decide +kernel
theorem dX12_game_40 : decode cX12_game 40 = .ok (.iload_n 2, 1) := by decide +kernel
theorem dX12_game_41 : decode cX12_game 41 = .ok (.invokestatic 284, 3) := by decide +kernel
theorem dX12_game_44 : decode cX12_game 44 = .ok (.ifCond .ne 9, 3) := by decide +kernel
theorem dX12_game_47 : decode cX12_game 47 = .ok (.aload_n 0, 1) := by decide +kernel
theorem dX12_game_48 : decode cX12_game 48 = .ok (.iconst 2, 1) := by decide +kernel
theorem dX12_game_49 : decode cX12_game 49 = .ok (.invokevirtual 312, 3) := by decide +kernel
theorem dX12_game_52 : decode cX12_game 52 = .ok (.ireturn, 1) := by decide +kernel
theorem dX12_game_53 : decode cX12_game 53 = .ok (.aload_n 0, 1) := by decide +kernel
theorem dX12_game_54 : decode cX12_game 54 = .ok (.iload_n 1, 1) := by decide +kernel
theorem dX12_game_55 : decode cX12_game 55 = .ok (.iload_n 2, 1) := by decide +kernel
theorem dX12_game_56 : decode cX12_game 56 = .ok (.invokevirtual 479, 3) := by decide +kernel
theorem dX12_game_59 : decode cX12_game 59 = .ok (.iconst 0, 1) := by decide +kernel
theorem dX12_game_60 : decode cX12_game 60 = .ok (.istore 4, 2) := by decide +kernel
theorem dX12_game_62 : decode cX12_game 62 = .ok (.iconst (-1), 1) := by decide +kernel
theorem dX12_game_63 : decode cX12_game 63 = .ok (.istore 5, 2) := by decide +kernel
theorem dX12_game_65 : decode cX12_game 65 = .ok (.iconst 0, 1) := by decide +kernel
theorem dX12_game_66 : decode cX12_game 66 = .ok (.istore 6, 2) := by decide +kernel
theorem dX12_game_68 : decode cX12_game 68 = .ok (.iload 6, 2) := by decide +kernel
theorem dX12_game_70 : decode cX12_game 70 = .ok (.iconst 4, 1) := by decide +kernel
theorem dX12_game_71 : decode cX12_game 71 = .ok (.if_icmp .ge 90, 3) := by decide +kernel
theorem dX12_game_74 : decode cX12_game 74 = .ok (.aload_n 0, 1) := by decide +kernel
theorem dX12_game_75 : decode cX12_game 75 = .ok (.getfield 137, 3) := by decide +kernel
theorem dX12_game_78 : decode cX12_game 78 = .ok (.iconst 2, 1) := by decide +kernel
theorem dX12_game_79 : decode cX12_game 79 = .ok (.iload 6, 2) := by decide +kernel
theorem dX12_game_81 : decode cX12_game 81 = .ok (.iconst 2, 1) := by decide +kernel
theorem dX12_game_82 : decode cX12_game 82 = .ok (.ixor, 1) := by decide +kernel
theorem dX12_game_83 : decode cX12_game 83 = .ok (.imul, 1) := by decide +kernel
theorem dX12_game_84 : decode cX12_game 84 = .ok (.iaload, 1) := by decide +kernel
theorem dX12_game_85 : decode cX12_game 85 = .ok (.aload_n 0, 1) := by decide +kernel
theorem dX12_game_86 : decode cX12_game 86 = .ok (.getfield 137, 3) := by decide +kernel
theorem dX12_game_89 : decode cX12_game 89 = .ok (.iconst 2, 1) := by decide +kernel
theorem dX12_game_90 : decode cX12_game 90 = .ok (.iload 6, 2) := by decide +kernel
theorem dX12_game_92 : decode cX12_game 92 = .ok (.imul, 1) := by decide +kernel
theorem dX12_game_93 : decode cX12_game 93 = .ok (.iaload, 1) := by decide +kernel
theorem dX12_game_94 : decode cX12_game 94 = .ok (.if_icmp .lt 61, 3) := by decide +kernel
theorem dX12_game_97 : decode cX12_game 97 = .ok (.aload_n 0, 1) := by decide +kernel
theorem dX12_game_98 : decode cX12_game 98 = .ok (.getfield 137, 3) := by decide +kernel
theorem dX12_game_101 : decode cX12_game 101 = .ok (.iconst 2, 1) := by decide +kernel
theorem dX12_game_102 : decode cX12_game 102 = .ok (.iload 6, 2) := by decide +kernel
theorem dX12_game_104 : decode cX12_game 104 = .ok (.iconst 1, 1) := by decide +kernel
theorem dX12_game_105 : decode cX12_game 105 = .ok (.ixor, 1) := by decide +kernel
theorem dX12_game_106 : decode cX12_game 106 = .ok (.imul, 1) := by decide +kernel
theorem dX12_game_107 : decode cX12_game 107 = .ok (.iconst 1, 1) := by decide +kernel
theorem dX12_game_108 : decode cX12_game 108 = .ok (.iadd, 1) := by decide +kernel
theorem dX12_game_109 : decode cX12_game 109 = .ok (.iaload, 1) := by decide +kernel
theorem dX12_game_110 : decode cX12_game 110 = .ok (.aload_n 0, 1) := by decide +kernel
theorem dX12_game_111 : decode cX12_game 111 = .ok (.getfield 137, 3) := by decide +kernel
theorem dX12_game_114 : decode cX12_game 114 = .ok (.iconst 2, 1) := by decide +kernel
theorem dX12_game_115 : decode cX12_game 115 = .ok (.iload 6, 2) := by decide +kernel
theorem dX12_game_117 : decode cX12_game 117 = .ok (.imul, 1) := by decide +kernel
theorem dX12_game_118 : decode cX12_game 118 = .ok (.iconst 1, 1) := by decide +kernel
theorem dX12_game_119 : decode cX12_game 119 = .ok (.iadd, 1) := by decide +kernel
theorem dX12_game_120 : decode cX12_game 120 = .ok (.iaload, 1) := by decide +kernel
theorem dX12_game_121 : decode cX12_game 121 = .ok (.if_icmp .ge 6, 3) := by decide +kernel
theorem dX12_game_124 : decode cX12_game 124 = .ok (.goto 31, 3) := by decide +kernel
theorem dX12_game_127 : decode cX12_game 127 = .ok (.iinc 4 1, 3) := by decide +kernel
theorem dX12_game_130 : decode cX12_game 130 = .ok (.iload 5, 2) := by decide +kernel
theorem dX12_game_132 : decode cX12_game 132 = .ok (.iconst (-1), 1) := by decide +kernel
theorem dX12_game_133 : decode cX12_game 133 = .ok (.if_icmp .ne 18, 3) := by decide +kernel
theorem dX12_game_136 : decode cX12_game 136 = .ok (.bipush 10, 2) := by decide +kernel
theorem dX12_game_138 : decode cX12_game 138 = .ok (.iload 6, 2) := by decide +kernel
theorem dX12_game_140 : decode cX12_game 140 = .ok (.iconst 2, 1) := by decide +kernel
theorem dX12_game_141 : decode cX12_game 141 = .ok (.idiv, 1) := by decide +kernel
theorem dX12_game_142 : decode cX12_game 142 = .ok (.imul, 1) := by decide +kernel
theorem dX12_game_143 : decode cX12_game 143 = .ok (.iload 6, 2) := by decide +kernel
theorem dX12_game_145 : decode cX12_game 145 = .ok (.iconst 2, 1) := by decide +kernel
theorem dX12_game_146 : decode cX12_game 146 = .ok (.irem, 1) := by decide +kernel
theorem dX12_game_147 : decode cX12_game 147 = .ok (.iadd, 1) := by decide +kernel
theorem dX12_game_148 : decode cX12_game 148 = .ok (.goto 5, 3) := by decide +kernel
theorem dX12_game_151 : decode cX12_game 151 = .ok (.iload 5, 2) := by decide +kernel
theorem dX12_game_153 : decode cX12_game 153 = .ok (.istore 5, 2) := by decide +kernel
theorem dX12_game_155 : decode cX12_game 155 = .ok (.iinc 6 1, 3) := by decide +kernel
theorem dX12_game_158 : decode cX12_game 158 = .ok (.goto (-90), 3) := by decide +kernel
theorem dX12_game_161 : decode cX12_game 161 = .ok (.iload_n 3, 1) := by decide +kernel
theorem dX12_game_162 : decode cX12_game 162 = .ok (.ifCond .ne 8, 3) := by decide +kernel
theorem dX12_game_165 : decode cX12_game 165 = .ok (.iload 4, 2) := by decide +kernel
theorem dX12_game_167 : decode cX12_game 167 = .ok (.goto 5, 3) := by decide +kernel
theorem dX12_game_170 : decode cX12_game 170 = .ok (.iload 5, 2) := by decide +kernel
theorem dX12_game_172 : decode cX12_game 172 = .ok (.ireturn, 1) := by decide +kernel
theorem dX12_drawOf_0 : decode cX12_drawOf 0 = .ok (.aload_n 0, 1) := by decide +kernel
theorem dX12_drawOf_1 : decode cX12_drawOf 1 = .ok (.aload_n 0, 1) := by decide +kernel
theorem dX12_drawOf_2 : decode cX12_drawOf 2 = .ok (.getfield 482, 3) := by decide +kernel
theorem dX12_drawOf_5 : decode cX12_drawOf 5 = .ok (.ldc_w 485, 3) := by decide +kernel
theorem dX12_drawOf_8 : decode cX12_drawOf 8 = .ok (.imul, 1) := by decide +kernel
theorem dX12_drawOf_9 : decode cX12_drawOf 9 = .ok (.sipush 12345, 3) := by decide +kernel
theorem dX12_drawOf_12 : decode cX12_drawOf 12 = .ok (.iadd, 1) := by decide +kernel
theorem dX12_drawOf_13 : decode cX12_drawOf 13 = .ok (.putfield 482, 3) := by decide +kernel
theorem dX12_drawOf_16 : decode cX12_drawOf 16 = .ok (.aload_n 0, 1) := by decide +kernel
theorem dX12_drawOf_17 : decode cX12_drawOf 17 = .ok (.getfield 482, 3) := by decide +kernel
theorem dX12_drawOf_20 : decode cX12_drawOf 20 = .ok (.bipush 16, 2) := by decide +kernel
theorem dX12_drawOf_22 : decode cX12_drawOf 22 = .ok (.ishr, 1) := by decide +kernel
theorem dX12_drawOf_23 : decode cX12_drawOf 23 = .ok (.sipush 32767, 3) := by decide +kernel
theorem dX12_drawOf_26 : decode cX12_drawOf 26 = .ok (.iand, 1) := by decide +kernel
theorem dX12_drawOf_27 : decode cX12_drawOf 27 = .ok (.iload_n 1, 1) := by decide +kernel
theorem dX12_drawOf_28 : decode cX12_drawOf 28 = .ok (.irem, 1) := by decide +kernel
theorem dX12_drawOf_29 : decode cX12_drawOf 29 = .ok (.ireturn, 1) := by decide +kernel
theorem dX12_something_0 : decode cX12_something 0 = .ok (.aload_n 0, 1) := by decide +kernel
theorem dX12_something_1 : decode cX12_something 1 = .ok (.bipush 7, 2) := by decide +kernel
theorem dX12_something_3 : decode cX12_something 3 = .ok (.invokevirtual 486, 3) := by decide +kernel
theorem dX12_something_6 : decode cX12_something 6 = .ok (.istore_n 1, 1) := by decide +kernel
theorem dX12_something_7 : decode cX12_something 7 = .ok (.iload_n 1, 1) := by decide +kernel
theorem dX12_something_8 : decode cX12_something 8 = .ok (.ifCond .ne 52, 3) := by decide +kernel
theorem dX12_something_11 : decode cX12_something 11 = .ok (.aload_n 0, 1) := by decide +kernel
theorem dX12_something_12 : decode cX12_something 12 = .ok (.getfield 33, 3) := by decide +kernel
theorem dX12_something_15 : decode cX12_something 15 = .ok (.iconst 2, 1) := by decide +kernel
theorem dX12_something_16 : decode cX12_something 16 = .ok (.iaload, 1) := by decide +kernel
theorem dX12_something_17 : decode cX12_something 17 = .ok (.ifCond .le 43, 3) := by decide +kernel
theorem dX12_something_20 : decode cX12_something 20 = .ok (.aload_n 0, 1) := by decide +kernel
theorem dX12_something_21 : decode cX12_something 21 = .ok (.aload_n 0, 1) := by decide +kernel
theorem dX12_something_22 : decode cX12_something 22 = .ok (.getfield 33, 3) := by decide +kernel
theorem dX12_something_25 : decode cX12_something 25 = .ok (.iconst 2, 1) := by decide +kernel
theorem dX12_something_26 : decode cX12_something 26 = .ok (.iaload, 1) := by decide +kernel
theorem dX12_something_27 : decode cX12_something 27 = .ok (.invokevirtual 486, 3) := by decide +kernel
theorem dX12_something_30 : decode cX12_something 30 = .ok (.istore_n 2, 1) := by decide +kernel
theorem dX12_something_31 : decode cX12_something 31 = .ok (.aload_n 0, 1) := by decide +kernel
theorem dX12_something_32 : decode cX12_something 32 = .ok (.getfield 72, 3) := by decide +kernel
theorem dX12_something_35 : decode cX12_something 35 = .ok (.iload_n 2, 1) := by decide +kernel
theorem dX12_something_36 : decode cX12_something 36 = .ok (.iaload, 1) := by decide +kernel
theorem dX12_something_37 : decode cX12_something 37 = .ok (.ifCond .ne 23, 3) := by decide +kernel
theorem dX12_something_40 : decode cX12_something 40 = .ok (.aload_n 0, 1) := by decide +kernel
theorem dX12_something_41 : decode cX12_something 41 = .ok (.getfield 70, 3) := by decide +kernel
theorem dX12_something_44 : decode cX12_something 44 = .ok (.iload_n 2, 1) := by decide +kernel
theorem dX12_something_45 : decode cX12_something 45 = .ok (.bipush 99, 2) := by decide +kernel
theorem dX12_something_47 : decode cX12_something 47 = .ok (.aload_n 0, 1) := by decide +kernel
theorem dX12_something_48 : decode cX12_something 48 = .ok (.getfield 70, 3) := by decide +kernel
theorem dX12_something_51 : decode cX12_something 51 = .ok (.iload_n 2, 1) := by decide +kernel
theorem dX12_something_52 : decode cX12_something 52 = .ok (.iaload, 1) := by decide +kernel
theorem dX12_something_53 : decode cX12_something 53 = .ok (.bipush 20, 2) := by decide +kernel
theorem dX12_something_55 : decode cX12_something 55 = .ok (.iadd, 1) := by decide +kernel
theorem dX12_something_56 : decode cX12_something 56 = .ok (.invokestatic 197, 3) := by decide +kernel
theorem dX12_something_59 : decode cX12_something 59 = .ok (.iastore, 1) := by decide +kernel
theorem dX12_something_60 : decode cX12_something 60 = .ok (.iload_n 1, 1) := by decide +kernel
theorem dX12_something_61 : decode cX12_something 61 = .ok (.iconst 1, 1) := by decide +kernel
theorem dX12_something_62 : decode cX12_something 62 = .ok (.if_icmp .ne 42, 3) := by decide +kernel
theorem dX12_something_65 : decode cX12_something 65 = .ok (.aload_n 0, 1) := by decide +kernel
theorem dX12_something_66 : decode cX12_something 66 = .ok (.getfield 33, 3) := by decide +kernel
theorem dX12_something_69 : decode cX12_something 69 = .ok (.iconst 1, 1) := by decide +kernel
theorem dX12_something_70 : decode cX12_something 70 = .ok (.iaload, 1) := by decide +kernel
theorem dX12_something_71 : decode cX12_something 71 = .ok (.ifCond .le 33, 3) := by decide +kernel
theorem dX12_something_74 : decode cX12_something 74 = .ok (.aload_n 0, 1) := by decide +kernel
theorem dX12_something_75 : decode cX12_something 75 = .ok (.aload_n 0, 1) := by decide +kernel
theorem dX12_something_76 : decode cX12_something 76 = .ok (.getfield 33, 3) := by decide +kernel
theorem dX12_something_79 : decode cX12_something 79 = .ok (.iconst 1, 1) := by decide +kernel
theorem dX12_something_80 : decode cX12_something 80 = .ok (.iaload, 1) := by decide +kernel
theorem dX12_something_81 : decode cX12_something 81 = .ok (.invokevirtual 486, 3) := by decide +kernel
theorem dX12_something_84 : decode cX12_something 84 = .ok (.istore_n 2, 1) := by decide +kernel
theorem dX12_something_85 : decode cX12_something 85 = .ok (.aload_n 0, 1) := by decide +kernel
theorem dX12_something_86 : decode cX12_something 86 = .ok (.getfield 78, 3) := by decide +kernel
theorem dX12_something_89 : decode cX12_something 89 = .ok (.iload_n 2, 1) := by decide +kernel
theorem dX12_something_90 : decode cX12_something 90 = .ok (.iaload, 1) := by decide +kernel
theorem dX12_something_91 : decode cX12_something 91 = .ok (.ifCond .le 13, 3) := by decide +kernel
theorem dX12_something_94 : decode cX12_something 94 = .ok (.aload_n 0, 1) := by decide +kernel
theorem dX12_something_95 : decode cX12_something 95 = .ok (.aload_n 0, 1) := by decide +kernel
theorem dX12_something_96 : decode cX12_something 96 = .ok (.iload_n 2, 1) := by decide +kernel
theorem dX12_something_97 : decode cX12_something 97 = .ok (.invokevirtual 387, 3) := by decide +kernel
theorem dX12_something_100 : decode cX12_something 100 = .ok (.iconst 0, 1) := by decide +kernel
theorem dX12_something_101 : decode cX12_something 101 = .ok (.invokevirtual 377, 3) := by decide +kernel
theorem dX12_something_104 : decode cX12_something 104 = .ok (.return_, 1) := by decide +kernel
theorem dX12_summer_0 : decode cX12_summer 0 = .ok (.aload_n 0, 1) := by decide +kernel
theorem dX12_summer_1 : decode cX12_summer 1 = .ok (.iconst 0, 1) := by decide +kernel
theorem dX12_summer_2 : decode cX12_summer 2 = .ok (.putfield 158, 3) := by decide +kernel
theorem dX12_summer_5 : decode cX12_summer 5 = .ok (.iload_n 3, 1) := by decide +kernel
theorem dX12_summer_6 : decode cX12_summer 6 = .ok (.i2l, 1) := by decide +kernel
theorem dX12_summer_7 : decode cX12_summer 7 = .ok (.lconst 0, 1) := by decide +kernel
theorem dX12_summer_8 : decode cX12_summer 8 = .ok (.ldc2_w 468, 3) := by decide +kernel
theorem dX12_summer_11 : decode cX12_summer 11 = .ok (.invokestatic 161, 3) := by decide +kernel
theorem dX12_summer_14 : decode cX12_summer 14 = .ok (.ifCond .ne 9, 3) := by decide +kernel
theorem dX12_summer_17 : decode cX12_summer 17 = .ok (.aload_n 0, 1) := by decide +kernel
theorem dX12_summer_18 : decode cX12_summer 18 = .ok (.iconst 1, 1) := by decide +kernel
theorem dX12_summer_19 : decode cX12_summer 19 = .ok (.invokevirtual 312, 3) := by decide +kernel
theorem dX12_summer_22 : decode cX12_summer 22 = .ok (.ireturn, 1) := by decide +kernel
theorem dX12_summer_23 : decode cX12_summer 23 = .ok (.iload_n 2, 1) := by decide +kernel
theorem dX12_summer_24 : decode cX12_summer 24 = .ok (.i2l, 1) := by decide +kernel
theorem dX12_summer_25 : decode cX12_summer 25 = .ok (.lconst 0, 1) := by decide +kernel
theorem dX12_summer_26 : decode cX12_summer 26 = .ok (.ldc2_w 435, 3) := by decide +kernel
theorem dX12_summer_29 : decode cX12_summer 29 = .ok (.invokestatic 161, 3) := by decide +kernel
theorem dX12_summer_32 : decode cX12_summer 32 = .ok (.ifCond .ne 9, 3) := by decide +kernel
theorem dX12_summer_35 : decode cX12_summer 35 = .ok (.aload_n 0, 1) := by decide +kernel
theorem dX12_summer_36 : decode cX12_summer 36 = .ok (.iconst 2, 1) := by decide +kernel
theorem dX12_summer_37 : decode cX12_summer 37 = .ok (.invokevirtual 312, 3) := by decide +kernel
theorem dX12_summer_40 : decode cX12_summer 40 = .ok (.ireturn, 1) := by decide +kernel
theorem dX12_summer_41 : decode cX12_summer 41 = .ok (.aload_n 0, 1) := by decide +kernel
theorem dX12_summer_42 : decode cX12_summer 42 = .ok (.aload_n 0, 1) := by decide +kernel
theorem dX12_summer_43 : decode cX12_summer 43 = .ok (.getfield 102, 3) := by decide +kernel
theorem dX12_summer_46 : decode cX12_summer 46 = .ok (.iconst 0, 1) := by decide +kernel
theorem dX12_summer_47 : decode cX12_summer 47 = .ok (.invokevirtual 414, 3) := by decide +kernel
theorem dX12_summer_50 : decode cX12_summer 50 = .ok (.aload_n 0, 1) := by decide +kernel
theorem dX12_summer_51 : decode cX12_summer 51 = .ok (.iload_n 1, 1) := by decide +kernel
theorem dX12_summer_52 : decode cX12_summer 52 = .ok (.putfield 482, 3) := by decide +kernel
theorem dX12_summer_55 : decode cX12_summer 55 = .ok (.aload_n 0, 1) := by decide +kernel
theorem dX12_summer_56 : decode cX12_summer 56 = .ok (.getfield 327, 3) := by decide +kernel
theorem dX12_summer_59 : decode cX12_summer 59 = .ok (.istore 4, 2) := by decide +kernel
theorem dX12_summer_61 : decode cX12_summer 61 = .ok (.iconst 0, 1) := by decide +kernel
theorem dX12_summer_62 : decode cX12_summer 62 = .ok (.istore 5, 2) := by decide +kernel
theorem dX12_summer_64 : decode cX12_summer 64 = .ok (.iload 5, 2) := by decide +kernel
theorem dX12_summer_66 : decode cX12_summer 66 = .ok (.iload_n 2, 1) := by decide +kernel
theorem dX12_summer_67 : decode cX12_summer 67 = .ok (.if_icmp .ge 17, 3) := by decide +kernel
theorem dX12_summer_70 : decode cX12_summer 70 = .ok (.aload_n 0, 1) := by decide +kernel
theorem dX12_summer_71 : decode cX12_summer 71 = .ok (.invokevirtual 489, 3) := by decide +kernel
theorem dX12_summer_74 : decode cX12_summer 74 = .ok (.aload_n 0, 1) := by decide +kernel
theorem dX12_summer_75 : decode cX12_summer 75 = .ok (.invokevirtual 393, 3) := by decide +kernel
theorem dX12_summer_78 : decode cX12_summer 78 = .ok (.iinc 5 1, 3) := by decide +kernel
theorem dX12_summer_81 : decode cX12_summer 81 = .ok (.goto (-17), 3) := by decide +kernel
theorem dX12_summer_84 : decode cX12_summer 84 = .ok (.iload_n 3, 1) := by decide +kernel
theorem dX12_summer_85 : decode cX12_summer 85 = .ok (.ifCond .ne 13, 3) := by decide +kernel
theorem dX12_summer_88 : decode cX12_summer 88 = .ok (.aload_n 0, 1) := by decide +kernel
theorem dX12_summer_89 : decode cX12_summer 89 = .ok (.getfield 327, 3) := by decide +kernel
theorem dX12_summer_92 : decode cX12_summer 92 = .ok (.iload 4, 2) := by decide +kernel
theorem dX12_summer_94 : decode cX12_summer 94 = .ok (.isub, 1) := by decide +kernel
theorem dX12_summer_95 : decode cX12_summer 95 = .ok (.goto 33, 3) := by decide +kernel
theorem dX12_summer_98 : decode cX12_summer 98 = .ok (.iload_n 3, 1) := by decide +kernel
theorem dX12_summer_99 : decode cX12_summer 99 = .ok (.iconst 1, 1) := by decide +kernel
theorem dX12_summer_100 : decode cX12_summer 100 = .ok (.if_icmp .ne 14, 3) := by decide +kernel
theorem dX12_summer_103 : decode cX12_summer 103 = .ok (.aload_n 0, 1) := by decide +kernel
theorem dX12_summer_104 : decode cX12_summer 104 = .ok (.iconst 2, 1) := by decide +kernel
theorem dX12_summer_105 : decode cX12_summer 105 = .ok (.invokevirtual 348, 3) := by decide +kernel
theorem dX12_summer_108 : decode cX12_summer 108 = .ok (.invokestatic 364, 3) := by decide +kernel
theorem dX12_summer_111 : decode cX12_summer 111 = .ok (.goto 17, 3) := by decide +kernel
theorem dX12_summer_114 : decode cX12_summer 114 = .ok (.aload_n 0, 1) := by decide +kernel
theorem dX12_summer_115 : decode cX12_summer 115 = .ok (.iconst 1, 1) := by decide +kernel
theorem dX12_summer_116 : decode cX12_summer 116 = .ok (.aload_n 0, 1) := by decide +kernel
theorem dX12_summer_117 : decode cX12_summer 117 = .ok (.getfield 33, 3) := by decide +kernel
theorem dX12_summer_120 : decode cX12_summer 120 = .ok (.iconst 2, 1) := by decide +kernel
theorem dX12_summer_121 : decode cX12_summer 121 = .ok (.iaload, 1) := by decide +kernel
theorem dX12_summer_122 : decode cX12_summer 122 = .ok (.ishl, 1) := by decide +kernel
theorem dX12_summer_123 : decode cX12_summer 123 = .ok (.iconst 1, 1) := by decide +kernel
theorem dX12_summer_124 : decode cX12_summer 124 = .ok (.isub, 1) := by decide +kernel
theorem dX12_summer_125 : decode cX12_summer 125 = .ok (.invokevirtual 440, 3) := by decide +kernel
theorem dX12_summer_128 : decode cX12_summer 128 = .ok (.istore 5, 2) := by decide +kernel
theorem dX12_summer_130 : decode cX12_summer 130 = .ok (.aload_n 0, 1) := by decide +kernel
theorem dX12_summer_131 : decode cX12_summer 131 = .ok (.aload_n 0, 1) := by decide +kernel
theorem dX12_summer_132 : decode cX12_summer 132 = .ok (.getfield 102, 3) := by decide +kernel
theorem dX12_summer_135 : decode cX12_summer 135 = .ok (.iconst 0, 1) := by decide +kernel
theorem dX12_summer_136 : decode cX12_summer 136 = .ok (.invokevirtual 432, 3) := by decide +kernel
theorem dX12_summer_139 : decode cX12_summer 139 = .ok (.iload 5, 2) := by decide +kernel
theorem dX12_summer_141 : decode cX12_summer 141 = .ok (.ireturn, 1) := by decide +kernel
theorem dX12_copyTo_0 : decode cX12_copyTo 0 = .ok (.iconst 0, 1) := by decide +kernel
theorem dX12_copyTo_1 : decode cX12_copyTo 1 = .ok (.istore_n 2, 1) := by decide +kernel
theorem dX12_copyTo_2 : decode cX12_copyTo 2 = .ok (.iload_n 2, 1) := by decide +kernel
theorem dX12_copyTo_3 : decode cX12_copyTo 3 = .ok (.aload_n 0, 1) := by decide +kernel
theorem dX12_copyTo_4 : decode cX12_copyTo 4 = .ok (.arraylength, 1) := by decide +kernel
theorem dX12_copyTo_5 : decode cX12_copyTo 5 = .ok (.if_icmp .ge 15, 3) := by decide +kernel
theorem dX12_copyTo_8 : decode cX12_copyTo 8 = .ok (.aload_n 0, 1) := by decide +kernel
theorem dX12_copyTo_9 : decode cX12_copyTo 9 = .ok (.iload_n 2, 1) := by decide +kernel
theorem dX12_copyTo_10 : decode cX12_copyTo 10 = .ok (.aload_n 1, 1) := by decide +kernel
theorem dX12_copyTo_11 : decode cX12_copyTo 11 = .ok (.iload_n 2, 1) := by decide +kernel
theorem dX12_copyTo_12 : decode cX12_copyTo 12 = .ok (.iaload, 1) := by decide +kernel
theorem dX12_copyTo_13 : decode cX12_copyTo 13 = .ok (.iastore, 1) := by decide +kernel
theorem dX12_copyTo_14 : decode cX12_copyTo 14 = .ok (.iinc 2 1, 3) := by decide +kernel
theorem dX12_copyTo_17 : decode cX12_copyTo 17 = .ok (.goto (-15), 3) := by decide +kernel
theorem dX12_copyTo_20 : decode cX12_copyTo 20 = .ok (.return_, 1) := by decide +kernel
theorem dX12_image_0 : decode cX12_image 0 = .ok (.aload_n 0, 1) := by decide +kernel
theorem dX12_image_1 : decode cX12_image 1 = .ok (.iconst 0, 1) := by decide +kernel
theorem dX12_image_2 : decode cX12_image 2 = .ok (.putfield 158, 3) := by decide +kernel
theorem dX12_image_5 : decode cX12_image 5 = .ok (.aload_n 0, 1) := by decide +kernel
theorem dX12_image_6 : decode cX12_image 6 = .ok (.iconst 1, 1) := by decide +kernel
theorem dX12_image_7 : decode cX12_image 7 = .ok (.putfield 336, 3) := by decide +kernel
theorem dX12_image_10 : decode cX12_image 10 = .ok (.aload_n 0, 1) := by decide +kernel
theorem dX12_image_11 : decode cX12_image 11 = .ok (.aload_n 0, 1) := by decide +kernel
theorem dX12_image_12 : decode cX12_image 12 = .ok (.getfield 330, 3) := by decide +kernel
theorem dX12_image_15 : decode cX12_image 15 = .ok (.putfield 492, 3) := by decide +kernel
theorem dX12_image_18 : decode cX12_image 18 = .ok (.aload_n 0, 1) := by decide +kernel
theorem dX12_image_19 : decode cX12_image 19 = .ok (.aload_n 0, 1) := by decide +kernel
theorem dX12_image_20 : decode cX12_image 20 = .ok (.getfield 333, 3) := by decide +kernel
theorem dX12_image_23 : decode cX12_image 23 = .ok (.putfield 495, 3) := by decide +kernel
theorem dX12_image_26 : decode cX12_image 26 = .ok (.aload_n 0, 1) := by decide +kernel
theorem dX12_image_27 : decode cX12_image 27 = .ok (.aload_n 0, 1) := by decide +kernel
theorem dX12_image_28 : decode cX12_image 28 = .ok (.getfield 140, 3) := by decide +kernel
theorem dX12_image_31 : decode cX12_image 31 = .ok (.iconst 0, 1) := by decide +kernel
theorem dX12_image_32 : decode cX12_image 32 = .ok (.invokevirtual 414, 3) := by decide +kernel
theorem dX12_image_35 : decode cX12_image 35 = .ok (.aload_n 0, 1) := by decide +kernel
theorem dX12_image_36 : decode cX12_image 36 = .ok (.getfield 143, 3) := by decide +kernel
theorem dX12_image_39 : decode cX12_image 39 = .ok (.aload_n 0, 1) := by decide +kernel
theorem dX12_image_40 : decode cX12_image 40 = .ok (.getfield 87, 3) := by decide +kernel
theorem dX12_image_43 : decode cX12_image 43 = .ok (.invokestatic 498, 3) := by decide +kernel
theorem dX12_image_46 : decode cX12_image 46 = .ok (.aload_n 0, 1) := by decide +kernel
theorem dX12_image_47 : decode cX12_image 47 = .ok (.getfield 146, 3) := by decide +kernel
theorem dX12_image_50 : decode cX12_image 50 = .ok (.aload_n 0, 1) := by decide +kernel
theorem dX12_image_51 : decode cX12_image 51 = .ok (.getfield 116, 3) := by decide +kernel
theorem dX12_image_54 : decode cX12_image 54 = .ok (.invokestatic 498, 3) := by decide +kernel
theorem dX12_image_57 : decode cX12_image 57 = .ok (.aload_n 0, 1) := by decide +kernel
theorem dX12_image_58 : decode cX12_image 58 = .ok (.getfield 149, 3) := by decide +kernel
theorem dX12_image_61 : decode cX12_image 61 = .ok (.aload_n 0, 1) := by decide +kernel
theorem dX12_image_62 : decode cX12_image 62 = .ok (.getfield 119, 3) := by decide +kernel
theorem dX12_image_65 : decode cX12_image 65 = .ok (.invokestatic 498, 3) := by decide +kernel
theorem dX12_image_68 : decode cX12_image 68 = .ok (.aload_n 0, 1) := by decide +kernel
theorem dX12_image_69 : decode cX12_image 69 = .ok (.getfield 152, 3) := by decide +kernel
theorem dX12_image_72 : decode cX12_image 72 = .ok (.aload_n 0, 1) := by decide +kernel
theorem dX12_image_73 : decode cX12_image 73 = .ok (.getfield 122, 3) := by decide +kernel
theorem dX12_image_76 : decode cX12_image 76 = .ok (.invokestatic 498, 3) := by decide +kernel
theorem dX12_image_79 : decode cX12_image 79 = .ok (.aload_n 0, 1) := by decide +kernel
theorem dX12_image_80 : decode cX12_image 80 = .ok (.getfield 155, 3) := by decide +kernel
theorem dX12_image_83 : decode cX12_image 83 = .ok (.aload_n 0, 1) := by decide +kernel
theorem dX12_image_84 : decode cX12_image 84 = .ok (.getfield 60, 3) := by decide +kernel
theorem dX12_image_87 : decode cX12_image 87 = .ok (.invokestatic 498, 3) := by decide +kernel
theorem dX12_image_90 : decode cX12_image 90 = .ok (.return_, 1) := by decide +kernel
theorem dX12_restore_0 : decode cX12_restore 0 = .ok (.aload_n 0, 1) := by decide +kernel
theorem dX12_restore_1 : decode cX12_restore 1 = .ok (.iconst 0, 1) := by decide +kernel
theorem dX12_restore_2 : decode cX12_restore 2 = .ok (.putfield 158, 3) := by decide +kernel
theorem dX12_restore_5 : decode cX12_restore 5 = .ok (.aload_n 0, 1) := by decide +kernel
theorem dX12_restore_6 : decode cX12_restore 6 = .ok (.getfield 336, 3) := by decide +kernel
theorem dX12_restore_9 : decode cX12_restore 9 = .ok (.ifCond .ne 5, 3) := by decide +kernel
theorem dX12_restore_12 : decode cX12_restore 12 = .ok (.iconst 0, 1) := by decide +kernel
theorem dX12_restore_13 : decode cX12_restore 13 = .ok (.ireturn, 1) := by decide +kernel
theorem dX12_restore_14 : decode cX12_restore 14 = .ok (.aload_n 0, 1) := by decide +kernel
theorem dX12_restore_15 : decode cX12_restore 15 = .ok (.aload_n 0, 1) := by decide +kernel
theorem dX12_restore_16 : decode cX12_restore 16 = .ok (.getfield 492, 3) := by decide +kernel
theorem dX12_restore_19 : decode cX12_restore 19 = .ok (.putfield 330, 3) := by decide +kernel
theorem dX12_restore_22 : decode cX12_restore 22 = .ok (.aload_n 0, 1) := by decide +kernel
theorem dX12_restore_23 : decode cX12_restore 23 = .ok (.aload_n 0, 1) := by decide +kernel
theorem dX12_restore_24 : decode cX12_restore 24 = .ok (.getfield 495, 3) := by decide +kernel
theorem dX12_restore_27 : decode cX12_restore 27 = .ok (.putfield 333, 3) := by decide +kernel
theorem dX12_restore_30 : decode cX12_restore 30 = .ok (.aload_n 0, 1) := by decide +kernel
theorem dX12_restore_31 : decode cX12_restore 31 = .ok (.aload_n 0, 1) := by decide +kernel
theorem dX12_restore_32 : decode cX12_restore 32 = .ok (.getfield 140, 3) := by decide +kernel
theorem dX12_restore_35 : decode cX12_restore 35 = .ok (.iconst 0, 1) := by decide +kernel
theorem dX12_restore_36 : decode cX12_restore 36 = .ok (.invokevirtual 432, 3) := by decide +kernel
theorem dX12_restore_39 : decode cX12_restore 39 = .ok (.aload_n 0, 1) := by decide +kernel
theorem dX12_restore_40 : decode cX12_restore 40 = .ok (.getfield 87, 3) := by decide +kernel
theorem dX12_restore_43 : decode cX12_restore 43 = .ok (.aload_n 0, 1) := by decide +kernel
theorem dX12_restore_44 : decode cX12_restore 44 = .ok (.getfield 143, 3) := by decide +kernel
theorem dX12_restore_47 : decode cX12_restore 47 = .ok (.invokestatic 498, 3) := by decide +kernel
theorem dX12_restore_50 : decode cX12_restore 50 = .ok (.aload_n 0, 1) := by decide +kernel
theorem dX12_restore_51 : decode cX12_restore 51 = .ok (.getfield 116, 3) := by decide +kernel
theorem dX12_restore_54 : decode cX12_restore 54 = .ok (.aload_n 0, 1) := by decide +kernel
theorem dX12_restore_55 : decode cX12_restore 55 = .ok (.getfield 146, 3) := by decide +kernel
theorem dX12_restore_58 : decode cX12_restore 58 = .ok (.invokestatic 498, 3) := by decide +kernel
theorem dX12_restore_61 : decode cX12_restore 61 = .ok (.aload_n 0, 1) := by decide +kernel
theorem dX12_restore_62 : decode cX12_restore 62 = .ok (.getfield 119, 3) := by decide +kernel
theorem dX12_restore_65 : decode cX12_restore 65 = .ok (.aload_n 0, 1) := by decide +kernel
theorem dX12_restore_66 : decode cX12_restore 66 = .ok (.getfield 149, 3) := by decide +kernel
theorem dX12_restore_69 : decode cX12_restore 69 = .ok (.invokestatic 498, 3) := by decide +kernel
theorem dX12_restore_72 : decode cX12_restore 72 = .ok (.aload_n 0, 1) := by decide +kernel
theorem dX12_restore_73 : decode cX12_restore 73 = .ok (.getfield 122, 3) := by decide +kernel
theorem dX12_restore_76 : decode cX12_restore 76 = .ok (.aload_n 0, 1) := by decide +kernel
theorem dX12_restore_77 : decode cX12_restore 77 = .ok (.getfield 152, 3) := by decide +kernel
theorem dX12_restore_80 : decode cX12_restore 80 = .ok (.invokestatic 498, 3) := by decide +kernel
theorem dX12_restore_83 : decode cX12_restore 83 = .ok (.aload_n 0, 1) := by decide +kernel
theorem dX12_restore_84 : decode cX12_restore 84 = .ok (.getfield 60, 3) := by decide +kernel
theorem dX12_restore_87 : decode cX12_restore 87 = .ok (.aload_n 0, 1) := by decide +kernel
theorem dX12_restore_88 : decode cX12_restore 88 = .ok (.getfield 155, 3) := by decide +kernel
theorem dX12_restore_91 : decode cX12_restore 91 = .ok (.invokestatic 498, 3) := by decide +kernel
theorem dX12_restore_94 : decode cX12_restore 94 = .ok (.iconst 1, 1) := by decide +kernel
theorem dX12_restore_95 : decode cX12_restore 95 = .ok (.ireturn, 1) := by decide +kernel
theorem dJ11_isValidCodePoint_9a6ad_0 : decode cJ11_isValidCodePoint_9a6ad 0 = .ok (.iload_n 0, 1) := by decide +kernel
theorem dJ11_isValidCodePoint_9a6ad_1 : decode cJ11_isValidCodePoint_9a6ad 1 = .ok (.bipush 16, 2) := by decide +kernel
theorem dJ11_isValidCodePoint_9a6ad_3 : decode cJ11_isValidCodePoint_9a6ad 3 = .ok (.iushr, 1) := by decide +kernel
theorem dJ11_isValidCodePoint_9a6ad_4 : decode cJ11_isValidCodePoint_9a6ad 4 = .ok (.istore_n 1, 1) := by decide +kernel
theorem dJ11_isValidCodePoint_9a6ad_5 : decode cJ11_isValidCodePoint_9a6ad 5 = .ok (.iload_n 1, 1) := by decide +kernel
theorem dJ11_isValidCodePoint_9a6ad_6 : decode cJ11_isValidCodePoint_9a6ad 6 = .ok (.bipush 17, 2) := by decide +kernel
theorem dJ11_isValidCodePoint_9a6ad_8 : decode cJ11_isValidCodePoint_9a6ad 8 = .ok (.if_icmp .ge 7, 3) := by decide +kernel
theorem dJ11_isValidCodePoint_9a6ad_11 : decode cJ11_isValidCodePoint_9a6ad 11 = .ok (.iconst 1, 1) := by decide +kernel
theorem dJ11_isValidCodePoint_9a6ad_12 : decode cJ11_isValidCodePoint_9a6ad 12 = .ok (.goto 4, 3) := by decide +kernel
theorem dJ11_isValidCodePoint_9a6ad_15 : decode cJ11_isValidCodePoint_9a6ad 15 = .ok (.iconst 0, 1) := by decide +kernel
theorem dJ11_isValidCodePoint_9a6ad_16 : decode cJ11_isValidCodePoint_9a6ad 16 = .ok (.ireturn, 1) := by decide +kernel
theorem dJ11_highSurrogate_5068e_0 : decode cJ11_highSurrogate_5068e 0 = .ok (.iload_n 0, 1) := by decide +kernel
theorem dJ11_highSurrogate_5068e_1 : decode cJ11_highSurrogate_5068e 1 = .ok (.bipush 10, 2) := by decide +kernel
theorem dJ11_highSurrogate_5068e_3 : decode cJ11_highSurrogate_5068e 3 = .ok (.iushr, 1) := by decide +kernel
theorem dJ11_highSurrogate_5068e_4 : decode cJ11_highSurrogate_5068e 4 = .ok (.ldc 110, 2) := by decide +kernel
theorem dJ11_highSurrogate_5068e_6 : decode cJ11_highSurrogate_5068e 6 = .ok (.iadd, 1) := by decide +kernel
theorem dJ11_highSurrogate_5068e_7 : decode cJ11_highSurrogate_5068e 7 = .ok (.i2c, 1) := by decide +kernel
theorem dJ11_highSurrogate_5068e_8 : decode cJ11_highSurrogate_5068e 8 = .ok (.ireturn, 1) := by decide +kernel
theorem dJ11_lowSurrogate_5068e_0 : decode cJ11_lowSurrogate_5068e 0 = .ok (.iload_n 0, 1) := by decide +kernel
theorem dJ11_lowSurrogate_5068e_1 : decode cJ11_lowSurrogate_5068e 1 = .ok (.sipush 1023, 3) := by decide +kernel
theorem dJ11_lowSurrogate_5068e_4 : decode cJ11_lowSurrogate_5068e 4 = .ok (.iand, 1) := by decide +kernel
theorem dJ11_lowSurrogate_5068e_5 : decode cJ11_lowSurrogate_5068e 5 = .ok (.ldc 76, 2) := by decide +kernel
theorem dJ11_lowSurrogate_5068e_7 : decode cJ11_lowSurrogate_5068e 7 = .ok (.iadd, 1) := by decide +kernel
theorem dJ11_lowSurrogate_5068e_8 : decode cJ11_lowSurrogate_5068e 8 = .ok (.i2c, 1) := by decide +kernel
theorem dJ11_lowSurrogate_5068e_9 : decode cJ11_lowSurrogate_5068e 9 = .ok (.ireturn, 1) := by decide +kernel
theorem dJ6_bitCount_0f7a4_0 : decode cJ6_bitCount_0f7a4 0 = .ok (.iload_n 0, 1) := by decide +kernel
theorem dJ6_bitCount_0f7a4_1 : decode cJ6_bitCount_0f7a4 1 = .ok (.iload_n 0, 1) := by decide +kernel
theorem dJ6_bitCount_0f7a4_2 : decode cJ6_bitCount_0f7a4 2 = .ok (.iconst 1, 1) := by decide +kernel
theorem dJ6_bitCount_0f7a4_3 : decode cJ6_bitCount_0f7a4 3 = .ok (.iushr, 1) := by decide +kernel
theorem dJ6_bitCount_0f7a4_4 : decode cJ6_bitCount_0f7a4 4 = .ok (.ldc_w 265, 3) := by decide +kernel
theorem dJ6_bitCount_0f7a4_7 : decode cJ6_bitCount_0f7a4 7 = .ok (.iand, 1) := by decide +kernel
theorem dJ6_bitCount_0f7a4_8 : decode cJ6_bitCount_0f7a4 8 = .ok (.isub, 1) := by decide +kernel
theorem dJ6_bitCount_0f7a4_9 : decode cJ6_bitCount_0f7a4 9 = .ok (.istore_n 0, 1) := by decide +kernel
theorem dJ6_bitCount_0f7a4_10 : decode cJ6_bitCount_0f7a4 10 = .ok (.iload_n 0, 1) := by decide +kernel
theorem dJ6_bitCount_0f7a4_11 : decode cJ6_bitCount_0f7a4 11 = .ok (.ldc_w 266, 3) := by decide +kernel
theorem dJ6_bitCount_0f7a4_14 : decode cJ6_bitCount_0f7a4 14 = .ok (.iand, 1) := by decide +kernel
theorem dJ6_bitCount_0f7a4_15 : decode cJ6_bitCount_0f7a4 15 = .ok (.iload_n 0, 1) := by decide +kernel
theorem dJ6_bitCount_0f7a4_16 : decode cJ6_bitCount_0f7a4 16 = .ok (.iconst 2, 1) := by decide +kernel
theorem dJ6_bitCount_0f7a4_17 : decode cJ6_bitCount_0f7a4 17 = .ok (.iushr, 1) := by decide +kernel
theorem dJ6_bitCount_0f7a4_18 : decode cJ6_bitCount_0f7a4 18 = .ok (.ldc_w 266, 3) := by decide +kernel
theorem dJ6_bitCount_0f7a4_21 : decode cJ6_bitCount_0f7a4 21 = .ok (.iand, 1) := by decide +kernel
theorem dJ6_bitCount_0f7a4_22 : decode cJ6_bitCount_0f7a4 22 = .ok (.iadd, 1) := by decide +kernel
theorem dJ6_bitCount_0f7a4_23 : decode cJ6_bitCount_0f7a4 23 = .ok (.istore_n 0, 1) := by decide +kernel
theorem dJ6_bitCount_0f7a4_24 : decode cJ6_bitCount_0f7a4 24 = .ok (.iload_n 0, 1) := by decide +kernel
theorem dJ6_bitCount_0f7a4_25 : decode cJ6_bitCount_0f7a4 25 = .ok (.iload_n 0, 1) := by decide +kernel
theorem dJ6_bitCount_0f7a4_26 : decode cJ6_bitCount_0f7a4 26 = .ok (.iconst 4, 1) := by decide +kernel
theorem dJ6_bitCount_0f7a4_27 : decode cJ6_bitCount_0f7a4 27 = .ok (.iushr, 1) := by decide +kernel
theorem dJ6_bitCount_0f7a4_28 : decode cJ6_bitCount_0f7a4 28 = .ok (.iadd, 1) := by decide +kernel
theorem dJ6_bitCount_0f7a4_29 : decode cJ6_bitCount_0f7a4 29 = .ok (.ldc_w 267, 3) := by decide +kernel
theorem dJ6_bitCount_0f7a4_32 : decode cJ6_bitCount_0f7a4 32 = .ok (.iand, 1) := by decide +kernel
theorem dJ6_bitCount_0f7a4_33 : decode cJ6_bitCount_0f7a4 33 = .ok (.istore_n 0, 1) := by decide +kernel
theorem dJ6_bitCount_0f7a4_34 : decode cJ6_bitCount_0f7a4 34 = .ok (.iload_n 0, 1) := by decide +kernel
theorem dJ6_bitCount_0f7a4_35 : decode cJ6_bitCount_0f7a4 35 = .ok (.iload_n 0, 1) := by decide +kernel
theorem dJ6_bitCount_0f7a4_36 : decode cJ6_bitCount_0f7a4 36 = .ok (.bipush 8, 2) := by decide +kernel
theorem dJ6_bitCount_0f7a4_38 : decode cJ6_bitCount_0f7a4 38 = .ok (.iushr, 1) := by decide +kernel
theorem dJ6_bitCount_0f7a4_39 : decode cJ6_bitCount_0f7a4 39 = .ok (.iadd, 1) := by decide +kernel
theorem dJ6_bitCount_0f7a4_40 : decode cJ6_bitCount_0f7a4 40 = .ok (.istore_n 0, 1) := by decide +kernel
theorem dJ6_bitCount_0f7a4_41 : decode cJ6_bitCount_0f7a4 41 = .ok (.iload_n 0, 1) := by decide +kernel
theorem dJ6_bitCount_0f7a4_42 : decode cJ6_bitCount_0f7a4 42 = .ok (.iload_n 0, 1) := by decide +kernel
theorem dJ6_bitCount_0f7a4_43 : decode cJ6_bitCount_0f7a4 43 = .ok (.bipush 16, 2) := by decide +kernel
theorem dJ6_bitCount_0f7a4_45 : decode cJ6_bitCount_0f7a4 45 = .ok (.iushr, 1) := by decide +kernel
theorem dJ6_bitCount_0f7a4_46 : decode cJ6_bitCount_0f7a4 46 = .ok (.iadd, 1) := by decide +kernel
theorem dJ6_bitCount_0f7a4_47 : decode cJ6_bitCount_0f7a4 47 = .ok (.istore_n 0, 1) := by decide +kernel
theorem dJ6_bitCount_0f7a4_48 : decode cJ6_bitCount_0f7a4 48 = .ok (.iload_n 0, 1) := by decide +kernel
theorem dJ6_bitCount_0f7a4_49 : decode cJ6_bitCount_0f7a4 49 = .ok (.bipush 63, 2) := by decide +kernel
theorem dJ6_bitCount_0f7a4_51 : decode cJ6_bitCount_0f7a4 51 = .ok (.iand, 1) := by decide +kernel
theorem dJ6_bitCount_0f7a4_52 : decode cJ6_bitCount_0f7a4 52 = .ok (.ireturn, 1) := by decide +kernel
theorem dJ13_bitCount_95d88_0 : decode cJ13_bitCount_95d88 0 = .ok (.lload_n 0, 1) := by decide +kernel
theorem dJ13_bitCount_95d88_1 : decode cJ13_bitCount_95d88 1 = .ok (.lload_n 0, 1) := by decide +kernel
theorem dJ13_bitCount_95d88_2 : decode cJ13_bitCount_95d88 2 = .ok (.iconst 1, 1) := by decide +kernel
theorem dJ13_bitCount_95d88_3 : decode cJ13_bitCount_95d88 3 = .ok (.lushr, 1) := by decide +kernel
theorem dJ13_bitCount_95d88_4 : decode cJ13_bitCount_95d88 4 = .ok (.ldc2_w 314, 3) := by decide +kernel
theorem dJ13_bitCount_95d88_7 : decode cJ13_bitCount_95d88 7 = .ok (.land, 1) := by decide +kernel
theorem dJ13_bitCount_95d88_8 : decode cJ13_bitCount_95d88 8 = .ok (.lsub, 1) := by decide +kernel
theorem dJ13_bitCount_95d88_9 : decode cJ13_bitCount_95d88 9 = .ok (.lstore_n 0, 1) := by decide +kernel
theorem dJ13_bitCount_95d88_10 : decode cJ13_bitCount_95d88 10 = .ok (.lload_n 0, 1) := by decide +kernel
theorem dJ13_bitCount_95d88_11 : decode cJ13_bitCount_95d88 11 = .ok (.ldc2_w 316, 3) := by decide +kernel
theorem dJ13_bitCount_95d88_14 : decode cJ13_bitCount_95d88 14 = .ok (.land, 1) := by decide +kernel
theorem dJ13_bitCount_95d88_15 : decode cJ13_bitCount_95d88 15 = .ok (.lload_n 0, 1) := by decide +kernel
theorem dJ13_bitCount_95d88_16 : decode cJ13_bitCount_95d88 16 = .ok (.iconst 2, 1) := by decide +kernel
theorem dJ13_bitCount_95d88_17 : decode cJ13_bitCount_95d88 17 = .ok (.lushr, 1) := by decide +kernel
theorem dJ13_bitCount_95d88_18 : decode cJ13_bitCount_95d88 18 = .ok (.ldc2_w 316, 3) := by decide +kernel
theorem dJ13_bitCount_95d88_21 : decode cJ13_bitCount_95d88 21 = .ok (.land, 1) := by decide +kernel
theorem dJ13_bitCount_95d88_22 : decode cJ13_bitCount_95d88 22 = .ok (.ladd, 1) := by decide +kernel
theorem dJ13_bitCount_95d88_23 : decode cJ13_bitCount_95d88 23 = .ok (.lstore_n 0, 1) := by decide +kernel
theorem dJ13_bitCount_95d88_24 : decode cJ13_bitCount_95d88 24 = .ok (.lload_n 0, 1) := by decide +kernel
theorem dJ13_bitCount_95d88_25 : decode cJ13_bitCount_95d88 25 = .ok (.lload_n 0, 1) := by decide +kernel
theorem dJ13_bitCount_95d88_26 : decode cJ13_bitCount_95d88 26 = .ok (.iconst 4, 1) := by decide +kernel
theorem dJ13_bitCount_95d88_27 : decode cJ13_bitCount_95d88 27 = .ok (.lushr, 1) := by decide +kernel
theorem dJ13_bitCount_95d88_28 : decode cJ13_bitCount_95d88 28 = .ok (.ladd, 1) := by decide +kernel
theorem dJ13_bitCount_95d88_29 : decode cJ13_bitCount_95d88 29 = .ok (.ldc2_w 318, 3) := by decide +kernel
theorem dJ13_bitCount_95d88_32 : decode cJ13_bitCount_95d88 32 = .ok (.land, 1) := by decide +kernel
theorem dJ13_bitCount_95d88_33 : decode cJ13_bitCount_95d88 33 = .ok (.lstore_n 0, 1) := by decide +kernel
theorem dJ13_bitCount_95d88_34 : decode cJ13_bitCount_95d88 34 = .ok (.lload_n 0, 1) := by decide +kernel
theorem dJ13_bitCount_95d88_35 : decode cJ13_bitCount_95d88 35 = .ok (.lload_n 0, 1) := by decide +kernel
theorem dJ13_bitCount_95d88_36 : decode cJ13_bitCount_95d88 36 = .ok (.bipush 8, 2) := by decide +kernel
theorem dJ13_bitCount_95d88_38 : decode cJ13_bitCount_95d88 38 = .ok (.lushr, 1) := by decide +kernel
theorem dJ13_bitCount_95d88_39 : decode cJ13_bitCount_95d88 39 = .ok (.ladd, 1) := by decide +kernel
theorem dJ13_bitCount_95d88_40 : decode cJ13_bitCount_95d88 40 = .ok (.lstore_n 0, 1) := by decide +kernel
theorem dJ13_bitCount_95d88_41 : decode cJ13_bitCount_95d88 41 = .ok (.lload_n 0, 1) := by decide +kernel
theorem dJ13_bitCount_95d88_42 : decode cJ13_bitCount_95d88 42 = .ok (.lload_n 0, 1) := by decide +kernel
theorem dJ13_bitCount_95d88_43 : decode cJ13_bitCount_95d88 43 = .ok (.bipush 16, 2) := by decide +kernel
theorem dJ13_bitCount_95d88_45 : decode cJ13_bitCount_95d88 45 = .ok (.lushr, 1) := by decide +kernel
theorem dJ13_bitCount_95d88_46 : decode cJ13_bitCount_95d88 46 = .ok (.ladd, 1) := by decide +kernel
theorem dJ13_bitCount_95d88_47 : decode cJ13_bitCount_95d88 47 = .ok (.lstore_n 0, 1) := by decide +kernel
theorem dJ13_bitCount_95d88_48 : decode cJ13_bitCount_95d88 48 = .ok (.lload_n 0, 1) := by decide +kernel
theorem dJ13_bitCount_95d88_49 : decode cJ13_bitCount_95d88 49 = .ok (.lload_n 0, 1) := by decide +kernel
theorem dJ13_bitCount_95d88_50 : decode cJ13_bitCount_95d88 50 = .ok (.bipush 32, 2) := by decide +kernel
theorem dJ13_bitCount_95d88_52 : decode cJ13_bitCount_95d88 52 = .ok (.lushr, 1) := by decide +kernel
theorem dJ13_bitCount_95d88_53 : decode cJ13_bitCount_95d88 53 = .ok (.ladd, 1) := by decide +kernel
theorem dJ13_bitCount_95d88_54 : decode cJ13_bitCount_95d88 54 = .ok (.lstore_n 0, 1) := by decide +kernel
theorem dJ13_bitCount_95d88_55 : decode cJ13_bitCount_95d88 55 = .ok (.lload_n 0, 1) := by decide +kernel
theorem dJ13_bitCount_95d88_56 : decode cJ13_bitCount_95d88 56 = .ok (.l2i, 1) := by decide +kernel
theorem dJ13_bitCount_95d88_57 : decode cJ13_bitCount_95d88 57 = .ok (.bipush 127, 2) := by decide +kernel
theorem dJ13_bitCount_95d88_59 : decode cJ13_bitCount_95d88 59 = .ok (.iand, 1) := by decide +kernel
theorem dJ13_bitCount_95d88_60 : decode cJ13_bitCount_95d88 60 = .ok (.ireturn, 1) := by decide +kernel
theorem dJ9_max_7cf53_0 : decode cJ9_max_7cf53 0 = .ok (.iload_n 0, 1) := by decide +kernel
theorem dJ9_max_7cf53_1 : decode cJ9_max_7cf53 1 = .ok (.iload_n 1, 1) := by decide +kernel
theorem dJ9_max_7cf53_2 : decode cJ9_max_7cf53 2 = .ok (.if_icmp .lt 7, 3) := by decide +kernel
theorem dJ9_max_7cf53_5 : decode cJ9_max_7cf53 5 = .ok (.iload_n 0, 1) := by decide +kernel
theorem dJ9_max_7cf53_6 : decode cJ9_max_7cf53 6 = .ok (.goto 4, 3) := by decide +kernel
theorem dJ9_max_7cf53_9 : decode cJ9_max_7cf53 9 = .ok (.iload_n 1, 1) := by decide +kernel
theorem dJ9_max_7cf53_10 : decode cJ9_max_7cf53 10 = .ok (.ireturn, 1) := by decide +kernel
theorem dJ9_min_7cf53_0 : decode cJ9_min_7cf53 0 = .ok (.iload_n 0, 1) := by decide +kernel
theorem dJ9_min_7cf53_1 : decode cJ9_min_7cf53 1 = .ok (.iload_n 1, 1) := by decide +kernel
theorem dJ9_min_7cf53_2 : decode cJ9_min_7cf53 2 = .ok (.if_icmp .gt 7, 3) := by decide +kernel
theorem dJ9_min_7cf53_5 : decode cJ9_min_7cf53 5 = .ok (.iload_n 0, 1) := by decide +kernel
theorem dJ9_min_7cf53_6 : decode cJ9_min_7cf53 6 = .ok (.goto 4, 3) := by decide +kernel
theorem dJ9_min_7cf53_9 : decode cJ9_min_7cf53 9 = .ok (.iload_n 1, 1) := by decide +kernel
theorem dJ9_min_7cf53_10 : decode cJ9_min_7cf53 10 = .ok (.ireturn, 1) := by decide +kernel
theorem dJ0_length_8abf5_0 : decode cJ0_length_8abf5 0 = .ok (.aload_n 0, 1) := by decide +kernel
theorem dJ0_length_8abf5_1 : decode cJ0_length_8abf5 1 = .ok (.getfield 9, 3) := by decide +kernel
theorem dJ0_length_8abf5_4 : decode cJ0_length_8abf5 4 = .ok (.arraylength, 1) := by decide +kernel
theorem dJ0_length_8abf5_5 : decode cJ0_length_8abf5 5 = .ok (.aload_n 0, 1) := by decide +kernel
theorem dJ0_length_8abf5_6 : decode cJ0_length_8abf5 6 = .ok (.invokevirtual 335, 3) := by decide +kernel
theorem dJ0_length_8abf5_9 : decode cJ0_length_8abf5 9 = .ok (.ishr, 1) := by decide +kernel
theorem dJ0_length_8abf5_10 : decode cJ0_length_8abf5 10 = .ok (.ireturn, 1) := by decide +kernel
theorem dJ0_charAt_5068e_0 : decode cJ0_charAt_5068e 0 = .ok (.aload_n 0, 1) := by decide +kernel
theorem dJ0_charAt_5068e_1 : decode cJ0_charAt_5068e 1 = .ok (.invokevirtual 492, 3) := by decide +kernel
theorem dJ0_charAt_5068e_4 : decode cJ0_charAt_5068e 4 = .ok (.ifCond .eq 12, 3) := by decide +kernel
theorem dJ0_charAt_5068e_7 : decode cJ0_charAt_5068e 7 = .ok (.aload_n 0, 1) := by decide +kernel
theorem dJ0_charAt_5068e_8 : decode cJ0_charAt_5068e 8 = .ok (.getfield 9, 3) := by decide +kernel
theorem dJ0_charAt_5068e_11 : decode cJ0_charAt_5068e 11 = .ok (.iload_n 1, 1) := by decide +kernel
theorem dJ0_charAt_5068e_12 : decode cJ0_charAt_5068e 12 = .ok (.invokestatic 495, 3) := by decide +kernel
theorem dJ0_charAt_5068e_15 : decode cJ0_charAt_5068e 15 = .ok (.ireturn, 1) := by decide +kernel
theorem dJ0_charAt_5068e_16 : decode cJ0_charAt_5068e 16 = .ok (.aload_n 0, 1) := by decide +kernel
theorem dJ0_charAt_5068e_17 : decode cJ0_charAt_5068e 17 = .ok (.getfield 9, 3) := by decide +kernel
theorem dJ0_charAt_5068e_20 : decode cJ0_charAt_5068e 20 = .ok (.iload_n 1, 1) := by decide +kernel
theorem dJ0_charAt_5068e_21 : decode cJ0_charAt_5068e 21 = .ok (.invokestatic 498, 3) := by decide +kernel
theorem dJ0_charAt_5068e_24 : decode cJ0_charAt_5068e 24 = .ok (.ireturn, 1) := by decide +kernel
theorem dJ0_indexOf_0f7a4_0 : decode cJ0_indexOf_0f7a4 0 = .ok (.aload_n 0, 1) := by decide +kernel
theorem dJ0_indexOf_0f7a4_1 : decode cJ0_indexOf_0f7a4 1 = .ok (.iload_n 1, 1) := by decide +kernel
theorem dJ0_indexOf_0f7a4_2 : decode cJ0_indexOf_0f7a4 2 = .ok (.iconst 0, 1) := by decide +kernel
theorem dJ0_indexOf_0f7a4_3 : decode cJ0_indexOf_0f7a4 3 = .ok (.invokevirtual 633, 3) := by decide +kernel
theorem dJ0_indexOf_0f7a4_6 : decode cJ0_indexOf_0f7a4 6 = .ok (.ireturn, 1) := by decide +kernel
theorem dJ0_indexOf_7cf53_0 : decode cJ0_indexOf_7cf53 0 = .ok (.aload_n 0, 1) := by decide +kernel
theorem dJ0_indexOf_7cf53_1 : decode cJ0_indexOf_7cf53 1 = .ok (.invokevirtual 492, 3) := by decide +kernel
theorem dJ0_indexOf_7cf53_4 : decode cJ0_indexOf_7cf53 4 = .ok (.ifCond .eq 19, 3) := by decide +kernel
theorem dJ0_indexOf_7cf53_7 : decode cJ0_indexOf_7cf53 7 = .ok (.aload_n 0, 1) := by decide +kernel
theorem dJ0_indexOf_7cf53_8 : decode cJ0_indexOf_7cf53 8 = .ok (.getfield 9, 3) := by decide +kernel
theorem dJ0_indexOf_7cf53_11 : decode cJ0_indexOf_7cf53 11 = .ok (.iload_n 1, 1) := by decide +kernel
theorem dJ0_indexOf_7cf53_12 : decode cJ0_indexOf_7cf53 12 = .ok (.iload_n 2, 1) := by decide +kernel
theorem dJ0_indexOf_7cf53_13 : decode cJ0_indexOf_7cf53 13 = .ok (.aload_n 0, 1) := by decide +kernel
theorem dJ0_indexOf_7cf53_14 : decode cJ0_indexOf_7cf53 14 = .ok (.invokevirtual 505, 3) := by decide +kernel
theorem dJ0_indexOf_7cf53_17 : decode cJ0_indexOf_7cf53 17 = .ok (.invokestatic 637, 3) := by decide +kernel
theorem dJ0_indexOf_7cf53_20 : decode cJ0_indexOf_7cf53 20 = .ok (.goto 16, 3) := by decide +kernel
theorem dJ0_indexOf_7cf53_23 : decode cJ0_indexOf_7cf53 23 = .ok (.aload_n 0, 1) := by decide +kernel
theorem dJ0_indexOf_7cf53_24 : decode cJ0_indexOf_7cf53 24 = .ok (.getfield 9, 3) := by decide +kernel
theorem dJ0_indexOf_7cf53_27 : decode cJ0_indexOf_7cf53 27 = .ok (.iload_n 1, 1) := by decide +kernel
theorem dJ0_indexOf_7cf53_28 : decode cJ0_indexOf_7cf53 28 = .ok (.iload_n 2, 1) := by decide +kernel
theorem dJ0_indexOf_7cf53_29 : decode cJ0_indexOf_7cf53 29 = .ok (.aload_n 0, 1) := by decide +kernel
theorem dJ0_indexOf_7cf53_30 : decode cJ0_indexOf_7cf53 30 = .ok (.invokevirtual 505, 3) := by decide +kernel
theorem dJ0_indexOf_7cf53_33 : decode cJ0_indexOf_7cf53 33 = .ok (.invokestatic 640, 3) := by decide +kernel
theorem dJ0_indexOf_7cf53_36 : decode cJ0_indexOf_7cf53 36 = .ok (.ireturn, 1) := by decide +kernel
theorem dJ0_coder_7d493_0 : decode cJ0_coder_7d493 0 = .ok (.getstatic 38, 3) := by decide +kernel
theorem dJ0_coder_7d493_3 : decode cJ0_coder_7d493 3 = .ok (.ifCond .eq 10, 3) := by decide +kernel
theorem dJ0_coder_7d493_6 : decode cJ0_coder_7d493 6 = .ok (.aload_n 0, 1) := by decide +kernel
theorem dJ0_coder_7d493_7 : decode cJ0_coder_7d493 7 = .ok (.getfield 15, 3) := by decide +kernel
theorem dJ0_coder_7d493_10 : decode cJ0_coder_7d493 10 = .ok (.goto 4, 3) := by decide +kernel
theorem dJ0_coder_7d493_13 : decode cJ0_coder_7d493 13 = .ok (.iconst 1, 1) := by decide +kernel
theorem dJ0_coder_7d493_14 : decode cJ0_coder_7d493 14 = .ok (.ireturn, 1) := by decide +kernel
theorem dJ0_isLatin1_aae02_0 : decode cJ0_isLatin1_aae02 0 = .ok (.getstatic 38, 3) := by decide +kernel
theorem dJ0_isLatin1_aae02_3 : decode cJ0_isLatin1_aae02 3 = .ok (.ifCond .eq 14, 3) := by decide +kernel
theorem dJ0_isLatin1_aae02_6 : decode cJ0_isLatin1_aae02 6 = .ok (.aload_n 0, 1) := by decide +kernel
theorem dJ0_isLatin1_aae02_7 : decode cJ0_isLatin1_aae02 7 = .ok (.getfield 15, 3) := by decide +kernel
theorem dJ0_isLatin1_aae02_10 : decode cJ0_isLatin1_aae02 10 = .ok (.ifCond .ne 7, 3) := by decide +kernel
theorem dJ0_isLatin1_aae02_13 : decode cJ0_isLatin1_aae02 13 = .ok (.iconst 1, 1) := by decide +kernel
theorem dJ0_isLatin1_aae02_14 : decode cJ0_isLatin1_aae02 14 = .ok (.goto 4, 3) := by decide +kernel
theorem dJ0_isLatin1_aae02_17 : decode cJ0_isLatin1_aae02 17 = .ok (.iconst 0, 1) := by decide +kernel
theorem dJ0_isLatin1_aae02_18 : decode cJ0_isLatin1_aae02 18 = .ok (.ireturn, 1) := by decide +kernel
theorem dJ0_checkIndex_df160_0 : decode cJ0_checkIndex_df160 0 = .ok (.iload_n 0, 1) := by decide +kernel
theorem dJ0_checkIndex_df160_1 : decode cJ0_checkIndex_df160 1 = .ok (.iload_n 1, 1) := by decide +kernel
theorem dJ0_checkIndex_df160_2 : decode cJ0_checkIndex_df160 2 = .ok (.getstatic 1053, 3) := by decide +kernel
theorem dJ0_checkIndex_df160_5 : decode cJ0_checkIndex_df160 5 = .ok (.invokestatic 1059, 3) := by decide +kernel
theorem dJ0_checkIndex_df160_8 : decode cJ0_checkIndex_df160 8 = .ok (.pop, 1) := by decide +kernel
theorem dJ0_checkIndex_df160_9 : decode cJ0_checkIndex_df160 9 = .ok (.return_, 1) := by decide +kernel
theorem dJ0_checkBoundsBeginEnd_23922_0 : decode cJ0_checkBoundsBeginEnd_23922 0 = .ok (.iload_n 0, 1) := by decide +kernel
theorem dJ0_checkBoundsBeginEnd_23922_1 : decode cJ0_checkBoundsBeginEnd_23922 1 = .ok (.iload_n 1, 1) := by decide +kernel
theorem dJ0_checkBoundsBeginEnd_23922_2 : decode cJ0_checkBoundsBeginEnd_23922 2 = .ok (.iload_n 2, 1) := by decide +kernel
theorem dJ0_checkBoundsBeginEnd_23922_3 : decode cJ0_checkBoundsBeginEnd_23922 3 = .ok (.getstatic 1053, 3) := by decide +kernel
theorem dJ0_checkBoundsBeginEnd_23922_6 : decode cJ0_checkBoundsBeginEnd_23922 6 = .ok (.invokestatic 1062, 3) := by decide +kernel
theorem dJ0_checkBoundsBeginEnd_23922_9 : decode cJ0_checkBoundsBeginEnd_23922 9 = .ok (.pop, 1) := by decide +kernel
theorem dJ0_checkBoundsBeginEnd_23922_10 : decode cJ0_checkBoundsBeginEnd_23922 10 = .ok (.return_, 1) := by decide +kernel
theorem dJ1_charAt_3b067_0 : decode cJ1_charAt_3b067 0 = .ok (.iload_n 1, 1) := by decide +kernel
theorem dJ1_charAt_3b067_1 : decode cJ1_charAt_3b067 1 = .ok (.aload_n 0, 1) := by decide +kernel
theorem dJ1_charAt_3b067_2 : decode cJ1_charAt_3b067 2 = .ok (.arraylength, 1) := by decide +kernel
theorem dJ1_charAt_3b067_3 : decode cJ1_charAt_3b067 3 = .ok (.invokestatic 9, 3) := by decide +kernel
theorem dJ1_charAt_3b067_6 : decode cJ1_charAt_3b067 6 = .ok (.aload_n 0, 1) := by decide +kernel
theorem dJ1_charAt_3b067_7 : decode cJ1_charAt_3b067 7 = .ok (.iload_n 1, 1) := by decide +kernel
theorem dJ1_charAt_3b067_8 : decode cJ1_charAt_3b067 8 = .ok (.baload, 1) := by decide +kernel
theorem dJ1_charAt_3b067_9 : decode cJ1_charAt_3b067 9 = .ok (.sipush 255, 3) := by decide +kernel
theorem dJ1_charAt_3b067_12 : decode cJ1_charAt_3b067 12 = .ok (.iand, 1) := by decide +kernel
theorem dJ1_charAt_3b067_13 : decode cJ1_charAt_3b067 13 = .ok (.i2c, 1) := by decide +kernel
theorem dJ1_charAt_3b067_14 : decode cJ1_charAt_3b067 14 = .ok (.ireturn, 1) := by decide +kernel
theorem dJ1_canEncode_9a6ad_0 : decode cJ1_canEncode_9a6ad 0 = .ok (.iload_n 0, 1) := by decide +kernel
theorem dJ1_canEncode_9a6ad_1 : decode cJ1_canEncode_9a6ad 1 = .ok (.ifCond .lt 14, 3) := by decide +kernel
theorem dJ1_canEncode_9a6ad_4 : decode cJ1_canEncode_9a6ad 4 = .ok (.iload_n 0, 1) := by decide +kernel
theorem dJ1_canEncode_9a6ad_5 : decode cJ1_canEncode_9a6ad 5 = .ok (.sipush 255, 3) := by decide +kernel
theorem dJ1_canEncode_9a6ad_8 : decode cJ1_canEncode_9a6ad 8 = .ok (.if_icmp .gt 7, 3) := by decide +kernel
theorem dJ1_canEncode_9a6ad_11 : decode cJ1_canEncode_9a6ad 11 = .ok (.iconst 1, 1) := by decide +kernel
theorem dJ1_canEncode_9a6ad_12 : decode cJ1_canEncode_9a6ad 12 = .ok (.goto 4, 3) := by decide +kernel
theorem dJ1_canEncode_9a6ad_15 : decode cJ1_canEncode_9a6ad 15 = .ok (.iconst 0, 1) := by decide +kernel
theorem dJ1_canEncode_9a6ad_16 : decode cJ1_canEncode_9a6ad 16 = .ok (.ireturn, 1) := by decide +kernel
theorem dJ1_indexOf_4cfef_0 : decode cJ1_indexOf_4cfef 0 = .ok (.iload_n 1, 1) := by decide +kernel
theorem dJ1_indexOf_4cfef_1 : decode cJ1_indexOf_4cfef 1 = .ok (.invokestatic 88, 3) := by decide +kernel
theorem dJ1_indexOf_4cfef_4 : decode cJ1_indexOf_4cfef 4 = .ok (.ifCond .ne 5, 3) := by decide +kernel
theorem dJ1_indexOf_4cfef_7 : decode cJ1_indexOf_4cfef 7 = .ok (.iconst (-1), 1) := by decide +kernel
theorem dJ1_indexOf_4cfef_8 : decode cJ1_indexOf_4cfef 8 = .ok (.ireturn, 1) := by decide +kernel
theorem dJ1_indexOf_4cfef_9 : decode cJ1_indexOf_4cfef 9 = .ok (.iload_n 2, 1) := by decide +kernel
theorem dJ1_indexOf_4cfef_10 : decode cJ1_indexOf_4cfef 10 = .ok (.iconst 0, 1) := by decide +kernel
theorem dJ1_indexOf_4cfef_11 : decode cJ1_indexOf_4cfef 11 = .ok (.invokestatic 92, 3) := by decide +kernel
theorem dJ1_indexOf_4cfef_14 : decode cJ1_indexOf_4cfef 14 = .ok (.istore_n 2, 1) := by decide +kernel
theorem dJ1_indexOf_4cfef_15 : decode cJ1_indexOf_4cfef 15 = .ok (.iload_n 3, 1) := by decide +kernel
theorem dJ1_indexOf_4cfef_16 : decode cJ1_indexOf_4cfef 16 = .ok (.aload_n 0, 1) := by decide +kernel
theorem dJ1_indexOf_4cfef_17 : decode cJ1_indexOf_4cfef 17 = .ok (.arraylength, 1) := by decide +kernel
theorem dJ1_indexOf_4cfef_18 : decode cJ1_indexOf_4cfef 18 = .ok (.invokestatic 38, 3) := by decide +kernel
theorem dJ1_indexOf_4cfef_21 : decode cJ1_indexOf_4cfef 21 = .ok (.istore_n 3, 1) := by decide +kernel
theorem dJ1_indexOf_4cfef_22 : decode cJ1_indexOf_4cfef 22 = .ok (.iload_n 2, 1) := by decide +kernel
theorem dJ1_indexOf_4cfef_23 : decode cJ1_indexOf_4cfef 23 = .ok (.iload_n 3, 1) := by decide +kernel
theorem dJ1_indexOf_4cfef_24 : decode cJ1_indexOf_4cfef 24 = .ok (.if_icmp .lt 5, 3) := by decide +kernel
theorem dJ1_indexOf_4cfef_27 : decode cJ1_indexOf_4cfef 27 = .ok (.iconst (-1), 1) := by decide +kernel
theorem dJ1_indexOf_4cfef_28 : decode cJ1_indexOf_4cfef 28 = .ok (.ireturn, 1) := by decide +kernel
theorem dJ1_indexOf_4cfef_29 : decode cJ1_indexOf_4cfef 29 = .ok (.aload_n 0, 1) := by decide +kernel
theorem dJ1_indexOf_4cfef_30 : decode cJ1_indexOf_4cfef 30 = .ok (.iload_n 1, 1) := by decide +kernel
theorem dJ1_indexOf_4cfef_31 : decode cJ1_indexOf_4cfef 31 = .ok (.iload_n 2, 1) := by decide +kernel
theorem dJ1_indexOf_4cfef_32 : decode cJ1_indexOf_4cfef 32 = .ok (.iload_n 3, 1) := by decide +kernel
theorem dJ1_indexOf_4cfef_33 : decode cJ1_indexOf_4cfef 33 = .ok (.invokestatic 95, 3) := by decide +kernel
theorem dJ1_indexOf_4cfef_36 : decode cJ1_indexOf_4cfef 36 = .ok (.ireturn, 1) := by decide +kernel
theorem dJ1_indexOfChar_4cfef_0 : decode cJ1_indexOfChar_4cfef 0 = .ok (.iload_n 1, 1) := by decide +kernel
theorem dJ1_indexOfChar_4cfef_1 : decode cJ1_indexOfChar_4cfef 1 = .ok (.i2b, 1) := by decide +kernel
theorem dJ1_indexOfChar_4cfef_2 : decode cJ1_indexOfChar_4cfef 2 = .ok (.istore 4, 2) := by decide +kernel
theorem dJ1_indexOfChar_4cfef_4 : decode cJ1_indexOfChar_4cfef 4 = .ok (.iload_n 2, 1) := by decide +kernel
theorem dJ1_indexOfChar_4cfef_5 : decode cJ1_indexOfChar_4cfef 5 = .ok (.istore 5, 2) := by decide +kernel
theorem dJ1_indexOfChar_4cfef_7 : decode cJ1_indexOfChar_4cfef 7 = .ok (.iload 5, 2) := by decide +kernel
theorem dJ1_indexOfChar_4cfef_9 : decode cJ1_indexOfChar_4cfef 9 = .ok (.iload_n 3, 1) := by decide +kernel
theorem dJ1_indexOfChar_4cfef_10 : decode cJ1_indexOfChar_4cfef 10 = .ok (.if_icmp .ge 21, 3) := by decide +kernel
theorem dJ1_indexOfChar_4cfef_13 : decode cJ1_indexOfChar_4cfef 13 = .ok (.aload_n 0, 1) := by decide +kernel
theorem dJ1_indexOfChar_4cfef_14 : decode cJ1_indexOfChar_4cfef 14 = .ok (.iload 5, 2) := by decide +kernel
theorem dJ1_indexOfChar_4cfef_16 : decode cJ1_indexOfChar_4cfef 16 = .ok (.baload, 1) := by decide +kernel
theorem dJ1_indexOfChar_4cfef_17 : decode cJ1_indexOfChar_4cfef 17 = .ok (.iload 4, 2) := by decide +kernel
theorem dJ1_indexOfChar_4cfef_19 : decode cJ1_indexOfChar_4cfef 19 = .ok (.if_icmp .ne 6, 3) := by decide +kernel
theorem dJ1_indexOfChar_4cfef_22 : decode cJ1_indexOfChar_4cfef 22 = .ok (.iload 5, 2) := by decide +kernel
theorem dJ1_indexOfChar_4cfef_24 : decode cJ1_indexOfChar_4cfef 24 = .ok (.ireturn, 1) := by decide +kernel
theorem dJ1_indexOfChar_4cfef_25 : decode cJ1_indexOfChar_4cfef 25 = .ok (.iinc 5 1, 3) := by decide +kernel
theorem dJ1_indexOfChar_4cfef_28 : decode cJ1_indexOfChar_4cfef 28 = .ok (.goto (-21), 3) := by decide +kernel
theorem dJ1_indexOfChar_4cfef_31 : decode cJ1_indexOfChar_4cfef 31 = .ok (.iconst (-1), 1) := by decide +kernel
theorem dJ1_indexOfChar_4cfef_32 : decode cJ1_indexOfChar_4cfef 32 = .ok (.ireturn, 1) := by decide +kernel
theorem dJ2_getChar_3b067_0 : decode cJ2_getChar_3b067 0 = .ok (.getstatic 44, 3) := by decide +kernel
theorem dJ2_getChar_3b067_3 : decode cJ2_getChar_3b067 3 = .ok (.ifCond .ne 25, 3) := by decide +kernel
theorem dJ2_getChar_3b067_6 : decode cJ2_getChar_3b067 6 = .ok (.iload_n 1, 1) := by decide +kernel
theorem dJ2_getChar_3b067_7 : decode cJ2_getChar_3b067 7 = .ok (.ifCond .lt 11, 3) := by decide +kernel
theorem dJ2_getChar_3b067_10 : decode cJ2_getChar_3b067 10 = .ok (.iload_n 1, 1) := by decide +kernel
theorem dJ2_getChar_3b067_11 : decode cJ2_getChar_3b067 11 = .ok (.aload_n 0, 1) := by decide +kernel
theorem dJ2_getChar_3b067_12 : decode cJ2_getChar_3b067 12 = .ok (.invokestatic 48, 3) := by decide +kernel
theorem dJ2_getChar_3b067_15 : decode cJ2_getChar_3b067 15 = .ok (.if_icmp .lt 13, 3) := by decide +kernel
theorem dJ2_getChar_3b067_18 : decode cJ2_getChar_3b067 18 = .ok (.new 52, 3) := by decide +kernel
theorem dJ2_getChar_3b067_21 : decode cJ2_getChar_3b067 21 = .ok (.dup, 1) := by decide +kernel
theorem dJ2_getChar_3b067_22 : decode cJ2_getChar_3b067 22 = .ok (.ldc 54, 2) := by decide +kernel
theorem dJ2_getChar_3b067_24 : decode cJ2_getChar_3b067 24 = .ok (.invokespecial 56, 3) := by decide +kernel
theorem dJ2_getChar_3b067_27 : decode cJ2_getChar_3b067 27 = .ok (.athrow, 1) := by decide +kernel
theorem dJ2_getChar_3b067_28 : decode cJ2_getChar_3b067 28 = .ok (.iload_n 1, 1) := by decide +kernel
theorem dJ2_getChar_3b067_29 : decode cJ2_getChar_3b067 29 = .ok (.iconst 1, 1) := by decide +kernel
theorem dJ2_getChar_3b067_30 : decode cJ2_getChar_3b067 30 = .ok (.ishl, 1) := by decide +kernel
theorem dJ2_getChar_3b067_31 : decode cJ2_getChar_3b067 31 = .ok (.istore_n 1, 1) := by decide +kernel
theorem dJ2_getChar_3b067_32 : decode cJ2_getChar_3b067 32 = .ok (.aload_n 0, 1) := by decide +kernel
theorem dJ2_getChar_3b067_33 : decode cJ2_getChar_3b067 33 = .ok (.iload_n 1, 1) := by decide +kernel
theorem dJ2_getChar_3b067_34 : decode cJ2_getChar_3b067 34 = .ok (.iinc 1 1, 3) := by decide +kernel
theorem dJ2_getChar_3b067_37 : decode cJ2_getChar_3b067 37 = .ok (.baload, 1) := by decide +kernel
theorem dJ2_getChar_3b067_38 : decode cJ2_getChar_3b067 38 = .ok (.sipush 255, 3) := by decide +kernel
theorem dJ2_getChar_3b067_41 : decode cJ2_getChar_3b067 41 = .ok (.iand, 1) := by decide +kernel
theorem dJ2_getChar_3b067_42 : decode cJ2_getChar_3b067 42 = .ok (.getstatic 59, 3) := by decide +kernel
theorem dJ2_getChar_3b067_45 : decode cJ2_getChar_3b067 45 = .ok (.ishl, 1) := by decide +kernel
theorem dJ2_getChar_3b067_46 : decode cJ2_getChar_3b067 46 = .ok (.aload_n 0, 1) := by decide +kernel
theorem dJ2_getChar_3b067_47 : decode cJ2_getChar_3b067 47 = .ok (.iload_n 1, 1) := by decide +kernel
theorem dJ2_getChar_3b067_48 : decode cJ2_getChar_3b067 48 = .ok (.baload, 1) := by decide +kernel
theorem dJ2_getChar_3b067_49 : decode cJ2_getChar_3b067 49 = .ok (.sipush 255, 3) := by decide +kernel
theorem dJ2_getChar_3b067_52 : decode cJ2_getChar_3b067 52 = .ok (.iand, 1) := by decide +kernel
theorem dJ2_getChar_3b067_53 : decode cJ2_getChar_3b067 53 = .ok (.getstatic 63, 3) := by decide +kernel
theorem dJ2_getChar_3b067_56 : decode cJ2_getChar_3b067 56 = .ok (.ishl, 1) := by decide +kernel
theorem dJ2_getChar_3b067_57 : decode cJ2_getChar_3b067 57 = .ok (.ior, 1) := by decide +kernel
theorem dJ2_getChar_3b067_58 : decode cJ2_getChar_3b067 58 = .ok (.i2c, 1) := by decide +kernel
theorem dJ2_getChar_3b067_59 : decode cJ2_getChar_3b067 59 = .ok (.ireturn, 1) := by decide +kernel
theorem dJ2_length_9d52b_0 : decode cJ2_length_9d52b 0 = .ok (.aload_n 0, 1) := by decide +kernel
theorem dJ2_length_9d52b_1 : decode cJ2_length_9d52b 1 = .ok (.arraylength, 1) := by decide +kernel
theorem dJ2_length_9d52b_2 : decode cJ2_length_9d52b 2 = .ok (.iconst 1, 1) := by decide +kernel
theorem dJ2_length_9d52b_3 : decode cJ2_length_9d52b 3 = .ok (.ishr, 1) := by decide +kernel
theorem dJ2_length_9d52b_4 : decode cJ2_length_9d52b 4 = .ok (.ireturn, 1) := by decide +kernel
theorem dJ2_indexOf_4cfef_0 : decode cJ2_indexOf_4cfef 0 = .ok (.iload_n 2, 1) := by decide +kernel
theorem dJ2_indexOf_4cfef_1 : decode cJ2_indexOf_4cfef 1 = .ok (.iconst 0, 1) := by decide +kernel
theorem dJ2_indexOf_4cfef_2 : decode cJ2_indexOf_4cfef 2 = .ok (.invokestatic 224, 3) := by decide +kernel
theorem dJ2_indexOf_4cfef_5 : decode cJ2_indexOf_4cfef 5 = .ok (.istore_n 2, 1) := by decide +kernel
theorem dJ2_indexOf_4cfef_6 : decode cJ2_indexOf_4cfef 6 = .ok (.iload_n 3, 1) := by decide +kernel
theorem dJ2_indexOf_4cfef_7 : decode cJ2_indexOf_4cfef 7 = .ok (.aload_n 0, 1) := by decide +kernel
theorem dJ2_indexOf_4cfef_8 : decode cJ2_indexOf_4cfef 8 = .ok (.arraylength, 1) := by decide +kernel
theorem dJ2_indexOf_4cfef_9 : decode cJ2_indexOf_4cfef 9 = .ok (.iconst 1, 1) := by decide +kernel
theorem dJ2_indexOf_4cfef_10 : decode cJ2_indexOf_4cfef 10 = .ok (.ishr, 1) := by decide +kernel
theorem dJ2_indexOf_4cfef_11 : decode cJ2_indexOf_4cfef 11 = .ok (.invokestatic 183, 3) := by decide +kernel
theorem dJ2_indexOf_4cfef_14 : decode cJ2_indexOf_4cfef 14 = .ok (.istore_n 3, 1) := by decide +kernel
theorem dJ2_indexOf_4cfef_15 : decode cJ2_indexOf_4cfef 15 = .ok (.iload_n 2, 1) := by decide +kernel
theorem dJ2_indexOf_4cfef_16 : decode cJ2_indexOf_4cfef 16 = .ok (.iload_n 3, 1) := by decide +kernel
theorem dJ2_indexOf_4cfef_17 : decode cJ2_indexOf_4cfef 17 = .ok (.if_icmp .lt 5, 3) := by decide +kernel
theorem dJ2_indexOf_4cfef_20 : decode cJ2_indexOf_4cfef 20 = .ok (.iconst (-1), 1) := by decide +kernel
theorem dJ2_indexOf_4cfef_21 : decode cJ2_indexOf_4cfef 21 = .ok (.ireturn, 1) := by decide +kernel
theorem dJ2_indexOf_4cfef_22 : decode cJ2_indexOf_4cfef 22 = .ok (.iload_n 1, 1) := by decide +kernel
theorem dJ2_indexOf_4cfef_23 : decode cJ2_indexOf_4cfef 23 = .ok (.ldc 227, 2) := by decide +kernel
theorem dJ2_indexOf_4cfef_25 : decode cJ2_indexOf_4cfef 25 = .ok (.if_icmp .ge 11, 3) := by decide +kernel
theorem dJ2_indexOf_4cfef_28 : decode cJ2_indexOf_4cfef 28 = .ok (.aload_n 0, 1) := by decide +kernel
theorem dJ2_indexOf_4cfef_29 : decode cJ2_indexOf_4cfef 29 = .ok (.iload_n 1, 1) := by decide +kernel
theorem dJ2_indexOf_4cfef_30 : decode cJ2_indexOf_4cfef 30 = .ok (.iload_n 2, 1) := by decide +kernel
theorem dJ2_indexOf_4cfef_31 : decode cJ2_indexOf_4cfef 31 = .ok (.iload_n 3, 1) := by decide +kernel
theorem dJ2_indexOf_4cfef_32 : decode cJ2_indexOf_4cfef 32 = .ok (.invokestatic 228, 3) := by decide +kernel
theorem dJ2_indexOf_4cfef_35 : decode cJ2_indexOf_4cfef 35 = .ok (.ireturn, 1) := by decide +kernel
theorem dJ2_indexOf_4cfef_36 : decode cJ2_indexOf_4cfef 36 = .ok (.aload_n 0, 1) := by decide +kernel
theorem dJ2_indexOf_4cfef_37 : decode cJ2_indexOf_4cfef 37 = .ok (.iload_n 1, 1) := by decide +kernel
theorem dJ2_indexOf_4cfef_38 : decode cJ2_indexOf_4cfef 38 = .ok (.iload_n 2, 1) := by decide +kernel
theorem dJ2_indexOf_4cfef_39 : decode cJ2_indexOf_4cfef 39 = .ok (.iload_n 3, 1) := by decide +kernel
theorem dJ2_indexOf_4cfef_40 : decode cJ2_indexOf_4cfef 40 = .ok (.invokestatic 232, 3) := by decide +kernel
theorem dJ2_indexOf_4cfef_43 : decode cJ2_indexOf_4cfef 43 = .ok (.ireturn, 1) := by decide +kernel
theorem dJ2_indexOfChar_4cfef_0 : decode cJ2_indexOfChar_4cfef 0 = .ok (.iload_n 2, 1) := by decide +kernel
theorem dJ2_indexOfChar_4cfef_1 : decode cJ2_indexOfChar_4cfef 1 = .ok (.iload_n 3, 1) := by decide +kernel
theorem dJ2_indexOfChar_4cfef_2 : decode cJ2_indexOfChar_4cfef 2 = .ok (.aload_n 0, 1) := by decide +kernel
theorem dJ2_indexOfChar_4cfef_3 : decode cJ2_indexOfChar_4cfef 3 = .ok (.invokestatic 96, 3) := by decide +kernel
theorem dJ2_indexOfChar_4cfef_6 : decode cJ2_indexOfChar_4cfef 6 = .ok (.aload_n 0, 1) := by decide +kernel
theorem dJ2_indexOfChar_4cfef_7 : decode cJ2_indexOfChar_4cfef 7 = .ok (.iload_n 1, 1) := by decide +kernel
theorem dJ2_indexOfChar_4cfef_8 : decode cJ2_indexOfChar_4cfef 8 = .ok (.iload_n 2, 1) := by decide +kernel
theorem dJ2_indexOfChar_4cfef_9 : decode cJ2_indexOfChar_4cfef 9 = .ok (.iload_n 3, 1) := by decide +kernel
theorem dJ2_indexOfChar_4cfef_10 : decode cJ2_indexOfChar_4cfef 10 = .ok (.invokestatic 244, 3) := by decide +kernel
theorem dJ2_indexOfChar_4cfef_13 : decode cJ2_indexOfChar_4cfef 13 = .ok (.ireturn, 1) := by decide +kernel
theorem dJ2_indexOfCharUnsafe_4cfef_0 : decode cJ2_indexOfCharUnsafe_4cfef 0 = .ok (.iload_n 2, 1) := by decide +kernel
theorem dJ2_indexOfCharUnsafe_4cfef_1 : decode cJ2_indexOfCharUnsafe_4cfef 1 = .ok (.istore 4, 2) := by decide +kernel
theorem dJ2_indexOfCharUnsafe_4cfef_3 : decode cJ2_indexOfCharUnsafe_4cfef 3 = .ok (.iload 4, 2) := by decide +kernel
theorem dJ2_indexOfCharUnsafe_4cfef_5 : decode cJ2_indexOfCharUnsafe_4cfef 5 = .ok (.iload_n 3, 1) := by decide +kernel
theorem dJ2_indexOfCharUnsafe_4cfef_6 : decode cJ2_indexOfCharUnsafe_4cfef 6 = .ok (.if_icmp .ge 22, 3) := by decide +kernel
theorem dJ2_indexOfCharUnsafe_4cfef_9 : decode cJ2_indexOfCharUnsafe_4cfef 9 = .ok (.aload_n 0, 1) := by decide +kernel
theorem dJ2_indexOfCharUnsafe_4cfef_10 : decode cJ2_indexOfCharUnsafe_4cfef 10 = .ok (.iload 4, 2) := by decide +kernel
theorem dJ2_indexOfCharUnsafe_4cfef_12 : decode cJ2_indexOfCharUnsafe_4cfef 12 = .ok (.invokestatic 71, 3) := by decide +kernel
theorem dJ2_indexOfCharUnsafe_4cfef_15 : decode cJ2_indexOfCharUnsafe_4cfef 15 = .ok (.iload_n 1, 1) := by decide +kernel
theorem dJ2_indexOfCharUnsafe_4cfef_16 : decode cJ2_indexOfCharUnsafe_4cfef 16 = .ok (.if_icmp .ne 6, 3) := by decide +kernel
theorem dJ2_indexOfCharUnsafe_4cfef_19 : decode cJ2_indexOfCharUnsafe_4cfef 19 = .ok (.iload 4, 2) := by decide +kernel
theorem dJ2_indexOfCharUnsafe_4cfef_21 : decode cJ2_indexOfCharUnsafe_4cfef 21 = .ok (.ireturn, 1) := by decide +kernel
theorem dJ2_indexOfCharUnsafe_4cfef_22 : decode cJ2_indexOfCharUnsafe_4cfef 22 = .ok (.iinc 4 1, 3) := by decide +kernel
theorem dJ2_indexOfCharUnsafe_4cfef_25 : decode cJ2_indexOfCharUnsafe_4cfef 25 = .ok (.goto (-22), 3) := by decide +kernel
theorem dJ2_indexOfCharUnsafe_4cfef_28 : decode cJ2_indexOfCharUnsafe_4cfef 28 = .ok (.iconst (-1), 1) := by decide +kernel
theorem dJ2_indexOfCharUnsafe_4cfef_29 : decode cJ2_indexOfCharUnsafe_4cfef 29 = .ok (.ireturn, 1) := by decide +kernel
theorem dJ2_indexOfSupplementary_4cfef_0 : decode cJ2_indexOfSupplementary_4cfef 0 = .ok (.iload_n 1, 1) := by decide +kernel
theorem dJ2_indexOfSupplementary_4cfef_1 : decode cJ2_indexOfSupplementary_4cfef 1 = .ok (.invokestatic 164, 3) := by decide +kernel
theorem dJ2_indexOfSupplementary_4cfef_4 : decode cJ2_indexOfSupplementary_4cfef 4 = .ok (.ifCond .eq 65, 3) := by decide +kernel
theorem dJ2_indexOfSupplementary_4cfef_7 : decode cJ2_indexOfSupplementary_4cfef 7 = .ok (.iload_n 1, 1) := by decide +kernel
theorem dJ2_indexOfSupplementary_4cfef_8 : decode cJ2_indexOfSupplementary_4cfef 8 = .ok (.invokestatic 157, 3) := by decide +kernel
theorem dJ2_indexOfSupplementary_4cfef_11 : decode cJ2_indexOfSupplementary_4cfef 11 = .ok (.istore 4, 2) := by decide +kernel
theorem dJ2_indexOfSupplementary_4cfef_13 : decode cJ2_indexOfSupplementary_4cfef 13 = .ok (.iload_n 1, 1) := by decide +kernel
theorem dJ2_indexOfSupplementary_4cfef_14 : decode cJ2_indexOfSupplementary_4cfef 14 = .ok (.invokestatic 161, 3) := by decide +kernel
theorem dJ2_indexOfSupplementary_4cfef_17 : decode cJ2_indexOfSupplementary_4cfef 17 = .ok (.istore 5, 2) := by decide +kernel
theorem dJ2_indexOfSupplementary_4cfef_19 : decode cJ2_indexOfSupplementary_4cfef 19 = .ok (.iload_n 2, 1) := by decide +kernel
theorem dJ2_indexOfSupplementary_4cfef_20 : decode cJ2_indexOfSupplementary_4cfef 20 = .ok (.iload_n 3, 1) := by decide +kernel
theorem dJ2_indexOfSupplementary_4cfef_21 : decode cJ2_indexOfSupplementary_4cfef 21 = .ok (.aload_n 0, 1) := by decide +kernel
theorem dJ2_indexOfSupplementary_4cfef_22 : decode cJ2_indexOfSupplementary_4cfef 22 = .ok (.invokestatic 96, 3) := by decide +kernel
theorem dJ2_indexOfSupplementary_4cfef_25 : decode cJ2_indexOfSupplementary_4cfef 25 = .ok (.iload_n 2, 1) := by decide +kernel
theorem dJ2_indexOfSupplementary_4cfef_26 : decode cJ2_indexOfSupplementary_4cfef 26 = .ok (.istore 6, 2) := by decide +kernel
theorem dJ2_indexOfSupplementary_4cfef_28 : decode cJ2_indexOfSupplementary_4cfef 28 = .ok (.iload 6, 2) := by decide +kernel
theorem dJ2_indexOfSupplementary_4cfef_30 : decode cJ2_indexOfSupplementary_4cfef 30 = .ok (.iload_n 3, 1) := by decide +kernel
theorem dJ2_indexOfSupplementary_4cfef_31 : decode cJ2_indexOfSupplementary_4cfef 31 = .ok (.iconst 1, 1) := by decide +kernel
theorem dJ2_indexOfSupplementary_4cfef_32 : decode cJ2_indexOfSupplementary_4cfef 32 = .ok (.isub, 1) := by decide +kernel
theorem dJ2_indexOfSupplementary_4cfef_33 : decode cJ2_indexOfSupplementary_4cfef 33 = .ok (.if_icmp .ge 36, 3) := by decide +kernel
theorem dJ2_indexOfSupplementary_4cfef_36 : decode cJ2_indexOfSupplementary_4cfef 36 = .ok (.aload_n 0, 1) := by decide +kernel
theorem dJ2_indexOfSupplementary_4cfef_37 : decode cJ2_indexOfSupplementary_4cfef 37 = .ok (.iload 6, 2) := by decide +kernel
theorem dJ2_indexOfSupplementary_4cfef_39 : decode cJ2_indexOfSupplementary_4cfef 39 = .ok (.invokestatic 71, 3) := by decide +kernel
theorem dJ2_indexOfSupplementary_4cfef_42 : decode cJ2_indexOfSupplementary_4cfef 42 = .ok (.iload 4, 2) := by decide +kernel
theorem dJ2_indexOfSupplementary_4cfef_44 : decode cJ2_indexOfSupplementary_4cfef 44 = .ok (.if_icmp .ne 19, 3) := by decide +kernel
theorem dJ2_indexOfSupplementary_4cfef_47 : decode cJ2_indexOfSupplementary_4cfef 47 = .ok (.aload_n 0, 1) := by decide +kernel
theorem dJ2_indexOfSupplementary_4cfef_48 : decode cJ2_indexOfSupplementary_4cfef 48 = .ok (.iload 6, 2) := by decide +kernel
theorem dJ2_indexOfSupplementary_4cfef_50 : decode cJ2_indexOfSupplementary_4cfef 50 = .ok (.iconst 1, 1) := by decide +kernel
theorem dJ2_indexOfSupplementary_4cfef_51 : decode cJ2_indexOfSupplementary_4cfef 51 = .ok (.iadd, 1) := by decide +kernel
theorem dJ2_indexOfSupplementary_4cfef_52 : decode cJ2_indexOfSupplementary_4cfef 52 = .ok (.invokestatic 71, 3) := by decide +kernel
theorem dJ2_indexOfSupplementary_4cfef_55 : decode cJ2_indexOfSupplementary_4cfef 55 = .ok (.iload 5, 2) := by decide +kernel
theorem dJ2_indexOfSupplementary_4cfef_57 : decode cJ2_indexOfSupplementary_4cfef 57 = .ok (.if_icmp .ne 6, 3) := by decide +kernel
theorem dJ2_indexOfSupplementary_4cfef_60 : decode cJ2_indexOfSupplementary_4cfef 60 = .ok (.iload 6, 2) := by decide +kernel
theorem dJ2_indexOfSupplementary_4cfef_62 : decode cJ2_indexOfSupplementary_4cfef 62 = .ok (.ireturn, 1) := by decide +kernel
theorem dJ2_indexOfSupplementary_4cfef_63 : decode cJ2_indexOfSupplementary_4cfef 63 = .ok (.iinc 6 1, 3) := by decide +kernel
theorem dJ2_indexOfSupplementary_4cfef_66 : decode cJ2_indexOfSupplementary_4cfef 66 = .ok (.goto (-38), 3) := by decide +kernel
theorem dJ2_indexOfSupplementary_4cfef_69 : decode cJ2_indexOfSupplementary_4cfef 69 = .ok (.iconst (-1), 1) := by decide +kernel
theorem dJ2_indexOfSupplementary_4cfef_70 : decode cJ2_indexOfSupplementary_4cfef 70 = .ok (.ireturn, 1) := by decide +kernel
theorem dJ2_charAt_3b067_0 : decode cJ2_charAt_3b067 0 = .ok (.iload_n 1, 1) := by decide +kernel
theorem dJ2_charAt_3b067_1 : decode cJ2_charAt_3b067 1 = .ok (.aload_n 0, 1) := by decide +kernel
theorem dJ2_charAt_3b067_2 : decode cJ2_charAt_3b067 2 = .ok (.invokestatic 67, 3) := by decide +kernel
theorem dJ2_charAt_3b067_5 : decode cJ2_charAt_3b067 5 = .ok (.aload_n 0, 1) := by decide +kernel
theorem dJ2_charAt_3b067_6 : decode cJ2_charAt_3b067 6 = .ok (.iload_n 1, 1) := by decide +kernel
theorem dJ2_charAt_3b067_7 : decode cJ2_charAt_3b067 7 = .ok (.invokestatic 71, 3) := by decide +kernel
theorem dJ2_charAt_3b067_10 : decode cJ2_charAt_3b067 10 = .ok (.ireturn, 1) := by decide +kernel
theorem dJ2_checkIndex_2214a_0 : decode cJ2_checkIndex_2214a 0 = .ok (.iload_n 0, 1) := by decide +kernel
theorem dJ2_checkIndex_2214a_1 : decode cJ2_checkIndex_2214a 1 = .ok (.aload_n 1, 1) := by decide +kernel
theorem dJ2_checkIndex_2214a_2 : decode cJ2_checkIndex_2214a 2 = .ok (.invokestatic 48, 3) := by decide +kernel
theorem dJ2_checkIndex_2214a_5 : decode cJ2_checkIndex_2214a 5 = .ok (.invokestatic 414, 3) := by decide +kernel
theorem dJ2_checkIndex_2214a_8 : decode cJ2_checkIndex_2214a 8 = .ok (.return_, 1) := by decide +kernel
theorem dJ2_checkBoundsBeginEnd_d044e_0 : decode cJ2_checkBoundsBeginEnd_d044e 0 = .ok (.iload_n 0, 1) := by decide +kernel
theorem dJ2_checkBoundsBeginEnd_d044e_1 : decode cJ2_checkBoundsBeginEnd_d044e 1 = .ok (.iload_n 1, 1) := by decide +kernel
theorem dJ2_checkBoundsBeginEnd_d044e_2 : decode cJ2_checkBoundsBeginEnd_d044e 2 = .ok (.aload_n 2, 1) := by decide +kernel
theorem dJ2_checkBoundsBeginEnd_d044e_3 : decode cJ2_checkBoundsBeginEnd_d044e 3 = .ok (.invokestatic 48, 3) := by decide +kernel
theorem dJ2_checkBoundsBeginEnd_d044e_6 : decode cJ2_checkBoundsBeginEnd_d044e 6 = .ok (.invokestatic 241, 3) := by decide +kernel
theorem dJ2_checkBoundsBeginEnd_d044e_9 : decode cJ2_checkBoundsBeginEnd_d044e 9 = .ok (.return_, 1) := by decide +kernel
theorem dJ3_checkIndex_8e157_0 : decode cJ3_checkIndex_8e157 0 = .ok (.iload_n 0, 1) := by decide +kernel
theorem dJ3_checkIndex_8e157_1 : decode cJ3_checkIndex_8e157 1 = .ok (.ifCond .lt 8, 3) := by decide +kernel
theorem dJ3_checkIndex_8e157_4 : decode cJ3_checkIndex_8e157 4 = .ok (.iload_n 0, 1) := by decide +kernel
theorem dJ3_checkIndex_8e157_5 : decode cJ3_checkIndex_8e157 5 = .ok (.iload_n 1, 1) := by decide +kernel
theorem dJ3_checkIndex_8e157_6 : decode cJ3_checkIndex_8e157 6 = .ok (.if_icmp .lt 10, 3) := by decide +kernel
theorem dJ3_checkIndex_8e157_9 : decode cJ3_checkIndex_8e157 9 = .ok (.aload_n 2, 1) := by decide +kernel
theorem dJ3_checkIndex_8e157_10 : decode cJ3_checkIndex_8e157 10 = .ok (.iload_n 0, 1) := by decide +kernel
theorem dJ3_checkIndex_8e157_11 : decode cJ3_checkIndex_8e157 11 = .ok (.iload_n 1, 1) := by decide +kernel
theorem dJ3_checkIndex_8e157_12 : decode cJ3_checkIndex_8e157 12 = .ok (.invokestatic 95, 3) := by decide +kernel
theorem dJ3_checkIndex_8e157_15 : decode cJ3_checkIndex_8e157 15 = .ok (.athrow, 1) := by decide +kernel
theorem dJ3_checkIndex_8e157_16 : decode cJ3_checkIndex_8e157 16 = .ok (.iload_n 0, 1) := by decide +kernel
theorem dJ3_checkIndex_8e157_17 : decode cJ3_checkIndex_8e157 17 = .ok (.ireturn, 1) := by decide +kernel
theorem dJ3_checkFromToIndex_8c36e_0 : decode cJ3_checkFromToIndex_8c36e 0 = .ok (.iload_n 0, 1) := by decide +kernel
theorem dJ3_checkFromToIndex_8c36e_1 : decode cJ3_checkFromToIndex_8c36e 1 = .ok (.ifCond .lt 13, 3) := by decide +kernel
theorem dJ3_checkFromToIndex_8c36e_4 : decode cJ3_checkFromToIndex_8c36e 4 = .ok (.iload_n 0, 1) := by decide +kernel
theorem dJ3_checkFromToIndex_8c36e_5 : decode cJ3_checkFromToIndex_8c36e 5 = .ok (.iload_n 1, 1) := by decide +kernel
theorem dJ3_checkFromToIndex_8c36e_6 : decode cJ3_checkFromToIndex_8c36e 6 = .ok (.if_icmp .gt 8, 3) := by decide +kernel
theorem dJ3_checkFromToIndex_8c36e_9 : decode cJ3_checkFromToIndex_8c36e 9 = .ok (.iload_n 1, 1) := by decide +kernel
theorem dJ3_checkFromToIndex_8c36e_10 : decode cJ3_checkFromToIndex_8c36e 10 = .ok (.iload_n 2, 1) := by decide +kernel
theorem dJ3_checkFromToIndex_8c36e_11 : decode cJ3_checkFromToIndex_8c36e 11 = .ok (.if_icmp .le 11, 3) := by decide +kernel
theorem dJ3_checkFromToIndex_8c36e_14 : decode cJ3_checkFromToIndex_8c36e 14 = .ok (.aload_n 3, 1) := by decide +kernel
theorem dJ3_checkFromToIndex_8c36e_15 : decode cJ3_checkFromToIndex_8c36e 15 = .ok (.iload_n 0, 1) := by decide +kernel
theorem dJ3_checkFromToIndex_8c36e_16 : decode cJ3_checkFromToIndex_8c36e 16 = .ok (.iload_n 1, 1) := by decide +kernel
theorem dJ3_checkFromToIndex_8c36e_17 : decode cJ3_checkFromToIndex_8c36e 17 = .ok (.iload_n 2, 1) := by decide +kernel
theorem dJ3_checkFromToIndex_8c36e_18 : decode cJ3_checkFromToIndex_8c36e 18 = .ok (.invokestatic 99, 3) := by decide +kernel
theorem dJ3_checkFromToIndex_8c36e_21 : decode cJ3_checkFromToIndex_8c36e 21 = .ok (.athrow, 1) := by decide +kernel
theorem dJ3_checkFromToIndex_8c36e_22 : decode cJ3_checkFromToIndex_8c36e 22 = .ok (.iload_n 0, 1) := by decide +kernel
theorem dJ3_checkFromToIndex_8c36e_23 : decode cJ3_checkFromToIndex_8c36e 23 = .ok (.ireturn, 1) := by decide +kernel
theorem dL_city_0 : decode cL_city 0 = .ok (.aload_n 2, 1) := by decide +kernel
theorem dL_city_1 : decode cL_city 1 = .ok (.iconst 0, 1) := by decide +kernel
theorem dL_city_2 : decode cL_city 2 = .ok (.aload_n 0, 1) := by decide +kernel
theorem dL_city_3 : decode cL_city 3 = .ok (.iload_n 1, 1) := by decide +kernel
theorem dL_city_4 : decode cL_city 4 = .ok (.invokevirtual 7, 3) := by decide +kernel
theorem dL_city_7 : decode cL_city 7 = .ok (.i2l, 1) := by decide +kernel
theorem dL_city_8 : decode cL_city 8 = .ok (.lastore, 1) := by decide +kernel
theorem dL_city_9 : decode cL_city 9 = .ok (.goto 6, 3) := by decide +kernel
theorem dL_city_12 : decode cL_city 12 = .ok (.astore_n 3, 1) := by decide +kernel
theorem dL_city_13 : decode cL_city 13 = .ok (.iconst 1, 1) := by decide +kernel
theorem dL_city_14 : decode cL_city 14 = .ok (.ireturn, 1) := by decide +kernel
theorem dL_city_15 : decode cL_city 15 = .ok (.iconst 0, 1) := by decide +kernel
theorem dL_city_16 : decode cL_city 16 = .ok (.ireturn, 1) := by decide +kernel
theorem dL_count_0 : decode cL_count 0 = .ok (.aload_n 2, 1) := by decide +kernel
theorem dL_count_1 : decode cL_count 1 = .ok (.iconst 0, 1) := by decide +kernel
theorem dL_count_2 : decode cL_count 2 = .ok (.aload_n 0, 1) := by decide +kernel
theorem dL_count_3 : decode cL_count 3 = .ok (.iload_n 1, 1) := by decide +kernel
theorem dL_count_4 : decode cL_count 4 = .ok (.invokevirtual 15, 3) := by decide +kernel
theorem dL_count_7 : decode cL_count 7 = .ok (.i2l, 1) := by decide +kernel
theorem dL_count_8 : decode cL_count 8 = .ok (.lastore, 1) := by decide +kernel
theorem dL_count_9 : decode cL_count 9 = .ok (.goto 6, 3) := by decide +kernel
theorem dL_count_12 : decode cL_count 12 = .ok (.astore_n 3, 1) := by decide +kernel
theorem dL_count_13 : decode cL_count 13 = .ok (.iconst 1, 1) := by decide +kernel
theorem dL_count_14 : decode cL_count 14 = .ok (.ireturn, 1) := by decide +kernel
theorem dL_count_15 : decode cL_count 15 = .ok (.iconst 0, 1) := by decide +kernel
theorem dL_count_16 : decode cL_count 16 = .ok (.ireturn, 1) := by decide +kernel
theorem dL_blade_0 : decode cL_blade 0 = .ok (.aload_n 3, 1) := by decide +kernel
theorem dL_blade_1 : decode cL_blade 1 = .ok (.iconst 0, 1) := by decide +kernel
theorem dL_blade_2 : decode cL_blade 2 = .ok (.aload_n 0, 1) := by decide +kernel
theorem dL_blade_3 : decode cL_blade 3 = .ok (.iload_n 1, 1) := by decide +kernel
theorem dL_blade_4 : decode cL_blade 4 = .ok (.iload_n 2, 1) := by decide +kernel
theorem dL_blade_5 : decode cL_blade 5 = .ok (.invokevirtual 20, 3) := by decide +kernel
theorem dL_blade_8 : decode cL_blade 8 = .ok (.i2l, 1) := by decide +kernel
theorem dL_blade_9 : decode cL_blade 9 = .ok (.lastore, 1) := by decide +kernel
theorem dL_blade_10 : decode cL_blade 10 = .ok (.goto 7, 3) := by decide +kernel
theorem dL_blade_13 : decode cL_blade 13 = .ok (.astore 4, 2) := by decide +kernel
theorem dL_blade_15 : decode cL_blade 15 = .ok (.iconst 1, 1) := by decide +kernel
theorem dL_blade_16 : decode cL_blade 16 = .ok (.ireturn, 1) := by decide +kernel
theorem dL_blade_17 : decode cL_blade 17 = .ok (.iconst 0, 1) := by decide +kernel
theorem dL_blade_18 : decode cL_blade 18 = .ok (.ireturn, 1) := by decide +kernel
theorem dL_throat_0 : decode cL_throat 0 = .ok (.aload_n 3, 1) := by decide +kernel
theorem dL_throat_1 : decode cL_throat 1 = .ok (.iconst 0, 1) := by decide +kernel
theorem dL_throat_2 : decode cL_throat 2 = .ok (.aload_n 0, 1) := by decide +kernel
theorem dL_throat_3 : decode cL_throat 3 = .ok (.iload_n 1, 1) := by decide +kernel
theorem dL_throat_4 : decode cL_throat 4 = .ok (.iload_n 2, 1) := by decide +kernel
theorem dL_throat_5 : decode cL_throat 5 = .ok (.invokevirtual 24, 3) := by decide +kernel
theorem dL_throat_8 : decode cL_throat 8 = .ok (.i2l, 1) := by decide +kernel
theorem dL_throat_9 : decode cL_throat 9 = .ok (.lastore, 1) := by decide +kernel
theorem dL_throat_10 : decode cL_throat 10 = .ok (.goto 7, 3) := by decide +kernel
theorem dL_throat_13 : decode cL_throat 13 = .ok (.astore 4, 2) := by decide +kernel
theorem dL_throat_15 : decode cL_throat 15 = .ok (.iconst 1, 1) := by decide +kernel
theorem dL_throat_16 : decode cL_throat 16 = .ok (.ireturn, 1) := by decide +kernel
theorem dL_throat_17 : decode cL_throat 17 = .ok (.iconst 0, 1) := by decide +kernel
theorem dL_throat_18 : decode cL_throat 18 = .ok (.ireturn, 1) := by decide +kernel
theorem dL_feud_0 : decode cL_feud 0 = .ok (.aload_n 3, 1) := by decide +kernel
theorem dL_feud_1 : decode cL_feud 1 = .ok (.iconst 0, 1) := by decide +kernel
theorem dL_feud_2 : decode cL_feud 2 = .ok (.aload_n 0, 1) := by decide +kernel
theorem dL_feud_3 : decode cL_feud 3 = .ok (.iload_n 1, 1) := by decide +kernel
theorem dL_feud_4 : decode cL_feud 4 = .ok (.iload_n 2, 1) := by decide +kernel
theorem dL_feud_5 : decode cL_feud 5 = .ok (.invokevirtual 27, 3) := by decide +kernel
theorem dL_feud_8 : decode cL_feud 8 = .ok (.ifCond .eq 7, 3) := by decide +kernel
theorem dL_feud_11 : decode cL_feud 11 = .ok (.lconst 1, 1) := by decide +kernel
theorem dL_feud_12 : decode cL_feud 12 = .ok (.goto 4, 3) := by decide +kernel
theorem dL_feud_15 : decode cL_feud 15 = .ok (.lconst 0, 1) := by decide +kernel
theorem dL_feud_16 : decode cL_feud 16 = .ok (.lastore, 1) := by decide +kernel
theorem dL_feud_17 : decode cL_feud 17 = .ok (.goto 7, 3) := by decide +kernel
theorem dL_feud_20 : decode cL_feud 20 = .ok (.astore 4, 2) := by decide +kernel
theorem dL_feud_22 : decode cL_feud 22 = .ok (.iconst 1, 1) := by decide +kernel
theorem dL_feud_23 : decode cL_feud 23 = .ok (.ireturn, 1) := by decide +kernel
theorem dL_feud_24 : decode cL_feud 24 = .ok (.iconst 0, 1) := by decide +kernel
theorem dL_feud_25 : decode cL_feud 25 = .ok (.ireturn, 1) := by decide +kernel
theorem dL_swallow_0 : decode cL_swallow 0 = .ok (.aload_n 3, 1) := by decide +kernel
theorem dL_swallow_1 : decode cL_swallow 1 = .ok (.iconst 0, 1) := by decide +kernel
theorem dL_swallow_2 : decode cL_swallow 2 = .ok (.aload_n 0, 1) := by decide +kernel
theorem dL_swallow_3 : decode cL_swallow 3 = .ok (.iload_n 1, 1) := by decide +kernel
theorem dL_swallow_4 : decode cL_swallow 4 = .ok (.iload_n 2, 1) := by decide +kernel
theorem dL_swallow_5 : decode cL_swallow 5 = .ok (.invokevirtual 31, 3) := by decide +kernel
theorem dL_swallow_8 : decode cL_swallow 8 = .ok (.i2l, 1) := by decide +kernel
theorem dL_swallow_9 : decode cL_swallow 9 = .ok (.lastore, 1) := by decide +kernel
theorem dL_swallow_10 : decode cL_swallow 10 = .ok (.goto 7, 3) := by decide +kernel
theorem dL_swallow_13 : decode cL_swallow 13 = .ok (.astore 4, 2) := by decide +kernel
theorem dL_swallow_15 : decode cL_swallow 15 = .ok (.iconst 1, 1) := by decide +kernel
theorem dL_swallow_16 : decode cL_swallow 16 = .ok (.ireturn, 1) := by decide +kernel
theorem dL_swallow_17 : decode cL_swallow 17 = .ok (.iconst 0, 1) := by decide +kernel
theorem dL_swallow_18 : decode cL_swallow 18 = .ok (.ireturn, 1) := by decide +kernel
theorem dL_draw_0 : decode cL_draw 0 = .ok (.aload_n 2, 1) := by decide +kernel
theorem dL_draw_1 : decode cL_draw 1 = .ok (.iconst 0, 1) := by decide +kernel
theorem dL_draw_2 : decode cL_draw 2 = .ok (.aload_n 0, 1) := by decide +kernel
theorem dL_draw_3 : decode cL_draw 3 = .ok (.iload_n 1, 1) := by decide +kernel
theorem dL_draw_4 : decode cL_draw 4 = .ok (.invokevirtual 34, 3) := by decide +kernel
theorem dL_draw_7 : decode cL_draw 7 = .ok (.i2l, 1) := by decide +kernel
theorem dL_draw_8 : decode cL_draw 8 = .ok (.lastore, 1) := by decide +kernel
theorem dL_draw_9 : decode cL_draw 9 = .ok (.goto 6, 3) := by decide +kernel
theorem dL_draw_12 : decode cL_draw 12 = .ok (.astore_n 3, 1) := by decide +kernel
theorem dL_draw_13 : decode cL_draw 13 = .ok (.iconst 1, 1) := by decide +kernel
theorem dL_draw_14 : decode cL_draw 14 = .ok (.ireturn, 1) := by decide +kernel
theorem dL_draw_15 : decode cL_draw 15 = .ok (.iconst 0, 1) := by decide +kernel
theorem dL_draw_16 : decode cL_draw 16 = .ok (.ireturn, 1) := by decide +kernel
theorem dL_broth_0 : decode cL_broth 0 = .ok (.aload_n 3, 1) := by decide +kernel
theorem dL_broth_1 : decode cL_broth 1 = .ok (.iconst 0, 1) := by decide +kernel
theorem dL_broth_2 : decode cL_broth 2 = .ok (.aload_n 0, 1) := by decide +kernel
theorem dL_broth_3 : decode cL_broth 3 = .ok (.iload_n 1, 1) := by decide +kernel
theorem dL_broth_4 : decode cL_broth 4 = .ok (.iload_n 2, 1) := by decide +kernel
theorem dL_broth_5 : decode cL_broth 5 = .ok (.invokevirtual 37, 3) := by decide +kernel
theorem dL_broth_8 : decode cL_broth 8 = .ok (.i2l, 1) := by decide +kernel
theorem dL_broth_9 : decode cL_broth 9 = .ok (.lastore, 1) := by decide +kernel
theorem dL_broth_10 : decode cL_broth 10 = .ok (.goto 7, 3) := by decide +kernel
theorem dL_broth_13 : decode cL_broth 13 = .ok (.astore 4, 2) := by decide +kernel
theorem dL_broth_15 : decode cL_broth 15 = .ok (.iconst 1, 1) := by decide +kernel
theorem dL_broth_16 : decode cL_broth 16 = .ok (.ireturn, 1) := by decide +kernel
theorem dL_broth_17 : decode cL_broth 17 = .ok (.iconst 0, 1) := by decide +kernel
theorem dL_broth_18 : decode cL_broth 18 = .ok (.ireturn, 1) := by decide +kernel
theorem dL_make_0 : decode cL_make 0 = .ok (.aload 4, 2) := by decide +kernel
theorem dL_make_2 : decode cL_make 2 = .ok (.iconst 0, 1) := by decide +kernel
theorem dL_make_3 : decode cL_make 3 = .ok (.aload_n 0, 1) := by decide +kernel
theorem dL_make_4 : decode cL_make 4 = .ok (.iload_n 1, 1) := by decide +kernel
theorem dL_make_5 : decode cL_make 5 = .ok (.iload_n 2, 1) := by decide +kernel
theorem dL_make_6 : decode cL_make 6 = .ok (.iload_n 3, 1) := by decide +kernel
theorem dL_make_7 : decode cL_make 7 = .ok (.invokevirtual 40, 3) := by decide +kernel
theorem dL_make_10 : decode cL_make 10 = .ok (.ifCond .eq 7, 3) := by decide +kernel
theorem dL_make_13 : decode cL_make 13 = .ok (.lconst 1, 1) := by decide +kernel
theorem dL_make_14 : decode cL_make 14 = .ok (.goto 4, 3) := by decide +kernel
theorem dL_make_17 : decode cL_make 17 = .ok (.lconst 0, 1) := by decide +kernel
theorem dL_make_18 : decode cL_make 18 = .ok (.lastore, 1) := by decide +kernel
theorem dL_make_19 : decode cL_make 19 = .ok (.goto 7, 3) := by decide +kernel
theorem dL_make_22 : decode cL_make 22 = .ok (.astore 5, 2) := by decide +kernel
theorem dL_make_24 : decode cL_make 24 = .ok (.iconst 1, 1) := by decide +kernel
theorem dL_make_25 : decode cL_make 25 = .ok (.ireturn, 1) := by decide +kernel
theorem dL_make_26 : decode cL_make 26 = .ok (.iconst 0, 1) := by decide +kernel
theorem dL_make_27 : decode cL_make 27 = .ok (.ireturn, 1) := by decide +kernel
theorem dL_then_0 : decode cL_then 0 = .ok (.aload 4, 2) := by decide +kernel
theorem dL_then_2 : decode cL_then 2 = .ok (.iconst 0, 1) := by decide +kernel
theorem dL_then_3 : decode cL_then 3 = .ok (.aload_n 0, 1) := by decide +kernel
theorem dL_then_4 : decode cL_then 4 = .ok (.iload_n 1, 1) := by decide +kernel
theorem dL_then_5 : decode cL_then 5 = .ok (.iload_n 2, 1) := by decide +kernel
theorem dL_then_6 : decode cL_then 6 = .ok (.iload_n 3, 1) := by decide +kernel
theorem dL_then_7 : decode cL_then 7 = .ok (.invokevirtual 44, 3) := by decide +kernel
theorem dL_then_10 : decode cL_then 10 = .ok (.i2l, 1) := by decide +kernel
theorem dL_then_11 : decode cL_then 11 = .ok (.lastore, 1) := by decide +kernel
theorem dL_then_12 : decode cL_then 12 = .ok (.goto 11, 3) := by decide +kernel
theorem dL_then_15 : decode cL_then 15 = .ok (.astore 5, 2) := by decide +kernel
theorem dL_then_17 : decode cL_then 17 = .ok (.iconst 1, 1) := by decide +kernel
theorem dL_then_18 : decode cL_then 18 = .ok (.ireturn, 1) := by decide +kernel
theorem dL_then_19 : decode cL_then 19 = .ok (.astore 5, 2) := by decide +kernel
theorem dL_then_21 : decode cL_then 21 = .ok (.iconst 2, 1) := by decide +kernel
theorem dL_then_22 : decode cL_then 22 = .ok (.ireturn, 1) := by decide +kernel
theorem dL_then_23 : decode cL_then 23 = .ok (.iconst 0, 1) := by decide +kernel
theorem dL_then_24 : decode cL_then 24 = .ok (.ireturn, 1) := by decide +kernel
theorem dL_fights_0 : decode cL_fights 0 = .ok (.aload_n 2, 1) := by decide +kernel
theorem dL_fights_1 : decode cL_fights 1 = .ok (.iconst 0, 1) := by decide +kernel
theorem dL_fights_2 : decode cL_fights 2 = .ok (.aload_n 0, 1) := by decide +kernel
theorem dL_fights_3 : decode cL_fights 3 = .ok (.iload_n 1, 1) := by decide +kernel
theorem dL_fights_4 : decode cL_fights 4 = .ok (.invokevirtual 48, 3) := by decide +kernel
theorem dL_fights_7 : decode cL_fights 7 = .ok (.i2l, 1) := by decide +kernel
theorem dL_fights_8 : decode cL_fights 8 = .ok (.lastore, 1) := by decide +kernel
theorem dL_fights_9 : decode cL_fights 9 = .ok (.goto 6, 3) := by decide +kernel
theorem dL_fights_12 : decode cL_fights 12 = .ok (.astore_n 3, 1) := by decide +kernel
theorem dL_fights_13 : decode cL_fights 13 = .ok (.iconst 1, 1) := by decide +kernel
theorem dL_fights_14 : decode cL_fights 14 = .ok (.ireturn, 1) := by decide +kernel
theorem dL_fights_15 : decode cL_fights 15 = .ok (.iconst 0, 1) := by decide +kernel
theorem dL_fights_16 : decode cL_fights 16 = .ok (.ireturn, 1) := by decide +kernel
theorem dL_rests_0 : decode cL_rests 0 = .ok (.aload_n 2, 1) := by decide +kernel
theorem dL_rests_1 : decode cL_rests 1 = .ok (.iconst 0, 1) := by decide +kernel
theorem dL_rests_2 : decode cL_rests 2 = .ok (.aload_n 0, 1) := by decide +kernel
theorem dL_rests_3 : decode cL_rests 3 = .ok (.iload_n 1, 1) := by decide +kernel
theorem dL_rests_4 : decode cL_rests 4 = .ok (.invokevirtual 51, 3) := by decide +kernel
theorem dL_rests_7 : decode cL_rests 7 = .ok (.i2l, 1) := by decide +kernel
theorem dL_rests_8 : decode cL_rests 8 = .ok (.lastore, 1) := by decide +kernel
theorem dL_rests_9 : decode cL_rests 9 = .ok (.goto 6, 3) := by decide +kernel
theorem dL_rests_12 : decode cL_rests 12 = .ok (.astore_n 3, 1) := by decide +kernel
theorem dL_rests_13 : decode cL_rests 13 = .ok (.iconst 1, 1) := by decide +kernel
theorem dL_rests_14 : decode cL_rests 14 = .ok (.ireturn, 1) := by decide +kernel
theorem dL_rests_15 : decode cL_rests 15 = .ok (.iconst 0, 1) := by decide +kernel
theorem dL_rests_16 : decode cL_rests 16 = .ok (.ireturn, 1) := by decide +kernel
theorem dL_worst_0 : decode cL_worst 0 = .ok (.aload_n 2, 1) := by decide +kernel
theorem dL_worst_1 : decode cL_worst 1 = .ok (.iconst 0, 1) := by decide +kernel
theorem dL_worst_2 : decode cL_worst 2 = .ok (.aload_n 0, 1) := by decide +kernel
theorem dL_worst_3 : decode cL_worst 3 = .ok (.iload_n 1, 1) := by decide +kernel
theorem dL_worst_4 : decode cL_worst 4 = .ok (.invokevirtual 54, 3) := by decide +kernel
theorem dL_worst_7 : decode cL_worst 7 = .ok (.i2l, 1) := by decide +kernel
theorem dL_worst_8 : decode cL_worst 8 = .ok (.lastore, 1) := by decide +kernel
theorem dL_worst_9 : decode cL_worst 9 = .ok (.goto 6, 3) := by decide +kernel
theorem dL_worst_12 : decode cL_worst 12 = .ok (.astore_n 3, 1) := by decide +kernel
theorem dL_worst_13 : decode cL_worst 13 = .ok (.iconst 1, 1) := by decide +kernel
theorem dL_worst_14 : decode cL_worst 14 = .ok (.ireturn, 1) := by decide +kernel
theorem dL_worst_15 : decode cL_worst 15 = .ok (.iconst 0, 1) := by decide +kernel
theorem dL_worst_16 : decode cL_worst 16 = .ok (.ireturn, 1) := by decide +kernel
theorem dL_takeIn_0 : decode cL_takeIn 0 = .ok (.aload_n 2, 1) := by decide +kernel
theorem dL_takeIn_1 : decode cL_takeIn 1 = .ok (.iconst 0, 1) := by decide +kernel
theorem dL_takeIn_2 : decode cL_takeIn 2 = .ok (.aload_n 0, 1) := by decide +kernel
theorem dL_takeIn_3 : decode cL_takeIn 3 = .ok (.iload_n 1, 1) := by decide +kernel
theorem dL_takeIn_4 : decode cL_takeIn 4 = .ok (.invokevirtual 57, 3) := by decide +kernel
theorem dL_takeIn_7 : decode cL_takeIn 7 = .ok (.i2l, 1) := by decide +kernel
theorem dL_takeIn_8 : decode cL_takeIn 8 = .ok (.lastore, 1) := by decide +kernel
theorem dL_takeIn_9 : decode cL_takeIn 9 = .ok (.goto 6, 3) := by decide +kernel
theorem dL_takeIn_12 : decode cL_takeIn 12 = .ok (.astore_n 3, 1) := by decide +kernel
theorem dL_takeIn_13 : decode cL_takeIn 13 = .ok (.iconst 1, 1) := by decide +kernel
theorem dL_takeIn_14 : decode cL_takeIn 14 = .ok (.ireturn, 1) := by decide +kernel
theorem dL_takeIn_15 : decode cL_takeIn 15 = .ok (.iconst 0, 1) := by decide +kernel
theorem dL_takeIn_16 : decode cL_takeIn 16 = .ok (.ireturn, 1) := by decide +kernel
theorem dL_toDraw_0 : decode cL_toDraw 0 = .ok (.aload_n 2, 1) := by decide +kernel
theorem dL_toDraw_1 : decode cL_toDraw 1 = .ok (.iconst 0, 1) := by decide +kernel
theorem dL_toDraw_2 : decode cL_toDraw 2 = .ok (.aload_n 0, 1) := by decide +kernel
theorem dL_toDraw_3 : decode cL_toDraw 3 = .ok (.iload_n 1, 1) := by decide +kernel
theorem dL_toDraw_4 : decode cL_toDraw 4 = .ok (.invokevirtual 60, 3) := by decide +kernel
theorem dL_toDraw_7 : decode cL_toDraw 7 = .ok (.i2l, 1) := by decide +kernel
theorem dL_toDraw_8 : decode cL_toDraw 8 = .ok (.lastore, 1) := by decide +kernel
theorem dL_toDraw_9 : decode cL_toDraw 9 = .ok (.goto 6, 3) := by decide +kernel
theorem dL_toDraw_12 : decode cL_toDraw 12 = .ok (.astore_n 3, 1) := by decide +kernel
theorem dL_toDraw_13 : decode cL_toDraw 13 = .ok (.iconst 1, 1) := by decide +kernel
theorem dL_toDraw_14 : decode cL_toDraw 14 = .ok (.ireturn, 1) := by decide +kernel
theorem dL_toDraw_15 : decode cL_toDraw 15 = .ok (.iconst 0, 1) := by decide +kernel
theorem dL_toDraw_16 : decode cL_toDraw 16 = .ok (.ireturn, 1) := by decide +kernel
theorem dL_toSwallow_0 : decode cL_toSwallow 0 = .ok (.aload_n 2, 1) := by decide +kernel
theorem dL_toSwallow_1 : decode cL_toSwallow 1 = .ok (.iconst 0, 1) := by decide +kernel
theorem dL_toSwallow_2 : decode cL_toSwallow 2 = .ok (.aload_n 0, 1) := by decide +kernel
theorem dL_toSwallow_3 : decode cL_toSwallow 3 = .ok (.iload_n 1, 1) := by decide +kernel
theorem dL_toSwallow_4 : decode cL_toSwallow 4 = .ok (.invokevirtual 63, 3) := by decide +kernel
theorem dL_toSwallow_7 : decode cL_toSwallow 7 = .ok (.i2l, 1) := by decide +kernel
theorem dL_toSwallow_8 : decode cL_toSwallow 8 = .ok (.lastore, 1) := by decide +kernel
theorem dL_toSwallow_9 : decode cL_toSwallow 9 = .ok (.goto 6, 3) := by decide +kernel
theorem dL_toSwallow_12 : decode cL_toSwallow 12 = .ok (.astore_n 3, 1) := by decide +kernel
theorem dL_toSwallow_13 : decode cL_toSwallow 13 = .ok (.iconst 1, 1) := by decide +kernel
theorem dL_toSwallow_14 : decode cL_toSwallow 14 = .ok (.ireturn, 1) := by decide +kernel
theorem dL_toSwallow_15 : decode cL_toSwallow 15 = .ok (.iconst 0, 1) := by decide +kernel
theorem dL_toSwallow_16 : decode cL_toSwallow 16 = .ok (.ireturn, 1) := by decide +kernel
theorem dL_grudge_0 : decode cL_grudge 0 = .ok (.aload_n 2, 1) := by decide +kernel
theorem dL_grudge_1 : decode cL_grudge 1 = .ok (.iconst 0, 1) := by decide +kernel
theorem dL_grudge_2 : decode cL_grudge 2 = .ok (.aload_n 0, 1) := by decide +kernel
theorem dL_grudge_3 : decode cL_grudge 3 = .ok (.iload_n 1, 1) := by decide +kernel
theorem dL_grudge_4 : decode cL_grudge 4 = .ok (.invokevirtual 66, 3) := by decide +kernel
theorem dL_grudge_7 : decode cL_grudge 7 = .ok (.i2l, 1) := by decide +kernel
theorem dL_grudge_8 : decode cL_grudge 8 = .ok (.lastore, 1) := by decide +kernel
theorem dL_grudge_9 : decode cL_grudge 9 = .ok (.goto 6, 3) := by decide +kernel
theorem dL_grudge_12 : decode cL_grudge 12 = .ok (.astore_n 3, 1) := by decide +kernel
theorem dL_grudge_13 : decode cL_grudge 13 = .ok (.iconst 1, 1) := by decide +kernel
theorem dL_grudge_14 : decode cL_grudge 14 = .ok (.ireturn, 1) := by decide +kernel
theorem dL_grudge_15 : decode cL_grudge 15 = .ok (.iconst 0, 1) := by decide +kernel
theorem dL_grudge_16 : decode cL_grudge 16 = .ok (.ireturn, 1) := by decide +kernel
theorem dL_foes_0 : decode cL_foes 0 = .ok (.aload_n 3, 1) := by decide +kernel
theorem dL_foes_1 : decode cL_foes 1 = .ok (.iconst 0, 1) := by decide +kernel
theorem dL_foes_2 : decode cL_foes 2 = .ok (.aload_n 0, 1) := by decide +kernel
theorem dL_foes_3 : decode cL_foes 3 = .ok (.iload_n 1, 1) := by decide +kernel
theorem dL_foes_4 : decode cL_foes 4 = .ok (.iload_n 2, 1) := by decide +kernel
theorem dL_foes_5 : decode cL_foes 5 = .ok (.invokevirtual 69, 3) := by decide +kernel
theorem dL_foes_8 : decode cL_foes 8 = .ok (.i2l, 1) := by decide +kernel
theorem dL_foes_9 : decode cL_foes 9 = .ok (.lastore, 1) := by decide +kernel
theorem dL_foes_10 : decode cL_foes 10 = .ok (.goto 7, 3) := by decide +kernel
theorem dL_foes_13 : decode cL_foes 13 = .ok (.astore 4, 2) := by decide +kernel
theorem dL_foes_15 : decode cL_foes 15 = .ok (.iconst 1, 1) := by decide +kernel
theorem dL_foes_16 : decode cL_foes 16 = .ok (.ireturn, 1) := by decide +kernel
theorem dL_foes_17 : decode cL_foes 17 = .ok (.iconst 0, 1) := by decide +kernel
theorem dL_foes_18 : decode cL_foes 18 = .ok (.ireturn, 1) := by decide +kernel
theorem dL_calm_0 : decode cL_calm 0 = .ok (.aload_n 2, 1) := by decide +kernel
theorem dL_calm_1 : decode cL_calm 1 = .ok (.iconst 0, 1) := by decide +kernel
theorem dL_calm_2 : decode cL_calm 2 = .ok (.aload_n 0, 1) := by decide +kernel
theorem dL_calm_3 : decode cL_calm 3 = .ok (.iload_n 1, 1) := by decide +kernel
theorem dL_calm_4 : decode cL_calm 4 = .ok (.invokevirtual 72, 3) := by decide +kernel
theorem dL_calm_7 : decode cL_calm 7 = .ok (.i2l, 1) := by decide +kernel
theorem dL_calm_8 : decode cL_calm 8 = .ok (.lastore, 1) := by decide +kernel
theorem dL_calm_9 : decode cL_calm 9 = .ok (.goto 6, 3) := by decide +kernel
theorem dL_calm_12 : decode cL_calm 12 = .ok (.astore_n 3, 1) := by decide +kernel
theorem dL_calm_13 : decode cL_calm 13 = .ok (.iconst 1, 1) := by decide +kernel
theorem dL_calm_14 : decode cL_calm 14 = .ok (.ireturn, 1) := by decide +kernel
theorem dL_calm_15 : decode cL_calm 15 = .ok (.iconst 0, 1) := by decide +kernel
theorem dL_calm_16 : decode cL_calm 16 = .ok (.ireturn, 1) := by decide +kernel
theorem dL_lacks_0 : decode cL_lacks 0 = .ok (.aload_n 2, 1) := by decide +kernel
theorem dL_lacks_1 : decode cL_lacks 1 = .ok (.iconst 0, 1) := by decide +kernel
theorem dL_lacks_2 : decode cL_lacks 2 = .ok (.aload_n 0, 1) := by decide +kernel
theorem dL_lacks_3 : decode cL_lacks 3 = .ok (.iload_n 1, 1) := by decide +kernel
theorem dL_lacks_4 : decode cL_lacks 4 = .ok (.invokevirtual 75, 3) := by decide +kernel
theorem dL_lacks_7 : decode cL_lacks 7 = .ok (.i2l, 1) := by decide +kernel
theorem dL_lacks_8 : decode cL_lacks 8 = .ok (.lastore, 1) := by decide +kernel
theorem dL_lacks_9 : decode cL_lacks 9 = .ok (.goto 6, 3) := by decide +kernel
theorem dL_lacks_12 : decode cL_lacks 12 = .ok (.astore_n 3, 1) := by decide +kernel
theorem dL_lacks_13 : decode cL_lacks 13 = .ok (.iconst 1, 1) := by decide +kernel
theorem dL_lacks_14 : decode cL_lacks 14 = .ok (.ireturn, 1) := by decide +kernel
theorem dL_lacks_15 : decode cL_lacks 15 = .ok (.iconst 0, 1) := by decide +kernel
theorem dL_lacks_16 : decode cL_lacks 16 = .ok (.ireturn, 1) := by decide +kernel
theorem dL_above_0 : decode cL_above 0 = .ok (.aload_n 2, 1) := by decide +kernel
theorem dL_above_1 : decode cL_above 1 = .ok (.iconst 0, 1) := by decide +kernel
theorem dL_above_2 : decode cL_above 2 = .ok (.aload_n 0, 1) := by decide +kernel
theorem dL_above_3 : decode cL_above 3 = .ok (.iload_n 1, 1) := by decide +kernel
theorem dL_above_4 : decode cL_above 4 = .ok (.invokevirtual 78, 3) := by decide +kernel
theorem dL_above_7 : decode cL_above 7 = .ok (.i2l, 1) := by decide +kernel
theorem dL_above_8 : decode cL_above 8 = .ok (.lastore, 1) := by decide +kernel
theorem dL_above_9 : decode cL_above 9 = .ok (.goto 6, 3) := by decide +kernel
theorem dL_above_12 : decode cL_above 12 = .ok (.astore_n 3, 1) := by decide +kernel
theorem dL_above_13 : decode cL_above 13 = .ok (.iconst 1, 1) := by decide +kernel
theorem dL_above_14 : decode cL_above 14 = .ok (.ireturn, 1) := by decide +kernel
theorem dL_above_15 : decode cL_above 15 = .ok (.iconst 0, 1) := by decide +kernel
theorem dL_above_16 : decode cL_above 16 = .ok (.ireturn, 1) := by decide +kernel
theorem dL_hiccup_0 : decode cL_hiccup 0 = .ok (.aload_n 2, 1) := by decide +kernel
theorem dL_hiccup_1 : decode cL_hiccup 1 = .ok (.iconst 0, 1) := by decide +kernel
theorem dL_hiccup_2 : decode cL_hiccup 2 = .ok (.aload_n 0, 1) := by decide +kernel
theorem dL_hiccup_3 : decode cL_hiccup 3 = .ok (.iload_n 1, 1) := by decide +kernel
theorem dL_hiccup_4 : decode cL_hiccup 4 = .ok (.invokevirtual 81, 3) := by decide +kernel
theorem dL_hiccup_7 : decode cL_hiccup 7 = .ok (.i2l, 1) := by decide +kernel
theorem dL_hiccup_8 : decode cL_hiccup 8 = .ok (.lastore, 1) := by decide +kernel
theorem dL_hiccup_9 : decode cL_hiccup 9 = .ok (.goto 6, 3) := by decide +kernel
theorem dL_hiccup_12 : decode cL_hiccup 12 = .ok (.astore_n 3, 1) := by decide +kernel
theorem dL_hiccup_13 : decode cL_hiccup 13 = .ok (.iconst 1, 1) := by decide +kernel
theorem dL_hiccup_14 : decode cL_hiccup 14 = .ok (.ireturn, 1) := by decide +kernel
theorem dL_hiccup_15 : decode cL_hiccup 15 = .ok (.iconst 0, 1) := by decide +kernel
theorem dL_hiccup_16 : decode cL_hiccup 16 = .ok (.ireturn, 1) := by decide +kernel
theorem dL_see_0 : decode cL_see 0 = .ok (.aload 4, 2) := by decide +kernel
theorem dL_see_2 : decode cL_see 2 = .ok (.iconst 0, 1) := by decide +kernel
theorem dL_see_3 : decode cL_see 3 = .ok (.aload_n 0, 1) := by decide +kernel
theorem dL_see_4 : decode cL_see 4 = .ok (.iload_n 1, 1) := by decide +kernel
theorem dL_see_5 : decode cL_see 5 = .ok (.iload_n 2, 1) := by decide +kernel
theorem dL_see_6 : decode cL_see 6 = .ok (.iload_n 3, 1) := by decide +kernel
theorem dL_see_7 : decode cL_see 7 = .ok (.invokevirtual 84, 3) := by decide +kernel
theorem dL_see_10 : decode cL_see 10 = .ok (.i2l, 1) := by decide +kernel
theorem dL_see_11 : decode cL_see 11 = .ok (.lastore, 1) := by decide +kernel
theorem dL_see_12 : decode cL_see 12 = .ok (.goto 7, 3) := by decide +kernel
theorem dL_see_15 : decode cL_see 15 = .ok (.astore 5, 2) := by decide +kernel
theorem dL_see_17 : decode cL_see 17 = .ok (.iconst 1, 1) := by decide +kernel
theorem dL_see_18 : decode cL_see 18 = .ok (.ireturn, 1) := by decide +kernel
theorem dL_see_19 : decode cL_see 19 = .ok (.iconst 0, 1) := by decide +kernel
theorem dL_see_20 : decode cL_see 20 = .ok (.ireturn, 1) := by decide +kernel
theorem dL_wrong_0 : decode cL_wrong 0 = .ok (.aload_n 2, 1) := by decide +kernel
theorem dL_wrong_1 : decode cL_wrong 1 = .ok (.iconst 0, 1) := by decide +kernel
theorem dL_wrong_2 : decode cL_wrong 2 = .ok (.aload_n 0, 1) := by decide +kernel
theorem dL_wrong_3 : decode cL_wrong 3 = .ok (.iload_n 1, 1) := by decide +kernel
theorem dL_wrong_4 : decode cL_wrong 4 = .ok (.invokevirtual 87, 3) := by decide +kernel
theorem dL_wrong_7 : decode cL_wrong 7 = .ok (.i2l, 1) := by decide +kernel
theorem dL_wrong_8 : decode cL_wrong 8 = .ok (.lastore, 1) := by decide +kernel
theorem dL_wrong_9 : decode cL_wrong 9 = .ok (.goto 6, 3) := by decide +kernel
theorem dL_wrong_12 : decode cL_wrong 12 = .ok (.astore_n 3, 1) := by decide +kernel
theorem dL_wrong_13 : decode cL_wrong 13 = .ok (.iconst 1, 1) := by decide +kernel
theorem dL_wrong_14 : decode cL_wrong 14 = .ok (.ireturn, 1) := by decide +kernel
theorem dL_wrong_15 : decode cL_wrong 15 = .ok (.iconst 0, 1) := by decide +kernel
theorem dL_wrong_16 : decode cL_wrong 16 = .ok (.ireturn, 1) := by decide +kernel
theorem dL_look_0 : decode cL_look 0 = .ok (.aload_n 2, 1) := by decide +kernel
theorem dL_look_1 : decode cL_look 1 = .ok (.iconst 0, 1) := by decide +kernel
theorem dL_look_2 : decode cL_look 2 = .ok (.aload_n 0, 1) := by decide +kernel
theorem dL_look_3 : decode cL_look 3 = .ok (.iload_n 1, 1) := by decide +kernel
theorem dL_look_4 : decode cL_look 4 = .ok (.invokevirtual 90, 3) := by decide +kernel
theorem dL_look_7 : decode cL_look 7 = .ok (.i2l, 1) := by decide +kernel
theorem dL_look_8 : decode cL_look 8 = .ok (.lastore, 1) := by decide +kernel
theorem dL_look_9 : decode cL_look 9 = .ok (.goto 6, 3) := by decide +kernel
theorem dL_look_12 : decode cL_look 12 = .ok (.astore_n 3, 1) := by decide +kernel
theorem dL_look_13 : decode cL_look 13 = .ok (.iconst 1, 1) := by decide +kernel
theorem dL_look_14 : decode cL_look 14 = .ok (.ireturn, 1) := by decide +kernel
theorem dL_look_15 : decode cL_look 15 = .ok (.iconst 0, 1) := by decide +kernel
theorem dL_look_16 : decode cL_look 16 = .ok (.ireturn, 1) := by decide +kernel
theorem dL_game_0 : decode cL_game 0 = .ok (.aload 4, 2) := by decide +kernel
theorem dL_game_2 : decode cL_game 2 = .ok (.iconst 0, 1) := by decide +kernel
theorem dL_game_3 : decode cL_game 3 = .ok (.aload_n 0, 1) := by decide +kernel
theorem dL_game_4 : decode cL_game 4 = .ok (.iload_n 1, 1) := by decide +kernel
theorem dL_game_5 : decode cL_game 5 = .ok (.iload_n 2, 1) := by decide +kernel
theorem dL_game_6 : decode cL_game 6 = .ok (.iload_n 3, 1) := by decide +kernel
theorem dL_game_7 : decode cL_game 7 = .ok (.invokevirtual 93, 3) := by decide +kernel
theorem dL_game_10 : decode cL_game 10 = .ok (.i2l, 1) := by decide +kernel
theorem dL_game_11 : decode cL_game 11 = .ok (.lastore, 1) := by decide +kernel
theorem dL_game_12 : decode cL_game 12 = .ok (.goto 11, 3) := by decide +kernel
theorem dL_game_15 : decode cL_game 15 = .ok (.astore 5, 2) := by decide +kernel
theorem dL_game_17 : decode cL_game 17 = .ok (.iconst 1, 1) := by decide +kernel
theorem dL_game_18 : decode cL_game 18 = .ok (.ireturn, 1) := by decide +kernel
theorem dL_game_19 : decode cL_game 19 = .ok (.astore 5, 2) := by decide +kernel
theorem dL_game_21 : decode cL_game 21 = .ok (.iconst 2, 1) := by decide +kernel
theorem dL_game_22 : decode cL_game 22 = .ok (.ireturn, 1) := by decide +kernel
theorem dL_game_23 : decode cL_game 23 = .ok (.iconst 0, 1) := by decide +kernel
theorem dL_game_24 : decode cL_game 24 = .ok (.ireturn, 1) := by decide +kernel
theorem dL_summer_0 : decode cL_summer 0 = .ok (.aload 4, 2) := by decide +kernel
theorem dL_summer_2 : decode cL_summer 2 = .ok (.iconst 0, 1) := by decide +kernel
theorem dL_summer_3 : decode cL_summer 3 = .ok (.aload_n 0, 1) := by decide +kernel
theorem dL_summer_4 : decode cL_summer 4 = .ok (.iload_n 1, 1) := by decide +kernel
theorem dL_summer_5 : decode cL_summer 5 = .ok (.iload_n 2, 1) := by decide +kernel
theorem dL_summer_6 : decode cL_summer 6 = .ok (.iload_n 3, 1) := by decide +kernel
theorem dL_summer_7 : decode cL_summer 7 = .ok (.invokevirtual 96, 3) := by decide +kernel
theorem dL_summer_10 : decode cL_summer 10 = .ok (.i2l, 1) := by decide +kernel
theorem dL_summer_11 : decode cL_summer 11 = .ok (.lastore, 1) := by decide +kernel
theorem dL_summer_12 : decode cL_summer 12 = .ok (.goto 11, 3) := by decide +kernel
theorem dL_summer_15 : decode cL_summer 15 = .ok (.astore 5, 2) := by decide +kernel
theorem dL_summer_17 : decode cL_summer 17 = .ok (.iconst 1, 1) := by decide +kernel
theorem dL_summer_18 : decode cL_summer 18 = .ok (.ireturn, 1) := by decide +kernel
theorem dL_summer_19 : decode cL_summer 19 = .ok (.astore 5, 2) := by decide +kernel
theorem dL_summer_21 : decode cL_summer 21 = .ok (.iconst 2, 1) := by decide +kernel
theorem dL_summer_22 : decode cL_summer 22 = .ok (.ireturn, 1) := by decide +kernel
theorem dL_summer_23 : decode cL_summer 23 = .ok (.iconst 0, 1) := by decide +kernel
theorem dL_summer_24 : decode cL_summer 24 = .ok (.ireturn, 1) := by decide +kernel
theorem dL_law_0 : decode cL_law 0 = .ok (.new 8, 3) := by decide +kernel
theorem dL_law_3 : decode cL_law 3 = .ok (.dup, 1) := by decide +kernel
theorem dL_law_4 : decode cL_law 4 = .ok (.invokespecial 99, 3) := by decide +kernel
theorem dL_law_7 : decode cL_law 7 = .ok (.astore_n 1, 1) := by decide +kernel
theorem dL_law_8 : decode cL_law 8 = .ok (.new 100, 3) := by decide +kernel
theorem dL_law_11 : decode cL_law 11 = .ok (.dup, 1) := by decide +kernel
theorem dL_law_12 : decode cL_law 12 = .ok (.invokespecial 102, 3) := by decide +kernel
theorem dL_law_15 : decode cL_law 15 = .ok (.astore_n 2, 1) := by decide +kernel
theorem dL_law_16 : decode cL_law 16 = .ok (.iconst 1, 1) := by decide +kernel
theorem dL_law_17 : decode cL_law 17 = .ok (.newarray .long, 2) := by decide +kernel
theorem dL_law_19 : decode cL_law 19 = .ok (.astore_n 3, 1) := by decide +kernel
theorem dL_law_20 : decode cL_law 20 = .ok (.iconst 0, 1) := by decide +kernel
theorem dL_law_21 : decode cL_law 21 = .ok (.istore 4, 2) := by decide +kernel
theorem dL_law_23 : decode cL_law 23 = .ok (.iload 4, 2) := by decide +kernel
theorem dL_law_25 : decode cL_law 25 = .ok (.aload_n 0, 1) := by decide +kernel
theorem dL_law_26 : decode cL_law 26 = .ok (.arraylength, 1) := by decide +kernel
theorem dL_law_27 : decode cL_law 27 = .ok (.bipush 6, 2) := by decide +kernel
theorem dL_law_29 : decode cL_law 29 = .ok (.isub, 1) := by decide +kernel
theorem dL_law_30 : decode cL_law 30 = .ok (.if_icmp .gt 2146, 3) := by decide +kernel
theorem dL_law_33 : decode cL_law 33 = .ok (.aload_n 0, 1) := by decide +kernel
theorem dL_law_34 : decode cL_law 34 = .ok (.iload 4, 2) := by decide +kernel
theorem dL_law_36 : decode cL_law 36 = .ok (.iaload, 1) := by decide +kernel
theorem dL_law_37 : decode cL_law 37 = .ok (.bipush 63, 2) := by decide +kernel
theorem dL_law_39 : decode cL_law 39 = .ok (.iand, 1) := by decide +kernel
theorem dL_law_40 : decode cL_law 40 = .ok (.tableswitch 2130 0 38 #[172, 245, 301, 314, 370, 438, 506, 581, 606, 674, 730, 798, 901, 914, 994, 1007, 1063, 1119, 1175, 1231, 1244, 1300, 1356, 1369, 1382, 1438, 1506, 1519, 1575, 1631, 1687, 1743, 1823, 1879, 1935, 1946, 2026, 2106, 2117], 172) := by decide +kernel
theorem dL_law_212 : decode cL_law 212 = .ok (.aload_n 1, 1) := by decide +kernel
theorem dL_law_213 : decode cL_law 213 = .ok (.aload_n 0, 1) := by decide +kernel
theorem dL_law_214 : decode cL_law 214 = .ok (.iload 4, 2) := by decide +kernel
theorem dL_law_216 : decode cL_law 216 = .ok (.iconst 1, 1) := by decide +kernel
theorem dL_law_217 : decode cL_law 217 = .ok (.iadd, 1) := by decide +kernel
theorem dL_law_218 : decode cL_law 218 = .ok (.iaload, 1) := by decide +kernel
theorem dL_law_219 : decode cL_law 219 = .ok (.aload_n 0, 1) := by decide +kernel
theorem dL_law_220 : decode cL_law 220 = .ok (.iload 4, 2) := by decide +kernel
theorem dL_law_222 : decode cL_law 222 = .ok (.iconst 2, 1) := by decide +kernel
theorem dL_law_223 : decode cL_law 223 = .ok (.iadd, 1) := by decide +kernel
theorem dL_law_224 : decode cL_law 224 = .ok (.iaload, 1) := by decide +kernel
theorem dL_law_225 : decode cL_law 225 = .ok (.aload_n 0, 1) := by decide +kernel
theorem dL_law_226 : decode cL_law 226 = .ok (.iload 4, 2) := by decide +kernel
theorem dL_law_228 : decode cL_law 228 = .ok (.iconst 3, 1) := by decide +kernel
theorem dL_law_229 : decode cL_law 229 = .ok (.iadd, 1) := by decide +kernel
theorem dL_law_230 : decode cL_law 230 = .ok (.iaload, 1) := by decide +kernel
theorem dL_law_231 : decode cL_law 231 = .ok (.aload_n 0, 1) := by decide +kernel
theorem dL_law_232 : decode cL_law 232 = .ok (.iload 4, 2) := by decide +kernel
theorem dL_law_234 : decode cL_law 234 = .ok (.iconst 4, 1) := by decide +kernel
theorem dL_law_235 : decode cL_law 235 = .ok (.iadd, 1) := by decide +kernel
theorem dL_law_236 : decode cL_law 236 = .ok (.iaload, 1) := by decide +kernel
theorem dL_law_237 : decode cL_law 237 = .ok (.aload_n 0, 1) := by decide +kernel
theorem dL_law_238 : decode cL_law 238 = .ok (.iload 4, 2) := by decide +kernel
theorem dL_law_240 : decode cL_law 240 = .ok (.iconst 5, 1) := by decide +kernel
theorem dL_law_241 : decode cL_law 241 = .ok (.iadd, 1) := by decide +kernel
theorem dL_law_242 : decode cL_law 242 = .ok (.iaload, 1) := by decide +kernel
theorem dL_law_243 : decode cL_law 243 = .ok (.invokevirtual 103, 3) := by decide +kernel
theorem dL_law_246 : decode cL_law 246 = .ok (.aload_n 2, 1) := by decide +kernel
theorem dL_law_247 : decode cL_law 247 = .ok (.aload_n 0, 1) := by decide +kernel
theorem dL_law_248 : decode cL_law 248 = .ok (.iload 4, 2) := by decide +kernel
theorem dL_law_250 : decode cL_law 250 = .ok (.iconst 1, 1) := by decide +kernel
theorem dL_law_251 : decode cL_law 251 = .ok (.iadd, 1) := by decide +kernel
theorem dL_law_252 : decode cL_law 252 = .ok (.iaload, 1) := by decide +kernel
theorem dL_law_253 : decode cL_law 253 = .ok (.aload_n 0, 1) := by decide +kernel
theorem dL_law_254 : decode cL_law 254 = .ok (.iload 4, 2) := by decide +kernel
theorem dL_law_256 : decode cL_law 256 = .ok (.iconst 2, 1) := by decide +kernel
theorem dL_law_257 : decode cL_law 257 = .ok (.iadd, 1) := by decide +kernel
theorem dL_law_258 : decode cL_law 258 = .ok (.iaload, 1) := by decide +kernel
theorem dL_law_259 : decode cL_law 259 = .ok (.aload_n 0, 1) := by decide +kernel
theorem dL_law_260 : decode cL_law 260 = .ok (.iload 4, 2) := by decide +kernel
theorem dL_law_262 : decode cL_law 262 = .ok (.iconst 3, 1) := by decide +kernel
theorem dL_law_263 : decode cL_law 263 = .ok (.iadd, 1) := by decide +kernel
theorem dL_law_264 : decode cL_law 264 = .ok (.iaload, 1) := by decide +kernel
theorem dL_law_265 : decode cL_law 265 = .ok (.aload_n 0, 1) := by decide +kernel
theorem dL_law_266 : decode cL_law 266 = .ok (.iload 4, 2) := by decide +kernel
theorem dL_law_268 : decode cL_law 268 = .ok (.iconst 4, 1) := by decide +kernel
theorem dL_law_269 : decode cL_law 269 = .ok (.iadd, 1) := by decide +kernel
theorem dL_law_270 : decode cL_law 270 = .ok (.iaload, 1) := by decide +kernel
theorem dL_law_271 : decode cL_law 271 = .ok (.aload_n 0, 1) := by decide +kernel
theorem dL_law_272 : decode cL_law 272 = .ok (.iload 4, 2) := by decide +kernel
theorem dL_law_274 : decode cL_law 274 = .ok (.iconst 5, 1) := by decide +kernel
theorem dL_law_275 : decode cL_law 275 = .ok (.iadd, 1) := by decide +kernel
theorem dL_law_276 : decode cL_law 276 = .ok (.iaload, 1) := by decide +kernel
theorem dL_law_277 : decode cL_law 277 = .ok (.invokevirtual 107, 3) := by decide +kernel
theorem dL_law_280 : decode cL_law 280 = .ok (.if_icmp .eq 1890, 3) := by decide +kernel
theorem dL_law_283 : decode cL_law 283 = .ok (.iconst 0, 1) := by decide +kernel
theorem dL_law_284 : decode cL_law 284 = .ok (.ireturn, 1) := by decide +kernel
theorem dL_law_285 : decode cL_law 285 = .ok (.aload_n 1, 1) := by decide +kernel
theorem dL_law_286 : decode cL_law 286 = .ok (.aload_n 0, 1) := by decide +kernel
theorem dL_law_287 : decode cL_law 287 = .ok (.iload 4, 2) := by decide +kernel
theorem dL_law_289 : decode cL_law 289 = .ok (.iconst 1, 1) := by decide +kernel
theorem dL_law_290 : decode cL_law 290 = .ok (.iadd, 1) := by decide +kernel
theorem dL_law_291 : decode cL_law 291 = .ok (.iaload, 1) := by decide +kernel
theorem dL_law_292 : decode cL_law 292 = .ok (.aload_n 3, 1) := by decide +kernel
theorem dL_law_293 : decode cL_law 293 = .ok (.invokestatic 108, 3) := by decide +kernel
theorem dL_law_296 : decode cL_law 296 = .ok (.istore 5, 2) := by decide +kernel
theorem dL_law_298 : decode cL_law 298 = .ok (.aload_n 2, 1) := by decide +kernel
theorem dL_law_299 : decode cL_law 299 = .ok (.aload_n 0, 1) := by decide +kernel
theorem dL_law_300 : decode cL_law 300 = .ok (.iload 4, 2) := by decide +kernel
theorem dL_law_302 : decode cL_law 302 = .ok (.iconst 1, 1) := by decide +kernel
theorem dL_law_303 : decode cL_law 303 = .ok (.iadd, 1) := by decide +kernel
theorem dL_law_304 : decode cL_law 304 = .ok (.iaload, 1) := by decide +kernel
theorem dL_law_305 : decode cL_law 305 = .ok (.invokevirtual 113, 3) := by decide +kernel
theorem dL_law_308 : decode cL_law 308 = .ok (.istore 6, 2) := by decide +kernel
theorem dL_law_310 : decode cL_law 310 = .ok (.aload_n 2, 1) := by decide +kernel
theorem dL_law_311 : decode cL_law 311 = .ok (.invokevirtual 114, 3) := by decide +kernel
theorem dL_law_314 : decode cL_law 314 = .ok (.iload 5, 2) := by decide +kernel
theorem dL_law_316 : decode cL_law 316 = .ok (.if_icmp .eq 5, 3) := by decide +kernel
theorem dL_law_319 : decode cL_law 319 = .ok (.iconst 0, 1) := by decide +kernel
theorem dL_law_320 : decode cL_law 320 = .ok (.ireturn, 1) := by decide +kernel
theorem dL_law_321 : decode cL_law 321 = .ok (.iload 5, 2) := by decide +kernel
theorem dL_law_323 : decode cL_law 323 = .ok (.ifCond .ne 15, 3) := by decide +kernel
theorem dL_law_326 : decode cL_law 326 = .ok (.aload_n 3, 1) := by decide +kernel
theorem dL_law_327 : decode cL_law 327 = .ok (.iconst 0, 1) := by decide +kernel
theorem dL_law_328 : decode cL_law 328 = .ok (.laload, 1) := by decide +kernel
theorem dL_law_329 : decode cL_law 329 = .ok (.iload 6, 2) := by decide +kernel
theorem dL_law_331 : decode cL_law 331 = .ok (.i2l, 1) := by decide +kernel
theorem dL_law_332 : decode cL_law 332 = .ok (.lcmp, 1) := by decide +kernel
theorem dL_law_333 : decode cL_law 333 = .ok (.ifCond .eq 5, 3) := by decide +kernel
theorem dL_law_336 : decode cL_law 336 = .ok (.iconst 0, 1) := by decide +kernel
theorem dL_law_337 : decode cL_law 337 = .ok (.ireturn, 1) := by decide +kernel
theorem dL_law_338 : decode cL_law 338 = .ok (.goto 1832, 3) := by decide +kernel
theorem dL_law_341 : decode cL_law 341 = .ok (.aload_n 1, 1) := by decide +kernel
theorem dL_law_342 : decode cL_law 342 = .ok (.invokevirtual 118, 3) := by decide +kernel
theorem dL_law_345 : decode cL_law 345 = .ok (.aload_n 2, 1) := by decide +kernel
theorem dL_law_346 : decode cL_law 346 = .ok (.invokevirtual 121, 3) := by decide +kernel
theorem dL_law_349 : decode cL_law 349 = .ok (.if_icmp .eq 1821, 3) := by decide +kernel
theorem dL_law_352 : decode cL_law 352 = .ok (.iconst 0, 1) := by decide +kernel
theorem dL_law_353 : decode cL_law 353 = .ok (.ireturn, 1) := by decide +kernel
theorem dL_law_354 : decode cL_law 354 = .ok (.aload_n 1, 1) := by decide +kernel
theorem dL_law_355 : decode cL_law 355 = .ok (.aload_n 0, 1) := by decide +kernel
theorem dL_law_356 : decode cL_law 356 = .ok (.iload 4, 2) := by decide +kernel
theorem dL_law_358 : decode cL_law 358 = .ok (.iconst 1, 1) := by decide +kernel
theorem dL_law_359 : decode cL_law 359 = .ok (.iadd, 1) := by decide +kernel
theorem dL_law_360 : decode cL_law 360 = .ok (.iaload, 1) := by decide +kernel
theorem dL_law_361 : decode cL_law 361 = .ok (.aload_n 3, 1) := by decide +kernel
theorem dL_law_362 : decode cL_law 362 = .ok (.invokestatic 122, 3) := by decide +kernel
theorem dL_law_365 : decode cL_law 365 = .ok (.istore 5, 2) := by decide +kernel
theorem dL_law_367 : decode cL_law 367 = .ok (.aload_n 2, 1) := by decide +kernel
theorem dL_law_368 : decode cL_law 368 = .ok (.aload_n 0, 1) := by decide +kernel
theorem dL_law_369 : decode cL_law 369 = .ok (.iload 4, 2) := by decide +kernel
theorem dL_law_371 : decode cL_law 371 = .ok (.iconst 1, 1) := by decide +kernel
theorem dL_law_372 : decode cL_law 372 = .ok (.iadd, 1) := by decide +kernel
theorem dL_law_373 : decode cL_law 373 = .ok (.iaload, 1) := by decide +kernel
theorem dL_law_374 : decode cL_law 374 = .ok (.invokevirtual 124, 3) := by decide +kernel
theorem dL_law_377 : decode cL_law 377 = .ok (.istore 6, 2) := by decide +kernel
theorem dL_law_379 : decode cL_law 379 = .ok (.aload_n 2, 1) := by decide +kernel
theorem dL_law_380 : decode cL_law 380 = .ok (.invokevirtual 114, 3) := by decide +kernel
theorem dL_law_383 : decode cL_law 383 = .ok (.iload 5, 2) := by decide +kernel
theorem dL_law_385 : decode cL_law 385 = .ok (.if_icmp .eq 5, 3) := by decide +kernel
theorem dL_law_388 : decode cL_law 388 = .ok (.iconst 0, 1) := by decide +kernel
theorem dL_law_389 : decode cL_law 389 = .ok (.ireturn, 1) := by decide +kernel
theorem dL_law_390 : decode cL_law 390 = .ok (.iload 5, 2) := by decide +kernel
theorem dL_law_392 : decode cL_law 392 = .ok (.ifCond .ne 15, 3) := by decide +kernel
theorem dL_law_395 : decode cL_law 395 = .ok (.aload_n 3, 1) := by decide +kernel
theorem dL_law_396 : decode cL_law 396 = .ok (.iconst 0, 1) := by decide +kernel
theorem dL_law_397 : decode cL_law 397 = .ok (.laload, 1) := by decide +kernel
theorem dL_law_398 : decode cL_law 398 = .ok (.iload 6, 2) := by decide +kernel
theorem dL_law_400 : decode cL_law 400 = .ok (.i2l, 1) := by decide +kernel
theorem dL_law_401 : decode cL_law 401 = .ok (.lcmp, 1) := by decide +kernel
theorem dL_law_402 : decode cL_law 402 = .ok (.ifCond .eq 5, 3) := by decide +kernel
theorem dL_law_405 : decode cL_law 405 = .ok (.iconst 0, 1) := by decide +kernel
theorem dL_law_406 : decode cL_law 406 = .ok (.ireturn, 1) := by decide +kernel
theorem dL_law_407 : decode cL_law 407 = .ok (.goto 1763, 3) := by decide +kernel
theorem dL_law_410 : decode cL_law 410 = .ok (.aload_n 1, 1) := by decide +kernel
theorem dL_law_411 : decode cL_law 411 = .ok (.aload_n 0, 1) := by decide +kernel
theorem dL_law_412 : decode cL_law 412 = .ok (.iload 4, 2) := by decide +kernel
theorem dL_law_414 : decode cL_law 414 = .ok (.iconst 1, 1) := by decide +kernel
theorem dL_law_415 : decode cL_law 415 = .ok (.iadd, 1) := by decide +kernel
theorem dL_law_416 : decode cL_law 416 = .ok (.iaload, 1) := by decide +kernel
theorem dL_law_417 : decode cL_law 417 = .ok (.aload_n 0, 1) := by decide +kernel
theorem dL_law_418 : decode cL_law 418 = .ok (.iload 4, 2) := by decide +kernel
theorem dL_law_420 : decode cL_law 420 = .ok (.iconst 2, 1) := by decide +kernel
theorem dL_law_421 : decode cL_law 421 = .ok (.iadd, 1) := by decide +kernel
theorem dL_law_422 : decode cL_law 422 = .ok (.iaload, 1) := by decide +kernel
theorem dL_law_423 : decode cL_law 423 = .ok (.aload_n 3, 1) := by decide +kernel
theorem dL_law_424 : decode cL_law 424 = .ok (.invokestatic 125, 3) := by decide +kernel
theorem dL_law_427 : decode cL_law 427 = .ok (.istore 5, 2) := by decide +kernel
theorem dL_law_429 : decode cL_law 429 = .ok (.aload_n 2, 1) := by decide +kernel
theorem dL_law_430 : decode cL_law 430 = .ok (.aload_n 0, 1) := by decide +kernel
theorem dL_law_431 : decode cL_law 431 = .ok (.iload 4, 2) := by decide +kernel
theorem dL_law_433 : decode cL_law 433 = .ok (.iconst 1, 1) := by decide +kernel
theorem dL_law_434 : decode cL_law 434 = .ok (.iadd, 1) := by decide +kernel
theorem dL_law_435 : decode cL_law 435 = .ok (.iaload, 1) := by decide +kernel
theorem dL_law_436 : decode cL_law 436 = .ok (.aload_n 0, 1) := by decide +kernel
theorem dL_law_437 : decode cL_law 437 = .ok (.iload 4, 2) := by decide +kernel
theorem dL_law_439 : decode cL_law 439 = .ok (.iconst 2, 1) := by decide +kernel
theorem dL_law_440 : decode cL_law 440 = .ok (.iadd, 1) := by decide +kernel
theorem dL_law_441 : decode cL_law 441 = .ok (.iaload, 1) := by decide +kernel
theorem dL_law_442 : decode cL_law 442 = .ok (.invokevirtual 128, 3) := by decide +kernel
theorem dL_law_445 : decode cL_law 445 = .ok (.istore 6, 2) := by decide +kernel
theorem dL_law_447 : decode cL_law 447 = .ok (.aload_n 2, 1) := by decide +kernel
theorem dL_law_448 : decode cL_law 448 = .ok (.invokevirtual 114, 3) := by decide +kernel
theorem dL_law_451 : decode cL_law 451 = .ok (.iload 5, 2) := by decide +kernel
theorem dL_law_453 : decode cL_law 453 = .ok (.if_icmp .eq 5, 3) := by decide +kernel
theorem dL_law_456 : decode cL_law 456 = .ok (.iconst 0, 1) := by decide +kernel
theorem dL_law_457 : decode cL_law 457 = .ok (.ireturn, 1) := by decide +kernel
theorem dL_law_458 : decode cL_law 458 = .ok (.iload 5, 2) := by decide +kernel
theorem dL_law_460 : decode cL_law 460 = .ok (.ifCond .ne 15, 3) := by decide +kernel
theorem dL_law_463 : decode cL_law 463 = .ok (.aload_n 3, 1) := by decide +kernel
theorem dL_law_464 : decode cL_law 464 = .ok (.iconst 0, 1) := by decide +kernel
theorem dL_law_465 : decode cL_law 465 = .ok (.laload, 1) := by decide +kernel
theorem dL_law_466 : decode cL_law 466 = .ok (.iload 6, 2) := by decide +kernel
theorem dL_law_468 : decode cL_law 468 = .ok (.i2l, 1) := by decide +kernel
theorem dL_law_469 : decode cL_law 469 = .ok (.lcmp, 1) := by decide +kernel
theorem dL_law_470 : decode cL_law 470 = .ok (.ifCond .eq 5, 3) := by decide +kernel
theorem dL_law_473 : decode cL_law 473 = .ok (.iconst 0, 1) := by decide +kernel
theorem dL_law_474 : decode cL_law 474 = .ok (.ireturn, 1) := by decide +kernel
theorem dL_law_475 : decode cL_law 475 = .ok (.goto 1695, 3) := by decide +kernel
theorem dL_law_478 : decode cL_law 478 = .ok (.aload_n 1, 1) := by decide +kernel
theorem dL_law_479 : decode cL_law 479 = .ok (.aload_n 0, 1) := by decide +kernel
theorem dL_law_480 : decode cL_law 480 = .ok (.iload 4, 2) := by decide +kernel
theorem dL_law_482 : decode cL_law 482 = .ok (.iconst 1, 1) := by decide +kernel
theorem dL_law_483 : decode cL_law 483 = .ok (.iadd, 1) := by decide +kernel
theorem dL_law_484 : decode cL_law 484 = .ok (.iaload, 1) := by decide +kernel
theorem dL_law_485 : decode cL_law 485 = .ok (.aload_n 0, 1) := by decide +kernel
theorem dL_law_486 : decode cL_law 486 = .ok (.iload 4, 2) := by decide +kernel
theorem dL_law_488 : decode cL_law 488 = .ok (.iconst 2, 1) := by decide +kernel
theorem dL_law_489 : decode cL_law 489 = .ok (.iadd, 1) := by decide +kernel
theorem dL_law_490 : decode cL_law 490 = .ok (.iaload, 1) := by decide +kernel
theorem dL_law_491 : decode cL_law 491 = .ok (.aload_n 3, 1) := by decide +kernel
theorem dL_law_492 : decode cL_law 492 = .ok (.invokestatic 129, 3) := by decide +kernel
theorem dL_law_495 : decode cL_law 495 = .ok (.istore 5, 2) := by decide +kernel
theorem dL_law_497 : decode cL_law 497 = .ok (.aload_n 2, 1) := by decide +kernel
theorem dL_law_498 : decode cL_law 498 = .ok (.aload_n 0, 1) := by decide +kernel
theorem dL_law_499 : decode cL_law 499 = .ok (.iload 4, 2) := by decide +kernel
theorem dL_law_501 : decode cL_law 501 = .ok (.iconst 1, 1) := by decide +kernel
theorem dL_law_502 : decode cL_law 502 = .ok (.iadd, 1) := by decide +kernel
theorem dL_law_503 : decode cL_law 503 = .ok (.iaload, 1) := by decide +kernel
theorem dL_law_504 : decode cL_law 504 = .ok (.aload_n 0, 1) := by decide +kernel
theorem dL_law_505 : decode cL_law 505 = .ok (.iload 4, 2) := by decide +kernel
theorem dL_law_507 : decode cL_law 507 = .ok (.iconst 2, 1) := by decide +kernel
theorem dL_law_508 : decode cL_law 508 = .ok (.iadd, 1) := by decide +kernel
theorem dL_law_509 : decode cL_law 509 = .ok (.iaload, 1) := by decide +kernel
theorem dL_law_510 : decode cL_law 510 = .ok (.invokevirtual 131, 3) := by decide +kernel
theorem dL_law_513 : decode cL_law 513 = .ok (.istore 6, 2) := by decide +kernel
theorem dL_law_515 : decode cL_law 515 = .ok (.aload_n 2, 1) := by decide +kernel
theorem dL_law_516 : decode cL_law 516 = .ok (.invokevirtual 114, 3) := by decide +kernel
theorem dL_law_519 : decode cL_law 519 = .ok (.iload 5, 2) := by decide +kernel
theorem dL_law_521 : decode cL_law 521 = .ok (.if_icmp .eq 5, 3) := by decide +kernel
theorem dL_law_524 : decode cL_law 524 = .ok (.iconst 0, 1) := by decide +kernel
theorem dL_law_525 : decode cL_law 525 = .ok (.ireturn, 1) := by decide +kernel
theorem dL_law_526 : decode cL_law 526 = .ok (.iload 5, 2) := by decide +kernel
theorem dL_law_528 : decode cL_law 528 = .ok (.ifCond .ne 15, 3) := by decide +kernel
theorem dL_law_531 : decode cL_law 531 = .ok (.aload_n 3, 1) := by decide +kernel
theorem dL_law_532 : decode cL_law 532 = .ok (.iconst 0, 1) := by decide +kernel
theorem dL_law_533 : decode cL_law 533 = .ok (.laload, 1) := by decide +kernel
theorem dL_law_534 : decode cL_law 534 = .ok (.iload 6, 2) := by decide +kernel
theorem dL_law_536 : decode cL_law 536 = .ok (.i2l, 1) := by decide +kernel
theorem dL_law_537 : decode cL_law 537 = .ok (.lcmp, 1) := by decide +kernel
theorem dL_law_538 : decode cL_law 538 = .ok (.ifCond .eq 5, 3) := by decide +kernel
theorem dL_law_541 : decode cL_law 541 = .ok (.iconst 0, 1) := by decide +kernel
theorem dL_law_542 : decode cL_law 542 = .ok (.ireturn, 1) := by decide +kernel
theorem dL_law_543 : decode cL_law 543 = .ok (.goto 1627, 3) := by decide +kernel
theorem dL_law_546 : decode cL_law 546 = .ok (.aload_n 1, 1) := by decide +kernel
theorem dL_law_547 : decode cL_law 547 = .ok (.aload_n 0, 1) := by decide +kernel
theorem dL_law_548 : decode cL_law 548 = .ok (.iload 4, 2) := by decide +kernel
theorem dL_law_550 : decode cL_law 550 = .ok (.iconst 1, 1) := by decide +kernel
theorem dL_law_551 : decode cL_law 551 = .ok (.iadd, 1) := by decide +kernel
theorem dL_law_552 : decode cL_law 552 = .ok (.iaload, 1) := by decide +kernel
theorem dL_law_553 : decode cL_law 553 = .ok (.aload_n 0, 1) := by decide +kernel
theorem dL_law_554 : decode cL_law 554 = .ok (.iload 4, 2) := by decide +kernel
theorem dL_law_556 : decode cL_law 556 = .ok (.iconst 2, 1) := by decide +kernel
theorem dL_law_557 : decode cL_law 557 = .ok (.iadd, 1) := by decide +kernel
theorem dL_law_558 : decode cL_law 558 = .ok (.iaload, 1) := by decide +kernel
theorem dL_law_559 : decode cL_law 559 = .ok (.aload_n 3, 1) := by decide +kernel
theorem dL_law_560 : decode cL_law 560 = .ok (.invokestatic 132, 3) := by decide +kernel
theorem dL_law_563 : decode cL_law 563 = .ok (.istore 5, 2) := by decide +kernel
theorem dL_law_565 : decode cL_law 565 = .ok (.aload_n 2, 1) := by decide +kernel
theorem dL_law_566 : decode cL_law 566 = .ok (.aload_n 0, 1) := by decide +kernel
theorem dL_law_567 : decode cL_law 567 = .ok (.iload 4, 2) := by decide +kernel
theorem dL_law_569 : decode cL_law 569 = .ok (.iconst 1, 1) := by decide +kernel
theorem dL_law_570 : decode cL_law 570 = .ok (.iadd, 1) := by decide +kernel
theorem dL_law_571 : decode cL_law 571 = .ok (.iaload, 1) := by decide +kernel
theorem dL_law_572 : decode cL_law 572 = .ok (.aload_n 0, 1) := by decide +kernel
theorem dL_law_573 : decode cL_law 573 = .ok (.iload 4, 2) := by decide +kernel
theorem dL_law_575 : decode cL_law 575 = .ok (.iconst 2, 1) := by decide +kernel
theorem dL_law_576 : decode cL_law 576 = .ok (.iadd, 1) := by decide +kernel
theorem dL_law_577 : decode cL_law 577 = .ok (.iaload, 1) := by decide +kernel
theorem dL_law_578 : decode cL_law 578 = .ok (.invokevirtual 134, 3) := by decide +kernel
theorem dL_law_581 : decode cL_law 581 = .ok (.istore 6, 2) := by decide +kernel
theorem dL_law_583 : decode cL_law 583 = .ok (.aload_n 2, 1) := by decide +kernel
theorem dL_law_584 : decode cL_law 584 = .ok (.invokevirtual 114, 3) := by decide +kernel
theorem dL_law_587 : decode cL_law 587 = .ok (.iload 5, 2) := by decide +kernel
theorem dL_law_589 : decode cL_law 589 = .ok (.if_icmp .eq 5, 3) := by decide +kernel
theorem dL_law_592 : decode cL_law 592 = .ok (.iconst 0, 1) := by decide +kernel
theorem dL_law_593 : decode cL_law 593 = .ok (.ireturn, 1) := by decide +kernel
theorem dL_law_594 : decode cL_law 594 = .ok (.iload 5, 2) := by decide +kernel
theorem dL_law_596 : decode cL_law 596 = .ok (.ifCond .ne 22, 3) := by decide +kernel
theorem dL_law_599 : decode cL_law 599 = .ok (.aload_n 3, 1) := by decide +kernel
theorem dL_law_600 : decode cL_law 600 = .ok (.iconst 0, 1) := by decide +kernel
theorem dL_law_601 : decode cL_law 601 = .ok (.laload, 1) := by decide +kernel
theorem dL_law_602 : decode cL_law 602 = .ok (.iload 6, 2) := by decide +kernel
theorem dL_law_604 : decode cL_law 604 = .ok (.ifCond .eq 7, 3) := by decide +kernel
theorem dL_law_607 : decode cL_law 607 = .ok (.lconst 1, 1) := by decide +kernel
theorem dL_law_608 : decode cL_law 608 = .ok (.goto 4, 3) := by decide +kernel
theorem dL_law_611 : decode cL_law 611 = .ok (.lconst 0, 1) := by decide +kernel
theorem dL_law_612 : decode cL_law 612 = .ok (.lcmp, 1) := by decide +kernel
theorem dL_law_613 : decode cL_law 613 = .ok (.ifCond .eq 5, 3) := by decide +kernel
theorem dL_law_616 : decode cL_law 616 = .ok (.iconst 0, 1) := by decide +kernel
theorem dL_law_617 : decode cL_law 617 = .ok (.ireturn, 1) := by decide +kernel
theorem dL_law_618 : decode cL_law 618 = .ok (.goto 1552, 3) := by decide +kernel
theorem dL_law_621 : decode cL_law 621 = .ok (.aload_n 1, 1) := by decide +kernel
theorem dL_law_622 : decode cL_law 622 = .ok (.aload_n 0, 1) := by decide +kernel
theorem dL_law_623 : decode cL_law 623 = .ok (.iload 4, 2) := by decide +kernel
theorem dL_law_625 : decode cL_law 625 = .ok (.iconst 1, 1) := by decide +kernel
theorem dL_law_626 : decode cL_law 626 = .ok (.iadd, 1) := by decide +kernel
theorem dL_law_627 : decode cL_law 627 = .ok (.iaload, 1) := by decide +kernel
theorem dL_law_628 : decode cL_law 628 = .ok (.invokevirtual 135, 3) := by decide +kernel
theorem dL_law_631 : decode cL_law 631 = .ok (.aload_n 2, 1) := by decide +kernel
theorem dL_law_632 : decode cL_law 632 = .ok (.aload_n 0, 1) := by decide +kernel
theorem dL_law_633 : decode cL_law 633 = .ok (.iload 4, 2) := by decide +kernel
theorem dL_law_635 : decode cL_law 635 = .ok (.iconst 1, 1) := by decide +kernel
theorem dL_law_636 : decode cL_law 636 = .ok (.iadd, 1) := by decide +kernel
theorem dL_law_637 : decode cL_law 637 = .ok (.iaload, 1) := by decide +kernel
theorem dL_law_638 : decode cL_law 638 = .ok (.invokevirtual 138, 3) := by decide +kernel
theorem dL_law_641 : decode cL_law 641 = .ok (.if_icmp .eq 1529, 3) := by decide +kernel
theorem dL_law_644 : decode cL_law 644 = .ok (.iconst 0, 1) := by decide +kernel
theorem dL_law_645 : decode cL_law 645 = .ok (.ireturn, 1) := by decide +kernel
theorem dL_law_646 : decode cL_law 646 = .ok (.aload_n 1, 1) := by decide +kernel
theorem dL_law_647 : decode cL_law 647 = .ok (.aload_n 0, 1) := by decide +kernel
theorem dL_law_648 : decode cL_law 648 = .ok (.iload 4, 2) := by decide +kernel
theorem dL_law_650 : decode cL_law 650 = .ok (.iconst 1, 1) := by decide +kernel
theorem dL_law_651 : decode cL_law 651 = .ok (.iadd, 1) := by decide +kernel
theorem dL_law_652 : decode cL_law 652 = .ok (.iaload, 1) := by decide +kernel
theorem dL_law_653 : decode cL_law 653 = .ok (.aload_n 0, 1) := by decide +kernel
theorem dL_law_654 : decode cL_law 654 = .ok (.iload 4, 2) := by decide +kernel
theorem dL_law_656 : decode cL_law 656 = .ok (.iconst 2, 1) := by decide +kernel
theorem dL_law_657 : decode cL_law 657 = .ok (.iadd, 1) := by decide +kernel
theorem dL_law_658 : decode cL_law 658 = .ok (.iaload, 1) := by decide +kernel
theorem dL_law_659 : decode cL_law 659 = .ok (.aload_n 3, 1) := by decide +kernel
theorem dL_law_660 : decode cL_law 660 = .ok (.invokestatic 139, 3) := by decide +kernel
theorem dL_law_663 : decode cL_law 663 = .ok (.istore 5, 2) := by decide +kernel
theorem dL_law_665 : decode cL_law 665 = .ok (.aload_n 2, 1) := by decide +kernel
theorem dL_law_666 : decode cL_law 666 = .ok (.aload_n 0, 1) := by decide +kernel
theorem dL_law_667 : decode cL_law 667 = .ok (.iload 4, 2) := by decide +kernel
theorem dL_law_669 : decode cL_law 669 = .ok (.iconst 1, 1) := by decide +kernel
theorem dL_law_670 : decode cL_law 670 = .ok (.iadd, 1) := by decide +kernel
theorem dL_law_671 : decode cL_law 671 = .ok (.iaload, 1) := by decide +kernel
theorem dL_law_672 : decode cL_law 672 = .ok (.aload_n 0, 1) := by decide +kernel
theorem dL_law_673 : decode cL_law 673 = .ok (.iload 4, 2) := by decide +kernel
theorem dL_law_675 : decode cL_law 675 = .ok (.iconst 2, 1) := by decide +kernel
theorem dL_law_676 : decode cL_law 676 = .ok (.iadd, 1) := by decide +kernel
theorem dL_law_677 : decode cL_law 677 = .ok (.iaload, 1) := by decide +kernel
theorem dL_law_678 : decode cL_law 678 = .ok (.invokevirtual 141, 3) := by decide +kernel
theorem dL_law_681 : decode cL_law 681 = .ok (.istore 6, 2) := by decide +kernel
theorem dL_law_683 : decode cL_law 683 = .ok (.aload_n 2, 1) := by decide +kernel
theorem dL_law_684 : decode cL_law 684 = .ok (.invokevirtual 114, 3) := by decide +kernel
theorem dL_law_687 : decode cL_law 687 = .ok (.iload 5, 2) := by decide +kernel
theorem dL_law_689 : decode cL_law 689 = .ok (.if_icmp .eq 5, 3) := by decide +kernel
theorem dL_law_692 : decode cL_law 692 = .ok (.iconst 0, 1) := by decide +kernel
theorem dL_law_693 : decode cL_law 693 = .ok (.ireturn, 1) := by decide +kernel
theorem dL_law_694 : decode cL_law 694 = .ok (.iload 5, 2) := by decide +kernel
theorem dL_law_696 : decode cL_law 696 = .ok (.ifCond .ne 15, 3) := by decide +kernel
theorem dL_law_699 : decode cL_law 699 = .ok (.aload_n 3, 1) := by decide +kernel
theorem dL_law_700 : decode cL_law 700 = .ok (.iconst 0, 1) := by decide +kernel
theorem dL_law_701 : decode cL_law 701 = .ok (.laload, 1) := by decide +kernel
theorem dL_law_702 : decode cL_law 702 = .ok (.iload 6, 2) := by decide +kernel
theorem dL_law_704 : decode cL_law 704 = .ok (.i2l, 1) := by decide +kernel
theorem dL_law_705 : decode cL_law 705 = .ok (.lcmp, 1) := by decide +kernel
theorem dL_law_706 : decode cL_law 706 = .ok (.ifCond .eq 5, 3) := by decide +kernel
theorem dL_law_709 : decode cL_law 709 = .ok (.iconst 0, 1) := by decide +kernel
theorem dL_law_710 : decode cL_law 710 = .ok (.ireturn, 1) := by decide +kernel
theorem dL_law_711 : decode cL_law 711 = .ok (.goto 1459, 3) := by decide +kernel
theorem dL_law_714 : decode cL_law 714 = .ok (.aload_n 1, 1) := by decide +kernel
theorem dL_law_715 : decode cL_law 715 = .ok (.aload_n 0, 1) := by decide +kernel
theorem dL_law_716 : decode cL_law 716 = .ok (.iload 4, 2) := by decide +kernel
theorem dL_law_718 : decode cL_law 718 = .ok (.iconst 1, 1) := by decide +kernel
theorem dL_law_719 : decode cL_law 719 = .ok (.iadd, 1) := by decide +kernel
theorem dL_law_720 : decode cL_law 720 = .ok (.iaload, 1) := by decide +kernel
theorem dL_law_721 : decode cL_law 721 = .ok (.aload_n 3, 1) := by decide +kernel
theorem dL_law_722 : decode cL_law 722 = .ok (.invokestatic 142, 3) := by decide +kernel
theorem dL_law_725 : decode cL_law 725 = .ok (.istore 5, 2) := by decide +kernel
theorem dL_law_727 : decode cL_law 727 = .ok (.aload_n 2, 1) := by decide +kernel
theorem dL_law_728 : decode cL_law 728 = .ok (.aload_n 0, 1) := by decide +kernel
theorem dL_law_729 : decode cL_law 729 = .ok (.iload 4, 2) := by decide +kernel
theorem dL_law_731 : decode cL_law 731 = .ok (.iconst 1, 1) := by decide +kernel
theorem dL_law_732 : decode cL_law 732 = .ok (.iadd, 1) := by decide +kernel
theorem dL_law_733 : decode cL_law 733 = .ok (.iaload, 1) := by decide +kernel
theorem dL_law_734 : decode cL_law 734 = .ok (.invokevirtual 144, 3) := by decide +kernel
theorem dL_law_737 : decode cL_law 737 = .ok (.istore 6, 2) := by decide +kernel
theorem dL_law_739 : decode cL_law 739 = .ok (.aload_n 2, 1) := by decide +kernel
theorem dL_law_740 : decode cL_law 740 = .ok (.invokevirtual 114, 3) := by decide +kernel
theorem dL_law_743 : decode cL_law 743 = .ok (.iload 5, 2) := by decide +kernel
theorem dL_law_745 : decode cL_law 745 = .ok (.if_icmp .eq 5, 3) := by decide +kernel
theorem dL_law_748 : decode cL_law 748 = .ok (.iconst 0, 1) := by decide +kernel
theorem dL_law_749 : decode cL_law 749 = .ok (.ireturn, 1) := by decide +kernel
theorem dL_law_750 : decode cL_law 750 = .ok (.iload 5, 2) := by decide +kernel
theorem dL_law_752 : decode cL_law 752 = .ok (.ifCond .ne 15, 3) := by decide +kernel
theorem dL_law_755 : decode cL_law 755 = .ok (.aload_n 3, 1) := by decide +kernel
theorem dL_law_756 : decode cL_law 756 = .ok (.iconst 0, 1) := by decide +kernel
theorem dL_law_757 : decode cL_law 757 = .ok (.laload, 1) := by decide +kernel
theorem dL_law_758 : decode cL_law 758 = .ok (.iload 6, 2) := by decide +kernel
theorem dL_law_760 : decode cL_law 760 = .ok (.i2l, 1) := by decide +kernel
theorem dL_law_761 : decode cL_law 761 = .ok (.lcmp, 1) := by decide +kernel
theorem dL_law_762 : decode cL_law 762 = .ok (.ifCond .eq 5, 3) := by decide +kernel
theorem dL_law_765 : decode cL_law 765 = .ok (.iconst 0, 1) := by decide +kernel
theorem dL_law_766 : decode cL_law 766 = .ok (.ireturn, 1) := by decide +kernel
theorem dL_law_767 : decode cL_law 767 = .ok (.goto 1403, 3) := by decide +kernel
theorem dL_law_770 : decode cL_law 770 = .ok (.aload_n 1, 1) := by decide +kernel
theorem dL_law_771 : decode cL_law 771 = .ok (.aload_n 0, 1) := by decide +kernel
theorem dL_law_772 : decode cL_law 772 = .ok (.iload 4, 2) := by decide +kernel
theorem dL_law_774 : decode cL_law 774 = .ok (.iconst 1, 1) := by decide +kernel
theorem dL_law_775 : decode cL_law 775 = .ok (.iadd, 1) := by decide +kernel
theorem dL_law_776 : decode cL_law 776 = .ok (.iaload, 1) := by decide +kernel
theorem dL_law_777 : decode cL_law 777 = .ok (.aload_n 0, 1) := by decide +kernel
theorem dL_law_778 : decode cL_law 778 = .ok (.iload 4, 2) := by decide +kernel
theorem dL_law_780 : decode cL_law 780 = .ok (.iconst 2, 1) := by decide +kernel
theorem dL_law_781 : decode cL_law 781 = .ok (.iadd, 1) := by decide +kernel
theorem dL_law_782 : decode cL_law 782 = .ok (.iaload, 1) := by decide +kernel
theorem dL_law_783 : decode cL_law 783 = .ok (.aload_n 3, 1) := by decide +kernel
theorem dL_law_784 : decode cL_law 784 = .ok (.invokestatic 145, 3) := by decide +kernel
theorem dL_law_787 : decode cL_law 787 = .ok (.istore 5, 2) := by decide +kernel
theorem dL_law_789 : decode cL_law 789 = .ok (.aload_n 2, 1) := by decide +kernel
theorem dL_law_790 : decode cL_law 790 = .ok (.aload_n 0, 1) := by decide +kernel
theorem dL_law_791 : decode cL_law 791 = .ok (.iload 4, 2) := by decide +kernel
theorem dL_law_793 : decode cL_law 793 = .ok (.iconst 1, 1) := by decide +kernel
theorem dL_law_794 : decode cL_law 794 = .ok (.iadd, 1) := by decide +kernel
theorem dL_law_795 : decode cL_law 795 = .ok (.iaload, 1) := by decide +kernel
theorem dL_law_796 : decode cL_law 796 = .ok (.aload_n 0, 1) := by decide +kernel
theorem dL_law_797 : decode cL_law 797 = .ok (.iload 4, 2) := by decide +kernel
theorem dL_law_799 : decode cL_law 799 = .ok (.iconst 2, 1) := by decide +kernel
theorem dL_law_800 : decode cL_law 800 = .ok (.iadd, 1) := by decide +kernel
theorem dL_law_801 : decode cL_law 801 = .ok (.iaload, 1) := by decide +kernel
theorem dL_law_802 : decode cL_law 802 = .ok (.invokevirtual 147, 3) := by decide +kernel
theorem dL_law_805 : decode cL_law 805 = .ok (.istore 6, 2) := by decide +kernel
theorem dL_law_807 : decode cL_law 807 = .ok (.aload_n 2, 1) := by decide +kernel
theorem dL_law_808 : decode cL_law 808 = .ok (.invokevirtual 114, 3) := by decide +kernel
theorem dL_law_811 : decode cL_law 811 = .ok (.iload 5, 2) := by decide +kernel
theorem dL_law_813 : decode cL_law 813 = .ok (.if_icmp .eq 5, 3) := by decide +kernel
theorem dL_law_816 : decode cL_law 816 = .ok (.iconst 0, 1) := by decide +kernel
theorem dL_law_817 : decode cL_law 817 = .ok (.ireturn, 1) := by decide +kernel
theorem dL_law_818 : decode cL_law 818 = .ok (.iload 5, 2) := by decide +kernel
theorem dL_law_820 : decode cL_law 820 = .ok (.ifCond .ne 15, 3) := by decide +kernel
theorem dL_law_823 : decode cL_law 823 = .ok (.aload_n 3, 1) := by decide +kernel
theorem dL_law_824 : decode cL_law 824 = .ok (.iconst 0, 1) := by decide +kernel
theorem dL_law_825 : decode cL_law 825 = .ok (.laload, 1) := by decide +kernel
theorem dL_law_826 : decode cL_law 826 = .ok (.iload 6, 2) := by decide +kernel
theorem dL_law_828 : decode cL_law 828 = .ok (.i2l, 1) := by decide +kernel
theorem dL_law_829 : decode cL_law 829 = .ok (.lcmp, 1) := by decide +kernel
theorem dL_law_830 : decode cL_law 830 = .ok (.ifCond .eq 5, 3) := by decide +kernel
theorem dL_law_833 : decode cL_law 833 = .ok (.iconst 0, 1) := by decide +kernel
theorem dL_law_834 : decode cL_law 834 = .ok (.ireturn, 1) := by decide +kernel
theorem dL_law_835 : decode cL_law 835 = .ok (.goto 1335, 3) := by decide +kernel
theorem dL_law_838 : decode cL_law 838 = .ok (.aload_n 1, 1) := by decide +kernel
theorem dL_law_839 : decode cL_law 839 = .ok (.aload_n 0, 1) := by decide +kernel
theorem dL_law_840 : decode cL_law 840 = .ok (.iload 4, 2) := by decide +kernel
theorem dL_law_842 : decode cL_law 842 = .ok (.iconst 1, 1) := by decide +kernel
theorem dL_law_843 : decode cL_law 843 = .ok (.iadd, 1) := by decide +kernel
theorem dL_law_844 : decode cL_law 844 = .ok (.iaload, 1) := by decide +kernel
theorem dL_law_845 : decode cL_law 845 = .ok (.aload_n 0, 1) := by decide +kernel
theorem dL_law_846 : decode cL_law 846 = .ok (.iload 4, 2) := by decide +kernel
theorem dL_law_848 : decode cL_law 848 = .ok (.iconst 2, 1) := by decide +kernel
theorem dL_law_849 : decode cL_law 849 = .ok (.iadd, 1) := by decide +kernel
theorem dL_law_850 : decode cL_law 850 = .ok (.iaload, 1) := by decide +kernel
theorem dL_law_851 : decode cL_law 851 = .ok (.aload_n 0, 1) := by decide +kernel
theorem dL_law_852 : decode cL_law 852 = .ok (.iload 4, 2) := by decide +kernel
theorem dL_law_854 : decode cL_law 854 = .ok (.iconst 3, 1) := by decide +kernel
theorem dL_law_855 : decode cL_law 855 = .ok (.iadd, 1) := by decide +kernel
theorem dL_law_856 : decode cL_law 856 = .ok (.iaload, 1) := by decide +kernel
theorem dL_law_857 : decode cL_law 857 = .ok (.ifCond .eq 7, 3) := by decide +kernel
theorem dL_law_860 : decode cL_law 860 = .ok (.iconst 1, 1) := by decide +kernel
theorem dL_law_861 : decode cL_law 861 = .ok (.goto 4, 3) := by decide +kernel
theorem dL_law_864 : decode cL_law 864 = .ok (.iconst 0, 1) := by decide +kernel
theorem dL_law_865 : decode cL_law 865 = .ok (.aload_n 3, 1) := by decide +kernel
theorem dL_law_866 : decode cL_law 866 = .ok (.invokestatic 148, 3) := by decide +kernel
theorem dL_law_869 : decode cL_law 869 = .ok (.istore 5, 2) := by decide +kernel
theorem dL_law_871 : decode cL_law 871 = .ok (.aload_n 2, 1) := by decide +kernel
theorem dL_law_872 : decode cL_law 872 = .ok (.aload_n 0, 1) := by decide +kernel
theorem dL_law_873 : decode cL_law 873 = .ok (.iload 4, 2) := by decide +kernel
theorem dL_law_875 : decode cL_law 875 = .ok (.iconst 1, 1) := by decide +kernel
theorem dL_law_876 : decode cL_law 876 = .ok (.iadd, 1) := by decide +kernel
theorem dL_law_877 : decode cL_law 877 = .ok (.iaload, 1) := by decide +kernel
theorem dL_law_878 : decode cL_law 878 = .ok (.aload_n 0, 1) := by decide +kernel
theorem dL_law_879 : decode cL_law 879 = .ok (.iload 4, 2) := by decide +kernel
theorem dL_law_881 : decode cL_law 881 = .ok (.iconst 2, 1) := by decide +kernel
theorem dL_law_882 : decode cL_law 882 = .ok (.iadd, 1) := by decide +kernel
theorem dL_law_883 : decode cL_law 883 = .ok (.iaload, 1) := by decide +kernel
theorem dL_law_884 : decode cL_law 884 = .ok (.aload_n 0, 1) := by decide +kernel
theorem dL_law_885 : decode cL_law 885 = .ok (.iload 4, 2) := by decide +kernel
theorem dL_law_887 : decode cL_law 887 = .ok (.iconst 3, 1) := by decide +kernel
theorem dL_law_888 : decode cL_law 888 = .ok (.iadd, 1) := by decide +kernel
theorem dL_law_889 : decode cL_law 889 = .ok (.iaload, 1) := by decide +kernel
theorem dL_law_890 : decode cL_law 890 = .ok (.ifCond .eq 7, 3) := by decide +kernel
theorem dL_law_893 : decode cL_law 893 = .ok (.iconst 1, 1) := by decide +kernel
theorem dL_law_894 : decode cL_law 894 = .ok (.goto 4, 3) := by decide +kernel
theorem dL_law_897 : decode cL_law 897 = .ok (.iconst 0, 1) := by decide +kernel
theorem dL_law_898 : decode cL_law 898 = .ok (.invokevirtual 151, 3) := by decide +kernel
theorem dL_law_901 : decode cL_law 901 = .ok (.istore 6, 2) := by decide +kernel
theorem dL_law_903 : decode cL_law 903 = .ok (.aload_n 2, 1) := by decide +kernel
theorem dL_law_904 : decode cL_law 904 = .ok (.invokevirtual 114, 3) := by decide +kernel
theorem dL_law_907 : decode cL_law 907 = .ok (.iload 5, 2) := by decide +kernel
theorem dL_law_909 : decode cL_law 909 = .ok (.if_icmp .eq 5, 3) := by decide +kernel
theorem dL_law_912 : decode cL_law 912 = .ok (.iconst 0, 1) := by decide +kernel
theorem dL_law_913 : decode cL_law 913 = .ok (.ireturn, 1) := by decide +kernel
theorem dL_law_914 : decode cL_law 914 = .ok (.iload 5, 2) := by decide +kernel
theorem dL_law_916 : decode cL_law 916 = .ok (.ifCond .ne 22, 3) := by decide +kernel
theorem dL_law_919 : decode cL_law 919 = .ok (.aload_n 3, 1) := by decide +kernel
theorem dL_law_920 : decode cL_law 920 = .ok (.iconst 0, 1) := by decide +kernel
theorem dL_law_921 : decode cL_law 921 = .ok (.laload, 1) := by decide +kernel
theorem dL_law_922 : decode cL_law 922 = .ok (.iload 6, 2) := by decide +kernel
theorem dL_law_924 : decode cL_law 924 = .ok (.ifCond .eq 7, 3) := by decide +kernel
theorem dL_law_927 : decode cL_law 927 = .ok (.lconst 1, 1) := by decide +kernel
theorem dL_law_928 : decode cL_law 928 = .ok (.goto 4, 3) := by decide +kernel
theorem dL_law_931 : decode cL_law 931 = .ok (.lconst 0, 1) := by decide +kernel
theorem dL_law_932 : decode cL_law 932 = .ok (.lcmp, 1) := by decide +kernel
theorem dL_law_933 : decode cL_law 933 = .ok (.ifCond .eq 5, 3) := by decide +kernel
theorem dL_law_936 : decode cL_law 936 = .ok (.iconst 0, 1) := by decide +kernel
theorem dL_law_937 : decode cL_law 937 = .ok (.ireturn, 1) := by decide +kernel
theorem dL_law_938 : decode cL_law 938 = .ok (.goto 1232, 3) := by decide +kernel
theorem dL_law_941 : decode cL_law 941 = .ok (.aload_n 1, 1) := by decide +kernel
theorem dL_law_942 : decode cL_law 942 = .ok (.invokevirtual 152, 3) := by decide +kernel
theorem dL_law_945 : decode cL_law 945 = .ok (.aload_n 2, 1) := by decide +kernel
theorem dL_law_946 : decode cL_law 946 = .ok (.invokevirtual 155, 3) := by decide +kernel
theorem dL_law_949 : decode cL_law 949 = .ok (.if_icmp .eq 1221, 3) := by decide +kernel
theorem dL_law_952 : decode cL_law 952 = .ok (.iconst 0, 1) := by decide +kernel
theorem dL_law_953 : decode cL_law 953 = .ok (.ireturn, 1) := by decide +kernel
theorem dL_law_954 : decode cL_law 954 = .ok (.aload_n 1, 1) := by decide +kernel
theorem dL_law_955 : decode cL_law 955 = .ok (.aload_n 0, 1) := by decide +kernel
theorem dL_law_956 : decode cL_law 956 = .ok (.iload 4, 2) := by decide +kernel
theorem dL_law_958 : decode cL_law 958 = .ok (.iconst 1, 1) := by decide +kernel
theorem dL_law_959 : decode cL_law 959 = .ok (.iadd, 1) := by decide +kernel
theorem dL_law_960 : decode cL_law 960 = .ok (.iaload, 1) := by decide +kernel
theorem dL_law_961 : decode cL_law 961 = .ok (.aload_n 0, 1) := by decide +kernel
theorem dL_law_962 : decode cL_law 962 = .ok (.iload 4, 2) := by decide +kernel
theorem dL_law_964 : decode cL_law 964 = .ok (.iconst 2, 1) := by decide +kernel
theorem dL_law_965 : decode cL_law 965 = .ok (.iadd, 1) := by decide +kernel
theorem dL_law_966 : decode cL_law 966 = .ok (.iaload, 1) := by decide +kernel
theorem dL_law_967 : decode cL_law 967 = .ok (.aload_n 0, 1) := by decide +kernel
theorem dL_law_968 : decode cL_law 968 = .ok (.iload 4, 2) := by decide +kernel
theorem dL_law_970 : decode cL_law 970 = .ok (.iconst 3, 1) := by decide +kernel
theorem dL_law_971 : decode cL_law 971 = .ok (.iadd, 1) := by decide +kernel
theorem dL_law_972 : decode cL_law 972 = .ok (.iaload, 1) := by decide +kernel
theorem dL_law_973 : decode cL_law 973 = .ok (.aload_n 3, 1) := by decide +kernel
theorem dL_law_974 : decode cL_law 974 = .ok (.invokestatic 156, 3) := by decide +kernel
theorem dL_law_977 : decode cL_law 977 = .ok (.istore 5, 2) := by decide +kernel
theorem dL_law_979 : decode cL_law 979 = .ok (.aload_n 2, 1) := by decide +kernel
theorem dL_law_980 : decode cL_law 980 = .ok (.aload_n 0, 1) := by decide +kernel
theorem dL_law_981 : decode cL_law 981 = .ok (.iload 4, 2) := by decide +kernel
theorem dL_law_983 : decode cL_law 983 = .ok (.iconst 1, 1) := by decide +kernel
theorem dL_law_984 : decode cL_law 984 = .ok (.iadd, 1) := by decide +kernel
theorem dL_law_985 : decode cL_law 985 = .ok (.iaload, 1) := by decide +kernel
theorem dL_law_986 : decode cL_law 986 = .ok (.aload_n 0, 1) := by decide +kernel
theorem dL_law_987 : decode cL_law 987 = .ok (.iload 4, 2) := by decide +kernel
theorem dL_law_989 : decode cL_law 989 = .ok (.iconst 2, 1) := by decide +kernel
theorem dL_law_990 : decode cL_law 990 = .ok (.iadd, 1) := by decide +kernel
theorem dL_law_991 : decode cL_law 991 = .ok (.iaload, 1) := by decide +kernel
theorem dL_law_992 : decode cL_law 992 = .ok (.aload_n 0, 1) := by decide +kernel
theorem dL_law_993 : decode cL_law 993 = .ok (.iload 4, 2) := by decide +kernel
theorem dL_law_995 : decode cL_law 995 = .ok (.iconst 3, 1) := by decide +kernel
theorem dL_law_996 : decode cL_law 996 = .ok (.iadd, 1) := by decide +kernel
theorem dL_law_997 : decode cL_law 997 = .ok (.iaload, 1) := by decide +kernel
theorem dL_law_998 : decode cL_law 998 = .ok (.invokevirtual 159, 3) := by decide +kernel
theorem dL_law_1001 : decode cL_law 1001 = .ok (.istore 6, 2) := by decide +kernel
theorem dL_law_1003 : decode cL_law 1003 = .ok (.aload_n 2, 1) := by decide +kernel
theorem dL_law_1004 : decode cL_law 1004 = .ok (.invokevirtual 114, 3) := by decide +kernel
theorem dL_law_1007 : decode cL_law 1007 = .ok (.iload 5, 2) := by decide +kernel
theorem dL_law_1009 : decode cL_law 1009 = .ok (.if_icmp .eq 5, 3) := by decide +kernel
theorem dL_law_1012 : decode cL_law 1012 = .ok (.iconst 0, 1) := by decide +kernel
theorem dL_law_1013 : decode cL_law 1013 = .ok (.ireturn, 1) := by decide +kernel
theorem dL_law_1014 : decode cL_law 1014 = .ok (.iload 5, 2) := by decide +kernel
theorem dL_law_1016 : decode cL_law 1016 = .ok (.ifCond .ne 15, 3) := by decide +kernel
theorem dL_law_1019 : decode cL_law 1019 = .ok (.aload_n 3, 1) := by decide +kernel
theorem dL_law_1020 : decode cL_law 1020 = .ok (.iconst 0, 1) := by decide +kernel
theorem dL_law_1021 : decode cL_law 1021 = .ok (.laload, 1) := by decide +kernel
theorem dL_law_1022 : decode cL_law 1022 = .ok (.iload 6, 2) := by decide +kernel
theorem dL_law_1024 : decode cL_law 1024 = .ok (.i2l, 1) := by decide +kernel
theorem dL_law_1025 : decode cL_law 1025 = .ok (.lcmp, 1) := by decide +kernel
theorem dL_law_1026 : decode cL_law 1026 = .ok (.ifCond .eq 5, 3) := by decide +kernel
theorem dL_law_1029 : decode cL_law 1029 = .ok (.iconst 0, 1) := by decide +kernel
theorem dL_law_1030 : decode cL_law 1030 = .ok (.ireturn, 1) := by decide +kernel
theorem dL_law_1031 : decode cL_law 1031 = .ok (.goto 1139, 3) := by decide +kernel
theorem dL_law_1034 : decode cL_law 1034 = .ok (.aload_n 1, 1) := by decide +kernel
theorem dL_law_1035 : decode cL_law 1035 = .ok (.invokevirtual 160, 3) := by decide +kernel
theorem dL_law_1038 : decode cL_law 1038 = .ok (.aload_n 2, 1) := by decide +kernel
theorem dL_law_1039 : decode cL_law 1039 = .ok (.invokevirtual 163, 3) := by decide +kernel
theorem dL_law_1042 : decode cL_law 1042 = .ok (.if_icmp .eq 1128, 3) := by decide +kernel
theorem dL_law_1045 : decode cL_law 1045 = .ok (.iconst 0, 1) := by decide +kernel
theorem dL_law_1046 : decode cL_law 1046 = .ok (.ireturn, 1) := by decide +kernel
theorem dL_law_1047 : decode cL_law 1047 = .ok (.aload_n 1, 1) := by decide +kernel
theorem dL_law_1048 : decode cL_law 1048 = .ok (.aload_n 0, 1) := by decide +kernel
theorem dL_law_1049 : decode cL_law 1049 = .ok (.iload 4, 2) := by decide +kernel
theorem dL_law_1051 : decode cL_law 1051 = .ok (.iconst 1, 1) := by decide +kernel
theorem dL_law_1052 : decode cL_law 1052 = .ok (.iadd, 1) := by decide +kernel
theorem dL_law_1053 : decode cL_law 1053 = .ok (.iaload, 1) := by decide +kernel
theorem dL_law_1054 : decode cL_law 1054 = .ok (.aload_n 3, 1) := by decide +kernel
theorem dL_law_1055 : decode cL_law 1055 = .ok (.invokestatic 164, 3) := by decide +kernel
theorem dL_law_1058 : decode cL_law 1058 = .ok (.istore 5, 2) := by decide +kernel
theorem dL_law_1060 : decode cL_law 1060 = .ok (.aload_n 2, 1) := by decide +kernel
theorem dL_law_1061 : decode cL_law 1061 = .ok (.aload_n 0, 1) := by decide +kernel
theorem dL_law_1062 : decode cL_law 1062 = .ok (.iload 4, 2) := by decide +kernel
theorem dL_law_1064 : decode cL_law 1064 = .ok (.iconst 1, 1) := by decide +kernel
theorem dL_law_1065 : decode cL_law 1065 = .ok (.iadd, 1) := by decide +kernel
theorem dL_law_1066 : decode cL_law 1066 = .ok (.iaload, 1) := by decide +kernel
theorem dL_law_1067 : decode cL_law 1067 = .ok (.invokevirtual 166, 3) := by decide +kernel
theorem dL_law_1070 : decode cL_law 1070 = .ok (.istore 6, 2) := by decide +kernel
theorem dL_law_1072 : decode cL_law 1072 = .ok (.aload_n 2, 1) := by decide +kernel
theorem dL_law_1073 : decode cL_law 1073 = .ok (.invokevirtual 114, 3) := by decide +kernel
theorem dL_law_1076 : decode cL_law 1076 = .ok (.iload 5, 2) := by decide +kernel
theorem dL_law_1078 : decode cL_law 1078 = .ok (.if_icmp .eq 5, 3) := by decide +kernel
theorem dL_law_1081 : decode cL_law 1081 = .ok (.iconst 0, 1) := by decide +kernel
theorem dL_law_1082 : decode cL_law 1082 = .ok (.ireturn, 1) := by decide +kernel
