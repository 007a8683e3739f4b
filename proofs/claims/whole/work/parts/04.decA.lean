theorem dX0_init_0 : decode cX0_init 0 = .ok (.aload_n 0, 1) := by decide +kernel
theorem dX0_init_1 : decode cX0_init 1 = .ok (.invokespecial 3, 3) := by decide +kernel
theorem dX0_init_4 : decode cX0_init 4 = .ok (.aload_n 0, 1) := by decide +kernel
theorem dX0_init_5 : decode cX0_init 5 = .ok (.aload_n 1, 1) := by decide +kernel
theorem dX0_init_6 : decode cX0_init 6 = .ok (.putfield 9, 3) := by decide +kernel
theorem dX0_init_9 : decode cX0_init 9 = .ok (.return_, 1) := by decide +kernel
theorem dX0_asItIs_0 : decode cX0_asItIs 0 = .ok (.aload_n 0, 1) := by decide +kernel
theorem dX0_asItIs_1 : decode cX0_asItIs 1 = .ok (.aload_n 0, 1) := by decide +kernel
theorem dX0_asItIs_2 : decode cX0_asItIs 2 = .ok (.getfield 9, 3) := by decide +kernel
theorem dX0_asItIs_5 : decode cX0_asItIs 5 = .ok (.getfield 15, 3) := by decide +kernel
theorem dX0_asItIs_8 : decode cX0_asItIs 8 = .ok (.iconst 2, 1) := by decide +kernel
theorem dX0_asItIs_9 : decode cX0_asItIs 9 = .ok (.iaload, 1) := by decide +kernel
theorem dX0_asItIs_10 : decode cX0_asItIs 10 = .ok (.putfield 21, 3) := by decide +kernel
theorem dX0_asItIs_13 : decode cX0_asItIs 13 = .ok (.aload_n 0, 1) := by decide +kernel
theorem dX0_asItIs_14 : decode cX0_asItIs 14 = .ok (.aload_n 0, 1) := by decide +kernel
theorem dX0_asItIs_15 : decode cX0_asItIs 15 = .ok (.getfield 9, 3) := by decide +kernel
theorem dX0_asItIs_18 : decode cX0_asItIs 18 = .ok (.getfield 25, 3) := by decide +kernel
theorem dX0_asItIs_21 : decode cX0_asItIs 21 = .ok (.getfield 29, 3) := by decide +kernel
theorem dX0_asItIs_24 : decode cX0_asItIs 24 = .ok (.putfield 34, 3) := by decide +kernel
theorem dX0_asItIs_27 : decode cX0_asItIs 27 = .ok (.aload_n 0, 1) := by decide +kernel
theorem dX0_asItIs_28 : decode cX0_asItIs 28 = .ok (.iconst (-1), 1) := by decide +kernel
theorem dX0_asItIs_29 : decode cX0_asItIs 29 = .ok (.putfield 35, 3) := by decide +kernel
theorem dX0_asItIs_32 : decode cX0_asItIs 32 = .ok (.aload_n 0, 1) := by decide +kernel
theorem dX0_asItIs_33 : decode cX0_asItIs 33 = .ok (.iconst 0, 1) := by decide +kernel
theorem dX0_asItIs_34 : decode cX0_asItIs 34 = .ok (.putfield 38, 3) := by decide +kernel
theorem dX0_asItIs_37 : decode cX0_asItIs 37 = .ok (.return_, 1) := by decide +kernel
theorem dX0_levelOn_0 : decode cX0_levelOn 0 = .ok (.iconst 0, 1) := by decide +kernel
theorem dX0_levelOn_1 : decode cX0_levelOn 1 = .ok (.aload_n 0, 1) := by decide +kernel
theorem dX0_levelOn_2 : decode cX0_levelOn 2 = .ok (.getfield 9, 3) := by decide +kernel
theorem dX0_levelOn_5 : decode cX0_levelOn 5 = .ok (.getfield 41, 3) := by decide +kernel
theorem dX0_levelOn_8 : decode cX0_levelOn 8 = .ok (.iload_n 1, 1) := by decide +kernel
theorem dX0_levelOn_9 : decode cX0_levelOn 9 = .ok (.aload_n 0, 1) := by decide +kernel
theorem dX0_levelOn_10 : decode cX0_levelOn 10 = .ok (.getfield 21, 3) := by decide +kernel
theorem dX0_levelOn_13 : decode cX0_levelOn 13 = .ok (.iadd, 1) := by decide +kernel
theorem dX0_levelOn_14 : decode cX0_levelOn 14 = .ok (.invokevirtual 45, 3) := by decide +kernel
theorem dX0_levelOn_17 : decode cX0_levelOn 17 = .ok (.aload_n 0, 1) := by decide +kernel
theorem dX0_levelOn_18 : decode cX0_levelOn 18 = .ok (.getfield 38, 3) := by decide +kernel
theorem dX0_levelOn_21 : decode cX0_levelOn 21 = .ok (.isub, 1) := by decide +kernel
theorem dX0_levelOn_22 : decode cX0_levelOn 22 = .ok (.invokestatic 51, 3) := by decide +kernel
theorem dX0_levelOn_25 : decode cX0_levelOn 25 = .ok (.ireturn, 1) := by decide +kernel
theorem dX0_breathIn_0 : decode cX0_breathIn 0 = .ok (.aload_n 0, 1) := by decide +kernel
theorem dX0_breathIn_1 : decode cX0_breathIn 1 = .ok (.getfield 9, 3) := by decide +kernel
theorem dX0_breathIn_4 : decode cX0_breathIn 4 = .ok (.getfield 25, 3) := by decide +kernel
theorem dX0_breathIn_7 : decode cX0_breathIn 7 = .ok (.iload_n 1, 1) := by decide +kernel
theorem dX0_breathIn_8 : decode cX0_breathIn 8 = .ok (.invokevirtual 57, 3) := by decide +kernel
theorem dX0_breathIn_11 : decode cX0_breathIn 11 = .ok (.ifCond .eq 14, 3) := by decide +kernel
theorem dX0_breathIn_14 : decode cX0_breathIn 14 = .ok (.aload_n 0, 1) := by decide +kernel
theorem dX0_breathIn_15 : decode cX0_breathIn 15 = .ok (.getfield 34, 3) := by decide +kernel
theorem dX0_breathIn_18 : decode cX0_breathIn 18 = .ok (.iload_n 1, 1) := by decide +kernel
theorem dX0_breathIn_19 : decode cX0_breathIn 19 = .ok (.invokestatic 61, 3) := by decide +kernel
theorem dX0_breathIn_22 : decode cX0_breathIn 22 = .ok (.ifCond .eq 5, 3) := by decide +kernel
theorem dX0_breathIn_25 : decode cX0_breathIn 25 = .ok (.iconst 0, 1) := by decide +kernel
theorem dX0_breathIn_26 : decode cX0_breathIn 26 = .ok (.ireturn, 1) := by decide +kernel
theorem dX0_breathIn_27 : decode cX0_breathIn 27 = .ok (.iconst 0, 1) := by decide +kernel
theorem dX0_breathIn_28 : decode cX0_breathIn 28 = .ok (.iload_n 2, 1) := by decide +kernel
theorem dX0_breathIn_29 : decode cX0_breathIn 29 = .ok (.aload_n 0, 1) := by decide +kernel
theorem dX0_breathIn_30 : decode cX0_breathIn 30 = .ok (.getfield 9, 3) := by decide +kernel
theorem dX0_breathIn_33 : decode cX0_breathIn 33 = .ok (.getfield 25, 3) := by decide +kernel
theorem dX0_breathIn_36 : decode cX0_breathIn 36 = .ok (.getfield 65, 3) := by decide +kernel
theorem dX0_breathIn_39 : decode cX0_breathIn 39 = .ok (.iload_n 1, 1) := by decide +kernel
theorem dX0_breathIn_40 : decode cX0_breathIn 40 = .ok (.iaload, 1) := by decide +kernel
theorem dX0_breathIn_41 : decode cX0_breathIn 41 = .ok (.isub, 1) := by decide +kernel
theorem dX0_breathIn_42 : decode cX0_breathIn 42 = .ok (.invokestatic 51, 3) := by decide +kernel
theorem dX0_breathIn_45 : decode cX0_breathIn 45 = .ok (.ireturn, 1) := by decide +kernel
theorem dX0_riseAt_0 : decode cX0_riseAt 0 = .ok (.iconst 0, 1) := by decide +kernel
theorem dX0_riseAt_1 : decode cX0_riseAt 1 = .ok (.aload_n 0, 1) := by decide +kernel
theorem dX0_riseAt_2 : decode cX0_riseAt 2 = .ok (.iload_n 2, 1) := by decide +kernel
theorem dX0_riseAt_3 : decode cX0_riseAt 3 = .ok (.iload_n 1, 1) := by decide +kernel
theorem dX0_riseAt_4 : decode cX0_riseAt 4 = .ok (.invokevirtual 68, 3) := by decide +kernel
theorem dX0_riseAt_7 : decode cX0_riseAt 7 = .ok (.iload_n 3, 1) := by decide +kernel
theorem dX0_riseAt_8 : decode cX0_riseAt 8 = .ok (.isub, 1) := by decide +kernel
theorem dX0_riseAt_9 : decode cX0_riseAt 9 = .ok (.invokestatic 51, 3) := by decide +kernel
theorem dX0_riseAt_12 : decode cX0_riseAt 12 = .ok (.ireturn, 1) := by decide +kernel
theorem dX0_acidOf_0 : decode cX0_acidOf 0 = .ok (.aload_n 0, 1) := by decide +kernel
theorem dX0_acidOf_1 : decode cX0_acidOf 1 = .ok (.getfield 9, 3) := by decide +kernel
theorem dX0_acidOf_4 : decode cX0_acidOf 4 = .ok (.getfield 71, 3) := by decide +kernel
theorem dX0_acidOf_7 : decode cX0_acidOf 7 = .ok (.iload_n 1, 1) := by decide +kernel
theorem dX0_acidOf_8 : decode cX0_acidOf 8 = .ok (.invokevirtual 75, 3) := by decide +kernel
theorem dX0_acidOf_11 : decode cX0_acidOf 11 = .ok (.ifCond .ne 5, 3) := by decide +kernel
theorem dX0_acidOf_14 : decode cX0_acidOf 14 = .ok (.iconst 0, 1) := by decide +kernel
theorem dX0_acidOf_15 : decode cX0_acidOf 15 = .ok (.ireturn, 1) := by decide +kernel
theorem dX0_acidOf_16 : decode cX0_acidOf 16 = .ok (.aload_n 0, 1) := by decide +kernel
theorem dX0_acidOf_17 : decode cX0_acidOf 17 = .ok (.iload_n 2, 1) := by decide +kernel
theorem dX0_acidOf_18 : decode cX0_acidOf 18 = .ok (.aload_n 0, 1) := by decide +kernel
theorem dX0_acidOf_19 : decode cX0_acidOf 19 = .ok (.getfield 9, 3) := by decide +kernel
theorem dX0_acidOf_22 : decode cX0_acidOf 22 = .ok (.getfield 71, 3) := by decide +kernel
theorem dX0_acidOf_25 : decode cX0_acidOf 25 = .ok (.getfield 78, 3) := by decide +kernel
theorem dX0_acidOf_28 : decode cX0_acidOf 28 = .ok (.iload_n 1, 1) := by decide +kernel
theorem dX0_acidOf_29 : decode cX0_acidOf 29 = .ok (.iaload, 1) := by decide +kernel
theorem dX0_acidOf_30 : decode cX0_acidOf 30 = .ok (.aload_n 0, 1) := by decide +kernel
theorem dX0_acidOf_31 : decode cX0_acidOf 31 = .ok (.getfield 9, 3) := by decide +kernel
theorem dX0_acidOf_34 : decode cX0_acidOf 34 = .ok (.getfield 71, 3) := by decide +kernel
theorem dX0_acidOf_37 : decode cX0_acidOf 37 = .ok (.getfield 81, 3) := by decide +kernel
theorem dX0_acidOf_40 : decode cX0_acidOf 40 = .ok (.iload_n 1, 1) := by decide +kernel
theorem dX0_acidOf_41 : decode cX0_acidOf 41 = .ok (.iaload, 1) := by decide +kernel
theorem dX0_acidOf_42 : decode cX0_acidOf 42 = .ok (.invokevirtual 84, 3) := by decide +kernel
theorem dX0_acidOf_45 : decode cX0_acidOf 45 = .ok (.ireturn, 1) := by decide +kernel
theorem dX0_acidBehind_0 : decode cX0_acidBehind 0 = .ok (.aload_n 0, 1) := by decide +kernel
theorem dX0_acidBehind_1 : decode cX0_acidBehind 1 = .ok (.getfield 9, 3) := by decide +kernel
theorem dX0_acidBehind_4 : decode cX0_acidBehind 4 = .ok (.getfield 41, 3) := by decide +kernel
theorem dX0_acidBehind_7 : decode cX0_acidBehind 7 = .ok (.getfield 88, 3) := by decide +kernel
theorem dX0_acidBehind_10 : decode cX0_acidBehind 10 = .ok (.istore 4, 2) := by decide +kernel
theorem dX0_acidBehind_12 : decode cX0_acidBehind 12 = .ok (.iconst 0, 1) := by decide +kernel
theorem dX0_acidBehind_13 : decode cX0_acidBehind 13 = .ok (.istore 5, 2) := by decide +kernel
theorem dX0_acidBehind_15 : decode cX0_acidBehind 15 = .ok (.iconst 0, 1) := by decide +kernel
theorem dX0_acidBehind_16 : decode cX0_acidBehind 16 = .ok (.istore 6, 2) := by decide +kernel
theorem dX0_acidBehind_18 : decode cX0_acidBehind 18 = .ok (.iload 6, 2) := by decide +kernel
theorem dX0_acidBehind_20 : decode cX0_acidBehind 20 = .ok (.iload_n 1, 1) := by decide +kernel
theorem dX0_acidBehind_21 : decode cX0_acidBehind 21 = .ok (.if_icmp .ge 49, 3) := by decide +kernel
theorem dX0_acidBehind_24 : decode cX0_acidBehind 24 = .ok (.iload 6, 2) := by decide +kernel
theorem dX0_acidBehind_26 : decode cX0_acidBehind 26 = .ok (.iload 4, 2) := by decide +kernel
theorem dX0_acidBehind_28 : decode cX0_acidBehind 28 = .ok (.if_icmp .ge 42, 3) := by decide +kernel
theorem dX0_acidBehind_31 : decode cX0_acidBehind 31 = .ok (.iload_n 1, 1) := by decide +kernel
theorem dX0_acidBehind_32 : decode cX0_acidBehind 32 = .ok (.iconst 1, 1) := by decide +kernel
theorem dX0_acidBehind_33 : decode cX0_acidBehind 33 = .ok (.isub, 1) := by decide +kernel
theorem dX0_acidBehind_34 : decode cX0_acidBehind 34 = .ok (.iload 6, 2) := by decide +kernel
theorem dX0_acidBehind_36 : decode cX0_acidBehind 36 = .ok (.isub, 1) := by decide +kernel
theorem dX0_acidBehind_37 : decode cX0_acidBehind 37 = .ok (.iload 4, 2) := by decide +kernel
theorem dX0_acidBehind_39 : decode cX0_acidBehind 39 = .ok (.idiv, 1) := by decide +kernel
theorem dX0_acidBehind_40 : decode cX0_acidBehind 40 = .ok (.iconst 1, 1) := by decide +kernel
theorem dX0_acidBehind_41 : decode cX0_acidBehind 41 = .ok (.iadd, 1) := by decide +kernel
theorem dX0_acidBehind_42 : decode cX0_acidBehind 42 = .ok (.istore 7, 2) := by decide +kernel
theorem dX0_acidBehind_44 : decode cX0_acidBehind 44 = .ok (.iload 5, 2) := by decide +kernel
theorem dX0_acidBehind_46 : decode cX0_acidBehind 46 = .ok (.iload 7, 2) := by decide +kernel
theorem dX0_acidBehind_48 : decode cX0_acidBehind 48 = .ok (.aload_n 0, 1) := by decide +kernel
theorem dX0_acidBehind_49 : decode cX0_acidBehind 49 = .ok (.aload_n 0, 1) := by decide +kernel
theorem dX0_acidBehind_50 : decode cX0_acidBehind 50 = .ok (.iload 6, 2) := by decide +kernel
theorem dX0_acidBehind_52 : decode cX0_acidBehind 52 = .ok (.invokevirtual 91, 3) := by decide +kernel
theorem dX0_acidBehind_55 : decode cX0_acidBehind 55 = .ok (.iload_n 2, 1) := by decide +kernel
theorem dX0_acidBehind_56 : decode cX0_acidBehind 56 = .ok (.iload_n 3, 1) := by decide +kernel
theorem dX0_acidBehind_57 : decode cX0_acidBehind 57 = .ok (.invokevirtual 94, 3) := by decide +kernel
theorem dX0_acidBehind_60 : decode cX0_acidBehind 60 = .ok (.imul, 1) := by decide +kernel
theorem dX0_acidBehind_61 : decode cX0_acidBehind 61 = .ok (.iadd, 1) := by decide +kernel
theorem dX0_acidBehind_62 : decode cX0_acidBehind 62 = .ok (.istore 5, 2) := by decide +kernel
theorem dX0_acidBehind_64 : decode cX0_acidBehind 64 = .ok (.iinc 6 1, 3) := by decide +kernel
theorem dX0_acidBehind_67 : decode cX0_acidBehind 67 = .ok (.goto (-49), 3) := by decide +kernel
theorem dX0_acidBehind_70 : decode cX0_acidBehind 70 = .ok (.aload_n 0, 1) := by decide +kernel
theorem dX0_acidBehind_71 : decode cX0_acidBehind 71 = .ok (.getfield 35, 3) := by decide +kernel
theorem dX0_acidBehind_74 : decode cX0_acidBehind 74 = .ok (.iconst 0, 1) := by decide +kernel
theorem dX0_acidBehind_75 : decode cX0_acidBehind 75 = .ok (.iload_n 1, 1) := by decide +kernel
theorem dX0_acidBehind_76 : decode cX0_acidBehind 76 = .ok (.iconst 1, 1) := by decide +kernel
theorem dX0_acidBehind_77 : decode cX0_acidBehind 77 = .ok (.isub, 1) := by decide +kernel
theorem dX0_acidBehind_78 : decode cX0_acidBehind 78 = .ok (.invokestatic 97, 3) := by decide +kernel
theorem dX0_acidBehind_81 : decode cX0_acidBehind 81 = .ok (.ifCond .eq 37, 3) := by decide +kernel
theorem dX0_acidBehind_84 : decode cX0_acidBehind 84 = .ok (.aload_n 0, 1) := by decide +kernel
theorem dX0_acidBehind_85 : decode cX0_acidBehind 85 = .ok (.aload_n 0, 1) := by decide +kernel
theorem dX0_acidBehind_86 : decode cX0_acidBehind 86 = .ok (.getfield 35, 3) := by decide +kernel
theorem dX0_acidBehind_89 : decode cX0_acidBehind 89 = .ok (.invokevirtual 91, 3) := by decide +kernel
theorem dX0_acidBehind_92 : decode cX0_acidBehind 92 = .ok (.istore 6, 2) := by decide +kernel
theorem dX0_acidBehind_94 : decode cX0_acidBehind 94 = .ok (.iload 5, 2) := by decide +kernel
theorem dX0_acidBehind_96 : decode cX0_acidBehind 96 = .ok (.aload_n 0, 1) := by decide +kernel
theorem dX0_acidBehind_97 : decode cX0_acidBehind 97 = .ok (.iload 6, 2) := by decide +kernel
theorem dX0_acidBehind_99 : decode cX0_acidBehind 99 = .ok (.iconst 1, 1) := by decide +kernel
theorem dX0_acidBehind_100 : decode cX0_acidBehind 100 = .ok (.iadd, 1) := by decide +kernel
theorem dX0_acidBehind_101 : decode cX0_acidBehind 101 = .ok (.iload_n 2, 1) := by decide +kernel
theorem dX0_acidBehind_102 : decode cX0_acidBehind 102 = .ok (.iload_n 3, 1) := by decide +kernel
theorem dX0_acidBehind_103 : decode cX0_acidBehind 103 = .ok (.invokevirtual 94, 3) := by decide +kernel
theorem dX0_acidBehind_106 : decode cX0_acidBehind 106 = .ok (.aload_n 0, 1) := by decide +kernel
theorem dX0_acidBehind_107 : decode cX0_acidBehind 107 = .ok (.iload 6, 2) := by decide +kernel
theorem dX0_acidBehind_109 : decode cX0_acidBehind 109 = .ok (.iload_n 2, 1) := by decide +kernel
theorem dX0_acidBehind_110 : decode cX0_acidBehind 110 = .ok (.iload_n 3, 1) := by decide +kernel
theorem dX0_acidBehind_111 : decode cX0_acidBehind 111 = .ok (.invokevirtual 94, 3) := by decide +kernel
theorem dX0_acidBehind_114 : decode cX0_acidBehind 114 = .ok (.isub, 1) := by decide +kernel
theorem dX0_acidBehind_115 : decode cX0_acidBehind 115 = .ok (.iadd, 1) := by decide +kernel
theorem dX0_acidBehind_116 : decode cX0_acidBehind 116 = .ok (.istore 5, 2) := by decide +kernel
theorem dX0_acidBehind_118 : decode cX0_acidBehind 118 = .ok (.bipush 99, 2) := by decide +kernel
theorem dX0_acidBehind_120 : decode cX0_acidBehind 120 = .ok (.iload 5, 2) := by decide +kernel
theorem dX0_acidBehind_122 : decode cX0_acidBehind 122 = .ok (.invokestatic 101, 3) := by decide +kernel
theorem dX0_acidBehind_125 : decode cX0_acidBehind 125 = .ok (.ireturn, 1) := by decide +kernel
theorem dX1_init_0 : decode cX1_init 0 = .ok (.aload_n 0, 1) := by decide +kernel
theorem dX1_init_1 : decode cX1_init 1 = .ok (.invokespecial 3, 3) := by decide +kernel
theorem dX1_init_4 : decode cX1_init 4 = .ok (.aload_n 0, 1) := by decide +kernel
theorem dX1_init_5 : decode cX1_init 5 = .ok (.bipush 8, 2) := by decide +kernel
theorem dX1_init_7 : decode cX1_init 7 = .ok (.newarray .int, 2) := by decide +kernel
theorem dX1_init_9 : decode cX1_init 9 = .ok (.putfield 9, 3) := by decide +kernel
theorem dX1_init_12 : decode cX1_init 12 = .ok (.aload_n 0, 1) := by decide +kernel
theorem dX1_init_13 : decode cX1_init 13 = .ok (.bipush 8, 2) := by decide +kernel
theorem dX1_init_15 : decode cX1_init 15 = .ok (.newarray .int, 2) := by decide +kernel
theorem dX1_init_17 : decode cX1_init 17 = .ok (.putfield 15, 3) := by decide +kernel
theorem dX1_init_20 : decode cX1_init 20 = .ok (.aload_n 0, 1) := by decide +kernel
theorem dX1_init_21 : decode cX1_init 21 = .ok (.bipush 6, 2) := by decide +kernel
theorem dX1_init_23 : decode cX1_init 23 = .ok (.newarray .int, 2) := by decide +kernel
theorem dX1_init_25 : decode cX1_init 25 = .ok (.putfield 18, 3) := by decide +kernel
theorem dX1_init_28 : decode cX1_init 28 = .ok (.aload_n 0, 1) := by decide +kernel
theorem dX1_init_29 : decode cX1_init 29 = .ok (.aload_n 1, 1) := by decide +kernel
theorem dX1_init_30 : decode cX1_init 30 = .ok (.putfield 21, 3) := by decide +kernel
theorem dX1_init_33 : decode cX1_init 33 = .ok (.aload_n 0, 1) := by decide +kernel
theorem dX1_init_34 : decode cX1_init 34 = .ok (.aload_n 2, 1) := by decide +kernel
theorem dX1_init_35 : decode cX1_init 35 = .ok (.putfield 25, 3) := by decide +kernel
theorem dX1_init_38 : decode cX1_init 38 = .ok (.return_, 1) := by decide +kernel
theorem dX1_begin_0 : decode cX1_begin 0 = .ok (.aload_n 0, 1) := by decide +kernel
theorem dX1_begin_1 : decode cX1_begin 1 = .ok (.iconst 0, 1) := by decide +kernel
theorem dX1_begin_2 : decode cX1_begin 2 = .ok (.putfield 29, 3) := by decide +kernel
theorem dX1_begin_5 : decode cX1_begin 5 = .ok (.iconst 0, 1) := by decide +kernel
theorem dX1_begin_6 : decode cX1_begin 6 = .ok (.istore_n 1, 1) := by decide +kernel
theorem dX1_begin_7 : decode cX1_begin 7 = .ok (.iload_n 1, 1) := by decide +kernel
theorem dX1_begin_8 : decode cX1_begin 8 = .ok (.bipush 8, 2) := by decide +kernel
theorem dX1_begin_10 : decode cX1_begin 10 = .ok (.if_icmp .ge 34, 3) := by decide +kernel
theorem dX1_begin_13 : decode cX1_begin 13 = .ok (.aload_n 0, 1) := by decide +kernel
theorem dX1_begin_14 : decode cX1_begin 14 = .ok (.getfield 9, 3) := by decide +kernel
theorem dX1_begin_17 : decode cX1_begin 17 = .ok (.iload_n 1, 1) := by decide +kernel
theorem dX1_begin_18 : decode cX1_begin 18 = .ok (.aload_n 0, 1) := by decide +kernel
theorem dX1_begin_19 : decode cX1_begin 19 = .ok (.getfield 21, 3) := by decide +kernel
theorem dX1_begin_22 : decode cX1_begin 22 = .ok (.getfield 33, 3) := by decide +kernel
theorem dX1_begin_25 : decode cX1_begin 25 = .ok (.getfield 39, 3) := by decide +kernel
theorem dX1_begin_28 : decode cX1_begin 28 = .ok (.iload_n 1, 1) := by decide +kernel
theorem dX1_begin_29 : decode cX1_begin 29 = .ok (.iaload, 1) := by decide +kernel
theorem dX1_begin_30 : decode cX1_begin 30 = .ok (.iastore, 1) := by decide +kernel
theorem dX1_begin_31 : decode cX1_begin 31 = .ok (.aload_n 0, 1) := by decide +kernel
theorem dX1_begin_32 : decode cX1_begin 32 = .ok (.getfield 15, 3) := by decide +kernel
theorem dX1_begin_35 : decode cX1_begin 35 = .ok (.iload_n 1, 1) := by decide +kernel
theorem dX1_begin_36 : decode cX1_begin 36 = .ok (.iconst 0, 1) := by decide +kernel
theorem dX1_begin_37 : decode cX1_begin 37 = .ok (.iastore, 1) := by decide +kernel
theorem dX1_begin_38 : decode cX1_begin 38 = .ok (.iinc 1 1, 3) := by decide +kernel
theorem dX1_begin_41 : decode cX1_begin 41 = .ok (.goto (-34), 3) := by decide +kernel
theorem dX1_begin_44 : decode cX1_begin 44 = .ok (.return_, 1) := by decide +kernel
theorem dX1_passDay_0 : decode cX1_passDay 0 = .ok (.aload_n 0, 1) := by decide +kernel
theorem dX1_passDay_1 : decode cX1_passDay 1 = .ok (.getfield 25, 3) := by decide +kernel
theorem dX1_passDay_4 : decode cX1_passDay 4 = .ok (.aload_n 0, 1) := by decide +kernel
theorem dX1_passDay_5 : decode cX1_passDay 5 = .ok (.getfield 29, 3) := by decide +kernel
theorem dX1_passDay_8 : decode cX1_passDay 8 = .ok (.invokevirtual 42, 3) := by decide +kernel
theorem dX1_passDay_11 : decode cX1_passDay 11 = .ok (.iload_n 1, 1) := by decide +kernel
theorem dX1_passDay_12 : decode cX1_passDay 12 = .ok (.iadd, 1) := by decide +kernel
theorem dX1_passDay_13 : decode cX1_passDay 13 = .ok (.istore_n 2, 1) := by decide +kernel
theorem dX1_passDay_14 : decode cX1_passDay 14 = .ok (.iconst 0, 1) := by decide +kernel
theorem dX1_passDay_15 : decode cX1_passDay 15 = .ok (.istore_n 3, 1) := by decide +kernel
theorem dX1_passDay_16 : decode cX1_passDay 16 = .ok (.iload_n 3, 1) := by decide +kernel
theorem dX1_passDay_17 : decode cX1_passDay 17 = .ok (.bipush 8, 2) := by decide +kernel
theorem dX1_passDay_19 : decode cX1_passDay 19 = .ok (.if_icmp .ge 71, 3) := by decide +kernel
theorem dX1_passDay_22 : decode cX1_passDay 22 = .ok (.aload_n 0, 1) := by decide +kernel
theorem dX1_passDay_23 : decode cX1_passDay 23 = .ok (.getfield 21, 3) := by decide +kernel
theorem dX1_passDay_26 : decode cX1_passDay 26 = .ok (.getfield 33, 3) := by decide +kernel
theorem dX1_passDay_29 : decode cX1_passDay 29 = .ok (.iload_n 3, 1) := by decide +kernel
theorem dX1_passDay_30 : decode cX1_passDay 30 = .ok (.invokevirtual 48, 3) := by decide +kernel
theorem dX1_passDay_33 : decode cX1_passDay 33 = .ok (.ifCond .eq 51, 3) := by decide +kernel
theorem dX1_passDay_36 : decode cX1_passDay 36 = .ok (.aload_n 0, 1) := by decide +kernel
theorem dX1_passDay_37 : decode cX1_passDay 37 = .ok (.getfield 25, 3) := by decide +kernel
theorem dX1_passDay_40 : decode cX1_passDay 40 = .ok (.iload_n 2, 1) := by decide +kernel
theorem dX1_passDay_41 : decode cX1_passDay 41 = .ok (.aload_n 0, 1) := by decide +kernel
theorem dX1_passDay_42 : decode cX1_passDay 42 = .ok (.getfield 9, 3) := by decide +kernel
theorem dX1_passDay_45 : decode cX1_passDay 45 = .ok (.iload_n 3, 1) := by decide +kernel
theorem dX1_passDay_46 : decode cX1_passDay 46 = .ok (.iaload, 1) := by decide +kernel
theorem dX1_passDay_47 : decode cX1_passDay 47 = .ok (.aload_n 0, 1) := by decide +kernel
theorem dX1_passDay_48 : decode cX1_passDay 48 = .ok (.getfield 21, 3) := by decide +kernel
theorem dX1_passDay_51 : decode cX1_passDay 51 = .ok (.getfield 33, 3) := by decide +kernel
theorem dX1_passDay_54 : decode cX1_passDay 54 = .ok (.getfield 52, 3) := by decide +kernel
theorem dX1_passDay_57 : decode cX1_passDay 57 = .ok (.iload_n 3, 1) := by decide +kernel
theorem dX1_passDay_58 : decode cX1_passDay 58 = .ok (.iaload, 1) := by decide +kernel
theorem dX1_passDay_59 : decode cX1_passDay 59 = .ok (.invokevirtual 55, 3) := by decide +kernel
theorem dX1_passDay_62 : decode cX1_passDay 62 = .ok (.istore 4, 2) := by decide +kernel
theorem dX1_passDay_64 : decode cX1_passDay 64 = .ok (.aload_n 0, 1) := by decide +kernel
theorem dX1_passDay_65 : decode cX1_passDay 65 = .ok (.getfield 15, 3) := by decide +kernel
theorem dX1_passDay_68 : decode cX1_passDay 68 = .ok (.iload_n 3, 1) := by decide +kernel
theorem dX1_passDay_69 : decode cX1_passDay 69 = .ok (.bipush 99, 2) := by decide +kernel
theorem dX1_passDay_71 : decode cX1_passDay 71 = .ok (.aload_n 0, 1) := by decide +kernel
theorem dX1_passDay_72 : decode cX1_passDay 72 = .ok (.getfield 15, 3) := by decide +kernel
theorem dX1_passDay_75 : decode cX1_passDay 75 = .ok (.iload_n 3, 1) := by decide +kernel
theorem dX1_passDay_76 : decode cX1_passDay 76 = .ok (.iaload, 1) := by decide +kernel
theorem dX1_passDay_77 : decode cX1_passDay 77 = .ok (.iload 4, 2) := by decide +kernel
theorem dX1_passDay_79 : decode cX1_passDay 79 = .ok (.iadd, 1) := by decide +kernel
theorem dX1_passDay_80 : decode cX1_passDay 80 = .ok (.invokestatic 59, 3) := by decide +kernel
theorem dX1_passDay_83 : decode cX1_passDay 83 = .ok (.iastore, 1) := by decide +kernel
theorem dX1_passDay_84 : decode cX1_passDay 84 = .ok (.iinc 3 1, 3) := by decide +kernel
theorem dX1_passDay_87 : decode cX1_passDay 87 = .ok (.goto (-71), 3) := by decide +kernel
theorem dX1_passDay_90 : decode cX1_passDay 90 = .ok (.aload_n 0, 1) := by decide +kernel
theorem dX1_passDay_91 : decode cX1_passDay 91 = .ok (.dup, 1) := by decide +kernel
theorem dX1_passDay_92 : decode cX1_passDay 92 = .ok (.getfield 29, 3) := by decide +kernel
theorem dX1_passDay_95 : decode cX1_passDay 95 = .ok (.iconst 1, 1) := by decide +kernel
theorem dX1_passDay_96 : decode cX1_passDay 96 = .ok (.iadd, 1) := by decide +kernel
theorem dX1_passDay_97 : decode cX1_passDay 97 = .ok (.putfield 29, 3) := by decide +kernel
theorem dX1_passDay_100 : decode cX1_passDay 100 = .ok (.return_, 1) := by decide +kernel
theorem dX1_worthOf_0 : decode cX1_worthOf 0 = .ok (.iconst 0, 1) := by decide +kernel
theorem dX1_worthOf_1 : decode cX1_worthOf 1 = .ok (.istore_n 2, 1) := by decide +kernel
theorem dX1_worthOf_2 : decode cX1_worthOf 2 = .ok (.iconst 0, 1) := by decide +kernel
theorem dX1_worthOf_3 : decode cX1_worthOf 3 = .ok (.istore_n 3, 1) := by decide +kernel
theorem dX1_worthOf_4 : decode cX1_worthOf 4 = .ok (.iload_n 3, 1) := by decide +kernel
theorem dX1_worthOf_5 : decode cX1_worthOf 5 = .ok (.bipush 8, 2) := by decide +kernel
theorem dX1_worthOf_7 : decode cX1_worthOf 7 = .ok (.if_icmp .ge 52, 3) := by decide +kernel
theorem dX1_worthOf_10 : decode cX1_worthOf 10 = .ok (.aload_n 0, 1) := by decide +kernel
theorem dX1_worthOf_11 : decode cX1_worthOf 11 = .ok (.getfield 21, 3) := by decide +kernel
theorem dX1_worthOf_14 : decode cX1_worthOf 14 = .ok (.getfield 33, 3) := by decide +kernel
theorem dX1_worthOf_17 : decode cX1_worthOf 17 = .ok (.iload_n 3, 1) := by decide +kernel
theorem dX1_worthOf_18 : decode cX1_worthOf 18 = .ok (.invokevirtual 48, 3) := by decide +kernel
theorem dX1_worthOf_21 : decode cX1_worthOf 21 = .ok (.ifCond .eq 32, 3) := by decide +kernel
theorem dX1_worthOf_24 : decode cX1_worthOf 24 = .ok (.iload_n 1, 1) := by decide +kernel
theorem dX1_worthOf_25 : decode cX1_worthOf 25 = .ok (.iload_n 3, 1) := by decide +kernel
theorem dX1_worthOf_26 : decode cX1_worthOf 26 = .ok (.invokestatic 65, 3) := by decide +kernel
theorem dX1_worthOf_29 : decode cX1_worthOf 29 = .ok (.ifCond .eq 24, 3) := by decide +kernel
theorem dX1_worthOf_32 : decode cX1_worthOf 32 = .ok (.iload_n 2, 1) := by decide +kernel
theorem dX1_worthOf_33 : decode cX1_worthOf 33 = .ok (.aload_n 0, 1) := by decide +kernel
theorem dX1_worthOf_34 : decode cX1_worthOf 34 = .ok (.getfield 21, 3) := by decide +kernel
theorem dX1_worthOf_37 : decode cX1_worthOf 37 = .ok (.iload_n 3, 1) := by decide +kernel
theorem dX1_worthOf_38 : decode cX1_worthOf 38 = .ok (.aload_n 0, 1) := by decide +kernel
theorem dX1_worthOf_39 : decode cX1_worthOf 39 = .ok (.getfield 29, 3) := by decide +kernel
theorem dX1_worthOf_42 : decode cX1_worthOf 42 = .ok (.aload_n 0, 1) := by decide +kernel
theorem dX1_worthOf_43 : decode cX1_worthOf 43 = .ok (.getfield 15, 3) := by decide +kernel
theorem dX1_worthOf_46 : decode cX1_worthOf 46 = .ok (.iload_n 3, 1) := by decide +kernel
theorem dX1_worthOf_47 : decode cX1_worthOf 47 = .ok (.iaload, 1) := by decide +kernel
theorem dX1_worthOf_48 : decode cX1_worthOf 48 = .ok (.invokevirtual 69, 3) := by decide +kernel
theorem dX1_worthOf_51 : decode cX1_worthOf 51 = .ok (.iadd, 1) := by decide +kernel
theorem dX1_worthOf_52 : decode cX1_worthOf 52 = .ok (.istore_n 2, 1) := by decide +kernel
theorem dX1_worthOf_53 : decode cX1_worthOf 53 = .ok (.iinc 3 1, 3) := by decide +kernel
theorem dX1_worthOf_56 : decode cX1_worthOf 56 = .ok (.goto (-52), 3) := by decide +kernel
theorem dX1_worthOf_59 : decode cX1_worthOf 59 = .ok (.iload_n 2, 1) := by decide +kernel
theorem dX1_worthOf_60 : decode cX1_worthOf 60 = .ok (.ireturn, 1) := by decide +kernel
theorem dX1_lostNow_0 : decode cX1_lostNow 0 = .ok (.iconst 0, 1) := by decide +kernel
theorem dX1_lostNow_1 : decode cX1_lostNow 1 = .ok (.istore_n 1, 1) := by decide +kernel
theorem dX1_lostNow_2 : decode cX1_lostNow 2 = .ok (.iconst 0, 1) := by decide +kernel
theorem dX1_lostNow_3 : decode cX1_lostNow 3 = .ok (.istore_n 2, 1) := by decide +kernel
theorem dX1_lostNow_4 : decode cX1_lostNow 4 = .ok (.iload_n 2, 1) := by decide +kernel
theorem dX1_lostNow_5 : decode cX1_lostNow 5 = .ok (.bipush 8, 2) := by decide +kernel
theorem dX1_lostNow_7 : decode cX1_lostNow 7 = .ok (.if_icmp .ge 54, 3) := by decide +kernel
theorem dX1_lostNow_10 : decode cX1_lostNow 10 = .ok (.aload_n 0, 1) := by decide +kernel
theorem dX1_lostNow_11 : decode cX1_lostNow 11 = .ok (.getfield 21, 3) := by decide +kernel
theorem dX1_lostNow_14 : decode cX1_lostNow 14 = .ok (.getfield 33, 3) := by decide +kernel
theorem dX1_lostNow_17 : decode cX1_lostNow 17 = .ok (.iload_n 2, 1) := by decide +kernel
theorem dX1_lostNow_18 : decode cX1_lostNow 18 = .ok (.invokevirtual 48, 3) := by decide +kernel
theorem dX1_lostNow_21 : decode cX1_lostNow 21 = .ok (.ifCond .eq 34, 3) := by decide +kernel
theorem dX1_lostNow_24 : decode cX1_lostNow 24 = .ok (.aload_n 0, 1) := by decide +kernel
theorem dX1_lostNow_25 : decode cX1_lostNow 25 = .ok (.getfield 21, 3) := by decide +kernel
theorem dX1_lostNow_28 : decode cX1_lostNow 28 = .ok (.aload_n 0, 1) := by decide +kernel
theorem dX1_lostNow_29 : decode cX1_lostNow 29 = .ok (.getfield 15, 3) := by decide +kernel
theorem dX1_lostNow_32 : decode cX1_lostNow 32 = .ok (.iload_n 2, 1) := by decide +kernel
theorem dX1_lostNow_33 : decode cX1_lostNow 33 = .ok (.iaload, 1) := by decide +kernel
theorem dX1_lostNow_34 : decode cX1_lostNow 34 = .ok (.invokevirtual 72, 3) := by decide +kernel
theorem dX1_lostNow_37 : decode cX1_lostNow 37 = .ok (.ifCond .eq 18, 3) := by decide +kernel
theorem dX1_lostNow_40 : decode cX1_lostNow 40 = .ok (.iload_n 1, 1) := by decide +kernel
theorem dX1_lostNow_41 : decode cX1_lostNow 41 = .ok (.aload_n 0, 1) := by decide +kernel
theorem dX1_lostNow_42 : decode cX1_lostNow 42 = .ok (.getfield 21, 3) := by decide +kernel
theorem dX1_lostNow_45 : decode cX1_lostNow 45 = .ok (.getfield 33, 3) := by decide +kernel
theorem dX1_lostNow_48 : decode cX1_lostNow 48 = .ok (.getfield 75, 3) := by decide +kernel
theorem dX1_lostNow_51 : decode cX1_lostNow 51 = .ok (.iload_n 2, 1) := by decide +kernel
theorem dX1_lostNow_52 : decode cX1_lostNow 52 = .ok (.iaload, 1) := by decide +kernel
theorem dX1_lostNow_53 : decode cX1_lostNow 53 = .ok (.iadd, 1) := by decide +kernel
theorem dX1_lostNow_54 : decode cX1_lostNow 54 = .ok (.istore_n 1, 1) := by decide +kernel
theorem dX1_lostNow_55 : decode cX1_lostNow 55 = .ok (.iinc 2 1, 3) := by decide +kernel
theorem dX1_lostNow_58 : decode cX1_lostNow 58 = .ok (.goto (-54), 3) := by decide +kernel
theorem dX1_lostNow_61 : decode cX1_lostNow 61 = .ok (.iload_n 1, 1) := by decide +kernel
theorem dX1_lostNow_62 : decode cX1_lostNow 62 = .ok (.ireturn, 1) := by decide +kernel
theorem dX1_follow_0 : decode cX1_follow 0 = .ok (.aload_n 0, 1) := by decide +kernel
theorem dX1_follow_1 : decode cX1_follow 1 = .ok (.invokevirtual 78, 3) := by decide +kernel
theorem dX1_follow_4 : decode cX1_follow 4 = .ok (.aload_n 0, 1) := by decide +kernel
theorem dX1_follow_5 : decode cX1_follow 5 = .ok (.invokevirtual 81, 3) := by decide +kernel
theorem dX1_follow_8 : decode cX1_follow 8 = .ok (.iconst 0, 1) := by decide +kernel
theorem dX1_follow_9 : decode cX1_follow 9 = .ok (.istore_n 3, 1) := by decide +kernel
theorem dX1_follow_10 : decode cX1_follow 10 = .ok (.iconst 0, 1) := by decide +kernel
theorem dX1_follow_11 : decode cX1_follow 11 = .ok (.istore 4, 2) := by decide +kernel
theorem dX1_follow_13 : decode cX1_follow 13 = .ok (.iload 4, 2) := by decide +kernel
theorem dX1_follow_15 : decode cX1_follow 15 = .ok (.aload_n 1, 1) := by decide +kernel
theorem dX1_follow_16 : decode cX1_follow 16 = .ok (.getfield 84, 3) := by decide +kernel
theorem dX1_follow_19 : decode cX1_follow 19 = .ok (.if_icmp .ge 91, 3) := by decide +kernel
theorem dX1_follow_22 : decode cX1_follow 22 = .ok (.iload 4, 2) := by decide +kernel
theorem dX1_follow_24 : decode cX1_follow 24 = .ok (.bipush 60, 2) := by decide +kernel
theorem dX1_follow_26 : decode cX1_follow 26 = .ok (.if_icmp .ge 84, 3) := by decide +kernel
theorem dX1_follow_29 : decode cX1_follow 29 = .ok (.aload_n 0, 1) := by decide +kernel
theorem dX1_follow_30 : decode cX1_follow 30 = .ok (.getfield 89, 3) := by decide +kernel
theorem dX1_follow_33 : decode cX1_follow 33 = .ok (.ifCond .ne 77, 3) := by decide +kernel
theorem dX1_follow_36 : decode cX1_follow 36 = .ok (.aload_n 1, 1) := by decide +kernel
theorem dX1_follow_37 : decode cX1_follow 37 = .ok (.getfield 92, 3) := by decide +kernel
theorem dX1_follow_40 : decode cX1_follow 40 = .ok (.iload 4, 2) := by decide +kernel
theorem dX1_follow_42 : decode cX1_follow 42 = .ok (.iaload, 1) := by decide +kernel
theorem dX1_follow_43 : decode cX1_follow 43 = .ok (.istore 5, 2) := by decide +kernel
theorem dX1_follow_45 : decode cX1_follow 45 = .ok (.iload 5, 2) := by decide +kernel
theorem dX1_follow_47 : decode cX1_follow 47 = .ok (.bipush 46, 2) := by decide +kernel
theorem dX1_follow_49 : decode cX1_follow 49 = .ok (.if_icmp .ne 26, 3) := by decide +kernel
theorem dX1_follow_52 : decode cX1_follow 52 = .ok (.aload_n 0, 1) := by decide +kernel
theorem dX1_follow_53 : decode cX1_follow 53 = .ok (.iconst 0, 1) := by decide +kernel
theorem dX1_follow_54 : decode cX1_follow 54 = .ok (.invokevirtual 95, 3) := by decide +kernel
theorem dX1_follow_57 : decode cX1_follow 57 = .ok (.aload_n 0, 1) := by decide +kernel
theorem dX1_follow_58 : decode cX1_follow 58 = .ok (.iconst 0, 1) := by decide +kernel
theorem dX1_follow_59 : decode cX1_follow 59 = .ok (.putfield 99, 3) := by decide +kernel
theorem dX1_follow_62 : decode cX1_follow 62 = .ok (.aload_n 0, 1) := by decide +kernel
theorem dX1_follow_63 : decode cX1_follow 63 = .ok (.dup, 1) := by decide +kernel
theorem dX1_follow_64 : decode cX1_follow 64 = .ok (.getfield 102, 3) := by decide +kernel
theorem dX1_follow_67 : decode cX1_follow 67 = .ok (.iconst 1, 1) := by decide +kernel
theorem dX1_follow_68 : decode cX1_follow 68 = .ok (.iadd, 1) := by decide +kernel
theorem dX1_follow_69 : decode cX1_follow 69 = .ok (.putfield 102, 3) := by decide +kernel
theorem dX1_follow_72 : decode cX1_follow 72 = .ok (.goto 32, 3) := by decide +kernel
theorem dX1_follow_75 : decode cX1_follow 75 = .ok (.aload_n 1, 1) := by decide +kernel
theorem dX1_follow_76 : decode cX1_follow 76 = .ok (.iload 5, 2) := by decide +kernel
theorem dX1_follow_78 : decode cX1_follow 78 = .ok (.invokevirtual 105, 3) := by decide +kernel
theorem dX1_follow_81 : decode cX1_follow 81 = .ok (.ifCond .eq 12, 3) := by decide +kernel
theorem dX1_follow_84 : decode cX1_follow 84 = .ok (.iload 5, 2) := by decide +kernel
theorem dX1_follow_86 : decode cX1_follow 86 = .ok (.bipush 48, 2) := by decide +kernel
theorem dX1_follow_88 : decode cX1_follow 88 = .ok (.isub, 1) := by decide +kernel
theorem dX1_follow_89 : decode cX1_follow 89 = .ok (.istore_n 3, 1) := by decide +kernel
theorem dX1_follow_90 : decode cX1_follow 90 = .ok (.goto 14, 3) := by decide +kernel
theorem dX1_follow_93 : decode cX1_follow 93 = .ok (.aload_n 0, 1) := by decide +kernel
theorem dX1_follow_94 : decode cX1_follow 94 = .ok (.iload_n 3, 1) := by decide +kernel
theorem dX1_follow_95 : decode cX1_follow 95 = .ok (.iload 5, 2) := by decide +kernel
theorem dX1_follow_97 : decode cX1_follow 97 = .ok (.bipush 97, 2) := by decide +kernel
theorem dX1_follow_99 : decode cX1_follow 99 = .ok (.isub, 1) := by decide +kernel
theorem dX1_follow_100 : decode cX1_follow 100 = .ok (.iload_n 2, 1) := by decide +kernel
theorem dX1_follow_101 : decode cX1_follow 101 = .ok (.invokevirtual 108, 3) := by decide +kernel
theorem dX1_follow_104 : decode cX1_follow 104 = .ok (.iinc 4 1, 3) := by decide +kernel
theorem dX1_follow_107 : decode cX1_follow 107 = .ok (.goto (-94), 3) := by decide +kernel
theorem dX1_follow_110 : decode cX1_follow 110 = .ok (.return_, 1) := by decide +kernel
theorem dX1_beginMoves_0 : decode cX1_beginMoves 0 = .ok (.aload_n 0, 1) := by decide +kernel
theorem dX1_beginMoves_1 : decode cX1_beginMoves 1 = .ok (.iconst 0, 1) := by decide +kernel
theorem dX1_beginMoves_2 : decode cX1_beginMoves 2 = .ok (.putfield 102, 3) := by decide +kernel
theorem dX1_beginMoves_5 : decode cX1_beginMoves 5 = .ok (.aload_n 0, 1) := by decide +kernel
theorem dX1_beginMoves_6 : decode cX1_beginMoves 6 = .ok (.iconst 0, 1) := by decide +kernel
theorem dX1_beginMoves_7 : decode cX1_beginMoves 7 = .ok (.putfield 89, 3) := by decide +kernel
theorem dX1_beginMoves_10 : decode cX1_beginMoves 10 = .ok (.aload_n 0, 1) := by decide +kernel
theorem dX1_beginMoves_11 : decode cX1_beginMoves 11 = .ok (.iconst 0, 1) := by decide +kernel
theorem dX1_beginMoves_12 : decode cX1_beginMoves 12 = .ok (.putfield 112, 3) := by decide +kernel
theorem dX1_beginMoves_15 : decode cX1_beginMoves 15 = .ok (.aload_n 0, 1) := by decide +kernel
theorem dX1_beginMoves_16 : decode cX1_beginMoves 16 = .ok (.iconst 0, 1) := by decide +kernel
theorem dX1_beginMoves_17 : decode cX1_beginMoves 17 = .ok (.putfield 99, 3) := by decide +kernel
theorem dX1_beginMoves_20 : decode cX1_beginMoves 20 = .ok (.aload_n 0, 1) := by decide +kernel
theorem dX1_beginMoves_21 : decode cX1_beginMoves 21 = .ok (.iconst 0, 1) := by decide +kernel
theorem dX1_beginMoves_22 : decode cX1_beginMoves 22 = .ok (.putfield 115, 3) := by decide +kernel
theorem dX1_beginMoves_25 : decode cX1_beginMoves 25 = .ok (.iconst 0, 1) := by decide +kernel
theorem dX1_beginMoves_26 : decode cX1_beginMoves 26 = .ok (.istore_n 1, 1) := by decide +kernel
theorem dX1_beginMoves_27 : decode cX1_beginMoves 27 = .ok (.iload_n 1, 1) := by decide +kernel
theorem dX1_beginMoves_28 : decode cX1_beginMoves 28 = .ok (.bipush 6, 2) := by decide +kernel
theorem dX1_beginMoves_30 : decode cX1_beginMoves 30 = .ok (.if_icmp .ge 27, 3) := by decide +kernel
theorem dX1_beginMoves_33 : decode cX1_beginMoves 33 = .ok (.aload_n 0, 1) := by decide +kernel
theorem dX1_beginMoves_34 : decode cX1_beginMoves 34 = .ok (.getfield 18, 3) := by decide +kernel
theorem dX1_beginMoves_37 : decode cX1_beginMoves 37 = .ok (.iload_n 1, 1) := by decide +kernel
theorem dX1_beginMoves_38 : decode cX1_beginMoves 38 = .ok (.aload_n 0, 1) := by decide +kernel
theorem dX1_beginMoves_39 : decode cX1_beginMoves 39 = .ok (.getfield 21, 3) := by decide +kernel
theorem dX1_beginMoves_42 : decode cX1_beginMoves 42 = .ok (.getfield 33, 3) := by decide +kernel
theorem dX1_beginMoves_45 : decode cX1_beginMoves 45 = .ok (.iload_n 1, 1) := by decide +kernel
theorem dX1_beginMoves_46 : decode cX1_beginMoves 46 = .ok (.iconst 0, 1) := by decide +kernel
theorem dX1_beginMoves_47 : decode cX1_beginMoves 47 = .ok (.invokevirtual 118, 3) := by decide +kernel
theorem dX1_beginMoves_50 : decode cX1_beginMoves 50 = .ok (.iastore, 1) := by decide +kernel
theorem dX1_beginMoves_51 : decode cX1_beginMoves 51 = .ok (.iinc 1 1, 3) := by decide +kernel
theorem dX1_beginMoves_54 : decode cX1_beginMoves 54 = .ok (.goto (-27), 3) := by decide +kernel
theorem dX1_beginMoves_57 : decode cX1_beginMoves 57 = .ok (.return_, 1) := by decide +kernel
theorem dX1_move_0 : decode cX1_move 0 = .ok (.aload_n 0, 1) := by decide +kernel
theorem dX1_move_1 : decode cX1_move 1 = .ok (.aload_n 0, 1) := by decide +kernel
theorem dX1_move_2 : decode cX1_move 2 = .ok (.iload_n 1, 1) := by decide +kernel
theorem dX1_move_3 : decode cX1_move 3 = .ok (.iload_n 2, 1) := by decide +kernel
theorem dX1_move_4 : decode cX1_move 4 = .ok (.iload_n 3, 1) := by decide +kernel
theorem dX1_move_5 : decode cX1_move 5 = .ok (.invokevirtual 121, 3) := by decide +kernel
theorem dX1_move_8 : decode cX1_move 8 = .ok (.putfield 89, 3) := by decide +kernel
theorem dX1_move_11 : decode cX1_move 11 = .ok (.aload_n 0, 1) := by decide +kernel
theorem dX1_move_12 : decode cX1_move 12 = .ok (.getfield 89, 3) := by decide +kernel
theorem dX1_move_15 : decode cX1_move 15 = .ok (.ifCond .eq 4, 3) := by decide +kernel
theorem dX1_move_18 : decode cX1_move 18 = .ok (.return_, 1) := by decide +kernel
theorem dX1_move_19 : decode cX1_move 19 = .ok (.aload_n 0, 1) := by decide +kernel
theorem dX1_move_20 : decode cX1_move 20 = .ok (.getfield 21, 3) := by decide +kernel
theorem dX1_move_23 : decode cX1_move 23 = .ok (.iload_n 1, 1) := by decide +kernel
theorem dX1_move_24 : decode cX1_move 24 = .ok (.aload_n 0, 1) := by decide +kernel
theorem dX1_move_25 : decode cX1_move 25 = .ok (.getfield 9, 3) := by decide +kernel
theorem dX1_move_28 : decode cX1_move 28 = .ok (.iload_n 1, 1) := by decide +kernel
theorem dX1_move_29 : decode cX1_move 29 = .ok (.iaload, 1) := by decide +kernel
theorem dX1_move_30 : decode cX1_move 30 = .ok (.iload_n 2, 1) := by decide +kernel
theorem dX1_move_31 : decode cX1_move 31 = .ok (.invokevirtual 124, 3) := by decide +kernel
theorem dX1_move_34 : decode cX1_move 34 = .ok (.istore 4, 2) := by decide +kernel
theorem dX1_move_36 : decode cX1_move 36 = .ok (.aload_n 0, 1) := by decide +kernel
theorem dX1_move_37 : decode cX1_move 37 = .ok (.dup, 1) := by decide +kernel
theorem dX1_move_38 : decode cX1_move 38 = .ok (.getfield 112, 3) := by decide +kernel
theorem dX1_move_41 : decode cX1_move 41 = .ok (.iload 4, 2) := by decide +kernel
theorem dX1_move_43 : decode cX1_move 43 = .ok (.iadd, 1) := by decide +kernel
theorem dX1_move_44 : decode cX1_move 44 = .ok (.putfield 112, 3) := by decide +kernel
theorem dX1_move_47 : decode cX1_move 47 = .ok (.aload_n 0, 1) := by decide +kernel
theorem dX1_move_48 : decode cX1_move 48 = .ok (.dup, 1) := by decide +kernel
theorem dX1_move_49 : decode cX1_move 49 = .ok (.getfield 99, 3) := by decide +kernel
theorem dX1_move_52 : decode cX1_move 52 = .ok (.iload 4, 2) := by decide +kernel
theorem dX1_move_54 : decode cX1_move 54 = .ok (.iadd, 1) := by decide +kernel
theorem dX1_move_55 : decode cX1_move 55 = .ok (.putfield 99, 3) := by decide +kernel
theorem dX1_move_58 : decode cX1_move 58 = .ok (.aload_n 0, 1) := by decide +kernel
theorem dX1_move_59 : decode cX1_move 59 = .ok (.aload_n 0, 1) := by decide +kernel
theorem dX1_move_60 : decode cX1_move 60 = .ok (.getfield 115, 3) := by decide +kernel
theorem dX1_move_63 : decode cX1_move 63 = .ok (.aload_n 0, 1) := by decide +kernel
theorem dX1_move_64 : decode cX1_move 64 = .ok (.getfield 99, 3) := by decide +kernel
theorem dX1_move_67 : decode cX1_move 67 = .ok (.invokestatic 127, 3) := by decide +kernel
theorem dX1_move_70 : decode cX1_move 70 = .ok (.putfield 115, 3) := by decide +kernel
theorem dX1_move_73 : decode cX1_move 73 = .ok (.aload_n 0, 1) := by decide +kernel
theorem dX1_move_74 : decode cX1_move 74 = .ok (.getfield 18, 3) := by decide +kernel
theorem dX1_move_77 : decode cX1_move 77 = .ok (.aload_n 0, 1) := by decide +kernel
theorem dX1_move_78 : decode cX1_move 78 = .ok (.getfield 9, 3) := by decide +kernel
theorem dX1_move_81 : decode cX1_move 81 = .ok (.iload_n 1, 1) := by decide +kernel
theorem dX1_move_82 : decode cX1_move 82 = .ok (.iaload, 1) := by decide +kernel
theorem dX1_move_83 : decode cX1_move 83 = .ok (.dup2, 1) := by decide +kernel
theorem dX1_move_84 : decode cX1_move 84 = .ok (.iaload, 1) := by decide +kernel
theorem dX1_move_85 : decode cX1_move 85 = .ok (.iconst 1, 1) := by decide +kernel
theorem dX1_move_86 : decode cX1_move 86 = .ok (.isub, 1) := by decide +kernel
theorem dX1_move_87 : decode cX1_move 87 = .ok (.iastore, 1) := by decide +kernel
theorem dX1_move_88 : decode cX1_move 88 = .ok (.aload_n 0, 1) := by decide +kernel
theorem dX1_move_89 : decode cX1_move 89 = .ok (.getfield 18, 3) := by decide +kernel
theorem dX1_move_92 : decode cX1_move 92 = .ok (.iload_n 2, 1) := by decide +kernel
theorem dX1_move_93 : decode cX1_move 93 = .ok (.dup2, 1) := by decide +kernel
theorem dX1_move_94 : decode cX1_move 94 = .ok (.iaload, 1) := by decide +kernel
theorem dX1_move_95 : decode cX1_move 95 = .ok (.iconst 1, 1) := by decide +kernel
theorem dX1_move_96 : decode cX1_move 96 = .ok (.iadd, 1) := by decide +kernel
theorem dX1_move_97 : decode cX1_move 97 = .ok (.iastore, 1) := by decide +kernel
theorem dX1_move_98 : decode cX1_move 98 = .ok (.aload_n 0, 1) := by decide +kernel
theorem dX1_move_99 : decode cX1_move 99 = .ok (.getfield 9, 3) := by decide +kernel
theorem dX1_move_102 : decode cX1_move 102 = .ok (.iload_n 1, 1) := by decide +kernel
theorem dX1_move_103 : decode cX1_move 103 = .ok (.iload_n 2, 1) := by decide +kernel
theorem dX1_move_104 : decode cX1_move 104 = .ok (.iastore, 1) := by decide +kernel
theorem dX1_move_105 : decode cX1_move 105 = .ok (.aload_n 0, 1) := by decide +kernel
theorem dX1_move_106 : decode cX1_move 106 = .ok (.dup, 1) := by decide +kernel
theorem dX1_move_107 : decode cX1_move 107 = .ok (.getfield 102, 3) := by decide +kernel
theorem dX1_move_110 : decode cX1_move 110 = .ok (.iconst 1, 1) := by decide +kernel
theorem dX1_move_111 : decode cX1_move 111 = .ok (.iadd, 1) := by decide +kernel
theorem dX1_move_112 : decode cX1_move 112 = .ok (.putfield 102, 3) := by decide +kernel
theorem dX1_move_115 : decode cX1_move 115 = .ok (.return_, 1) := by decide +kernel
theorem dX1_whyNot_0 : decode cX1_whyNot 0 = .ok (.aload_n 0, 1) := by decide +kernel
theorem dX1_whyNot_1 : decode cX1_whyNot 1 = .ok (.getfield 21, 3) := by decide +kernel
theorem dX1_whyNot_4 : decode cX1_whyNot 4 = .ok (.getfield 33, 3) := by decide +kernel
theorem dX1_whyNot_7 : decode cX1_whyNot 7 = .ok (.iload_n 1, 1) := by decide +kernel
theorem dX1_whyNot_8 : decode cX1_whyNot 8 = .ok (.invokevirtual 48, 3) := by decide +kernel
theorem dX1_whyNot_11 : decode cX1_whyNot 11 = .ok (.ifCond .eq 22, 3) := by decide +kernel
theorem dX1_whyNot_14 : decode cX1_whyNot 14 = .ok (.aload_n 0, 1) := by decide +kernel
theorem dX1_whyNot_15 : decode cX1_whyNot 15 = .ok (.getfield 21, 3) := by decide +kernel
theorem dX1_whyNot_18 : decode cX1_whyNot 18 = .ok (.getfield 130, 3) := by decide +kernel
theorem dX1_whyNot_21 : decode cX1_whyNot 21 = .ok (.aload_n 0, 1) := by decide +kernel
theorem dX1_whyNot_22 : decode cX1_whyNot 22 = .ok (.getfield 9, 3) := by decide +kernel
theorem dX1_whyNot_25 : decode cX1_whyNot 25 = .ok (.iload_n 1, 1) := by decide +kernel
theorem dX1_whyNot_26 : decode cX1_whyNot 26 = .ok (.iaload, 1) := by decide +kernel
theorem dX1_whyNot_27 : decode cX1_whyNot 27 = .ok (.invokevirtual 134, 3) := by decide +kernel
theorem dX1_whyNot_30 : decode cX1_whyNot 30 = .ok (.ifCond .ne 5, 3) := by decide +kernel
theorem dX1_whyNot_33 : decode cX1_whyNot 33 = .ok (.iconst 1, 1) := by decide +kernel
theorem dX1_whyNot_34 : decode cX1_whyNot 34 = .ok (.ireturn, 1) := by decide +kernel
theorem dX1_whyNot_35 : decode cX1_whyNot 35 = .ok (.aload_n 0, 1) := by decide +kernel
theorem dX1_whyNot_36 : decode cX1_whyNot 36 = .ok (.getfield 9, 3) := by decide +kernel
theorem dX1_whyNot_39 : decode cX1_whyNot 39 = .ok (.iload_n 1, 1) := by decide +kernel
theorem dX1_whyNot_40 : decode cX1_whyNot 40 = .ok (.iaload, 1) := by decide +kernel
theorem dX1_whyNot_41 : decode cX1_whyNot 41 = .ok (.iload_n 2, 1) := by decide +kernel
theorem dX1_whyNot_42 : decode cX1_whyNot 42 = .ok (.if_icmp .ne 5, 3) := by decide +kernel
theorem dX1_whyNot_45 : decode cX1_whyNot 45 = .ok (.iconst 2, 1) := by decide +kernel
theorem dX1_whyNot_46 : decode cX1_whyNot 46 = .ok (.ireturn, 1) := by decide +kernel
theorem dX1_whyNot_47 : decode cX1_whyNot 47 = .ok (.aload_n 0, 1) := by decide +kernel
theorem dX1_whyNot_48 : decode cX1_whyNot 48 = .ok (.getfield 21, 3) := by decide +kernel
theorem dX1_whyNot_51 : decode cX1_whyNot 51 = .ok (.getfield 130, 3) := by decide +kernel
theorem dX1_whyNot_54 : decode cX1_whyNot 54 = .ok (.iload_n 2, 1) := by decide +kernel
theorem dX1_whyNot_55 : decode cX1_whyNot 55 = .ok (.invokevirtual 134, 3) := by decide +kernel
theorem dX1_whyNot_58 : decode cX1_whyNot 58 = .ok (.ifCond .eq 24, 3) := by decide +kernel
theorem dX1_whyNot_61 : decode cX1_whyNot 61 = .ok (.aload_n 0, 1) := by decide +kernel
theorem dX1_whyNot_62 : decode cX1_whyNot 62 = .ok (.getfield 18, 3) := by decide +kernel
theorem dX1_whyNot_65 : decode cX1_whyNot 65 = .ok (.iload_n 2, 1) := by decide +kernel
theorem dX1_whyNot_66 : decode cX1_whyNot 66 = .ok (.iaload, 1) := by decide +kernel
theorem dX1_whyNot_67 : decode cX1_whyNot 67 = .ok (.aload_n 0, 1) := by decide +kernel
theorem dX1_whyNot_68 : decode cX1_whyNot 68 = .ok (.getfield 21, 3) := by decide +kernel
theorem dX1_whyNot_71 : decode cX1_whyNot 71 = .ok (.getfield 130, 3) := by decide +kernel
theorem dX1_whyNot_74 : decode cX1_whyNot 74 = .ok (.getfield 137, 3) := by decide +kernel
theorem dX1_whyNot_77 : decode cX1_whyNot 77 = .ok (.iload_n 2, 1) := by decide +kernel
theorem dX1_whyNot_78 : decode cX1_whyNot 78 = .ok (.iaload, 1) := by decide +kernel
theorem dX1_whyNot_79 : decode cX1_whyNot 79 = .ok (.if_icmp .lt 5, 3) := by decide +kernel
theorem dX1_whyNot_82 : decode cX1_whyNot 82 = .ok (.iconst 3, 1) := by decide +kernel
theorem dX1_whyNot_83 : decode cX1_whyNot 83 = .ok (.ireturn, 1) := by decide +kernel
theorem dX1_whyNot_84 : decode cX1_whyNot 84 = .ok (.aload_n 0, 1) := by decide +kernel
theorem dX1_whyNot_85 : decode cX1_whyNot 85 = .ok (.getfield 99, 3) := by decide +kernel
theorem dX1_whyNot_88 : decode cX1_whyNot 88 = .ok (.aload_n 0, 1) := by decide +kernel
theorem dX1_whyNot_89 : decode cX1_whyNot 89 = .ok (.getfield 21, 3) := by decide +kernel
theorem dX1_whyNot_92 : decode cX1_whyNot 92 = .ok (.iload_n 1, 1) := by decide +kernel
theorem dX1_whyNot_93 : decode cX1_whyNot 93 = .ok (.aload_n 0, 1) := by decide +kernel
theorem dX1_whyNot_94 : decode cX1_whyNot 94 = .ok (.getfield 9, 3) := by decide +kernel
theorem dX1_whyNot_97 : decode cX1_whyNot 97 = .ok (.iload_n 1, 1) := by decide +kernel
theorem dX1_whyNot_98 : decode cX1_whyNot 98 = .ok (.iaload, 1) := by decide +kernel
theorem dX1_whyNot_99 : decode cX1_whyNot 99 = .ok (.iload_n 2, 1) := by decide +kernel
theorem dX1_whyNot_100 : decode cX1_whyNot 100 = .ok (.invokevirtual 124, 3) := by decide +kernel
theorem dX1_whyNot_103 : decode cX1_whyNot 103 = .ok (.iadd, 1) := by decide +kernel
theorem dX1_whyNot_104 : decode cX1_whyNot 104 = .ok (.iload_n 3, 1) := by decide +kernel
theorem dX1_whyNot_105 : decode cX1_whyNot 105 = .ok (.if_icmp .le 7, 3) := by decide +kernel
theorem dX1_whyNot_108 : decode cX1_whyNot 108 = .ok (.iconst 4, 1) := by decide +kernel
theorem dX1_whyNot_109 : decode cX1_whyNot 109 = .ok (.goto 4, 3) := by decide +kernel
theorem dX1_whyNot_112 : decode cX1_whyNot 112 = .ok (.iconst 0, 1) := by decide +kernel
theorem dX1_whyNot_113 : decode cX1_whyNot 113 = .ok (.ireturn, 1) := by decide +kernel
theorem dX2_init_0 : decode cX2_init 0 = .ok (.aload_n 0, 1) := by decide +kernel
theorem dX2_init_1 : decode cX2_init 1 = .ok (.invokespecial 3, 3) := by decide +kernel
theorem dX2_init_4 : decode cX2_init 4 = .ok (.aload_n 0, 1) := by decide +kernel
theorem dX2_init_5 : decode cX2_init 5 = .ok (.bipush 100, 2) := by decide +kernel
theorem dX2_init_7 : decode cX2_init 7 = .ok (.newarray .long, 2) := by decide +kernel
theorem dX2_init_9 : decode cX2_init 9 = .ok (.putfield 9, 3) := by decide +kernel
theorem dX2_init_12 : decode cX2_init 12 = .ok (.aload_n 0, 1) := by decide +kernel
theorem dX2_init_13 : decode cX2_init 13 = .ok (.bipush 100, 2) := by decide +kernel
theorem dX2_init_15 : decode cX2_init 15 = .ok (.newarray .long, 2) := by decide +kernel
theorem dX2_init_17 : decode cX2_init 17 = .ok (.putfield 15, 3) := by decide +kernel
theorem dX2_init_20 : decode cX2_init 20 = .ok (.aload_n 0, 1) := by decide +kernel
theorem dX2_init_21 : decode cX2_init 21 = .ok (.aload_n 1, 1) := by decide +kernel
theorem dX2_init_22 : decode cX2_init 22 = .ok (.putfield 18, 3) := by decide +kernel
theorem dX2_init_25 : decode cX2_init 25 = .ok (.aload_n 0, 1) := by decide +kernel
theorem dX2_init_26 : decode cX2_init 26 = .ok (.aload_n 2, 1) := by decide +kernel
theorem dX2_init_27 : decode cX2_init 27 = .ok (.putfield 22, 3) := by decide +kernel
theorem dX2_init_30 : decode cX2_init 30 = .ok (.return_, 1) := by decide +kernel
theorem dX2_allWays_0 : decode cX2_allWays 0 = .ok (.lconst 1, 1) := by decide +kernel
theorem dX2_allWays_1 : decode cX2_allWays 1 = .ok (.lstore_n 2, 1) := by decide +kernel
theorem dX2_allWays_2 : decode cX2_allWays 2 = .ok (.iconst 0, 1) := by decide +kernel
theorem dX2_allWays_3 : decode cX2_allWays 3 = .ok (.istore 4, 2) := by decide +kernel
theorem dX2_allWays_5 : decode cX2_allWays 5 = .ok (.iload 4, 2) := by decide +kernel
theorem dX2_allWays_7 : decode cX2_allWays 7 = .ok (.iload_n 1, 1) := by decide +kernel
theorem dX2_allWays_8 : decode cX2_allWays 8 = .ok (.if_icmp .ge 15, 3) := by decide +kernel
theorem dX2_allWays_11 : decode cX2_allWays 11 = .ok (.lload_n 2, 1) := by decide +kernel
theorem dX2_allWays_12 : decode cX2_allWays 12 = .ok (.ldc2_w 26, 3) := by decide +kernel
theorem dX2_allWays_15 : decode cX2_allWays 15 = .ok (.lmul, 1) := by decide +kernel
theorem dX2_allWays_16 : decode cX2_allWays 16 = .ok (.lstore_n 2, 1) := by decide +kernel
theorem dX2_allWays_17 : decode cX2_allWays 17 = .ok (.iinc 4 1, 3) := by decide +kernel
theorem dX2_allWays_20 : decode cX2_allWays 20 = .ok (.goto (-15), 3) := by decide +kernel
theorem dX2_allWays_23 : decode cX2_allWays 23 = .ok (.lload_n 2, 1) := by decide +kernel
theorem dX2_allWays_24 : decode cX2_allWays 24 = .ok (.lreturn, 1) := by decide +kernel
theorem dX2_sourWays_0 : decode cX2_sourWays 0 = .ok (.aload_n 0, 1) := by decide +kernel
theorem dX2_sourWays_1 : decode cX2_sourWays 1 = .ok (.getfield 18, 3) := by decide +kernel
theorem dX2_sourWays_4 : decode cX2_sourWays 4 = .ok (.getfield 28, 3) := by decide +kernel
theorem dX2_sourWays_7 : decode cX2_sourWays 7 = .ok (.iload_n 1, 1) := by decide +kernel
theorem dX2_sourWays_8 : decode cX2_sourWays 8 = .ok (.invokevirtual 34, 3) := by decide +kernel
theorem dX2_sourWays_11 : decode cX2_sourWays 11 = .ok (.ifCond .ne 5, 3) := by decide +kernel
theorem dX2_sourWays_14 : decode cX2_sourWays 14 = .ok (.lconst 0, 1) := by decide +kernel
theorem dX2_sourWays_15 : decode cX2_sourWays 15 = .ok (.lreturn, 1) := by decide +kernel
theorem dX2_sourWays_16 : decode cX2_sourWays 16 = .ok (.iconst 0, 1) := by decide +kernel
theorem dX2_sourWays_17 : decode cX2_sourWays 17 = .ok (.istore 4, 2) := by decide +kernel
theorem dX2_sourWays_19 : decode cX2_sourWays 19 = .ok (.iload 4, 2) := by decide +kernel
theorem dX2_sourWays_21 : decode cX2_sourWays 21 = .ok (.bipush 99, 2) := by decide +kernel
theorem dX2_sourWays_23 : decode cX2_sourWays 23 = .ok (.if_icmp .gt 26, 3) := by decide +kernel
theorem dX2_sourWays_26 : decode cX2_sourWays 26 = .ok (.aload_n 0, 1) := by decide +kernel
theorem dX2_sourWays_27 : decode cX2_sourWays 27 = .ok (.getfield 9, 3) := by decide +kernel
theorem dX2_sourWays_30 : decode cX2_sourWays 30 = .ok (.iload 4, 2) := by decide +kernel
theorem dX2_sourWays_32 : decode cX2_sourWays 32 = .ok (.iload 4, 2) := by decide +kernel
theorem dX2_sourWays_34 : decode cX2_sourWays 34 = .ok (.ifCond .ne 7, 3) := by decide +kernel
theorem dX2_sourWays_37 : decode cX2_sourWays 37 = .ok (.lconst 1, 1) := by decide +kernel
theorem dX2_sourWays_38 : decode cX2_sourWays 38 = .ok (.goto 4, 3) := by decide +kernel
theorem dX2_sourWays_41 : decode cX2_sourWays 41 = .ok (.lconst 0, 1) := by decide +kernel
theorem dX2_sourWays_42 : decode cX2_sourWays 42 = .ok (.lastore, 1) := by decide +kernel
theorem dX2_sourWays_43 : decode cX2_sourWays 43 = .ok (.iinc 4 1, 3) := by decide +kernel
theorem dX2_sourWays_46 : decode cX2_sourWays 46 = .ok (.goto (-27), 3) := by decide +kernel
theorem dX2_sourWays_49 : decode cX2_sourWays 49 = .ok (.aload_n 0, 1) := by decide +kernel
theorem dX2_sourWays_50 : decode cX2_sourWays 50 = .ok (.getfield 18, 3) := by decide +kernel
theorem dX2_sourWays_53 : decode cX2_sourWays 53 = .ok (.getfield 28, 3) := by decide +kernel
theorem dX2_sourWays_56 : decode cX2_sourWays 56 = .ok (.getfield 40, 3) := by decide +kernel
theorem dX2_sourWays_59 : decode cX2_sourWays 59 = .ok (.iload_n 1, 1) := by decide +kernel
theorem dX2_sourWays_60 : decode cX2_sourWays 60 = .ok (.iaload, 1) := by decide +kernel
theorem dX2_sourWays_61 : decode cX2_sourWays 61 = .ok (.istore 4, 2) := by decide +kernel
theorem dX2_sourWays_63 : decode cX2_sourWays 63 = .ok (.aload_n 0, 1) := by decide +kernel
theorem dX2_sourWays_64 : decode cX2_sourWays 64 = .ok (.getfield 18, 3) := by decide +kernel
theorem dX2_sourWays_67 : decode cX2_sourWays 67 = .ok (.getfield 28, 3) := by decide +kernel
theorem dX2_sourWays_70 : decode cX2_sourWays 70 = .ok (.getfield 44, 3) := by decide +kernel
theorem dX2_sourWays_73 : decode cX2_sourWays 73 = .ok (.iload_n 1, 1) := by decide +kernel
theorem dX2_sourWays_74 : decode cX2_sourWays 74 = .ok (.iaload, 1) := by decide +kernel
theorem dX2_sourWays_75 : decode cX2_sourWays 75 = .ok (.istore 5, 2) := by decide +kernel
theorem dX2_sourWays_77 : decode cX2_sourWays 77 = .ok (.iconst 0, 1) := by decide +kernel
theorem dX2_sourWays_78 : decode cX2_sourWays 78 = .ok (.istore 6, 2) := by decide +kernel
theorem dX2_sourWays_80 : decode cX2_sourWays 80 = .ok (.iload 6, 2) := by decide +kernel
theorem dX2_sourWays_82 : decode cX2_sourWays 82 = .ok (.iload_n 2, 1) := by decide +kernel
theorem dX2_sourWays_83 : decode cX2_sourWays 83 = .ok (.if_icmp .ge 53, 3) := by decide +kernel
theorem dX2_sourWays_86 : decode cX2_sourWays 86 = .ok (.aload_n 0, 1) := by decide +kernel
theorem dX2_sourWays_87 : decode cX2_sourWays 87 = .ok (.getfield 22, 3) := by decide +kernel
theorem dX2_sourWays_90 : decode cX2_sourWays 90 = .ok (.iload 6, 2) := by decide +kernel
theorem dX2_sourWays_92 : decode cX2_sourWays 92 = .ok (.invokevirtual 47, 3) := by decide +kernel
theorem dX2_sourWays_95 : decode cX2_sourWays 95 = .ok (.istore 7, 2) := by decide +kernel
theorem dX2_sourWays_97 : decode cX2_sourWays 97 = .ok (.aload_n 0, 1) := by decide +kernel
theorem dX2_sourWays_98 : decode cX2_sourWays 98 = .ok (.aload_n 0, 1) := by decide +kernel
theorem dX2_sourWays_99 : decode cX2_sourWays 99 = .ok (.getfield 22, 3) := by decide +kernel
theorem dX2_sourWays_102 : decode cX2_sourWays 102 = .ok (.iload 7, 2) := by decide +kernel
theorem dX2_sourWays_104 : decode cX2_sourWays 104 = .ok (.iload 4, 2) := by decide +kernel
theorem dX2_sourWays_106 : decode cX2_sourWays 106 = .ok (.iload 5, 2) := by decide +kernel
theorem dX2_sourWays_108 : decode cX2_sourWays 108 = .ok (.invokevirtual 53, 3) := by decide +kernel
theorem dX2_sourWays_111 : decode cX2_sourWays 111 = .ok (.aload_n 0, 1) := by decide +kernel
theorem dX2_sourWays_112 : decode cX2_sourWays 112 = .ok (.getfield 22, 3) := by decide +kernel
theorem dX2_sourWays_115 : decode cX2_sourWays 115 = .ok (.iload 7, 2) := by decide +kernel
theorem dX2_sourWays_117 : decode cX2_sourWays 117 = .ok (.iconst 1, 1) := by decide +kernel
theorem dX2_sourWays_118 : decode cX2_sourWays 118 = .ok (.iadd, 1) := by decide +kernel
theorem dX2_sourWays_119 : decode cX2_sourWays 119 = .ok (.iload 4, 2) := by decide +kernel
theorem dX2_sourWays_121 : decode cX2_sourWays 121 = .ok (.iload 5, 2) := by decide +kernel
theorem dX2_sourWays_123 : decode cX2_sourWays 123 = .ok (.invokevirtual 53, 3) := by decide +kernel
theorem dX2_sourWays_126 : decode cX2_sourWays 126 = .ok (.iload_n 3, 1) := by decide +kernel
theorem dX2_sourWays_127 : decode cX2_sourWays 127 = .ok (.invokevirtual 57, 3) := by decide +kernel
theorem dX2_sourWays_130 : decode cX2_sourWays 130 = .ok (.iinc 6 1, 3) := by decide +kernel
theorem dX2_sourWays_133 : decode cX2_sourWays 133 = .ok (.goto (-53), 3) := by decide +kernel
theorem dX2_sourWays_136 : decode cX2_sourWays 136 = .ok (.lconst 0, 1) := by decide +kernel
theorem dX2_sourWays_137 : decode cX2_sourWays 137 = .ok (.lstore 6, 2) := by decide +kernel
theorem dX2_sourWays_139 : decode cX2_sourWays 139 = .ok (.iconst 0, 1) := by decide +kernel
theorem dX2_sourWays_140 : decode cX2_sourWays 140 = .ok (.istore 8, 2) := by decide +kernel
theorem dX2_sourWays_142 : decode cX2_sourWays 142 = .ok (.iload 8, 2) := by decide +kernel
theorem dX2_sourWays_144 : decode cX2_sourWays 144 = .ok (.bipush 99, 2) := by decide +kernel
theorem dX2_sourWays_146 : decode cX2_sourWays 146 = .ok (.if_icmp .gt 37, 3) := by decide +kernel
theorem dX2_sourWays_149 : decode cX2_sourWays 149 = .ok (.lload 6, 2) := by decide +kernel
theorem dX2_sourWays_151 : decode cX2_sourWays 151 = .ok (.aload_n 0, 1) := by decide +kernel
theorem dX2_sourWays_152 : decode cX2_sourWays 152 = .ok (.getfield 18, 3) := by decide +kernel
theorem dX2_sourWays_155 : decode cX2_sourWays 155 = .ok (.iload 8, 2) := by decide +kernel
theorem dX2_sourWays_157 : decode cX2_sourWays 157 = .ok (.invokevirtual 61, 3) := by decide +kernel
theorem dX2_sourWays_160 : decode cX2_sourWays 160 = .ok (.ifCond .eq 13, 3) := by decide +kernel
theorem dX2_sourWays_163 : decode cX2_sourWays 163 = .ok (.aload_n 0, 1) := by decide +kernel
theorem dX2_sourWays_164 : decode cX2_sourWays 164 = .ok (.getfield 9, 3) := by decide +kernel
theorem dX2_sourWays_167 : decode cX2_sourWays 167 = .ok (.iload 8, 2) := by decide +kernel
theorem dX2_sourWays_169 : decode cX2_sourWays 169 = .ok (.laload, 1) := by decide +kernel
theorem dX2_sourWays_170 : decode cX2_sourWays 170 = .ok (.goto 4, 3) := by decide +kernel
theorem dX2_sourWays_173 : decode cX2_sourWays 173 = .ok (.lconst 0, 1) := by decide +kernel
theorem dX2_sourWays_174 : decode cX2_sourWays 174 = .ok (.ladd, 1) := by decide +kernel
theorem dX2_sourWays_175 : decode cX2_sourWays 175 = .ok (.lstore 6, 2) := by decide +kernel
theorem dX2_sourWays_177 : decode cX2_sourWays 177 = .ok (.iinc 8 1, 3) := by decide +kernel
theorem dX2_sourWays_180 : decode cX2_sourWays 180 = .ok (.goto (-38), 3) := by decide +kernel
theorem dX2_sourWays_183 : decode cX2_sourWays 183 = .ok (.lload 6, 2) := by decide +kernel
theorem dX2_sourWays_185 : decode cX2_sourWays 185 = .ok (.lreturn, 1) := by decide +kernel
theorem dX2_passDay_0 : decode cX2_passDay 0 = .ok (.iconst 0, 1) := by decide +kernel
theorem dX2_passDay_1 : decode cX2_passDay 1 = .ok (.istore 4, 2) := by decide +kernel
theorem dX2_passDay_3 : decode cX2_passDay 3 = .ok (.iload 4, 2) := by decide +kernel
theorem dX2_passDay_5 : decode cX2_passDay 5 = .ok (.bipush 99, 2) := by decide +kernel
theorem dX2_passDay_7 : decode cX2_passDay 7 = .ok (.if_icmp .gt 17, 3) := by decide +kernel
theorem dX2_passDay_10 : decode cX2_passDay 10 = .ok (.aload_n 0, 1) := by decide +kernel
theorem dX2_passDay_11 : decode cX2_passDay 11 = .ok (.getfield 15, 3) := by decide +kernel
theorem dX2_passDay_14 : decode cX2_passDay 14 = .ok (.iload 4, 2) := by decide +kernel
theorem dX2_passDay_16 : decode cX2_passDay 16 = .ok (.lconst 0, 1) := by decide +kernel
theorem dX2_passDay_17 : decode cX2_passDay 17 = .ok (.lastore, 1) := by decide +kernel
theorem dX2_passDay_18 : decode cX2_passDay 18 = .ok (.iinc 4 1, 3) := by decide +kernel
theorem dX2_passDay_21 : decode cX2_passDay 21 = .ok (.goto (-18), 3) := by decide +kernel
theorem dX2_passDay_24 : decode cX2_passDay 24 = .ok (.iconst 0, 1) := by decide +kernel
theorem dX2_passDay_25 : decode cX2_passDay 25 = .ok (.istore 4, 2) := by decide +kernel
theorem dX2_passDay_27 : decode cX2_passDay 27 = .ok (.iload 4, 2) := by decide +kernel
theorem dX2_passDay_29 : decode cX2_passDay 29 = .ok (.bipush 99, 2) := by decide +kernel
theorem dX2_passDay_31 : decode cX2_passDay 31 = .ok (.if_icmp .gt 78, 3) := by decide +kernel
theorem dX2_passDay_34 : decode cX2_passDay 34 = .ok (.aload_n 0, 1) := by decide +kernel
theorem dX2_passDay_35 : decode cX2_passDay 35 = .ok (.getfield 9, 3) := by decide +kernel
theorem dX2_passDay_38 : decode cX2_passDay 38 = .ok (.iload 4, 2) := by decide +kernel
theorem dX2_passDay_40 : decode cX2_passDay 40 = .ok (.laload, 1) := by decide +kernel
theorem dX2_passDay_41 : decode cX2_passDay 41 = .ok (.lconst 0, 1) := by decide +kernel
theorem dX2_passDay_42 : decode cX2_passDay 42 = .ok (.lcmp, 1) := by decide +kernel
theorem dX2_passDay_43 : decode cX2_passDay 43 = .ok (.ifCond .eq 60, 3) := by decide +kernel
theorem dX2_passDay_46 : decode cX2_passDay 46 = .ok (.aload_n 0, 1) := by decide +kernel
theorem dX2_passDay_47 : decode cX2_passDay 47 = .ok (.getfield 15, 3) := by decide +kernel
theorem dX2_passDay_50 : decode cX2_passDay 50 = .ok (.bipush 99, 2) := by decide +kernel
theorem dX2_passDay_52 : decode cX2_passDay 52 = .ok (.iload 4, 2) := by decide +kernel
theorem dX2_passDay_54 : decode cX2_passDay 54 = .ok (.iload_n 1, 1) := by decide +kernel
theorem dX2_passDay_55 : decode cX2_passDay 55 = .ok (.iadd, 1) := by decide +kernel
theorem dX2_passDay_56 : decode cX2_passDay 56 = .ok (.invokestatic 64, 3) := by decide +kernel
theorem dX2_passDay_59 : decode cX2_passDay 59 = .ok (.dup2, 1) := by decide +kernel
theorem dX2_passDay_60 : decode cX2_passDay 60 = .ok (.laload, 1) := by decide +kernel
theorem dX2_passDay_61 : decode cX2_passDay 61 = .ok (.aload_n 0, 1) := by decide +kernel
theorem dX2_passDay_62 : decode cX2_passDay 62 = .ok (.getfield 9, 3) := by decide +kernel
theorem dX2_passDay_65 : decode cX2_passDay 65 = .ok (.iload 4, 2) := by decide +kernel
theorem dX2_passDay_67 : decode cX2_passDay 67 = .ok (.laload, 1) := by decide +kernel
theorem dX2_passDay_68 : decode cX2_passDay 68 = .ok (.bipush 10, 2) := by decide +kernel
theorem dX2_passDay_70 : decode cX2_passDay 70 = .ok (.iload_n 3, 1) := by decide +kernel
theorem dX2_passDay_71 : decode cX2_passDay 71 = .ok (.isub, 1) := by decide +kernel
theorem dX2_passDay_72 : decode cX2_passDay 72 = .ok (.i2l, 1) := by decide +kernel
theorem dX2_passDay_73 : decode cX2_passDay 73 = .ok (.lmul, 1) := by decide +kernel
theorem dX2_passDay_74 : decode cX2_passDay 74 = .ok (.ladd, 1) := by decide +kernel
theorem dX2_passDay_75 : decode cX2_passDay 75 = .ok (.lastore, 1) := by decide +kernel
theorem dX2_passDay_76 : decode cX2_passDay 76 = .ok (.aload_n 0, 1) := by decide +kernel
theorem dX2_passDay_77 : decode cX2_passDay 77 = .ok (.getfield 15, 3) := by decide +kernel
theorem dX2_passDay_80 : decode cX2_passDay 80 = .ok (.bipush 99, 2) := by decide +kernel
theorem dX2_passDay_82 : decode cX2_passDay 82 = .ok (.iload 4, 2) := by decide +kernel
theorem dX2_passDay_84 : decode cX2_passDay 84 = .ok (.iload_n 2, 1) := by decide +kernel
theorem dX2_passDay_85 : decode cX2_passDay 85 = .ok (.iadd, 1) := by decide +kernel
theorem dX2_passDay_86 : decode cX2_passDay 86 = .ok (.invokestatic 64, 3) := by decide +kernel
theorem dX2_passDay_89 : decode cX2_passDay 89 = .ok (.dup2, 1) := by decide +kernel
theorem dX2_passDay_90 : decode cX2_passDay 90 = .ok (.laload, 1) := by decide +kernel
theorem dX2_passDay_91 : decode cX2_passDay 91 = .ok (.aload_n 0, 1) := by decide +kernel
theorem dX2_passDay_92 : decode cX2_passDay 92 = .ok (.getfield 9, 3) := by decide +kernel
theorem dX2_passDay_95 : decode cX2_passDay 95 = .ok (.iload 4, 2) := by decide +kernel
theorem dX2_passDay_97 : decode cX2_passDay 97 = .ok (.laload, 1) := by decide +kernel
theorem dX2_passDay_98 : decode cX2_passDay 98 = .ok (.iload_n 3, 1) := by decide +kernel
theorem dX2_passDay_99 : decode cX2_passDay 99 = .ok (.i2l, 1) := by decide +kernel
theorem dX2_passDay_100 : decode cX2_passDay 100 = .ok (.lmul, 1) := by decide +kernel
theorem dX2_passDay_101 : decode cX2_passDay 101 = .ok (.ladd, 1) := by decide +kernel
theorem dX2_passDay_102 : decode cX2_passDay 102 = .ok (.lastore, 1) := by decide +kernel
theorem dX2_passDay_103 : decode cX2_passDay 103 = .ok (.iinc 4 1, 3) := by decide +kernel
theorem dX2_passDay_106 : decode cX2_passDay 106 = .ok (.goto (-79), 3) := by decide +kernel
theorem dX2_passDay_109 : decode cX2_passDay 109 = .ok (.aload_n 0, 1) := by decide +kernel
theorem dX2_passDay_110 : decode cX2_passDay 110 = .ok (.getfield 15, 3) := by decide +kernel
theorem dX2_passDay_113 : decode cX2_passDay 113 = .ok (.iconst 0, 1) := by decide +kernel
theorem dX2_passDay_114 : decode cX2_passDay 114 = .ok (.aload_n 0, 1) := by decide +kernel
theorem dX2_passDay_115 : decode cX2_passDay 115 = .ok (.getfield 9, 3) := by decide +kernel
theorem dX2_passDay_118 : decode cX2_passDay 118 = .ok (.iconst 0, 1) := by decide +kernel
theorem dX2_passDay_119 : decode cX2_passDay 119 = .ok (.bipush 100, 2) := by decide +kernel
theorem dX2_passDay_121 : decode cX2_passDay 121 = .ok (.invokestatic 70, 3) := by decide +kernel
theorem dX2_passDay_124 : decode cX2_passDay 124 = .ok (.return_, 1) := by decide +kernel
theorem dX3_init_0 : decode cX3_init 0 = .ok (.aload_n 0, 1) := by decide +kernel
theorem dX3_init_1 : decode cX3_init 1 = .ok (.invokespecial 3, 3) := by decide +kernel
theorem dX3_init_4 : decode cX3_init 4 = .ok (.aload_n 0, 1) := by decide +kernel
theorem dX3_init_5 : decode cX3_init 5 = .ok (.bipush 60, 2) := by decide +kernel
theorem dX3_init_7 : decode cX3_init 7 = .ok (.newarray .int, 2) := by decide +kernel
theorem dX3_init_9 : decode cX3_init 9 = .ok (.putfield 9, 3) := by decide +kernel
theorem dX3_init_12 : decode cX3_init 12 = .ok (.return_, 1) := by decide +kernel
theorem dX3_faultAsTable_0 : decode cX3_faultAsTable 0 = .ok (.iconst 0, 1) := by decide +kernel
theorem dX3_faultAsTable_1 : decode cX3_faultAsTable 1 = .ok (.istore_n 1, 1) := by decide +kernel
theorem dX3_faultAsTable_2 : decode cX3_faultAsTable 2 = .ok (.iload_n 1, 1) := by decide +kernel
theorem dX3_faultAsTable_3 : decode cX3_faultAsTable 3 = .ok (.aload_n 0, 1) := by decide +kernel
theorem dX3_faultAsTable_4 : decode cX3_faultAsTable 4 = .ok (.getfield 15, 3) := by decide +kernel
theorem dX3_faultAsTable_7 : decode cX3_faultAsTable 7 = .ok (.if_icmp .ge 39, 3) := by decide +kernel
theorem dX3_faultAsTable_10 : decode cX3_faultAsTable 10 = .ok (.iload_n 1, 1) := by decide +kernel
theorem dX3_faultAsTable_11 : decode cX3_faultAsTable 11 = .ok (.bipush 60, 2) := by decide +kernel
theorem dX3_faultAsTable_13 : decode cX3_faultAsTable 13 = .ok (.if_icmp .ge 33, 3) := by decide +kernel
theorem dX3_faultAsTable_16 : decode cX3_faultAsTable 16 = .ok (.iload_n 1, 1) := by decide +kernel
theorem dX3_faultAsTable_17 : decode cX3_faultAsTable 17 = .ok (.bipush 30, 2) := by decide +kernel
theorem dX3_faultAsTable_19 : decode cX3_faultAsTable 19 = .ok (.if_icmp .ge 19, 3) := by decide +kernel
theorem dX3_faultAsTable_22 : decode cX3_faultAsTable 22 = .ok (.aload_n 0, 1) := by decide +kernel
theorem dX3_faultAsTable_23 : decode cX3_faultAsTable 23 = .ok (.getfield 9, 3) := by decide +kernel
theorem dX3_faultAsTable_26 : decode cX3_faultAsTable 26 = .ok (.iload_n 1, 1) := by decide +kernel
theorem dX3_faultAsTable_27 : decode cX3_faultAsTable 27 = .ok (.iaload, 1) := by decide +kernel
theorem dX3_faultAsTable_28 : decode cX3_faultAsTable 28 = .ok (.bipush 48, 2) := by decide +kernel
theorem dX3_faultAsTable_30 : decode cX3_faultAsTable 30 = .ok (.bipush 57, 2) := by decide +kernel
theorem dX3_faultAsTable_32 : decode cX3_faultAsTable 32 = .ok (.invokestatic 19, 3) := by decide +kernel
theorem dX3_faultAsTable_35 : decode cX3_faultAsTable 35 = .ok (.ifCond .ne 5, 3) := by decide +kernel
theorem dX3_faultAsTable_38 : decode cX3_faultAsTable 38 = .ok (.iload_n 1, 1) := by decide +kernel
theorem dX3_faultAsTable_39 : decode cX3_faultAsTable 39 = .ok (.ireturn, 1) := by decide +kernel
theorem dX3_faultAsTable_40 : decode cX3_faultAsTable 40 = .ok (.iinc 1 1, 3) := by decide +kernel
theorem dX3_faultAsTable_43 : decode cX3_faultAsTable 43 = .ok (.goto (-41), 3) := by decide +kernel
theorem dX3_faultAsTable_46 : decode cX3_faultAsTable 46 = .ok (.aload_n 0, 1) := by decide +kernel
theorem dX3_faultAsTable_47 : decode cX3_faultAsTable 47 = .ok (.getfield 15, 3) := by decide +kernel
theorem dX3_faultAsTable_50 : decode cX3_faultAsTable 50 = .ok (.ifCond .ne 7, 3) := by decide +kernel
theorem dX3_faultAsTable_53 : decode cX3_faultAsTable 53 = .ok (.iconst 0, 1) := by decide +kernel
theorem dX3_faultAsTable_54 : decode cX3_faultAsTable 54 = .ok (.goto 5, 3) := by decide +kernel
theorem dX3_faultAsTable_57 : decode cX3_faultAsTable 57 = .ok (.bipush (-6), 2) := by decide +kernel
theorem dX3_faultAsTable_59 : decode cX3_faultAsTable 59 = .ok (.ireturn, 1) := by decide +kernel
theorem dX3_faultAsMoves_0 : decode cX3_faultAsMoves 0 = .ok (.iconst 0, 1) := by decide +kernel
theorem dX3_faultAsMoves_1 : decode cX3_faultAsMoves 1 = .ok (.istore_n 2, 1) := by decide +kernel
theorem dX3_faultAsMoves_2 : decode cX3_faultAsMoves 2 = .ok (.iconst 0, 1) := by decide +kernel
theorem dX3_faultAsMoves_3 : decode cX3_faultAsMoves 3 = .ok (.istore_n 3, 1) := by decide +kernel
theorem dX3_faultAsMoves_4 : decode cX3_faultAsMoves 4 = .ok (.iload_n 3, 1) := by decide +kernel
theorem dX3_faultAsMoves_5 : decode cX3_faultAsMoves 5 = .ok (.aload_n 0, 1) := by decide +kernel
theorem dX3_faultAsMoves_6 : decode cX3_faultAsMoves 6 = .ok (.getfield 15, 3) := by decide +kernel
theorem dX3_faultAsMoves_9 : decode cX3_faultAsMoves 9 = .ok (.if_icmp .ge 73, 3) := by decide +kernel
theorem dX3_faultAsMoves_12 : decode cX3_faultAsMoves 12 = .ok (.iload_n 3, 1) := by decide +kernel
theorem dX3_faultAsMoves_13 : decode cX3_faultAsMoves 13 = .ok (.bipush 60, 2) := by decide +kernel
theorem dX3_faultAsMoves_15 : decode cX3_faultAsMoves 15 = .ok (.if_icmp .ge 67, 3) := by decide +kernel
theorem dX3_faultAsMoves_18 : decode cX3_faultAsMoves 18 = .ok (.aload_n 0, 1) := by decide +kernel
theorem dX3_faultAsMoves_19 : decode cX3_faultAsMoves 19 = .ok (.getfield 9, 3) := by decide +kernel
theorem dX3_faultAsMoves_22 : decode cX3_faultAsMoves 22 = .ok (.iload_n 3, 1) := by decide +kernel
theorem dX3_faultAsMoves_23 : decode cX3_faultAsMoves 23 = .ok (.iaload, 1) := by decide +kernel
theorem dX3_faultAsMoves_24 : decode cX3_faultAsMoves 24 = .ok (.istore 4, 2) := by decide +kernel
theorem dX3_faultAsMoves_26 : decode cX3_faultAsMoves 26 = .ok (.iload_n 2, 1) := by decide +kernel
theorem dX3_faultAsMoves_27 : decode cX3_faultAsMoves 27 = .ok (.ifCond .eq 26, 3) := by decide +kernel
theorem dX3_faultAsMoves_30 : decode cX3_faultAsMoves 30 = .ok (.iload 4, 2) := by decide +kernel
theorem dX3_faultAsMoves_32 : decode cX3_faultAsMoves 32 = .ok (.bipush 97, 2) := by decide +kernel
theorem dX3_faultAsMoves_34 : decode cX3_faultAsMoves 34 = .ok (.bipush 97, 2) := by decide +kernel
theorem dX3_faultAsMoves_36 : decode cX3_faultAsMoves 36 = .ok (.iload_n 1, 1) := by decide +kernel
theorem dX3_faultAsMoves_37 : decode cX3_faultAsMoves 37 = .ok (.iadd, 1) := by decide +kernel
theorem dX3_faultAsMoves_38 : decode cX3_faultAsMoves 38 = .ok (.iconst 1, 1) := by decide +kernel
theorem dX3_faultAsMoves_39 : decode cX3_faultAsMoves 39 = .ok (.isub, 1) := by decide +kernel
theorem dX3_faultAsMoves_40 : decode cX3_faultAsMoves 40 = .ok (.invokestatic 19, 3) := by decide +kernel
theorem dX3_faultAsMoves_43 : decode cX3_faultAsMoves 43 = .ok (.ifCond .ne 5, 3) := by decide +kernel
theorem dX3_faultAsMoves_46 : decode cX3_faultAsMoves 46 = .ok (.iload_n 3, 1) := by decide +kernel
theorem dX3_faultAsMoves_47 : decode cX3_faultAsMoves 47 = .ok (.ireturn, 1) := by decide +kernel
theorem dX3_faultAsMoves_48 : decode cX3_faultAsMoves 48 = .ok (.iconst 0, 1) := by decide +kernel
theorem dX3_faultAsMoves_49 : decode cX3_faultAsMoves 49 = .ok (.istore_n 2, 1) := by decide +kernel
theorem dX3_faultAsMoves_50 : decode cX3_faultAsMoves 50 = .ok (.goto 26, 3) := by decide +kernel
theorem dX3_faultAsMoves_53 : decode cX3_faultAsMoves 53 = .ok (.aload_n 0, 1) := by decide +kernel
theorem dX3_faultAsMoves_54 : decode cX3_faultAsMoves 54 = .ok (.iload 4, 2) := by decide +kernel
theorem dX3_faultAsMoves_56 : decode cX3_faultAsMoves 56 = .ok (.invokevirtual 23, 3) := by decide +kernel
theorem dX3_faultAsMoves_59 : decode cX3_faultAsMoves 59 = .ok (.ifCond .eq 8, 3) := by decide +kernel
theorem dX3_faultAsMoves_62 : decode cX3_faultAsMoves 62 = .ok (.iconst 1, 1) := by decide +kernel
theorem dX3_faultAsMoves_63 : decode cX3_faultAsMoves 63 = .ok (.istore_n 2, 1) := by decide +kernel
theorem dX3_faultAsMoves_64 : decode cX3_faultAsMoves 64 = .ok (.goto 12, 3) := by decide +kernel
theorem dX3_faultAsMoves_67 : decode cX3_faultAsMoves 67 = .ok (.iload 4, 2) := by decide +kernel
theorem dX3_faultAsMoves_69 : decode cX3_faultAsMoves 69 = .ok (.bipush 46, 2) := by decide +kernel
theorem dX3_faultAsMoves_71 : decode cX3_faultAsMoves 71 = .ok (.if_icmp .eq 5, 3) := by decide +kernel
theorem dX3_faultAsMoves_74 : decode cX3_faultAsMoves 74 = .ok (.iload_n 3, 1) := by decide +kernel
theorem dX3_faultAsMoves_75 : decode cX3_faultAsMoves 75 = .ok (.ireturn, 1) := by decide +kernel
theorem dX3_faultAsMoves_76 : decode cX3_faultAsMoves 76 = .ok (.iinc 3 1, 3) := by decide +kernel
theorem dX3_faultAsMoves_79 : decode cX3_faultAsMoves 79 = .ok (.goto (-75), 3) := by decide +kernel
theorem dX3_faultAsMoves_82 : decode cX3_faultAsMoves 82 = .ok (.iload_n 2, 1) := by decide +kernel
theorem dX3_faultAsMoves_83 : decode cX3_faultAsMoves 83 = .ok (.ifCond .eq 10, 3) := by decide +kernel
theorem dX3_faultAsMoves_86 : decode cX3_faultAsMoves 86 = .ok (.aload_n 0, 1) := by decide +kernel
theorem dX3_faultAsMoves_87 : decode cX3_faultAsMoves 87 = .ok (.getfield 15, 3) := by decide +kernel
theorem dX3_faultAsMoves_90 : decode cX3_faultAsMoves 90 = .ok (.goto 5, 3) := by decide +kernel
theorem dX3_faultAsMoves_93 : decode cX3_faultAsMoves 93 = .ok (.bipush (-6), 2) := by decide +kernel
theorem dX3_faultAsMoves_95 : decode cX3_faultAsMoves 95 = .ok (.ireturn, 1) := by decide +kernel
theorem dX3_isBarrel_0 : decode cX3_isBarrel 0 = .ok (.iload_n 1, 1) := by decide +kernel
theorem dX3_isBarrel_1 : decode cX3_isBarrel 1 = .ok (.bipush 48, 2) := by decide +kernel
theorem dX3_isBarrel_3 : decode cX3_isBarrel 3 = .ok (.bipush 55, 2) := by decide +kernel
theorem dX3_isBarrel_5 : decode cX3_isBarrel 5 = .ok (.invokestatic 19, 3) := by decide +kernel
theorem dX3_isBarrel_8 : decode cX3_isBarrel 8 = .ok (.ireturn, 1) := by decide +kernel
theorem dX4_init_0 : decode cX4_init 0 = .ok (.aload_n 0, 1) := by decide +kernel
theorem dX4_init_1 : decode cX4_init 1 = .ok (.invokespecial 3, 3) := by decide +kernel
theorem dX4_init_4 : decode cX4_init 4 = .ok (.aload_n 0, 1) := by decide +kernel
theorem dX4_init_5 : decode cX4_init 5 = .ok (.iconst 4, 1) := by decide +kernel
theorem dX4_init_6 : decode cX4_init 6 = .ok (.newarray .int, 2) := by decide +kernel
theorem dX4_init_8 : decode cX4_init 8 = .ok (.putfield 9, 3) := by decide +kernel
theorem dX4_init_11 : decode cX4_init 11 = .ok (.aload_n 0, 1) := by decide +kernel
theorem dX4_init_12 : decode cX4_init 12 = .ok (.iconst 4, 1) := by decide +kernel
theorem dX4_init_13 : decode cX4_init 13 = .ok (.newarray .int, 2) := by decide +kernel
theorem dX4_init_15 : decode cX4_init 15 = .ok (.putfield 15, 3) := by decide +kernel
theorem dX4_init_18 : decode cX4_init 18 = .ok (.aload_n 0, 1) := by decide +kernel
theorem dX4_init_19 : decode cX4_init 19 = .ok (.iconst 4, 1) := by decide +kernel
theorem dX4_init_20 : decode cX4_init 20 = .ok (.newarray .int, 2) := by decide +kernel
theorem dX4_init_22 : decode cX4_init 22 = .ok (.putfield 18, 3) := by decide +kernel
theorem dX4_init_25 : decode cX4_init 25 = .ok (.aload_n 0, 1) := by decide +kernel
theorem dX4_init_26 : decode cX4_init 26 = .ok (.iconst 4, 1) := by decide +kernel
theorem dX4_init_27 : decode cX4_init 27 = .ok (.newarray .int, 2) := by decide +kernel
theorem dX4_init_29 : decode cX4_init 29 = .ok (.putfield 21, 3) := by decide +kernel
theorem dX4_init_32 : decode cX4_init 32 = .ok (.aload_n 0, 1) := by decide +kernel
theorem dX4_init_33 : decode cX4_init 33 = .ok (.bipush 6, 2) := by decide +kernel
theorem dX4_init_35 : decode cX4_init 35 = .ok (.newarray .int, 2) := by decide +kernel
theorem dX4_init_37 : decode cX4_init 37 = .ok (.putfield 24, 3) := by decide +kernel
theorem dX4_init_40 : decode cX4_init 40 = .ok (.aload_n 0, 1) := by decide +kernel
theorem dX4_init_41 : decode cX4_init 41 = .ok (.aload_n 1, 1) := by decide +kernel
theorem dX4_init_42 : decode cX4_init 42 = .ok (.putfield 27, 3) := by decide +kernel
theorem dX4_init_45 : decode cX4_init 45 = .ok (.aload_n 0, 1) := by decide +kernel
theorem dX4_init_46 : decode cX4_init 46 = .ok (.aload_n 2, 1) := by decide +kernel
theorem dX4_init_47 : decode cX4_init 47 = .ok (.putfield 31, 3) := by decide +kernel
theorem dX4_init_50 : decode cX4_init 50 = .ok (.return_, 1) := by decide +kernel
theorem dX4_choose_0 : decode cX4_choose 0 = .ok (.aload_n 0, 1) := by decide +kernel
theorem dX4_choose_1 : decode cX4_choose 1 = .ok (.iconst 0, 1) := by decide +kernel
theorem dX4_choose_2 : decode cX4_choose 2 = .ok (.putfield 35, 3) := by decide +kernel
theorem dX4_choose_5 : decode cX4_choose 5 = .ok (.iconst 0, 1) := by decide +kernel
theorem dX4_choose_6 : decode cX4_choose 6 = .ok (.istore_n 3, 1) := by decide +kernel
theorem dX4_choose_7 : decode cX4_choose 7 = .ok (.iload_n 3, 1) := by decide +kernel
theorem dX4_choose_8 : decode cX4_choose 8 = .ok (.bipush 8, 2) := by decide +kernel
theorem dX4_choose_10 : decode cX4_choose 10 = .ok (.if_icmp .ge 74, 3) := by decide +kernel
theorem dX4_choose_13 : decode cX4_choose 13 = .ok (.aload_n 0, 1) := by decide +kernel
theorem dX4_choose_14 : decode cX4_choose 14 = .ok (.getfield 35, 3) := by decide +kernel
theorem dX4_choose_17 : decode cX4_choose 17 = .ok (.iconst 4, 1) := by decide +kernel
theorem dX4_choose_18 : decode cX4_choose 18 = .ok (.if_icmp .ge 66, 3) := by decide +kernel
theorem dX4_choose_21 : decode cX4_choose 21 = .ok (.aload_n 0, 1) := by decide +kernel
theorem dX4_choose_22 : decode cX4_choose 22 = .ok (.getfield 27, 3) := by decide +kernel
theorem dX4_choose_25 : decode cX4_choose 25 = .ok (.getfield 39, 3) := by decide +kernel
theorem dX4_choose_28 : decode cX4_choose 28 = .ok (.iload_n 3, 1) := by decide +kernel
theorem dX4_choose_29 : decode cX4_choose 29 = .ok (.invokevirtual 45, 3) := by decide +kernel
theorem dX4_choose_32 : decode cX4_choose 32 = .ok (.ifCond .eq 46, 3) := by decide +kernel
theorem dX4_choose_35 : decode cX4_choose 35 = .ok (.iload_n 1, 1) := by decide +kernel
theorem dX4_choose_36 : decode cX4_choose 36 = .ok (.iload_n 3, 1) := by decide +kernel
theorem dX4_choose_37 : decode cX4_choose 37 = .ok (.invokestatic 51, 3) := by decide +kernel
theorem dX4_choose_40 : decode cX4_choose 40 = .ok (.ifCond .eq 38, 3) := by decide +kernel
theorem dX4_choose_43 : decode cX4_choose 43 = .ok (.aload_n 0, 1) := by decide +kernel
theorem dX4_choose_44 : decode cX4_choose 44 = .ok (.getfield 9, 3) := by decide +kernel
theorem dX4_choose_47 : decode cX4_choose 47 = .ok (.aload_n 0, 1) := by decide +kernel
theorem dX4_choose_48 : decode cX4_choose 48 = .ok (.getfield 35, 3) := by decide +kernel
theorem dX4_choose_51 : decode cX4_choose 51 = .ok (.iload_n 3, 1) := by decide +kernel
theorem dX4_choose_52 : decode cX4_choose 52 = .ok (.iastore, 1) := by decide +kernel
theorem dX4_choose_53 : decode cX4_choose 53 = .ok (.aload_n 0, 1) := by decide +kernel
theorem dX4_choose_54 : decode cX4_choose 54 = .ok (.getfield 15, 3) := by decide +kernel
theorem dX4_choose_57 : decode cX4_choose 57 = .ok (.aload_n 0, 1) := by decide +kernel
theorem dX4_choose_58 : decode cX4_choose 58 = .ok (.getfield 35, 3) := by decide +kernel
theorem dX4_choose_61 : decode cX4_choose 61 = .ok (.aload_n 0, 1) := by decide +kernel
theorem dX4_choose_62 : decode cX4_choose 62 = .ok (.iload_n 3, 1) := by decide +kernel
theorem dX4_choose_63 : decode cX4_choose 63 = .ok (.iload_n 2, 1) := by decide +kernel
theorem dX4_choose_64 : decode cX4_choose 64 = .ok (.invokevirtual 55, 3) := by decide +kernel
theorem dX4_choose_67 : decode cX4_choose 67 = .ok (.iastore, 1) := by decide +kernel
theorem dX4_choose_68 : decode cX4_choose 68 = .ok (.aload_n 0, 1) := by decide +kernel
theorem dX4_choose_69 : decode cX4_choose 69 = .ok (.dup, 1) := by decide +kernel
theorem dX4_choose_70 : decode cX4_choose 70 = .ok (.getfield 35, 3) := by decide +kernel
theorem dX4_choose_73 : decode cX4_choose 73 = .ok (.iconst 1, 1) := by decide +kernel
theorem dX4_choose_74 : decode cX4_choose 74 = .ok (.iadd, 1) := by decide +kernel
theorem dX4_choose_75 : decode cX4_choose 75 = .ok (.putfield 35, 3) := by decide +kernel
theorem dX4_choose_78 : decode cX4_choose 78 = .ok (.iinc 3 1, 3) := by decide +kernel
theorem dX4_choose_81 : decode cX4_choose 81 = .ok (.goto (-74), 3) := by decide +kernel
theorem dX4_choose_84 : decode cX4_choose 84 = .ok (.iconst 0, 1) := by decide +kernel
theorem dX4_choose_85 : decode cX4_choose 85 = .ok (.istore_n 3, 1) := by decide +kernel
theorem dX4_choose_86 : decode cX4_choose 86 = .ok (.iload_n 3, 1) := by decide +kernel
theorem dX4_choose_87 : decode cX4_choose 87 = .ok (.bipush 6, 2) := by decide +kernel
theorem dX4_choose_89 : decode cX4_choose 89 = .ok (.if_icmp .ge 40, 3) := by decide +kernel
theorem dX4_choose_92 : decode cX4_choose 92 = .ok (.aload_n 0, 1) := by decide +kernel
theorem dX4_choose_93 : decode cX4_choose 93 = .ok (.getfield 24, 3) := by decide +kernel
theorem dX4_choose_96 : decode cX4_choose 96 = .ok (.iload_n 3, 1) := by decide +kernel
theorem dX4_choose_97 : decode cX4_choose 97 = .ok (.aload_n 0, 1) := by decide +kernel
theorem dX4_choose_98 : decode cX4_choose 98 = .ok (.getfield 27, 3) := by decide +kernel
theorem dX4_choose_101 : decode cX4_choose 101 = .ok (.getfield 59, 3) := by decide +kernel
theorem dX4_choose_104 : decode cX4_choose 104 = .ok (.getfield 63, 3) := by decide +kernel
theorem dX4_choose_107 : decode cX4_choose 107 = .ok (.iload_n 3, 1) := by decide +kernel
theorem dX4_choose_108 : decode cX4_choose 108 = .ok (.iaload, 1) := by decide +kernel
theorem dX4_choose_109 : decode cX4_choose 109 = .ok (.aload_n 0, 1) := by decide +kernel
theorem dX4_choose_110 : decode cX4_choose 110 = .ok (.getfield 27, 3) := by decide +kernel
theorem dX4_choose_113 : decode cX4_choose 113 = .ok (.getfield 39, 3) := by decide +kernel
theorem dX4_choose_116 : decode cX4_choose 116 = .ok (.iload_n 3, 1) := by decide +kernel
theorem dX4_choose_117 : decode cX4_choose 117 = .ok (.iload_n 1, 1) := by decide +kernel
theorem dX4_choose_118 : decode cX4_choose 118 = .ok (.invokevirtual 68, 3) := by decide +kernel
theorem dX4_choose_121 : decode cX4_choose 121 = .ok (.isub, 1) := by decide +kernel
theorem dX4_choose_122 : decode cX4_choose 122 = .ok (.iastore, 1) := by decide +kernel
theorem dX4_choose_123 : decode cX4_choose 123 = .ok (.iinc 3 1, 3) := by decide +kernel
theorem dX4_choose_126 : decode cX4_choose 126 = .ok (.goto (-40), 3) := by decide +kernel
theorem dX4_choose_129 : decode cX4_choose 129 = .ok (.return_, 1) := by decide +kernel
theorem dX4_search_0 : decode cX4_search 0 = .ok (.bipush (-6), 2) := by decide +kernel
theorem dX4_search_2 : decode cX4_search 2 = .ok (.istore_n 1, 1) := by decide +kernel
theorem dX4_search_3 : decode cX4_search 3 = .ok (.iconst 1, 1) := by decide +kernel
theorem dX4_search_4 : decode cX4_search 4 = .ok (.istore_n 2, 1) := by decide +kernel
theorem dX4_search_5 : decode cX4_search 5 = .ok (.iconst 0, 1) := by decide +kernel
theorem dX4_search_6 : decode cX4_search 6 = .ok (.istore_n 3, 1) := by decide +kernel
theorem dX4_search_7 : decode cX4_search 7 = .ok (.iload_n 3, 1) := by decide +kernel
theorem dX4_search_8 : decode cX4_search 8 = .ok (.aload_n 0, 1) := by decide +kernel
theorem dX4_search_9 : decode cX4_search 9 = .ok (.getfield 35, 3) := by decide +kernel
theorem dX4_search_12 : decode cX4_search 12 = .ok (.if_icmp .ge 22, 3) := by decide +kernel
theorem dX4_search_15 : decode cX4_search 15 = .ok (.iload_n 2, 1) := by decide +kernel
theorem dX4_search_16 : decode cX4_search 16 = .ok (.aload_n 0, 1) := by decide +kernel
theorem dX4_search_17 : decode cX4_search 17 = .ok (.getfield 27, 3) := by decide +kernel
theorem dX4_search_20 : decode cX4_search 20 = .ok (.getfield 59, 3) := by decide +kernel
theorem dX4_search_23 : decode cX4_search 23 = .ok (.getfield 71, 3) := by decide +kernel
theorem dX4_search_26 : decode cX4_search 26 = .ok (.imul, 1) := by decide +kernel
theorem dX4_search_27 : decode cX4_search 27 = .ok (.istore_n 2, 1) := by decide +kernel
theorem dX4_search_28 : decode cX4_search 28 = .ok (.iinc 3 1, 3) := by decide +kernel
theorem dX4_search_31 : decode cX4_search 31 = .ok (.goto (-24), 3) := by decide +kernel
theorem dX4_search_34 : decode cX4_search 34 = .ok (.iconst 0, 1) := by decide +kernel
theorem dX4_search_35 : decode cX4_search 35 = .ok (.istore_n 3, 1) := by decide +kernel
theorem dX4_search_36 : decode cX4_search 36 = .ok (.iload_n 3, 1) := by decide +kernel
theorem dX4_search_37 : decode cX4_search 37 = .ok (.iload_n 2, 1) := by decide +kernel
theorem dX4_search_38 : decode cX4_search 38 = .ok (.if_icmp .ge 68, 3) := by decide +kernel
theorem dX4_search_41 : decode cX4_search 41 = .ok (.aload_n 0, 1) := by decide +kernel
theorem dX4_search_42 : decode cX4_search 42 = .ok (.iload_n 3, 1) := by decide +kernel
theorem dX4_search_43 : decode cX4_search 43 = .ok (.invokevirtual 72, 3) := by decide +kernel
theorem dX4_search_46 : decode cX4_search 46 = .ok (.aload_n 0, 1) := by decide +kernel
theorem dX4_search_47 : decode cX4_search 47 = .ok (.invokevirtual 76, 3) := by decide +kernel
theorem dX4_search_50 : decode cX4_search 50 = .ok (.ifCond .eq 10, 3) := by decide +kernel
theorem dX4_search_53 : decode cX4_search 53 = .ok (.aload_n 0, 1) := by decide +kernel
theorem dX4_search_54 : decode cX4_search 54 = .ok (.invokevirtual 80, 3) := by decide +kernel
theorem dX4_search_57 : decode cX4_search 57 = .ok (.goto 5, 3) := by decide +kernel
theorem dX4_search_60 : decode cX4_search 60 = .ok (.bipush (-6), 2) := by decide +kernel
theorem dX4_search_62 : decode cX4_search 62 = .ok (.istore 4, 2) := by decide +kernel
theorem dX4_search_64 : decode cX4_search 64 = .ok (.iload 4, 2) := by decide +kernel
theorem dX4_search_66 : decode cX4_search 66 = .ok (.bipush (-6), 2) := by decide +kernel
theorem dX4_search_68 : decode cX4_search 68 = .ok (.if_icmp .eq 32, 3) := by decide +kernel
theorem dX4_search_71 : decode cX4_search 71 = .ok (.iload_n 1, 1) := by decide +kernel
theorem dX4_search_72 : decode cX4_search 72 = .ok (.bipush (-6), 2) := by decide +kernel
theorem dX4_search_74 : decode cX4_search 74 = .ok (.if_icmp .eq 9, 3) := by decide +kernel
theorem dX4_search_77 : decode cX4_search 77 = .ok (.iload 4, 2) := by decide +kernel
theorem dX4_search_79 : decode cX4_search 79 = .ok (.iload_n 1, 1) := by decide +kernel
theorem dX4_search_80 : decode cX4_search 80 = .ok (.if_icmp .ge 20, 3) := by decide +kernel
theorem dX4_search_83 : decode cX4_search 83 = .ok (.iload 4, 2) := by decide +kernel
theorem dX4_search_85 : decode cX4_search 85 = .ok (.istore_n 1, 1) := by decide +kernel
theorem dX4_search_86 : decode cX4_search 86 = .ok (.aload_n 0, 1) := by decide +kernel
theorem dX4_search_87 : decode cX4_search 87 = .ok (.getfield 18, 3) := by decide +kernel
theorem dX4_search_90 : decode cX4_search 90 = .ok (.iconst 0, 1) := by decide +kernel
theorem dX4_search_91 : decode cX4_search 91 = .ok (.aload_n 0, 1) := by decide +kernel
theorem dX4_search_92 : decode cX4_search 92 = .ok (.getfield 21, 3) := by decide +kernel
theorem dX4_search_95 : decode cX4_search 95 = .ok (.iconst 0, 1) := by decide +kernel
theorem dX4_search_96 : decode cX4_search 96 = .ok (.iconst 4, 1) := by decide +kernel
theorem dX4_search_97 : decode cX4_search 97 = .ok (.invokestatic 84, 3) := by decide +kernel
theorem dX4_search_100 : decode cX4_search 100 = .ok (.iinc 3 1, 3) := by decide +kernel
theorem dX4_search_103 : decode cX4_search 103 = .ok (.goto (-67), 3) := by decide +kernel
theorem dX4_search_106 : decode cX4_search 106 = .ok (.iload_n 1, 1) := by decide +kernel
theorem dX4_search_107 : decode cX4_search 107 = .ok (.ireturn, 1) := by decide +kernel
theorem dX4_cellarOf_0 : decode cX4_cellarOf 0 = .ok (.iconst 0, 1) := by decide +kernel
theorem dX4_cellarOf_1 : decode cX4_cellarOf 1 = .ok (.istore_n 2, 1) := by decide +kernel
theorem dX4_cellarOf_2 : decode cX4_cellarOf 2 = .ok (.iload_n 2, 1) := by decide +kernel
theorem dX4_cellarOf_3 : decode cX4_cellarOf 3 = .ok (.aload_n 0, 1) := by decide +kernel
theorem dX4_cellarOf_4 : decode cX4_cellarOf 4 = .ok (.getfield 35, 3) := by decide +kernel
theorem dX4_cellarOf_7 : decode cX4_cellarOf 7 = .ok (.if_icmp .ge 26, 3) := by decide +kernel
theorem dX4_cellarOf_10 : decode cX4_cellarOf 10 = .ok (.aload_n 0, 1) := by decide +kernel
theorem dX4_cellarOf_11 : decode cX4_cellarOf 11 = .ok (.getfield 9, 3) := by decide +kernel
theorem dX4_cellarOf_14 : decode cX4_cellarOf 14 = .ok (.iload_n 2, 1) := by decide +kernel
theorem dX4_cellarOf_15 : decode cX4_cellarOf 15 = .ok (.iaload, 1) := by decide +kernel
theorem dX4_cellarOf_16 : decode cX4_cellarOf 16 = .ok (.iload_n 1, 1) := by decide +kernel
theorem dX4_cellarOf_17 : decode cX4_cellarOf 17 = .ok (.if_icmp .ne 10, 3) := by decide +kernel
theorem dX4_cellarOf_20 : decode cX4_cellarOf 20 = .ok (.aload_n 0, 1) := by decide +kernel
theorem dX4_cellarOf_21 : decode cX4_cellarOf 21 = .ok (.getfield 21, 3) := by decide +kernel
theorem dX4_cellarOf_24 : decode cX4_cellarOf 24 = .ok (.iload_n 2, 1) := by decide +kernel
theorem dX4_cellarOf_25 : decode cX4_cellarOf 25 = .ok (.iaload, 1) := by decide +kernel
theorem dX4_cellarOf_26 : decode cX4_cellarOf 26 = .ok (.ireturn, 1) := by decide +kernel
theorem dX4_cellarOf_27 : decode cX4_cellarOf 27 = .ok (.iinc 2 1, 3) := by decide +kernel
theorem dX4_cellarOf_30 : decode cX4_cellarOf 30 = .ok (.goto (-28), 3) := by decide +kernel
theorem dX4_cellarOf_33 : decode cX4_cellarOf 33 = .ok (.iconst (-1), 1) := by decide +kernel
theorem dX4_cellarOf_34 : decode cX4_cellarOf 34 = .ok (.ireturn, 1) := by decide +kernel
theorem dX4_safeCellars_0 : decode cX4_safeCellars 0 = .ok (.iconst 0, 1) := by decide +kernel
theorem dX4_safeCellars_1 : decode cX4_safeCellars 1 = .ok (.istore_n 3, 1) := by decide +kernel
theorem dX4_safeCellars_2 : decode cX4_safeCellars 2 = .ok (.iconst 0, 1) := by decide +kernel
theorem dX4_safeCellars_3 : decode cX4_safeCellars 3 = .ok (.istore 4, 2) := by decide +kernel
theorem dX4_safeCellars_5 : decode cX4_safeCellars 5 = .ok (.iload 4, 2) := by decide +kernel
theorem dX4_safeCellars_7 : decode cX4_safeCellars 7 = .ok (.aload_n 0, 1) := by decide +kernel
theorem dX4_safeCellars_8 : decode cX4_safeCellars 8 = .ok (.getfield 27, 3) := by decide +kernel
theorem dX4_safeCellars_11 : decode cX4_safeCellars 11 = .ok (.getfield 59, 3) := by decide +kernel
theorem dX4_safeCellars_14 : decode cX4_safeCellars 14 = .ok (.getfield 71, 3) := by decide +kernel
theorem dX4_safeCellars_17 : decode cX4_safeCellars 17 = .ok (.if_icmp .ge 56, 3) := by decide +kernel
theorem dX4_safeCellars_20 : decode cX4_safeCellars 20 = .ok (.aload_n 0, 1) := by decide +kernel
theorem dX4_safeCellars_21 : decode cX4_safeCellars 21 = .ok (.getfield 27, 3) := by decide +kernel
theorem dX4_safeCellars_24 : decode cX4_safeCellars 24 = .ok (.aload_n 0, 1) := by decide +kernel
theorem dX4_safeCellars_25 : decode cX4_safeCellars 25 = .ok (.getfield 31, 3) := by decide +kernel
theorem dX4_safeCellars_28 : decode cX4_safeCellars 28 = .ok (.iload_n 2, 1) := by decide +kernel
theorem dX4_safeCellars_29 : decode cX4_safeCellars 29 = .ok (.iload 4, 2) := by decide +kernel
theorem dX4_safeCellars_31 : decode cX4_safeCellars 31 = .ok (.aload_n 0, 1) := by decide +kernel
theorem dX4_safeCellars_32 : decode cX4_safeCellars 32 = .ok (.getfield 27, 3) := by decide +kernel
theorem dX4_safeCellars_35 : decode cX4_safeCellars 35 = .ok (.getfield 39, 3) := by decide +kernel
theorem dX4_safeCellars_38 : decode cX4_safeCellars 38 = .ok (.getfield 90, 3) := by decide +kernel
theorem dX4_safeCellars_41 : decode cX4_safeCellars 41 = .ok (.iload_n 1, 1) := by decide +kernel
theorem dX4_safeCellars_42 : decode cX4_safeCellars 42 = .ok (.iaload, 1) := by decide +kernel
theorem dX4_safeCellars_43 : decode cX4_safeCellars 43 = .ok (.invokevirtual 93, 3) := by decide +kernel
theorem dX4_safeCellars_46 : decode cX4_safeCellars 46 = .ok (.invokevirtual 99, 3) := by decide +kernel
theorem dX4_safeCellars_49 : decode cX4_safeCellars 49 = .ok (.istore 5, 2) := by decide +kernel
theorem dX4_safeCellars_51 : decode cX4_safeCellars 51 = .ok (.iload_n 3, 1) := by decide +kernel
theorem dX4_safeCellars_52 : decode cX4_safeCellars 52 = .ok (.iload 5, 2) := by decide +kernel
theorem dX4_safeCellars_54 : decode cX4_safeCellars 54 = .ok (.ifCond .eq 7, 3) := by decide +kernel
theorem dX4_safeCellars_57 : decode cX4_safeCellars 57 = .ok (.iconst 0, 1) := by decide +kernel
theorem dX4_safeCellars_58 : decode cX4_safeCellars 58 = .ok (.goto 7, 3) := by decide +kernel
theorem dX4_safeCellars_61 : decode cX4_safeCellars 61 = .ok (.iconst 1, 1) := by decide +kernel
theorem dX4_safeCellars_62 : decode cX4_safeCellars 62 = .ok (.iload 4, 2) := by decide +kernel
theorem dX4_safeCellars_64 : decode cX4_safeCellars 64 = .ok (.ishl, 1) := by decide +kernel
theorem dX4_safeCellars_65 : decode cX4_safeCellars 65 = .ok (.ior, 1) := by decide +kernel
theorem dX4_safeCellars_66 : decode cX4_safeCellars 66 = .ok (.istore_n 3, 1) := by decide +kernel
theorem dX4_safeCellars_67 : decode cX4_safeCellars 67 = .ok (.iinc 4 1, 3) := by decide +kernel
theorem dX4_safeCellars_70 : decode cX4_safeCellars 70 = .ok (.goto (-65), 3) := by decide +kernel
theorem dX4_safeCellars_73 : decode cX4_safeCellars 73 = .ok (.iload_n 3, 1) := by decide +kernel
theorem dX4_safeCellars_74 : decode cX4_safeCellars 74 = .ok (.ireturn, 1) := by decide +kernel
theorem dX4_spread_0 : decode cX4_spread 0 = .ok (.iconst 1, 1) := by decide +kernel
theorem dX4_spread_1 : decode cX4_spread 1 = .ok (.aload_n 0, 1) := by decide +kernel
theorem dX4_spread_2 : decode cX4_spread 2 = .ok (.getfield 27, 3) := by decide +kernel
theorem dX4_spread_5 : decode cX4_spread 5 = .ok (.getfield 59, 3) := by decide +kernel
theorem dX4_spread_8 : decode cX4_spread 8 = .ok (.getfield 71, 3) := by decide +kernel
theorem dX4_spread_11 : decode cX4_spread 11 = .ok (.invokestatic 102, 3) := by decide +kernel
theorem dX4_spread_14 : decode cX4_spread 14 = .ok (.istore_n 2, 1) := by decide +kernel
theorem dX4_spread_15 : decode cX4_spread 15 = .ok (.iload_n 1, 1) := by decide +kernel
theorem dX4_spread_16 : decode cX4_spread 16 = .ok (.istore_n 3, 1) := by decide +kernel
theorem dX4_spread_17 : decode cX4_spread 17 = .ok (.aload_n 0, 1) := by decide +kernel
theorem dX4_spread_18 : decode cX4_spread 18 = .ok (.getfield 35, 3) := by decide +kernel
theorem dX4_spread_21 : decode cX4_spread 21 = .ok (.iconst 1, 1) := by decide +kernel
theorem dX4_spread_22 : decode cX4_spread 22 = .ok (.isub, 1) := by decide +kernel
theorem dX4_spread_23 : decode cX4_spread 23 = .ok (.istore 4, 2) := by decide +kernel
theorem dX4_spread_25 : decode cX4_spread 25 = .ok (.iload 4, 2) := by decide +kernel
theorem dX4_spread_27 : decode cX4_spread 27 = .ok (.ifCond .lt 23, 3) := by decide +kernel
theorem dX4_spread_30 : decode cX4_spread 30 = .ok (.aload_n 0, 1) := by decide +kernel
theorem dX4_spread_31 : decode cX4_spread 31 = .ok (.getfield 18, 3) := by decide +kernel
theorem dX4_spread_34 : decode cX4_spread 34 = .ok (.iload 4, 2) := by decide +kernel
theorem dX4_spread_36 : decode cX4_spread 36 = .ok (.iload_n 3, 1) := by decide +kernel
theorem dX4_spread_37 : decode cX4_spread 37 = .ok (.iload_n 2, 1) := by decide +kernel
theorem dX4_spread_38 : decode cX4_spread 38 = .ok (.irem, 1) := by decide +kernel
theorem dX4_spread_39 : decode cX4_spread 39 = .ok (.iastore, 1) := by decide +kernel
theorem dX4_spread_40 : decode cX4_spread 40 = .ok (.iload_n 3, 1) := by decide +kernel
theorem dX4_spread_41 : decode cX4_spread 41 = .ok (.iload_n 2, 1) := by decide +kernel
theorem dX4_spread_42 : decode cX4_spread 42 = .ok (.idiv, 1) := by decide +kernel
theorem dX4_spread_43 : decode cX4_spread 43 = .ok (.istore_n 3, 1) := by decide +kernel
theorem dX4_spread_44 : decode cX4_spread 44 = .ok (.iinc 4 (-1), 3) := by decide +kernel
theorem dX4_spread_47 : decode cX4_spread 47 = .ok (.goto (-22), 3) := by decide +kernel
theorem dX4_spread_50 : decode cX4_spread 50 = .ok (.return_, 1) := by decide +kernel
theorem dX4_canBe_0 : decode cX4_canBe 0 = .ok (.iconst 0, 1) := by decide +kernel
theorem dX4_canBe_1 : decode cX4_canBe 1 = .ok (.istore_n 1, 1) := by decide +kernel
theorem dX4_canBe_2 : decode cX4_canBe 2 = .ok (.iload_n 1, 1) := by decide +kernel
theorem dX4_canBe_3 : decode cX4_canBe 3 = .ok (.aload_n 0, 1) := by decide +kernel
theorem dX4_canBe_4 : decode cX4_canBe 4 = .ok (.getfield 35, 3) := by decide +kernel
theorem dX4_canBe_7 : decode cX4_canBe 7 = .ok (.if_icmp .ge 85, 3) := by decide +kernel
theorem dX4_canBe_10 : decode cX4_canBe 10 = .ok (.iconst 0, 1) := by decide +kernel
theorem dX4_canBe_11 : decode cX4_canBe 11 = .ok (.istore_n 2, 1) := by decide +kernel
theorem dX4_canBe_12 : decode cX4_canBe 12 = .ok (.iconst 0, 1) := by decide +kernel
theorem dX4_canBe_13 : decode cX4_canBe 13 = .ok (.istore_n 3, 1) := by decide +kernel
theorem dX4_canBe_14 : decode cX4_canBe 14 = .ok (.iload_n 3, 1) := by decide +kernel
theorem dX4_canBe_15 : decode cX4_canBe 15 = .ok (.aload_n 0, 1) := by decide +kernel
theorem dX4_canBe_16 : decode cX4_canBe 16 = .ok (.getfield 35, 3) := by decide +kernel
theorem dX4_canBe_19 : decode cX4_canBe 19 = .ok (.if_icmp .ge 32, 3) := by decide +kernel
theorem dX4_canBe_22 : decode cX4_canBe 22 = .ok (.iload_n 2, 1) := by decide +kernel
theorem dX4_canBe_23 : decode cX4_canBe 23 = .ok (.aload_n 0, 1) := by decide +kernel
theorem dX4_canBe_24 : decode cX4_canBe 24 = .ok (.getfield 18, 3) := by decide +kernel
theorem dX4_canBe_27 : decode cX4_canBe 27 = .ok (.iload_n 3, 1) := by decide +kernel
theorem dX4_canBe_28 : decode cX4_canBe 28 = .ok (.iaload, 1) := by decide +kernel
theorem dX4_canBe_29 : decode cX4_canBe 29 = .ok (.aload_n 0, 1) := by decide +kernel
theorem dX4_canBe_30 : decode cX4_canBe 30 = .ok (.getfield 18, 3) := by decide +kernel
theorem dX4_canBe_33 : decode cX4_canBe 33 = .ok (.iload_n 1, 1) := by decide +kernel
theorem dX4_canBe_34 : decode cX4_canBe 34 = .ok (.iaload, 1) := by decide +kernel
theorem dX4_canBe_35 : decode cX4_canBe 35 = .ok (.if_icmp .ne 7, 3) := by decide +kernel
theorem dX4_canBe_38 : decode cX4_canBe 38 = .ok (.iconst 1, 1) := by decide +kernel
theorem dX4_canBe_39 : decode cX4_canBe 39 = .ok (.goto 4, 3) := by decide +kernel
theorem dX4_canBe_42 : decode cX4_canBe 42 = .ok (.iconst 0, 1) := by decide +kernel
theorem dX4_canBe_43 : decode cX4_canBe 43 = .ok (.iadd, 1) := by decide +kernel
theorem dX4_canBe_44 : decode cX4_canBe 44 = .ok (.istore_n 2, 1) := by decide +kernel
theorem dX4_canBe_45 : decode cX4_canBe 45 = .ok (.iinc 3 1, 3) := by decide +kernel
theorem dX4_canBe_48 : decode cX4_canBe 48 = .ok (.goto (-34), 3) := by decide +kernel
theorem dX4_canBe_51 : decode cX4_canBe 51 = .ok (.aload_n 0, 1) := by decide +kernel
theorem dX4_canBe_52 : decode cX4_canBe 52 = .ok (.getfield 15, 3) := by decide +kernel
theorem dX4_canBe_55 : decode cX4_canBe 55 = .ok (.iload_n 1, 1) := by decide +kernel
theorem dX4_canBe_56 : decode cX4_canBe 56 = .ok (.iaload, 1) := by decide +kernel
theorem dX4_canBe_57 : decode cX4_canBe 57 = .ok (.aload_n 0, 1) := by decide +kernel
theorem dX4_canBe_58 : decode cX4_canBe 58 = .ok (.getfield 18, 3) := by decide +kernel
theorem dX4_canBe_61 : decode cX4_canBe 61 = .ok (.iload_n 1, 1) := by decide +kernel
theorem dX4_canBe_62 : decode cX4_canBe 62 = .ok (.iaload, 1) := by decide +kernel
theorem dX4_canBe_63 : decode cX4_canBe 63 = .ok (.invokestatic 51, 3) := by decide +kernel
theorem dX4_canBe_66 : decode cX4_canBe 66 = .ok (.ifCond .eq 18, 3) := by decide +kernel
theorem dX4_canBe_69 : decode cX4_canBe 69 = .ok (.iload_n 2, 1) := by decide +kernel
theorem dX4_canBe_70 : decode cX4_canBe 70 = .ok (.aload_n 0, 1) := by decide +kernel
theorem dX4_canBe_71 : decode cX4_canBe 71 = .ok (.getfield 24, 3) := by decide +kernel
theorem dX4_canBe_74 : decode cX4_canBe 74 = .ok (.aload_n 0, 1) := by decide +kernel
theorem dX4_canBe_75 : decode cX4_canBe 75 = .ok (.getfield 18, 3) := by decide +kernel
theorem dX4_canBe_78 : decode cX4_canBe 78 = .ok (.iload_n 1, 1) := by decide +kernel
theorem dX4_canBe_79 : decode cX4_canBe 79 = .ok (.iaload, 1) := by decide +kernel
theorem dX4_canBe_80 : decode cX4_canBe 80 = .ok (.iaload, 1) := by decide +kernel
theorem dX4_canBe_81 : decode cX4_canBe 81 = .ok (.if_icmp .le 5, 3) := by decide +kernel
theorem dX4_canBe_84 : decode cX4_canBe 84 = .ok (.iconst 0, 1) := by decide +kernel
theorem dX4_canBe_85 : decode cX4_canBe 85 = .ok (.ireturn, 1) := by decide +kernel
theorem dX4_canBe_86 : decode cX4_canBe 86 = .ok (.iinc 1 1, 3) := by decide +kernel
theorem dX4_canBe_89 : decode cX4_canBe 89 = .ok (.goto (-87), 3) := by decide +kernel
theorem dX4_canBe_92 : decode cX4_canBe 92 = .ok (.iconst 1, 1) := by decide +kernel
theorem dX4_canBe_93 : decode cX4_canBe 93 = .ok (.ireturn, 1) := by decide +kernel
theorem dX4_workOfAll_0 : decode cX4_workOfAll 0 = .ok (.iconst 0, 1) := by decide +kernel
theorem dX4_workOfAll_1 : decode cX4_workOfAll 1 = .ok (.istore_n 1, 1) := by decide +kernel
theorem dX4_workOfAll_2 : decode cX4_workOfAll 2 = .ok (.iconst 0, 1) := by decide +kernel
theorem dX4_workOfAll_3 : decode cX4_workOfAll 3 = .ok (.istore_n 2, 1) := by decide +kernel
theorem dX4_workOfAll_4 : decode cX4_workOfAll 4 = .ok (.iload_n 2, 1) := by decide +kernel
theorem dX4_workOfAll_5 : decode cX4_workOfAll 5 = .ok (.aload_n 0, 1) := by decide +kernel
theorem dX4_workOfAll_6 : decode cX4_workOfAll 6 = .ok (.getfield 35, 3) := by decide +kernel
theorem dX4_workOfAll_9 : decode cX4_workOfAll 9 = .ok (.if_icmp .ge 64, 3) := by decide +kernel
theorem dX4_workOfAll_12 : decode cX4_workOfAll 12 = .ok (.aload_n 0, 1) := by decide +kernel
theorem dX4_workOfAll_13 : decode cX4_workOfAll 13 = .ok (.getfield 27, 3) := by decide +kernel
theorem dX4_workOfAll_16 : decode cX4_workOfAll 16 = .ok (.getfield 39, 3) := by decide +kernel
theorem dX4_workOfAll_19 : decode cX4_workOfAll 19 = .ok (.getfield 107, 3) := by decide +kernel
theorem dX4_workOfAll_22 : decode cX4_workOfAll 22 = .ok (.aload_n 0, 1) := by decide +kernel
theorem dX4_workOfAll_23 : decode cX4_workOfAll 23 = .ok (.getfield 9, 3) := by decide +kernel
theorem dX4_workOfAll_26 : decode cX4_workOfAll 26 = .ok (.iload_n 2, 1) := by decide +kernel
theorem dX4_workOfAll_27 : decode cX4_workOfAll 27 = .ok (.iaload, 1) := by decide +kernel
theorem dX4_workOfAll_28 : decode cX4_workOfAll 28 = .ok (.iaload, 1) := by decide +kernel
theorem dX4_workOfAll_29 : decode cX4_workOfAll 29 = .ok (.istore_n 3, 1) := by decide +kernel
theorem dX4_workOfAll_30 : decode cX4_workOfAll 30 = .ok (.iload_n 1, 1) := by decide +kernel
theorem dX4_workOfAll_31 : decode cX4_workOfAll 31 = .ok (.iload_n 3, 1) := by decide +kernel
theorem dX4_workOfAll_32 : decode cX4_workOfAll 32 = .ok (.aload_n 0, 1) := by decide +kernel
theorem dX4_workOfAll_33 : decode cX4_workOfAll 33 = .ok (.getfield 18, 3) := by decide +kernel
theorem dX4_workOfAll_36 : decode cX4_workOfAll 36 = .ok (.iload_n 2, 1) := by decide +kernel
theorem dX4_workOfAll_37 : decode cX4_workOfAll 37 = .ok (.iaload, 1) := by decide +kernel
theorem dX4_workOfAll_38 : decode cX4_workOfAll 38 = .ok (.if_icmp .ne 7, 3) := by decide +kernel
theorem dX4_workOfAll_41 : decode cX4_workOfAll 41 = .ok (.iconst 0, 1) := by decide +kernel
theorem dX4_workOfAll_42 : decode cX4_workOfAll 42 = .ok (.goto 23, 3) := by decide +kernel
theorem dX4_workOfAll_45 : decode cX4_workOfAll 45 = .ok (.aload_n 0, 1) := by decide +kernel
theorem dX4_workOfAll_46 : decode cX4_workOfAll 46 = .ok (.getfield 27, 3) := by decide +kernel
theorem dX4_workOfAll_49 : decode cX4_workOfAll 49 = .ok (.aload_n 0, 1) := by decide +kernel
theorem dX4_workOfAll_50 : decode cX4_workOfAll 50 = .ok (.getfield 9, 3) := by decide +kernel
theorem dX4_workOfAll_53 : decode cX4_workOfAll 53 = .ok (.iload_n 2, 1) := by decide +kernel
theorem dX4_workOfAll_54 : decode cX4_workOfAll 54 = .ok (.iaload, 1) := by decide +kernel
theorem dX4_workOfAll_55 : decode cX4_workOfAll 55 = .ok (.iload_n 3, 1) := by decide +kernel
theorem dX4_workOfAll_56 : decode cX4_workOfAll 56 = .ok (.aload_n 0, 1) := by decide +kernel
theorem dX4_workOfAll_57 : decode cX4_workOfAll 57 = .ok (.getfield 18, 3) := by decide +kernel
theorem dX4_workOfAll_60 : decode cX4_workOfAll 60 = .ok (.iload_n 2, 1) := by decide +kernel
theorem dX4_workOfAll_61 : decode cX4_workOfAll 61 = .ok (.iaload, 1) := by decide +kernel
theorem dX4_workOfAll_62 : decode cX4_workOfAll 62 = .ok (.invokevirtual 110, 3) := by decide +kernel
theorem dX4_workOfAll_65 : decode cX4_workOfAll 65 = .ok (.iadd, 1) := by decide +kernel
theorem dX4_workOfAll_66 : decode cX4_workOfAll 66 = .ok (.istore_n 1, 1) := by decide +kernel
theorem dX4_workOfAll_67 : decode cX4_workOfAll 67 = .ok (.iinc 2 1, 3) := by decide +kernel
theorem dX4_workOfAll_70 : decode cX4_workOfAll 70 = .ok (.goto (-66), 3) := by decide +kernel
theorem dX4_workOfAll_73 : decode cX4_workOfAll 73 = .ok (.iload_n 1, 1) := by decide +kernel
theorem dX4_workOfAll_74 : decode cX4_workOfAll 74 = .ok (.ireturn, 1) := by decide +kernel
theorem dX5_init_0 : decode cX5_init 0 = .ok (.aload_n 0, 1) := by decide +kernel
theorem dX5_init_1 : decode cX5_init 1 = .ok (.invokespecial 3, 3) := by decide +kernel
theorem dX5_init_4 : decode cX5_init 4 = .ok (.aload_n 0, 1) := by decide +kernel
theorem dX5_init_5 : decode cX5_init 5 = .ok (.bipush 8, 2) := by decide +kernel
theorem dX5_init_7 : decode cX5_init 7 = .ok (.newarray .int, 2) := by decide +kernel
theorem dX5_init_9 : decode cX5_init 9 = .ok (.putfield 9, 3) := by decide +kernel
theorem dX5_init_12 : decode cX5_init 12 = .ok (.aload_n 0, 1) := by decide +kernel
theorem dX5_init_13 : decode cX5_init 13 = .ok (.sipush 256, 3) := by decide +kernel
theorem dX5_init_16 : decode cX5_init 16 = .ok (.newarray .int, 2) := by decide +kernel
theorem dX5_init_18 : decode cX5_init 18 = .ok (.putfield 15, 3) := by decide +kernel
theorem dX5_init_21 : decode cX5_init 21 = .ok (.aload_n 0, 1) := by decide +kernel
theorem dX5_init_22 : decode cX5_init 22 = .ok (.aload_n 1, 1) := by decide +kernel
theorem dX5_init_23 : decode cX5_init 23 = .ok (.putfield 18, 3) := by decide +kernel
theorem dX5_init_26 : decode cX5_init 26 = .ok (.aload_n 0, 1) := by decide +kernel
theorem dX5_init_27 : decode cX5_init 27 = .ok (.aload_n 2, 1) := by decide +kernel
theorem dX5_init_28 : decode cX5_init 28 = .ok (.putfield 22, 3) := by decide +kernel
theorem dX5_init_31 : decode cX5_init 31 = .ok (.return_, 1) := by decide +kernel
theorem dX5_search_0 : decode cX5_search 0 = .ok (.iconst 0, 1) := by decide +kernel
theorem dX5_search_1 : decode cX5_search 1 = .ok (.istore_n 2, 1) := by decide +kernel
theorem dX5_search_2 : decode cX5_search 2 = .ok (.iload_n 2, 1) := by decide +kernel
theorem dX5_search_3 : decode cX5_search 3 = .ok (.bipush 8, 2) := by decide +kernel
theorem dX5_search_5 : decode cX5_search 5 = .ok (.if_icmp .ge 24, 3) := by decide +kernel
theorem dX5_search_8 : decode cX5_search 8 = .ok (.aload_n 0, 1) := by decide +kernel
theorem dX5_search_9 : decode cX5_search 9 = .ok (.getfield 9, 3) := by decide +kernel
theorem dX5_search_12 : decode cX5_search 12 = .ok (.iload_n 2, 1) := by decide +kernel
theorem dX5_search_13 : decode cX5_search 13 = .ok (.aload_n 0, 1) := by decide +kernel
theorem dX5_search_14 : decode cX5_search 14 = .ok (.getfield 22, 3) := by decide +kernel
theorem dX5_search_17 : decode cX5_search 17 = .ok (.iload_n 2, 1) := by decide +kernel
theorem dX5_search_18 : decode cX5_search 18 = .ok (.iload_n 1, 1) := by decide +kernel
theorem dX5_search_19 : decode cX5_search 19 = .ok (.invokevirtual 26, 3) := by decide +kernel
theorem dX5_search_22 : decode cX5_search 22 = .ok (.iastore, 1) := by decide +kernel
theorem dX5_search_23 : decode cX5_search 23 = .ok (.iinc 2 1, 3) := by decide +kernel
theorem dX5_search_26 : decode cX5_search 26 = .ok (.goto (-24), 3) := by decide +kernel
theorem dX5_search_29 : decode cX5_search 29 = .ok (.iconst 1, 1) := by decide +kernel
theorem dX5_search_30 : decode cX5_search 30 = .ok (.istore_n 2, 1) := by decide +kernel
theorem dX5_search_31 : decode cX5_search 31 = .ok (.iload_n 2, 1) := by decide +kernel
theorem dX5_search_32 : decode cX5_search 32 = .ok (.sipush 255, 3) := by decide +kernel
theorem dX5_search_35 : decode cX5_search 35 = .ok (.if_icmp .gt 34, 3) := by decide +kernel
theorem dX5_search_38 : decode cX5_search 38 = .ok (.aload_n 0, 1) := by decide +kernel
theorem dX5_search_39 : decode cX5_search 39 = .ok (.getfield 18, 3) := by decide +kernel
theorem dX5_search_42 : decode cX5_search 42 = .ok (.getfield 32, 3) := by decide +kernel
theorem dX5_search_45 : decode cX5_search 45 = .ok (.iload_n 2, 1) := by decide +kernel
theorem dX5_search_46 : decode cX5_search 46 = .ok (.invokevirtual 38, 3) := by decide +kernel
theorem dX5_search_49 : decode cX5_search 49 = .ok (.ifCond .eq 14, 3) := by decide +kernel
theorem dX5_search_52 : decode cX5_search 52 = .ok (.aload_n 0, 1) := by decide +kernel
theorem dX5_search_53 : decode cX5_search 53 = .ok (.getfield 15, 3) := by decide +kernel
theorem dX5_search_56 : decode cX5_search 56 = .ok (.iload_n 2, 1) := by decide +kernel
theorem dX5_search_57 : decode cX5_search 57 = .ok (.aload_n 0, 1) := by decide +kernel
theorem dX5_search_58 : decode cX5_search 58 = .ok (.iload_n 2, 1) := by decide +kernel
theorem dX5_search_59 : decode cX5_search 59 = .ok (.invokevirtual 44, 3) := by decide +kernel
theorem dX5_search_62 : decode cX5_search 62 = .ok (.iastore, 1) := by decide +kernel
theorem dX5_search_63 : decode cX5_search 63 = .ok (.iinc 2 1, 3) := by decide +kernel
theorem dX5_search_66 : decode cX5_search 66 = .ok (.goto (-35), 3) := by decide +kernel
theorem dX5_search_69 : decode cX5_search 69 = .ok (.aload_n 0, 1) := by decide +kernel
theorem dX5_search_70 : decode cX5_search 70 = .ok (.getfield 15, 3) := by decide +kernel
theorem dX5_search_73 : decode cX5_search 73 = .ok (.aload_n 0, 1) := by decide +kernel
theorem dX5_search_74 : decode cX5_search 74 = .ok (.getfield 18, 3) := by decide +kernel
theorem dX5_search_77 : decode cX5_search 77 = .ok (.getfield 32, 3) := by decide +kernel
theorem dX5_search_80 : decode cX5_search 80 = .ok (.getfield 48, 3) := by decide +kernel
theorem dX5_search_83 : decode cX5_search 83 = .ok (.sipush 255, 3) := by decide +kernel
theorem dX5_search_86 : decode cX5_search 86 = .ok (.iand, 1) := by decide +kernel
theorem dX5_search_87 : decode cX5_search 87 = .ok (.iaload, 1) := by decide +kernel
theorem dX5_search_88 : decode cX5_search 88 = .ok (.ireturn, 1) := by decide +kernel
theorem dX5_mostOf_0 : decode cX5_mostOf 0 = .ok (.aload_n 0, 1) := by decide +kernel
theorem dX5_mostOf_1 : decode cX5_mostOf 1 = .ok (.iload_n 1, 1) := by decide +kernel
theorem dX5_mostOf_2 : decode cX5_mostOf 2 = .ok (.invokevirtual 52, 3) := by decide +kernel
theorem dX5_mostOf_5 : decode cX5_mostOf 5 = .ok (.istore_n 2, 1) := by decide +kernel
theorem dX5_mostOf_6 : decode cX5_mostOf 6 = .ok (.iconst 0, 1) := by decide +kernel
theorem dX5_mostOf_7 : decode cX5_mostOf 7 = .ok (.istore_n 3, 1) := by decide +kernel
theorem dX5_mostOf_8 : decode cX5_mostOf 8 = .ok (.iload_n 2, 1) := by decide +kernel
theorem dX5_mostOf_9 : decode cX5_mostOf 9 = .ok (.istore 4, 2) := by decide +kernel
theorem dX5_mostOf_11 : decode cX5_mostOf 11 = .ok (.iload 4, 2) := by decide +kernel
theorem dX5_mostOf_13 : decode cX5_mostOf 13 = .ok (.bipush 8, 2) := by decide +kernel
theorem dX5_mostOf_15 : decode cX5_mostOf 15 = .ok (.if_icmp .ge 31, 3) := by decide +kernel
theorem dX5_mostOf_18 : decode cX5_mostOf 18 = .ok (.iload_n 1, 1) := by decide +kernel
theorem dX5_mostOf_19 : decode cX5_mostOf 19 = .ok (.iload 4, 2) := by decide +kernel
theorem dX5_mostOf_21 : decode cX5_mostOf 21 = .ok (.invokestatic 55, 3) := by decide +kernel
theorem dX5_mostOf_24 : decode cX5_mostOf 24 = .ok (.ifCond .eq 16, 3) := by decide +kernel
theorem dX5_mostOf_27 : decode cX5_mostOf 27 = .ok (.iload_n 3, 1) := by decide +kernel
theorem dX5_mostOf_28 : decode cX5_mostOf 28 = .ok (.aload_n 0, 1) := by decide +kernel
theorem dX5_mostOf_29 : decode cX5_mostOf 29 = .ok (.iload_n 1, 1) := by decide +kernel
theorem dX5_mostOf_30 : decode cX5_mostOf 30 = .ok (.iload_n 2, 1) := by decide +kernel
theorem dX5_mostOf_31 : decode cX5_mostOf 31 = .ok (.iload 4, 2) := by decide +kernel
theorem dX5_mostOf_33 : decode cX5_mostOf 33 = .ok (.invokevirtual 59, 3) := by decide +kernel
theorem dX5_mostOf_36 : decode cX5_mostOf 36 = .ok (.invokestatic 63, 3) := by decide +kernel
theorem dX5_mostOf_39 : decode cX5_mostOf 39 = .ok (.istore_n 3, 1) := by decide +kernel
theorem dX5_mostOf_40 : decode cX5_mostOf 40 = .ok (.iinc 4 1, 3) := by decide +kernel
theorem dX5_mostOf_43 : decode cX5_mostOf 43 = .ok (.goto (-32), 3) := by decide +kernel
theorem dX5_mostOf_46 : decode cX5_mostOf 46 = .ok (.iload_n 3, 1) := by decide +kernel
theorem dX5_mostOf_47 : decode cX5_mostOf 47 = .ok (.ireturn, 1) := by decide +kernel
theorem dX5_withPartner_0 : decode cX5_withPartner 0 = .ok (.iload_n 1, 1) := by decide +kernel
theorem dX5_withPartner_1 : decode cX5_withPartner 1 = .ok (.sipush 255, 3) := by decide +kernel
theorem dX5_withPartner_4 : decode cX5_withPartner 4 = .ok (.iand, 1) := by decide +kernel
theorem dX5_withPartner_5 : decode cX5_withPartner 5 = .ok (.iconst 1, 1) := by decide +kernel
theorem dX5_withPartner_6 : decode cX5_withPartner 6 = .ok (.iload_n 2, 1) := by decide +kernel
theorem dX5_withPartner_7 : decode cX5_withPartner 7 = .ok (.ishl, 1) := by decide +kernel
theorem dX5_withPartner_8 : decode cX5_withPartner 8 = .ok (.iconst (-1), 1) := by decide +kernel
theorem dX5_withPartner_9 : decode cX5_withPartner 9 = .ok (.ixor, 1) := by decide +kernel
theorem dX5_withPartner_10 : decode cX5_withPartner 10 = .ok (.iand, 1) := by decide +kernel
theorem dX5_withPartner_11 : decode cX5_withPartner 11 = .ok (.iconst 1, 1) := by decide +kernel
theorem dX5_withPartner_12 : decode cX5_withPartner 12 = .ok (.iload_n 3, 1) := by decide +kernel
theorem dX5_withPartner_13 : decode cX5_withPartner 13 = .ok (.ishl, 1) := by decide +kernel
theorem dX5_withPartner_14 : decode cX5_withPartner 14 = .ok (.iconst (-1), 1) := by decide +kernel
theorem dX5_withPartner_15 : decode cX5_withPartner 15 = .ok (.ixor, 1) := by decide +kernel
theorem dX5_withPartner_16 : decode cX5_withPartner 16 = .ok (.iand, 1) := by decide +kernel
theorem dX5_withPartner_17 : decode cX5_withPartner 17 = .ok (.istore 4, 2) := by decide +kernel
theorem dX5_withPartner_19 : decode cX5_withPartner 19 = .ok (.aload_n 0, 1) := by decide +kernel
theorem dX5_withPartner_20 : decode cX5_withPartner 20 = .ok (.iload_n 2, 1) := by decide +kernel
theorem dX5_withPartner_21 : decode cX5_withPartner 21 = .ok (.iload_n 3, 1) := by decide +kernel
theorem dX5_withPartner_22 : decode cX5_withPartner 22 = .ok (.invokevirtual 68, 3) := by decide +kernel
theorem dX5_withPartner_25 : decode cX5_withPartner 25 = .ok (.aload_n 0, 1) := by decide +kernel
theorem dX5_withPartner_26 : decode cX5_withPartner 26 = .ok (.getfield 15, 3) := by decide +kernel
theorem dX5_withPartner_29 : decode cX5_withPartner 29 = .ok (.iload 4, 2) := by decide +kernel
theorem dX5_withPartner_31 : decode cX5_withPartner 31 = .ok (.iaload, 1) := by decide +kernel
theorem dX5_withPartner_32 : decode cX5_withPartner 32 = .ok (.iadd, 1) := by decide +kernel
theorem dX5_withPartner_33 : decode cX5_withPartner 33 = .ok (.ireturn, 1) := by decide +kernel
theorem dX5_wineOf_0 : decode cX5_wineOf 0 = .ok (.aload_n 0, 1) := by decide +kernel
theorem dX5_wineOf_1 : decode cX5_wineOf 1 = .ok (.getfield 18, 3) := by decide +kernel
theorem dX5_wineOf_4 : decode cX5_wineOf 4 = .ok (.getfield 32, 3) := by decide +kernel
theorem dX5_wineOf_7 : decode cX5_wineOf 7 = .ok (.getfield 71, 3) := by decide +kernel
theorem dX5_wineOf_10 : decode cX5_wineOf 10 = .ok (.iload_n 1, 1) := by decide +kernel
theorem dX5_wineOf_11 : decode cX5_wineOf 11 = .ok (.iaload, 1) := by decide +kernel
theorem dX5_wineOf_12 : decode cX5_wineOf 12 = .ok (.istore_n 3, 1) := by decide +kernel
theorem dX5_wineOf_13 : decode cX5_wineOf 13 = .ok (.iload_n 1, 1) := by decide +kernel
theorem dX5_wineOf_14 : decode cX5_wineOf 14 = .ok (.iload_n 2, 1) := by decide +kernel
theorem dX5_wineOf_15 : decode cX5_wineOf 15 = .ok (.if_icmp .ne 25, 3) := by decide +kernel
theorem dX5_wineOf_18 : decode cX5_wineOf 18 = .ok (.aload_n 0, 1) := by decide +kernel
theorem dX5_wineOf_19 : decode cX5_wineOf 19 = .ok (.getfield 18, 3) := by decide +kernel
theorem dX5_wineOf_22 : decode cX5_wineOf 22 = .ok (.aload_n 0, 1) := by decide +kernel
theorem dX5_wineOf_23 : decode cX5_wineOf 23 = .ok (.getfield 9, 3) := by decide +kernel
theorem dX5_wineOf_26 : decode cX5_wineOf 26 = .ok (.iload_n 1, 1) := by decide +kernel
theorem dX5_wineOf_27 : decode cX5_wineOf 27 = .ok (.iaload, 1) := by decide +kernel
theorem dX5_wineOf_28 : decode cX5_wineOf 28 = .ok (.invokevirtual 74, 3) := by decide +kernel
theorem dX5_wineOf_31 : decode cX5_wineOf 31 = .ok (.ifCond .eq 7, 3) := by decide +kernel
theorem dX5_wineOf_34 : decode cX5_wineOf 34 = .ok (.iconst 0, 1) := by decide +kernel
theorem dX5_wineOf_35 : decode cX5_wineOf 35 = .ok (.goto 4, 3) := by decide +kernel
theorem dX5_wineOf_38 : decode cX5_wineOf 38 = .ok (.iload_n 3, 1) := by decide +kernel
theorem dX5_wineOf_39 : decode cX5_wineOf 39 = .ok (.ireturn, 1) := by decide +kernel
theorem dX5_wineOf_40 : decode cX5_wineOf 40 = .ok (.iload_n 3, 1) := by decide +kernel
theorem dX5_wineOf_41 : decode cX5_wineOf 41 = .ok (.aload_n 0, 1) := by decide +kernel
theorem dX5_wineOf_42 : decode cX5_wineOf 42 = .ok (.getfield 18, 3) := by decide +kernel
theorem dX5_wineOf_45 : decode cX5_wineOf 45 = .ok (.getfield 32, 3) := by decide +kernel
theorem dX5_wineOf_48 : decode cX5_wineOf 48 = .ok (.getfield 71, 3) := by decide +kernel
theorem dX5_wineOf_51 : decode cX5_wineOf 51 = .ok (.iload_n 2, 1) := by decide +kernel
theorem dX5_wineOf_52 : decode cX5_wineOf 52 = .ok (.iaload, 1) := by decide +kernel
theorem dX5_wineOf_53 : decode cX5_wineOf 53 = .ok (.iadd, 1) := by decide +kernel
theorem dX5_wineOf_54 : decode cX5_wineOf 54 = .ok (.istore 4, 2) := by decide +kernel
theorem dX5_wineOf_56 : decode cX5_wineOf 56 = .ok (.iload 4, 2) := by decide +kernel
theorem dX5_wineOf_58 : decode cX5_wineOf 58 = .ok (.iconst 1, 1) := by decide +kernel
theorem dX5_wineOf_59 : decode cX5_wineOf 59 = .ok (.if_icmp .ge 5, 3) := by decide +kernel
theorem dX5_wineOf_62 : decode cX5_wineOf 62 = .ok (.iconst 0, 1) := by decide +kernel
theorem dX5_wineOf_63 : decode cX5_wineOf 63 = .ok (.ireturn, 1) := by decide +kernel
theorem dX5_wineOf_64 : decode cX5_wineOf 64 = .ok (.iload_n 3, 1) := by decide +kernel
theorem dX5_wineOf_65 : decode cX5_wineOf 65 = .ok (.aload_n 0, 1) := by decide +kernel
theorem dX5_wineOf_66 : decode cX5_wineOf 66 = .ok (.getfield 9, 3) := by decide +kernel
theorem dX5_wineOf_69 : decode cX5_wineOf 69 = .ok (.iload_n 1, 1) := by decide +kernel
theorem dX5_wineOf_70 : decode cX5_wineOf 70 = .ok (.iaload, 1) := by decide +kernel
theorem dX5_wineOf_71 : decode cX5_wineOf 71 = .ok (.imul, 1) := by decide +kernel
theorem dX5_wineOf_72 : decode cX5_wineOf 72 = .ok (.aload_n 0, 1) := by decide +kernel
theorem dX5_wineOf_73 : decode cX5_wineOf 73 = .ok (.getfield 18, 3) := by decide +kernel
theorem dX5_wineOf_76 : decode cX5_wineOf 76 = .ok (.getfield 32, 3) := by decide +kernel
theorem dX5_wineOf_79 : decode cX5_wineOf 79 = .ok (.getfield 71, 3) := by decide +kernel
theorem dX5_wineOf_82 : decode cX5_wineOf 82 = .ok (.iload_n 2, 1) := by decide +kernel
theorem dX5_wineOf_83 : decode cX5_wineOf 83 = .ok (.iaload, 1) := by decide +kernel
theorem dX5_wineOf_84 : decode cX5_wineOf 84 = .ok (.aload_n 0, 1) := by decide +kernel
theorem dX5_wineOf_85 : decode cX5_wineOf 85 = .ok (.getfield 9, 3) := by decide +kernel
theorem dX5_wineOf_88 : decode cX5_wineOf 88 = .ok (.iload_n 2, 1) := by decide +kernel
theorem dX5_wineOf_89 : decode cX5_wineOf 89 = .ok (.iaload, 1) := by decide +kernel
theorem dX5_wineOf_90 : decode cX5_wineOf 90 = .ok (.imul, 1) := by decide +kernel
theorem dX5_wineOf_91 : decode cX5_wineOf 91 = .ok (.iadd, 1) := by decide +kernel
theorem dX5_wineOf_92 : decode cX5_wineOf 92 = .ok (.iload 4, 2) := by decide +kernel
theorem dX5_wineOf_94 : decode cX5_wineOf 94 = .ok (.idiv, 1) := by decide +kernel
theorem dX5_wineOf_95 : decode cX5_wineOf 95 = .ok (.istore 5, 2) := by decide +kernel
theorem dX5_wineOf_97 : decode cX5_wineOf 97 = .ok (.aload_n 0, 1) := by decide +kernel
theorem dX5_wineOf_98 : decode cX5_wineOf 98 = .ok (.getfield 18, 3) := by decide +kernel
theorem dX5_wineOf_101 : decode cX5_wineOf 101 = .ok (.iload 5, 2) := by decide +kernel
theorem dX5_wineOf_103 : decode cX5_wineOf 103 = .ok (.invokevirtual 74, 3) := by decide +kernel
theorem dX5_wineOf_106 : decode cX5_wineOf 106 = .ok (.ifCond .eq 5, 3) := by decide +kernel
theorem dX5_wineOf_109 : decode cX5_wineOf 109 = .ok (.iconst 0, 1) := by decide +kernel
theorem dX5_wineOf_110 : decode cX5_wineOf 110 = .ok (.ireturn, 1) := by decide +kernel
theorem dX5_wineOf_111 : decode cX5_wineOf 111 = .ok (.aload_n 0, 1) := by decide +kernel
theorem dX5_wineOf_112 : decode cX5_wineOf 112 = .ok (.getfield 18, 3) := by decide +kernel
theorem dX5_wineOf_115 : decode cX5_wineOf 115 = .ok (.getfield 32, 3) := by decide +kernel
theorem dX5_wineOf_118 : decode cX5_wineOf 118 = .ok (.getfield 77, 3) := by decide +kernel
theorem dX5_wineOf_121 : decode cX5_wineOf 121 = .ok (.iload_n 1, 1) := by decide +kernel
theorem dX5_wineOf_122 : decode cX5_wineOf 122 = .ok (.iaload, 1) := by decide +kernel
theorem dX5_wineOf_123 : decode cX5_wineOf 123 = .ok (.aload_n 0, 1) := by decide +kernel
theorem dX5_wineOf_124 : decode cX5_wineOf 124 = .ok (.getfield 18, 3) := by decide +kernel
theorem dX5_wineOf_127 : decode cX5_wineOf 127 = .ok (.getfield 32, 3) := by decide +kernel
theorem dX5_wineOf_130 : decode cX5_wineOf 130 = .ok (.getfield 77, 3) := by decide +kernel
theorem dX5_wineOf_133 : decode cX5_wineOf 133 = .ok (.iload_n 2, 1) := by decide +kernel
theorem dX5_wineOf_134 : decode cX5_wineOf 134 = .ok (.iaload, 1) := by decide +kernel
theorem dX5_wineOf_135 : decode cX5_wineOf 135 = .ok (.if_icmp .ne 8, 3) := by decide +kernel
theorem dX5_wineOf_138 : decode cX5_wineOf 138 = .ok (.iload 4, 2) := by decide +kernel
theorem dX5_wineOf_140 : decode cX5_wineOf 140 = .ok (.goto 7, 3) := by decide +kernel
theorem dX5_wineOf_143 : decode cX5_wineOf 143 = .ok (.iload 4, 2) := by decide +kernel
theorem dX5_wineOf_145 : decode cX5_wineOf 145 = .ok (.iconst 1, 1) := by decide +kernel
theorem dX5_wineOf_146 : decode cX5_wineOf 146 = .ok (.isub, 1) := by decide +kernel
theorem dX5_wineOf_147 : decode cX5_wineOf 147 = .ok (.ireturn, 1) := by decide +kernel
theorem dX5_partnerOf_0 : decode cX5_partnerOf 0 = .ok (.aload_n 0, 1) := by decide +kernel
theorem dX5_partnerOf_1 : decode cX5_partnerOf 1 = .ok (.getfield 18, 3) := by decide +kernel
theorem dX5_partnerOf_4 : decode cX5_partnerOf 4 = .ok (.getfield 32, 3) := by decide +kernel
theorem dX5_partnerOf_7 : decode cX5_partnerOf 7 = .ok (.getfield 48, 3) := by decide +kernel
theorem dX5_partnerOf_10 : decode cX5_partnerOf 10 = .ok (.sipush 255, 3) := by decide +kernel
theorem dX5_partnerOf_13 : decode cX5_partnerOf 13 = .ok (.iand, 1) := by decide +kernel
theorem dX5_partnerOf_14 : decode cX5_partnerOf 14 = .ok (.istore_n 2, 1) := by decide +kernel
theorem dX5_partnerOf_15 : decode cX5_partnerOf 15 = .ok (.iconst 0, 1) := by decide +kernel
theorem dX5_partnerOf_16 : decode cX5_partnerOf 16 = .ok (.istore_n 3, 1) := by decide +kernel
theorem dX5_partnerOf_17 : decode cX5_partnerOf 17 = .ok (.iload_n 3, 1) := by decide +kernel
theorem dX5_partnerOf_18 : decode cX5_partnerOf 18 = .ok (.bipush 8, 2) := by decide +kernel
theorem dX5_partnerOf_20 : decode cX5_partnerOf 20 = .ok (.if_icmp .ge 63, 3) := by decide +kernel
theorem dX5_partnerOf_23 : decode cX5_partnerOf 23 = .ok (.iload_n 2, 1) := by decide +kernel
theorem dX5_partnerOf_24 : decode cX5_partnerOf 24 = .ok (.ifCond .eq 59, 3) := by decide +kernel
theorem dX5_partnerOf_27 : decode cX5_partnerOf 27 = .ok (.aload_n 0, 1) := by decide +kernel
theorem dX5_partnerOf_28 : decode cX5_partnerOf 28 = .ok (.iload_n 2, 1) := by decide +kernel
theorem dX5_partnerOf_29 : decode cX5_partnerOf 29 = .ok (.invokevirtual 52, 3) := by decide +kernel
theorem dX5_partnerOf_32 : decode cX5_partnerOf 32 = .ok (.istore 4, 2) := by decide +kernel
theorem dX5_partnerOf_34 : decode cX5_partnerOf 34 = .ok (.aload_n 0, 1) := by decide +kernel
theorem dX5_partnerOf_35 : decode cX5_partnerOf 35 = .ok (.iload_n 2, 1) := by decide +kernel
theorem dX5_partnerOf_36 : decode cX5_partnerOf 36 = .ok (.iload 4, 2) := by decide +kernel
theorem dX5_partnerOf_38 : decode cX5_partnerOf 38 = .ok (.invokevirtual 80, 3) := by decide +kernel
theorem dX5_partnerOf_41 : decode cX5_partnerOf 41 = .ok (.istore 5, 2) := by decide +kernel
theorem dX5_partnerOf_43 : decode cX5_partnerOf 43 = .ok (.iload 4, 2) := by decide +kernel
theorem dX5_partnerOf_45 : decode cX5_partnerOf 45 = .ok (.iload_n 1, 1) := by decide +kernel
theorem dX5_partnerOf_46 : decode cX5_partnerOf 46 = .ok (.if_icmp .ne 6, 3) := by decide +kernel
theorem dX5_partnerOf_49 : decode cX5_partnerOf 49 = .ok (.iload 5, 2) := by decide +kernel
theorem dX5_partnerOf_51 : decode cX5_partnerOf 51 = .ok (.ireturn, 1) := by decide +kernel
theorem dX5_partnerOf_52 : decode cX5_partnerOf 52 = .ok (.iload 5, 2) := by decide +kernel
theorem dX5_partnerOf_54 : decode cX5_partnerOf 54 = .ok (.iload_n 1, 1) := by decide +kernel
theorem dX5_partnerOf_55 : decode cX5_partnerOf 55 = .ok (.if_icmp .ne 6, 3) := by decide +kernel
theorem dX5_partnerOf_58 : decode cX5_partnerOf 58 = .ok (.iload 4, 2) := by decide +kernel
theorem dX5_partnerOf_60 : decode cX5_partnerOf 60 = .ok (.ireturn, 1) := by decide +kernel
theorem dX5_partnerOf_61 : decode cX5_partnerOf 61 = .ok (.iload_n 2, 1) := by decide +kernel
theorem dX5_partnerOf_62 : decode cX5_partnerOf 62 = .ok (.iconst 1, 1) := by decide +kernel
theorem dX5_partnerOf_63 : decode cX5_partnerOf 63 = .ok (.iload 4, 2) := by decide +kernel
theorem dX5_partnerOf_65 : decode cX5_partnerOf 65 = .ok (.ishl, 1) := by decide +kernel
theorem dX5_partnerOf_66 : decode cX5_partnerOf 66 = .ok (.iconst (-1), 1) := by decide +kernel
theorem dX5_partnerOf_67 : decode cX5_partnerOf 67 = .ok (.ixor, 1) := by decide +kernel
theorem dX5_partnerOf_68 : decode cX5_partnerOf 68 = .ok (.iand, 1) := by decide +kernel
theorem dX5_partnerOf_69 : decode cX5_partnerOf 69 = .ok (.iconst 1, 1) := by decide +kernel
theorem dX5_partnerOf_70 : decode cX5_partnerOf 70 = .ok (.iload 5, 2) := by decide +kernel
theorem dX5_partnerOf_72 : decode cX5_partnerOf 72 = .ok (.ishl, 1) := by decide +kernel
theorem dX5_partnerOf_73 : decode cX5_partnerOf 73 = .ok (.iconst (-1), 1) := by decide +kernel
theorem dX5_partnerOf_74 : decode cX5_partnerOf 74 = .ok (.ixor, 1) := by decide +kernel
theorem dX5_partnerOf_75 : decode cX5_partnerOf 75 = .ok (.iand, 1) := by decide +kernel
theorem dX5_partnerOf_76 : decode cX5_partnerOf 76 = .ok (.istore_n 2, 1) := by decide +kernel
theorem dX5_partnerOf_77 : decode cX5_partnerOf 77 = .ok (.iinc 3 1, 3) := by decide +kernel
theorem dX5_partnerOf_80 : decode cX5_partnerOf 80 = .ok (.goto (-63), 3) := by decide +kernel
theorem dX5_partnerOf_83 : decode cX5_partnerOf 83 = .ok (.iload_n 1, 1) := by decide +kernel
theorem dX5_partnerOf_84 : decode cX5_partnerOf 84 = .ok (.ireturn, 1) := by decide +kernel
theorem dX5_firstPartner_0 : decode cX5_firstPartner 0 = .ok (.iload_n 2, 1) := by decide +kernel
theorem dX5_firstPartner_1 : decode cX5_firstPartner 1 = .ok (.istore_n 3, 1) := by decide +kernel
theorem dX5_firstPartner_2 : decode cX5_firstPartner 2 = .ok (.iload_n 3, 1) := by decide +kernel
theorem dX5_firstPartner_3 : decode cX5_firstPartner 3 = .ok (.bipush 8, 2) := by decide +kernel
theorem dX5_firstPartner_5 : decode cX5_firstPartner 5 = .ok (.if_icmp .ge 35, 3) := by decide +kernel
theorem dX5_firstPartner_8 : decode cX5_firstPartner 8 = .ok (.iload_n 1, 1) := by decide +kernel
theorem dX5_firstPartner_9 : decode cX5_firstPartner 9 = .ok (.iload_n 3, 1) := by decide +kernel
theorem dX5_firstPartner_10 : decode cX5_firstPartner 10 = .ok (.invokestatic 55, 3) := by decide +kernel
theorem dX5_firstPartner_13 : decode cX5_firstPartner 13 = .ok (.ifCond .eq 21, 3) := by decide +kernel
theorem dX5_firstPartner_16 : decode cX5_firstPartner 16 = .ok (.aload_n 0, 1) := by decide +kernel
theorem dX5_firstPartner_17 : decode cX5_firstPartner 17 = .ok (.iload_n 1, 1) := by decide +kernel
theorem dX5_firstPartner_18 : decode cX5_firstPartner 18 = .ok (.iload_n 2, 1) := by decide +kernel
theorem dX5_firstPartner_19 : decode cX5_firstPartner 19 = .ok (.iload_n 3, 1) := by decide +kernel
theorem dX5_firstPartner_20 : decode cX5_firstPartner 20 = .ok (.invokevirtual 59, 3) := by decide +kernel
theorem dX5_firstPartner_23 : decode cX5_firstPartner 23 = .ok (.aload_n 0, 1) := by decide +kernel
theorem dX5_firstPartner_24 : decode cX5_firstPartner 24 = .ok (.getfield 15, 3) := by decide +kernel
theorem dX5_firstPartner_27 : decode cX5_firstPartner 27 = .ok (.iload_n 1, 1) := by decide +kernel
theorem dX5_firstPartner_28 : decode cX5_firstPartner 28 = .ok (.iaload, 1) := by decide +kernel
theorem dX5_firstPartner_29 : decode cX5_firstPartner 29 = .ok (.if_icmp .ne 5, 3) := by decide +kernel
theorem dX5_firstPartner_32 : decode cX5_firstPartner 32 = .ok (.iload_n 3, 1) := by decide +kernel
theorem dX5_firstPartner_33 : decode cX5_firstPartner 33 = .ok (.ireturn, 1) := by decide +kernel
theorem dX5_firstPartner_34 : decode cX5_firstPartner 34 = .ok (.iinc 3 1, 3) := by decide +kernel
theorem dX5_firstPartner_37 : decode cX5_firstPartner 37 = .ok (.goto (-35), 3) := by decide +kernel
theorem dX5_firstPartner_40 : decode cX5_firstPartner 40 = .ok (.iload_n 2, 1) := by decide +kernel
theorem dX5_firstPartner_41 : decode cX5_firstPartner 41 = .ok (.ireturn, 1) := by decide +kernel
theorem dX5_leastOf_0 : decode cX5_leastOf 0 = .ok (.iload_n 1, 1) := by decide +kernel
theorem dX5_leastOf_1 : decode cX5_leastOf 1 = .ok (.invokestatic 83, 3) := by decide +kernel
theorem dX5_leastOf_4 : decode cX5_leastOf 4 = .ok (.bipush 7, 2) := by decide +kernel
theorem dX5_leastOf_6 : decode cX5_leastOf 6 = .ok (.invokestatic 88, 3) := by decide +kernel
theorem dX5_leastOf_9 : decode cX5_leastOf 9 = .ok (.ireturn, 1) := by decide +kernel
theorem dX6_init_0 : decode cX6_init 0 = .ok (.aload_n 0, 1) := by decide +kernel
theorem dX6_init_1 : decode cX6_init 1 = .ok (.invokespecial 3, 3) := by decide +kernel
theorem dX6_init_4 : decode cX6_init 4 = .ok (.aload_n 0, 1) := by decide +kernel
theorem dX6_init_5 : decode cX6_init 5 = .ok (.bipush 6, 2) := by decide +kernel
theorem dX6_init_7 : decode cX6_init 7 = .ok (.newarray .int, 2) := by decide +kernel
theorem dX6_init_9 : decode cX6_init 9 = .ok (.putfield 9, 3) := by decide +kernel
theorem dX6_init_12 : decode cX6_init 12 = .ok (.aload_n 0, 1) := by decide +kernel
theorem dX6_init_13 : decode cX6_init 13 = .ok (.bipush 6, 2) := by decide +kernel
theorem dX6_init_15 : decode cX6_init 15 = .ok (.newarray .int, 2) := by decide +kernel
theorem dX6_init_17 : decode cX6_init 17 = .ok (.putfield 15, 3) := by decide +kernel
theorem dX6_init_20 : decode cX6_init 20 = .ok (.aload_n 0, 1) := by decide +kernel
theorem dX6_init_21 : decode cX6_init 21 = .ok (.bipush 6, 2) := by decide +kernel
theorem dX6_init_23 : decode cX6_init 23 = .ok (.newarray .int, 2) := by decide +kernel
theorem dX6_init_25 : decode cX6_init 25 = .ok (.putfield 18, 3) := by decide +kernel
theorem dX6_init_28 : decode cX6_init 28 = .ok (.return_, 1) := by decide +kernel
theorem dX6_note_0 : decode cX6_note 0 = .ok (.aload_n 0, 1) := by decide +kernel
theorem dX6_note_1 : decode cX6_note 1 = .ok (.getfield 21, 3) := by decide +kernel
theorem dX6_note_4 : decode cX6_note 4 = .ok (.iconst 0, 1) := by decide +kernel
theorem dX6_note_5 : decode cX6_note 5 = .ok (.iconst 5, 1) := by decide +kernel
theorem dX6_note_6 : decode cX6_note 6 = .ok (.invokestatic 25, 3) := by decide +kernel
theorem dX6_note_9 : decode cX6_note 9 = .ok (.ifCond .ne 4, 3) := by decide +kernel
theorem dX6_note_12 : decode cX6_note 12 = .ok (.return_, 1) := by decide +kernel
theorem dX6_note_13 : decode cX6_note 13 = .ok (.aload_n 0, 1) := by decide +kernel
theorem dX6_note_14 : decode cX6_note 14 = .ok (.getfield 9, 3) := by decide +kernel
theorem dX6_note_17 : decode cX6_note 17 = .ok (.aload_n 0, 1) := by decide +kernel
theorem dX6_note_18 : decode cX6_note 18 = .ok (.getfield 21, 3) := by decide +kernel
theorem dX6_note_21 : decode cX6_note 21 = .ok (.iload_n 1, 1) := by decide +kernel
theorem dX6_note_22 : decode cX6_note 22 = .ok (.iastore, 1) := by decide +kernel
theorem dX6_note_23 : decode cX6_note 23 = .ok (.aload_n 0, 1) := by decide +kernel
theorem dX6_note_24 : decode cX6_note 24 = .ok (.getfield 15, 3) := by decide +kernel
theorem dX6_note_27 : decode cX6_note 27 = .ok (.aload_n 0, 1) := by decide +kernel
theorem dX6_note_28 : decode cX6_note 28 = .ok (.getfield 21, 3) := by decide +kernel
theorem dX6_note_31 : decode cX6_note 31 = .ok (.iload_n 2, 1) := by decide +kernel
theorem dX6_note_32 : decode cX6_note 32 = .ok (.iastore, 1) := by decide +kernel
theorem dX6_note_33 : decode cX6_note 33 = .ok (.aload_n 0, 1) := by decide +kernel
theorem dX6_note_34 : decode cX6_note 34 = .ok (.getfield 18, 3) := by decide +kernel
theorem dX6_note_37 : decode cX6_note 37 = .ok (.aload_n 0, 1) := by decide +kernel
theorem dX6_note_38 : decode cX6_note 38 = .ok (.getfield 21, 3) := by decide +kernel
theorem dX6_note_41 : decode cX6_note 41 = .ok (.iload_n 3, 1) := by decide +kernel
theorem dX6_note_42 : decode cX6_note 42 = .ok (.iastore, 1) := by decide +kernel
theorem dX6_note_43 : decode cX6_note 43 = .ok (.aload_n 0, 1) := by decide +kernel
theorem dX6_note_44 : decode cX6_note 44 = .ok (.dup, 1) := by decide +kernel
theorem dX6_note_45 : decode cX6_note 45 = .ok (.getfield 21, 3) := by decide +kernel
theorem dX6_note_48 : decode cX6_note 48 = .ok (.iconst 1, 1) := by decide +kernel
theorem dX6_note_49 : decode cX6_note 49 = .ok (.iadd, 1) := by decide +kernel
theorem dX6_note_50 : decode cX6_note 50 = .ok (.putfield 21, 3) := by decide +kernel
theorem dX6_note_53 : decode cX6_note 53 = .ok (.return_, 1) := by decide +kernel
theorem dX6_latestDay_0 : decode cX6_latestDay 0 = .ok (.iconst 0, 1) := by decide +kernel
theorem dX6_latestDay_1 : decode cX6_latestDay 1 = .ok (.istore_n 1, 1) := by decide +kernel
theorem dX6_latestDay_2 : decode cX6_latestDay 2 = .ok (.iconst 0, 1) := by decide +kernel
theorem dX6_latestDay_3 : decode cX6_latestDay 3 = .ok (.istore_n 2, 1) := by decide +kernel
theorem dX6_latestDay_4 : decode cX6_latestDay 4 = .ok (.iload_n 2, 1) := by decide +kernel
theorem dX6_latestDay_5 : decode cX6_latestDay 5 = .ok (.aload_n 0, 1) := by decide +kernel
theorem dX6_latestDay_6 : decode cX6_latestDay 6 = .ok (.getfield 21, 3) := by decide +kernel
theorem dX6_latestDay_9 : decode cX6_latestDay 9 = .ok (.if_icmp .ge 26, 3) := by decide +kernel
theorem dX6_latestDay_12 : decode cX6_latestDay 12 = .ok (.iload_n 2, 1) := by decide +kernel
theorem dX6_latestDay_13 : decode cX6_latestDay 13 = .ok (.bipush 6, 2) := by decide +kernel
theorem dX6_latestDay_15 : decode cX6_latestDay 15 = .ok (.if_icmp .ge 20, 3) := by decide +kernel
theorem dX6_latestDay_18 : decode cX6_latestDay 18 = .ok (.iload_n 1, 1) := by decide +kernel
theorem dX6_latestDay_19 : decode cX6_latestDay 19 = .ok (.aload_n 0, 1) := by decide +kernel
theorem dX6_latestDay_20 : decode cX6_latestDay 20 = .ok (.getfield 15, 3) := by decide +kernel
theorem dX6_latestDay_23 : decode cX6_latestDay 23 = .ok (.iload_n 2, 1) := by decide +kernel
theorem dX6_latestDay_24 : decode cX6_latestDay 24 = .ok (.iaload, 1) := by decide +kernel
theorem dX6_latestDay_25 : decode cX6_latestDay 25 = .ok (.invokestatic 29, 3) := by decide +kernel
theorem dX6_latestDay_28 : decode cX6_latestDay 28 = .ok (.istore_n 1, 1) := by decide +kernel
theorem dX6_latestDay_29 : decode cX6_latestDay 29 = .ok (.iinc 2 1, 3) := by decide +kernel
theorem dX6_latestDay_32 : decode cX6_latestDay 32 = .ok (.goto (-28), 3) := by decide +kernel
theorem dX6_latestDay_35 : decode cX6_latestDay 35 = .ok (.iload_n 1, 1) := by decide +kernel
theorem dX6_latestDay_36 : decode cX6_latestDay 36 = .ok (.ireturn, 1) := by decide +kernel
theorem dX6_copyFrom_0 : decode cX6_copyFrom 0 = .ok (.aload_n 0, 1) := by decide +kernel
theorem dX6_copyFrom_1 : decode cX6_copyFrom 1 = .ok (.aload_n 1, 1) := by decide +kernel
theorem dX6_copyFrom_2 : decode cX6_copyFrom 2 = .ok (.getfield 21, 3) := by decide +kernel
theorem dX6_copyFrom_5 : decode cX6_copyFrom 5 = .ok (.putfield 21, 3) := by decide +kernel
theorem dX6_copyFrom_8 : decode cX6_copyFrom 8 = .ok (.aload_n 1, 1) := by decide +kernel
theorem dX6_copyFrom_9 : decode cX6_copyFrom 9 = .ok (.getfield 9, 3) := by decide +kernel
theorem dX6_copyFrom_12 : decode cX6_copyFrom 12 = .ok (.iconst 0, 1) := by decide +kernel
theorem dX6_copyFrom_13 : decode cX6_copyFrom 13 = .ok (.aload_n 0, 1) := by decide +kernel
theorem dX6_copyFrom_14 : decode cX6_copyFrom 14 = .ok (.getfield 9, 3) := by decide +kernel
theorem dX6_copyFrom_17 : decode cX6_copyFrom 17 = .ok (.iconst 0, 1) := by decide +kernel
theorem dX6_copyFrom_18 : decode cX6_copyFrom 18 = .ok (.bipush 6, 2) := by decide +kernel
theorem dX6_copyFrom_20 : decode cX6_copyFrom 20 = .ok (.invokestatic 35, 3) := by decide +kernel
theorem dX6_copyFrom_23 : decode cX6_copyFrom 23 = .ok (.aload_n 1, 1) := by decide +kernel
theorem dX6_copyFrom_24 : decode cX6_copyFrom 24 = .ok (.getfield 15, 3) := by decide +kernel
theorem dX6_copyFrom_27 : decode cX6_copyFrom 27 = .ok (.iconst 0, 1) := by decide +kernel
theorem dX6_copyFrom_28 : decode cX6_copyFrom 28 = .ok (.aload_n 0, 1) := by decide +kernel
theorem dX6_copyFrom_29 : decode cX6_copyFrom 29 = .ok (.getfield 15, 3) := by decide +kernel
theorem dX6_copyFrom_32 : decode cX6_copyFrom 32 = .ok (.iconst 0, 1) := by decide +kernel
theorem dX6_copyFrom_33 : decode cX6_copyFrom 33 = .ok (.bipush 6, 2) := by decide +kernel
theorem dX6_copyFrom_35 : decode cX6_copyFrom 35 = .ok (.invokestatic 35, 3) := by decide +kernel
theorem dX6_copyFrom_38 : decode cX6_copyFrom 38 = .ok (.aload_n 1, 1) := by decide +kernel
theorem dX6_copyFrom_39 : decode cX6_copyFrom 39 = .ok (.getfield 18, 3) := by decide +kernel
theorem dX6_copyFrom_42 : decode cX6_copyFrom 42 = .ok (.iconst 0, 1) := by decide +kernel
theorem dX6_copyFrom_43 : decode cX6_copyFrom 43 = .ok (.aload_n 0, 1) := by decide +kernel
theorem dX6_copyFrom_44 : decode cX6_copyFrom 44 = .ok (.getfield 18, 3) := by decide +kernel
theorem dX6_copyFrom_47 : decode cX6_copyFrom 47 = .ok (.iconst 0, 1) := by decide +kernel
theorem dX6_copyFrom_48 : decode cX6_copyFrom 48 = .ok (.bipush 6, 2) := by decide +kernel
theorem dX6_copyFrom_50 : decode cX6_copyFrom 50 = .ok (.invokestatic 35, 3) := by decide +kernel
theorem dX6_copyFrom_53 : decode cX6_copyFrom 53 = .ok (.return_, 1) := by decide +kernel
theorem dX7_init_0 : decode cX7_init 0 = .ok (.aload_n 0, 1) := by decide +kernel
theorem dX7_init_1 : decode cX7_init 1 = .ok (.invokespecial 3, 3) := by decide +kernel
theorem dX7_init_4 : decode cX7_init 4 = .ok (.aload_n 0, 1) := by decide +kernel
theorem dX7_init_5 : decode cX7_init 5 = .ok (.bipush 8, 2) := by decide +kernel
theorem dX7_init_7 : decode cX7_init 7 = .ok (.newarray .int, 2) := by decide +kernel
theorem dX7_init_9 : decode cX7_init 9 = .ok (.putfield 9, 3) := by decide +kernel
theorem dX7_init_12 : decode cX7_init 12 = .ok (.aload_n 0, 1) := by decide +kernel
theorem dX7_init_13 : decode cX7_init 13 = .ok (.bipush 8, 2) := by decide +kernel
theorem dX7_init_15 : decode cX7_init 15 = .ok (.newarray .int, 2) := by decide +kernel
theorem dX7_init_17 : decode cX7_init 17 = .ok (.putfield 15, 3) := by decide +kernel
theorem dX7_init_20 : decode cX7_init 20 = .ok (.aload_n 0, 1) := by decide +kernel
theorem dX7_init_21 : decode cX7_init 21 = .ok (.bipush 8, 2) := by decide +kernel
theorem dX7_init_23 : decode cX7_init 23 = .ok (.newarray .int, 2) := by decide +kernel
theorem dX7_init_25 : decode cX7_init 25 = .ok (.putfield 18, 3) := by decide +kernel
theorem dX7_init_28 : decode cX7_init 28 = .ok (.aload_n 0, 1) := by decide +kernel
theorem dX7_init_29 : decode cX7_init 29 = .ok (.bipush 8, 2) := by decide +kernel
theorem dX7_init_31 : decode cX7_init 31 = .ok (.newarray .int, 2) := by decide +kernel
theorem dX7_init_33 : decode cX7_init 33 = .ok (.putfield 21, 3) := by decide +kernel
theorem dX7_init_36 : decode cX7_init 36 = .ok (.return_, 1) := by decide +kernel
theorem dX7_has_0 : decode cX7_has 0 = .ok (.iload_n 1, 1) := by decide +kernel
theorem dX7_has_1 : decode cX7_has 1 = .ok (.ifCond .lt 24, 3) := by decide +kernel
theorem dX7_has_4 : decode cX7_has 4 = .ok (.iload_n 1, 1) := by decide +kernel
theorem dX7_has_5 : decode cX7_has 5 = .ok (.bipush 8, 2) := by decide +kernel
theorem dX7_has_7 : decode cX7_has 7 = .ok (.if_icmp .ge 18, 3) := by decide +kernel
theorem dX7_has_10 : decode cX7_has 10 = .ok (.aload_n 0, 1) := by decide +kernel
theorem dX7_has_11 : decode cX7_has 11 = .ok (.getfield 24, 3) := by decide +kernel
theorem dX7_has_14 : decode cX7_has 14 = .ok (.iload_n 1, 1) := by decide +kernel
theorem dX7_has_15 : decode cX7_has 15 = .ok (.invokestatic 28, 3) := by decide +kernel
theorem dX7_has_18 : decode cX7_has 18 = .ok (.ifCond .eq 7, 3) := by decide +kernel
theorem dX7_has_21 : decode cX7_has 21 = .ok (.iconst 1, 1) := by decide +kernel
theorem dX7_has_22 : decode cX7_has 22 = .ok (.goto 4, 3) := by decide +kernel
theorem dX7_has_25 : decode cX7_has 25 = .ok (.iconst 0, 1) := by decide +kernel
theorem dX7_has_26 : decode cX7_has 26 = .ok (.ireturn, 1) := by decide +kernel
theorem dX7_hasAll_0 : decode cX7_hasAll 0 = .ok (.iload_n 1, 1) := by decide +kernel
theorem dX7_hasAll_1 : decode cX7_hasAll 1 = .ok (.aload_n 0, 1) := by decide +kernel
theorem dX7_hasAll_2 : decode cX7_hasAll 2 = .ok (.getfield 24, 3) := by decide +kernel
theorem dX7_hasAll_5 : decode cX7_hasAll 5 = .ok (.iconst (-1), 1) := by decide +kernel
theorem dX7_hasAll_6 : decode cX7_hasAll 6 = .ok (.ixor, 1) := by decide +kernel
theorem dX7_hasAll_7 : decode cX7_hasAll 7 = .ok (.iand, 1) := by decide +kernel
theorem dX7_hasAll_8 : decode cX7_hasAll 8 = .ok (.ifCond .ne 7, 3) := by decide +kernel
theorem dX7_hasAll_11 : decode cX7_hasAll 11 = .ok (.iconst 1, 1) := by decide +kernel
theorem dX7_hasAll_12 : decode cX7_hasAll 12 = .ok (.goto 4, 3) := by decide +kernel
theorem dX7_hasAll_15 : decode cX7_hasAll 15 = .ok (.iconst 0, 1) := by decide +kernel
theorem dX7_hasAll_16 : decode cX7_hasAll 16 = .ok (.ireturn, 1) := by decide +kernel
theorem dX7_countIn_0 : decode cX7_countIn 0 = .ok (.iconst 0, 1) := by decide +kernel
theorem dX7_countIn_1 : decode cX7_countIn 1 = .ok (.istore_n 3, 1) := by decide +kernel
theorem dX7_countIn_2 : decode cX7_countIn 2 = .ok (.iconst 0, 1) := by decide +kernel
theorem dX7_countIn_3 : decode cX7_countIn 3 = .ok (.istore 4, 2) := by decide +kernel
theorem dX7_countIn_5 : decode cX7_countIn 5 = .ok (.iload 4, 2) := by decide +kernel
theorem dX7_countIn_7 : decode cX7_countIn 7 = .ok (.bipush 8, 2) := by decide +kernel
theorem dX7_countIn_9 : decode cX7_countIn 9 = .ok (.if_icmp .ge 41, 3) := by decide +kernel
theorem dX7_countIn_12 : decode cX7_countIn 12 = .ok (.aload_n 0, 1) := by decide +kernel
theorem dX7_countIn_13 : decode cX7_countIn 13 = .ok (.iload 4, 2) := by decide +kernel
theorem dX7_countIn_15 : decode cX7_countIn 15 = .ok (.invokevirtual 32, 3) := by decide +kernel
theorem dX7_countIn_18 : decode cX7_countIn 18 = .ok (.ifCond .eq 26, 3) := by decide +kernel
theorem dX7_countIn_21 : decode cX7_countIn 21 = .ok (.iload_n 2, 1) := by decide +kernel
theorem dX7_countIn_22 : decode cX7_countIn 22 = .ok (.iload 4, 2) := by decide +kernel
theorem dX7_countIn_24 : decode cX7_countIn 24 = .ok (.invokestatic 28, 3) := by decide +kernel
theorem dX7_countIn_27 : decode cX7_countIn 27 = .ok (.ifCond .ne 17, 3) := by decide +kernel
theorem dX7_countIn_30 : decode cX7_countIn 30 = .ok (.aload_n 0, 1) := by decide +kernel
theorem dX7_countIn_31 : decode cX7_countIn 31 = .ok (.getfield 9, 3) := by decide +kernel
theorem dX7_countIn_34 : decode cX7_countIn 34 = .ok (.iload 4, 2) := by decide +kernel
theorem dX7_countIn_36 : decode cX7_countIn 36 = .ok (.iaload, 1) := by decide +kernel
theorem dX7_countIn_37 : decode cX7_countIn 37 = .ok (.iload_n 1, 1) := by decide +kernel
theorem dX7_countIn_38 : decode cX7_countIn 38 = .ok (.if_icmp .ne 6, 3) := by decide +kernel
theorem dX7_countIn_41 : decode cX7_countIn 41 = .ok (.iinc 3 1, 3) := by decide +kernel
theorem dX7_countIn_44 : decode cX7_countIn 44 = .ok (.iinc 4 1, 3) := by decide +kernel
theorem dX7_countIn_47 : decode cX7_countIn 47 = .ok (.goto (-42), 3) := by decide +kernel
theorem dX7_countIn_50 : decode cX7_countIn 50 = .ok (.iload_n 3, 1) := by decide +kernel
theorem dX7_countIn_51 : decode cX7_countIn 51 = .ok (.ireturn, 1) := by decide +kernel
theorem dX7_put_0 : decode cX7_put 0 = .ok (.iload_n 1, 1) := by decide +kernel
theorem dX7_put_1 : decode cX7_put 1 = .ok (.iconst 0, 1) := by decide +kernel
theorem dX7_put_2 : decode cX7_put 2 = .ok (.bipush 7, 2) := by decide +kernel
theorem dX7_put_4 : decode cX7_put 4 = .ok (.invokestatic 36, 3) := by decide +kernel
theorem dX7_put_7 : decode cX7_put 7 = .ok (.ifCond .ne 4, 3) := by decide +kernel
theorem dX7_put_10 : decode cX7_put 10 = .ok (.return_, 1) := by decide +kernel
theorem dX7_put_11 : decode cX7_put 11 = .ok (.aload_n 0, 1) := by decide +kernel
theorem dX7_put_12 : decode cX7_put 12 = .ok (.dup, 1) := by decide +kernel
theorem dX7_put_13 : decode cX7_put 13 = .ok (.getfield 24, 3) := by decide +kernel
theorem dX7_put_16 : decode cX7_put 16 = .ok (.iconst 1, 1) := by decide +kernel
theorem dX7_put_17 : decode cX7_put 17 = .ok (.iload_n 1, 1) := by decide +kernel
theorem dX7_put_18 : decode cX7_put 18 = .ok (.ishl, 1) := by decide +kernel
theorem dX7_put_19 : decode cX7_put 19 = .ok (.ior, 1) := by decide +kernel
theorem dX7_put_20 : decode cX7_put 20 = .ok (.putfield 24, 3) := by decide +kernel
theorem dX7_put_23 : decode cX7_put 23 = .ok (.aload_n 0, 1) := by decide +kernel
theorem dX7_put_24 : decode cX7_put 24 = .ok (.getfield 9, 3) := by decide +kernel
theorem dX7_put_27 : decode cX7_put 27 = .ok (.iload_n 1, 1) := by decide +kernel
theorem dX7_put_28 : decode cX7_put 28 = .ok (.iload_n 2, 1) := by decide +kernel
theorem dX7_put_29 : decode cX7_put 29 = .ok (.iastore, 1) := by decide +kernel
theorem dX7_put_30 : decode cX7_put 30 = .ok (.aload_n 0, 1) := by decide +kernel
theorem dX7_put_31 : decode cX7_put 31 = .ok (.getfield 15, 3) := by decide +kernel
theorem dX7_put_34 : decode cX7_put 34 = .ok (.iload_n 1, 1) := by decide +kernel
theorem dX7_put_35 : decode cX7_put 35 = .ok (.iload_n 3, 1) := by decide +kernel
theorem dX7_put_36 : decode cX7_put 36 = .ok (.iastore, 1) := by decide +kernel
theorem dX7_put_37 : decode cX7_put 37 = .ok (.aload_n 0, 1) := by decide +kernel
theorem dX7_put_38 : decode cX7_put 38 = .ok (.getfield 18, 3) := by decide +kernel
theorem dX7_put_41 : decode cX7_put 41 = .ok (.iload_n 1, 1) := by decide +kernel
theorem dX7_put_42 : decode cX7_put 42 = .ok (.iload 4, 2) := by decide +kernel
theorem dX7_put_44 : decode cX7_put 44 = .ok (.iastore, 1) := by decide +kernel
theorem dX7_put_45 : decode cX7_put 45 = .ok (.aload_n 0, 1) := by decide +kernel
theorem dX7_put_46 : decode cX7_put 46 = .ok (.getfield 21, 3) := by decide +kernel
theorem dX7_put_49 : decode cX7_put 49 = .ok (.iload_n 1, 1) := by decide +kernel
theorem dX7_put_50 : decode cX7_put 50 = .ok (.iload 5, 2) := by decide +kernel
theorem dX7_put_52 : decode cX7_put 52 = .ok (.iastore, 1) := by decide +kernel
theorem dX7_put_53 : decode cX7_put 53 = .ok (.return_, 1) := by decide +kernel
theorem dX7_copyFrom_0 : decode cX7_copyFrom 0 = .ok (.aload_n 0, 1) := by decide +kernel
theorem dX7_copyFrom_1 : decode cX7_copyFrom 1 = .ok (.aload_n 1, 1) := by decide +kernel
theorem dX7_copyFrom_2 : decode cX7_copyFrom 2 = .ok (.getfield 24, 3) := by decide +kernel
theorem dX7_copyFrom_5 : decode cX7_copyFrom 5 = .ok (.putfield 24, 3) := by decide +kernel
theorem dX7_copyFrom_8 : decode cX7_copyFrom 8 = .ok (.aload_n 1, 1) := by decide +kernel
theorem dX7_copyFrom_9 : decode cX7_copyFrom 9 = .ok (.getfield 9, 3) := by decide +kernel
theorem dX7_copyFrom_12 : decode cX7_copyFrom 12 = .ok (.iconst 0, 1) := by decide +kernel
theorem dX7_copyFrom_13 : decode cX7_copyFrom 13 = .ok (.aload_n 0, 1) := by decide +kernel
theorem dX7_copyFrom_14 : decode cX7_copyFrom 14 = .ok (.getfield 9, 3) := by decide +kernel
theorem dX7_copyFrom_17 : decode cX7_copyFrom 17 = .ok (.iconst 0, 1) := by decide +kernel
theorem dX7_copyFrom_18 : decode cX7_copyFrom 18 = .ok (.bipush 8, 2) := by decide +kernel
theorem dX7_copyFrom_20 : decode cX7_copyFrom 20 = .ok (.invokestatic 40, 3) := by decide +kernel
theorem dX7_copyFrom_23 : decode cX7_copyFrom 23 = .ok (.aload_n 1, 1) := by decide +kernel
theorem dX7_copyFrom_24 : decode cX7_copyFrom 24 = .ok (.getfield 15, 3) := by decide +kernel
theorem dX7_copyFrom_27 : decode cX7_copyFrom 27 = .ok (.iconst 0, 1) := by decide +kernel
theorem dX7_copyFrom_28 : decode cX7_copyFrom 28 = .ok (.aload_n 0, 1) := by decide +kernel
theorem dX7_copyFrom_29 : decode cX7_copyFrom 29 = .ok (.getfield 15, 3) := by decide +kernel
theorem dX7_copyFrom_32 : decode cX7_copyFrom 32 = .ok (.iconst 0, 1) := by decide +kernel
theorem dX7_copyFrom_33 : decode cX7_copyFrom 33 = .ok (.bipush 8, 2) := by decide +kernel
theorem dX7_copyFrom_35 : decode cX7_copyFrom 35 = .ok (.invokestatic 40, 3) := by decide +kernel
theorem dX7_copyFrom_38 : decode cX7_copyFrom 38 = .ok (.aload_n 1, 1) := by decide +kernel
theorem dX7_copyFrom_39 : decode cX7_copyFrom 39 = .ok (.getfield 18, 3) := by decide +kernel
theorem dX7_copyFrom_42 : decode cX7_copyFrom 42 = .ok (.iconst 0, 1) := by decide +kernel
theorem dX7_copyFrom_43 : decode cX7_copyFrom 43 = .ok (.aload_n 0, 1) := by decide +kernel
theorem dX7_copyFrom_44 : decode cX7_copyFrom 44 = .ok (.getfield 18, 3) := by decide +kernel
theorem dX7_copyFrom_47 : decode cX7_copyFrom 47 = .ok (.iconst 0, 1) := by decide +kernel
theorem dX7_copyFrom_48 : decode cX7_copyFrom 48 = .ok (.bipush 8, 2) := by decide +kernel
theorem dX7_copyFrom_50 : decode cX7_copyFrom 50 = .ok (.invokestatic 40, 3) := by decide +kernel
theorem dX7_copyFrom_53 : decode cX7_copyFrom 53 = .ok (.aload_n 1, 1) := by decide +kernel
theorem dX7_copyFrom_54 : decode cX7_copyFrom 54 = .ok (.getfield 21, 3) := by decide +kernel
theorem dX7_copyFrom_57 : decode cX7_copyFrom 57 = .ok (.iconst 0, 1) := by decide +kernel
theorem dX7_copyFrom_58 : decode cX7_copyFrom 58 = .ok (.aload_n 0, 1) := by decide +kernel
theorem dX7_copyFrom_59 : decode cX7_copyFrom 59 = .ok (.getfield 21, 3) := by decide +kernel
theorem dX7_copyFrom_62 : decode cX7_copyFrom 62 = .ok (.iconst 0, 1) := by decide +kernel
theorem dX7_copyFrom_63 : decode cX7_copyFrom 63 = .ok (.bipush 8, 2) := by decide +kernel
theorem dX7_copyFrom_65 : decode cX7_copyFrom 65 = .ok (.invokestatic 40, 3) := by decide +kernel
theorem dX7_copyFrom_68 : decode cX7_copyFrom 68 = .ok (.return_, 1) := by decide +kernel
theorem dX8_init_0 : decode cX8_init 0 = .ok (.aload_n 0, 1) := by decide +kernel
theorem dX8_init_1 : decode cX8_init 1 = .ok (.invokespecial 3, 3) := by decide +kernel
theorem dX8_init_4 : decode cX8_init 4 = .ok (.aload_n 0, 1) := by decide +kernel
theorem dX8_init_5 : decode cX8_init 5 = .ok (.bipush 30, 2) := by decide +kernel
theorem dX8_init_7 : decode cX8_init 7 = .ok (.newarray .int, 2) := by decide +kernel
theorem dX8_init_9 : decode cX8_init 9 = .ok (.putfield 9, 3) := by decide +kernel
theorem dX8_init_12 : decode cX8_init 12 = .ok (.aload_n 0, 1) := by decide +kernel
theorem dX8_init_13 : decode cX8_init 13 = .ok (.getfield 9, 3) := by decide +kernel
theorem dX8_init_16 : decode cX8_init 16 = .ok (.iconst 1, 1) := by decide +kernel
theorem dX8_init_17 : decode cX8_init 17 = .ok (.iconst 5, 1) := by decide +kernel
theorem dX8_init_18 : decode cX8_init 18 = .ok (.iastore, 1) := by decide +kernel
theorem dX8_init_19 : decode cX8_init 19 = .ok (.aload_n 0, 1) := by decide +kernel
theorem dX8_init_20 : decode cX8_init 20 = .ok (.iconst 2, 1) := by decide +kernel
theorem dX8_init_21 : decode cX8_init 21 = .ok (.putfield 15, 3) := by decide +kernel
theorem dX8_init_24 : decode cX8_init 24 = .ok (.return_, 1) := by decide +kernel
theorem dX8_digitAt_0 : decode cX8_digitAt 0 = .ok (.iload_n 1, 1) := by decide +kernel
theorem dX8_digitAt_1 : decode cX8_digitAt 1 = .ok (.ifCond .lt 20, 3) := by decide +kernel
theorem dX8_digitAt_4 : decode cX8_digitAt 4 = .ok (.aload_n 0, 1) := by decide +kernel
theorem dX8_digitAt_5 : decode cX8_digitAt 5 = .ok (.getfield 15, 3) := by decide +kernel
theorem dX8_digitAt_8 : decode cX8_digitAt 8 = .ok (.iconst 1, 1) := by decide +kernel
theorem dX8_digitAt_9 : decode cX8_digitAt 9 = .ok (.if_icmp .lt 12, 3) := by decide +kernel
theorem dX8_digitAt_12 : decode cX8_digitAt 12 = .ok (.aload_n 0, 1) := by decide +kernel
theorem dX8_digitAt_13 : decode cX8_digitAt 13 = .ok (.getfield 15, 3) := by decide +kernel
theorem dX8_digitAt_16 : decode cX8_digitAt 16 = .ok (.bipush 30, 2) := by decide +kernel
theorem dX8_digitAt_18 : decode cX8_digitAt 18 = .ok (.if_icmp .le 5, 3) := by decide +kernel
theorem dX8_digitAt_21 : decode cX8_digitAt 21 = .ok (.iconst 0, 1) := by decide +kernel
theorem dX8_digitAt_22 : decode cX8_digitAt 22 = .ok (.ireturn, 1) := by decide +kernel
theorem dX8_digitAt_23 : decode cX8_digitAt 23 = .ok (.aload_n 0, 1) := by decide +kernel
theorem dX8_digitAt_24 : decode cX8_digitAt 24 = .ok (.getfield 9, 3) := by decide +kernel
theorem dX8_digitAt_27 : decode cX8_digitAt 27 = .ok (.iload_n 1, 1) := by decide +kernel
theorem dX8_digitAt_28 : decode cX8_digitAt 28 = .ok (.aload_n 0, 1) := by decide +kernel
theorem dX8_digitAt_29 : decode cX8_digitAt 29 = .ok (.getfield 15, 3) := by decide +kernel
theorem dX8_digitAt_32 : decode cX8_digitAt 32 = .ok (.irem, 1) := by decide +kernel
theorem dX8_digitAt_33 : decode cX8_digitAt 33 = .ok (.iaload, 1) := by decide +kernel
theorem dX8_digitAt_34 : decode cX8_digitAt 34 = .ok (.ireturn, 1) := by decide +kernel
theorem dX8_readFrom_0 : decode cX8_readFrom 0 = .ok (.aload_n 0, 1) := by decide +kernel
theorem dX8_readFrom_1 : decode cX8_readFrom 1 = .ok (.aload_n 1, 1) := by decide +kernel
theorem dX8_readFrom_2 : decode cX8_readFrom 2 = .ok (.getfield 19, 3) := by decide +kernel
theorem dX8_readFrom_5 : decode cX8_readFrom 5 = .ok (.bipush 30, 2) := by decide +kernel
theorem dX8_readFrom_7 : decode cX8_readFrom 7 = .ok (.invokestatic 24, 3) := by decide +kernel
theorem dX8_readFrom_10 : decode cX8_readFrom 10 = .ok (.putfield 15, 3) := by decide +kernel
theorem dX8_readFrom_13 : decode cX8_readFrom 13 = .ok (.iconst 0, 1) := by decide +kernel
theorem dX8_readFrom_14 : decode cX8_readFrom 14 = .ok (.istore_n 2, 1) := by decide +kernel
theorem dX8_readFrom_15 : decode cX8_readFrom 15 = .ok (.iload_n 2, 1) := by decide +kernel
theorem dX8_readFrom_16 : decode cX8_readFrom 16 = .ok (.aload_n 0, 1) := by decide +kernel
theorem dX8_readFrom_17 : decode cX8_readFrom 17 = .ok (.getfield 15, 3) := by decide +kernel
theorem dX8_readFrom_20 : decode cX8_readFrom 20 = .ok (.if_icmp .ge 24, 3) := by decide +kernel
theorem dX8_readFrom_23 : decode cX8_readFrom 23 = .ok (.aload_n 0, 1) := by decide +kernel
theorem dX8_readFrom_24 : decode cX8_readFrom 24 = .ok (.getfield 9, 3) := by decide +kernel
theorem dX8_readFrom_27 : decode cX8_readFrom 27 = .ok (.iload_n 2, 1) := by decide +kernel
theorem dX8_readFrom_28 : decode cX8_readFrom 28 = .ok (.aload_n 1, 1) := by decide +kernel
theorem dX8_readFrom_29 : decode cX8_readFrom 29 = .ok (.getfield 30, 3) := by decide +kernel
theorem dX8_readFrom_32 : decode cX8_readFrom 32 = .ok (.iload_n 2, 1) := by decide +kernel
theorem dX8_readFrom_33 : decode cX8_readFrom 33 = .ok (.iaload, 1) := by decide +kernel
theorem dX8_readFrom_34 : decode cX8_readFrom 34 = .ok (.bipush 48, 2) := by decide +kernel
theorem dX8_readFrom_36 : decode cX8_readFrom 36 = .ok (.isub, 1) := by decide +kernel
theorem dX8_readFrom_37 : decode cX8_readFrom 37 = .ok (.iastore, 1) := by decide +kernel
theorem dX8_readFrom_38 : decode cX8_readFrom 38 = .ok (.iinc 2 1, 3) := by decide +kernel
theorem dX8_readFrom_41 : decode cX8_readFrom 41 = .ok (.goto (-26), 3) := by decide +kernel
theorem dX8_readFrom_44 : decode cX8_readFrom 44 = .ok (.return_, 1) := by decide +kernel
theorem dX8_daysFrom_0 : decode cX8_daysFrom 0 = .ok (.iconst 0, 1) := by decide +kernel
theorem dX8_daysFrom_1 : decode cX8_daysFrom 1 = .ok (.istore_n 2, 1) := by decide +kernel
theorem dX8_daysFrom_2 : decode cX8_daysFrom 2 = .ok (.iconst 0, 1) := by decide +kernel
theorem dX8_daysFrom_3 : decode cX8_daysFrom 3 = .ok (.istore_n 3, 1) := by decide +kernel
theorem dX8_daysFrom_4 : decode cX8_daysFrom 4 = .ok (.iload_n 3, 1) := by decide +kernel
theorem dX8_daysFrom_5 : decode cX8_daysFrom 5 = .ok (.aload_n 0, 1) := by decide +kernel
theorem dX8_daysFrom_6 : decode cX8_daysFrom 6 = .ok (.getfield 15, 3) := by decide +kernel
theorem dX8_daysFrom_9 : decode cX8_daysFrom 9 = .ok (.if_icmp .ge 28, 3) := by decide +kernel
theorem dX8_daysFrom_12 : decode cX8_daysFrom 12 = .ok (.iload_n 2, 1) := by decide +kernel
theorem dX8_daysFrom_13 : decode cX8_daysFrom 13 = .ok (.aload_n 0, 1) := by decide +kernel
theorem dX8_daysFrom_14 : decode cX8_daysFrom 14 = .ok (.iload_n 3, 1) := by decide +kernel
theorem dX8_daysFrom_15 : decode cX8_daysFrom 15 = .ok (.invokevirtual 33, 3) := by decide +kernel
theorem dX8_daysFrom_18 : decode cX8_daysFrom 18 = .ok (.iload_n 1, 1) := by decide +kernel
theorem dX8_daysFrom_19 : decode cX8_daysFrom 19 = .ok (.if_icmp .lt 9, 3) := by decide +kernel
theorem dX8_daysFrom_22 : decode cX8_daysFrom 22 = .ok (.iconst 1, 1) := by decide +kernel
theorem dX8_daysFrom_23 : decode cX8_daysFrom 23 = .ok (.iload_n 3, 1) := by decide +kernel
theorem dX8_daysFrom_24 : decode cX8_daysFrom 24 = .ok (.ishl, 1) := by decide +kernel
theorem dX8_daysFrom_25 : decode cX8_daysFrom 25 = .ok (.goto 4, 3) := by decide +kernel
theorem dX8_daysFrom_28 : decode cX8_daysFrom 28 = .ok (.iconst 0, 1) := by decide +kernel
theorem dX8_daysFrom_29 : decode cX8_daysFrom 29 = .ok (.ior, 1) := by decide +kernel
theorem dX8_daysFrom_30 : decode cX8_daysFrom 30 = .ok (.istore_n 2, 1) := by decide +kernel
theorem dX8_daysFrom_31 : decode cX8_daysFrom 31 = .ok (.iinc 3 1, 3) := by decide +kernel
theorem dX8_daysFrom_34 : decode cX8_daysFrom 34 = .ok (.goto (-30), 3) := by decide +kernel
theorem dX8_daysFrom_37 : decode cX8_daysFrom 37 = .ok (.iload_n 2, 1) := by decide +kernel
theorem dX8_daysFrom_38 : decode cX8_daysFrom 38 = .ok (.ireturn, 1) := by decide +kernel
theorem dX8_repeats_0 : decode cX8_repeats 0 = .ok (.iload_n 1, 1) := by decide +kernel
theorem dX8_repeats_1 : decode cX8_repeats 1 = .ok (.istore_n 2, 1) := by decide +kernel
theorem dX8_repeats_2 : decode cX8_repeats 2 = .ok (.iload_n 2, 1) := by decide +kernel
theorem dX8_repeats_3 : decode cX8_repeats 3 = .ok (.aload_n 0, 1) := by decide +kernel
theorem dX8_repeats_4 : decode cX8_repeats 4 = .ok (.getfield 15, 3) := by decide +kernel
theorem dX8_repeats_7 : decode cX8_repeats 7 = .ok (.if_icmp .ge 26, 3) := by decide +kernel
theorem dX8_repeats_10 : decode cX8_repeats 10 = .ok (.aload_n 0, 1) := by decide +kernel
theorem dX8_repeats_11 : decode cX8_repeats 11 = .ok (.iload_n 2, 1) := by decide +kernel
theorem dX8_repeats_12 : decode cX8_repeats 12 = .ok (.invokevirtual 33, 3) := by decide +kernel
theorem dX8_repeats_15 : decode cX8_repeats 15 = .ok (.aload_n 0, 1) := by decide +kernel
theorem dX8_repeats_16 : decode cX8_repeats 16 = .ok (.iload_n 2, 1) := by decide +kernel
theorem dX8_repeats_17 : decode cX8_repeats 17 = .ok (.iload_n 1, 1) := by decide +kernel
theorem dX8_repeats_18 : decode cX8_repeats 18 = .ok (.isub, 1) := by decide +kernel
theorem dX8_repeats_19 : decode cX8_repeats 19 = .ok (.invokevirtual 33, 3) := by decide +kernel
theorem dX8_repeats_22 : decode cX8_repeats 22 = .ok (.if_icmp .eq 5, 3) := by decide +kernel
theorem dX8_repeats_25 : decode cX8_repeats 25 = .ok (.iconst 0, 1) := by decide +kernel
theorem dX8_repeats_26 : decode cX8_repeats 26 = .ok (.ireturn, 1) := by decide +kernel
theorem dX8_repeats_27 : decode cX8_repeats 27 = .ok (.iinc 2 1, 3) := by decide +kernel
theorem dX8_repeats_30 : decode cX8_repeats 30 = .ok (.goto (-28), 3) := by decide +kernel
theorem dX8_repeats_33 : decode cX8_repeats 33 = .ok (.iconst 1, 1) := by decide +kernel
theorem dX8_repeats_34 : decode cX8_repeats 34 = .ok (.ireturn, 1) := by decide +kernel
theorem dX8_copyFrom_0 : decode cX8_copyFrom 0 = .ok (.aload_n 0, 1) := by decide +kernel
theorem dX8_copyFrom_1 : decode cX8_copyFrom 1 = .ok (.aload_n 1, 1) := by decide +kernel
theorem dX8_copyFrom_2 : decode cX8_copyFrom 2 = .ok (.getfield 15, 3) := by decide +kernel
theorem dX8_copyFrom_5 : decode cX8_copyFrom 5 = .ok (.putfield 15, 3) := by decide +kernel
theorem dX8_copyFrom_8 : decode cX8_copyFrom 8 = .ok (.aload_n 1, 1) := by decide +kernel
theorem dX8_copyFrom_9 : decode cX8_copyFrom 9 = .ok (.getfield 9, 3) := by decide +kernel
theorem dX8_copyFrom_12 : decode cX8_copyFrom 12 = .ok (.iconst 0, 1) := by decide +kernel
theorem dX8_copyFrom_13 : decode cX8_copyFrom 13 = .ok (.aload_n 0, 1) := by decide +kernel
theorem dX8_copyFrom_14 : decode cX8_copyFrom 14 = .ok (.getfield 9, 3) := by decide +kernel
theorem dX8_copyFrom_17 : decode cX8_copyFrom 17 = .ok (.iconst 0, 1) := by decide +kernel
theorem dX8_copyFrom_18 : decode cX8_copyFrom 18 = .ok (.bipush 30, 2) := by decide +kernel
theorem dX8_copyFrom_20 : decode cX8_copyFrom 20 = .ok (.invokestatic 37, 3) := by decide +kernel
theorem dX8_copyFrom_23 : decode cX8_copyFrom 23 = .ok (.return_, 1) := by decide +kernel
theorem dX9_init_0 : decode cX9_init 0 = .ok (.aload_n 0, 1) := by decide +kernel
theorem dX9_init_1 : decode cX9_init 1 = .ok (.invokespecial 3, 3) := by decide +kernel
theorem dX9_init_4 : decode cX9_init 4 = .ok (.aload_n 0, 1) := by decide +kernel
theorem dX9_init_5 : decode cX9_init 5 = .ok (.new 9, 3) := by decide +kernel
theorem dX9_init_8 : decode cX9_init 8 = .ok (.dup, 1) := by decide +kernel
theorem dX9_init_9 : decode cX9_init 9 = .ok (.invokespecial 11, 3) := by decide +kernel
theorem dX9_init_12 : decode cX9_init 12 = .ok (.putfield 12, 3) := by decide +kernel
theorem dX9_init_15 : decode cX9_init 15 = .ok (.aload_n 0, 1) := by decide +kernel
theorem dX9_init_16 : decode cX9_init 16 = .ok (.new 18, 3) := by decide +kernel
theorem dX9_init_19 : decode cX9_init 19 = .ok (.dup, 1) := by decide +kernel
theorem dX9_init_20 : decode cX9_init 20 = .ok (.invokespecial 20, 3) := by decide +kernel
theorem dX9_init_23 : decode cX9_init 23 = .ok (.putfield 21, 3) := by decide +kernel
theorem dX9_init_26 : decode cX9_init 26 = .ok (.aload_n 0, 1) := by decide +kernel
theorem dX9_init_27 : decode cX9_init 27 = .ok (.new 25, 3) := by decide +kernel
theorem dX9_init_30 : decode cX9_init 30 = .ok (.dup, 1) := by decide +kernel
theorem dX9_init_31 : decode cX9_init 31 = .ok (.invokespecial 27, 3) := by decide +kernel
theorem dX9_init_34 : decode cX9_init 34 = .ok (.putfield 28, 3) := by decide +kernel
theorem dX9_init_37 : decode cX9_init 37 = .ok (.aload_n 0, 1) := by decide +kernel
theorem dX9_init_38 : decode cX9_init 38 = .ok (.new 32, 3) := by decide +kernel
theorem dX9_init_41 : decode cX9_init 41 = .ok (.dup, 1) := by decide +kernel
theorem dX9_init_42 : decode cX9_init 42 = .ok (.invokespecial 34, 3) := by decide +kernel
theorem dX9_init_45 : decode cX9_init 45 = .ok (.putfield 35, 3) := by decide +kernel
theorem dX9_init_48 : decode cX9_init 48 = .ok (.aload_n 0, 1) := by decide +kernel
theorem dX9_init_49 : decode cX9_init 49 = .ok (.getstatic 39, 3) := by decide +kernel
theorem dX9_init_52 : decode cX9_init 52 = .ok (.invokevirtual 43, 3) := by decide +kernel
theorem dX9_init_55 : decode cX9_init 55 = .ok (.checkcast 44, 3) := by decide +kernel
theorem dX9_init_58 : decode cX9_init 58 = .ok (.putfield 48, 3) := by decide +kernel
theorem dX9_init_61 : decode cX9_init 61 = .ok (.return_, 1) := by decide +kernel
theorem dX9_isVinegar_0 : decode cX9_isVinegar 0 = .ok (.iload_n 1, 1) := by decide +kernel
theorem dX9_isVinegar_1 : decode cX9_isVinegar 1 = .ok (.aload_n 0, 1) := by decide +kernel
theorem dX9_isVinegar_2 : decode cX9_isVinegar 2 = .ok (.getfield 48, 3) := by decide +kernel
theorem dX9_isVinegar_5 : decode cX9_isVinegar 5 = .ok (.iconst 0, 1) := by decide +kernel
theorem dX9_isVinegar_6 : decode cX9_isVinegar 6 = .ok (.iaload, 1) := by decide +kernel
theorem dX9_isVinegar_7 : decode cX9_isVinegar 7 = .ok (.if_icmp .lt 7, 3) := by decide +kernel
theorem dX9_isVinegar_10 : decode cX9_isVinegar 10 = .ok (.iconst 1, 1) := by decide +kernel
theorem dX9_isVinegar_11 : decode cX9_isVinegar 11 = .ok (.goto 4, 3) := by decide +kernel
theorem dX9_isVinegar_14 : decode cX9_isVinegar 14 = .ok (.iconst 0, 1) := by decide +kernel
theorem dX9_isVinegar_15 : decode cX9_isVinegar 15 = .ok (.ireturn, 1) := by decide +kernel
theorem dX9_worth_0 : decode cX9_worth 0 = .ok (.aload_n 0, 1) := by decide +kernel
theorem dX9_worth_1 : decode cX9_worth 1 = .ok (.getfield 21, 3) := by decide +kernel
theorem dX9_worth_4 : decode cX9_worth 4 = .ok (.getfield 51, 3) := by decide +kernel
theorem dX9_worth_7 : decode cX9_worth 7 = .ok (.iload_n 1, 1) := by decide +kernel
theorem dX9_worth_8 : decode cX9_worth 8 = .ok (.iaload, 1) := by decide +kernel
theorem dX9_worth_9 : decode cX9_worth 9 = .ok (.istore 4, 2) := by decide +kernel
theorem dX9_worth_11 : decode cX9_worth 11 = .ok (.aload_n 0, 1) := by decide +kernel
theorem dX9_worth_12 : decode cX9_worth 12 = .ok (.iload_n 3, 1) := by decide +kernel
theorem dX9_worth_13 : decode cX9_worth 13 = .ok (.invokevirtual 54, 3) := by decide +kernel
theorem dX9_worth_16 : decode cX9_worth 16 = .ok (.ifCond .ne 13, 3) := by decide +kernel
theorem dX9_worth_19 : decode cX9_worth 19 = .ok (.iload 4, 2) := by decide +kernel
theorem dX9_worth_21 : decode cX9_worth 21 = .ok (.iconst 0, 1) := by decide +kernel
theorem dX9_worth_22 : decode cX9_worth 22 = .ok (.iconst 3, 1) := by decide +kernel
theorem dX9_worth_23 : decode cX9_worth 23 = .ok (.invokestatic 58, 3) := by decide +kernel
theorem dX9_worth_26 : decode cX9_worth 26 = .ok (.ifCond .ne 5, 3) := by decide +kernel
theorem dX9_worth_29 : decode cX9_worth 29 = .ok (.iconst 0, 1) := by decide +kernel
theorem dX9_worth_30 : decode cX9_worth 30 = .ok (.ireturn, 1) := by decide +kernel
theorem dX9_worth_31 : decode cX9_worth 31 = .ok (.iload_n 2, 1) := by decide +kernel
theorem dX9_worth_32 : decode cX9_worth 32 = .ok (.aload_n 0, 1) := by decide +kernel
theorem dX9_worth_33 : decode cX9_worth 33 = .ok (.getfield 48, 3) := by decide +kernel
theorem dX9_worth_36 : decode cX9_worth 36 = .ok (.iconst 3, 1) := by decide +kernel
theorem dX9_worth_37 : decode cX9_worth 37 = .ok (.iload 4, 2) := by decide +kernel
theorem dX9_worth_39 : decode cX9_worth 39 = .ok (.iadd, 1) := by decide +kernel
theorem dX9_worth_40 : decode cX9_worth 40 = .ok (.iaload, 1) := by decide +kernel
theorem dX9_worth_41 : decode cX9_worth 41 = .ok (.isub, 1) := by decide +kernel
theorem dX9_worth_42 : decode cX9_worth 42 = .ok (.invokestatic 62, 3) := by decide +kernel
theorem dX9_worth_45 : decode cX9_worth 45 = .ok (.istore 5, 2) := by decide +kernel
theorem dX9_worth_47 : decode cX9_worth 47 = .ok (.iconst 0, 1) := by decide +kernel
theorem dX9_worth_48 : decode cX9_worth 48 = .ok (.aload_n 0, 1) := by decide +kernel
theorem dX9_worth_49 : decode cX9_worth 49 = .ok (.getfield 21, 3) := by decide +kernel
theorem dX9_worth_52 : decode cX9_worth 52 = .ok (.getfield 68, 3) := by decide +kernel
theorem dX9_worth_55 : decode cX9_worth 55 = .ok (.iload_n 1, 1) := by decide +kernel
theorem dX9_worth_56 : decode cX9_worth 56 = .ok (.iaload, 1) := by decide +kernel
theorem dX9_worth_57 : decode cX9_worth 57 = .ok (.bipush 50, 2) := by decide +kernel
theorem dX9_worth_59 : decode cX9_worth 59 = .ok (.iload 5, 2) := by decide +kernel
theorem dX9_worth_61 : decode cX9_worth 61 = .ok (.isub, 1) := by decide +kernel
theorem dX9_worth_62 : decode cX9_worth 62 = .ok (.iload_n 3, 1) := by decide +kernel
theorem dX9_worth_63 : decode cX9_worth 63 = .ok (.isub, 1) := by decide +kernel
theorem dX9_worth_64 : decode cX9_worth 64 = .ok (.imul, 1) := by decide +kernel
theorem dX9_worth_65 : decode cX9_worth 65 = .ok (.invokestatic 71, 3) := by decide +kernel
theorem dX9_worth_68 : decode cX9_worth 68 = .ok (.ireturn, 1) := by decide +kernel
theorem dX9_workOf_0 : decode cX9_workOf 0 = .ok (.aload_n 0, 1) := by decide +kernel
theorem dX9_workOf_1 : decode cX9_workOf 1 = .ok (.getfield 12, 3) := by decide +kernel
theorem dX9_workOf_4 : decode cX9_workOf 4 = .ok (.getfield 75, 3) := by decide +kernel
theorem dX9_workOf_7 : decode cX9_workOf 7 = .ok (.iload_n 2, 1) := by decide +kernel
theorem dX9_workOf_8 : decode cX9_workOf 8 = .ok (.iaload, 1) := by decide +kernel
theorem dX9_workOf_9 : decode cX9_workOf 9 = .ok (.aload_n 0, 1) := by decide +kernel
theorem dX9_workOf_10 : decode cX9_workOf 10 = .ok (.getfield 12, 3) := by decide +kernel
theorem dX9_workOf_13 : decode cX9_workOf 13 = .ok (.getfield 75, 3) := by decide +kernel
theorem dX9_workOf_16 : decode cX9_workOf 16 = .ok (.iload_n 3, 1) := by decide +kernel
theorem dX9_workOf_17 : decode cX9_workOf 17 = .ok (.iaload, 1) := by decide +kernel
theorem dX9_workOf_18 : decode cX9_workOf 18 = .ok (.isub, 1) := by decide +kernel
theorem dX9_workOf_19 : decode cX9_workOf 19 = .ok (.invokestatic 62, 3) := by decide +kernel
theorem dX9_workOf_22 : decode cX9_workOf 22 = .ok (.istore 4, 2) := by decide +kernel
theorem dX9_workOf_24 : decode cX9_workOf 24 = .ok (.aload_n 0, 1) := by decide +kernel
theorem dX9_workOf_25 : decode cX9_workOf 25 = .ok (.getfield 21, 3) := by decide +kernel
theorem dX9_workOf_28 : decode cX9_workOf 28 = .ok (.getfield 68, 3) := by decide +kernel
theorem dX9_workOf_31 : decode cX9_workOf 31 = .ok (.iload_n 1, 1) := by decide +kernel
theorem dX9_workOf_32 : decode cX9_workOf 32 = .ok (.iaload, 1) := by decide +kernel
theorem dX9_workOf_33 : decode cX9_workOf 33 = .ok (.iload 4, 2) := by decide +kernel
theorem dX9_workOf_35 : decode cX9_workOf 35 = .ok (.iconst 1, 1) := by decide +kernel
theorem dX9_workOf_36 : decode cX9_workOf 36 = .ok (.iadd, 1) := by decide +kernel
theorem dX9_workOf_37 : decode cX9_workOf 37 = .ok (.imul, 1) := by decide +kernel
theorem dX9_workOf_38 : decode cX9_workOf 38 = .ok (.ireturn, 1) := by decide +kernel
theorem dX9_copyFrom_0 : decode cX9_copyFrom 0 = .ok (.aload_n 0, 1) := by decide +kernel
theorem dX9_copyFrom_1 : decode cX9_copyFrom 1 = .ok (.getfield 12, 3) := by decide +kernel
theorem dX9_copyFrom_4 : decode cX9_copyFrom 4 = .ok (.aload_n 1, 1) := by decide +kernel
theorem dX9_copyFrom_5 : decode cX9_copyFrom 5 = .ok (.getfield 12, 3) := by decide +kernel
theorem dX9_copyFrom_8 : decode cX9_copyFrom 8 = .ok (.invokevirtual 78, 3) := by decide +kernel
theorem dX9_copyFrom_11 : decode cX9_copyFrom 11 = .ok (.aload_n 0, 1) := by decide +kernel
theorem dX9_copyFrom_12 : decode cX9_copyFrom 12 = .ok (.getfield 21, 3) := by decide +kernel
theorem dX9_copyFrom_15 : decode cX9_copyFrom 15 = .ok (.aload_n 1, 1) := by decide +kernel
theorem dX9_copyFrom_16 : decode cX9_copyFrom 16 = .ok (.getfield 21, 3) := by decide +kernel
theorem dX9_copyFrom_19 : decode cX9_copyFrom 19 = .ok (.invokevirtual 82, 3) := by decide +kernel
theorem dX9_copyFrom_22 : decode cX9_copyFrom 22 = .ok (.aload_n 0, 1) := by decide +kernel
theorem dX9_copyFrom_23 : decode cX9_copyFrom 23 = .ok (.getfield 28, 3) := by decide +kernel
theorem dX9_copyFrom_26 : decode cX9_copyFrom 26 = .ok (.aload_n 1, 1) := by decide +kernel
theorem dX9_copyFrom_27 : decode cX9_copyFrom 27 = .ok (.getfield 28, 3) := by decide +kernel
theorem dX9_copyFrom_30 : decode cX9_copyFrom 30 = .ok (.invokevirtual 85, 3) := by decide +kernel
theorem dX9_copyFrom_33 : decode cX9_copyFrom 33 = .ok (.aload_n 0, 1) := by decide +kernel
theorem dX9_copyFrom_34 : decode cX9_copyFrom 34 = .ok (.getfield 35, 3) := by decide +kernel
theorem dX9_copyFrom_37 : decode cX9_copyFrom 37 = .ok (.aload_n 1, 1) := by decide +kernel
theorem dX9_copyFrom_38 : decode cX9_copyFrom 38 = .ok (.getfield 35, 3) := by decide +kernel
theorem dX9_copyFrom_41 : decode cX9_copyFrom 41 = .ok (.invokevirtual 88, 3) := by decide +kernel
theorem dX9_copyFrom_44 : decode cX9_copyFrom 44 = .ok (.aload_n 1, 1) := by decide +kernel
theorem dX9_copyFrom_45 : decode cX9_copyFrom 45 = .ok (.getfield 48, 3) := by decide +kernel
theorem dX9_copyFrom_48 : decode cX9_copyFrom 48 = .ok (.iconst 0, 1) := by decide +kernel
theorem dX9_copyFrom_49 : decode cX9_copyFrom 49 = .ok (.aload_n 0, 1) := by decide +kernel
theorem dX9_copyFrom_50 : decode cX9_copyFrom 50 = .ok (.getfield 48, 3) := by decide +kernel
theorem dX9_copyFrom_53 : decode cX9_copyFrom 53 = .ok (.iconst 0, 1) := by decide +kernel
theorem dX9_copyFrom_54 : decode cX9_copyFrom 54 = .ok (.aload_n 0, 1) := by decide +kernel
theorem dX9_copyFrom_55 : decode cX9_copyFrom 55 = .ok (.getfield 48, 3) := by decide +kernel
theorem dX9_copyFrom_58 : decode cX9_copyFrom 58 = .ok (.arraylength, 1) := by decide +kernel
theorem dX9_copyFrom_59 : decode cX9_copyFrom 59 = .ok (.invokestatic 91, 3) := by decide +kernel
theorem dX9_copyFrom_62 : decode cX9_copyFrom 62 = .ok (.return_, 1) := by decide +kernel
theorem dX10_init_0 : decode cX10_init 0 = .ok (.aload_n 0, 1) := by decide +kernel
theorem dX10_init_1 : decode cX10_init 1 = .ok (.invokespecial 3, 3) := by decide +kernel
theorem dX10_init_4 : decode cX10_init 4 = .ok (.aload_n 0, 1) := by decide +kernel
theorem dX10_init_5 : decode cX10_init 5 = .ok (.bipush 6, 2) := by decide +kernel
theorem dX10_init_7 : decode cX10_init 7 = .ok (.newarray .int, 2) := by decide +kernel
theorem dX10_init_9 : decode cX10_init 9 = .ok (.putfield 9, 3) := by decide +kernel
theorem dX10_init_12 : decode cX10_init 12 = .ok (.aload_n 0, 1) := by decide +kernel
theorem dX10_init_13 : decode cX10_init 13 = .ok (.bipush 6, 2) := by decide +kernel
theorem dX10_init_15 : decode cX10_init 15 = .ok (.newarray .int, 2) := by decide +kernel
theorem dX10_init_17 : decode cX10_init 17 = .ok (.putfield 15, 3) := by decide +kernel
theorem dX10_init_20 : decode cX10_init 20 = .ok (.aload_n 0, 1) := by decide +kernel
theorem dX10_init_21 : decode cX10_init 21 = .ok (.iconst 3, 1) := by decide +kernel
theorem dX10_init_22 : decode cX10_init 22 = .ok (.invokevirtual 18, 3) := by decide +kernel
theorem dX10_init_25 : decode cX10_init 25 = .ok (.return_, 1) := by decide +kernel
theorem dX10_dig_0 : decode cX10_dig 0 = .ok (.aload_n 0, 1) := by decide +kernel
theorem dX10_dig_1 : decode cX10_dig 1 = .ok (.iload_n 1, 1) := by decide +kernel
theorem dX10_dig_2 : decode cX10_dig 2 = .ok (.putfield 22, 3) := by decide +kernel
theorem dX10_dig_5 : decode cX10_dig 5 = .ok (.aload_n 0, 1) := by decide +kernel
theorem dX10_dig_6 : decode cX10_dig 6 = .ok (.iconst 0, 1) := by decide +kernel
theorem dX10_dig_7 : decode cX10_dig 7 = .ok (.putfield 26, 3) := by decide +kernel
theorem dX10_dig_10 : decode cX10_dig 10 = .ok (.iconst 0, 1) := by decide +kernel
theorem dX10_dig_11 : decode cX10_dig 11 = .ok (.istore_n 2, 1) := by decide +kernel
theorem dX10_dig_12 : decode cX10_dig 12 = .ok (.iload_n 2, 1) := by decide +kernel
theorem dX10_dig_13 : decode cX10_dig 13 = .ok (.bipush 6, 2) := by decide +kernel
theorem dX10_dig_15 : decode cX10_dig 15 = .ok (.if_icmp .ge 24, 3) := by decide +kernel
theorem dX10_dig_18 : decode cX10_dig 18 = .ok (.aload_n 0, 1) := by decide +kernel
theorem dX10_dig_19 : decode cX10_dig 19 = .ok (.getfield 9, 3) := by decide +kernel
theorem dX10_dig_22 : decode cX10_dig 22 = .ok (.iload_n 2, 1) := by decide +kernel
theorem dX10_dig_23 : decode cX10_dig 23 = .ok (.iload_n 2, 1) := by decide +kernel
theorem dX10_dig_24 : decode cX10_dig 24 = .ok (.iastore, 1) := by decide +kernel
theorem dX10_dig_25 : decode cX10_dig 25 = .ok (.aload_n 0, 1) := by decide +kernel
theorem dX10_dig_26 : decode cX10_dig 26 = .ok (.getfield 15, 3) := by decide +kernel
theorem dX10_dig_29 : decode cX10_dig 29 = .ok (.iload_n 2, 1) := by decide +kernel
theorem dX10_dig_30 : decode cX10_dig 30 = .ok (.bipush 8, 2) := by decide +kernel
theorem dX10_dig_32 : decode cX10_dig 32 = .ok (.iastore, 1) := by decide +kernel
theorem dX10_dig_33 : decode cX10_dig 33 = .ok (.iinc 2 1, 3) := by decide +kernel
theorem dX10_dig_36 : decode cX10_dig 36 = .ok (.goto (-24), 3) := by decide +kernel
theorem dX10_dig_39 : decode cX10_dig 39 = .ok (.return_, 1) := by decide +kernel
theorem dX10_has_0 : decode cX10_has 0 = .ok (.iload_n 1, 1) := by decide +kernel
theorem dX10_has_1 : decode cX10_has 1 = .ok (.ifCond .lt 21, 3) := by decide +kernel
theorem dX10_has_4 : decode cX10_has 4 = .ok (.iload_n 1, 1) := by decide +kernel
theorem dX10_has_5 : decode cX10_has 5 = .ok (.aload_n 0, 1) := by decide +kernel
theorem dX10_has_6 : decode cX10_has 6 = .ok (.getfield 22, 3) := by decide +kernel
theorem dX10_has_9 : decode cX10_has 9 = .ok (.if_icmp .ge 13, 3) := by decide +kernel
theorem dX10_has_12 : decode cX10_has 12 = .ok (.iload_n 1, 1) := by decide +kernel
theorem dX10_has_13 : decode cX10_has 13 = .ok (.bipush 6, 2) := by decide +kernel
theorem dX10_has_15 : decode cX10_has 15 = .ok (.if_icmp .ge 7, 3) := by decide +kernel
theorem dX10_has_18 : decode cX10_has 18 = .ok (.iconst 1, 1) := by decide +kernel
theorem dX10_has_19 : decode cX10_has 19 = .ok (.goto 4, 3) := by decide +kernel
theorem dX10_has_22 : decode cX10_has 22 = .ok (.iconst 0, 1) := by decide +kernel
theorem dX10_has_23 : decode cX10_has 23 = .ok (.ireturn, 1) := by decide +kernel
theorem dX10_copyFrom_0 : decode cX10_copyFrom 0 = .ok (.aload_n 0, 1) := by decide +kernel
theorem dX10_copyFrom_1 : decode cX10_copyFrom 1 = .ok (.aload_n 1, 1) := by decide +kernel
theorem dX10_copyFrom_2 : decode cX10_copyFrom 2 = .ok (.getfield 22, 3) := by decide +kernel
theorem dX10_copyFrom_5 : decode cX10_copyFrom 5 = .ok (.putfield 22, 3) := by decide +kernel
theorem dX10_copyFrom_8 : decode cX10_copyFrom 8 = .ok (.aload_n 0, 1) := by decide +kernel
theorem dX10_copyFrom_9 : decode cX10_copyFrom 9 = .ok (.aload_n 1, 1) := by decide +kernel
theorem dX10_copyFrom_10 : decode cX10_copyFrom 10 = .ok (.getfield 26, 3) := by decide +kernel
theorem dX10_copyFrom_13 : decode cX10_copyFrom 13 = .ok (.putfield 26, 3) := by decide +kernel
theorem dX10_copyFrom_16 : decode cX10_copyFrom 16 = .ok (.aload_n 1, 1) := by decide +kernel
theorem dX10_copyFrom_17 : decode cX10_copyFrom 17 = .ok (.getfield 9, 3) := by decide +kernel
theorem dX10_copyFrom_20 : decode cX10_copyFrom 20 = .ok (.iconst 0, 1) := by decide +kernel
theorem dX10_copyFrom_21 : decode cX10_copyFrom 21 = .ok (.aload_n 0, 1) := by decide +kernel
theorem dX10_copyFrom_22 : decode cX10_copyFrom 22 = .ok (.getfield 9, 3) := by decide +kernel
theorem dX10_copyFrom_25 : decode cX10_copyFrom 25 = .ok (.iconst 0, 1) := by decide +kernel
theorem dX10_copyFrom_26 : decode cX10_copyFrom 26 = .ok (.bipush 6, 2) := by decide +kernel
theorem dX10_copyFrom_28 : decode cX10_copyFrom 28 = .ok (.invokestatic 29, 3) := by decide +kernel
theorem dX10_copyFrom_31 : decode cX10_copyFrom 31 = .ok (.aload_n 1, 1) := by decide +kernel
theorem dX10_copyFrom_32 : decode cX10_copyFrom 32 = .ok (.getfield 15, 3) := by decide +kernel
theorem dX10_copyFrom_35 : decode cX10_copyFrom 35 = .ok (.iconst 0, 1) := by decide +kernel
theorem dX10_copyFrom_36 : decode cX10_copyFrom 36 = .ok (.aload_n 0, 1) := by decide +kernel
theorem dX10_copyFrom_37 : decode cX10_copyFrom 37 = .ok (.getfield 15, 3) := by decide +kernel
theorem dX10_copyFrom_40 : decode cX10_copyFrom 40 = .ok (.iconst 0, 1) := by decide +kernel
theorem dX10_copyFrom_41 : decode cX10_copyFrom 41 = .ok (.bipush 6, 2) := by decide +kernel
theorem dX10_copyFrom_43 : decode cX10_copyFrom 43 = .ok (.invokestatic 29, 3) := by decide +kernel
theorem dX10_copyFrom_46 : decode cX10_copyFrom 46 = .ok (.return_, 1) := by decide +kernel
theorem dJ6_numberOfTrailingZeros_0f7a4_0 : decode cJ6_numberOfTrailingZeros_0f7a4 0 = .ok (.iload_n 0, 1) := by decide +kernel
theorem dJ6_numberOfTrailingZeros_0f7a4_1 : decode cJ6_numberOfTrailingZeros_0f7a4 1 = .ok (.iconst (-1), 1) := by decide +kernel
theorem dJ6_numberOfTrailingZeros_0f7a4_2 : decode cJ6_numberOfTrailingZeros_0f7a4 2 = .ok (.ixor, 1) := by decide +kernel
theorem dJ6_numberOfTrailingZeros_0f7a4_3 : decode cJ6_numberOfTrailingZeros_0f7a4 3 = .ok (.iload_n 0, 1) := by decide +kernel
theorem dJ6_numberOfTrailingZeros_0f7a4_4 : decode cJ6_numberOfTrailingZeros_0f7a4 4 = .ok (.iconst 1, 1) := by decide +kernel
theorem dJ6_numberOfTrailingZeros_0f7a4_5 : decode cJ6_numberOfTrailingZeros_0f7a4 5 = .ok (.isub, 1) := by decide +kernel
theorem dJ6_numberOfTrailingZeros_0f7a4_6 : decode cJ6_numberOfTrailingZeros_0f7a4 6 = .ok (.iand, 1) := by decide +kernel
theorem dJ6_numberOfTrailingZeros_0f7a4_7 : decode cJ6_numberOfTrailingZeros_0f7a4 7 = .ok (.istore_n 0, 1) := by decide +kernel
theorem dJ6_numberOfTrailingZeros_0f7a4_8 : decode cJ6_numberOfTrailingZeros_0f7a4 8 = .ok (.iload_n 0, 1) := by decide +kernel
theorem dJ6_numberOfTrailingZeros_0f7a4_9 : decode cJ6_numberOfTrailingZeros_0f7a4 9 = .ok (.ifCond .gt 8, 3) := by decide +kernel
theorem dJ6_numberOfTrailingZeros_0f7a4_12 : decode cJ6_numberOfTrailingZeros_0f7a4 12 = .ok (.iload_n 0, 1) := by decide +kernel
theorem dJ6_numberOfTrailingZeros_0f7a4_13 : decode cJ6_numberOfTrailingZeros_0f7a4 13 = .ok (.bipush 32, 2) := by decide +kernel
theorem dJ6_numberOfTrailingZeros_0f7a4_15 : decode cJ6_numberOfTrailingZeros_0f7a4 15 = .ok (.iand, 1) := by decide +kernel
theorem dJ6_numberOfTrailingZeros_0f7a4_16 : decode cJ6_numberOfTrailingZeros_0f7a4 16 = .ok (.ireturn, 1) := by decide +kernel
theorem dJ6_numberOfTrailingZeros_0f7a4_17 : decode cJ6_numberOfTrailingZeros_0f7a4 17 = .ok (.iconst 1, 1) := by decide +kernel
theorem dJ6_numberOfTrailingZeros_0f7a4_18 : decode cJ6_numberOfTrailingZeros_0f7a4 18 = .ok (.istore_n 1, 1) := by decide +kernel
theorem dJ6_numberOfTrailingZeros_0f7a4_19 : decode cJ6_numberOfTrailingZeros_0f7a4 19 = .ok (.iload_n 0, 1) := by decide +kernel
theorem dJ6_numberOfTrailingZeros_0f7a4_20 : decode cJ6_numberOfTrailingZeros_0f7a4 20 = .ok (.ldc_w 264, 3) := by decide +kernel
theorem dJ6_numberOfTrailingZeros_0f7a4_23 : decode cJ6_numberOfTrailingZeros_0f7a4 23 = .ok (.if_icmp .le 11, 3) := by decide +kernel
theorem dJ6_numberOfTrailingZeros_0f7a4_26 : decode cJ6_numberOfTrailingZeros_0f7a4 26 = .ok (.iinc 1 16, 3) := by decide +kernel
theorem dJ6_numberOfTrailingZeros_0f7a4_29 : decode cJ6_numberOfTrailingZeros_0f7a4 29 = .ok (.iload_n 0, 1) := by decide +kernel
theorem dJ6_numberOfTrailingZeros_0f7a4_30 : decode cJ6_numberOfTrailingZeros_0f7a4 30 = .ok (.bipush 16, 2) := by decide +kernel
theorem dJ6_numberOfTrailingZeros_0f7a4_32 : decode cJ6_numberOfTrailingZeros_0f7a4 32 = .ok (.iushr, 1) := by decide +kernel
theorem dJ6_numberOfTrailingZeros_0f7a4_33 : decode cJ6_numberOfTrailingZeros_0f7a4 33 = .ok (.istore_n 0, 1) := by decide +kernel
theorem dJ6_numberOfTrailingZeros_0f7a4_34 : decode cJ6_numberOfTrailingZeros_0f7a4 34 = .ok (.iload_n 0, 1) := by decide +kernel
theorem dJ6_numberOfTrailingZeros_0f7a4_35 : decode cJ6_numberOfTrailingZeros_0f7a4 35 = .ok (.sipush 256, 3) := by decide +kernel
theorem dJ6_numberOfTrailingZeros_0f7a4_38 : decode cJ6_numberOfTrailingZeros_0f7a4 38 = .ok (.if_icmp .le 11, 3) := by decide +kernel
theorem dJ6_numberOfTrailingZeros_0f7a4_41 : decode cJ6_numberOfTrailingZeros_0f7a4 41 = .ok (.iinc 1 8, 3) := by decide +kernel
theorem dJ6_numberOfTrailingZeros_0f7a4_44 : decode cJ6_numberOfTrailingZeros_0f7a4 44 = .ok (.iload_n 0, 1) := by decide +kernel
theorem dJ6_numberOfTrailingZeros_0f7a4_45 : decode cJ6_numberOfTrailingZeros_0f7a4 45 = .ok (.bipush 8, 2) := by decide +kernel
theorem dJ6_numberOfTrailingZeros_0f7a4_47 : decode cJ6_numberOfTrailingZeros_0f7a4 47 = .ok (.iushr, 1) := by decide +kernel
theorem dJ6_numberOfTrailingZeros_0f7a4_48 : decode cJ6_numberOfTrailingZeros_0f7a4 48 = .ok (.istore_n 0, 1) := by decide +kernel
theorem dJ6_numberOfTrailingZeros_0f7a4_49 : decode cJ6_numberOfTrailingZeros_0f7a4 49 = .ok (.iload_n 0, 1) := by decide +kernel
theorem dJ6_numberOfTrailingZeros_0f7a4_50 : decode cJ6_numberOfTrailingZeros_0f7a4 50 = .ok (.bipush 16, 2) := by decide +kernel
theorem dJ6_numberOfTrailingZeros_0f7a4_52 : decode cJ6_numberOfTrailingZeros_0f7a4 52 = .ok (.if_icmp .le 10, 3) := by decide +kernel
theorem dJ6_numberOfTrailingZeros_0f7a4_55 : decode cJ6_numberOfTrailingZeros_0f7a4 55 = .ok (.iinc 1 4, 3) := by decide +kernel
theorem dJ6_numberOfTrailingZeros_0f7a4_58 : decode cJ6_numberOfTrailingZeros_0f7a4 58 = .ok (.iload_n 0, 1) := by decide +kernel
theorem dJ6_numberOfTrailingZeros_0f7a4_59 : decode cJ6_numberOfTrailingZeros_0f7a4 59 = .ok (.iconst 4, 1) := by decide +kernel
theorem dJ6_numberOfTrailingZeros_0f7a4_60 : decode cJ6_numberOfTrailingZeros_0f7a4 60 = .ok (.iushr, 1) := by decide +kernel
theorem dJ6_numberOfTrailingZeros_0f7a4_61 : decode cJ6_numberOfTrailingZeros_0f7a4 61 = .ok (.istore_n 0, 1) := by decide +kernel
theorem dJ6_numberOfTrailingZeros_0f7a4_62 : decode cJ6_numberOfTrailingZeros_0f7a4 62 = .ok (.iload_n 0, 1) := by decide +kernel
theorem dJ6_numberOfTrailingZeros_0f7a4_63 : decode cJ6_numberOfTrailingZeros_0f7a4 63 = .ok (.iconst 4, 1) := by decide +kernel
theorem dJ6_numberOfTrailingZeros_0f7a4_64 : decode cJ6_numberOfTrailingZeros_0f7a4 64 = .ok (.if_icmp .le 10, 3) := by decide +kernel
theorem dJ6_numberOfTrailingZeros_0f7a4_67 : decode cJ6_numberOfTrailingZeros_0f7a4 67 = .ok (.iinc 1 2, 3) := by decide +kernel
theorem dJ6_numberOfTrailingZeros_0f7a4_70 : decode cJ6_numberOfTrailingZeros_0f7a4 70 = .ok (.iload_n 0, 1) := by decide +kernel
theorem dJ6_numberOfTrailingZeros_0f7a4_71 : decode cJ6_numberOfTrailingZeros_0f7a4 71 = .ok (.iconst 2, 1) := by decide +kernel
theorem dJ6_numberOfTrailingZeros_0f7a4_72 : decode cJ6_numberOfTrailingZeros_0f7a4 72 = .ok (.iushr, 1) := by decide +kernel
theorem dJ6_numberOfTrailingZeros_0f7a4_73 : decode cJ6_numberOfTrailingZeros_0f7a4 73 = .ok (.istore_n 0, 1) := by decide +kernel
theorem dJ6_numberOfTrailingZeros_0f7a4_74 : decode cJ6_numberOfTrailingZeros_0f7a4 74 = .ok (.iload_n 1, 1) := by decide +kernel
theorem dJ6_numberOfTrailingZeros_0f7a4_75 : decode cJ6_numberOfTrailingZeros_0f7a4 75 = .ok (.iload_n 0, 1) := by decide +kernel
theorem dJ6_numberOfTrailingZeros_0f7a4_76 : decode cJ6_numberOfTrailingZeros_0f7a4 76 = .ok (.iconst 1, 1) := by decide +kernel
theorem dJ6_numberOfTrailingZeros_0f7a4_77 : decode cJ6_numberOfTrailingZeros_0f7a4 77 = .ok (.iushr, 1) := by decide +kernel
theorem dJ6_numberOfTrailingZeros_0f7a4_78 : decode cJ6_numberOfTrailingZeros_0f7a4 78 = .ok (.iadd, 1) := by decide +kernel
theorem dJ6_numberOfTrailingZeros_0f7a4_79 : decode cJ6_numberOfTrailingZeros_0f7a4 79 = .ok (.ireturn, 1) := by decide +kernel
theorem dJ6_bitCount_0f7a4_0 : decode cJ6_bitCount_0f7a4 0 = .ok (.iload_n 0, 1) := by decide +kernel
theorem dJ6_bitCount_0f7a4_1 : decode cJ6_bitCount_0f7a4 1 = .ok (.iload_n 0, 1) := by decide +kernel
theorem dJ6_bitCount_0f7a4_2 : decode cJ6_bitCount_0f7a4 2 = .ok (.iconst 1, 1) := by decide +kernel
theorem dJ6_bitCount_0f7a4_3 : decode cJ6_bitCount_0f7a4 3 = .ok (.iushr, 1) := by decide +kernel
theorem dJ6_bitCount_0f7a4_4 : decode cJ6_bitCount_0f7a4 4 = .ok (.ldc_w 265, 3) := by decide +kernel
theorem dJ6_bitCount_0f7a4_7 : decode cJ6_bitCount_0f7a4 7 = .ok (.iand, 1) := by decide +kernel
theorem dJ6_bitCount_0f7a4_8 : decode cJ6_bitCount_0f7a4 8 = .ok (.isub, 1) := by decide +kernel
theorem dJ6_bitCount_0f7a4_9 : decode cJ6_bitCount_0f7a4 9 = .ok (.istore_n 0, 1) := by decide +kernel
theorem dJ6_bitCount_0f7a4_10 : decode cJ6_bitCount_0f7a4 10 = .ok (.iload_n 0, 1) := by decide +kernel
theorem dJ6_bitCount_0f7a4_11 : decode cJ6_bitCount_0f7a4 11 = .ok (.ldc_w 266, 3) := by decide +kernel
theorem dJ6_bitCount_0f7a4_14 : decode cJ6_bitCount_0f7a4 14 = .ok (.iand, 1) := by decide +kernel
theorem dJ6_bitCount_0f7a4_15 : decode cJ6_bitCount_0f7a4 15 = .ok (.iload_n 0, 1) := by decide +kernel
theorem dJ6_bitCount_0f7a4_16 : decode cJ6_bitCount_0f7a4 16 = .ok (.iconst 2, 1) := by decide +kernel
theorem dJ6_bitCount_0f7a4_17 : decode cJ6_bitCount_0f7a4 17 = .ok (.iushr, 1) := by decide +kernel
theorem dJ6_bitCount_0f7a4_18 : decode cJ6_bitCount_0f7a4 18 = .ok (.ldc_w 266, 3) := by decide +kernel
theorem dJ6_bitCount_0f7a4_21 : decode cJ6_bitCount_0f7a4 21 = .ok (.iand, 1) := by decide +kernel
theorem dJ6_bitCount_0f7a4_22 : decode cJ6_bitCount_0f7a4 22 = .ok (.iadd, 1) := by decide +kernel
theorem dJ6_bitCount_0f7a4_23 : decode cJ6_bitCount_0f7a4 23 = .ok (.istore_n 0, 1) := by decide +kernel
theorem dJ6_bitCount_0f7a4_24 : decode cJ6_bitCount_0f7a4 24 = .ok (.iload_n 0, 1) := by decide +kernel
theorem dJ6_bitCount_0f7a4_25 : decode cJ6_bitCount_0f7a4 25 = .ok (.iload_n 0, 1) := by decide +kernel
theorem dJ6_bitCount_0f7a4_26 : decode cJ6_bitCount_0f7a4 26 = .ok (.iconst 4, 1) := by decide +kernel
theorem dJ6_bitCount_0f7a4_27 : decode cJ6_bitCount_0f7a4 27 = .ok (.iushr, 1) := by decide +kernel
theorem dJ6_bitCount_0f7a4_28 : decode cJ6_bitCount_0f7a4 28 = .ok (.iadd, 1) := by decide +kernel
theorem dJ6_bitCount_0f7a4_29 : decode cJ6_bitCount_0f7a4 29 = .ok (.ldc_w 267, 3) := by decide +kernel
theorem dJ6_bitCount_0f7a4_32 : decode cJ6_bitCount_0f7a4 32 = .ok (.iand, 1) := by decide +kernel
theorem dJ6_bitCount_0f7a4_33 : decode cJ6_bitCount_0f7a4 33 = .ok (.istore_n 0, 1) := by decide +kernel
theorem dJ6_bitCount_0f7a4_34 : decode cJ6_bitCount_0f7a4 34 = .ok (.iload_n 0, 1) := by decide +kernel
theorem dJ6_bitCount_0f7a4_35 : decode cJ6_bitCount_0f7a4 35 = .ok (.iload_n 0, 1) := by decide +kernel
theorem dJ6_bitCount_0f7a4_36 : decode cJ6_bitCount_0f7a4 36 = .ok (.bipush 8, 2) := by decide +kernel
theorem dJ6_bitCount_0f7a4_38 : decode cJ6_bitCount_0f7a4 38 = .ok (.iushr, 1) := by decide +kernel
theorem dJ6_bitCount_0f7a4_39 : decode cJ6_bitCount_0f7a4 39 = .ok (.iadd, 1) := by decide +kernel
theorem dJ6_bitCount_0f7a4_40 : decode cJ6_bitCount_0f7a4 40 = .ok (.istore_n 0, 1) := by decide +kernel
theorem dJ6_bitCount_0f7a4_41 : decode cJ6_bitCount_0f7a4 41 = .ok (.iload_n 0, 1) := by decide +kernel
theorem dJ6_bitCount_0f7a4_42 : decode cJ6_bitCount_0f7a4 42 = .ok (.iload_n 0, 1) := by decide +kernel
theorem dJ6_bitCount_0f7a4_43 : decode cJ6_bitCount_0f7a4 43 = .ok (.bipush 16, 2) := by decide +kernel
theorem dJ6_bitCount_0f7a4_45 : decode cJ6_bitCount_0f7a4 45 = .ok (.iushr, 1) := by decide +kernel
theorem dJ6_bitCount_0f7a4_46 : decode cJ6_bitCount_0f7a4 46 = .ok (.iadd, 1) := by decide +kernel
theorem dJ6_bitCount_0f7a4_47 : decode cJ6_bitCount_0f7a4 47 = .ok (.istore_n 0, 1) := by decide +kernel
theorem dJ6_bitCount_0f7a4_48 : decode cJ6_bitCount_0f7a4 48 = .ok (.iload_n 0, 1) := by decide +kernel
theorem dJ6_bitCount_0f7a4_49 : decode cJ6_bitCount_0f7a4 49 = .ok (.bipush 63, 2) := by decide +kernel
theorem dJ6_bitCount_0f7a4_51 : decode cJ6_bitCount_0f7a4 51 = .ok (.iand, 1) := by decide +kernel
theorem dJ6_bitCount_0f7a4_52 : decode cJ6_bitCount_0f7a4 52 = .ok (.ireturn, 1) := by decide +kernel
theorem dJ9_abs_0f7a4_0 : decode cJ9_abs_0f7a4 0 = .ok (.iload_n 0, 1) := by decide +kernel
theorem dJ9_abs_0f7a4_1 : decode cJ9_abs_0f7a4 1 = .ok (.ifCond .ge 8, 3) := by decide +kernel
theorem dJ9_abs_0f7a4_4 : decode cJ9_abs_0f7a4 4 = .ok (.iload_n 0, 1) := by decide +kernel
theorem dJ9_abs_0f7a4_5 : decode cJ9_abs_0f7a4 5 = .ok (.ineg, 1) := by decide +kernel
theorem dJ9_abs_0f7a4_6 : decode cJ9_abs_0f7a4 6 = .ok (.goto 4, 3) := by decide +kernel
theorem dJ9_abs_0f7a4_9 : decode cJ9_abs_0f7a4 9 = .ok (.iload_n 0, 1) := by decide +kernel
theorem dJ9_abs_0f7a4_10 : decode cJ9_abs_0f7a4 10 = .ok (.ireturn, 1) := by decide +kernel
theorem dJ9_max_7cf53_0 : decode cJ9_max_7cf53 0 = .ok (.iload_n 0, 1) := by decide +kernel
theorem dJ9_max_7cf53_1 : decode cJ9_max_7cf53 1 = .ok (.iload_n 1, 1) := by decide +kernel
theorem dJ9_max_7cf53_2 : decode cJ9_max_7cf53 2 = .ok (.if_icmp .lt 7, 3) := by decide +kernel
theorem dJ9_max_7cf53_5 : decode cJ9_max_7cf53 5 = .ok (.iload_n 0, 1) := by decide +kernel
theorem dJ9_max_7cf53_6 : decode cJ9_max_7cf53 6 = .ok (.goto 4, 3) := by decide +kernel
theorem dJ9_max_7cf53_9 : decode cJ9_max_7cf53 9 = .ok (.iload_n 1, 1) := by decide +kernel
theorem dJ9_max_7cf53_10 : decode cJ9_max_7cf53 10 = .ok (.ireturn, 1) := by decide +kernel
theorem dJ9_min_7cf53_0 : decode cJ9_min_7cf53 0 = .ok (.iload_n 0, 1) := by decide +kernel
theorem dJ9_min_7cf53_1 : decode cJ9_min_7cf53 1 = .ok (.iload_n 1, 1) := by decide +kernel
theorem dJ9_min_7cf53_2 : decode cJ9_min_7cf53 2 = .ok (.if_icmp .gt 7, 3) := by decide +kernel
theorem dJ9_min_7cf53_5 : decode cJ9_min_7cf53 5 = .ok (.iload_n 0, 1) := by decide +kernel
theorem dJ9_min_7cf53_6 : decode cJ9_min_7cf53 6 = .ok (.goto 4, 3) := by decide +kernel
theorem dJ9_min_7cf53_9 : decode cJ9_min_7cf53 9 = .ok (.iload_n 1, 1) := by decide +kernel
theorem dJ9_min_7cf53_10 : decode cJ9_min_7cf53 10 = .ok (.ireturn, 1) := by decide +kernel
theorem dL_law_0 : decode cL_law 0 = .ok (.new 7, 3) := by decide +kernel
theorem dL_law_3 : decode cL_law 3 = .ok (.dup, 1) := by decide +kernel
theorem dL_law_4 : decode cL_law 4 = .ok (.invokespecial 9, 3) := by decide +kernel
theorem dL_law_7 : decode cL_law 7 = .ok (.astore_n 1, 1) := by decide +kernel
theorem dL_law_8 : decode cL_law 8 = .ok (.new 10, 3) := by decide +kernel
theorem dL_law_11 : decode cL_law 11 = .ok (.dup, 1) := by decide +kernel
theorem dL_law_12 : decode cL_law 12 = .ok (.invokespecial 12, 3) := by decide +kernel
theorem dL_law_15 : decode cL_law 15 = .ok (.astore_n 2, 1) := by decide +kernel
theorem dL_law_16 : decode cL_law 16 = .ok (.iconst 0, 1) := by decide +kernel
theorem dL_law_17 : decode cL_law 17 = .ok (.istore_n 3, 1) := by decide +kernel
theorem dL_law_18 : decode cL_law 18 = .ok (.iload_n 3, 1) := by decide +kernel
theorem dL_law_19 : decode cL_law 19 = .ok (.aload_n 0, 1) := by decide +kernel
theorem dL_law_20 : decode cL_law 20 = .ok (.arraylength, 1) := by decide +kernel
theorem dL_law_21 : decode cL_law 21 = .ok (.bipush 6, 2) := by decide +kernel
theorem dL_law_23 : decode cL_law 23 = .ok (.isub, 1) := by decide +kernel
theorem dL_law_24 : decode cL_law 24 = .ok (.if_icmp .gt 1284, 3) := by decide +kernel
theorem dL_law_27 : decode cL_law 27 = .ok (.aload_n 0, 1) := by decide +kernel
theorem dL_law_28 : decode cL_law 28 = .ok (.iload_n 3, 1) := by decide +kernel
theorem dL_law_29 : decode cL_law 29 = .ok (.iaload, 1) := by decide +kernel
theorem dL_law_30 : decode cL_law 30 = .ok (.bipush 63, 2) := by decide +kernel
theorem dL_law_32 : decode cL_law 32 = .ok (.iand, 1) := by decide +kernel
theorem dL_law_33 : decode cL_law 33 = .ok (.tableswitch 1269 0 37 #[167, 190, 233, 282, 345, 368, 401, 424, 437, 460, 473, 496, 529, 552, 585, 598, 631, 654, 677, 720, 753, 786, 809, 842, 896, 940, 983, 996, 1009, 1022, 1045, 1088, 1111, 1134, 1147, 1200, 1223, 1246], 167) := by decide +kernel
theorem dL_law_200 : decode cL_law 200 = .ok (.aload_n 1, 1) := by decide +kernel
theorem dL_law_201 : decode cL_law 201 = .ok (.aload_n 0, 1) := by decide +kernel
theorem dL_law_202 : decode cL_law 202 = .ok (.iload_n 3, 1) := by decide +kernel
theorem dL_law_203 : decode cL_law 203 = .ok (.iconst 1, 1) := by decide +kernel
theorem dL_law_204 : decode cL_law 204 = .ok (.iadd, 1) := by decide +kernel
theorem dL_law_205 : decode cL_law 205 = .ok (.iaload, 1) := by decide +kernel
theorem dL_law_206 : decode cL_law 206 = .ok (.invokevirtual 13, 3) := by decide +kernel
theorem dL_law_209 : decode cL_law 209 = .ok (.aload_n 2, 1) := by decide +kernel
theorem dL_law_210 : decode cL_law 210 = .ok (.aload_n 0, 1) := by decide +kernel
theorem dL_law_211 : decode cL_law 211 = .ok (.iload_n 3, 1) := by decide +kernel
theorem dL_law_212 : decode cL_law 212 = .ok (.iconst 1, 1) := by decide +kernel
theorem dL_law_213 : decode cL_law 213 = .ok (.iadd, 1) := by decide +kernel
theorem dL_law_214 : decode cL_law 214 = .ok (.iaload, 1) := by decide +kernel
theorem dL_law_215 : decode cL_law 215 = .ok (.invokevirtual 17, 3) := by decide +kernel
theorem dL_law_218 : decode cL_law 218 = .ok (.if_icmp .eq 1084, 3) := by decide +kernel
theorem dL_law_221 : decode cL_law 221 = .ok (.iconst 0, 1) := by decide +kernel
theorem dL_law_222 : decode cL_law 222 = .ok (.ireturn, 1) := by decide +kernel
theorem dL_law_223 : decode cL_law 223 = .ok (.aload_n 1, 1) := by decide +kernel
theorem dL_law_224 : decode cL_law 224 = .ok (.aload_n 0, 1) := by decide +kernel
theorem dL_law_225 : decode cL_law 225 = .ok (.iload_n 3, 1) := by decide +kernel
theorem dL_law_226 : decode cL_law 226 = .ok (.iconst 1, 1) := by decide +kernel
theorem dL_law_227 : decode cL_law 227 = .ok (.iadd, 1) := by decide +kernel
theorem dL_law_228 : decode cL_law 228 = .ok (.iaload, 1) := by decide +kernel
theorem dL_law_229 : decode cL_law 229 = .ok (.aload_n 0, 1) := by decide +kernel
theorem dL_law_230 : decode cL_law 230 = .ok (.iload_n 3, 1) := by decide +kernel
theorem dL_law_231 : decode cL_law 231 = .ok (.iconst 2, 1) := by decide +kernel
theorem dL_law_232 : decode cL_law 232 = .ok (.iadd, 1) := by decide +kernel
theorem dL_law_233 : decode cL_law 233 = .ok (.iaload, 1) := by decide +kernel
theorem dL_law_234 : decode cL_law 234 = .ok (.aload_n 0, 1) := by decide +kernel
theorem dL_law_235 : decode cL_law 235 = .ok (.iload_n 3, 1) := by decide +kernel
theorem dL_law_236 : decode cL_law 236 = .ok (.iconst 3, 1) := by decide +kernel
theorem dL_law_237 : decode cL_law 237 = .ok (.iadd, 1) := by decide +kernel
theorem dL_law_238 : decode cL_law 238 = .ok (.iaload, 1) := by decide +kernel
theorem dL_law_239 : decode cL_law 239 = .ok (.invokevirtual 18, 3) := by decide +kernel
theorem dL_law_242 : decode cL_law 242 = .ok (.aload_n 2, 1) := by decide +kernel
theorem dL_law_243 : decode cL_law 243 = .ok (.aload_n 0, 1) := by decide +kernel
theorem dL_law_244 : decode cL_law 244 = .ok (.iload_n 3, 1) := by decide +kernel
theorem dL_law_245 : decode cL_law 245 = .ok (.iconst 1, 1) := by decide +kernel
theorem dL_law_246 : decode cL_law 246 = .ok (.iadd, 1) := by decide +kernel
theorem dL_law_247 : decode cL_law 247 = .ok (.iaload, 1) := by decide +kernel
theorem dL_law_248 : decode cL_law 248 = .ok (.aload_n 0, 1) := by decide +kernel
theorem dL_law_249 : decode cL_law 249 = .ok (.iload_n 3, 1) := by decide +kernel
theorem dL_law_250 : decode cL_law 250 = .ok (.iconst 2, 1) := by decide +kernel
theorem dL_law_251 : decode cL_law 251 = .ok (.iadd, 1) := by decide +kernel
theorem dL_law_252 : decode cL_law 252 = .ok (.iaload, 1) := by decide +kernel
theorem dL_law_253 : decode cL_law 253 = .ok (.aload_n 0, 1) := by decide +kernel
theorem dL_law_254 : decode cL_law 254 = .ok (.iload_n 3, 1) := by decide +kernel
theorem dL_law_255 : decode cL_law 255 = .ok (.iconst 3, 1) := by decide +kernel
theorem dL_law_256 : decode cL_law 256 = .ok (.iadd, 1) := by decide +kernel
theorem dL_law_257 : decode cL_law 257 = .ok (.iaload, 1) := by decide +kernel
theorem dL_law_258 : decode cL_law 258 = .ok (.invokevirtual 22, 3) := by decide +kernel
theorem dL_law_261 : decode cL_law 261 = .ok (.if_icmp .eq 1041, 3) := by decide +kernel
theorem dL_law_264 : decode cL_law 264 = .ok (.iconst 0, 1) := by decide +kernel
theorem dL_law_265 : decode cL_law 265 = .ok (.ireturn, 1) := by decide +kernel
theorem dL_law_266 : decode cL_law 266 = .ok (.aload_n 1, 1) := by decide +kernel
theorem dL_law_267 : decode cL_law 267 = .ok (.aload_n 0, 1) := by decide +kernel
theorem dL_law_268 : decode cL_law 268 = .ok (.iload_n 3, 1) := by decide +kernel
theorem dL_law_269 : decode cL_law 269 = .ok (.iconst 1, 1) := by decide +kernel
theorem dL_law_270 : decode cL_law 270 = .ok (.iadd, 1) := by decide +kernel
theorem dL_law_271 : decode cL_law 271 = .ok (.iaload, 1) := by decide +kernel
theorem dL_law_272 : decode cL_law 272 = .ok (.aload_n 0, 1) := by decide +kernel
theorem dL_law_273 : decode cL_law 273 = .ok (.iload_n 3, 1) := by decide +kernel
theorem dL_law_274 : decode cL_law 274 = .ok (.iconst 2, 1) := by decide +kernel
theorem dL_law_275 : decode cL_law 275 = .ok (.iadd, 1) := by decide +kernel
theorem dL_law_276 : decode cL_law 276 = .ok (.iaload, 1) := by decide +kernel
theorem dL_law_277 : decode cL_law 277 = .ok (.ifCond .eq 7, 3) := by decide +kernel
theorem dL_law_280 : decode cL_law 280 = .ok (.iconst 1, 1) := by decide +kernel
theorem dL_law_281 : decode cL_law 281 = .ok (.goto 4, 3) := by decide +kernel
theorem dL_law_284 : decode cL_law 284 = .ok (.iconst 0, 1) := by decide +kernel
theorem dL_law_285 : decode cL_law 285 = .ok (.invokevirtual 23, 3) := by decide +kernel
theorem dL_law_288 : decode cL_law 288 = .ok (.aload_n 2, 1) := by decide +kernel
theorem dL_law_289 : decode cL_law 289 = .ok (.aload_n 0, 1) := by decide +kernel
theorem dL_law_290 : decode cL_law 290 = .ok (.iload_n 3, 1) := by decide +kernel
theorem dL_law_291 : decode cL_law 291 = .ok (.iconst 1, 1) := by decide +kernel
theorem dL_law_292 : decode cL_law 292 = .ok (.iadd, 1) := by decide +kernel
theorem dL_law_293 : decode cL_law 293 = .ok (.iaload, 1) := by decide +kernel
theorem dL_law_294 : decode cL_law 294 = .ok (.aload_n 0, 1) := by decide +kernel
theorem dL_law_295 : decode cL_law 295 = .ok (.iload_n 3, 1) := by decide +kernel
theorem dL_law_296 : decode cL_law 296 = .ok (.iconst 2, 1) := by decide +kernel
theorem dL_law_297 : decode cL_law 297 = .ok (.iadd, 1) := by decide +kernel
theorem dL_law_298 : decode cL_law 298 = .ok (.iaload, 1) := by decide +kernel
theorem dL_law_299 : decode cL_law 299 = .ok (.ifCond .eq 7, 3) := by decide +kernel
theorem dL_law_302 : decode cL_law 302 = .ok (.iconst 1, 1) := by decide +kernel
theorem dL_law_303 : decode cL_law 303 = .ok (.goto 4, 3) := by decide +kernel
theorem dL_law_306 : decode cL_law 306 = .ok (.iconst 0, 1) := by decide +kernel
theorem dL_law_307 : decode cL_law 307 = .ok (.invokevirtual 27, 3) := by decide +kernel
theorem dL_law_310 : decode cL_law 310 = .ok (.if_icmp .eq 992, 3) := by decide +kernel
theorem dL_law_313 : decode cL_law 313 = .ok (.iconst 0, 1) := by decide +kernel
theorem dL_law_314 : decode cL_law 314 = .ok (.ireturn, 1) := by decide +kernel
theorem dL_law_315 : decode cL_law 315 = .ok (.aload_n 1, 1) := by decide +kernel
theorem dL_law_316 : decode cL_law 316 = .ok (.aload_n 0, 1) := by decide +kernel
theorem dL_law_317 : decode cL_law 317 = .ok (.iload_n 3, 1) := by decide +kernel
theorem dL_law_318 : decode cL_law 318 = .ok (.iconst 1, 1) := by decide +kernel
theorem dL_law_319 : decode cL_law 319 = .ok (.iadd, 1) := by decide +kernel
theorem dL_law_320 : decode cL_law 320 = .ok (.iaload, 1) := by decide +kernel
theorem dL_law_321 : decode cL_law 321 = .ok (.aload_n 0, 1) := by decide +kernel
theorem dL_law_322 : decode cL_law 322 = .ok (.iload_n 3, 1) := by decide +kernel
theorem dL_law_323 : decode cL_law 323 = .ok (.iconst 2, 1) := by decide +kernel
theorem dL_law_324 : decode cL_law 324 = .ok (.iadd, 1) := by decide +kernel
theorem dL_law_325 : decode cL_law 325 = .ok (.iaload, 1) := by decide +kernel
theorem dL_law_326 : decode cL_law 326 = .ok (.aload_n 0, 1) := by decide +kernel
theorem dL_law_327 : decode cL_law 327 = .ok (.iload_n 3, 1) := by decide +kernel
theorem dL_law_328 : decode cL_law 328 = .ok (.iconst 3, 1) := by decide +kernel
theorem dL_law_329 : decode cL_law 329 = .ok (.iadd, 1) := by decide +kernel
theorem dL_law_330 : decode cL_law 330 = .ok (.iaload, 1) := by decide +kernel
theorem dL_law_331 : decode cL_law 331 = .ok (.aload_n 0, 1) := by decide +kernel
theorem dL_law_332 : decode cL_law 332 = .ok (.iload_n 3, 1) := by decide +kernel
theorem dL_law_333 : decode cL_law 333 = .ok (.iconst 4, 1) := by decide +kernel
theorem dL_law_334 : decode cL_law 334 = .ok (.iadd, 1) := by decide +kernel
theorem dL_law_335 : decode cL_law 335 = .ok (.iaload, 1) := by decide +kernel
theorem dL_law_336 : decode cL_law 336 = .ok (.aload_n 0, 1) := by decide +kernel
theorem dL_law_337 : decode cL_law 337 = .ok (.iload_n 3, 1) := by decide +kernel
theorem dL_law_338 : decode cL_law 338 = .ok (.iconst 5, 1) := by decide +kernel
theorem dL_law_339 : decode cL_law 339 = .ok (.iadd, 1) := by decide +kernel
theorem dL_law_340 : decode cL_law 340 = .ok (.iaload, 1) := by decide +kernel
theorem dL_law_341 : decode cL_law 341 = .ok (.invokevirtual 28, 3) := by decide +kernel
theorem dL_law_344 : decode cL_law 344 = .ok (.aload_n 2, 1) := by decide +kernel
theorem dL_law_345 : decode cL_law 345 = .ok (.aload_n 0, 1) := by decide +kernel
theorem dL_law_346 : decode cL_law 346 = .ok (.iload_n 3, 1) := by decide +kernel
theorem dL_law_347 : decode cL_law 347 = .ok (.iconst 1, 1) := by decide +kernel
theorem dL_law_348 : decode cL_law 348 = .ok (.iadd, 1) := by decide +kernel
theorem dL_law_349 : decode cL_law 349 = .ok (.iaload, 1) := by decide +kernel
theorem dL_law_350 : decode cL_law 350 = .ok (.aload_n 0, 1) := by decide +kernel
theorem dL_law_351 : decode cL_law 351 = .ok (.iload_n 3, 1) := by decide +kernel
theorem dL_law_352 : decode cL_law 352 = .ok (.iconst 2, 1) := by decide +kernel
theorem dL_law_353 : decode cL_law 353 = .ok (.iadd, 1) := by decide +kernel
theorem dL_law_354 : decode cL_law 354 = .ok (.iaload, 1) := by decide +kernel
theorem dL_law_355 : decode cL_law 355 = .ok (.aload_n 0, 1) := by decide +kernel
theorem dL_law_356 : decode cL_law 356 = .ok (.iload_n 3, 1) := by decide +kernel
theorem dL_law_357 : decode cL_law 357 = .ok (.iconst 3, 1) := by decide +kernel
theorem dL_law_358 : decode cL_law 358 = .ok (.iadd, 1) := by decide +kernel
theorem dL_law_359 : decode cL_law 359 = .ok (.iaload, 1) := by decide +kernel
theorem dL_law_360 : decode cL_law 360 = .ok (.aload_n 0, 1) := by decide +kernel
theorem dL_law_361 : decode cL_law 361 = .ok (.iload_n 3, 1) := by decide +kernel
theorem dL_law_362 : decode cL_law 362 = .ok (.iconst 4, 1) := by decide +kernel
theorem dL_law_363 : decode cL_law 363 = .ok (.iadd, 1) := by decide +kernel
theorem dL_law_364 : decode cL_law 364 = .ok (.iaload, 1) := by decide +kernel
theorem dL_law_365 : decode cL_law 365 = .ok (.aload_n 0, 1) := by decide +kernel
theorem dL_law_366 : decode cL_law 366 = .ok (.iload_n 3, 1) := by decide +kernel
theorem dL_law_367 : decode cL_law 367 = .ok (.iconst 5, 1) := by decide +kernel
theorem dL_law_368 : decode cL_law 368 = .ok (.iadd, 1) := by decide +kernel
theorem dL_law_369 : decode cL_law 369 = .ok (.iaload, 1) := by decide +kernel
theorem dL_law_370 : decode cL_law 370 = .ok (.invokevirtual 32, 3) := by decide +kernel
theorem dL_law_373 : decode cL_law 373 = .ok (.if_icmp .eq 929, 3) := by decide +kernel
theorem dL_law_376 : decode cL_law 376 = .ok (.iconst 0, 1) := by decide +kernel
theorem dL_law_377 : decode cL_law 377 = .ok (.ireturn, 1) := by decide +kernel
theorem dL_law_378 : decode cL_law 378 = .ok (.aload_n 1, 1) := by decide +kernel
theorem dL_law_379 : decode cL_law 379 = .ok (.aload_n 0, 1) := by decide +kernel
theorem dL_law_380 : decode cL_law 380 = .ok (.iload_n 3, 1) := by decide +kernel
theorem dL_law_381 : decode cL_law 381 = .ok (.iconst 1, 1) := by decide +kernel
theorem dL_law_382 : decode cL_law 382 = .ok (.iadd, 1) := by decide +kernel
theorem dL_law_383 : decode cL_law 383 = .ok (.iaload, 1) := by decide +kernel
theorem dL_law_384 : decode cL_law 384 = .ok (.invokevirtual 33, 3) := by decide +kernel
theorem dL_law_387 : decode cL_law 387 = .ok (.aload_n 2, 1) := by decide +kernel
theorem dL_law_388 : decode cL_law 388 = .ok (.aload_n 0, 1) := by decide +kernel
theorem dL_law_389 : decode cL_law 389 = .ok (.iload_n 3, 1) := by decide +kernel
theorem dL_law_390 : decode cL_law 390 = .ok (.iconst 1, 1) := by decide +kernel
theorem dL_law_391 : decode cL_law 391 = .ok (.iadd, 1) := by decide +kernel
theorem dL_law_392 : decode cL_law 392 = .ok (.iaload, 1) := by decide +kernel
theorem dL_law_393 : decode cL_law 393 = .ok (.invokevirtual 36, 3) := by decide +kernel
theorem dL_law_396 : decode cL_law 396 = .ok (.if_icmp .eq 906, 3) := by decide +kernel
theorem dL_law_399 : decode cL_law 399 = .ok (.iconst 0, 1) := by decide +kernel
theorem dL_law_400 : decode cL_law 400 = .ok (.ireturn, 1) := by decide +kernel
theorem dL_law_401 : decode cL_law 401 = .ok (.aload_n 1, 1) := by decide +kernel
theorem dL_law_402 : decode cL_law 402 = .ok (.aload_n 0, 1) := by decide +kernel
theorem dL_law_403 : decode cL_law 403 = .ok (.iload_n 3, 1) := by decide +kernel
theorem dL_law_404 : decode cL_law 404 = .ok (.iconst 1, 1) := by decide +kernel
theorem dL_law_405 : decode cL_law 405 = .ok (.iadd, 1) := by decide +kernel
theorem dL_law_406 : decode cL_law 406 = .ok (.iaload, 1) := by decide +kernel
theorem dL_law_407 : decode cL_law 407 = .ok (.aload_n 0, 1) := by decide +kernel
theorem dL_law_408 : decode cL_law 408 = .ok (.iload_n 3, 1) := by decide +kernel
theorem dL_law_409 : decode cL_law 409 = .ok (.iconst 2, 1) := by decide +kernel
theorem dL_law_410 : decode cL_law 410 = .ok (.iadd, 1) := by decide +kernel
theorem dL_law_411 : decode cL_law 411 = .ok (.iaload, 1) := by decide +kernel
theorem dL_law_412 : decode cL_law 412 = .ok (.invokevirtual 37, 3) := by decide +kernel
theorem dL_law_415 : decode cL_law 415 = .ok (.aload_n 2, 1) := by decide +kernel
theorem dL_law_416 : decode cL_law 416 = .ok (.aload_n 0, 1) := by decide +kernel
theorem dL_law_417 : decode cL_law 417 = .ok (.iload_n 3, 1) := by decide +kernel
theorem dL_law_418 : decode cL_law 418 = .ok (.iconst 1, 1) := by decide +kernel
theorem dL_law_419 : decode cL_law 419 = .ok (.iadd, 1) := by decide +kernel
theorem dL_law_420 : decode cL_law 420 = .ok (.iaload, 1) := by decide +kernel
theorem dL_law_421 : decode cL_law 421 = .ok (.aload_n 0, 1) := by decide +kernel
theorem dL_law_422 : decode cL_law 422 = .ok (.iload_n 3, 1) := by decide +kernel
theorem dL_law_423 : decode cL_law 423 = .ok (.iconst 2, 1) := by decide +kernel
theorem dL_law_424 : decode cL_law 424 = .ok (.iadd, 1) := by decide +kernel
theorem dL_law_425 : decode cL_law 425 = .ok (.iaload, 1) := by decide +kernel
theorem dL_law_426 : decode cL_law 426 = .ok (.invokevirtual 41, 3) := by decide +kernel
theorem dL_law_429 : decode cL_law 429 = .ok (.if_icmp .eq 873, 3) := by decide +kernel
theorem dL_law_432 : decode cL_law 432 = .ok (.iconst 0, 1) := by decide +kernel
theorem dL_law_433 : decode cL_law 433 = .ok (.ireturn, 1) := by decide +kernel
theorem dL_law_434 : decode cL_law 434 = .ok (.aload_n 1, 1) := by decide +kernel
theorem dL_law_435 : decode cL_law 435 = .ok (.aload_n 0, 1) := by decide +kernel
theorem dL_law_436 : decode cL_law 436 = .ok (.iload_n 3, 1) := by decide +kernel
theorem dL_law_437 : decode cL_law 437 = .ok (.iconst 1, 1) := by decide +kernel
theorem dL_law_438 : decode cL_law 438 = .ok (.iadd, 1) := by decide +kernel
theorem dL_law_439 : decode cL_law 439 = .ok (.iaload, 1) := by decide +kernel
theorem dL_law_440 : decode cL_law 440 = .ok (.invokevirtual 42, 3) := by decide +kernel
theorem dL_law_443 : decode cL_law 443 = .ok (.aload_n 2, 1) := by decide +kernel
theorem dL_law_444 : decode cL_law 444 = .ok (.aload_n 0, 1) := by decide +kernel
theorem dL_law_445 : decode cL_law 445 = .ok (.iload_n 3, 1) := by decide +kernel
theorem dL_law_446 : decode cL_law 446 = .ok (.iconst 1, 1) := by decide +kernel
theorem dL_law_447 : decode cL_law 447 = .ok (.iadd, 1) := by decide +kernel
theorem dL_law_448 : decode cL_law 448 = .ok (.iaload, 1) := by decide +kernel
theorem dL_law_449 : decode cL_law 449 = .ok (.invokevirtual 45, 3) := by decide +kernel
theorem dL_law_452 : decode cL_law 452 = .ok (.if_icmp .eq 850, 3) := by decide +kernel
theorem dL_law_455 : decode cL_law 455 = .ok (.iconst 0, 1) := by decide +kernel
theorem dL_law_456 : decode cL_law 456 = .ok (.ireturn, 1) := by decide +kernel
theorem dL_law_457 : decode cL_law 457 = .ok (.aload_n 1, 1) := by decide +kernel
theorem dL_law_458 : decode cL_law 458 = .ok (.invokevirtual 46, 3) := by decide +kernel
theorem dL_law_461 : decode cL_law 461 = .ok (.aload_n 2, 1) := by decide +kernel
theorem dL_law_462 : decode cL_law 462 = .ok (.invokevirtual 50, 3) := by decide +kernel
theorem dL_law_465 : decode cL_law 465 = .ok (.if_icmp .eq 837, 3) := by decide +kernel
theorem dL_law_468 : decode cL_law 468 = .ok (.iconst 0, 1) := by decide +kernel
theorem dL_law_469 : decode cL_law 469 = .ok (.ireturn, 1) := by decide +kernel
theorem dL_law_470 : decode cL_law 470 = .ok (.aload_n 1, 1) := by decide +kernel
theorem dL_law_471 : decode cL_law 471 = .ok (.aload_n 0, 1) := by decide +kernel
theorem dL_law_472 : decode cL_law 472 = .ok (.iload_n 3, 1) := by decide +kernel
theorem dL_law_473 : decode cL_law 473 = .ok (.iconst 1, 1) := by decide +kernel
theorem dL_law_474 : decode cL_law 474 = .ok (.iadd, 1) := by decide +kernel
theorem dL_law_475 : decode cL_law 475 = .ok (.iaload, 1) := by decide +kernel
theorem dL_law_476 : decode cL_law 476 = .ok (.invokevirtual 51, 3) := by decide +kernel
theorem dL_law_479 : decode cL_law 479 = .ok (.aload_n 2, 1) := by decide +kernel
theorem dL_law_480 : decode cL_law 480 = .ok (.aload_n 0, 1) := by decide +kernel
theorem dL_law_481 : decode cL_law 481 = .ok (.iload_n 3, 1) := by decide +kernel
theorem dL_law_482 : decode cL_law 482 = .ok (.iconst 1, 1) := by decide +kernel
theorem dL_law_483 : decode cL_law 483 = .ok (.iadd, 1) := by decide +kernel
theorem dL_law_484 : decode cL_law 484 = .ok (.iaload, 1) := by decide +kernel
theorem dL_law_485 : decode cL_law 485 = .ok (.invokevirtual 54, 3) := by decide +kernel
theorem dL_law_488 : decode cL_law 488 = .ok (.if_icmp .eq 814, 3) := by decide +kernel
theorem dL_law_491 : decode cL_law 491 = .ok (.iconst 0, 1) := by decide +kernel
theorem dL_law_492 : decode cL_law 492 = .ok (.ireturn, 1) := by decide +kernel
theorem dL_law_493 : decode cL_law 493 = .ok (.aload_n 1, 1) := by decide +kernel
theorem dL_law_494 : decode cL_law 494 = .ok (.invokevirtual 55, 3) := by decide +kernel
theorem dL_law_497 : decode cL_law 497 = .ok (.aload_n 2, 1) := by decide +kernel
theorem dL_law_498 : decode cL_law 498 = .ok (.invokevirtual 58, 3) := by decide +kernel
theorem dL_law_501 : decode cL_law 501 = .ok (.if_icmp .eq 801, 3) := by decide +kernel
theorem dL_law_504 : decode cL_law 504 = .ok (.iconst 0, 1) := by decide +kernel
theorem dL_law_505 : decode cL_law 505 = .ok (.ireturn, 1) := by decide +kernel
theorem dL_law_506 : decode cL_law 506 = .ok (.aload_n 1, 1) := by decide +kernel
theorem dL_law_507 : decode cL_law 507 = .ok (.aload_n 0, 1) := by decide +kernel
theorem dL_law_508 : decode cL_law 508 = .ok (.iload_n 3, 1) := by decide +kernel
theorem dL_law_509 : decode cL_law 509 = .ok (.iconst 1, 1) := by decide +kernel
theorem dL_law_510 : decode cL_law 510 = .ok (.iadd, 1) := by decide +kernel
theorem dL_law_511 : decode cL_law 511 = .ok (.iaload, 1) := by decide +kernel
theorem dL_law_512 : decode cL_law 512 = .ok (.invokevirtual 59, 3) := by decide +kernel
theorem dL_law_515 : decode cL_law 515 = .ok (.aload_n 2, 1) := by decide +kernel
theorem dL_law_516 : decode cL_law 516 = .ok (.aload_n 0, 1) := by decide +kernel
theorem dL_law_517 : decode cL_law 517 = .ok (.iload_n 3, 1) := by decide +kernel
theorem dL_law_518 : decode cL_law 518 = .ok (.iconst 1, 1) := by decide +kernel
theorem dL_law_519 : decode cL_law 519 = .ok (.iadd, 1) := by decide +kernel
theorem dL_law_520 : decode cL_law 520 = .ok (.iaload, 1) := by decide +kernel
theorem dL_law_521 : decode cL_law 521 = .ok (.invokevirtual 62, 3) := by decide +kernel
theorem dL_law_524 : decode cL_law 524 = .ok (.if_icmp .eq 778, 3) := by decide +kernel
theorem dL_law_527 : decode cL_law 527 = .ok (.iconst 0, 1) := by decide +kernel
theorem dL_law_528 : decode cL_law 528 = .ok (.ireturn, 1) := by decide +kernel
theorem dL_law_529 : decode cL_law 529 = .ok (.aload_n 1, 1) := by decide +kernel
theorem dL_law_530 : decode cL_law 530 = .ok (.aload_n 0, 1) := by decide +kernel
theorem dL_law_531 : decode cL_law 531 = .ok (.iload_n 3, 1) := by decide +kernel
theorem dL_law_532 : decode cL_law 532 = .ok (.iconst 1, 1) := by decide +kernel
theorem dL_law_533 : decode cL_law 533 = .ok (.iadd, 1) := by decide +kernel
theorem dL_law_534 : decode cL_law 534 = .ok (.iaload, 1) := by decide +kernel
theorem dL_law_535 : decode cL_law 535 = .ok (.aload_n 0, 1) := by decide +kernel
theorem dL_law_536 : decode cL_law 536 = .ok (.iload_n 3, 1) := by decide +kernel
theorem dL_law_537 : decode cL_law 537 = .ok (.iconst 2, 1) := by decide +kernel
theorem dL_law_538 : decode cL_law 538 = .ok (.iadd, 1) := by decide +kernel
theorem dL_law_539 : decode cL_law 539 = .ok (.iaload, 1) := by decide +kernel
theorem dL_law_540 : decode cL_law 540 = .ok (.invokevirtual 63, 3) := by decide +kernel
theorem dL_law_543 : decode cL_law 543 = .ok (.aload_n 2, 1) := by decide +kernel
theorem dL_law_544 : decode cL_law 544 = .ok (.aload_n 0, 1) := by decide +kernel
theorem dL_law_545 : decode cL_law 545 = .ok (.iload_n 3, 1) := by decide +kernel
theorem dL_law_546 : decode cL_law 546 = .ok (.iconst 1, 1) := by decide +kernel
theorem dL_law_547 : decode cL_law 547 = .ok (.iadd, 1) := by decide +kernel
theorem dL_law_548 : decode cL_law 548 = .ok (.iaload, 1) := by decide +kernel
theorem dL_law_549 : decode cL_law 549 = .ok (.aload_n 0, 1) := by decide +kernel
theorem dL_law_550 : decode cL_law 550 = .ok (.iload_n 3, 1) := by decide +kernel
theorem dL_law_551 : decode cL_law 551 = .ok (.iconst 2, 1) := by decide +kernel
theorem dL_law_552 : decode cL_law 552 = .ok (.iadd, 1) := by decide +kernel
theorem dL_law_553 : decode cL_law 553 = .ok (.iaload, 1) := by decide +kernel
theorem dL_law_554 : decode cL_law 554 = .ok (.invokevirtual 66, 3) := by decide +kernel
theorem dL_law_557 : decode cL_law 557 = .ok (.if_icmp .eq 745, 3) := by decide +kernel
theorem dL_law_560 : decode cL_law 560 = .ok (.iconst 0, 1) := by decide +kernel
theorem dL_law_561 : decode cL_law 561 = .ok (.ireturn, 1) := by decide +kernel
theorem dL_law_562 : decode cL_law 562 = .ok (.aload_n 1, 1) := by decide +kernel
theorem dL_law_563 : decode cL_law 563 = .ok (.aload_n 0, 1) := by decide +kernel
theorem dL_law_564 : decode cL_law 564 = .ok (.iload_n 3, 1) := by decide +kernel
theorem dL_law_565 : decode cL_law 565 = .ok (.iconst 1, 1) := by decide +kernel
theorem dL_law_566 : decode cL_law 566 = .ok (.iadd, 1) := by decide +kernel
theorem dL_law_567 : decode cL_law 567 = .ok (.iaload, 1) := by decide +kernel
theorem dL_law_568 : decode cL_law 568 = .ok (.invokevirtual 67, 3) := by decide +kernel
theorem dL_law_571 : decode cL_law 571 = .ok (.aload_n 2, 1) := by decide +kernel
theorem dL_law_572 : decode cL_law 572 = .ok (.aload_n 0, 1) := by decide +kernel
theorem dL_law_573 : decode cL_law 573 = .ok (.iload_n 3, 1) := by decide +kernel
theorem dL_law_574 : decode cL_law 574 = .ok (.iconst 1, 1) := by decide +kernel
theorem dL_law_575 : decode cL_law 575 = .ok (.iadd, 1) := by decide +kernel
theorem dL_law_576 : decode cL_law 576 = .ok (.iaload, 1) := by decide +kernel
theorem dL_law_577 : decode cL_law 577 = .ok (.invokevirtual 70, 3) := by decide +kernel
theorem dL_law_580 : decode cL_law 580 = .ok (.if_icmp .eq 722, 3) := by decide +kernel
theorem dL_law_583 : decode cL_law 583 = .ok (.iconst 0, 1) := by decide +kernel
theorem dL_law_584 : decode cL_law 584 = .ok (.ireturn, 1) := by decide +kernel
theorem dL_law_585 : decode cL_law 585 = .ok (.aload_n 1, 1) := by decide +kernel
theorem dL_law_586 : decode cL_law 586 = .ok (.aload_n 0, 1) := by decide +kernel
theorem dL_law_587 : decode cL_law 587 = .ok (.iload_n 3, 1) := by decide +kernel
theorem dL_law_588 : decode cL_law 588 = .ok (.iconst 1, 1) := by decide +kernel
theorem dL_law_589 : decode cL_law 589 = .ok (.iadd, 1) := by decide +kernel
theorem dL_law_590 : decode cL_law 590 = .ok (.iaload, 1) := by decide +kernel
theorem dL_law_591 : decode cL_law 591 = .ok (.aload_n 0, 1) := by decide +kernel
theorem dL_law_592 : decode cL_law 592 = .ok (.iload_n 3, 1) := by decide +kernel
theorem dL_law_593 : decode cL_law 593 = .ok (.iconst 2, 1) := by decide +kernel
theorem dL_law_594 : decode cL_law 594 = .ok (.iadd, 1) := by decide +kernel
theorem dL_law_595 : decode cL_law 595 = .ok (.iaload, 1) := by decide +kernel
theorem dL_law_596 : decode cL_law 596 = .ok (.invokevirtual 71, 3) := by decide +kernel
theorem dL_law_599 : decode cL_law 599 = .ok (.aload_n 2, 1) := by decide +kernel
theorem dL_law_600 : decode cL_law 600 = .ok (.aload_n 0, 1) := by decide +kernel
theorem dL_law_601 : decode cL_law 601 = .ok (.iload_n 3, 1) := by decide +kernel
theorem dL_law_602 : decode cL_law 602 = .ok (.iconst 1, 1) := by decide +kernel
theorem dL_law_603 : decode cL_law 603 = .ok (.iadd, 1) := by decide +kernel
theorem dL_law_604 : decode cL_law 604 = .ok (.iaload, 1) := by decide +kernel
theorem dL_law_605 : decode cL_law 605 = .ok (.aload_n 0, 1) := by decide +kernel
theorem dL_law_606 : decode cL_law 606 = .ok (.iload_n 3, 1) := by decide +kernel
theorem dL_law_607 : decode cL_law 607 = .ok (.iconst 2, 1) := by decide +kernel
theorem dL_law_608 : decode cL_law 608 = .ok (.iadd, 1) := by decide +kernel
theorem dL_law_609 : decode cL_law 609 = .ok (.iaload, 1) := by decide +kernel
theorem dL_law_610 : decode cL_law 610 = .ok (.invokevirtual 74, 3) := by decide +kernel
theorem dL_law_613 : decode cL_law 613 = .ok (.if_icmp .eq 689, 3) := by decide +kernel
theorem dL_law_616 : decode cL_law 616 = .ok (.iconst 0, 1) := by decide +kernel
theorem dL_law_617 : decode cL_law 617 = .ok (.ireturn, 1) := by decide +kernel
theorem dL_law_618 : decode cL_law 618 = .ok (.aload_n 1, 1) := by decide +kernel
theorem dL_law_619 : decode cL_law 619 = .ok (.invokevirtual 75, 3) := by decide +kernel
theorem dL_law_622 : decode cL_law 622 = .ok (.aload_n 2, 1) := by decide +kernel
theorem dL_law_623 : decode cL_law 623 = .ok (.invokevirtual 78, 3) := by decide +kernel
theorem dL_law_626 : decode cL_law 626 = .ok (.if_icmp .eq 676, 3) := by decide +kernel
theorem dL_law_629 : decode cL_law 629 = .ok (.iconst 0, 1) := by decide +kernel
theorem dL_law_630 : decode cL_law 630 = .ok (.ireturn, 1) := by decide +kernel
theorem dL_law_631 : decode cL_law 631 = .ok (.aload_n 1, 1) := by decide +kernel
theorem dL_law_632 : decode cL_law 632 = .ok (.aload_n 0, 1) := by decide +kernel
theorem dL_law_633 : decode cL_law 633 = .ok (.iload_n 3, 1) := by decide +kernel
theorem dL_law_634 : decode cL_law 634 = .ok (.iconst 1, 1) := by decide +kernel
theorem dL_law_635 : decode cL_law 635 = .ok (.iadd, 1) := by decide +kernel
theorem dL_law_636 : decode cL_law 636 = .ok (.iaload, 1) := by decide +kernel
theorem dL_law_637 : decode cL_law 637 = .ok (.aload_n 0, 1) := by decide +kernel
theorem dL_law_638 : decode cL_law 638 = .ok (.iload_n 3, 1) := by decide +kernel
theorem dL_law_639 : decode cL_law 639 = .ok (.iconst 2, 1) := by decide +kernel
theorem dL_law_640 : decode cL_law 640 = .ok (.iadd, 1) := by decide +kernel
theorem dL_law_641 : decode cL_law 641 = .ok (.iaload, 1) := by decide +kernel
theorem dL_law_642 : decode cL_law 642 = .ok (.invokevirtual 79, 3) := by decide +kernel
theorem dL_law_645 : decode cL_law 645 = .ok (.aload_n 2, 1) := by decide +kernel
theorem dL_law_646 : decode cL_law 646 = .ok (.aload_n 0, 1) := by decide +kernel
theorem dL_law_647 : decode cL_law 647 = .ok (.iload_n 3, 1) := by decide +kernel
theorem dL_law_648 : decode cL_law 648 = .ok (.iconst 1, 1) := by decide +kernel
theorem dL_law_649 : decode cL_law 649 = .ok (.iadd, 1) := by decide +kernel
theorem dL_law_650 : decode cL_law 650 = .ok (.iaload, 1) := by decide +kernel
theorem dL_law_651 : decode cL_law 651 = .ok (.aload_n 0, 1) := by decide +kernel
theorem dL_law_652 : decode cL_law 652 = .ok (.iload_n 3, 1) := by decide +kernel
theorem dL_law_653 : decode cL_law 653 = .ok (.iconst 2, 1) := by decide +kernel
theorem dL_law_654 : decode cL_law 654 = .ok (.iadd, 1) := by decide +kernel
theorem dL_law_655 : decode cL_law 655 = .ok (.iaload, 1) := by decide +kernel
theorem dL_law_656 : decode cL_law 656 = .ok (.invokevirtual 82, 3) := by decide +kernel
theorem dL_law_659 : decode cL_law 659 = .ok (.if_icmp .eq 643, 3) := by decide +kernel
theorem dL_law_662 : decode cL_law 662 = .ok (.iconst 0, 1) := by decide +kernel
theorem dL_law_663 : decode cL_law 663 = .ok (.ireturn, 1) := by decide +kernel
theorem dL_law_664 : decode cL_law 664 = .ok (.aload_n 1, 1) := by decide +kernel
theorem dL_law_665 : decode cL_law 665 = .ok (.aload_n 0, 1) := by decide +kernel
theorem dL_law_666 : decode cL_law 666 = .ok (.iload_n 3, 1) := by decide +kernel
theorem dL_law_667 : decode cL_law 667 = .ok (.iconst 1, 1) := by decide +kernel
theorem dL_law_668 : decode cL_law 668 = .ok (.iadd, 1) := by decide +kernel
theorem dL_law_669 : decode cL_law 669 = .ok (.iaload, 1) := by decide +kernel
theorem dL_law_670 : decode cL_law 670 = .ok (.invokevirtual 83, 3) := by decide +kernel
theorem dL_law_673 : decode cL_law 673 = .ok (.aload_n 2, 1) := by decide +kernel
theorem dL_law_674 : decode cL_law 674 = .ok (.aload_n 0, 1) := by decide +kernel
theorem dL_law_675 : decode cL_law 675 = .ok (.iload_n 3, 1) := by decide +kernel
theorem dL_law_676 : decode cL_law 676 = .ok (.iconst 1, 1) := by decide +kernel
theorem dL_law_677 : decode cL_law 677 = .ok (.iadd, 1) := by decide +kernel
theorem dL_law_678 : decode cL_law 678 = .ok (.iaload, 1) := by decide +kernel
theorem dL_law_679 : decode cL_law 679 = .ok (.invokevirtual 86, 3) := by decide +kernel
theorem dL_law_682 : decode cL_law 682 = .ok (.if_icmp .eq 620, 3) := by decide +kernel
theorem dL_law_685 : decode cL_law 685 = .ok (.iconst 0, 1) := by decide +kernel
theorem dL_law_686 : decode cL_law 686 = .ok (.ireturn, 1) := by decide +kernel
theorem dL_law_687 : decode cL_law 687 = .ok (.aload_n 1, 1) := by decide +kernel
theorem dL_law_688 : decode cL_law 688 = .ok (.aload_n 0, 1) := by decide +kernel
theorem dL_law_689 : decode cL_law 689 = .ok (.iload_n 3, 1) := by decide +kernel
theorem dL_law_690 : decode cL_law 690 = .ok (.iconst 1, 1) := by decide +kernel
theorem dL_law_691 : decode cL_law 691 = .ok (.iadd, 1) := by decide +kernel
theorem dL_law_692 : decode cL_law 692 = .ok (.iaload, 1) := by decide +kernel
theorem dL_law_693 : decode cL_law 693 = .ok (.invokevirtual 87, 3) := by decide +kernel
theorem dL_law_696 : decode cL_law 696 = .ok (.aload_n 2, 1) := by decide +kernel
theorem dL_law_697 : decode cL_law 697 = .ok (.aload_n 0, 1) := by decide +kernel
theorem dL_law_698 : decode cL_law 698 = .ok (.iload_n 3, 1) := by decide +kernel
theorem dL_law_699 : decode cL_law 699 = .ok (.iconst 1, 1) := by decide +kernel
theorem dL_law_700 : decode cL_law 700 = .ok (.iadd, 1) := by decide +kernel
theorem dL_law_701 : decode cL_law 701 = .ok (.iaload, 1) := by decide +kernel
theorem dL_law_702 : decode cL_law 702 = .ok (.invokevirtual 90, 3) := by decide +kernel
theorem dL_law_705 : decode cL_law 705 = .ok (.if_icmp .eq 597, 3) := by decide +kernel
theorem dL_law_708 : decode cL_law 708 = .ok (.iconst 0, 1) := by decide +kernel
theorem dL_law_709 : decode cL_law 709 = .ok (.ireturn, 1) := by decide +kernel
theorem dL_law_710 : decode cL_law 710 = .ok (.aload_n 1, 1) := by decide +kernel
theorem dL_law_711 : decode cL_law 711 = .ok (.aload_n 0, 1) := by decide +kernel
theorem dL_law_712 : decode cL_law 712 = .ok (.iload_n 3, 1) := by decide +kernel
theorem dL_law_713 : decode cL_law 713 = .ok (.iconst 1, 1) := by decide +kernel
theorem dL_law_714 : decode cL_law 714 = .ok (.iadd, 1) := by decide +kernel
theorem dL_law_715 : decode cL_law 715 = .ok (.iaload, 1) := by decide +kernel
theorem dL_law_716 : decode cL_law 716 = .ok (.aload_n 0, 1) := by decide +kernel
theorem dL_law_717 : decode cL_law 717 = .ok (.iload_n 3, 1) := by decide +kernel
theorem dL_law_718 : decode cL_law 718 = .ok (.iconst 2, 1) := by decide +kernel
theorem dL_law_719 : decode cL_law 719 = .ok (.iadd, 1) := by decide +kernel
theorem dL_law_720 : decode cL_law 720 = .ok (.iaload, 1) := by decide +kernel
theorem dL_law_721 : decode cL_law 721 = .ok (.aload_n 0, 1) := by decide +kernel
theorem dL_law_722 : decode cL_law 722 = .ok (.iload_n 3, 1) := by decide +kernel
theorem dL_law_723 : decode cL_law 723 = .ok (.iconst 3, 1) := by decide +kernel
theorem dL_law_724 : decode cL_law 724 = .ok (.iadd, 1) := by decide +kernel
theorem dL_law_725 : decode cL_law 725 = .ok (.iaload, 1) := by decide +kernel
theorem dL_law_726 : decode cL_law 726 = .ok (.invokevirtual 91, 3) := by decide +kernel
theorem dL_law_729 : decode cL_law 729 = .ok (.aload_n 2, 1) := by decide +kernel
theorem dL_law_730 : decode cL_law 730 = .ok (.aload_n 0, 1) := by decide +kernel
theorem dL_law_731 : decode cL_law 731 = .ok (.iload_n 3, 1) := by decide +kernel
theorem dL_law_732 : decode cL_law 732 = .ok (.iconst 1, 1) := by decide +kernel
theorem dL_law_733 : decode cL_law 733 = .ok (.iadd, 1) := by decide +kernel
theorem dL_law_734 : decode cL_law 734 = .ok (.iaload, 1) := by decide +kernel
theorem dL_law_735 : decode cL_law 735 = .ok (.aload_n 0, 1) := by decide +kernel
theorem dL_law_736 : decode cL_law 736 = .ok (.iload_n 3, 1) := by decide +kernel
theorem dL_law_737 : decode cL_law 737 = .ok (.iconst 2, 1) := by decide +kernel
theorem dL_law_738 : decode cL_law 738 = .ok (.iadd, 1) := by decide +kernel
theorem dL_law_739 : decode cL_law 739 = .ok (.iaload, 1) := by decide +kernel
theorem dL_law_740 : decode cL_law 740 = .ok (.aload_n 0, 1) := by decide +kernel
theorem dL_law_741 : decode cL_law 741 = .ok (.iload_n 3, 1) := by decide +kernel
theorem dL_law_742 : decode cL_law 742 = .ok (.iconst 3, 1) := by decide +kernel
theorem dL_law_743 : decode cL_law 743 = .ok (.iadd, 1) := by decide +kernel
theorem dL_law_744 : decode cL_law 744 = .ok (.iaload, 1) := by decide +kernel
theorem dL_law_745 : decode cL_law 745 = .ok (.invokevirtual 94, 3) := by decide +kernel
theorem dL_law_748 : decode cL_law 748 = .ok (.if_icmp .eq 554, 3) := by decide +kernel
theorem dL_law_751 : decode cL_law 751 = .ok (.iconst 0, 1) := by decide +kernel
theorem dL_law_752 : decode cL_law 752 = .ok (.ireturn, 1) := by decide +kernel
theorem dL_law_753 : decode cL_law 753 = .ok (.aload_n 1, 1) := by decide +kernel
theorem dL_law_754 : decode cL_law 754 = .ok (.aload_n 0, 1) := by decide +kernel
theorem dL_law_755 : decode cL_law 755 = .ok (.iload_n 3, 1) := by decide +kernel
theorem dL_law_756 : decode cL_law 756 = .ok (.iconst 1, 1) := by decide +kernel
theorem dL_law_757 : decode cL_law 757 = .ok (.iadd, 1) := by decide +kernel
theorem dL_law_758 : decode cL_law 758 = .ok (.iaload, 1) := by decide +kernel
theorem dL_law_759 : decode cL_law 759 = .ok (.aload_n 0, 1) := by decide +kernel
theorem dL_law_760 : decode cL_law 760 = .ok (.iload_n 3, 1) := by decide +kernel
theorem dL_law_761 : decode cL_law 761 = .ok (.iconst 2, 1) := by decide +kernel
theorem dL_law_762 : decode cL_law 762 = .ok (.iadd, 1) := by decide +kernel
theorem dL_law_763 : decode cL_law 763 = .ok (.iaload, 1) := by decide +kernel
theorem dL_law_764 : decode cL_law 764 = .ok (.invokevirtual 95, 3) := by decide +kernel
theorem dL_law_767 : decode cL_law 767 = .ok (.aload_n 2, 1) := by decide +kernel
theorem dL_law_768 : decode cL_law 768 = .ok (.aload_n 0, 1) := by decide +kernel
theorem dL_law_769 : decode cL_law 769 = .ok (.iload_n 3, 1) := by decide +kernel
theorem dL_law_770 : decode cL_law 770 = .ok (.iconst 1, 1) := by decide +kernel
theorem dL_law_771 : decode cL_law 771 = .ok (.iadd, 1) := by decide +kernel
theorem dL_law_772 : decode cL_law 772 = .ok (.iaload, 1) := by decide +kernel
theorem dL_law_773 : decode cL_law 773 = .ok (.aload_n 0, 1) := by decide +kernel
theorem dL_law_774 : decode cL_law 774 = .ok (.iload_n 3, 1) := by decide +kernel
theorem dL_law_775 : decode cL_law 775 = .ok (.iconst 2, 1) := by decide +kernel
theorem dL_law_776 : decode cL_law 776 = .ok (.iadd, 1) := by decide +kernel
theorem dL_law_777 : decode cL_law 777 = .ok (.iaload, 1) := by decide +kernel
theorem dL_law_778 : decode cL_law 778 = .ok (.invokevirtual 98, 3) := by decide +kernel
theorem dL_law_781 : decode cL_law 781 = .ok (.if_icmp .eq 521, 3) := by decide +kernel
theorem dL_law_784 : decode cL_law 784 = .ok (.iconst 0, 1) := by decide +kernel
theorem dL_law_785 : decode cL_law 785 = .ok (.ireturn, 1) := by decide +kernel
theorem dL_law_786 : decode cL_law 786 = .ok (.aload_n 1, 1) := by decide +kernel
theorem dL_law_787 : decode cL_law 787 = .ok (.aload_n 0, 1) := by decide +kernel
theorem dL_law_788 : decode cL_law 788 = .ok (.iload_n 3, 1) := by decide +kernel
theorem dL_law_789 : decode cL_law 789 = .ok (.iconst 1, 1) := by decide +kernel
theorem dL_law_790 : decode cL_law 790 = .ok (.iadd, 1) := by decide +kernel
theorem dL_law_791 : decode cL_law 791 = .ok (.iaload, 1) := by decide +kernel
theorem dL_law_792 : decode cL_law 792 = .ok (.aload_n 0, 1) := by decide +kernel
theorem dL_law_793 : decode cL_law 793 = .ok (.iload_n 3, 1) := by decide +kernel
theorem dL_law_794 : decode cL_law 794 = .ok (.iconst 2, 1) := by decide +kernel
theorem dL_law_795 : decode cL_law 795 = .ok (.iadd, 1) := by decide +kernel
theorem dL_law_796 : decode cL_law 796 = .ok (.iaload, 1) := by decide +kernel
theorem dL_law_797 : decode cL_law 797 = .ok (.invokevirtual 99, 3) := by decide +kernel
theorem dL_law_800 : decode cL_law 800 = .ok (.aload_n 2, 1) := by decide +kernel
theorem dL_law_801 : decode cL_law 801 = .ok (.aload_n 0, 1) := by decide +kernel
theorem dL_law_802 : decode cL_law 802 = .ok (.iload_n 3, 1) := by decide +kernel
theorem dL_law_803 : decode cL_law 803 = .ok (.iconst 1, 1) := by decide +kernel
theorem dL_law_804 : decode cL_law 804 = .ok (.iadd, 1) := by decide +kernel
theorem dL_law_805 : decode cL_law 805 = .ok (.iaload, 1) := by decide +kernel
theorem dL_law_806 : decode cL_law 806 = .ok (.aload_n 0, 1) := by decide +kernel
theorem dL_law_807 : decode cL_law 807 = .ok (.iload_n 3, 1) := by decide +kernel
theorem dL_law_808 : decode cL_law 808 = .ok (.iconst 2, 1) := by decide +kernel
theorem dL_law_809 : decode cL_law 809 = .ok (.iadd, 1) := by decide +kernel
theorem dL_law_810 : decode cL_law 810 = .ok (.iaload, 1) := by decide +kernel
theorem dL_law_811 : decode cL_law 811 = .ok (.invokevirtual 102, 3) := by decide +kernel
theorem dL_law_814 : decode cL_law 814 = .ok (.if_icmp .eq 488, 3) := by decide +kernel
theorem dL_law_817 : decode cL_law 817 = .ok (.iconst 0, 1) := by decide +kernel
theorem dL_law_818 : decode cL_law 818 = .ok (.ireturn, 1) := by decide +kernel
theorem dL_law_819 : decode cL_law 819 = .ok (.aload_n 1, 1) := by decide +kernel
theorem dL_law_820 : decode cL_law 820 = .ok (.aload_n 0, 1) := by decide +kernel
theorem dL_law_821 : decode cL_law 821 = .ok (.iload_n 3, 1) := by decide +kernel
theorem dL_law_822 : decode cL_law 822 = .ok (.iconst 1, 1) := by decide +kernel
theorem dL_law_823 : decode cL_law 823 = .ok (.iadd, 1) := by decide +kernel
theorem dL_law_824 : decode cL_law 824 = .ok (.iaload, 1) := by decide +kernel
theorem dL_law_825 : decode cL_law 825 = .ok (.invokevirtual 103, 3) := by decide +kernel
theorem dL_law_828 : decode cL_law 828 = .ok (.aload_n 2, 1) := by decide +kernel
theorem dL_law_829 : decode cL_law 829 = .ok (.aload_n 0, 1) := by decide +kernel
theorem dL_law_830 : decode cL_law 830 = .ok (.iload_n 3, 1) := by decide +kernel
theorem dL_law_831 : decode cL_law 831 = .ok (.iconst 1, 1) := by decide +kernel
theorem dL_law_832 : decode cL_law 832 = .ok (.iadd, 1) := by decide +kernel
theorem dL_law_833 : decode cL_law 833 = .ok (.iaload, 1) := by decide +kernel
theorem dL_law_834 : decode cL_law 834 = .ok (.invokevirtual 106, 3) := by decide +kernel
theorem dL_law_837 : decode cL_law 837 = .ok (.if_icmp .eq 465, 3) := by decide +kernel
theorem dL_law_840 : decode cL_law 840 = .ok (.iconst 0, 1) := by decide +kernel
theorem dL_law_841 : decode cL_law 841 = .ok (.ireturn, 1) := by decide +kernel
theorem dL_law_842 : decode cL_law 842 = .ok (.aload_n 1, 1) := by decide +kernel
theorem dL_law_843 : decode cL_law 843 = .ok (.aload_n 0, 1) := by decide +kernel
theorem dL_law_844 : decode cL_law 844 = .ok (.iload_n 3, 1) := by decide +kernel
theorem dL_law_845 : decode cL_law 845 = .ok (.iconst 1, 1) := by decide +kernel
theorem dL_law_846 : decode cL_law 846 = .ok (.iadd, 1) := by decide +kernel
theorem dL_law_847 : decode cL_law 847 = .ok (.iaload, 1) := by decide +kernel
theorem dL_law_848 : decode cL_law 848 = .ok (.aload_n 0, 1) := by decide +kernel
theorem dL_law_849 : decode cL_law 849 = .ok (.iload_n 3, 1) := by decide +kernel
theorem dL_law_850 : decode cL_law 850 = .ok (.iconst 2, 1) := by decide +kernel
theorem dL_law_851 : decode cL_law 851 = .ok (.iadd, 1) := by decide +kernel
theorem dL_law_852 : decode cL_law 852 = .ok (.iaload, 1) := by decide +kernel
theorem dL_law_853 : decode cL_law 853 = .ok (.invokevirtual 107, 3) := by decide +kernel
theorem dL_law_856 : decode cL_law 856 = .ok (.aload_n 2, 1) := by decide +kernel
theorem dL_law_857 : decode cL_law 857 = .ok (.aload_n 0, 1) := by decide +kernel
theorem dL_law_858 : decode cL_law 858 = .ok (.iload_n 3, 1) := by decide +kernel
theorem dL_law_859 : decode cL_law 859 = .ok (.iconst 1, 1) := by decide +kernel
theorem dL_law_860 : decode cL_law 860 = .ok (.iadd, 1) := by decide +kernel
theorem dL_law_861 : decode cL_law 861 = .ok (.iaload, 1) := by decide +kernel
theorem dL_law_862 : decode cL_law 862 = .ok (.aload_n 0, 1) := by decide +kernel
theorem dL_law_863 : decode cL_law 863 = .ok (.iload_n 3, 1) := by decide +kernel
theorem dL_law_864 : decode cL_law 864 = .ok (.iconst 2, 1) := by decide +kernel
theorem dL_law_865 : decode cL_law 865 = .ok (.iadd, 1) := by decide +kernel
theorem dL_law_866 : decode cL_law 866 = .ok (.iaload, 1) := by decide +kernel
theorem dL_law_867 : decode cL_law 867 = .ok (.invokevirtual 110, 3) := by decide +kernel
theorem dL_law_870 : decode cL_law 870 = .ok (.if_icmp .eq 432, 3) := by decide +kernel
theorem dL_law_873 : decode cL_law 873 = .ok (.iconst 0, 1) := by decide +kernel
theorem dL_law_874 : decode cL_law 874 = .ok (.ireturn, 1) := by decide +kernel
theorem dL_law_875 : decode cL_law 875 = .ok (.aload_n 1, 1) := by decide +kernel
theorem dL_law_876 : decode cL_law 876 = .ok (.aload_n 0, 1) := by decide +kernel
theorem dL_law_877 : decode cL_law 877 = .ok (.iload_n 3, 1) := by decide +kernel
theorem dL_law_878 : decode cL_law 878 = .ok (.iconst 1, 1) := by decide +kernel
theorem dL_law_879 : decode cL_law 879 = .ok (.iadd, 1) := by decide +kernel
theorem dL_law_880 : decode cL_law 880 = .ok (.iaload, 1) := by decide +kernel
theorem dL_law_881 : decode cL_law 881 = .ok (.aload_n 0, 1) := by decide +kernel
theorem dL_law_882 : decode cL_law 882 = .ok (.iload_n 3, 1) := by decide +kernel
theorem dL_law_883 : decode cL_law 883 = .ok (.iconst 2, 1) := by decide +kernel
theorem dL_law_884 : decode cL_law 884 = .ok (.iadd, 1) := by decide +kernel
theorem dL_law_885 : decode cL_law 885 = .ok (.iaload, 1) := by decide +kernel
theorem dL_law_886 : decode cL_law 886 = .ok (.aload_n 0, 1) := by decide +kernel
theorem dL_law_887 : decode cL_law 887 = .ok (.iload_n 3, 1) := by decide +kernel
theorem dL_law_888 : decode cL_law 888 = .ok (.iconst 3, 1) := by decide +kernel
theorem dL_law_889 : decode cL_law 889 = .ok (.iadd, 1) := by decide +kernel
theorem dL_law_890 : decode cL_law 890 = .ok (.iaload, 1) := by decide +kernel
theorem dL_law_891 : decode cL_law 891 = .ok (.aload_n 0, 1) := by decide +kernel
theorem dL_law_892 : decode cL_law 892 = .ok (.iload_n 3, 1) := by decide +kernel
theorem dL_law_893 : decode cL_law 893 = .ok (.iconst 4, 1) := by decide +kernel
theorem dL_law_894 : decode cL_law 894 = .ok (.iadd, 1) := by decide +kernel
theorem dL_law_895 : decode cL_law 895 = .ok (.iaload, 1) := by decide +kernel
theorem dL_law_896 : decode cL_law 896 = .ok (.invokevirtual 111, 3) := by decide +kernel
theorem dL_law_899 : decode cL_law 899 = .ok (.aload_n 2, 1) := by decide +kernel
theorem dL_law_900 : decode cL_law 900 = .ok (.aload_n 0, 1) := by decide +kernel
theorem dL_law_901 : decode cL_law 901 = .ok (.iload_n 3, 1) := by decide +kernel
theorem dL_law_902 : decode cL_law 902 = .ok (.iconst 1, 1) := by decide +kernel
theorem dL_law_903 : decode cL_law 903 = .ok (.iadd, 1) := by decide +kernel
theorem dL_law_904 : decode cL_law 904 = .ok (.iaload, 1) := by decide +kernel
theorem dL_law_905 : decode cL_law 905 = .ok (.aload_n 0, 1) := by decide +kernel
theorem dL_law_906 : decode cL_law 906 = .ok (.iload_n 3, 1) := by decide +kernel
theorem dL_law_907 : decode cL_law 907 = .ok (.iconst 2, 1) := by decide +kernel
theorem dL_law_908 : decode cL_law 908 = .ok (.iadd, 1) := by decide +kernel
theorem dL_law_909 : decode cL_law 909 = .ok (.iaload, 1) := by decide +kernel
theorem dL_law_910 : decode cL_law 910 = .ok (.aload_n 0, 1) := by decide +kernel
theorem dL_law_911 : decode cL_law 911 = .ok (.iload_n 3, 1) := by decide +kernel
theorem dL_law_912 : decode cL_law 912 = .ok (.iconst 3, 1) := by decide +kernel
theorem dL_law_913 : decode cL_law 913 = .ok (.iadd, 1) := by decide +kernel
theorem dL_law_914 : decode cL_law 914 = .ok (.iaload, 1) := by decide +kernel
theorem dL_law_915 : decode cL_law 915 = .ok (.aload_n 0, 1) := by decide +kernel
theorem dL_law_916 : decode cL_law 916 = .ok (.iload_n 3, 1) := by decide +kernel
theorem dL_law_917 : decode cL_law 917 = .ok (.iconst 4, 1) := by decide +kernel
theorem dL_law_918 : decode cL_law 918 = .ok (.iadd, 1) := by decide +kernel
theorem dL_law_919 : decode cL_law 919 = .ok (.iaload, 1) := by decide +kernel
theorem dL_law_920 : decode cL_law 920 = .ok (.invokevirtual 115, 3) := by decide +kernel
theorem dL_law_923 : decode cL_law 923 = .ok (.lcmp, 1) := by decide +kernel
theorem dL_law_924 : decode cL_law 924 = .ok (.ifCond .eq 378, 3) := by decide +kernel
theorem dL_law_927 : decode cL_law 927 = .ok (.iconst 0, 1) := by decide +kernel
theorem dL_law_928 : decode cL_law 928 = .ok (.ireturn, 1) := by decide +kernel
theorem dL_law_929 : decode cL_law 929 = .ok (.aload_n 1, 1) := by decide +kernel
theorem dL_law_930 : decode cL_law 930 = .ok (.aload_n 0, 1) := by decide +kernel
theorem dL_law_931 : decode cL_law 931 = .ok (.iload_n 3, 1) := by decide +kernel
theorem dL_law_932 : decode cL_law 932 = .ok (.iconst 1, 1) := by decide +kernel
theorem dL_law_933 : decode cL_law 933 = .ok (.iadd, 1) := by decide +kernel
theorem dL_law_934 : decode cL_law 934 = .ok (.iaload, 1) := by decide +kernel
theorem dL_law_935 : decode cL_law 935 = .ok (.aload_n 0, 1) := by decide +kernel
theorem dL_law_936 : decode cL_law 936 = .ok (.iload_n 3, 1) := by decide +kernel
theorem dL_law_937 : decode cL_law 937 = .ok (.iconst 2, 1) := by decide +kernel
theorem dL_law_938 : decode cL_law 938 = .ok (.iadd, 1) := by decide +kernel
theorem dL_law_939 : decode cL_law 939 = .ok (.iaload, 1) := by decide +kernel
theorem dL_law_940 : decode cL_law 940 = .ok (.aload_n 0, 1) := by decide +kernel
theorem dL_law_941 : decode cL_law 941 = .ok (.iload_n 3, 1) := by decide +kernel
theorem dL_law_942 : decode cL_law 942 = .ok (.iconst 3, 1) := by decide +kernel
theorem dL_law_943 : decode cL_law 943 = .ok (.iadd, 1) := by decide +kernel
theorem dL_law_944 : decode cL_law 944 = .ok (.iaload, 1) := by decide +kernel
theorem dL_law_945 : decode cL_law 945 = .ok (.invokevirtual 116, 3) := by decide +kernel
theorem dL_law_948 : decode cL_law 948 = .ok (.aload_n 2, 1) := by decide +kernel
theorem dL_law_949 : decode cL_law 949 = .ok (.aload_n 0, 1) := by decide +kernel
theorem dL_law_950 : decode cL_law 950 = .ok (.iload_n 3, 1) := by decide +kernel
theorem dL_law_951 : decode cL_law 951 = .ok (.iconst 1, 1) := by decide +kernel
theorem dL_law_952 : decode cL_law 952 = .ok (.iadd, 1) := by decide +kernel
theorem dL_law_953 : decode cL_law 953 = .ok (.iaload, 1) := by decide +kernel
theorem dL_law_954 : decode cL_law 954 = .ok (.aload_n 0, 1) := by decide +kernel
theorem dL_law_955 : decode cL_law 955 = .ok (.iload_n 3, 1) := by decide +kernel
theorem dL_law_956 : decode cL_law 956 = .ok (.iconst 2, 1) := by decide +kernel
theorem dL_law_957 : decode cL_law 957 = .ok (.iadd, 1) := by decide +kernel
theorem dL_law_958 : decode cL_law 958 = .ok (.iaload, 1) := by decide +kernel
theorem dL_law_959 : decode cL_law 959 = .ok (.aload_n 0, 1) := by decide +kernel
theorem dL_law_960 : decode cL_law 960 = .ok (.iload_n 3, 1) := by decide +kernel
theorem dL_law_961 : decode cL_law 961 = .ok (.iconst 3, 1) := by decide +kernel
theorem dL_law_962 : decode cL_law 962 = .ok (.iadd, 1) := by decide +kernel
theorem dL_law_963 : decode cL_law 963 = .ok (.iaload, 1) := by decide +kernel
theorem dL_law_964 : decode cL_law 964 = .ok (.invokevirtual 120, 3) := by decide +kernel
theorem dL_law_967 : decode cL_law 967 = .ok (.lcmp, 1) := by decide +kernel
theorem dL_law_968 : decode cL_law 968 = .ok (.ifCond .eq 334, 3) := by decide +kernel
theorem dL_law_971 : decode cL_law 971 = .ok (.iconst 0, 1) := by decide +kernel
theorem dL_law_972 : decode cL_law 972 = .ok (.ireturn, 1) := by decide +kernel
theorem dL_law_973 : decode cL_law 973 = .ok (.aload_n 1, 1) := by decide +kernel
theorem dL_law_974 : decode cL_law 974 = .ok (.aload_n 0, 1) := by decide +kernel
theorem dL_law_975 : decode cL_law 975 = .ok (.iload_n 3, 1) := by decide +kernel
theorem dL_law_976 : decode cL_law 976 = .ok (.iconst 1, 1) := by decide +kernel
theorem dL_law_977 : decode cL_law 977 = .ok (.iadd, 1) := by decide +kernel
theorem dL_law_978 : decode cL_law 978 = .ok (.iaload, 1) := by decide +kernel
theorem dL_law_979 : decode cL_law 979 = .ok (.aload_n 0, 1) := by decide +kernel
theorem dL_law_980 : decode cL_law 980 = .ok (.iload_n 3, 1) := by decide +kernel
theorem dL_law_981 : decode cL_law 981 = .ok (.iconst 2, 1) := by decide +kernel
theorem dL_law_982 : decode cL_law 982 = .ok (.iadd, 1) := by decide +kernel
theorem dL_law_983 : decode cL_law 983 = .ok (.iaload, 1) := by decide +kernel
theorem dL_law_984 : decode cL_law 984 = .ok (.aload_n 0, 1) := by decide +kernel
theorem dL_law_985 : decode cL_law 985 = .ok (.iload_n 3, 1) := by decide +kernel
theorem dL_law_986 : decode cL_law 986 = .ok (.iconst 3, 1) := by decide +kernel
theorem dL_law_987 : decode cL_law 987 = .ok (.iadd, 1) := by decide +kernel
theorem dL_law_988 : decode cL_law 988 = .ok (.iaload, 1) := by decide +kernel
theorem dL_law_989 : decode cL_law 989 = .ok (.invokevirtual 121, 3) := by decide +kernel
theorem dL_law_992 : decode cL_law 992 = .ok (.aload_n 2, 1) := by decide +kernel
theorem dL_law_993 : decode cL_law 993 = .ok (.aload_n 0, 1) := by decide +kernel
theorem dL_law_994 : decode cL_law 994 = .ok (.iload_n 3, 1) := by decide +kernel
theorem dL_law_995 : decode cL_law 995 = .ok (.iconst 1, 1) := by decide +kernel
theorem dL_law_996 : decode cL_law 996 = .ok (.iadd, 1) := by decide +kernel
theorem dL_law_997 : decode cL_law 997 = .ok (.iaload, 1) := by decide +kernel
theorem dL_law_998 : decode cL_law 998 = .ok (.aload_n 0, 1) := by decide +kernel
theorem dL_law_999 : decode cL_law 999 = .ok (.iload_n 3, 1) := by decide +kernel
theorem dL_law_1000 : decode cL_law 1000 = .ok (.iconst 2, 1) := by decide +kernel
theorem dL_law_1001 : decode cL_law 1001 = .ok (.iadd, 1) := by decide +kernel
theorem dL_law_1002 : decode cL_law 1002 = .ok (.iaload, 1) := by decide +kernel
theorem dL_law_1003 : decode cL_law 1003 = .ok (.aload_n 0, 1) := by decide +kernel
theorem dL_law_1004 : decode cL_law 1004 = .ok (.iload_n 3, 1) := by decide +kernel
theorem dL_law_1005 : decode cL_law 1005 = .ok (.iconst 3, 1) := by decide +kernel
theorem dL_law_1006 : decode cL_law 1006 = .ok (.iadd, 1) := by decide +kernel
theorem dL_law_1007 : decode cL_law 1007 = .ok (.iaload, 1) := by decide +kernel
theorem dL_law_1008 : decode cL_law 1008 = .ok (.invokevirtual 124, 3) := by decide +kernel
theorem dL_law_1011 : decode cL_law 1011 = .ok (.if_icmp .eq 291, 3) := by decide +kernel
theorem dL_law_1014 : decode cL_law 1014 = .ok (.iconst 0, 1) := by decide +kernel
theorem dL_law_1015 : decode cL_law 1015 = .ok (.ireturn, 1) := by decide +kernel
theorem dL_law_1016 : decode cL_law 1016 = .ok (.aload_n 1, 1) := by decide +kernel
theorem dL_law_1017 : decode cL_law 1017 = .ok (.invokevirtual 125, 3) := by decide +kernel
theorem dL_law_1020 : decode cL_law 1020 = .ok (.aload_n 2, 1) := by decide +kernel
theorem dL_law_1021 : decode cL_law 1021 = .ok (.invokevirtual 128, 3) := by decide +kernel
theorem dL_law_1024 : decode cL_law 1024 = .ok (.if_icmp .eq 278, 3) := by decide +kernel
theorem dL_law_1027 : decode cL_law 1027 = .ok (.iconst 0, 1) := by decide +kernel
theorem dL_law_1028 : decode cL_law 1028 = .ok (.ireturn, 1) := by decide +kernel
theorem dL_law_1029 : decode cL_law 1029 = .ok (.aload_n 1, 1) := by decide +kernel
theorem dL_law_1030 : decode cL_law 1030 = .ok (.invokevirtual 129, 3) := by decide +kernel
theorem dL_law_1033 : decode cL_law 1033 = .ok (.aload_n 2, 1) := by decide +kernel
theorem dL_law_1034 : decode cL_law 1034 = .ok (.invokevirtual 132, 3) := by decide +kernel
theorem dL_law_1037 : decode cL_law 1037 = .ok (.if_icmp .eq 265, 3) := by decide +kernel
theorem dL_law_1040 : decode cL_law 1040 = .ok (.iconst 0, 1) := by decide +kernel
theorem dL_law_1041 : decode cL_law 1041 = .ok (.ireturn, 1) := by decide +kernel
theorem dL_law_1042 : decode cL_law 1042 = .ok (.aload_n 1, 1) := by decide +kernel
theorem dL_law_1043 : decode cL_law 1043 = .ok (.invokevirtual 133, 3) := by decide +kernel
theorem dL_law_1046 : decode cL_law 1046 = .ok (.aload_n 2, 1) := by decide +kernel
theorem dL_law_1047 : decode cL_law 1047 = .ok (.invokevirtual 136, 3) := by decide +kernel
theorem dL_law_1050 : decode cL_law 1050 = .ok (.if_icmp .eq 252, 3) := by decide +kernel
theorem dL_law_1053 : decode cL_law 1053 = .ok (.iconst 0, 1) := by decide +kernel
theorem dL_law_1054 : decode cL_law 1054 = .ok (.ireturn, 1) := by decide +kernel
theorem dL_law_1055 : decode cL_law 1055 = .ok (.aload_n 1, 1) := by decide +kernel
theorem dL_law_1056 : decode cL_law 1056 = .ok (.aload_n 0, 1) := by decide +kernel
theorem dL_law_1057 : decode cL_law 1057 = .ok (.iload_n 3, 1) := by decide +kernel
theorem dL_law_1058 : decode cL_law 1058 = .ok (.iconst 1, 1) := by decide +kernel
theorem dL_law_1059 : decode cL_law 1059 = .ok (.iadd, 1) := by decide +kernel
theorem dL_law_1060 : decode cL_law 1060 = .ok (.iaload, 1) := by decide +kernel
theorem dL_law_1061 : decode cL_law 1061 = .ok (.invokevirtual 137, 3) := by decide +kernel
theorem dL_law_1064 : decode cL_law 1064 = .ok (.aload_n 2, 1) := by decide +kernel
theorem dL_law_1065 : decode cL_law 1065 = .ok (.aload_n 0, 1) := by decide +kernel
theorem dL_law_1066 : decode cL_law 1066 = .ok (.iload_n 3, 1) := by decide +kernel
theorem dL_law_1067 : decode cL_law 1067 = .ok (.iconst 1, 1) := by decide +kernel
theorem dL_law_1068 : decode cL_law 1068 = .ok (.iadd, 1) := by decide +kernel
theorem dL_law_1069 : decode cL_law 1069 = .ok (.iaload, 1) := by decide +kernel
theorem dL_law_1070 : decode cL_law 1070 = .ok (.invokevirtual 140, 3) := by decide +kernel
theorem dL_law_1073 : decode cL_law 1073 = .ok (.if_icmp .eq 229, 3) := by decide +kernel
theorem dL_law_1076 : decode cL_law 1076 = .ok (.iconst 0, 1) := by decide +kernel
theorem dL_law_1077 : decode cL_law 1077 = .ok (.ireturn, 1) := by decide +kernel
theorem dL_law_1078 : decode cL_law 1078 = .ok (.aload_n 1, 1) := by decide +kernel
theorem dL_law_1079 : decode cL_law 1079 = .ok (.aload_n 0, 1) := by decide +kernel
theorem dL_law_1080 : decode cL_law 1080 = .ok (.iload_n 3, 1) := by decide +kernel
theorem dL_law_1081 : decode cL_law 1081 = .ok (.iconst 1, 1) := by decide +kernel
theorem dL_law_1082 : decode cL_law 1082 = .ok (.iadd, 1) := by decide +kernel
theorem dL_law_1083 : decode cL_law 1083 = .ok (.iaload, 1) := by decide +kernel
theorem dL_law_1084 : decode cL_law 1084 = .ok (.aload_n 0, 1) := by decide +kernel
theorem dL_law_1085 : decode cL_law 1085 = .ok (.iload_n 3, 1) := by decide +kernel
theorem dL_law_1086 : decode cL_law 1086 = .ok (.iconst 2, 1) := by decide +kernel
theorem dL_law_1087 : decode cL_law 1087 = .ok (.iadd, 1) := by decide +kernel
theorem dL_law_1088 : decode cL_law 1088 = .ok (.iaload, 1) := by decide +kernel
theorem dL_law_1089 : decode cL_law 1089 = .ok (.aload_n 0, 1) := by decide +kernel
theorem dL_law_1090 : decode cL_law 1090 = .ok (.iload_n 3, 1) := by decide +kernel
theorem dL_law_1091 : decode cL_law 1091 = .ok (.iconst 3, 1) := by decide +kernel
theorem dL_law_1092 : decode cL_law 1092 = .ok (.iadd, 1) := by decide +kernel
theorem dL_law_1093 : decode cL_law 1093 = .ok (.iaload, 1) := by decide +kernel
theorem dL_law_1094 : decode cL_law 1094 = .ok (.invokevirtual 141, 3) := by decide +kernel
theorem dL_law_1097 : decode cL_law 1097 = .ok (.aload_n 2, 1) := by decide +kernel
theorem dL_law_1098 : decode cL_law 1098 = .ok (.aload_n 0, 1) := by decide +kernel
theorem dL_law_1099 : decode cL_law 1099 = .ok (.iload_n 3, 1) := by decide +kernel
theorem dL_law_1100 : decode cL_law 1100 = .ok (.iconst 1, 1) := by decide +kernel
theorem dL_law_1101 : decode cL_law 1101 = .ok (.iadd, 1) := by decide +kernel
theorem dL_law_1102 : decode cL_law 1102 = .ok (.iaload, 1) := by decide +kernel
theorem dL_law_1103 : decode cL_law 1103 = .ok (.aload_n 0, 1) := by decide +kernel
theorem dL_law_1104 : decode cL_law 1104 = .ok (.iload_n 3, 1) := by decide +kernel
theorem dL_law_1105 : decode cL_law 1105 = .ok (.iconst 2, 1) := by decide +kernel
theorem dL_law_1106 : decode cL_law 1106 = .ok (.iadd, 1) := by decide +kernel
theorem dL_law_1107 : decode cL_law 1107 = .ok (.iaload, 1) := by decide +kernel
theorem dL_law_1108 : decode cL_law 1108 = .ok (.aload_n 0, 1) := by decide +kernel
theorem dL_law_1109 : decode cL_law 1109 = .ok (.iload_n 3, 1) := by decide +kernel
theorem dL_law_1110 : decode cL_law 1110 = .ok (.iconst 3, 1) := by decide +kernel
theorem dL_law_1111 : decode cL_law 1111 = .ok (.iadd, 1) := by decide +kernel
theorem dL_law_1112 : decode cL_law 1112 = .ok (.iaload, 1) := by decide +kernel
theorem dL_law_1113 : decode cL_law 1113 = .ok (.invokevirtual 144, 3) := by decide +kernel
theorem dL_law_1116 : decode cL_law 1116 = .ok (.if_icmp .eq 186, 3) := by decide +kernel
theorem dL_law_1119 : decode cL_law 1119 = .ok (.iconst 0, 1) := by decide +kernel
theorem dL_law_1120 : decode cL_law 1120 = .ok (.ireturn, 1) := by decide +kernel
theorem dL_law_1121 : decode cL_law 1121 = .ok (.aload_n 1, 1) := by decide +kernel
theorem dL_law_1122 : decode cL_law 1122 = .ok (.aload_n 0, 1) := by decide +kernel
theorem dL_law_1123 : decode cL_law 1123 = .ok (.iload_n 3, 1) := by decide +kernel
theorem dL_law_1124 : decode cL_law 1124 = .ok (.iconst 1, 1) := by decide +kernel
theorem dL_law_1125 : decode cL_law 1125 = .ok (.iadd, 1) := by decide +kernel
theorem dL_law_1126 : decode cL_law 1126 = .ok (.iaload, 1) := by decide +kernel
theorem dL_law_1127 : decode cL_law 1127 = .ok (.invokevirtual 145, 3) := by decide +kernel
theorem dL_law_1130 : decode cL_law 1130 = .ok (.aload_n 2, 1) := by decide +kernel
theorem dL_law_1131 : decode cL_law 1131 = .ok (.aload_n 0, 1) := by decide +kernel
theorem dL_law_1132 : decode cL_law 1132 = .ok (.iload_n 3, 1) := by decide +kernel
theorem dL_law_1133 : decode cL_law 1133 = .ok (.iconst 1, 1) := by decide +kernel
theorem dL_law_1134 : decode cL_law 1134 = .ok (.iadd, 1) := by decide +kernel
theorem dL_law_1135 : decode cL_law 1135 = .ok (.iaload, 1) := by decide +kernel
theorem dL_law_1136 : decode cL_law 1136 = .ok (.invokevirtual 148, 3) := by decide +kernel
theorem dL_law_1139 : decode cL_law 1139 = .ok (.if_icmp .eq 163, 3) := by decide +kernel
theorem dL_law_1142 : decode cL_law 1142 = .ok (.iconst 0, 1) := by decide +kernel
theorem dL_law_1143 : decode cL_law 1143 = .ok (.ireturn, 1) := by decide +kernel
theorem dL_law_1144 : decode cL_law 1144 = .ok (.aload_n 1, 1) := by decide +kernel
theorem dL_law_1145 : decode cL_law 1145 = .ok (.aload_n 0, 1) := by decide +kernel
theorem dL_law_1146 : decode cL_law 1146 = .ok (.iload_n 3, 1) := by decide +kernel
theorem dL_law_1147 : decode cL_law 1147 = .ok (.iconst 1, 1) := by decide +kernel
theorem dL_law_1148 : decode cL_law 1148 = .ok (.iadd, 1) := by decide +kernel
theorem dL_law_1149 : decode cL_law 1149 = .ok (.iaload, 1) := by decide +kernel
theorem dL_law_1150 : decode cL_law 1150 = .ok (.invokevirtual 149, 3) := by decide +kernel
theorem dL_law_1153 : decode cL_law 1153 = .ok (.aload_n 2, 1) := by decide +kernel
theorem dL_law_1154 : decode cL_law 1154 = .ok (.aload_n 0, 1) := by decide +kernel
theorem dL_law_1155 : decode cL_law 1155 = .ok (.iload_n 3, 1) := by decide +kernel
theorem dL_law_1156 : decode cL_law 1156 = .ok (.iconst 1, 1) := by decide +kernel
theorem dL_law_1157 : decode cL_law 1157 = .ok (.iadd, 1) := by decide +kernel
theorem dL_law_1158 : decode cL_law 1158 = .ok (.iaload, 1) := by decide +kernel
theorem dL_law_1159 : decode cL_law 1159 = .ok (.invokevirtual 152, 3) := by decide +kernel
theorem dL_law_1162 : decode cL_law 1162 = .ok (.if_icmp .eq 140, 3) := by decide +kernel
theorem dL_law_1165 : decode cL_law 1165 = .ok (.iconst 0, 1) := by decide +kernel
theorem dL_law_1166 : decode cL_law 1166 = .ok (.ireturn, 1) := by decide +kernel
theorem dL_law_1167 : decode cL_law 1167 = .ok (.aload_n 1, 1) := by decide +kernel
theorem dL_law_1168 : decode cL_law 1168 = .ok (.invokevirtual 153, 3) := by decide +kernel
theorem dL_law_1171 : decode cL_law 1171 = .ok (.aload_n 2, 1) := by decide +kernel
theorem dL_law_1172 : decode cL_law 1172 = .ok (.invokevirtual 156, 3) := by decide +kernel
theorem dL_law_1175 : decode cL_law 1175 = .ok (.if_icmp .eq 127, 3) := by decide +kernel
theorem dL_law_1178 : decode cL_law 1178 = .ok (.iconst 0, 1) := by decide +kernel
theorem dL_law_1179 : decode cL_law 1179 = .ok (.ireturn, 1) := by decide +kernel
theorem dL_law_1180 : decode cL_law 1180 = .ok (.aload_n 1, 1) := by decide +kernel
theorem dL_law_1181 : decode cL_law 1181 = .ok (.aload_n 0, 1) := by decide +kernel
theorem dL_law_1182 : decode cL_law 1182 = .ok (.iload_n 3, 1) := by decide +kernel
theorem dL_law_1183 : decode cL_law 1183 = .ok (.iconst 1, 1) := by decide +kernel
theorem dL_law_1184 : decode cL_law 1184 = .ok (.iadd, 1) := by decide +kernel
theorem dL_law_1185 : decode cL_law 1185 = .ok (.iaload, 1) := by decide +kernel
theorem dL_law_1186 : decode cL_law 1186 = .ok (.aload_n 0, 1) := by decide +kernel
theorem dL_law_1187 : decode cL_law 1187 = .ok (.iload_n 3, 1) := by decide +kernel
theorem dL_law_1188 : decode cL_law 1188 = .ok (.iconst 2, 1) := by decide +kernel
theorem dL_law_1189 : decode cL_law 1189 = .ok (.iadd, 1) := by decide +kernel
theorem dL_law_1190 : decode cL_law 1190 = .ok (.iaload, 1) := by decide +kernel
theorem dL_law_1191 : decode cL_law 1191 = .ok (.aload_n 0, 1) := by decide +kernel
theorem dL_law_1192 : decode cL_law 1192 = .ok (.iload_n 3, 1) := by decide +kernel
theorem dL_law_1193 : decode cL_law 1193 = .ok (.iconst 3, 1) := by decide +kernel
theorem dL_law_1194 : decode cL_law 1194 = .ok (.iadd, 1) := by decide +kernel
theorem dL_law_1195 : decode cL_law 1195 = .ok (.iaload, 1) := by decide +kernel
theorem dL_law_1196 : decode cL_law 1196 = .ok (.aload_n 0, 1) := by decide +kernel
theorem dL_law_1197 : decode cL_law 1197 = .ok (.iload_n 3, 1) := by decide +kernel
theorem dL_law_1198 : decode cL_law 1198 = .ok (.iconst 4, 1) := by decide +kernel
theorem dL_law_1199 : decode cL_law 1199 = .ok (.iadd, 1) := by decide +kernel
theorem dL_law_1200 : decode cL_law 1200 = .ok (.iaload, 1) := by decide +kernel
theorem dL_law_1201 : decode cL_law 1201 = .ok (.invokevirtual 157, 3) := by decide +kernel
theorem dL_law_1204 : decode cL_law 1204 = .ok (.aload_n 2, 1) := by decide +kernel
theorem dL_law_1205 : decode cL_law 1205 = .ok (.aload_n 0, 1) := by decide +kernel
theorem dL_law_1206 : decode cL_law 1206 = .ok (.iload_n 3, 1) := by decide +kernel
theorem dL_law_1207 : decode cL_law 1207 = .ok (.iconst 1, 1) := by decide +kernel
theorem dL_law_1208 : decode cL_law 1208 = .ok (.iadd, 1) := by decide +kernel
theorem dL_law_1209 : decode cL_law 1209 = .ok (.iaload, 1) := by decide +kernel
theorem dL_law_1210 : decode cL_law 1210 = .ok (.aload_n 0, 1) := by decide +kernel
theorem dL_law_1211 : decode cL_law 1211 = .ok (.iload_n 3, 1) := by decide +kernel
theorem dL_law_1212 : decode cL_law 1212 = .ok (.iconst 2, 1) := by decide +kernel
theorem dL_law_1213 : decode cL_law 1213 = .ok (.iadd, 1) := by decide +kernel
theorem dL_law_1214 : decode cL_law 1214 = .ok (.iaload, 1) := by decide +kernel
theorem dL_law_1215 : decode cL_law 1215 = .ok (.aload_n 0, 1) := by decide +kernel
theorem dL_law_1216 : decode cL_law 1216 = .ok (.iload_n 3, 1) := by decide +kernel
theorem dL_law_1217 : decode cL_law 1217 = .ok (.iconst 3, 1) := by decide +kernel
theorem dL_law_1218 : decode cL_law 1218 = .ok (.iadd, 1) := by decide +kernel
theorem dL_law_1219 : decode cL_law 1219 = .ok (.iaload, 1) := by decide +kernel
theorem dL_law_1220 : decode cL_law 1220 = .ok (.aload_n 0, 1) := by decide +kernel
theorem dL_law_1221 : decode cL_law 1221 = .ok (.iload_n 3, 1) := by decide +kernel
theorem dL_law_1222 : decode cL_law 1222 = .ok (.iconst 4, 1) := by decide +kernel
theorem dL_law_1223 : decode cL_law 1223 = .ok (.iadd, 1) := by decide +kernel
theorem dL_law_1224 : decode cL_law 1224 = .ok (.iaload, 1) := by decide +kernel
theorem dL_law_1225 : decode cL_law 1225 = .ok (.invokevirtual 161, 3) := by decide +kernel
theorem dL_law_1228 : decode cL_law 1228 = .ok (.if_icmp .eq 74, 3) := by decide +kernel
theorem dL_law_1231 : decode cL_law 1231 = .ok (.iconst 0, 1) := by decide +kernel
theorem dL_law_1232 : decode cL_law 1232 = .ok (.ireturn, 1) := by decide +kernel
theorem dL_law_1233 : decode cL_law 1233 = .ok (.aload_n 1, 1) := by decide +kernel
theorem dL_law_1234 : decode cL_law 1234 = .ok (.aload_n 0, 1) := by decide +kernel
theorem dL_law_1235 : decode cL_law 1235 = .ok (.iload_n 3, 1) := by decide +kernel
theorem dL_law_1236 : decode cL_law 1236 = .ok (.iconst 1, 1) := by decide +kernel
theorem dL_law_1237 : decode cL_law 1237 = .ok (.iadd, 1) := by decide +kernel
theorem dL_law_1238 : decode cL_law 1238 = .ok (.iaload, 1) := by decide +kernel
theorem dL_law_1239 : decode cL_law 1239 = .ok (.invokevirtual 162, 3) := by decide +kernel
theorem dL_law_1242 : decode cL_law 1242 = .ok (.aload_n 2, 1) := by decide +kernel
theorem dL_law_1243 : decode cL_law 1243 = .ok (.aload_n 0, 1) := by decide +kernel
theorem dL_law_1244 : decode cL_law 1244 = .ok (.iload_n 3, 1) := by decide +kernel
theorem dL_law_1245 : decode cL_law 1245 = .ok (.iconst 1, 1) := by decide +kernel
theorem dL_law_1246 : decode cL_law 1246 = .ok (.iadd, 1) := by decide +kernel
theorem dL_law_1247 : decode cL_law 1247 = .ok (.iaload, 1) := by decide +kernel
theorem dL_law_1248 : decode cL_law 1248 = .ok (.invokevirtual 165, 3) := by decide +kernel
theorem dL_law_1251 : decode cL_law 1251 = .ok (.if_icmp .eq 51, 3) := by decide +kernel
theorem dL_law_1254 : decode cL_law 1254 = .ok (.iconst 0, 1) := by decide +kernel
theorem dL_law_1255 : decode cL_law 1255 = .ok (.ireturn, 1) := by decide +kernel
theorem dL_law_1256 : decode cL_law 1256 = .ok (.aload_n 1, 1) := by decide +kernel
theorem dL_law_1257 : decode cL_law 1257 = .ok (.aload_n 0, 1) := by decide +kernel
theorem dL_law_1258 : decode cL_law 1258 = .ok (.iload_n 3, 1) := by decide +kernel
theorem dL_law_1259 : decode cL_law 1259 = .ok (.iconst 1, 1) := by decide +kernel
theorem dL_law_1260 : decode cL_law 1260 = .ok (.iadd, 1) := by decide +kernel
theorem dL_law_1261 : decode cL_law 1261 = .ok (.iaload, 1) := by decide +kernel
theorem dL_law_1262 : decode cL_law 1262 = .ok (.invokevirtual 166, 3) := by decide +kernel
theorem dL_law_1265 : decode cL_law 1265 = .ok (.aload_n 2, 1) := by decide +kernel
theorem dL_law_1266 : decode cL_law 1266 = .ok (.aload_n 0, 1) := by decide +kernel
theorem dL_law_1267 : decode cL_law 1267 = .ok (.iload_n 3, 1) := by decide +kernel
theorem dL_law_1268 : decode cL_law 1268 = .ok (.iconst 1, 1) := by decide +kernel
theorem dL_law_1269 : decode cL_law 1269 = .ok (.iadd, 1) := by decide +kernel
theorem dL_law_1270 : decode cL_law 1270 = .ok (.iaload, 1) := by decide +kernel
theorem dL_law_1271 : decode cL_law 1271 = .ok (.invokevirtual 169, 3) := by decide +kernel
theorem dL_law_1274 : decode cL_law 1274 = .ok (.if_icmp .eq 28, 3) := by decide +kernel
theorem dL_law_1277 : decode cL_law 1277 = .ok (.iconst 0, 1) := by decide +kernel
theorem dL_law_1278 : decode cL_law 1278 = .ok (.ireturn, 1) := by decide +kernel
theorem dL_law_1279 : decode cL_law 1279 = .ok (.aload_n 1, 1) := by decide +kernel
theorem dL_law_1280 : decode cL_law 1280 = .ok (.aload_n 0, 1) := by decide +kernel
theorem dL_law_1281 : decode cL_law 1281 = .ok (.iload_n 3, 1) := by decide +kernel
theorem dL_law_1282 : decode cL_law 1282 = .ok (.iconst 1, 1) := by decide +kernel
theorem dL_law_1283 : decode cL_law 1283 = .ok (.iadd, 1) := by decide +kernel
theorem dL_law_1284 : decode cL_law 1284 = .ok (.iaload, 1) := by decide +kernel
theorem dL_law_1285 : decode cL_law 1285 = .ok (.invokevirtual 170, 3) := by decide +kernel
theorem dL_law_1288 : decode cL_law 1288 = .ok (.aload_n 2, 1) := by decide +kernel
theorem dL_law_1289 : decode cL_law 1289 = .ok (.aload_n 0, 1) := by decide +kernel
theorem dL_law_1290 : decode cL_law 1290 = .ok (.iload_n 3, 1) := by decide +kernel
theorem dL_law_1291 : decode cL_law 1291 = .ok (.iconst 1, 1) := by decide +kernel
theorem dL_law_1292 : decode cL_law 1292 = .ok (.iadd, 1) := by decide +kernel
theorem dL_law_1293 : decode cL_law 1293 = .ok (.iaload, 1) := by decide +kernel
theorem dL_law_1294 : decode cL_law 1294 = .ok (.invokevirtual 173, 3) := by decide +kernel
theorem dL_law_1297 : decode cL_law 1297 = .ok (.if_icmp .eq 5, 3) := by decide +kernel
theorem dL_law_1300 : decode cL_law 1300 = .ok (.iconst 0, 1) := by decide +kernel
theorem dL_law_1301 : decode cL_law 1301 = .ok (.ireturn, 1) := by decide +kernel
theorem dL_law_1302 : decode cL_law 1302 = .ok (.iinc 3 6, 3) := by decide +kernel
theorem dL_law_1305 : decode cL_law 1305 = .ok (.goto (-1287), 3) := by decide +kernel
theorem dL_law_1308 : decode cL_law 1308 = .ok (.iconst 1, 1) := by decide +kernel
theorem dL_law_1309 : decode cL_law 1309 = .ok (.ireturn, 1) := by decide +kernel
