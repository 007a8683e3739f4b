theorem dX11_init_0 : decode cX11_init 0 = .ok (.aload_n 0, 1) := by decide +kernel
theorem dX11_init_1 : decode cX11_init 1 = .ok (.invokespecial 3, 3) := by decide +kernel
theorem dX11_init_4 : decode cX11_init 4 = .ok (.aload_n 0, 1) := by decide +kernel
theorem dX11_init_5 : decode cX11_init 5 = .ok (.new 9, 3) := by decide +kernel
theorem dX11_init_8 : decode cX11_init 8 = .ok (.dup, 1) := by decide +kernel
theorem dX11_init_9 : decode cX11_init 9 = .ok (.invokespecial 11, 3) := by decide +kernel
theorem dX11_init_12 : decode cX11_init 12 = .ok (.putfield 12, 3) := by decide +kernel
theorem dX11_init_15 : decode cX11_init 15 = .ok (.aload_n 0, 1) := by decide +kernel
theorem dX11_init_16 : decode cX11_init 16 = .ok (.iconst 2, 1) := by decide +kernel
theorem dX11_init_17 : decode cX11_init 17 = .ok (.anewarray 9, 3) := by decide +kernel
theorem dX11_init_20 : decode cX11_init 20 = .ok (.putfield 16, 3) := by decide +kernel
theorem dX11_init_23 : decode cX11_init 23 = .ok (.aload_n 0, 1) := by decide +kernel
theorem dX11_init_24 : decode cX11_init 24 = .ok (.new 20, 3) := by decide +kernel
theorem dX11_init_27 : decode cX11_init 27 = .ok (.dup, 1) := by decide +kernel
theorem dX11_init_28 : decode cX11_init 28 = .ok (.invokespecial 22, 3) := by decide +kernel
theorem dX11_init_31 : decode cX11_init 31 = .ok (.putfield 23, 3) := by decide +kernel
theorem dX11_init_34 : decode cX11_init 34 = .ok (.aload_n 0, 1) := by decide +kernel
theorem dX11_init_35 : decode cX11_init 35 = .ok (.new 27, 3) := by decide +kernel
theorem dX11_init_38 : decode cX11_init 38 = .ok (.dup, 1) := by decide +kernel
theorem dX11_init_39 : decode cX11_init 39 = .ok (.aload_n 0, 1) := by decide +kernel
theorem dX11_init_40 : decode cX11_init 40 = .ok (.getfield 12, 3) := by decide +kernel
theorem dX11_init_43 : decode cX11_init 43 = .ok (.invokespecial 29, 3) := by decide +kernel
theorem dX11_init_46 : decode cX11_init 46 = .ok (.putfield 32, 3) := by decide +kernel
theorem dX11_init_49 : decode cX11_init 49 = .ok (.aload_n 0, 1) := by decide +kernel
theorem dX11_init_50 : decode cX11_init 50 = .ok (.new 36, 3) := by decide +kernel
theorem dX11_init_53 : decode cX11_init 53 = .ok (.dup, 1) := by decide +kernel
theorem dX11_init_54 : decode cX11_init 54 = .ok (.aload_n 0, 1) := by decide +kernel
theorem dX11_init_55 : decode cX11_init 55 = .ok (.getfield 12, 3) := by decide +kernel
theorem dX11_init_58 : decode cX11_init 58 = .ok (.aload_n 0, 1) := by decide +kernel
theorem dX11_init_59 : decode cX11_init 59 = .ok (.getfield 32, 3) := by decide +kernel
theorem dX11_init_62 : decode cX11_init 62 = .ok (.invokespecial 38, 3) := by decide +kernel
theorem dX11_init_65 : decode cX11_init 65 = .ok (.putfield 41, 3) := by decide +kernel
theorem dX11_init_68 : decode cX11_init 68 = .ok (.aload_n 0, 1) := by decide +kernel
theorem dX11_init_69 : decode cX11_init 69 = .ok (.new 45, 3) := by decide +kernel
theorem dX11_init_72 : decode cX11_init 72 = .ok (.dup, 1) := by decide +kernel
theorem dX11_init_73 : decode cX11_init 73 = .ok (.aload_n 0, 1) := by decide +kernel
theorem dX11_init_74 : decode cX11_init 74 = .ok (.getfield 12, 3) := by decide +kernel
theorem dX11_init_77 : decode cX11_init 77 = .ok (.aload_n 0, 1) := by decide +kernel
theorem dX11_init_78 : decode cX11_init 78 = .ok (.getfield 32, 3) := by decide +kernel
theorem dX11_init_81 : decode cX11_init 81 = .ok (.invokespecial 47, 3) := by decide +kernel
theorem dX11_init_84 : decode cX11_init 84 = .ok (.putfield 48, 3) := by decide +kernel
theorem dX11_init_87 : decode cX11_init 87 = .ok (.aload_n 0, 1) := by decide +kernel
theorem dX11_init_88 : decode cX11_init 88 = .ok (.new 52, 3) := by decide +kernel
theorem dX11_init_91 : decode cX11_init 91 = .ok (.dup, 1) := by decide +kernel
theorem dX11_init_92 : decode cX11_init 92 = .ok (.aload_n 0, 1) := by decide +kernel
theorem dX11_init_93 : decode cX11_init 93 = .ok (.getfield 12, 3) := by decide +kernel
theorem dX11_init_96 : decode cX11_init 96 = .ok (.aload_n 0, 1) := by decide +kernel
theorem dX11_init_97 : decode cX11_init 97 = .ok (.getfield 32, 3) := by decide +kernel
theorem dX11_init_100 : decode cX11_init 100 = .ok (.invokespecial 54, 3) := by decide +kernel
theorem dX11_init_103 : decode cX11_init 103 = .ok (.putfield 55, 3) := by decide +kernel
theorem dX11_init_106 : decode cX11_init 106 = .ok (.aload_n 0, 1) := by decide +kernel
theorem dX11_init_107 : decode cX11_init 107 = .ok (.new 59, 3) := by decide +kernel
theorem dX11_init_110 : decode cX11_init 110 = .ok (.dup, 1) := by decide +kernel
theorem dX11_init_111 : decode cX11_init 111 = .ok (.aload_n 0, 1) := by decide +kernel
theorem dX11_init_112 : decode cX11_init 112 = .ok (.getfield 12, 3) := by decide +kernel
theorem dX11_init_115 : decode cX11_init 115 = .ok (.aload_n 0, 1) := by decide +kernel
theorem dX11_init_116 : decode cX11_init 116 = .ok (.getfield 32, 3) := by decide +kernel
theorem dX11_init_119 : decode cX11_init 119 = .ok (.invokespecial 61, 3) := by decide +kernel
theorem dX11_init_122 : decode cX11_init 122 = .ok (.putfield 62, 3) := by decide +kernel
theorem dX11_init_125 : decode cX11_init 125 = .ok (.aload_n 0, 1) := by decide +kernel
theorem dX11_init_126 : decode cX11_init 126 = .ok (.bipush 12, 2) := by decide +kernel
theorem dX11_init_128 : decode cX11_init 128 = .ok (.newarray .int, 2) := by decide +kernel
theorem dX11_init_130 : decode cX11_init 130 = .ok (.putfield 66, 3) := by decide +kernel
theorem dX11_init_133 : decode cX11_init 133 = .ok (.return_, 1) := by decide +kernel
theorem dX11_cellars_0 : decode cX11_cellars 0 = .ok (.iload_n 1, 1) := by decide +kernel
theorem dX11_cellars_1 : decode cX11_cellars 1 = .ok (.iconst 1, 1) := by decide +kernel
theorem dX11_cellars_2 : decode cX11_cellars 2 = .ok (.bipush 6, 2) := by decide +kernel
theorem dX11_cellars_4 : decode cX11_cellars 4 = .ok (.invokestatic 70, 3) := by decide +kernel
theorem dX11_cellars_7 : decode cX11_cellars 7 = .ok (.ifCond .ne 6, 3) := by decide +kernel
theorem dX11_cellars_10 : decode cX11_cellars 10 = .ok (.bipush (-2), 2) := by decide +kernel
theorem dX11_cellars_12 : decode cX11_cellars 12 = .ok (.ireturn, 1) := by decide +kernel
theorem dX11_cellars_13 : decode cX11_cellars 13 = .ok (.aload_n 0, 1) := by decide +kernel
theorem dX11_cellars_14 : decode cX11_cellars 14 = .ok (.getfield 12, 3) := by decide +kernel
theorem dX11_cellars_17 : decode cX11_cellars 17 = .ok (.getfield 74, 3) := by decide +kernel
theorem dX11_cellars_20 : decode cX11_cellars 20 = .ok (.getfield 78, 3) := by decide +kernel
theorem dX11_cellars_23 : decode cX11_cellars 23 = .ok (.istore_n 2, 1) := by decide +kernel
theorem dX11_cellars_24 : decode cX11_cellars 24 = .ok (.aload_n 0, 1) := by decide +kernel
theorem dX11_cellars_25 : decode cX11_cellars 25 = .ok (.getfield 12, 3) := by decide +kernel
theorem dX11_cellars_28 : decode cX11_cellars 28 = .ok (.getfield 74, 3) := by decide +kernel
theorem dX11_cellars_31 : decode cX11_cellars 31 = .ok (.iload_n 1, 1) := by decide +kernel
theorem dX11_cellars_32 : decode cX11_cellars 32 = .ok (.invokevirtual 84, 3) := by decide +kernel
theorem dX11_cellars_35 : decode cX11_cellars 35 = .ok (.aload_n 0, 1) := by decide +kernel
theorem dX11_cellars_36 : decode cX11_cellars 36 = .ok (.getfield 12, 3) := by decide +kernel
theorem dX11_cellars_39 : decode cX11_cellars 39 = .ok (.getfield 88, 3) := by decide +kernel
theorem dX11_cellars_42 : decode cX11_cellars 42 = .ok (.iconst 0, 1) := by decide +kernel
theorem dX11_cellars_43 : decode cX11_cellars 43 = .ok (.putfield 92, 3) := by decide +kernel
theorem dX11_cellars_46 : decode cX11_cellars 46 = .ok (.aload_n 0, 1) := by decide +kernel
theorem dX11_cellars_47 : decode cX11_cellars 47 = .ok (.getfield 12, 3) := by decide +kernel
theorem dX11_cellars_50 : decode cX11_cellars 50 = .ok (.getfield 97, 3) := by decide +kernel
theorem dX11_cellars_53 : decode cX11_cellars 53 = .ok (.iconst 0, 1) := by decide +kernel
theorem dX11_cellars_54 : decode cX11_cellars 54 = .ok (.putfield 101, 3) := by decide +kernel
theorem dX11_cellars_57 : decode cX11_cellars 57 = .ok (.iload_n 2, 1) := by decide +kernel
theorem dX11_cellars_58 : decode cX11_cellars 58 = .ok (.ireturn, 1) := by decide +kernel
theorem dX11_cellar_0 : decode cX11_cellar 0 = .ok (.aload_n 0, 1) := by decide +kernel
theorem dX11_cellar_1 : decode cX11_cellar 1 = .ok (.getfield 12, 3) := by decide +kernel
theorem dX11_cellar_4 : decode cX11_cellar 4 = .ok (.getfield 74, 3) := by decide +kernel
theorem dX11_cellar_7 : decode cX11_cellar 7 = .ok (.iload_n 1, 1) := by decide +kernel
theorem dX11_cellar_8 : decode cX11_cellar 8 = .ok (.invokevirtual 104, 3) := by decide +kernel
theorem dX11_cellar_11 : decode cX11_cellar 11 = .ok (.ifCond .ne 5, 3) := by decide +kernel
theorem dX11_cellar_14 : decode cX11_cellar 14 = .ok (.iconst (-1), 1) := by decide +kernel
theorem dX11_cellar_15 : decode cX11_cellar 15 = .ok (.ireturn, 1) := by decide +kernel
theorem dX11_cellar_16 : decode cX11_cellar 16 = .ok (.iload_n 2, 1) := by decide +kernel
theorem dX11_cellar_17 : decode cX11_cellar 17 = .ok (.ifCond .ne 10, 3) := by decide +kernel
theorem dX11_cellar_20 : decode cX11_cellar 20 = .ok (.aload_n 0, 1) := by decide +kernel
theorem dX11_cellar_21 : decode cX11_cellar 21 = .ok (.iload_n 1, 1) := by decide +kernel
theorem dX11_cellar_22 : decode cX11_cellar 22 = .ok (.iload_n 3, 1) := by decide +kernel
theorem dX11_cellar_23 : decode cX11_cellar 23 = .ok (.invokevirtual 108, 3) := by decide +kernel
theorem dX11_cellar_26 : decode cX11_cellar 26 = .ok (.ireturn, 1) := by decide +kernel
theorem dX11_cellar_27 : decode cX11_cellar 27 = .ok (.iload_n 2, 1) := by decide +kernel
theorem dX11_cellar_28 : decode cX11_cellar 28 = .ok (.iconst 1, 1) := by decide +kernel
theorem dX11_cellar_29 : decode cX11_cellar 29 = .ok (.if_icmp .ne 12, 3) := by decide +kernel
theorem dX11_cellar_32 : decode cX11_cellar 32 = .ok (.aload_n 0, 1) := by decide +kernel
theorem dX11_cellar_33 : decode cX11_cellar 33 = .ok (.iload_n 1, 1) := by decide +kernel
theorem dX11_cellar_34 : decode cX11_cellar 34 = .ok (.iload_n 3, 1) := by decide +kernel
theorem dX11_cellar_35 : decode cX11_cellar 35 = .ok (.invokevirtual 112, 3) := by decide +kernel
theorem dX11_cellar_38 : decode cX11_cellar 38 = .ok (.goto 5, 3) := by decide +kernel
theorem dX11_cellar_41 : decode cX11_cellar 41 = .ok (.bipush (-2), 2) := by decide +kernel
theorem dX11_cellar_43 : decode cX11_cellar 43 = .ok (.ireturn, 1) := by decide +kernel
theorem dX11_changeDepth_0 : decode cX11_changeDepth 0 = .ok (.iload_n 2, 1) := by decide +kernel
theorem dX11_changeDepth_1 : decode cX11_changeDepth 1 = .ok (.iconst 0, 1) := by decide +kernel
theorem dX11_changeDepth_2 : decode cX11_changeDepth 2 = .ok (.bipush 8, 2) := by decide +kernel
theorem dX11_changeDepth_4 : decode cX11_changeDepth 4 = .ok (.invokestatic 70, 3) := by decide +kernel
theorem dX11_changeDepth_7 : decode cX11_changeDepth 7 = .ok (.ifCond .ne 6, 3) := by decide +kernel
theorem dX11_changeDepth_10 : decode cX11_changeDepth 10 = .ok (.bipush (-2), 2) := by decide +kernel
theorem dX11_changeDepth_12 : decode cX11_changeDepth 12 = .ok (.ireturn, 1) := by decide +kernel
theorem dX11_changeDepth_13 : decode cX11_changeDepth 13 = .ok (.aload_n 0, 1) := by decide +kernel
theorem dX11_changeDepth_14 : decode cX11_changeDepth 14 = .ok (.getfield 12, 3) := by decide +kernel
theorem dX11_changeDepth_17 : decode cX11_changeDepth 17 = .ok (.getfield 74, 3) := by decide +kernel
theorem dX11_changeDepth_20 : decode cX11_changeDepth 20 = .ok (.getfield 115, 3) := by decide +kernel
theorem dX11_changeDepth_23 : decode cX11_changeDepth 23 = .ok (.iload_n 1, 1) := by decide +kernel
theorem dX11_changeDepth_24 : decode cX11_changeDepth 24 = .ok (.iaload, 1) := by decide +kernel
theorem dX11_changeDepth_25 : decode cX11_changeDepth 25 = .ok (.istore_n 3, 1) := by decide +kernel
theorem dX11_changeDepth_26 : decode cX11_changeDepth 26 = .ok (.aload_n 0, 1) := by decide +kernel
theorem dX11_changeDepth_27 : decode cX11_changeDepth 27 = .ok (.getfield 12, 3) := by decide +kernel
theorem dX11_changeDepth_30 : decode cX11_changeDepth 30 = .ok (.getfield 74, 3) := by decide +kernel
theorem dX11_changeDepth_33 : decode cX11_changeDepth 33 = .ok (.getfield 115, 3) := by decide +kernel
theorem dX11_changeDepth_36 : decode cX11_changeDepth 36 = .ok (.iload_n 1, 1) := by decide +kernel
theorem dX11_changeDepth_37 : decode cX11_changeDepth 37 = .ok (.iload_n 2, 1) := by decide +kernel
theorem dX11_changeDepth_38 : decode cX11_changeDepth 38 = .ok (.iastore, 1) := by decide +kernel
theorem dX11_changeDepth_39 : decode cX11_changeDepth 39 = .ok (.iload_n 3, 1) := by decide +kernel
theorem dX11_changeDepth_40 : decode cX11_changeDepth 40 = .ok (.ireturn, 1) := by decide +kernel
theorem dX11_changeRoom_0 : decode cX11_changeRoom 0 = .ok (.iload_n 2, 1) := by decide +kernel
theorem dX11_changeRoom_1 : decode cX11_changeRoom 1 = .ok (.iconst 1, 1) := by decide +kernel
theorem dX11_changeRoom_2 : decode cX11_changeRoom 2 = .ok (.bipush 8, 2) := by decide +kernel
theorem dX11_changeRoom_4 : decode cX11_changeRoom 4 = .ok (.invokestatic 70, 3) := by decide +kernel
theorem dX11_changeRoom_7 : decode cX11_changeRoom 7 = .ok (.ifCond .ne 6, 3) := by decide +kernel
theorem dX11_changeRoom_10 : decode cX11_changeRoom 10 = .ok (.bipush (-2), 2) := by decide +kernel
theorem dX11_changeRoom_12 : decode cX11_changeRoom 12 = .ok (.ireturn, 1) := by decide +kernel
theorem dX11_changeRoom_13 : decode cX11_changeRoom 13 = .ok (.aload_n 0, 1) := by decide +kernel
theorem dX11_changeRoom_14 : decode cX11_changeRoom 14 = .ok (.getfield 12, 3) := by decide +kernel
theorem dX11_changeRoom_17 : decode cX11_changeRoom 17 = .ok (.getfield 88, 3) := by decide +kernel
theorem dX11_changeRoom_20 : decode cX11_changeRoom 20 = .ok (.iload_n 1, 1) := by decide +kernel
theorem dX11_changeRoom_21 : decode cX11_changeRoom 21 = .ok (.iconst 0, 1) := by decide +kernel
theorem dX11_changeRoom_22 : decode cX11_changeRoom 22 = .ok (.invokevirtual 118, 3) := by decide +kernel
theorem dX11_changeRoom_25 : decode cX11_changeRoom 25 = .ok (.iload_n 2, 1) := by decide +kernel
theorem dX11_changeRoom_26 : decode cX11_changeRoom 26 = .ok (.if_icmp .le 6, 3) := by decide +kernel
theorem dX11_changeRoom_29 : decode cX11_changeRoom 29 = .ok (.bipush (-3), 2) := by decide +kernel
theorem dX11_changeRoom_31 : decode cX11_changeRoom 31 = .ok (.ireturn, 1) := by decide +kernel
theorem dX11_changeRoom_32 : decode cX11_changeRoom 32 = .ok (.aload_n 0, 1) := by decide +kernel
theorem dX11_changeRoom_33 : decode cX11_changeRoom 33 = .ok (.getfield 12, 3) := by decide +kernel
theorem dX11_changeRoom_36 : decode cX11_changeRoom 36 = .ok (.getfield 74, 3) := by decide +kernel
theorem dX11_changeRoom_39 : decode cX11_changeRoom 39 = .ok (.getfield 121, 3) := by decide +kernel
theorem dX11_changeRoom_42 : decode cX11_changeRoom 42 = .ok (.iload_n 1, 1) := by decide +kernel
theorem dX11_changeRoom_43 : decode cX11_changeRoom 43 = .ok (.iaload, 1) := by decide +kernel
theorem dX11_changeRoom_44 : decode cX11_changeRoom 44 = .ok (.istore_n 3, 1) := by decide +kernel
theorem dX11_changeRoom_45 : decode cX11_changeRoom 45 = .ok (.aload_n 0, 1) := by decide +kernel
theorem dX11_changeRoom_46 : decode cX11_changeRoom 46 = .ok (.getfield 12, 3) := by decide +kernel
theorem dX11_changeRoom_49 : decode cX11_changeRoom 49 = .ok (.getfield 74, 3) := by decide +kernel
theorem dX11_changeRoom_52 : decode cX11_changeRoom 52 = .ok (.getfield 121, 3) := by decide +kernel
theorem dX11_changeRoom_55 : decode cX11_changeRoom 55 = .ok (.iload_n 1, 1) := by decide +kernel
theorem dX11_changeRoom_56 : decode cX11_changeRoom 56 = .ok (.iload_n 2, 1) := by decide +kernel
theorem dX11_changeRoom_57 : decode cX11_changeRoom 57 = .ok (.iastore, 1) := by decide +kernel
theorem dX11_changeRoom_58 : decode cX11_changeRoom 58 = .ok (.iload_n 3, 1) := by decide +kernel
theorem dX11_changeRoom_59 : decode cX11_changeRoom 59 = .ok (.ireturn, 1) := by decide +kernel
theorem dX11_wall_0 : decode cX11_wall 0 = .ok (.aload_n 0, 1) := by decide +kernel
theorem dX11_wall_1 : decode cX11_wall 1 = .ok (.getfield 12, 3) := by decide +kernel
theorem dX11_wall_4 : decode cX11_wall 4 = .ok (.getfield 74, 3) := by decide +kernel
theorem dX11_wall_7 : decode cX11_wall 7 = .ok (.iload_n 1, 1) := by decide +kernel
theorem dX11_wall_8 : decode cX11_wall 8 = .ok (.invokevirtual 104, 3) := by decide +kernel
theorem dX11_wall_11 : decode cX11_wall 11 = .ok (.ifCond .ne 5, 3) := by decide +kernel
theorem dX11_wall_14 : decode cX11_wall 14 = .ok (.iconst (-1), 1) := by decide +kernel
theorem dX11_wall_15 : decode cX11_wall 15 = .ok (.ireturn, 1) := by decide +kernel
theorem dX11_wall_16 : decode cX11_wall 16 = .ok (.iconst 1, 1) := by decide +kernel
theorem dX11_wall_17 : decode cX11_wall 17 = .ok (.iload_n 1, 1) := by decide +kernel
theorem dX11_wall_18 : decode cX11_wall 18 = .ok (.ishl, 1) := by decide +kernel
theorem dX11_wall_19 : decode cX11_wall 19 = .ok (.istore_n 3, 1) := by decide +kernel
theorem dX11_wall_20 : decode cX11_wall 20 = .ok (.aload_n 0, 1) := by decide +kernel
theorem dX11_wall_21 : decode cX11_wall 21 = .ok (.getfield 12, 3) := by decide +kernel
theorem dX11_wall_24 : decode cX11_wall 24 = .ok (.getfield 74, 3) := by decide +kernel
theorem dX11_wall_27 : decode cX11_wall 27 = .ok (.iload_n 2, 1) := by decide +kernel
theorem dX11_wall_28 : decode cX11_wall 28 = .ok (.ifCond .eq 18, 3) := by decide +kernel
theorem dX11_wall_31 : decode cX11_wall 31 = .ok (.aload_n 0, 1) := by decide +kernel
theorem dX11_wall_32 : decode cX11_wall 32 = .ok (.getfield 12, 3) := by decide +kernel
theorem dX11_wall_35 : decode cX11_wall 35 = .ok (.getfield 74, 3) := by decide +kernel
theorem dX11_wall_38 : decode cX11_wall 38 = .ok (.getfield 124, 3) := by decide +kernel
theorem dX11_wall_41 : decode cX11_wall 41 = .ok (.iload_n 3, 1) := by decide +kernel
theorem dX11_wall_42 : decode cX11_wall 42 = .ok (.ior, 1) := by decide +kernel
theorem dX11_wall_43 : decode cX11_wall 43 = .ok (.goto 17, 3) := by decide +kernel
theorem dX11_wall_46 : decode cX11_wall 46 = .ok (.aload_n 0, 1) := by decide +kernel
theorem dX11_wall_47 : decode cX11_wall 47 = .ok (.getfield 12, 3) := by decide +kernel
theorem dX11_wall_50 : decode cX11_wall 50 = .ok (.getfield 74, 3) := by decide +kernel
theorem dX11_wall_53 : decode cX11_wall 53 = .ok (.getfield 124, 3) := by decide +kernel
theorem dX11_wall_56 : decode cX11_wall 56 = .ok (.iload_n 3, 1) := by decide +kernel
theorem dX11_wall_57 : decode cX11_wall 57 = .ok (.iconst (-1), 1) := by decide +kernel
theorem dX11_wall_58 : decode cX11_wall 58 = .ok (.ixor, 1) := by decide +kernel
theorem dX11_wall_59 : decode cX11_wall 59 = .ok (.iand, 1) := by decide +kernel
theorem dX11_wall_60 : decode cX11_wall 60 = .ok (.putfield 124, 3) := by decide +kernel
theorem dX11_wall_63 : decode cX11_wall 63 = .ok (.iconst 1, 1) := by decide +kernel
theorem dX11_wall_64 : decode cX11_wall 64 = .ok (.ireturn, 1) := by decide +kernel
theorem dX11_barrel_0 : decode cX11_barrel 0 = .ok (.iload_n 1, 1) := by decide +kernel
theorem dX11_barrel_1 : decode cX11_barrel 1 = .ok (.iconst 0, 1) := by decide +kernel
theorem dX11_barrel_2 : decode cX11_barrel 2 = .ok (.bipush 7, 2) := by decide +kernel
theorem dX11_barrel_4 : decode cX11_barrel 4 = .ok (.invokestatic 70, 3) := by decide +kernel
theorem dX11_barrel_7 : decode cX11_barrel 7 = .ok (.ifCond .eq 17, 3) := by decide +kernel
theorem dX11_barrel_10 : decode cX11_barrel 10 = .ok (.aload_n 0, 1) := by decide +kernel
theorem dX11_barrel_11 : decode cX11_barrel 11 = .ok (.getfield 12, 3) := by decide +kernel
theorem dX11_barrel_14 : decode cX11_barrel 14 = .ok (.getfield 74, 3) := by decide +kernel
theorem dX11_barrel_17 : decode cX11_barrel 17 = .ok (.iload_n 2, 1) := by decide +kernel
theorem dX11_barrel_18 : decode cX11_barrel 18 = .ok (.invokevirtual 104, 3) := by decide +kernel
theorem dX11_barrel_21 : decode cX11_barrel 21 = .ok (.ifCond .ne 5, 3) := by decide +kernel
theorem dX11_barrel_24 : decode cX11_barrel 24 = .ok (.iconst (-1), 1) := by decide +kernel
theorem dX11_barrel_25 : decode cX11_barrel 25 = .ok (.ireturn, 1) := by decide +kernel
theorem dX11_barrel_26 : decode cX11_barrel 26 = .ok (.iload_n 3, 1) := by decide +kernel
theorem dX11_barrel_27 : decode cX11_barrel 27 = .ok (.iconst 1, 1) := by decide +kernel
theorem dX11_barrel_28 : decode cX11_barrel 28 = .ok (.bipush 9, 2) := by decide +kernel
theorem dX11_barrel_30 : decode cX11_barrel 30 = .ok (.invokestatic 70, 3) := by decide +kernel
theorem dX11_barrel_33 : decode cX11_barrel 33 = .ok (.ifCond .eq 24, 3) := by decide +kernel
theorem dX11_barrel_36 : decode cX11_barrel 36 = .ok (.iload 4, 2) := by decide +kernel
theorem dX11_barrel_38 : decode cX11_barrel 38 = .ok (.iconst 0, 1) := by decide +kernel
theorem dX11_barrel_39 : decode cX11_barrel 39 = .ok (.bipush 9, 2) := by decide +kernel
theorem dX11_barrel_41 : decode cX11_barrel 41 = .ok (.invokestatic 70, 3) := by decide +kernel
theorem dX11_barrel_44 : decode cX11_barrel 44 = .ok (.ifCond .eq 13, 3) := by decide +kernel
theorem dX11_barrel_47 : decode cX11_barrel 47 = .ok (.iload 5, 2) := by decide +kernel
theorem dX11_barrel_49 : decode cX11_barrel 49 = .ok (.iconst 0, 1) := by decide +kernel
theorem dX11_barrel_50 : decode cX11_barrel 50 = .ok (.iconst 3, 1) := by decide +kernel
theorem dX11_barrel_51 : decode cX11_barrel 51 = .ok (.invokestatic 70, 3) := by decide +kernel
theorem dX11_barrel_54 : decode cX11_barrel 54 = .ok (.ifCond .ne 6, 3) := by decide +kernel
theorem dX11_barrel_57 : decode cX11_barrel 57 = .ok (.bipush (-2), 2) := by decide +kernel
theorem dX11_barrel_59 : decode cX11_barrel 59 = .ok (.ireturn, 1) := by decide +kernel
theorem dX11_barrel_60 : decode cX11_barrel 60 = .ok (.aload_n 0, 1) := by decide +kernel
theorem dX11_barrel_61 : decode cX11_barrel 61 = .ok (.getfield 12, 3) := by decide +kernel
theorem dX11_barrel_64 : decode cX11_barrel 64 = .ok (.getfield 88, 3) := by decide +kernel
theorem dX11_barrel_67 : decode cX11_barrel 67 = .ok (.iload_n 2, 1) := by decide +kernel
theorem dX11_barrel_68 : decode cX11_barrel 68 = .ok (.iconst 1, 1) := by decide +kernel
theorem dX11_barrel_69 : decode cX11_barrel 69 = .ok (.iload_n 1, 1) := by decide +kernel
theorem dX11_barrel_70 : decode cX11_barrel 70 = .ok (.ishl, 1) := by decide +kernel
theorem dX11_barrel_71 : decode cX11_barrel 71 = .ok (.invokevirtual 118, 3) := by decide +kernel
theorem dX11_barrel_74 : decode cX11_barrel 74 = .ok (.aload_n 0, 1) := by decide +kernel
theorem dX11_barrel_75 : decode cX11_barrel 75 = .ok (.getfield 12, 3) := by decide +kernel
theorem dX11_barrel_78 : decode cX11_barrel 78 = .ok (.getfield 74, 3) := by decide +kernel
theorem dX11_barrel_81 : decode cX11_barrel 81 = .ok (.getfield 121, 3) := by decide +kernel
theorem dX11_barrel_84 : decode cX11_barrel 84 = .ok (.iload_n 2, 1) := by decide +kernel
theorem dX11_barrel_85 : decode cX11_barrel 85 = .ok (.iaload, 1) := by decide +kernel
theorem dX11_barrel_86 : decode cX11_barrel 86 = .ok (.if_icmp .lt 6, 3) := by decide +kernel
theorem dX11_barrel_89 : decode cX11_barrel 89 = .ok (.bipush (-4), 2) := by decide +kernel
theorem dX11_barrel_91 : decode cX11_barrel 91 = .ok (.ireturn, 1) := by decide +kernel
theorem dX11_barrel_92 : decode cX11_barrel 92 = .ok (.aload_n 0, 1) := by decide +kernel
theorem dX11_barrel_93 : decode cX11_barrel 93 = .ok (.getfield 12, 3) := by decide +kernel
theorem dX11_barrel_96 : decode cX11_barrel 96 = .ok (.getfield 88, 3) := by decide +kernel
theorem dX11_barrel_99 : decode cX11_barrel 99 = .ok (.iload_n 1, 1) := by decide +kernel
theorem dX11_barrel_100 : decode cX11_barrel 100 = .ok (.iload_n 2, 1) := by decide +kernel
theorem dX11_barrel_101 : decode cX11_barrel 101 = .ok (.iload_n 3, 1) := by decide +kernel
theorem dX11_barrel_102 : decode cX11_barrel 102 = .ok (.iload 4, 2) := by decide +kernel
theorem dX11_barrel_104 : decode cX11_barrel 104 = .ok (.iload 5, 2) := by decide +kernel
theorem dX11_barrel_106 : decode cX11_barrel 106 = .ok (.invokevirtual 127, 3) := by decide +kernel
theorem dX11_barrel_109 : decode cX11_barrel 109 = .ok (.aload_n 0, 1) := by decide +kernel
theorem dX11_barrel_110 : decode cX11_barrel 110 = .ok (.getfield 12, 3) := by decide +kernel
theorem dX11_barrel_113 : decode cX11_barrel 113 = .ok (.getfield 88, 3) := by decide +kernel
theorem dX11_barrel_116 : decode cX11_barrel 116 = .ok (.getfield 92, 3) := by decide +kernel
theorem dX11_barrel_119 : decode cX11_barrel 119 = .ok (.invokestatic 131, 3) := by decide +kernel
theorem dX11_barrel_122 : decode cX11_barrel 122 = .ok (.ireturn, 1) := by decide +kernel
theorem dX11_drink_0 : decode cX11_drink 0 = .ok (.aload_n 0, 1) := by decide +kernel
theorem dX11_drink_1 : decode cX11_drink 1 = .ok (.getfield 12, 3) := by decide +kernel
theorem dX11_drink_4 : decode cX11_drink 4 = .ok (.getfield 88, 3) := by decide +kernel
theorem dX11_drink_7 : decode cX11_drink 7 = .ok (.iload_n 1, 1) := by decide +kernel
theorem dX11_drink_8 : decode cX11_drink 8 = .ok (.invokevirtual 137, 3) := by decide +kernel
theorem dX11_drink_11 : decode cX11_drink 11 = .ok (.ifCond .ne 5, 3) := by decide +kernel
theorem dX11_drink_14 : decode cX11_drink 14 = .ok (.iconst (-1), 1) := by decide +kernel
theorem dX11_drink_15 : decode cX11_drink 15 = .ok (.ireturn, 1) := by decide +kernel
theorem dX11_drink_16 : decode cX11_drink 16 = .ok (.aload_n 0, 1) := by decide +kernel
theorem dX11_drink_17 : decode cX11_drink 17 = .ok (.getfield 12, 3) := by decide +kernel
theorem dX11_drink_20 : decode cX11_drink 20 = .ok (.getfield 88, 3) := by decide +kernel
theorem dX11_drink_23 : decode cX11_drink 23 = .ok (.dup, 1) := by decide +kernel
theorem dX11_drink_24 : decode cX11_drink 24 = .ok (.getfield 92, 3) := by decide +kernel
theorem dX11_drink_27 : decode cX11_drink 27 = .ok (.iconst 1, 1) := by decide +kernel
theorem dX11_drink_28 : decode cX11_drink 28 = .ok (.iload_n 1, 1) := by decide +kernel
theorem dX11_drink_29 : decode cX11_drink 29 = .ok (.ishl, 1) := by decide +kernel
theorem dX11_drink_30 : decode cX11_drink 30 = .ok (.iconst (-1), 1) := by decide +kernel
theorem dX11_drink_31 : decode cX11_drink 31 = .ok (.ixor, 1) := by decide +kernel
theorem dX11_drink_32 : decode cX11_drink 32 = .ok (.iand, 1) := by decide +kernel
theorem dX11_drink_33 : decode cX11_drink 33 = .ok (.putfield 92, 3) := by decide +kernel
theorem dX11_drink_36 : decode cX11_drink 36 = .ok (.aload_n 0, 1) := by decide +kernel
theorem dX11_drink_37 : decode cX11_drink 37 = .ok (.getfield 12, 3) := by decide +kernel
theorem dX11_drink_40 : decode cX11_drink 40 = .ok (.getfield 88, 3) := by decide +kernel
theorem dX11_drink_43 : decode cX11_drink 43 = .ok (.getfield 92, 3) := by decide +kernel
theorem dX11_drink_46 : decode cX11_drink 46 = .ok (.invokestatic 131, 3) := by decide +kernel
theorem dX11_drink_49 : decode cX11_drink 49 = .ok (.ireturn, 1) := by decide +kernel
theorem dX11_set_0 : decode cX11_set 0 = .ok (.iload_n 1, 1) := by decide +kernel
theorem dX11_set_1 : decode cX11_set 1 = .ok (.iconst 0, 1) := by decide +kernel
theorem dX11_set_2 : decode cX11_set 2 = .ok (.aload_n 0, 1) := by decide +kernel
theorem dX11_set_3 : decode cX11_set 3 = .ok (.getfield 12, 3) := by decide +kernel
theorem dX11_set_6 : decode cX11_set 6 = .ok (.getfield 138, 3) := by decide +kernel
theorem dX11_set_9 : decode cX11_set 9 = .ok (.arraylength, 1) := by decide +kernel
theorem dX11_set_10 : decode cX11_set 10 = .ok (.iconst 1, 1) := by decide +kernel
theorem dX11_set_11 : decode cX11_set 11 = .ok (.isub, 1) := by decide +kernel
theorem dX11_set_12 : decode cX11_set 12 = .ok (.invokestatic 70, 3) := by decide +kernel
theorem dX11_set_15 : decode cX11_set 15 = .ok (.ifCond .ne 6, 3) := by decide +kernel
theorem dX11_set_18 : decode cX11_set 18 = .ok (.bipush (-2), 2) := by decide +kernel
theorem dX11_set_20 : decode cX11_set 20 = .ok (.ireturn, 1) := by decide +kernel
theorem dX11_set_21 : decode cX11_set 21 = .ok (.iload_n 2, 1) := by decide +kernel
theorem dX11_set_22 : decode cX11_set 22 = .ok (.getstatic 141, 3) := by decide +kernel
theorem dX11_set_25 : decode cX11_set 25 = .ok (.iload_n 1, 1) := by decide +kernel
theorem dX11_set_26 : decode cX11_set 26 = .ok (.iaload, 1) := by decide +kernel
theorem dX11_set_27 : decode cX11_set 27 = .ok (.getstatic 144, 3) := by decide +kernel
theorem dX11_set_30 : decode cX11_set 30 = .ok (.iload_n 1, 1) := by decide +kernel
theorem dX11_set_31 : decode cX11_set 31 = .ok (.iaload, 1) := by decide +kernel
theorem dX11_set_32 : decode cX11_set 32 = .ok (.invokestatic 70, 3) := by decide +kernel
theorem dX11_set_35 : decode cX11_set 35 = .ok (.ifCond .ne 6, 3) := by decide +kernel
theorem dX11_set_38 : decode cX11_set 38 = .ok (.bipush (-2), 2) := by decide +kernel
theorem dX11_set_40 : decode cX11_set 40 = .ok (.ireturn, 1) := by decide +kernel
theorem dX11_set_41 : decode cX11_set 41 = .ok (.aload_n 0, 1) := by decide +kernel
theorem dX11_set_42 : decode cX11_set 42 = .ok (.getfield 12, 3) := by decide +kernel
theorem dX11_set_45 : decode cX11_set 45 = .ok (.getfield 138, 3) := by decide +kernel
theorem dX11_set_48 : decode cX11_set 48 = .ok (.iload_n 1, 1) := by decide +kernel
theorem dX11_set_49 : decode cX11_set 49 = .ok (.iaload, 1) := by decide +kernel
theorem dX11_set_50 : decode cX11_set 50 = .ok (.istore_n 3, 1) := by decide +kernel
theorem dX11_set_51 : decode cX11_set 51 = .ok (.aload_n 0, 1) := by decide +kernel
theorem dX11_set_52 : decode cX11_set 52 = .ok (.getfield 12, 3) := by decide +kernel
theorem dX11_set_55 : decode cX11_set 55 = .ok (.getfield 138, 3) := by decide +kernel
theorem dX11_set_58 : decode cX11_set 58 = .ok (.iload_n 1, 1) := by decide +kernel
theorem dX11_set_59 : decode cX11_set 59 = .ok (.iload_n 2, 1) := by decide +kernel
theorem dX11_set_60 : decode cX11_set 60 = .ok (.iastore, 1) := by decide +kernel
theorem dX11_set_61 : decode cX11_set 61 = .ok (.iload_n 3, 1) := by decide +kernel
theorem dX11_set_62 : decode cX11_set 62 = .ok (.ireturn, 1) := by decide +kernel
theorem dX11_say_0 : decode cX11_say 0 = .ok (.iload_n 1, 1) := by decide +kernel
theorem dX11_say_1 : decode cX11_say 1 = .ok (.bipush 33, 2) := by decide +kernel
theorem dX11_say_3 : decode cX11_say 3 = .ok (.bipush 126, 2) := by decide +kernel
theorem dX11_say_5 : decode cX11_say 5 = .ok (.invokestatic 70, 3) := by decide +kernel
theorem dX11_say_8 : decode cX11_say 8 = .ok (.ifCond .ne 6, 3) := by decide +kernel
theorem dX11_say_11 : decode cX11_say 11 = .ok (.bipush (-2), 2) := by decide +kernel
theorem dX11_say_13 : decode cX11_say 13 = .ok (.ireturn, 1) := by decide +kernel
theorem dX11_say_14 : decode cX11_say 14 = .ok (.aload_n 0, 1) := by decide +kernel
theorem dX11_say_15 : decode cX11_say 15 = .ok (.getfield 23, 3) := by decide +kernel
theorem dX11_say_18 : decode cX11_say 18 = .ok (.getfield 147, 3) := by decide +kernel
theorem dX11_say_21 : decode cX11_say 21 = .ok (.bipush 60, 2) := by decide +kernel
theorem dX11_say_23 : decode cX11_say 23 = .ok (.if_icmp .lt 6, 3) := by decide +kernel
theorem dX11_say_26 : decode cX11_say 26 = .ok (.bipush (-4), 2) := by decide +kernel
theorem dX11_say_28 : decode cX11_say 28 = .ok (.ireturn, 1) := by decide +kernel
theorem dX11_say_29 : decode cX11_say 29 = .ok (.aload_n 0, 1) := by decide +kernel
theorem dX11_say_30 : decode cX11_say 30 = .ok (.getfield 23, 3) := by decide +kernel
theorem dX11_say_33 : decode cX11_say 33 = .ok (.getfield 148, 3) := by decide +kernel
theorem dX11_say_36 : decode cX11_say 36 = .ok (.aload_n 0, 1) := by decide +kernel
theorem dX11_say_37 : decode cX11_say 37 = .ok (.getfield 23, 3) := by decide +kernel
theorem dX11_say_40 : decode cX11_say 40 = .ok (.getfield 147, 3) := by decide +kernel
theorem dX11_say_43 : decode cX11_say 43 = .ok (.iload_n 1, 1) := by decide +kernel
theorem dX11_say_44 : decode cX11_say 44 = .ok (.iastore, 1) := by decide +kernel
theorem dX11_say_45 : decode cX11_say 45 = .ok (.aload_n 0, 1) := by decide +kernel
theorem dX11_say_46 : decode cX11_say 46 = .ok (.getfield 23, 3) := by decide +kernel
theorem dX11_say_49 : decode cX11_say 49 = .ok (.dup, 1) := by decide +kernel
theorem dX11_say_50 : decode cX11_say 50 = .ok (.getfield 147, 3) := by decide +kernel
theorem dX11_say_53 : decode cX11_say 53 = .ok (.iconst 1, 1) := by decide +kernel
theorem dX11_say_54 : decode cX11_say 54 = .ok (.iadd, 1) := by decide +kernel
theorem dX11_say_55 : decode cX11_say 55 = .ok (.putfield 147, 3) := by decide +kernel
theorem dX11_say_58 : decode cX11_say 58 = .ok (.aload_n 0, 1) := by decide +kernel
theorem dX11_say_59 : decode cX11_say 59 = .ok (.getfield 23, 3) := by decide +kernel
theorem dX11_say_62 : decode cX11_say 62 = .ok (.getfield 147, 3) := by decide +kernel
theorem dX11_say_65 : decode cX11_say 65 = .ok (.ireturn, 1) := by decide +kernel
theorem dX11_wipe_0 : decode cX11_wipe 0 = .ok (.aload_n 0, 1) := by decide +kernel
theorem dX11_wipe_1 : decode cX11_wipe 1 = .ok (.getfield 23, 3) := by decide +kernel
theorem dX11_wipe_4 : decode cX11_wipe 4 = .ok (.getfield 147, 3) := by decide +kernel
theorem dX11_wipe_7 : decode cX11_wipe 7 = .ok (.istore_n 1, 1) := by decide +kernel
theorem dX11_wipe_8 : decode cX11_wipe 8 = .ok (.aload_n 0, 1) := by decide +kernel
theorem dX11_wipe_9 : decode cX11_wipe 9 = .ok (.getfield 23, 3) := by decide +kernel
theorem dX11_wipe_12 : decode cX11_wipe 12 = .ok (.iconst 0, 1) := by decide +kernel
theorem dX11_wipe_13 : decode cX11_wipe 13 = .ok (.putfield 147, 3) := by decide +kernel
theorem dX11_wipe_16 : decode cX11_wipe 16 = .ok (.iload_n 1, 1) := by decide +kernel
theorem dX11_wipe_17 : decode cX11_wipe 17 = .ok (.ireturn, 1) := by decide +kernel
theorem dX11_fault_0 : decode cX11_fault 0 = .ok (.iload_n 1, 1) := by decide +kernel
theorem dX11_fault_1 : decode cX11_fault 1 = .ok (.ifCond .ne 11, 3) := by decide +kernel
theorem dX11_fault_4 : decode cX11_fault 4 = .ok (.aload_n 0, 1) := by decide +kernel
theorem dX11_fault_5 : decode cX11_fault 5 = .ok (.getfield 23, 3) := by decide +kernel
theorem dX11_fault_8 : decode cX11_fault 8 = .ok (.invokevirtual 151, 3) := by decide +kernel
theorem dX11_fault_11 : decode cX11_fault 11 = .ok (.ireturn, 1) := by decide +kernel
theorem dX11_fault_12 : decode cX11_fault 12 = .ok (.iload_n 1, 1) := by decide +kernel
theorem dX11_fault_13 : decode cX11_fault 13 = .ok (.iconst 1, 1) := by decide +kernel
theorem dX11_fault_14 : decode cX11_fault 14 = .ok (.if_icmp .ne 23, 3) := by decide +kernel
theorem dX11_fault_17 : decode cX11_fault 17 = .ok (.aload_n 0, 1) := by decide +kernel
theorem dX11_fault_18 : decode cX11_fault 18 = .ok (.getfield 23, 3) := by decide +kernel
theorem dX11_fault_21 : decode cX11_fault 21 = .ok (.aload_n 0, 1) := by decide +kernel
theorem dX11_fault_22 : decode cX11_fault 22 = .ok (.getfield 12, 3) := by decide +kernel
theorem dX11_fault_25 : decode cX11_fault 25 = .ok (.getfield 74, 3) := by decide +kernel
theorem dX11_fault_28 : decode cX11_fault 28 = .ok (.getfield 78, 3) := by decide +kernel
theorem dX11_fault_31 : decode cX11_fault 31 = .ok (.invokevirtual 155, 3) := by decide +kernel
theorem dX11_fault_34 : decode cX11_fault 34 = .ok (.goto 5, 3) := by decide +kernel
theorem dX11_fault_37 : decode cX11_fault 37 = .ok (.bipush (-2), 2) := by decide +kernel
theorem dX11_fault_39 : decode cX11_fault 39 = .ok (.ireturn, 1) := by decide +kernel
theorem dX11_table_0 : decode cX11_table 0 = .ok (.aload_n 0, 1) := by decide +kernel
theorem dX11_table_1 : decode cX11_table 1 = .ok (.getfield 23, 3) := by decide +kernel
theorem dX11_table_4 : decode cX11_table 4 = .ok (.invokevirtual 151, 3) := by decide +kernel
theorem dX11_table_7 : decode cX11_table 7 = .ok (.bipush (-6), 2) := by decide +kernel
theorem dX11_table_9 : decode cX11_table 9 = .ok (.if_icmp .eq 6, 3) := by decide +kernel
theorem dX11_table_12 : decode cX11_table 12 = .ok (.bipush (-5), 2) := by decide +kernel
theorem dX11_table_14 : decode cX11_table 14 = .ok (.ireturn, 1) := by decide +kernel
theorem dX11_table_15 : decode cX11_table 15 = .ok (.aload_n 0, 1) := by decide +kernel
theorem dX11_table_16 : decode cX11_table 16 = .ok (.getfield 12, 3) := by decide +kernel
theorem dX11_table_19 : decode cX11_table 19 = .ok (.getfield 158, 3) := by decide +kernel
theorem dX11_table_22 : decode cX11_table 22 = .ok (.aload_n 0, 1) := by decide +kernel
theorem dX11_table_23 : decode cX11_table 23 = .ok (.getfield 23, 3) := by decide +kernel
theorem dX11_table_26 : decode cX11_table 26 = .ok (.invokevirtual 162, 3) := by decide +kernel
theorem dX11_table_29 : decode cX11_table 29 = .ok (.aload_n 0, 1) := by decide +kernel
theorem dX11_table_30 : decode cX11_table 30 = .ok (.getfield 23, 3) := by decide +kernel
theorem dX11_table_33 : decode cX11_table 33 = .ok (.iconst 0, 1) := by decide +kernel
theorem dX11_table_34 : decode cX11_table 34 = .ok (.putfield 147, 3) := by decide +kernel
theorem dX11_table_37 : decode cX11_table 37 = .ok (.aload_n 0, 1) := by decide +kernel
theorem dX11_table_38 : decode cX11_table 38 = .ok (.getfield 12, 3) := by decide +kernel
theorem dX11_table_41 : decode cX11_table 41 = .ok (.getfield 158, 3) := by decide +kernel
theorem dX11_table_44 : decode cX11_table 44 = .ok (.getfield 168, 3) := by decide +kernel
theorem dX11_table_47 : decode cX11_table 47 = .ok (.ireturn, 1) := by decide +kernel
theorem dX11_level_0 : decode cX11_level 0 = .ok (.iload_n 1, 1) := by decide +kernel
theorem dX11_level_1 : decode cX11_level 1 = .ok (.iconst 0, 1) := by decide +kernel
theorem dX11_level_2 : decode cX11_level 2 = .ok (.sipush 999, 3) := by decide +kernel
theorem dX11_level_5 : decode cX11_level 5 = .ok (.invokestatic 70, 3) := by decide +kernel
theorem dX11_level_8 : decode cX11_level 8 = .ok (.ifCond .ne 6, 3) := by decide +kernel
theorem dX11_level_11 : decode cX11_level 11 = .ok (.bipush (-2), 2) := by decide +kernel
theorem dX11_level_13 : decode cX11_level 13 = .ok (.ireturn, 1) := by decide +kernel
theorem dX11_level_14 : decode cX11_level 14 = .ok (.aload_n 0, 1) := by decide +kernel
theorem dX11_level_15 : decode cX11_level 15 = .ok (.getfield 32, 3) := by decide +kernel
theorem dX11_level_18 : decode cX11_level 18 = .ok (.invokevirtual 171, 3) := by decide +kernel
theorem dX11_level_21 : decode cX11_level 21 = .ok (.aload_n 0, 1) := by decide +kernel
theorem dX11_level_22 : decode cX11_level 22 = .ok (.getfield 32, 3) := by decide +kernel
theorem dX11_level_25 : decode cX11_level 25 = .ok (.iload_n 1, 1) := by decide +kernel
theorem dX11_level_26 : decode cX11_level 26 = .ok (.invokevirtual 174, 3) := by decide +kernel
theorem dX11_level_29 : decode cX11_level 29 = .ok (.ireturn, 1) := by decide +kernel
theorem dX11_breath_0 : decode cX11_breath 0 = .ok (.aload_n 0, 1) := by decide +kernel
theorem dX11_breath_1 : decode cX11_breath 1 = .ok (.getfield 12, 3) := by decide +kernel
theorem dX11_breath_4 : decode cX11_breath 4 = .ok (.getfield 74, 3) := by decide +kernel
theorem dX11_breath_7 : decode cX11_breath 7 = .ok (.iload_n 1, 1) := by decide +kernel
theorem dX11_breath_8 : decode cX11_breath 8 = .ok (.invokevirtual 104, 3) := by decide +kernel
theorem dX11_breath_11 : decode cX11_breath 11 = .ok (.ifCond .ne 5, 3) := by decide +kernel
theorem dX11_breath_14 : decode cX11_breath 14 = .ok (.iconst (-1), 1) := by decide +kernel
theorem dX11_breath_15 : decode cX11_breath 15 = .ok (.ireturn, 1) := by decide +kernel
theorem dX11_breath_16 : decode cX11_breath 16 = .ok (.iload_n 2, 1) := by decide +kernel
theorem dX11_breath_17 : decode cX11_breath 17 = .ok (.iconst 0, 1) := by decide +kernel
theorem dX11_breath_18 : decode cX11_breath 18 = .ok (.sipush 999, 3) := by decide +kernel
theorem dX11_breath_21 : decode cX11_breath 21 = .ok (.invokestatic 70, 3) := by decide +kernel
theorem dX11_breath_24 : decode cX11_breath 24 = .ok (.ifCond .ne 6, 3) := by decide +kernel
theorem dX11_breath_27 : decode cX11_breath 27 = .ok (.bipush (-2), 2) := by decide +kernel
theorem dX11_breath_29 : decode cX11_breath 29 = .ok (.ireturn, 1) := by decide +kernel
theorem dX11_breath_30 : decode cX11_breath 30 = .ok (.aload_n 0, 1) := by decide +kernel
theorem dX11_breath_31 : decode cX11_breath 31 = .ok (.getfield 32, 3) := by decide +kernel
theorem dX11_breath_34 : decode cX11_breath 34 = .ok (.invokevirtual 171, 3) := by decide +kernel
theorem dX11_breath_37 : decode cX11_breath 37 = .ok (.aload_n 0, 1) := by decide +kernel
theorem dX11_breath_38 : decode cX11_breath 38 = .ok (.getfield 32, 3) := by decide +kernel
theorem dX11_breath_41 : decode cX11_breath 41 = .ok (.iload_n 1, 1) := by decide +kernel
theorem dX11_breath_42 : decode cX11_breath 42 = .ok (.aload_n 0, 1) := by decide +kernel
theorem dX11_breath_43 : decode cX11_breath 43 = .ok (.getfield 32, 3) := by decide +kernel
theorem dX11_breath_46 : decode cX11_breath 46 = .ok (.iload_n 2, 1) := by decide +kernel
theorem dX11_breath_47 : decode cX11_breath 47 = .ok (.invokevirtual 174, 3) := by decide +kernel
theorem dX11_breath_50 : decode cX11_breath 50 = .ok (.invokevirtual 177, 3) := by decide +kernel
theorem dX11_breath_53 : decode cX11_breath 53 = .ok (.ireturn, 1) := by decide +kernel
theorem dX11_judge_0 : decode cX11_judge 0 = .ok (.iload_n 1, 1) := by decide +kernel
theorem dX11_judge_1 : decode cX11_judge 1 = .ok (.iconst 0, 1) := by decide +kernel
theorem dX11_judge_2 : decode cX11_judge 2 = .ok (.iconst 3, 1) := by decide +kernel
theorem dX11_judge_3 : decode cX11_judge 3 = .ok (.invokestatic 70, 3) := by decide +kernel
theorem dX11_judge_6 : decode cX11_judge 6 = .ok (.ifCond .ne 6, 3) := by decide +kernel
theorem dX11_judge_9 : decode cX11_judge 9 = .ok (.bipush (-2), 2) := by decide +kernel
theorem dX11_judge_11 : decode cX11_judge 11 = .ok (.ireturn, 1) := by decide +kernel
theorem dX11_judge_12 : decode cX11_judge 12 = .ok (.aload_n 0, 1) := by decide +kernel
theorem dX11_judge_13 : decode cX11_judge 13 = .ok (.aload_n 0, 1) := by decide +kernel
theorem dX11_judge_14 : decode cX11_judge 14 = .ok (.getfield 12, 3) := by decide +kernel
theorem dX11_judge_17 : decode cX11_judge 17 = .ok (.getfield 138, 3) := by decide +kernel
theorem dX11_judge_20 : decode cX11_judge 20 = .ok (.iconst 1, 1) := by decide +kernel
theorem dX11_judge_21 : decode cX11_judge 21 = .ok (.iaload, 1) := by decide +kernel
theorem dX11_judge_22 : decode cX11_judge 22 = .ok (.invokevirtual 180, 3) := by decide +kernel
theorem dX11_judge_25 : decode cX11_judge 25 = .ok (.ifCond .ne 6, 3) := by decide +kernel
theorem dX11_judge_28 : decode cX11_judge 28 = .ok (.bipush (-5), 2) := by decide +kernel
theorem dX11_judge_30 : decode cX11_judge 30 = .ok (.ireturn, 1) := by decide +kernel
theorem dX11_judge_31 : decode cX11_judge 31 = .ok (.aload_n 0, 1) := by decide +kernel
theorem dX11_judge_32 : decode cX11_judge 32 = .ok (.getfield 41, 3) := by decide +kernel
theorem dX11_judge_35 : decode cX11_judge 35 = .ok (.getfield 183, 3) := by decide +kernel
theorem dX11_judge_38 : decode cX11_judge 38 = .ok (.ifCond .eq 7, 3) := by decide +kernel
theorem dX11_judge_41 : decode cX11_judge 41 = .ok (.iconst 1, 1) := by decide +kernel
theorem dX11_judge_42 : decode cX11_judge 42 = .ok (.goto 4, 3) := by decide +kernel
theorem dX11_judge_45 : decode cX11_judge 45 = .ok (.iconst 0, 1) := by decide +kernel
theorem dX11_judge_46 : decode cX11_judge 46 = .ok (.istore_n 2, 1) := by decide +kernel
theorem dX11_judge_47 : decode cX11_judge 47 = .ok (.iload_n 1, 1) := by decide +kernel
theorem dX11_judge_48 : decode cX11_judge 48 = .ok (.tableswitch 79 0 2 #[28, 45, 62], 28) := by decide +kernel
theorem dX11_judge_76 : decode cX11_judge 76 = .ok (.iload_n 2, 1) := by decide +kernel
theorem dX11_judge_77 : decode cX11_judge 77 = .ok (.ifCond .eq 13, 3) := by decide +kernel
theorem dX11_judge_80 : decode cX11_judge 80 = .ok (.aload_n 0, 1) := by decide +kernel
theorem dX11_judge_81 : decode cX11_judge 81 = .ok (.getfield 41, 3) := by decide +kernel
theorem dX11_judge_84 : decode cX11_judge 84 = .ok (.getfield 186, 3) := by decide +kernel
theorem dX11_judge_87 : decode cX11_judge 87 = .ok (.goto 5, 3) := by decide +kernel
theorem dX11_judge_90 : decode cX11_judge 90 = .ok (.bipush (-6), 2) := by decide +kernel
theorem dX11_judge_92 : decode cX11_judge 92 = .ok (.ireturn, 1) := by decide +kernel
theorem dX11_judge_93 : decode cX11_judge 93 = .ok (.iload_n 2, 1) := by decide +kernel
theorem dX11_judge_94 : decode cX11_judge 94 = .ok (.ifCond .eq 13, 3) := by decide +kernel
theorem dX11_judge_97 : decode cX11_judge 97 = .ok (.aload_n 0, 1) := by decide +kernel
theorem dX11_judge_98 : decode cX11_judge 98 = .ok (.getfield 41, 3) := by decide +kernel
theorem dX11_judge_101 : decode cX11_judge 101 = .ok (.getfield 183, 3) := by decide +kernel
theorem dX11_judge_104 : decode cX11_judge 104 = .ok (.goto 5, 3) := by decide +kernel
theorem dX11_judge_107 : decode cX11_judge 107 = .ok (.bipush (-6), 2) := by decide +kernel
theorem dX11_judge_109 : decode cX11_judge 109 = .ok (.ireturn, 1) := by decide +kernel
theorem dX11_judge_110 : decode cX11_judge 110 = .ok (.iload_n 2, 1) := by decide +kernel
theorem dX11_judge_111 : decode cX11_judge 111 = .ok (.ifCond .eq 8, 3) := by decide +kernel
theorem dX11_judge_114 : decode cX11_judge 114 = .ok (.bipush (-3), 2) := by decide +kernel
theorem dX11_judge_116 : decode cX11_judge 116 = .ok (.goto 10, 3) := by decide +kernel
theorem dX11_judge_119 : decode cX11_judge 119 = .ok (.aload_n 0, 1) := by decide +kernel
theorem dX11_judge_120 : decode cX11_judge 120 = .ok (.getfield 41, 3) := by decide +kernel
theorem dX11_judge_123 : decode cX11_judge 123 = .ok (.getfield 189, 3) := by decide +kernel
theorem dX11_judge_126 : decode cX11_judge 126 = .ok (.ireturn, 1) := by decide +kernel
theorem dX11_judge_127 : decode cX11_judge 127 = .ok (.iload_n 2, 1) := by decide +kernel
theorem dX11_judge_128 : decode cX11_judge 128 = .ok (.ifCond .eq 8, 3) := by decide +kernel
theorem dX11_judge_131 : decode cX11_judge 131 = .ok (.bipush (-3), 2) := by decide +kernel
theorem dX11_judge_133 : decode cX11_judge 133 = .ok (.goto 10, 3) := by decide +kernel
theorem dX11_judge_136 : decode cX11_judge 136 = .ok (.aload_n 0, 1) := by decide +kernel
theorem dX11_judge_137 : decode cX11_judge 137 = .ok (.getfield 41, 3) := by decide +kernel
theorem dX11_judge_140 : decode cX11_judge 140 = .ok (.getfield 192, 3) := by decide +kernel
theorem dX11_judge_143 : decode cX11_judge 143 = .ok (.ireturn, 1) := by decide +kernel
theorem dX11_behind_0 : decode cX11_behind 0 = .ok (.aload_n 0, 1) := by decide +kernel
theorem dX11_behind_1 : decode cX11_behind 1 = .ok (.getfield 12, 3) := by decide +kernel
theorem dX11_behind_4 : decode cX11_behind 4 = .ok (.getfield 88, 3) := by decide +kernel
theorem dX11_behind_7 : decode cX11_behind 7 = .ok (.iload_n 1, 1) := by decide +kernel
theorem dX11_behind_8 : decode cX11_behind 8 = .ok (.invokevirtual 137, 3) := by decide +kernel
theorem dX11_behind_11 : decode cX11_behind 11 = .ok (.ifCond .ne 5, 3) := by decide +kernel
theorem dX11_behind_14 : decode cX11_behind 14 = .ok (.iconst (-1), 1) := by decide +kernel
theorem dX11_behind_15 : decode cX11_behind 15 = .ok (.ireturn, 1) := by decide +kernel
theorem dX11_behind_16 : decode cX11_behind 16 = .ok (.iload_n 2, 1) := by decide +kernel
theorem dX11_behind_17 : decode cX11_behind 17 = .ok (.iconst 0, 1) := by decide +kernel
theorem dX11_behind_18 : decode cX11_behind 18 = .ok (.iconst 1, 1) := by decide +kernel
theorem dX11_behind_19 : decode cX11_behind 19 = .ok (.invokestatic 70, 3) := by decide +kernel
theorem dX11_behind_22 : decode cX11_behind 22 = .ok (.ifCond .ne 6, 3) := by decide +kernel
theorem dX11_behind_25 : decode cX11_behind 25 = .ok (.bipush (-2), 2) := by decide +kernel
theorem dX11_behind_27 : decode cX11_behind 27 = .ok (.ireturn, 1) := by decide +kernel
theorem dX11_behind_28 : decode cX11_behind 28 = .ok (.aload_n 0, 1) := by decide +kernel
theorem dX11_behind_29 : decode cX11_behind 29 = .ok (.aload_n 0, 1) := by decide +kernel
theorem dX11_behind_30 : decode cX11_behind 30 = .ok (.getfield 12, 3) := by decide +kernel
theorem dX11_behind_33 : decode cX11_behind 33 = .ok (.getfield 138, 3) := by decide +kernel
theorem dX11_behind_36 : decode cX11_behind 36 = .ok (.iconst 1, 1) := by decide +kernel
theorem dX11_behind_37 : decode cX11_behind 37 = .ok (.iaload, 1) := by decide +kernel
theorem dX11_behind_38 : decode cX11_behind 38 = .ok (.invokevirtual 180, 3) := by decide +kernel
theorem dX11_behind_41 : decode cX11_behind 41 = .ok (.ifCond .ne 6, 3) := by decide +kernel
theorem dX11_behind_44 : decode cX11_behind 44 = .ok (.bipush (-5), 2) := by decide +kernel
theorem dX11_behind_46 : decode cX11_behind 46 = .ok (.ireturn, 1) := by decide +kernel
theorem dX11_behind_47 : decode cX11_behind 47 = .ok (.aload_n 0, 1) := by decide +kernel
theorem dX11_behind_48 : decode cX11_behind 48 = .ok (.getfield 41, 3) := by decide +kernel
theorem dX11_behind_51 : decode cX11_behind 51 = .ok (.getfield 183, 3) := by decide +kernel
theorem dX11_behind_54 : decode cX11_behind 54 = .ok (.ifCond .eq 6, 3) := by decide +kernel
theorem dX11_behind_57 : decode cX11_behind 57 = .ok (.bipush (-3), 2) := by decide +kernel
theorem dX11_behind_59 : decode cX11_behind 59 = .ok (.ireturn, 1) := by decide +kernel
theorem dX11_behind_60 : decode cX11_behind 60 = .ok (.iload_n 2, 1) := by decide +kernel
theorem dX11_behind_61 : decode cX11_behind 61 = .ok (.ifCond .ne 15, 3) := by decide +kernel
theorem dX11_behind_64 : decode cX11_behind 64 = .ok (.aload_n 0, 1) := by decide +kernel
theorem dX11_behind_65 : decode cX11_behind 65 = .ok (.getfield 41, 3) := by decide +kernel
theorem dX11_behind_68 : decode cX11_behind 68 = .ok (.getfield 195, 3) := by decide +kernel
theorem dX11_behind_71 : decode cX11_behind 71 = .ok (.iload_n 1, 1) := by decide +kernel
theorem dX11_behind_72 : decode cX11_behind 72 = .ok (.iaload, 1) := by decide +kernel
theorem dX11_behind_73 : decode cX11_behind 73 = .ok (.goto 12, 3) := by decide +kernel
theorem dX11_behind_76 : decode cX11_behind 76 = .ok (.aload_n 0, 1) := by decide +kernel
theorem dX11_behind_77 : decode cX11_behind 77 = .ok (.getfield 41, 3) := by decide +kernel
theorem dX11_behind_80 : decode cX11_behind 80 = .ok (.getfield 198, 3) := by decide +kernel
theorem dX11_behind_83 : decode cX11_behind 83 = .ok (.iload_n 1, 1) := by decide +kernel
theorem dX11_behind_84 : decode cX11_behind 84 = .ok (.iaload, 1) := by decide +kernel
theorem dX11_behind_85 : decode cX11_behind 85 = .ok (.ireturn, 1) := by decide +kernel
theorem dX11_hands_0 : decode cX11_hands 0 = .ok (.aload_n 0, 1) := by decide +kernel
theorem dX11_hands_1 : decode cX11_hands 1 = .ok (.ldc 201, 2) := by decide +kernel
theorem dX11_hands_3 : decode cX11_hands 3 = .ok (.invokevirtual 180, 3) := by decide +kernel
theorem dX11_hands_6 : decode cX11_hands 6 = .ok (.ifCond .ne 6, 3) := by decide +kernel
theorem dX11_hands_9 : decode cX11_hands 9 = .ok (.bipush (-5), 2) := by decide +kernel
theorem dX11_hands_11 : decode cX11_hands 11 = .ok (.ireturn, 1) := by decide +kernel
theorem dX11_hands_12 : decode cX11_hands 12 = .ok (.aload_n 0, 1) := by decide +kernel
theorem dX11_hands_13 : decode cX11_hands 13 = .ok (.getfield 41, 3) := by decide +kernel
theorem dX11_hands_16 : decode cX11_hands 16 = .ok (.getfield 183, 3) := by decide +kernel
theorem dX11_hands_19 : decode cX11_hands 19 = .ok (.ifCond .eq 8, 3) := by decide +kernel
theorem dX11_hands_22 : decode cX11_hands 22 = .ok (.bipush (-6), 2) := by decide +kernel
theorem dX11_hands_24 : decode cX11_hands 24 = .ok (.goto 10, 3) := by decide +kernel
theorem dX11_hands_27 : decode cX11_hands 27 = .ok (.aload_n 0, 1) := by decide +kernel
theorem dX11_hands_28 : decode cX11_hands 28 = .ok (.getfield 41, 3) := by decide +kernel
theorem dX11_hands_31 : decode cX11_hands 31 = .ok (.getfield 202, 3) := by decide +kernel
theorem dX11_hands_34 : decode cX11_hands 34 = .ok (.ireturn, 1) := by decide +kernel
theorem dX11_followPad_0 : decode cX11_followPad 0 = .ok (.aload_n 0, 1) := by decide +kernel
theorem dX11_followPad_1 : decode cX11_followPad 1 = .ok (.getfield 23, 3) := by decide +kernel
theorem dX11_followPad_4 : decode cX11_followPad 4 = .ok (.aload_n 0, 1) := by decide +kernel
theorem dX11_followPad_5 : decode cX11_followPad 5 = .ok (.getfield 12, 3) := by decide +kernel
theorem dX11_followPad_8 : decode cX11_followPad 8 = .ok (.getfield 74, 3) := by decide +kernel
theorem dX11_followPad_11 : decode cX11_followPad 11 = .ok (.getfield 78, 3) := by decide +kernel
theorem dX11_followPad_14 : decode cX11_followPad 14 = .ok (.invokevirtual 155, 3) := by decide +kernel
theorem dX11_followPad_17 : decode cX11_followPad 17 = .ok (.bipush (-6), 2) := by decide +kernel
theorem dX11_followPad_19 : decode cX11_followPad 19 = .ok (.if_icmp .eq 5, 3) := by decide +kernel
theorem dX11_followPad_22 : decode cX11_followPad 22 = .ok (.iconst 0, 1) := by decide +kernel
theorem dX11_followPad_23 : decode cX11_followPad 23 = .ok (.ireturn, 1) := by decide +kernel
theorem dX11_followPad_24 : decode cX11_followPad 24 = .ok (.aload_n 0, 1) := by decide +kernel
theorem dX11_followPad_25 : decode cX11_followPad 25 = .ok (.getfield 32, 3) := by decide +kernel
theorem dX11_followPad_28 : decode cX11_followPad 28 = .ok (.invokevirtual 171, 3) := by decide +kernel
theorem dX11_followPad_31 : decode cX11_followPad 31 = .ok (.aload_n 0, 1) := by decide +kernel
theorem dX11_followPad_32 : decode cX11_followPad 32 = .ok (.getfield 41, 3) := by decide +kernel
theorem dX11_followPad_35 : decode cX11_followPad 35 = .ok (.aload_n 0, 1) := by decide +kernel
theorem dX11_followPad_36 : decode cX11_followPad 36 = .ok (.getfield 23, 3) := by decide +kernel
theorem dX11_followPad_39 : decode cX11_followPad 39 = .ok (.iload_n 1, 1) := by decide +kernel
theorem dX11_followPad_40 : decode cX11_followPad 40 = .ok (.invokevirtual 205, 3) := by decide +kernel
theorem dX11_followPad_43 : decode cX11_followPad 43 = .ok (.iconst 1, 1) := by decide +kernel
theorem dX11_followPad_44 : decode cX11_followPad 44 = .ok (.ireturn, 1) := by decide +kernel
theorem dX11_acid_0 : decode cX11_acid 0 = .ok (.aload_n 0, 1) := by decide +kernel
theorem dX11_acid_1 : decode cX11_acid 1 = .ok (.getfield 12, 3) := by decide +kernel
theorem dX11_acid_4 : decode cX11_acid 4 = .ok (.getfield 88, 3) := by decide +kernel
theorem dX11_acid_7 : decode cX11_acid 7 = .ok (.iload_n 1, 1) := by decide +kernel
theorem dX11_acid_8 : decode cX11_acid 8 = .ok (.invokevirtual 137, 3) := by decide +kernel
theorem dX11_acid_11 : decode cX11_acid 11 = .ok (.ifCond .ne 5, 3) := by decide +kernel
theorem dX11_acid_14 : decode cX11_acid 14 = .ok (.iconst (-1), 1) := by decide +kernel
theorem dX11_acid_15 : decode cX11_acid 15 = .ok (.ireturn, 1) := by decide +kernel
theorem dX11_acid_16 : decode cX11_acid 16 = .ok (.iload_n 2, 1) := by decide +kernel
theorem dX11_acid_17 : decode cX11_acid 17 = .ok (.iconst 0, 1) := by decide +kernel
theorem dX11_acid_18 : decode cX11_acid 18 = .ok (.sipush 999, 3) := by decide +kernel
theorem dX11_acid_21 : decode cX11_acid 21 = .ok (.invokestatic 70, 3) := by decide +kernel
theorem dX11_acid_24 : decode cX11_acid 24 = .ok (.ifCond .ne 6, 3) := by decide +kernel
theorem dX11_acid_27 : decode cX11_acid 27 = .ok (.bipush (-2), 2) := by decide +kernel
theorem dX11_acid_29 : decode cX11_acid 29 = .ok (.ireturn, 1) := by decide +kernel
theorem dX11_acid_30 : decode cX11_acid 30 = .ok (.aload_n 0, 1) := by decide +kernel
theorem dX11_acid_31 : decode cX11_acid 31 = .ok (.getfield 32, 3) := by decide +kernel
theorem dX11_acid_34 : decode cX11_acid 34 = .ok (.invokevirtual 171, 3) := by decide +kernel
theorem dX11_acid_37 : decode cX11_acid 37 = .ok (.aload_n 0, 1) := by decide +kernel
theorem dX11_acid_38 : decode cX11_acid 38 = .ok (.getfield 32, 3) := by decide +kernel
theorem dX11_acid_41 : decode cX11_acid 41 = .ok (.iload_n 1, 1) := by decide +kernel
theorem dX11_acid_42 : decode cX11_acid 42 = .ok (.iload_n 2, 1) := by decide +kernel
theorem dX11_acid_43 : decode cX11_acid 43 = .ok (.invokevirtual 209, 3) := by decide +kernel
theorem dX11_acid_46 : decode cX11_acid 46 = .ok (.ireturn, 1) := by decide +kernel
theorem dX11_sours_0 : decode cX11_sours 0 = .ok (.aload_n 0, 1) := by decide +kernel
theorem dX11_sours_1 : decode cX11_sours 1 = .ok (.getfield 12, 3) := by decide +kernel
theorem dX11_sours_4 : decode cX11_sours 4 = .ok (.getfield 88, 3) := by decide +kernel
theorem dX11_sours_7 : decode cX11_sours 7 = .ok (.iload_n 1, 1) := by decide +kernel
theorem dX11_sours_8 : decode cX11_sours 8 = .ok (.invokevirtual 137, 3) := by decide +kernel
theorem dX11_sours_11 : decode cX11_sours 11 = .ok (.ifCond .ne 5, 3) := by decide +kernel
theorem dX11_sours_14 : decode cX11_sours 14 = .ok (.iconst (-1), 1) := by decide +kernel
theorem dX11_sours_15 : decode cX11_sours 15 = .ok (.ireturn, 1) := by decide +kernel
theorem dX11_sours_16 : decode cX11_sours 16 = .ok (.aload_n 0, 1) := by decide +kernel
theorem dX11_sours_17 : decode cX11_sours 17 = .ok (.getfield 32, 3) := by decide +kernel
theorem dX11_sours_20 : decode cX11_sours 20 = .ok (.invokevirtual 171, 3) := by decide +kernel
theorem dX11_sours_23 : decode cX11_sours 23 = .ok (.aload_n 0, 1) := by decide +kernel
theorem dX11_sours_24 : decode cX11_sours 24 = .ok (.getfield 12, 3) := by decide +kernel
theorem dX11_sours_27 : decode cX11_sours 27 = .ok (.getfield 88, 3) := by decide +kernel
theorem dX11_sours_30 : decode cX11_sours 30 = .ok (.getfield 212, 3) := by decide +kernel
theorem dX11_sours_33 : decode cX11_sours 33 = .ok (.iload_n 1, 1) := by decide +kernel
theorem dX11_sours_34 : decode cX11_sours 34 = .ok (.iaload, 1) := by decide +kernel
theorem dX11_sours_35 : decode cX11_sours 35 = .ok (.istore_n 2, 1) := by decide +kernel
theorem dX11_sours_36 : decode cX11_sours 36 = .ok (.aload_n 0, 1) := by decide +kernel
theorem dX11_sours_37 : decode cX11_sours 37 = .ok (.getfield 12, 3) := by decide +kernel
theorem dX11_sours_40 : decode cX11_sours 40 = .ok (.getfield 88, 3) := by decide +kernel
theorem dX11_sours_43 : decode cX11_sours 43 = .ok (.getfield 213, 3) := by decide +kernel
theorem dX11_sours_46 : decode cX11_sours 46 = .ok (.iload_n 1, 1) := by decide +kernel
theorem dX11_sours_47 : decode cX11_sours 47 = .ok (.iaload, 1) := by decide +kernel
theorem dX11_sours_48 : decode cX11_sours 48 = .ok (.istore_n 3, 1) := by decide +kernel
theorem dX11_sours_49 : decode cX11_sours 49 = .ok (.iconst 0, 1) := by decide +kernel
theorem dX11_sours_50 : decode cX11_sours 50 = .ok (.istore 4, 2) := by decide +kernel
theorem dX11_sours_52 : decode cX11_sours 52 = .ok (.iconst 0, 1) := by decide +kernel
theorem dX11_sours_53 : decode cX11_sours 53 = .ok (.istore 5, 2) := by decide +kernel
theorem dX11_sours_55 : decode cX11_sours 55 = .ok (.iload 5, 2) := by decide +kernel
theorem dX11_sours_57 : decode cX11_sours 57 = .ok (.sipush 999, 3) := by decide +kernel
theorem dX11_sours_60 : decode cX11_sours 60 = .ok (.if_icmp .ge 49, 3) := by decide +kernel
theorem dX11_sours_63 : decode cX11_sours 63 = .ok (.iload 4, 2) := by decide +kernel
theorem dX11_sours_65 : decode cX11_sours 65 = .ok (.aload_n 0, 1) := by decide +kernel
theorem dX11_sours_66 : decode cX11_sours 66 = .ok (.getfield 32, 3) := by decide +kernel
theorem dX11_sours_69 : decode cX11_sours 69 = .ok (.aload_n 0, 1) := by decide +kernel
theorem dX11_sours_70 : decode cX11_sours 70 = .ok (.getfield 32, 3) := by decide +kernel
theorem dX11_sours_73 : decode cX11_sours 73 = .ok (.iload 5, 2) := by decide +kernel
theorem dX11_sours_75 : decode cX11_sours 75 = .ok (.invokevirtual 174, 3) := by decide +kernel
theorem dX11_sours_78 : decode cX11_sours 78 = .ok (.iload_n 2, 1) := by decide +kernel
theorem dX11_sours_79 : decode cX11_sours 79 = .ok (.iload_n 3, 1) := by decide +kernel
theorem dX11_sours_80 : decode cX11_sours 80 = .ok (.invokevirtual 216, 3) := by decide +kernel
theorem dX11_sours_83 : decode cX11_sours 83 = .ok (.iadd, 1) := by decide +kernel
theorem dX11_sours_84 : decode cX11_sours 84 = .ok (.istore 4, 2) := by decide +kernel
theorem dX11_sours_86 : decode cX11_sours 86 = .ok (.aload_n 0, 1) := by decide +kernel
theorem dX11_sours_87 : decode cX11_sours 87 = .ok (.getfield 12, 3) := by decide +kernel
theorem dX11_sours_90 : decode cX11_sours 90 = .ok (.iload 4, 2) := by decide +kernel
theorem dX11_sours_92 : decode cX11_sours 92 = .ok (.invokevirtual 220, 3) := by decide +kernel
theorem dX11_sours_95 : decode cX11_sours 95 = .ok (.ifCond .eq 8, 3) := by decide +kernel
theorem dX11_sours_98 : decode cX11_sours 98 = .ok (.iload 5, 2) := by decide +kernel
theorem dX11_sours_100 : decode cX11_sours 100 = .ok (.iconst 1, 1) := by decide +kernel
theorem dX11_sours_101 : decode cX11_sours 101 = .ok (.iadd, 1) := by decide +kernel
theorem dX11_sours_102 : decode cX11_sours 102 = .ok (.ireturn, 1) := by decide +kernel
theorem dX11_sours_103 : decode cX11_sours 103 = .ok (.iinc 5 1, 3) := by decide +kernel
theorem dX11_sours_106 : decode cX11_sours 106 = .ok (.goto (-51), 3) := by decide +kernel
theorem dX11_sours_109 : decode cX11_sours 109 = .ok (.bipush (-6), 2) := by decide +kernel
theorem dX11_sours_111 : decode cX11_sours 111 = .ok (.ireturn, 1) := by decide +kernel
theorem dX11_lost_0 : decode cX11_lost 0 = .ok (.iload_n 1, 1) := by decide +kernel
theorem dX11_lost_1 : decode cX11_lost 1 = .ok (.iconst 0, 1) := by decide +kernel
theorem dX11_lost_2 : decode cX11_lost 2 = .ok (.sipush 999, 3) := by decide +kernel
theorem dX11_lost_5 : decode cX11_lost 5 = .ok (.invokestatic 70, 3) := by decide +kernel
theorem dX11_lost_8 : decode cX11_lost 8 = .ok (.ifCond .ne 6, 3) := by decide +kernel
theorem dX11_lost_11 : decode cX11_lost 11 = .ok (.bipush (-2), 2) := by decide +kernel
theorem dX11_lost_13 : decode cX11_lost 13 = .ok (.ireturn, 1) := by decide +kernel
theorem dX11_lost_14 : decode cX11_lost 14 = .ok (.aload_n 0, 1) := by decide +kernel
theorem dX11_lost_15 : decode cX11_lost 15 = .ok (.getfield 32, 3) := by decide +kernel
theorem dX11_lost_18 : decode cX11_lost 18 = .ok (.invokevirtual 171, 3) := by decide +kernel
theorem dX11_lost_21 : decode cX11_lost 21 = .ok (.aload_n 0, 1) := by decide +kernel
theorem dX11_lost_22 : decode cX11_lost 22 = .ok (.iload_n 1, 1) := by decide +kernel
theorem dX11_lost_23 : decode cX11_lost 23 = .ok (.invokevirtual 223, 3) := by decide +kernel
theorem dX11_lost_26 : decode cX11_lost 26 = .ok (.ireturn, 1) := by decide +kernel
theorem dX11_lostBehind_0 : decode cX11_lostBehind 0 = .ok (.iconst 0, 1) := by decide +kernel
theorem dX11_lostBehind_1 : decode cX11_lostBehind 1 = .ok (.istore_n 2, 1) := by decide +kernel
theorem dX11_lostBehind_2 : decode cX11_lostBehind 2 = .ok (.iconst 0, 1) := by decide +kernel
theorem dX11_lostBehind_3 : decode cX11_lostBehind 3 = .ok (.istore_n 3, 1) := by decide +kernel
theorem dX11_lostBehind_4 : decode cX11_lostBehind 4 = .ok (.iload_n 3, 1) := by decide +kernel
theorem dX11_lostBehind_5 : decode cX11_lostBehind 5 = .ok (.bipush 8, 2) := by decide +kernel
theorem dX11_lostBehind_7 : decode cX11_lostBehind 7 = .ok (.if_icmp .ge 57, 3) := by decide +kernel
theorem dX11_lostBehind_10 : decode cX11_lostBehind 10 = .ok (.aload_n 0, 1) := by decide +kernel
theorem dX11_lostBehind_11 : decode cX11_lostBehind 11 = .ok (.getfield 12, 3) := by decide +kernel
theorem dX11_lostBehind_14 : decode cX11_lostBehind 14 = .ok (.getfield 88, 3) := by decide +kernel
theorem dX11_lostBehind_17 : decode cX11_lostBehind 17 = .ok (.iload_n 3, 1) := by decide +kernel
theorem dX11_lostBehind_18 : decode cX11_lostBehind 18 = .ok (.invokevirtual 137, 3) := by decide +kernel
theorem dX11_lostBehind_21 : decode cX11_lostBehind 21 = .ok (.ifCond .eq 37, 3) := by decide +kernel
theorem dX11_lostBehind_24 : decode cX11_lostBehind 24 = .ok (.aload_n 0, 1) := by decide +kernel
theorem dX11_lostBehind_25 : decode cX11_lostBehind 25 = .ok (.getfield 12, 3) := by decide +kernel
theorem dX11_lostBehind_28 : decode cX11_lostBehind 28 = .ok (.aload_n 0, 1) := by decide +kernel
theorem dX11_lostBehind_29 : decode cX11_lostBehind 29 = .ok (.getfield 32, 3) := by decide +kernel
theorem dX11_lostBehind_32 : decode cX11_lostBehind 32 = .ok (.iload_n 3, 1) := by decide +kernel
theorem dX11_lostBehind_33 : decode cX11_lostBehind 33 = .ok (.iload_n 1, 1) := by decide +kernel
theorem dX11_lostBehind_34 : decode cX11_lostBehind 34 = .ok (.invokevirtual 209, 3) := by decide +kernel
theorem dX11_lostBehind_37 : decode cX11_lostBehind 37 = .ok (.invokevirtual 220, 3) := by decide +kernel
theorem dX11_lostBehind_40 : decode cX11_lostBehind 40 = .ok (.ifCond .eq 18, 3) := by decide +kernel
theorem dX11_lostBehind_43 : decode cX11_lostBehind 43 = .ok (.iload_n 2, 1) := by decide +kernel
theorem dX11_lostBehind_44 : decode cX11_lostBehind 44 = .ok (.aload_n 0, 1) := by decide +kernel
theorem dX11_lostBehind_45 : decode cX11_lostBehind 45 = .ok (.getfield 12, 3) := by decide +kernel
theorem dX11_lostBehind_48 : decode cX11_lostBehind 48 = .ok (.getfield 88, 3) := by decide +kernel
theorem dX11_lostBehind_51 : decode cX11_lostBehind 51 = .ok (.getfield 226, 3) := by decide +kernel
theorem dX11_lostBehind_54 : decode cX11_lostBehind 54 = .ok (.iload_n 3, 1) := by decide +kernel
theorem dX11_lostBehind_55 : decode cX11_lostBehind 55 = .ok (.iaload, 1) := by decide +kernel
theorem dX11_lostBehind_56 : decode cX11_lostBehind 56 = .ok (.iadd, 1) := by decide +kernel
theorem dX11_lostBehind_57 : decode cX11_lostBehind 57 = .ok (.istore_n 2, 1) := by decide +kernel
theorem dX11_lostBehind_58 : decode cX11_lostBehind 58 = .ok (.iinc 3 1, 3) := by decide +kernel
theorem dX11_lostBehind_61 : decode cX11_lostBehind 61 = .ok (.goto (-57), 3) := by decide +kernel
theorem dX11_lostBehind_64 : decode cX11_lostBehind 64 = .ok (.iload_n 2, 1) := by decide +kernel
theorem dX11_lostBehind_65 : decode cX11_lostBehind 65 = .ok (.ireturn, 1) := by decide +kernel
theorem dX11_plan_0 : decode cX11_plan 0 = .ok (.aload_n 0, 1) := by decide +kernel
theorem dX11_plan_1 : decode cX11_plan 1 = .ok (.getfield 12, 3) := by decide +kernel
theorem dX11_plan_4 : decode cX11_plan 4 = .ok (.getfield 88, 3) := by decide +kernel
theorem dX11_plan_7 : decode cX11_plan 7 = .ok (.iload_n 1, 1) := by decide +kernel
theorem dX11_plan_8 : decode cX11_plan 8 = .ok (.invokevirtual 229, 3) := by decide +kernel
theorem dX11_plan_11 : decode cX11_plan 11 = .ok (.ifCond .eq 14, 3) := by decide +kernel
theorem dX11_plan_14 : decode cX11_plan 14 = .ok (.iload_n 2, 1) := by decide +kernel
theorem dX11_plan_15 : decode cX11_plan 15 = .ok (.iconst 0, 1) := by decide +kernel
theorem dX11_plan_16 : decode cX11_plan 16 = .ok (.sipush 999, 3) := by decide +kernel
theorem dX11_plan_19 : decode cX11_plan 19 = .ok (.invokestatic 70, 3) := by decide +kernel
theorem dX11_plan_22 : decode cX11_plan 22 = .ok (.ifCond .ne 6, 3) := by decide +kernel
theorem dX11_plan_25 : decode cX11_plan 25 = .ok (.bipush (-2), 2) := by decide +kernel
theorem dX11_plan_27 : decode cX11_plan 27 = .ok (.ireturn, 1) := by decide +kernel
theorem dX11_plan_28 : decode cX11_plan 28 = .ok (.iload_n 3, 1) := by decide +kernel
theorem dX11_plan_29 : decode cX11_plan 29 = .ok (.iconst (-1), 1) := by decide +kernel
theorem dX11_plan_30 : decode cX11_plan 30 = .ok (.if_icmp .eq 13, 3) := by decide +kernel
theorem dX11_plan_33 : decode cX11_plan 33 = .ok (.iload_n 1, 1) := by decide +kernel
theorem dX11_plan_34 : decode cX11_plan 34 = .ok (.iload_n 3, 1) := by decide +kernel
theorem dX11_plan_35 : decode cX11_plan 35 = .ok (.invokestatic 232, 3) := by decide +kernel
theorem dX11_plan_38 : decode cX11_plan 38 = .ok (.ifCond .ne 5, 3) := by decide +kernel
theorem dX11_plan_41 : decode cX11_plan 41 = .ok (.iconst (-1), 1) := by decide +kernel
theorem dX11_plan_42 : decode cX11_plan 42 = .ok (.ireturn, 1) := by decide +kernel
theorem dX11_plan_43 : decode cX11_plan 43 = .ok (.iload_n 1, 1) := by decide +kernel
theorem dX11_plan_44 : decode cX11_plan 44 = .ok (.invokestatic 131, 3) := by decide +kernel
theorem dX11_plan_47 : decode cX11_plan 47 = .ok (.iconst 4, 1) := by decide +kernel
theorem dX11_plan_48 : decode cX11_plan 48 = .ok (.if_icmp .le 6, 3) := by decide +kernel
theorem dX11_plan_51 : decode cX11_plan 51 = .ok (.bipush (-4), 2) := by decide +kernel
theorem dX11_plan_53 : decode cX11_plan 53 = .ok (.ireturn, 1) := by decide +kernel
theorem dX11_plan_54 : decode cX11_plan 54 = .ok (.aload_n 0, 1) := by decide +kernel
theorem dX11_plan_55 : decode cX11_plan 55 = .ok (.getfield 32, 3) := by decide +kernel
theorem dX11_plan_58 : decode cX11_plan 58 = .ok (.invokevirtual 171, 3) := by decide +kernel
theorem dX11_plan_61 : decode cX11_plan 61 = .ok (.aload_n 0, 1) := by decide +kernel
theorem dX11_plan_62 : decode cX11_plan 62 = .ok (.getfield 48, 3) := by decide +kernel
theorem dX11_plan_65 : decode cX11_plan 65 = .ok (.iload_n 1, 1) := by decide +kernel
theorem dX11_plan_66 : decode cX11_plan 66 = .ok (.iload_n 2, 1) := by decide +kernel
theorem dX11_plan_67 : decode cX11_plan 67 = .ok (.invokevirtual 236, 3) := by decide +kernel
theorem dX11_plan_70 : decode cX11_plan 70 = .ok (.aload_n 0, 1) := by decide +kernel
theorem dX11_plan_71 : decode cX11_plan 71 = .ok (.getfield 48, 3) := by decide +kernel
theorem dX11_plan_74 : decode cX11_plan 74 = .ok (.invokevirtual 240, 3) := by decide +kernel
theorem dX11_plan_77 : decode cX11_plan 77 = .ok (.istore 4, 2) := by decide +kernel
theorem dX11_plan_79 : decode cX11_plan 79 = .ok (.iload_n 3, 1) := by decide +kernel
theorem dX11_plan_80 : decode cX11_plan 80 = .ok (.iconst (-1), 1) := by decide +kernel
theorem dX11_plan_81 : decode cX11_plan 81 = .ok (.if_icmp .eq 10, 3) := by decide +kernel
theorem dX11_plan_84 : decode cX11_plan 84 = .ok (.iload 4, 2) := by decide +kernel
theorem dX11_plan_86 : decode cX11_plan 86 = .ok (.bipush (-6), 2) := by decide +kernel
theorem dX11_plan_88 : decode cX11_plan 88 = .ok (.if_icmp .ne 8, 3) := by decide +kernel
theorem dX11_plan_91 : decode cX11_plan 91 = .ok (.iload 4, 2) := by decide +kernel
theorem dX11_plan_93 : decode cX11_plan 93 = .ok (.goto 11, 3) := by decide +kernel
theorem dX11_plan_96 : decode cX11_plan 96 = .ok (.aload_n 0, 1) := by decide +kernel
theorem dX11_plan_97 : decode cX11_plan 97 = .ok (.getfield 48, 3) := by decide +kernel
theorem dX11_plan_100 : decode cX11_plan 100 = .ok (.iload_n 3, 1) := by decide +kernel
theorem dX11_plan_101 : decode cX11_plan 101 = .ok (.invokevirtual 243, 3) := by decide +kernel
theorem dX11_plan_104 : decode cX11_plan 104 = .ok (.ireturn, 1) := by decide +kernel
theorem dX11_value_0 : decode cX11_value 0 = .ok (.aload_n 0, 1) := by decide +kernel
theorem dX11_value_1 : decode cX11_value 1 = .ok (.getfield 12, 3) := by decide +kernel
theorem dX11_value_4 : decode cX11_value 4 = .ok (.getfield 88, 3) := by decide +kernel
theorem dX11_value_7 : decode cX11_value 7 = .ok (.iload_n 1, 1) := by decide +kernel
theorem dX11_value_8 : decode cX11_value 8 = .ok (.invokevirtual 137, 3) := by decide +kernel
theorem dX11_value_11 : decode cX11_value 11 = .ok (.ifCond .ne 5, 3) := by decide +kernel
theorem dX11_value_14 : decode cX11_value 14 = .ok (.iconst (-1), 1) := by decide +kernel
theorem dX11_value_15 : decode cX11_value 15 = .ok (.ireturn, 1) := by decide +kernel
theorem dX11_value_16 : decode cX11_value 16 = .ok (.iload_n 2, 1) := by decide +kernel
theorem dX11_value_17 : decode cX11_value 17 = .ok (.iconst 0, 1) := by decide +kernel
theorem dX11_value_18 : decode cX11_value 18 = .ok (.bipush 99, 2) := by decide +kernel
theorem dX11_value_20 : decode cX11_value 20 = .ok (.invokestatic 70, 3) := by decide +kernel
theorem dX11_value_23 : decode cX11_value 23 = .ok (.ifCond .ne 6, 3) := by decide +kernel
theorem dX11_value_26 : decode cX11_value 26 = .ok (.bipush (-2), 2) := by decide +kernel
theorem dX11_value_28 : decode cX11_value 28 = .ok (.ireturn, 1) := by decide +kernel
theorem dX11_value_29 : decode cX11_value 29 = .ok (.aload_n 0, 1) := by decide +kernel
theorem dX11_value_30 : decode cX11_value 30 = .ok (.getfield 32, 3) := by decide +kernel
theorem dX11_value_33 : decode cX11_value 33 = .ok (.invokevirtual 171, 3) := by decide +kernel
theorem dX11_value_36 : decode cX11_value 36 = .ok (.aload_n 0, 1) := by decide +kernel
theorem dX11_value_37 : decode cX11_value 37 = .ok (.getfield 12, 3) := by decide +kernel
theorem dX11_value_40 : decode cX11_value 40 = .ok (.iload_n 1, 1) := by decide +kernel
theorem dX11_value_41 : decode cX11_value 41 = .ok (.iload_n 2, 1) := by decide +kernel
theorem dX11_value_42 : decode cX11_value 42 = .ok (.aload_n 0, 1) := by decide +kernel
theorem dX11_value_43 : decode cX11_value 43 = .ok (.getfield 32, 3) := by decide +kernel
theorem dX11_value_46 : decode cX11_value 46 = .ok (.iload_n 1, 1) := by decide +kernel
theorem dX11_value_47 : decode cX11_value 47 = .ok (.iload_n 2, 1) := by decide +kernel
theorem dX11_value_48 : decode cX11_value 48 = .ok (.invokevirtual 209, 3) := by decide +kernel
theorem dX11_value_51 : decode cX11_value 51 = .ok (.invokevirtual 246, 3) := by decide +kernel
theorem dX11_value_54 : decode cX11_value 54 = .ok (.ireturn, 1) := by decide +kernel
theorem dX11_opening_0 : decode cX11_opening 0 = .ok (.aload_n 0, 1) := by decide +kernel
theorem dX11_opening_1 : decode cX11_opening 1 = .ok (.getfield 12, 3) := by decide +kernel
theorem dX11_opening_4 : decode cX11_opening 4 = .ok (.getfield 88, 3) := by decide +kernel
theorem dX11_opening_7 : decode cX11_opening 7 = .ok (.iload_n 1, 1) := by decide +kernel
theorem dX11_opening_8 : decode cX11_opening 8 = .ok (.invokevirtual 137, 3) := by decide +kernel
theorem dX11_opening_11 : decode cX11_opening 11 = .ok (.ifCond .ne 5, 3) := by decide +kernel
theorem dX11_opening_14 : decode cX11_opening 14 = .ok (.iconst (-1), 1) := by decide +kernel
theorem dX11_opening_15 : decode cX11_opening 15 = .ok (.ireturn, 1) := by decide +kernel
theorem dX11_opening_16 : decode cX11_opening 16 = .ok (.iload_n 2, 1) := by decide +kernel
theorem dX11_opening_17 : decode cX11_opening 17 = .ok (.iconst 0, 1) := by decide +kernel
theorem dX11_opening_18 : decode cX11_opening 18 = .ok (.iconst 1, 1) := by decide +kernel
theorem dX11_opening_19 : decode cX11_opening 19 = .ok (.invokestatic 70, 3) := by decide +kernel
theorem dX11_opening_22 : decode cX11_opening 22 = .ok (.ifCond .ne 6, 3) := by decide +kernel
theorem dX11_opening_25 : decode cX11_opening 25 = .ok (.bipush (-2), 2) := by decide +kernel
theorem dX11_opening_27 : decode cX11_opening 27 = .ok (.ireturn, 1) := by decide +kernel
theorem dX11_opening_28 : decode cX11_opening 28 = .ok (.aload_n 0, 1) := by decide +kernel
theorem dX11_opening_29 : decode cX11_opening 29 = .ok (.iconst 1, 1) := by decide +kernel
theorem dX11_opening_30 : decode cX11_opening 30 = .ok (.iload_n 1, 1) := by decide +kernel
theorem dX11_opening_31 : decode cX11_opening 31 = .ok (.ishl, 1) := by decide +kernel
theorem dX11_opening_32 : decode cX11_opening 32 = .ok (.iload_n 2, 1) := by decide +kernel
theorem dX11_opening_33 : decode cX11_opening 33 = .ok (.invokevirtual 249, 3) := by decide +kernel
theorem dX11_opening_36 : decode cX11_opening 36 = .ok (.ireturn, 1) := by decide +kernel
theorem dX11_banquet_0 : decode cX11_banquet 0 = .ok (.iload_n 1, 1) := by decide +kernel
theorem dX11_banquet_1 : decode cX11_banquet 1 = .ok (.iconst 0, 1) := by decide +kernel
theorem dX11_banquet_2 : decode cX11_banquet 2 = .ok (.iconst 1, 1) := by decide +kernel
theorem dX11_banquet_3 : decode cX11_banquet 3 = .ok (.invokestatic 70, 3) := by decide +kernel
theorem dX11_banquet_6 : decode cX11_banquet 6 = .ok (.ifCond .ne 6, 3) := by decide +kernel
theorem dX11_banquet_9 : decode cX11_banquet 9 = .ok (.bipush (-2), 2) := by decide +kernel
theorem dX11_banquet_11 : decode cX11_banquet 11 = .ok (.ireturn, 1) := by decide +kernel
theorem dX11_banquet_12 : decode cX11_banquet 12 = .ok (.aload_n 0, 1) := by decide +kernel
theorem dX11_banquet_13 : decode cX11_banquet 13 = .ok (.aload_n 0, 1) := by decide +kernel
theorem dX11_banquet_14 : decode cX11_banquet 14 = .ok (.getfield 12, 3) := by decide +kernel
theorem dX11_banquet_17 : decode cX11_banquet 17 = .ok (.getfield 88, 3) := by decide +kernel
theorem dX11_banquet_20 : decode cX11_banquet 20 = .ok (.getfield 92, 3) := by decide +kernel
theorem dX11_banquet_23 : decode cX11_banquet 23 = .ok (.iload_n 1, 1) := by decide +kernel
theorem dX11_banquet_24 : decode cX11_banquet 24 = .ok (.invokevirtual 249, 3) := by decide +kernel
theorem dX11_banquet_27 : decode cX11_banquet 27 = .ok (.ireturn, 1) := by decide +kernel
theorem dX11_bestDay_0 : decode cX11_bestDay 0 = .ok (.aload_n 0, 1) := by decide +kernel
theorem dX11_bestDay_1 : decode cX11_bestDay 1 = .ok (.getfield 32, 3) := by decide +kernel
theorem dX11_bestDay_4 : decode cX11_bestDay 4 = .ok (.invokevirtual 171, 3) := by decide +kernel
theorem dX11_bestDay_7 : decode cX11_bestDay 7 = .ok (.aload_n 0, 1) := by decide +kernel
theorem dX11_bestDay_8 : decode cX11_bestDay 8 = .ok (.getfield 41, 3) := by decide +kernel
theorem dX11_bestDay_11 : decode cX11_bestDay 11 = .ok (.invokevirtual 252, 3) := by decide +kernel
theorem dX11_bestDay_14 : decode cX11_bestDay 14 = .ok (.iconst 0, 1) := by decide +kernel
theorem dX11_bestDay_15 : decode cX11_bestDay 15 = .ok (.istore_n 3, 1) := by decide +kernel
theorem dX11_bestDay_16 : decode cX11_bestDay 16 = .ok (.iconst (-1), 1) := by decide +kernel
theorem dX11_bestDay_17 : decode cX11_bestDay 17 = .ok (.istore 4, 2) := by decide +kernel
theorem dX11_bestDay_19 : decode cX11_bestDay 19 = .ok (.iconst 0, 1) := by decide +kernel
theorem dX11_bestDay_20 : decode cX11_bestDay 20 = .ok (.istore 5, 2) := by decide +kernel
theorem dX11_bestDay_22 : decode cX11_bestDay 22 = .ok (.iload 5, 2) := by decide +kernel
theorem dX11_bestDay_24 : decode cX11_bestDay 24 = .ok (.bipush 99, 2) := by decide +kernel
theorem dX11_bestDay_26 : decode cX11_bestDay 26 = .ok (.if_icmp .gt 41, 3) := by decide +kernel
theorem dX11_bestDay_29 : decode cX11_bestDay 29 = .ok (.aload_n 0, 1) := by decide +kernel
theorem dX11_bestDay_30 : decode cX11_bestDay 30 = .ok (.getfield 41, 3) := by decide +kernel
theorem dX11_bestDay_33 : decode cX11_bestDay 33 = .ok (.iload_n 1, 1) := by decide +kernel
theorem dX11_bestDay_34 : decode cX11_bestDay 34 = .ok (.invokevirtual 255, 3) := by decide +kernel
theorem dX11_bestDay_37 : decode cX11_bestDay 37 = .ok (.istore 6, 2) := by decide +kernel
theorem dX11_bestDay_39 : decode cX11_bestDay 39 = .ok (.iload 6, 2) := by decide +kernel
theorem dX11_bestDay_41 : decode cX11_bestDay 41 = .ok (.iload 4, 2) := by decide +kernel
theorem dX11_bestDay_43 : decode cX11_bestDay 43 = .ok (.if_icmp .le 10, 3) := by decide +kernel
theorem dX11_bestDay_46 : decode cX11_bestDay 46 = .ok (.iload 6, 2) := by decide +kernel
theorem dX11_bestDay_48 : decode cX11_bestDay 48 = .ok (.istore 4, 2) := by decide +kernel
theorem dX11_bestDay_50 : decode cX11_bestDay 50 = .ok (.iload 5, 2) := by decide +kernel
theorem dX11_bestDay_52 : decode cX11_bestDay 52 = .ok (.istore_n 3, 1) := by decide +kernel
theorem dX11_bestDay_53 : decode cX11_bestDay 53 = .ok (.aload_n 0, 1) := by decide +kernel
theorem dX11_bestDay_54 : decode cX11_bestDay 54 = .ok (.getfield 41, 3) := by decide +kernel
theorem dX11_bestDay_57 : decode cX11_bestDay 57 = .ok (.iconst 0, 1) := by decide +kernel
theorem dX11_bestDay_58 : decode cX11_bestDay 58 = .ok (.invokevirtual 258, 3) := by decide +kernel
theorem dX11_bestDay_61 : decode cX11_bestDay 61 = .ok (.iinc 5 1, 3) := by decide +kernel
theorem dX11_bestDay_64 : decode cX11_bestDay 64 = .ok (.goto (-42), 3) := by decide +kernel
theorem dX11_bestDay_67 : decode cX11_bestDay 67 = .ok (.iload_n 2, 1) := by decide +kernel
theorem dX11_bestDay_68 : decode cX11_bestDay 68 = .ok (.ifCond .ne 7, 3) := by decide +kernel
theorem dX11_bestDay_71 : decode cX11_bestDay 71 = .ok (.iload_n 3, 1) := by decide +kernel
theorem dX11_bestDay_72 : decode cX11_bestDay 72 = .ok (.goto 5, 3) := by decide +kernel
theorem dX11_bestDay_75 : decode cX11_bestDay 75 = .ok (.iload 4, 2) := by decide +kernel
theorem dX11_bestDay_77 : decode cX11_bestDay 77 = .ok (.ireturn, 1) := by decide +kernel
theorem dX11_poured_0 : decode cX11_poured 0 = .ok (.iload_n 2, 1) := by decide +kernel
theorem dX11_poured_1 : decode cX11_poured 1 = .ok (.iconst (-1), 1) := by decide +kernel
theorem dX11_poured_2 : decode cX11_poured 2 = .ok (.if_icmp .eq 19, 3) := by decide +kernel
theorem dX11_poured_5 : decode cX11_poured 5 = .ok (.aload_n 0, 1) := by decide +kernel
theorem dX11_poured_6 : decode cX11_poured 6 = .ok (.getfield 12, 3) := by decide +kernel
theorem dX11_poured_9 : decode cX11_poured 9 = .ok (.getfield 88, 3) := by decide +kernel
theorem dX11_poured_12 : decode cX11_poured 12 = .ok (.iload_n 2, 1) := by decide +kernel
theorem dX11_poured_13 : decode cX11_poured 13 = .ok (.invokevirtual 137, 3) := by decide +kernel
theorem dX11_poured_16 : decode cX11_poured 16 = .ok (.ifCond .ne 5, 3) := by decide +kernel
theorem dX11_poured_19 : decode cX11_poured 19 = .ok (.iconst (-1), 1) := by decide +kernel
theorem dX11_poured_20 : decode cX11_poured 20 = .ok (.ireturn, 1) := by decide +kernel
theorem dX11_poured_21 : decode cX11_poured 21 = .ok (.iload_n 1, 1) := by decide +kernel
theorem dX11_poured_22 : decode cX11_poured 22 = .ok (.iconst 0, 1) := by decide +kernel
theorem dX11_poured_23 : decode cX11_poured 23 = .ok (.sipush 999, 3) := by decide +kernel
theorem dX11_poured_26 : decode cX11_poured 26 = .ok (.invokestatic 70, 3) := by decide +kernel
theorem dX11_poured_29 : decode cX11_poured 29 = .ok (.ifCond .ne 6, 3) := by decide +kernel
theorem dX11_poured_32 : decode cX11_poured 32 = .ok (.bipush (-2), 2) := by decide +kernel
theorem dX11_poured_34 : decode cX11_poured 34 = .ok (.ireturn, 1) := by decide +kernel
theorem dX11_poured_35 : decode cX11_poured 35 = .ok (.aload_n 0, 1) := by decide +kernel
theorem dX11_poured_36 : decode cX11_poured 36 = .ok (.getfield 32, 3) := by decide +kernel
theorem dX11_poured_39 : decode cX11_poured 39 = .ok (.invokevirtual 171, 3) := by decide +kernel
theorem dX11_poured_42 : decode cX11_poured 42 = .ok (.aload_n 0, 1) := by decide +kernel
theorem dX11_poured_43 : decode cX11_poured 43 = .ok (.getfield 55, 3) := by decide +kernel
theorem dX11_poured_46 : decode cX11_poured 46 = .ok (.iload_n 1, 1) := by decide +kernel
theorem dX11_poured_47 : decode cX11_poured 47 = .ok (.invokevirtual 261, 3) := by decide +kernel
theorem dX11_poured_50 : decode cX11_poured 50 = .ok (.istore_n 3, 1) := by decide +kernel
theorem dX11_poured_51 : decode cX11_poured 51 = .ok (.iload_n 2, 1) := by decide +kernel
theorem dX11_poured_52 : decode cX11_poured 52 = .ok (.iconst (-1), 1) := by decide +kernel
theorem dX11_poured_53 : decode cX11_poured 53 = .ok (.if_icmp .ne 7, 3) := by decide +kernel
theorem dX11_poured_56 : decode cX11_poured 56 = .ok (.iload_n 3, 1) := by decide +kernel
theorem dX11_poured_57 : decode cX11_poured 57 = .ok (.goto 11, 3) := by decide +kernel
theorem dX11_poured_60 : decode cX11_poured 60 = .ok (.aload_n 0, 1) := by decide +kernel
theorem dX11_poured_61 : decode cX11_poured 61 = .ok (.getfield 55, 3) := by decide +kernel
theorem dX11_poured_64 : decode cX11_poured 64 = .ok (.iload_n 2, 1) := by decide +kernel
theorem dX11_poured_65 : decode cX11_poured 65 = .ok (.invokevirtual 263, 3) := by decide +kernel
theorem dX11_poured_68 : decode cX11_poured 68 = .ok (.ireturn, 1) := by decide +kernel
theorem dX11_likely_0 : decode cX11_likely 0 = .ok (.aload_n 0, 1) := by decide +kernel
theorem dX11_likely_1 : decode cX11_likely 1 = .ok (.getfield 12, 3) := by decide +kernel
theorem dX11_likely_4 : decode cX11_likely 4 = .ok (.getfield 88, 3) := by decide +kernel
theorem dX11_likely_7 : decode cX11_likely 7 = .ok (.iload_n 1, 1) := by decide +kernel
theorem dX11_likely_8 : decode cX11_likely 8 = .ok (.invokevirtual 137, 3) := by decide +kernel
theorem dX11_likely_11 : decode cX11_likely 11 = .ok (.ifCond .ne 7, 3) := by decide +kernel
theorem dX11_likely_14 : decode cX11_likely 14 = .ok (.ldc2_w 266, 3) := by decide +kernel
theorem dX11_likely_17 : decode cX11_likely 17 = .ok (.lreturn, 1) := by decide +kernel
theorem dX11_likely_18 : decode cX11_likely 18 = .ok (.iload_n 2, 1) := by decide +kernel
theorem dX11_likely_19 : decode cX11_likely 19 = .ok (.iload_n 3, 1) := by decide +kernel
theorem dX11_likely_20 : decode cX11_likely 20 = .ok (.iload 4, 2) := by decide +kernel
theorem dX11_likely_22 : decode cX11_likely 22 = .ok (.invokestatic 268, 3) := by decide +kernel
theorem dX11_likely_25 : decode cX11_likely 25 = .ok (.ifCond .ne 7, 3) := by decide +kernel
theorem dX11_likely_28 : decode cX11_likely 28 = .ok (.ldc2_w 271, 3) := by decide +kernel
theorem dX11_likely_31 : decode cX11_likely 31 = .ok (.lreturn, 1) := by decide +kernel
theorem dX11_likely_32 : decode cX11_likely 32 = .ok (.aload_n 0, 1) := by decide +kernel
theorem dX11_likely_33 : decode cX11_likely 33 = .ok (.getfield 32, 3) := by decide +kernel
theorem dX11_likely_36 : decode cX11_likely 36 = .ok (.invokevirtual 171, 3) := by decide +kernel
theorem dX11_likely_39 : decode cX11_likely 39 = .ok (.aload_n 0, 1) := by decide +kernel
theorem dX11_likely_40 : decode cX11_likely 40 = .ok (.getfield 62, 3) := by decide +kernel
theorem dX11_likely_43 : decode cX11_likely 43 = .ok (.iload_n 1, 1) := by decide +kernel
theorem dX11_likely_44 : decode cX11_likely 44 = .ok (.iload_n 2, 1) := by decide +kernel
theorem dX11_likely_45 : decode cX11_likely 45 = .ok (.iload_n 3, 1) := by decide +kernel
theorem dX11_likely_46 : decode cX11_likely 46 = .ok (.invokevirtual 273, 3) := by decide +kernel
theorem dX11_likely_49 : decode cX11_likely 49 = .ok (.aload_n 0, 1) := by decide +kernel
theorem dX11_likely_50 : decode cX11_likely 50 = .ok (.getfield 62, 3) := by decide +kernel
theorem dX11_likely_53 : decode cX11_likely 53 = .ok (.iload_n 2, 1) := by decide +kernel
theorem dX11_likely_54 : decode cX11_likely 54 = .ok (.invokevirtual 277, 3) := by decide +kernel
theorem dX11_likely_57 : decode cX11_likely 57 = .ok (.iload 4, 2) := by decide +kernel
theorem dX11_likely_59 : decode cX11_likely 59 = .ok (.invokestatic 281, 3) := by decide +kernel
theorem dX11_likely_62 : decode cX11_likely 62 = .ok (.lreturn, 1) := by decide +kernel
theorem dX11_mean_0 : decode cX11_mean 0 = .ok (.iload_n 1, 1) := by decide +kernel
theorem dX11_mean_1 : decode cX11_mean 1 = .ok (.iload_n 2, 1) := by decide +kernel
theorem dX11_mean_2 : decode cX11_mean 2 = .ok (.iload_n 3, 1) := by decide +kernel
theorem dX11_mean_3 : decode cX11_mean 3 = .ok (.invokestatic 268, 3) := by decide +kernel
theorem dX11_mean_6 : decode cX11_mean 6 = .ok (.ifCond .ne 7, 3) := by decide +kernel
theorem dX11_mean_9 : decode cX11_mean 9 = .ok (.ldc2_w 271, 3) := by decide +kernel
theorem dX11_mean_12 : decode cX11_mean 12 = .ok (.lreturn, 1) := by decide +kernel
theorem dX11_mean_13 : decode cX11_mean 13 = .ok (.aload_n 0, 1) := by decide +kernel
theorem dX11_mean_14 : decode cX11_mean 14 = .ok (.getfield 32, 3) := by decide +kernel
theorem dX11_mean_17 : decode cX11_mean 17 = .ok (.invokevirtual 171, 3) := by decide +kernel
theorem dX11_mean_20 : decode cX11_mean 20 = .ok (.lconst 0, 1) := by decide +kernel
theorem dX11_mean_21 : decode cX11_mean 21 = .ok (.lstore 4, 2) := by decide +kernel
theorem dX11_mean_23 : decode cX11_mean 23 = .ok (.iconst 0, 1) := by decide +kernel
theorem dX11_mean_24 : decode cX11_mean 24 = .ok (.istore 6, 2) := by decide +kernel
theorem dX11_mean_26 : decode cX11_mean 26 = .ok (.iload 6, 2) := by decide +kernel
theorem dX11_mean_28 : decode cX11_mean 28 = .ok (.bipush 8, 2) := by decide +kernel
theorem dX11_mean_30 : decode cX11_mean 30 = .ok (.if_icmp .ge 55, 3) := by decide +kernel
theorem dX11_mean_33 : decode cX11_mean 33 = .ok (.aload_n 0, 1) := by decide +kernel
theorem dX11_mean_34 : decode cX11_mean 34 = .ok (.getfield 12, 3) := by decide +kernel
theorem dX11_mean_37 : decode cX11_mean 37 = .ok (.getfield 88, 3) := by decide +kernel
theorem dX11_mean_40 : decode cX11_mean 40 = .ok (.iload 6, 2) := by decide +kernel
theorem dX11_mean_42 : decode cX11_mean 42 = .ok (.invokevirtual 137, 3) := by decide +kernel
theorem dX11_mean_45 : decode cX11_mean 45 = .ok (.ifCond .eq 34, 3) := by decide +kernel
theorem dX11_mean_48 : decode cX11_mean 48 = .ok (.lload 4, 2) := by decide +kernel
theorem dX11_mean_50 : decode cX11_mean 50 = .ok (.aload_n 0, 1) := by decide +kernel
theorem dX11_mean_51 : decode cX11_mean 51 = .ok (.getfield 12, 3) := by decide +kernel
theorem dX11_mean_54 : decode cX11_mean 54 = .ok (.getfield 88, 3) := by decide +kernel
theorem dX11_mean_57 : decode cX11_mean 57 = .ok (.getfield 226, 3) := by decide +kernel
theorem dX11_mean_60 : decode cX11_mean 60 = .ok (.iload 6, 2) := by decide +kernel
theorem dX11_mean_62 : decode cX11_mean 62 = .ok (.iaload, 1) := by decide +kernel
theorem dX11_mean_63 : decode cX11_mean 63 = .ok (.i2l, 1) := by decide +kernel
theorem dX11_mean_64 : decode cX11_mean 64 = .ok (.aload_n 0, 1) := by decide +kernel
theorem dX11_mean_65 : decode cX11_mean 65 = .ok (.getfield 62, 3) := by decide +kernel
theorem dX11_mean_68 : decode cX11_mean 68 = .ok (.iload 6, 2) := by decide +kernel
theorem dX11_mean_70 : decode cX11_mean 70 = .ok (.iload_n 1, 1) := by decide +kernel
theorem dX11_mean_71 : decode cX11_mean 71 = .ok (.iload_n 2, 1) := by decide +kernel
theorem dX11_mean_72 : decode cX11_mean 72 = .ok (.invokevirtual 273, 3) := by decide +kernel
theorem dX11_mean_75 : decode cX11_mean 75 = .ok (.lmul, 1) := by decide +kernel
theorem dX11_mean_76 : decode cX11_mean 76 = .ok (.ladd, 1) := by decide +kernel
theorem dX11_mean_77 : decode cX11_mean 77 = .ok (.lstore 4, 2) := by decide +kernel
theorem dX11_mean_79 : decode cX11_mean 79 = .ok (.iinc 6 1, 3) := by decide +kernel
theorem dX11_mean_82 : decode cX11_mean 82 = .ok (.goto (-56), 3) := by decide +kernel
theorem dX11_mean_85 : decode cX11_mean 85 = .ok (.lload 4, 2) := by decide +kernel
theorem dX11_mean_87 : decode cX11_mean 87 = .ok (.aload_n 0, 1) := by decide +kernel
theorem dX11_mean_88 : decode cX11_mean 88 = .ok (.getfield 62, 3) := by decide +kernel
theorem dX11_mean_91 : decode cX11_mean 91 = .ok (.iload_n 1, 1) := by decide +kernel
theorem dX11_mean_92 : decode cX11_mean 92 = .ok (.invokevirtual 277, 3) := by decide +kernel
theorem dX11_mean_95 : decode cX11_mean 95 = .ok (.iload_n 3, 1) := by decide +kernel
theorem dX11_mean_96 : decode cX11_mean 96 = .ok (.invokestatic 281, 3) := by decide +kernel
theorem dX11_mean_99 : decode cX11_mean 99 = .ok (.lreturn, 1) := by decide +kernel
theorem dX11_areDoors_0 : decode cX11_areDoors 0 = .ok (.iload_n 0, 1) := by decide +kernel
theorem dX11_areDoors_1 : decode cX11_areDoors 1 = .ok (.iconst 0, 1) := by decide +kernel
theorem dX11_areDoors_2 : decode cX11_areDoors 2 = .ok (.bipush 10, 2) := by decide +kernel
theorem dX11_areDoors_4 : decode cX11_areDoors 4 = .ok (.invokestatic 70, 3) := by decide +kernel
theorem dX11_areDoors_7 : decode cX11_areDoors 7 = .ok (.ifCond .eq 26, 3) := by decide +kernel
theorem dX11_areDoors_10 : decode cX11_areDoors 10 = .ok (.iload_n 1, 1) := by decide +kernel
theorem dX11_areDoors_11 : decode cX11_areDoors 11 = .ok (.iconst 0, 1) := by decide +kernel
theorem dX11_areDoors_12 : decode cX11_areDoors 12 = .ok (.bipush 10, 2) := by decide +kernel
theorem dX11_areDoors_14 : decode cX11_areDoors 14 = .ok (.invokestatic 70, 3) := by decide +kernel
theorem dX11_areDoors_17 : decode cX11_areDoors 17 = .ok (.ifCond .eq 16, 3) := by decide +kernel
theorem dX11_areDoors_20 : decode cX11_areDoors 20 = .ok (.iload_n 2, 1) := by decide +kernel
theorem dX11_areDoors_21 : decode cX11_areDoors 21 = .ok (.iconst 0, 1) := by decide +kernel
theorem dX11_areDoors_22 : decode cX11_areDoors 22 = .ok (.iconst 1, 1) := by decide +kernel
theorem dX11_areDoors_23 : decode cX11_areDoors 23 = .ok (.invokestatic 70, 3) := by decide +kernel
theorem dX11_areDoors_26 : decode cX11_areDoors 26 = .ok (.ifCond .eq 7, 3) := by decide +kernel
theorem dX11_areDoors_29 : decode cX11_areDoors 29 = .ok (.iconst 1, 1) := by decide +kernel
theorem dX11_areDoors_30 : decode cX11_areDoors 30 = .ok (.goto 4, 3) := by decide +kernel
theorem dX11_areDoors_33 : decode cX11_areDoors 33 = .ok (.iconst 0, 1) := by decide +kernel
theorem dX11_areDoors_34 : decode cX11_areDoors 34 = .ok (.ireturn, 1) := by decide +kernel
theorem dX11_seen_0 : decode cX11_seen 0 = .ok (.aload_n 0, 1) := by decide +kernel
theorem dX11_seen_1 : decode cX11_seen 1 = .ok (.getfield 12, 3) := by decide +kernel
theorem dX11_seen_4 : decode cX11_seen 4 = .ok (.getfield 88, 3) := by decide +kernel
theorem dX11_seen_7 : decode cX11_seen 7 = .ok (.iload_n 1, 1) := by decide +kernel
theorem dX11_seen_8 : decode cX11_seen 8 = .ok (.invokevirtual 137, 3) := by decide +kernel
theorem dX11_seen_11 : decode cX11_seen 11 = .ok (.ifCond .ne 5, 3) := by decide +kernel
theorem dX11_seen_14 : decode cX11_seen 14 = .ok (.iconst (-1), 1) := by decide +kernel
theorem dX11_seen_15 : decode cX11_seen 15 = .ok (.ireturn, 1) := by decide +kernel
theorem dX11_seen_16 : decode cX11_seen 16 = .ok (.iload_n 2, 1) := by decide +kernel
theorem dX11_seen_17 : decode cX11_seen 17 = .ok (.iconst 0, 1) := by decide +kernel
theorem dX11_seen_18 : decode cX11_seen 18 = .ok (.bipush 30, 2) := by decide +kernel
theorem dX11_seen_20 : decode cX11_seen 20 = .ok (.invokestatic 70, 3) := by decide +kernel
theorem dX11_seen_23 : decode cX11_seen 23 = .ok (.ifCond .eq 13, 3) := by decide +kernel
theorem dX11_seen_26 : decode cX11_seen 26 = .ok (.iload_n 3, 1) := by decide +kernel
theorem dX11_seen_27 : decode cX11_seen 27 = .ok (.iconst 0, 1) := by decide +kernel
theorem dX11_seen_28 : decode cX11_seen 28 = .ok (.bipush 99, 2) := by decide +kernel
theorem dX11_seen_30 : decode cX11_seen 30 = .ok (.invokestatic 70, 3) := by decide +kernel
theorem dX11_seen_33 : decode cX11_seen 33 = .ok (.ifCond .ne 6, 3) := by decide +kernel
theorem dX11_seen_36 : decode cX11_seen 36 = .ok (.bipush (-2), 2) := by decide +kernel
theorem dX11_seen_38 : decode cX11_seen 38 = .ok (.ireturn, 1) := by decide +kernel
theorem dX11_seen_39 : decode cX11_seen 39 = .ok (.aload_n 0, 1) := by decide +kernel
theorem dX11_seen_40 : decode cX11_seen 40 = .ok (.getfield 12, 3) := by decide +kernel
theorem dX11_seen_43 : decode cX11_seen 43 = .ok (.getfield 97, 3) := by decide +kernel
theorem dX11_seen_46 : decode cX11_seen 46 = .ok (.getfield 101, 3) := by decide +kernel
theorem dX11_seen_49 : decode cX11_seen 49 = .ok (.bipush 6, 2) := by decide +kernel
theorem dX11_seen_51 : decode cX11_seen 51 = .ok (.if_icmp .lt 6, 3) := by decide +kernel
theorem dX11_seen_54 : decode cX11_seen 54 = .ok (.bipush (-4), 2) := by decide +kernel
theorem dX11_seen_56 : decode cX11_seen 56 = .ok (.ireturn, 1) := by decide +kernel
theorem dX11_seen_57 : decode cX11_seen 57 = .ok (.aload_n 0, 1) := by decide +kernel
theorem dX11_seen_58 : decode cX11_seen 58 = .ok (.getfield 12, 3) := by decide +kernel
theorem dX11_seen_61 : decode cX11_seen 61 = .ok (.getfield 97, 3) := by decide +kernel
theorem dX11_seen_64 : decode cX11_seen 64 = .ok (.iload_n 1, 1) := by decide +kernel
theorem dX11_seen_65 : decode cX11_seen 65 = .ok (.iload_n 2, 1) := by decide +kernel
theorem dX11_seen_66 : decode cX11_seen 66 = .ok (.iload_n 3, 1) := by decide +kernel
theorem dX11_seen_67 : decode cX11_seen 67 = .ok (.invokevirtual 285, 3) := by decide +kernel
theorem dX11_seen_70 : decode cX11_seen 70 = .ok (.aload_n 0, 1) := by decide +kernel
theorem dX11_seen_71 : decode cX11_seen 71 = .ok (.getfield 12, 3) := by decide +kernel
theorem dX11_seen_74 : decode cX11_seen 74 = .ok (.getfield 97, 3) := by decide +kernel
theorem dX11_seen_77 : decode cX11_seen 77 = .ok (.getfield 101, 3) := by decide +kernel
theorem dX11_seen_80 : decode cX11_seen 80 = .ok (.ireturn, 1) := by decide +kernel
theorem dX11_forget_0 : decode cX11_forget 0 = .ok (.aload_n 0, 1) := by decide +kernel
theorem dX11_forget_1 : decode cX11_forget 1 = .ok (.getfield 12, 3) := by decide +kernel
theorem dX11_forget_4 : decode cX11_forget 4 = .ok (.getfield 97, 3) := by decide +kernel
theorem dX11_forget_7 : decode cX11_forget 7 = .ok (.getfield 101, 3) := by decide +kernel
theorem dX11_forget_10 : decode cX11_forget 10 = .ok (.istore_n 1, 1) := by decide +kernel
theorem dX11_forget_11 : decode cX11_forget 11 = .ok (.aload_n 0, 1) := by decide +kernel
theorem dX11_forget_12 : decode cX11_forget 12 = .ok (.getfield 12, 3) := by decide +kernel
theorem dX11_forget_15 : decode cX11_forget 15 = .ok (.getfield 97, 3) := by decide +kernel
theorem dX11_forget_18 : decode cX11_forget 18 = .ok (.iconst 0, 1) := by decide +kernel
theorem dX11_forget_19 : decode cX11_forget 19 = .ok (.putfield 101, 3) := by decide +kernel
theorem dX11_forget_22 : decode cX11_forget 22 = .ok (.iload_n 1, 1) := by decide +kernel
theorem dX11_forget_23 : decode cX11_forget 23 = .ok (.ireturn, 1) := by decide +kernel
theorem dX11_walls_0 : decode cX11_walls 0 = .ok (.aload_n 0, 1) := by decide +kernel
theorem dX11_walls_1 : decode cX11_walls 1 = .ok (.getfield 32, 3) := by decide +kernel
theorem dX11_walls_4 : decode cX11_walls 4 = .ok (.invokevirtual 171, 3) := by decide +kernel
theorem dX11_walls_7 : decode cX11_walls 7 = .ok (.aload_n 0, 1) := by decide +kernel
theorem dX11_walls_8 : decode cX11_walls 8 = .ok (.getfield 32, 3) := by decide +kernel
theorem dX11_walls_11 : decode cX11_walls 11 = .ok (.iconst 0, 1) := by decide +kernel
theorem dX11_walls_12 : decode cX11_walls 12 = .ok (.putfield 289, 3) := by decide +kernel
theorem dX11_walls_15 : decode cX11_walls 15 = .ok (.aload_n 0, 1) := by decide +kernel
theorem dX11_walls_16 : decode cX11_walls 16 = .ok (.invokevirtual 290, 3) := by decide +kernel
theorem dX11_walls_19 : decode cX11_walls 19 = .ok (.ifCond .eq 8, 3) := by decide +kernel
theorem dX11_walls_22 : decode cX11_walls 22 = .ok (.bipush 64, 2) := by decide +kernel
theorem dX11_walls_24 : decode cX11_walls 24 = .ok (.goto 4, 3) := by decide +kernel
theorem dX11_walls_27 : decode cX11_walls 27 = .ok (.iconst 0, 1) := by decide +kernel
theorem dX11_walls_28 : decode cX11_walls 28 = .ok (.istore_n 1, 1) := by decide +kernel
theorem dX11_walls_29 : decode cX11_walls 29 = .ok (.iconst 0, 1) := by decide +kernel
theorem dX11_walls_30 : decode cX11_walls 30 = .ok (.istore_n 2, 1) := by decide +kernel
theorem dX11_walls_31 : decode cX11_walls 31 = .ok (.iload_n 2, 1) := by decide +kernel
theorem dX11_walls_32 : decode cX11_walls 32 = .ok (.aload_n 0, 1) := by decide +kernel
theorem dX11_walls_33 : decode cX11_walls 33 = .ok (.getfield 12, 3) := by decide +kernel
theorem dX11_walls_36 : decode cX11_walls 36 = .ok (.getfield 74, 3) := by decide +kernel
theorem dX11_walls_39 : decode cX11_walls 39 = .ok (.getfield 78, 3) := by decide +kernel
theorem dX11_walls_42 : decode cX11_walls 42 = .ok (.if_icmp .ge 36, 3) := by decide +kernel
theorem dX11_walls_45 : decode cX11_walls 45 = .ok (.aload_n 0, 1) := by decide +kernel
theorem dX11_walls_46 : decode cX11_walls 46 = .ok (.getfield 32, 3) := by decide +kernel
theorem dX11_walls_49 : decode cX11_walls 49 = .ok (.iconst 1, 1) := by decide +kernel
theorem dX11_walls_50 : decode cX11_walls 50 = .ok (.iload_n 2, 1) := by decide +kernel
theorem dX11_walls_51 : decode cX11_walls 51 = .ok (.ishl, 1) := by decide +kernel
theorem dX11_walls_52 : decode cX11_walls 52 = .ok (.putfield 289, 3) := by decide +kernel
theorem dX11_walls_55 : decode cX11_walls 55 = .ok (.iload_n 1, 1) := by decide +kernel
theorem dX11_walls_56 : decode cX11_walls 56 = .ok (.aload_n 0, 1) := by decide +kernel
theorem dX11_walls_57 : decode cX11_walls 57 = .ok (.invokevirtual 290, 3) := by decide +kernel
theorem dX11_walls_60 : decode cX11_walls 60 = .ok (.ifCond .eq 9, 3) := by decide +kernel
theorem dX11_walls_63 : decode cX11_walls 63 = .ok (.iconst 1, 1) := by decide +kernel
theorem dX11_walls_64 : decode cX11_walls 64 = .ok (.iload_n 2, 1) := by decide +kernel
theorem dX11_walls_65 : decode cX11_walls 65 = .ok (.ishl, 1) := by decide +kernel
theorem dX11_walls_66 : decode cX11_walls 66 = .ok (.goto 4, 3) := by decide +kernel
theorem dX11_walls_69 : decode cX11_walls 69 = .ok (.iconst 0, 1) := by decide +kernel
theorem dX11_walls_70 : decode cX11_walls 70 = .ok (.ior, 1) := by decide +kernel
theorem dX11_walls_71 : decode cX11_walls 71 = .ok (.istore_n 1, 1) := by decide +kernel
theorem dX11_walls_72 : decode cX11_walls 72 = .ok (.iinc 2 1, 3) := by decide +kernel
theorem dX11_walls_75 : decode cX11_walls 75 = .ok (.goto (-44), 3) := by decide +kernel
theorem dX11_walls_78 : decode cX11_walls 78 = .ok (.iload_n 1, 1) := by decide +kernel
theorem dX11_walls_79 : decode cX11_walls 79 = .ok (.ireturn, 1) := by decide +kernel
theorem dX11_moons_0 : decode cX11_moons 0 = .ok (.aload_n 0, 1) := by decide +kernel
theorem dX11_moons_1 : decode cX11_moons 1 = .ok (.getfield 32, 3) := by decide +kernel
theorem dX11_moons_4 : decode cX11_moons 4 = .ok (.invokevirtual 171, 3) := by decide +kernel
theorem dX11_moons_7 : decode cX11_moons 7 = .ok (.iconst 0, 1) := by decide +kernel
theorem dX11_moons_8 : decode cX11_moons 8 = .ok (.istore_n 1, 1) := by decide +kernel
theorem dX11_moons_9 : decode cX11_moons 9 = .ok (.iconst 0, 1) := by decide +kernel
theorem dX11_moons_10 : decode cX11_moons 10 = .ok (.istore_n 2, 1) := by decide +kernel
theorem dX11_moons_11 : decode cX11_moons 11 = .ok (.iload_n 2, 1) := by decide +kernel
theorem dX11_moons_12 : decode cX11_moons 12 = .ok (.aload_n 0, 1) := by decide +kernel
theorem dX11_moons_13 : decode cX11_moons 13 = .ok (.getfield 12, 3) := by decide +kernel
theorem dX11_moons_16 : decode cX11_moons 16 = .ok (.getfield 158, 3) := by decide +kernel
theorem dX11_moons_19 : decode cX11_moons 19 = .ok (.getfield 168, 3) := by decide +kernel
theorem dX11_moons_22 : decode cX11_moons 22 = .ok (.if_icmp .ge 34, 3) := by decide +kernel
theorem dX11_moons_25 : decode cX11_moons 25 = .ok (.aload_n 0, 1) := by decide +kernel
theorem dX11_moons_26 : decode cX11_moons 26 = .ok (.getfield 32, 3) := by decide +kernel
theorem dX11_moons_29 : decode cX11_moons 29 = .ok (.iload_n 2, 1) := by decide +kernel
theorem dX11_moons_30 : decode cX11_moons 30 = .ok (.putfield 294, 3) := by decide +kernel
theorem dX11_moons_33 : decode cX11_moons 33 = .ok (.iload_n 1, 1) := by decide +kernel
theorem dX11_moons_34 : decode cX11_moons 34 = .ok (.aload_n 0, 1) := by decide +kernel
theorem dX11_moons_35 : decode cX11_moons 35 = .ok (.invokevirtual 290, 3) := by decide +kernel
theorem dX11_moons_38 : decode cX11_moons 38 = .ok (.ifCond .eq 9, 3) := by decide +kernel
theorem dX11_moons_41 : decode cX11_moons 41 = .ok (.iconst 1, 1) := by decide +kernel
theorem dX11_moons_42 : decode cX11_moons 42 = .ok (.iload_n 2, 1) := by decide +kernel
theorem dX11_moons_43 : decode cX11_moons 43 = .ok (.ishl, 1) := by decide +kernel
theorem dX11_moons_44 : decode cX11_moons 44 = .ok (.goto 4, 3) := by decide +kernel
theorem dX11_moons_47 : decode cX11_moons 47 = .ok (.iconst 0, 1) := by decide +kernel
theorem dX11_moons_48 : decode cX11_moons 48 = .ok (.ior, 1) := by decide +kernel
theorem dX11_moons_49 : decode cX11_moons 49 = .ok (.istore_n 1, 1) := by decide +kernel
theorem dX11_moons_50 : decode cX11_moons 50 = .ok (.iinc 2 1, 3) := by decide +kernel
theorem dX11_moons_53 : decode cX11_moons 53 = .ok (.goto (-42), 3) := by decide +kernel
theorem dX11_moons_56 : decode cX11_moons 56 = .ok (.iload_n 1, 1) := by decide +kernel
theorem dX11_moons_57 : decode cX11_moons 57 = .ok (.ireturn, 1) := by decide +kernel
theorem dX11_open_0 : decode cX11_open 0 = .ok (.iload_n 1, 1) := by decide +kernel
theorem dX11_open_1 : decode cX11_open 1 = .ok (.iconst 0, 1) := by decide +kernel
theorem dX11_open_2 : decode cX11_open 2 = .ok (.iconst 1, 1) := by decide +kernel
theorem dX11_open_3 : decode cX11_open 3 = .ok (.invokestatic 70, 3) := by decide +kernel
theorem dX11_open_6 : decode cX11_open 6 = .ok (.ifCond .ne 6, 3) := by decide +kernel
theorem dX11_open_9 : decode cX11_open 9 = .ok (.bipush (-2), 2) := by decide +kernel
theorem dX11_open_11 : decode cX11_open 11 = .ok (.ireturn, 1) := by decide +kernel
theorem dX11_open_12 : decode cX11_open 12 = .ok (.aload_n 0, 1) := by decide +kernel
theorem dX11_open_13 : decode cX11_open 13 = .ok (.getfield 32, 3) := by decide +kernel
theorem dX11_open_16 : decode cX11_open 16 = .ok (.invokevirtual 171, 3) := by decide +kernel
theorem dX11_open_19 : decode cX11_open 19 = .ok (.aload_n 0, 1) := by decide +kernel
theorem dX11_open_20 : decode cX11_open 20 = .ok (.getfield 12, 3) := by decide +kernel
theorem dX11_open_23 : decode cX11_open 23 = .ok (.getfield 97, 3) := by decide +kernel
theorem dX11_open_26 : decode cX11_open 26 = .ok (.invokevirtual 297, 3) := by decide +kernel
theorem dX11_open_29 : decode cX11_open 29 = .ok (.istore_n 2, 1) := by decide +kernel
theorem dX11_open_30 : decode cX11_open 30 = .ok (.bipush (-6), 2) := by decide +kernel
theorem dX11_open_32 : decode cX11_open 32 = .ok (.istore_n 3, 1) := by decide +kernel
theorem dX11_open_33 : decode cX11_open 33 = .ok (.iconst 0, 1) := by decide +kernel
theorem dX11_open_34 : decode cX11_open 34 = .ok (.istore 4, 2) := by decide +kernel
theorem dX11_open_36 : decode cX11_open 36 = .ok (.iconst 0, 1) := by decide +kernel
theorem dX11_open_37 : decode cX11_open 37 = .ok (.istore 5, 2) := by decide +kernel
theorem dX11_open_39 : decode cX11_open 39 = .ok (.iload 5, 2) := by decide +kernel
theorem dX11_open_41 : decode cX11_open 41 = .ok (.iload_n 2, 1) := by decide +kernel
theorem dX11_open_42 : decode cX11_open 42 = .ok (.if_icmp .ge 40, 3) := by decide +kernel
theorem dX11_open_45 : decode cX11_open 45 = .ok (.aload_n 0, 1) := by decide +kernel
theorem dX11_open_46 : decode cX11_open 46 = .ok (.getfield 32, 3) := by decide +kernel
theorem dX11_open_49 : decode cX11_open 49 = .ok (.iload 5, 2) := by decide +kernel
theorem dX11_open_51 : decode cX11_open 51 = .ok (.putfield 300, 3) := by decide +kernel
theorem dX11_open_54 : decode cX11_open 54 = .ok (.aload_n 0, 1) := by decide +kernel
theorem dX11_open_55 : decode cX11_open 55 = .ok (.invokevirtual 290, 3) := by decide +kernel
theorem dX11_open_58 : decode cX11_open 58 = .ok (.ifCond .eq 18, 3) := by decide +kernel
theorem dX11_open_61 : decode cX11_open 61 = .ok (.iload 4, 2) := by decide +kernel
theorem dX11_open_63 : decode cX11_open 63 = .ok (.ifCond .ne 8, 3) := by decide +kernel
theorem dX11_open_66 : decode cX11_open 66 = .ok (.iload 5, 2) := by decide +kernel
theorem dX11_open_68 : decode cX11_open 68 = .ok (.goto 4, 3) := by decide +kernel
theorem dX11_open_71 : decode cX11_open 71 = .ok (.iload_n 3, 1) := by decide +kernel
theorem dX11_open_72 : decode cX11_open 72 = .ok (.istore_n 3, 1) := by decide +kernel
theorem dX11_open_73 : decode cX11_open 73 = .ok (.iinc 4 1, 3) := by decide +kernel
theorem dX11_open_76 : decode cX11_open 76 = .ok (.iinc 5 1, 3) := by decide +kernel
theorem dX11_open_79 : decode cX11_open 79 = .ok (.goto (-40), 3) := by decide +kernel
theorem dX11_open_82 : decode cX11_open 82 = .ok (.iload_n 1, 1) := by decide +kernel
theorem dX11_open_83 : decode cX11_open 83 = .ok (.ifCond .ne 8, 3) := by decide +kernel
theorem dX11_open_86 : decode cX11_open 86 = .ok (.iload 4, 2) := by decide +kernel
theorem dX11_open_88 : decode cX11_open 88 = .ok (.goto 4, 3) := by decide +kernel
theorem dX11_open_91 : decode cX11_open 91 = .ok (.iload_n 3, 1) := by decide +kernel
theorem dX11_open_92 : decode cX11_open 92 = .ok (.ireturn, 1) := by decide +kernel
theorem dX11_sightsHold_0 : decode cX11_sightsHold 0 = .ok (.aload_n 0, 1) := by decide +kernel
theorem dX11_sightsHold_1 : decode cX11_sightsHold 1 = .ok (.getfield 12, 3) := by decide +kernel
theorem dX11_sightsHold_4 : decode cX11_sightsHold 4 = .ok (.getfield 97, 3) := by decide +kernel
theorem dX11_sightsHold_7 : decode cX11_sightsHold 7 = .ok (.astore_n 1, 1) := by decide +kernel
theorem dX11_sightsHold_8 : decode cX11_sightsHold 8 = .ok (.iconst 0, 1) := by decide +kernel
theorem dX11_sightsHold_9 : decode cX11_sightsHold 9 = .ok (.istore_n 2, 1) := by decide +kernel
theorem dX11_sightsHold_10 : decode cX11_sightsHold 10 = .ok (.iload_n 2, 1) := by decide +kernel
theorem dX11_sightsHold_11 : decode cX11_sightsHold 11 = .ok (.aload_n 1, 1) := by decide +kernel
theorem dX11_sightsHold_12 : decode cX11_sightsHold 12 = .ok (.getfield 101, 3) := by decide +kernel
theorem dX11_sightsHold_15 : decode cX11_sightsHold 15 = .ok (.if_icmp .ge 61, 3) := by decide +kernel
theorem dX11_sightsHold_18 : decode cX11_sightsHold 18 = .ok (.iload_n 2, 1) := by decide +kernel
theorem dX11_sightsHold_19 : decode cX11_sightsHold 19 = .ok (.bipush 6, 2) := by decide +kernel
theorem dX11_sightsHold_21 : decode cX11_sightsHold 21 = .ok (.if_icmp .ge 55, 3) := by decide +kernel
theorem dX11_sightsHold_24 : decode cX11_sightsHold 24 = .ok (.aload_n 1, 1) := by decide +kernel
theorem dX11_sightsHold_25 : decode cX11_sightsHold 25 = .ok (.getfield 303, 3) := by decide +kernel
theorem dX11_sightsHold_28 : decode cX11_sightsHold 28 = .ok (.iload_n 2, 1) := by decide +kernel
theorem dX11_sightsHold_29 : decode cX11_sightsHold 29 = .ok (.iaload, 1) := by decide +kernel
theorem dX11_sightsHold_30 : decode cX11_sightsHold 30 = .ok (.istore_n 3, 1) := by decide +kernel
theorem dX11_sightsHold_31 : decode cX11_sightsHold 31 = .ok (.aload_n 0, 1) := by decide +kernel
theorem dX11_sightsHold_32 : decode cX11_sightsHold 32 = .ok (.getfield 12, 3) := by decide +kernel
theorem dX11_sightsHold_35 : decode cX11_sightsHold 35 = .ok (.getfield 88, 3) := by decide +kernel
theorem dX11_sightsHold_38 : decode cX11_sightsHold 38 = .ok (.iload_n 3, 1) := by decide +kernel
theorem dX11_sightsHold_39 : decode cX11_sightsHold 39 = .ok (.invokevirtual 137, 3) := by decide +kernel
theorem dX11_sightsHold_42 : decode cX11_sightsHold 42 = .ok (.ifCond .eq 26, 3) := by decide +kernel
theorem dX11_sightsHold_45 : decode cX11_sightsHold 45 = .ok (.aload_n 0, 1) := by decide +kernel
theorem dX11_sightsHold_46 : decode cX11_sightsHold 46 = .ok (.getfield 32, 3) := by decide +kernel
theorem dX11_sightsHold_49 : decode cX11_sightsHold 49 = .ok (.iload_n 3, 1) := by decide +kernel
theorem dX11_sightsHold_50 : decode cX11_sightsHold 50 = .ok (.aload_n 1, 1) := by decide +kernel
theorem dX11_sightsHold_51 : decode cX11_sightsHold 51 = .ok (.getfield 306, 3) := by decide +kernel
theorem dX11_sightsHold_54 : decode cX11_sightsHold 54 = .ok (.iload_n 2, 1) := by decide +kernel
theorem dX11_sightsHold_55 : decode cX11_sightsHold 55 = .ok (.iaload, 1) := by decide +kernel
theorem dX11_sightsHold_56 : decode cX11_sightsHold 56 = .ok (.invokevirtual 209, 3) := by decide +kernel
theorem dX11_sightsHold_59 : decode cX11_sightsHold 59 = .ok (.aload_n 1, 1) := by decide +kernel
theorem dX11_sightsHold_60 : decode cX11_sightsHold 60 = .ok (.getfield 309, 3) := by decide +kernel
theorem dX11_sightsHold_63 : decode cX11_sightsHold 63 = .ok (.iload_n 2, 1) := by decide +kernel
theorem dX11_sightsHold_64 : decode cX11_sightsHold 64 = .ok (.iaload, 1) := by decide +kernel
theorem dX11_sightsHold_65 : decode cX11_sightsHold 65 = .ok (.if_icmp .eq 5, 3) := by decide +kernel
theorem dX11_sightsHold_68 : decode cX11_sightsHold 68 = .ok (.iconst 0, 1) := by decide +kernel
theorem dX11_sightsHold_69 : decode cX11_sightsHold 69 = .ok (.ireturn, 1) := by decide +kernel
theorem dX11_sightsHold_70 : decode cX11_sightsHold 70 = .ok (.iinc 2 1, 3) := by decide +kernel
theorem dX11_sightsHold_73 : decode cX11_sightsHold 73 = .ok (.goto (-63), 3) := by decide +kernel
theorem dX11_sightsHold_76 : decode cX11_sightsHold 76 = .ok (.iconst 1, 1) := by decide +kernel
theorem dX11_sightsHold_77 : decode cX11_sightsHold 77 = .ok (.ireturn, 1) := by decide +kernel
theorem dX11_shifts_0 : decode cX11_shifts 0 = .ok (.iload_n 1, 1) := by decide +kernel
theorem dX11_shifts_1 : decode cX11_shifts 1 = .ok (.iconst 0, 1) := by decide +kernel
theorem dX11_shifts_2 : decode cX11_shifts 2 = .ok (.bipush 9, 2) := by decide +kernel
theorem dX11_shifts_4 : decode cX11_shifts 4 = .ok (.invokestatic 70, 3) := by decide +kernel
theorem dX11_shifts_7 : decode cX11_shifts 7 = .ok (.ifCond .eq 22, 3) := by decide +kernel
theorem dX11_shifts_10 : decode cX11_shifts 10 = .ok (.iload_n 2, 1) := by decide +kernel
theorem dX11_shifts_11 : decode cX11_shifts 11 = .ok (.iconst 1, 1) := by decide +kernel
theorem dX11_shifts_12 : decode cX11_shifts 12 = .ok (.bipush 30, 2) := by decide +kernel
theorem dX11_shifts_14 : decode cX11_shifts 14 = .ok (.invokestatic 70, 3) := by decide +kernel
theorem dX11_shifts_17 : decode cX11_shifts 17 = .ok (.ifCond .eq 12, 3) := by decide +kernel
theorem dX11_shifts_20 : decode cX11_shifts 20 = .ok (.iload_n 3, 1) := by decide +kernel
theorem dX11_shifts_21 : decode cX11_shifts 21 = .ok (.iconst 0, 1) := by decide +kernel
theorem dX11_shifts_22 : decode cX11_shifts 22 = .ok (.iconst 1, 1) := by decide +kernel
theorem dX11_shifts_23 : decode cX11_shifts 23 = .ok (.invokestatic 70, 3) := by decide +kernel
theorem dX11_shifts_26 : decode cX11_shifts 26 = .ok (.ifCond .ne 6, 3) := by decide +kernel
theorem dX11_shifts_29 : decode cX11_shifts 29 = .ok (.bipush (-2), 2) := by decide +kernel
theorem dX11_shifts_31 : decode cX11_shifts 31 = .ok (.ireturn, 1) := by decide +kernel
theorem dX11_shifts_32 : decode cX11_shifts 32 = .ok (.aload_n 0, 1) := by decide +kernel
theorem dX11_shifts_33 : decode cX11_shifts 33 = .ok (.getfield 12, 3) := by decide +kernel
theorem dX11_shifts_36 : decode cX11_shifts 36 = .ok (.getfield 158, 3) := by decide +kernel
theorem dX11_shifts_39 : decode cX11_shifts 39 = .ok (.getfield 168, 3) := by decide +kernel
theorem dX11_shifts_42 : decode cX11_shifts 42 = .ok (.bipush 12, 2) := by decide +kernel
theorem dX11_shifts_44 : decode cX11_shifts 44 = .ok (.if_icmp .le 6, 3) := by decide +kernel
theorem dX11_shifts_47 : decode cX11_shifts 47 = .ok (.bipush (-4), 2) := by decide +kernel
theorem dX11_shifts_49 : decode cX11_shifts 49 = .ok (.ireturn, 1) := by decide +kernel
theorem dX11_shifts_50 : decode cX11_shifts 50 = .ok (.aload_n 0, 1) := by decide +kernel
theorem dX11_shifts_51 : decode cX11_shifts 51 = .ok (.iload_n 2, 1) := by decide +kernel
theorem dX11_shifts_52 : decode cX11_shifts 52 = .ok (.invokevirtual 310, 3) := by decide +kernel
theorem dX11_shifts_55 : decode cX11_shifts 55 = .ok (.aload_n 0, 1) := by decide +kernel
theorem dX11_shifts_56 : decode cX11_shifts 56 = .ok (.aload_n 0, 1) := by decide +kernel
theorem dX11_shifts_57 : decode cX11_shifts 57 = .ok (.getfield 12, 3) := by decide +kernel
theorem dX11_shifts_60 : decode cX11_shifts 60 = .ok (.getfield 158, 3) := by decide +kernel
theorem dX11_shifts_63 : decode cX11_shifts 63 = .ok (.iload_n 1, 1) := by decide +kernel
theorem dX11_shifts_64 : decode cX11_shifts 64 = .ok (.invokevirtual 313, 3) := by decide +kernel
theorem dX11_shifts_67 : decode cX11_shifts 67 = .ok (.invokevirtual 316, 3) := by decide +kernel
theorem dX11_shifts_70 : decode cX11_shifts 70 = .ok (.istore 4, 2) := by decide +kernel
theorem dX11_shifts_72 : decode cX11_shifts 72 = .ok (.iload_n 3, 1) := by decide +kernel
theorem dX11_shifts_73 : decode cX11_shifts 73 = .ok (.ifCond .ne 11, 3) := by decide +kernel
theorem dX11_shifts_76 : decode cX11_shifts 76 = .ok (.iload 4, 2) := by decide +kernel
theorem dX11_shifts_78 : decode cX11_shifts 78 = .ok (.invokestatic 131, 3) := by decide +kernel
theorem dX11_shifts_81 : decode cX11_shifts 81 = .ok (.goto 5, 3) := by decide +kernel
theorem dX11_shifts_84 : decode cX11_shifts 84 = .ok (.iload 4, 2) := by decide +kernel
theorem dX11_shifts_86 : decode cX11_shifts 86 = .ok (.ireturn, 1) := by decide +kernel
theorem dX11_fillReach_0 : decode cX11_fillReach 0 = .ok (.aload_n 0, 1) := by decide +kernel
theorem dX11_fillReach_1 : decode cX11_fillReach 1 = .ok (.getfield 12, 3) := by decide +kernel
theorem dX11_fillReach_4 : decode cX11_fillReach 4 = .ok (.getfield 158, 3) := by decide +kernel
theorem dX11_fillReach_7 : decode cX11_fillReach 7 = .ok (.getfield 168, 3) := by decide +kernel
theorem dX11_fillReach_10 : decode cX11_fillReach 10 = .ok (.istore_n 2, 1) := by decide +kernel
theorem dX11_fillReach_11 : decode cX11_fillReach 11 = .ok (.iconst 0, 1) := by decide +kernel
theorem dX11_fillReach_12 : decode cX11_fillReach 12 = .ok (.istore_n 3, 1) := by decide +kernel
theorem dX11_fillReach_13 : decode cX11_fillReach 13 = .ok (.iload_n 3, 1) := by decide +kernel
theorem dX11_fillReach_14 : decode cX11_fillReach 14 = .ok (.iload_n 2, 1) := by decide +kernel
theorem dX11_fillReach_15 : decode cX11_fillReach 15 = .ok (.if_icmp .ge 60, 3) := by decide +kernel
theorem dX11_fillReach_18 : decode cX11_fillReach 18 = .ok (.iload_n 3, 1) := by decide +kernel
theorem dX11_fillReach_19 : decode cX11_fillReach 19 = .ok (.bipush 12, 2) := by decide +kernel
theorem dX11_fillReach_21 : decode cX11_fillReach 21 = .ok (.if_icmp .ge 54, 3) := by decide +kernel
theorem dX11_fillReach_24 : decode cX11_fillReach 24 = .ok (.iconst 0, 1) := by decide +kernel
theorem dX11_fillReach_25 : decode cX11_fillReach 25 = .ok (.istore 4, 2) := by decide +kernel
theorem dX11_fillReach_27 : decode cX11_fillReach 27 = .ok (.iconst 0, 1) := by decide +kernel
theorem dX11_fillReach_28 : decode cX11_fillReach 28 = .ok (.istore 5, 2) := by decide +kernel
theorem dX11_fillReach_30 : decode cX11_fillReach 30 = .ok (.iload 5, 2) := by decide +kernel
theorem dX11_fillReach_32 : decode cX11_fillReach 32 = .ok (.iload_n 1, 1) := by decide +kernel
theorem dX11_fillReach_33 : decode cX11_fillReach 33 = .ok (.if_icmp .ge 28, 3) := by decide +kernel
theorem dX11_fillReach_36 : decode cX11_fillReach 36 = .ok (.iload 5, 2) := by decide +kernel
theorem dX11_fillReach_38 : decode cX11_fillReach 38 = .ok (.iload_n 2, 1) := by decide +kernel
theorem dX11_fillReach_39 : decode cX11_fillReach 39 = .ok (.if_icmp .ge 22, 3) := by decide +kernel
theorem dX11_fillReach_42 : decode cX11_fillReach 42 = .ok (.iload 4, 2) := by decide +kernel
theorem dX11_fillReach_44 : decode cX11_fillReach 44 = .ok (.iconst 1, 1) := by decide +kernel
theorem dX11_fillReach_45 : decode cX11_fillReach 45 = .ok (.iload_n 3, 1) := by decide +kernel
theorem dX11_fillReach_46 : decode cX11_fillReach 46 = .ok (.iload 5, 2) := by decide +kernel
theorem dX11_fillReach_48 : decode cX11_fillReach 48 = .ok (.iadd, 1) := by decide +kernel
theorem dX11_fillReach_49 : decode cX11_fillReach 49 = .ok (.iload_n 2, 1) := by decide +kernel
theorem dX11_fillReach_50 : decode cX11_fillReach 50 = .ok (.irem, 1) := by decide +kernel
theorem dX11_fillReach_51 : decode cX11_fillReach 51 = .ok (.ishl, 1) := by decide +kernel
theorem dX11_fillReach_52 : decode cX11_fillReach 52 = .ok (.ior, 1) := by decide +kernel
theorem dX11_fillReach_53 : decode cX11_fillReach 53 = .ok (.istore 4, 2) := by decide +kernel
theorem dX11_fillReach_55 : decode cX11_fillReach 55 = .ok (.iinc 5 1, 3) := by decide +kernel
theorem dX11_fillReach_58 : decode cX11_fillReach 58 = .ok (.goto (-28), 3) := by decide +kernel
theorem dX11_fillReach_61 : decode cX11_fillReach 61 = .ok (.aload_n 0, 1) := by decide +kernel
theorem dX11_fillReach_62 : decode cX11_fillReach 62 = .ok (.getfield 66, 3) := by decide +kernel
theorem dX11_fillReach_65 : decode cX11_fillReach 65 = .ok (.iload_n 3, 1) := by decide +kernel
theorem dX11_fillReach_66 : decode cX11_fillReach 66 = .ok (.iload 4, 2) := by decide +kernel
theorem dX11_fillReach_68 : decode cX11_fillReach 68 = .ok (.iastore, 1) := by decide +kernel
theorem dX11_fillReach_69 : decode cX11_fillReach 69 = .ok (.iinc 3 1, 3) := by decide +kernel
theorem dX11_fillReach_72 : decode cX11_fillReach 72 = .ok (.goto (-59), 3) := by decide +kernel
theorem dX11_fillReach_75 : decode cX11_fillReach 75 = .ok (.return_, 1) := by decide +kernel
theorem dX11_fewestBegins_0 : decode cX11_fewestBegins 0 = .ok (.iconst 1, 1) := by decide +kernel
theorem dX11_fewestBegins_1 : decode cX11_fewestBegins 1 = .ok (.aload_n 0, 1) := by decide +kernel
theorem dX11_fewestBegins_2 : decode cX11_fewestBegins 2 = .ok (.getfield 12, 3) := by decide +kernel
theorem dX11_fewestBegins_5 : decode cX11_fewestBegins 5 = .ok (.getfield 158, 3) := by decide +kernel
theorem dX11_fewestBegins_8 : decode cX11_fewestBegins 8 = .ok (.getfield 168, 3) := by decide +kernel
theorem dX11_fewestBegins_11 : decode cX11_fewestBegins 11 = .ok (.bipush 12, 2) := by decide +kernel
theorem dX11_fewestBegins_13 : decode cX11_fewestBegins 13 = .ok (.invokestatic 319, 3) := by decide +kernel
theorem dX11_fewestBegins_16 : decode cX11_fewestBegins 16 = .ok (.ishl, 1) := by decide +kernel
theorem dX11_fewestBegins_17 : decode cX11_fewestBegins 17 = .ok (.istore_n 2, 1) := by decide +kernel
theorem dX11_fewestBegins_18 : decode cX11_fewestBegins 18 = .ok (.iload_n 2, 1) := by decide +kernel
theorem dX11_fewestBegins_19 : decode cX11_fewestBegins 19 = .ok (.iconst 1, 1) := by decide +kernel
theorem dX11_fewestBegins_20 : decode cX11_fewestBegins 20 = .ok (.isub, 1) := by decide +kernel
theorem dX11_fewestBegins_21 : decode cX11_fewestBegins 21 = .ok (.istore_n 3, 1) := by decide +kernel
theorem dX11_fewestBegins_22 : decode cX11_fewestBegins 22 = .ok (.iconst 0, 1) := by decide +kernel
theorem dX11_fewestBegins_23 : decode cX11_fewestBegins 23 = .ok (.istore 4, 2) := by decide +kernel
theorem dX11_fewestBegins_25 : decode cX11_fewestBegins 25 = .ok (.iload 4, 2) := by decide +kernel
theorem dX11_fewestBegins_27 : decode cX11_fewestBegins 27 = .ok (.iload_n 2, 1) := by decide +kernel
theorem dX11_fewestBegins_28 : decode cX11_fewestBegins 28 = .ok (.if_icmp .ge 49, 3) := by decide +kernel
theorem dX11_fewestBegins_31 : decode cX11_fewestBegins 31 = .ok (.iload 4, 2) := by decide +kernel
theorem dX11_fewestBegins_33 : decode cX11_fewestBegins 33 = .ok (.invokestatic 131, 3) := by decide +kernel
theorem dX11_fewestBegins_36 : decode cX11_fewestBegins 36 = .ok (.iload_n 3, 1) := by decide +kernel
theorem dX11_fewestBegins_37 : decode cX11_fewestBegins 37 = .ok (.invokestatic 131, 3) := by decide +kernel
theorem dX11_fewestBegins_40 : decode cX11_fewestBegins 40 = .ok (.if_icmp .ge 7, 3) := by decide +kernel
theorem dX11_fewestBegins_43 : decode cX11_fewestBegins 43 = .ok (.iconst 1, 1) := by decide +kernel
theorem dX11_fewestBegins_44 : decode cX11_fewestBegins 44 = .ok (.goto 4, 3) := by decide +kernel
theorem dX11_fewestBegins_47 : decode cX11_fewestBegins 47 = .ok (.iconst 0, 1) := by decide +kernel
theorem dX11_fewestBegins_48 : decode cX11_fewestBegins 48 = .ok (.istore 5, 2) := by decide +kernel
theorem dX11_fewestBegins_50 : decode cX11_fewestBegins 50 = .ok (.iload 5, 2) := by decide +kernel
theorem dX11_fewestBegins_52 : decode cX11_fewestBegins 52 = .ok (.ifCond .eq 19, 3) := by decide +kernel
theorem dX11_fewestBegins_55 : decode cX11_fewestBegins 55 = .ok (.iload_n 1, 1) := by decide +kernel
theorem dX11_fewestBegins_56 : decode cX11_fewestBegins 56 = .ok (.aload_n 0, 1) := by decide +kernel
theorem dX11_fewestBegins_57 : decode cX11_fewestBegins 57 = .ok (.iload 4, 2) := by decide +kernel
theorem dX11_fewestBegins_59 : decode cX11_fewestBegins 59 = .ok (.invokevirtual 324, 3) := by decide +kernel
theorem dX11_fewestBegins_62 : decode cX11_fewestBegins 62 = .ok (.iconst (-1), 1) := by decide +kernel
theorem dX11_fewestBegins_63 : decode cX11_fewestBegins 63 = .ok (.ixor, 1) := by decide +kernel
theorem dX11_fewestBegins_64 : decode cX11_fewestBegins 64 = .ok (.iand, 1) := by decide +kernel
theorem dX11_fewestBegins_65 : decode cX11_fewestBegins 65 = .ok (.ifCond .ne 6, 3) := by decide +kernel
theorem dX11_fewestBegins_68 : decode cX11_fewestBegins 68 = .ok (.iload 4, 2) := by decide +kernel
theorem dX11_fewestBegins_70 : decode cX11_fewestBegins 70 = .ok (.istore_n 3, 1) := by decide +kernel
theorem dX11_fewestBegins_71 : decode cX11_fewestBegins 71 = .ok (.iinc 4 1, 3) := by decide +kernel
theorem dX11_fewestBegins_74 : decode cX11_fewestBegins 74 = .ok (.goto (-49), 3) := by decide +kernel
theorem dX11_fewestBegins_77 : decode cX11_fewestBegins 77 = .ok (.iload_n 3, 1) := by decide +kernel
theorem dX11_fewestBegins_78 : decode cX11_fewestBegins 78 = .ok (.ireturn, 1) := by decide +kernel
theorem dX11_wakingDays_0 : decode cX11_wakingDays 0 = .ok (.iconst 0, 1) := by decide +kernel
theorem dX11_wakingDays_1 : decode cX11_wakingDays 1 = .ok (.istore_n 2, 1) := by decide +kernel
theorem dX11_wakingDays_2 : decode cX11_wakingDays 2 = .ok (.iconst 0, 1) := by decide +kernel
theorem dX11_wakingDays_3 : decode cX11_wakingDays 3 = .ok (.istore_n 3, 1) := by decide +kernel
theorem dX11_wakingDays_4 : decode cX11_wakingDays 4 = .ok (.iload_n 3, 1) := by decide +kernel
theorem dX11_wakingDays_5 : decode cX11_wakingDays 5 = .ok (.bipush 12, 2) := by decide +kernel
theorem dX11_wakingDays_7 : decode cX11_wakingDays 7 = .ok (.if_icmp .ge 30, 3) := by decide +kernel
theorem dX11_wakingDays_10 : decode cX11_wakingDays 10 = .ok (.iload_n 2, 1) := by decide +kernel
theorem dX11_wakingDays_11 : decode cX11_wakingDays 11 = .ok (.iload_n 1, 1) := by decide +kernel
theorem dX11_wakingDays_12 : decode cX11_wakingDays 12 = .ok (.iload_n 3, 1) := by decide +kernel
theorem dX11_wakingDays_13 : decode cX11_wakingDays 13 = .ok (.invokestatic 232, 3) := by decide +kernel
theorem dX11_wakingDays_16 : decode cX11_wakingDays 16 = .ok (.ifCond .eq 12, 3) := by decide +kernel
theorem dX11_wakingDays_19 : decode cX11_wakingDays 19 = .ok (.aload_n 0, 1) := by decide +kernel
theorem dX11_wakingDays_20 : decode cX11_wakingDays 20 = .ok (.getfield 66, 3) := by decide +kernel
theorem dX11_wakingDays_23 : decode cX11_wakingDays 23 = .ok (.iload_n 3, 1) := by decide +kernel
theorem dX11_wakingDays_24 : decode cX11_wakingDays 24 = .ok (.iaload, 1) := by decide +kernel
theorem dX11_wakingDays_25 : decode cX11_wakingDays 25 = .ok (.goto 4, 3) := by decide +kernel
theorem dX11_wakingDays_28 : decode cX11_wakingDays 28 = .ok (.iconst 0, 1) := by decide +kernel
theorem dX11_wakingDays_29 : decode cX11_wakingDays 29 = .ok (.ior, 1) := by decide +kernel
theorem dX11_wakingDays_30 : decode cX11_wakingDays 30 = .ok (.istore_n 2, 1) := by decide +kernel
theorem dX11_wakingDays_31 : decode cX11_wakingDays 31 = .ok (.iinc 3 1, 3) := by decide +kernel
theorem dX11_wakingDays_34 : decode cX11_wakingDays 34 = .ok (.goto (-30), 3) := by decide +kernel
theorem dX11_wakingDays_37 : decode cX11_wakingDays 37 = .ok (.iload_n 2, 1) := by decide +kernel
theorem dX11_wakingDays_38 : decode cX11_wakingDays 38 = .ok (.ireturn, 1) := by decide +kernel
theorem dX11_drought_0 : decode cX11_drought 0 = .ok (.iload_n 1, 1) := by decide +kernel
theorem dX11_drought_1 : decode cX11_drought 1 = .ok (.iconst 0, 1) := by decide +kernel
theorem dX11_drought_2 : decode cX11_drought 2 = .ok (.sipush 999, 3) := by decide +kernel
theorem dX11_drought_5 : decode cX11_drought 5 = .ok (.invokestatic 70, 3) := by decide +kernel
theorem dX11_drought_8 : decode cX11_drought 8 = .ok (.ifCond .ne 6, 3) := by decide +kernel
theorem dX11_drought_11 : decode cX11_drought 11 = .ok (.bipush (-2), 2) := by decide +kernel
theorem dX11_drought_13 : decode cX11_drought 13 = .ok (.ireturn, 1) := by decide +kernel
theorem dX11_drought_14 : decode cX11_drought 14 = .ok (.aload_n 0, 1) := by decide +kernel
theorem dX11_drought_15 : decode cX11_drought 15 = .ok (.getfield 32, 3) := by decide +kernel
theorem dX11_drought_18 : decode cX11_drought 18 = .ok (.invokevirtual 171, 3) := by decide +kernel
theorem dX11_drought_21 : decode cX11_drought 21 = .ok (.iconst 0, 1) := by decide +kernel
theorem dX11_drought_22 : decode cX11_drought 22 = .ok (.istore_n 2, 1) := by decide +kernel
theorem dX11_drought_23 : decode cX11_drought 23 = .ok (.iload_n 2, 1) := by decide +kernel
theorem dX11_drought_24 : decode cX11_drought 24 = .ok (.bipush 9, 2) := by decide +kernel
theorem dX11_drought_26 : decode cX11_drought 26 = .ok (.if_icmp .ge 27, 3) := by decide +kernel
theorem dX11_drought_29 : decode cX11_drought 29 = .ok (.aload_n 0, 1) := by decide +kernel
theorem dX11_drought_30 : decode cX11_drought 30 = .ok (.getfield 32, 3) := by decide +kernel
theorem dX11_drought_33 : decode cX11_drought 33 = .ok (.iload_n 2, 1) := by decide +kernel
theorem dX11_drought_34 : decode cX11_drought 34 = .ok (.putfield 327, 3) := by decide +kernel
theorem dX11_drought_37 : decode cX11_drought 37 = .ok (.aload_n 0, 1) := by decide +kernel
theorem dX11_drought_38 : decode cX11_drought 38 = .ok (.iload_n 1, 1) := by decide +kernel
theorem dX11_drought_39 : decode cX11_drought 39 = .ok (.invokevirtual 223, 3) := by decide +kernel
theorem dX11_drought_42 : decode cX11_drought 42 = .ok (.ifCond .ne 5, 3) := by decide +kernel
theorem dX11_drought_45 : decode cX11_drought 45 = .ok (.iload_n 2, 1) := by decide +kernel
theorem dX11_drought_46 : decode cX11_drought 46 = .ok (.ireturn, 1) := by decide +kernel
theorem dX11_drought_47 : decode cX11_drought 47 = .ok (.iinc 2 1, 3) := by decide +kernel
theorem dX11_drought_50 : decode cX11_drought 50 = .ok (.goto (-27), 3) := by decide +kernel
theorem dX11_drought_53 : decode cX11_drought 53 = .ok (.bipush 9, 2) := by decide +kernel
theorem dX11_drought_55 : decode cX11_drought 55 = .ok (.ireturn, 1) := by decide +kernel
theorem dX11_quiet_0 : decode cX11_quiet 0 = .ok (.aload_n 0, 1) := by decide +kernel
theorem dX11_quiet_1 : decode cX11_quiet 1 = .ok (.getfield 12, 3) := by decide +kernel
theorem dX11_quiet_4 : decode cX11_quiet 4 = .ok (.getfield 74, 3) := by decide +kernel
theorem dX11_quiet_7 : decode cX11_quiet 7 = .ok (.iload_n 1, 1) := by decide +kernel
theorem dX11_quiet_8 : decode cX11_quiet 8 = .ok (.invokevirtual 104, 3) := by decide +kernel
theorem dX11_quiet_11 : decode cX11_quiet 11 = .ok (.ifCond .ne 5, 3) := by decide +kernel
theorem dX11_quiet_14 : decode cX11_quiet 14 = .ok (.iconst (-1), 1) := by decide +kernel
theorem dX11_quiet_15 : decode cX11_quiet 15 = .ok (.ireturn, 1) := by decide +kernel
theorem dX11_quiet_16 : decode cX11_quiet 16 = .ok (.aload_n 0, 1) := by decide +kernel
theorem dX11_quiet_17 : decode cX11_quiet 17 = .ok (.getfield 32, 3) := by decide +kernel
theorem dX11_quiet_20 : decode cX11_quiet 20 = .ok (.invokevirtual 171, 3) := by decide +kernel
theorem dX11_quiet_23 : decode cX11_quiet 23 = .ok (.aload_n 0, 1) := by decide +kernel
theorem dX11_quiet_24 : decode cX11_quiet 24 = .ok (.getfield 12, 3) := by decide +kernel
theorem dX11_quiet_27 : decode cX11_quiet 27 = .ok (.getfield 158, 3) := by decide +kernel
theorem dX11_quiet_30 : decode cX11_quiet 30 = .ok (.getfield 168, 3) := by decide +kernel
theorem dX11_quiet_33 : decode cX11_quiet 33 = .ok (.istore_n 2, 1) := by decide +kernel
theorem dX11_quiet_34 : decode cX11_quiet 34 = .ok (.iconst 0, 1) := by decide +kernel
theorem dX11_quiet_35 : decode cX11_quiet 35 = .ok (.istore_n 3, 1) := by decide +kernel
theorem dX11_quiet_36 : decode cX11_quiet 36 = .ok (.iconst 0, 1) := by decide +kernel
theorem dX11_quiet_37 : decode cX11_quiet 37 = .ok (.istore 4, 2) := by decide +kernel
theorem dX11_quiet_39 : decode cX11_quiet 39 = .ok (.iconst 0, 1) := by decide +kernel
theorem dX11_quiet_40 : decode cX11_quiet 40 = .ok (.istore 5, 2) := by decide +kernel
theorem dX11_quiet_42 : decode cX11_quiet 42 = .ok (.iload 5, 2) := by decide +kernel
theorem dX11_quiet_44 : decode cX11_quiet 44 = .ok (.iconst 2, 1) := by decide +kernel
theorem dX11_quiet_45 : decode cX11_quiet 45 = .ok (.iload_n 2, 1) := by decide +kernel
theorem dX11_quiet_46 : decode cX11_quiet 46 = .ok (.imul, 1) := by decide +kernel
theorem dX11_quiet_47 : decode cX11_quiet 47 = .ok (.if_icmp .ge 46, 3) := by decide +kernel
theorem dX11_quiet_50 : decode cX11_quiet 50 = .ok (.aload_n 0, 1) := by decide +kernel
theorem dX11_quiet_51 : decode cX11_quiet 51 = .ok (.getfield 32, 3) := by decide +kernel
theorem dX11_quiet_54 : decode cX11_quiet 54 = .ok (.iload_n 1, 1) := by decide +kernel
theorem dX11_quiet_55 : decode cX11_quiet 55 = .ok (.aload_n 0, 1) := by decide +kernel
theorem dX11_quiet_56 : decode cX11_quiet 56 = .ok (.getfield 32, 3) := by decide +kernel
theorem dX11_quiet_59 : decode cX11_quiet 59 = .ok (.iload 5, 2) := by decide +kernel
theorem dX11_quiet_61 : decode cX11_quiet 61 = .ok (.invokevirtual 174, 3) := by decide +kernel
theorem dX11_quiet_64 : decode cX11_quiet 64 = .ok (.invokevirtual 177, 3) := by decide +kernel
theorem dX11_quiet_67 : decode cX11_quiet 67 = .ok (.ifCond .ne 10, 3) := by decide +kernel
theorem dX11_quiet_70 : decode cX11_quiet 70 = .ok (.iload 4, 2) := by decide +kernel
theorem dX11_quiet_72 : decode cX11_quiet 72 = .ok (.iconst 1, 1) := by decide +kernel
theorem dX11_quiet_73 : decode cX11_quiet 73 = .ok (.iadd, 1) := by decide +kernel
theorem dX11_quiet_74 : decode cX11_quiet 74 = .ok (.goto 4, 3) := by decide +kernel
theorem dX11_quiet_77 : decode cX11_quiet 77 = .ok (.iconst 0, 1) := by decide +kernel
theorem dX11_quiet_78 : decode cX11_quiet 78 = .ok (.istore 4, 2) := by decide +kernel
theorem dX11_quiet_80 : decode cX11_quiet 80 = .ok (.iload_n 3, 1) := by decide +kernel
theorem dX11_quiet_81 : decode cX11_quiet 81 = .ok (.iload 4, 2) := by decide +kernel
theorem dX11_quiet_83 : decode cX11_quiet 83 = .ok (.invokestatic 330, 3) := by decide +kernel
theorem dX11_quiet_86 : decode cX11_quiet 86 = .ok (.istore_n 3, 1) := by decide +kernel
theorem dX11_quiet_87 : decode cX11_quiet 87 = .ok (.iinc 5 1, 3) := by decide +kernel
theorem dX11_quiet_90 : decode cX11_quiet 90 = .ok (.goto (-48), 3) := by decide +kernel
theorem dX11_quiet_93 : decode cX11_quiet 93 = .ok (.iload_n 3, 1) := by decide +kernel
theorem dX11_quiet_94 : decode cX11_quiet 94 = .ok (.iload_n 2, 1) := by decide +kernel
theorem dX11_quiet_95 : decode cX11_quiet 95 = .ok (.if_icmp .lt 8, 3) := by decide +kernel
theorem dX11_quiet_98 : decode cX11_quiet 98 = .ok (.bipush (-6), 2) := by decide +kernel
theorem dX11_quiet_100 : decode cX11_quiet 100 = .ok (.goto 4, 3) := by decide +kernel
theorem dX11_quiet_103 : decode cX11_quiet 103 = .ok (.iload_n 3, 1) := by decide +kernel
theorem dX11_quiet_104 : decode cX11_quiet 104 = .ok (.ireturn, 1) := by decide +kernel
theorem dX11_period_0 : decode cX11_period 0 = .ok (.aload_n 0, 1) := by decide +kernel
theorem dX11_period_1 : decode cX11_period 1 = .ok (.getfield 12, 3) := by decide +kernel
theorem dX11_period_4 : decode cX11_period 4 = .ok (.getfield 158, 3) := by decide +kernel
theorem dX11_period_7 : decode cX11_period 7 = .ok (.getfield 168, 3) := by decide +kernel
theorem dX11_period_10 : decode cX11_period 10 = .ok (.istore_n 1, 1) := by decide +kernel
theorem dX11_period_11 : decode cX11_period 11 = .ok (.iconst 1, 1) := by decide +kernel
theorem dX11_period_12 : decode cX11_period 12 = .ok (.istore_n 2, 1) := by decide +kernel
theorem dX11_period_13 : decode cX11_period 13 = .ok (.iload_n 2, 1) := by decide +kernel
theorem dX11_period_14 : decode cX11_period 14 = .ok (.iload_n 1, 1) := by decide +kernel
theorem dX11_period_15 : decode cX11_period 15 = .ok (.if_icmp .ge 31, 3) := by decide +kernel
theorem dX11_period_18 : decode cX11_period 18 = .ok (.iload_n 1, 1) := by decide +kernel
theorem dX11_period_19 : decode cX11_period 19 = .ok (.iload_n 2, 1) := by decide +kernel
theorem dX11_period_20 : decode cX11_period 20 = .ok (.irem, 1) := by decide +kernel
theorem dX11_period_21 : decode cX11_period 21 = .ok (.ifCond .ne 19, 3) := by decide +kernel
theorem dX11_period_24 : decode cX11_period 24 = .ok (.aload_n 0, 1) := by decide +kernel
theorem dX11_period_25 : decode cX11_period 25 = .ok (.getfield 12, 3) := by decide +kernel
theorem dX11_period_28 : decode cX11_period 28 = .ok (.getfield 158, 3) := by decide +kernel
theorem dX11_period_31 : decode cX11_period 31 = .ok (.iload_n 2, 1) := by decide +kernel
theorem dX11_period_32 : decode cX11_period 32 = .ok (.invokevirtual 333, 3) := by decide +kernel
theorem dX11_period_35 : decode cX11_period 35 = .ok (.ifCond .eq 5, 3) := by decide +kernel
theorem dX11_period_38 : decode cX11_period 38 = .ok (.iload_n 2, 1) := by decide +kernel
theorem dX11_period_39 : decode cX11_period 39 = .ok (.ireturn, 1) := by decide +kernel
theorem dX11_period_40 : decode cX11_period 40 = .ok (.iinc 2 1, 3) := by decide +kernel
theorem dX11_period_43 : decode cX11_period 43 = .ok (.goto (-30), 3) := by decide +kernel
theorem dX11_period_46 : decode cX11_period 46 = .ok (.iload_n 1, 1) := by decide +kernel
theorem dX11_period_47 : decode cX11_period 47 = .ok (.ireturn, 1) := by decide +kernel
theorem dX11_year_0 : decode cX11_year 0 = .ok (.iload_n 1, 1) := by decide +kernel
theorem dX11_year_1 : decode cX11_year 1 = .ok (.iconst 0, 1) := by decide +kernel
theorem dX11_year_2 : decode cX11_year 2 = .ok (.sipush 9999, 3) := by decide +kernel
theorem dX11_year_5 : decode cX11_year 5 = .ok (.invokestatic 70, 3) := by decide +kernel
theorem dX11_year_8 : decode cX11_year 8 = .ok (.ifCond .eq 34, 3) := by decide +kernel
theorem dX11_year_11 : decode cX11_year 11 = .ok (.iload_n 2, 1) := by decide +kernel
theorem dX11_year_12 : decode cX11_year 12 = .ok (.iconst 1, 1) := by decide +kernel
theorem dX11_year_13 : decode cX11_year 13 = .ok (.sipush 999, 3) := by decide +kernel
theorem dX11_year_16 : decode cX11_year 16 = .ok (.invokestatic 70, 3) := by decide +kernel
theorem dX11_year_19 : decode cX11_year 19 = .ok (.ifCond .eq 23, 3) := by decide +kernel
theorem dX11_year_22 : decode cX11_year 22 = .ok (.iload_n 3, 1) := by decide +kernel
theorem dX11_year_23 : decode cX11_year 23 = .ok (.iconst 1, 1) := by decide +kernel
theorem dX11_year_24 : decode cX11_year 24 = .ok (.bipush 99, 2) := by decide +kernel
theorem dX11_year_26 : decode cX11_year 26 = .ok (.invokestatic 70, 3) := by decide +kernel
theorem dX11_year_29 : decode cX11_year 29 = .ok (.ifCond .eq 13, 3) := by decide +kernel
theorem dX11_year_32 : decode cX11_year 32 = .ok (.iload 4, 2) := by decide +kernel
theorem dX11_year_34 : decode cX11_year 34 = .ok (.iconst 0, 1) := by decide +kernel
theorem dX11_year_35 : decode cX11_year 35 = .ok (.iconst 1, 1) := by decide +kernel
theorem dX11_year_36 : decode cX11_year 36 = .ok (.invokestatic 70, 3) := by decide +kernel
theorem dX11_year_39 : decode cX11_year 39 = .ok (.ifCond .ne 6, 3) := by decide +kernel
theorem dX11_year_42 : decode cX11_year 42 = .ok (.bipush (-2), 2) := by decide +kernel
theorem dX11_year_44 : decode cX11_year 44 = .ok (.ireturn, 1) := by decide +kernel
theorem dX11_year_45 : decode cX11_year 45 = .ok (.aload_n 0, 1) := by decide +kernel
theorem dX11_year_46 : decode cX11_year 46 = .ok (.getfield 32, 3) := by decide +kernel
theorem dX11_year_49 : decode cX11_year 49 = .ok (.invokevirtual 171, 3) := by decide +kernel
theorem dX11_year_52 : decode cX11_year 52 = .ok (.aload_n 0, 1) := by decide +kernel
theorem dX11_year_53 : decode cX11_year 53 = .ok (.getfield 41, 3) := by decide +kernel
theorem dX11_year_56 : decode cX11_year 56 = .ok (.invokevirtual 252, 3) := by decide +kernel
theorem dX11_year_59 : decode cX11_year 59 = .ok (.iload_n 1, 1) := by decide +kernel
theorem dX11_year_60 : decode cX11_year 60 = .ok (.istore 5, 2) := by decide +kernel
theorem dX11_year_62 : decode cX11_year 62 = .ok (.iconst 0, 1) := by decide +kernel
theorem dX11_year_63 : decode cX11_year 63 = .ok (.istore 6, 2) := by decide +kernel
theorem dX11_year_65 : decode cX11_year 65 = .ok (.iconst 0, 1) := by decide +kernel
theorem dX11_year_66 : decode cX11_year 66 = .ok (.istore 7, 2) := by decide +kernel
theorem dX11_year_68 : decode cX11_year 68 = .ok (.iload 7, 2) := by decide +kernel
theorem dX11_year_70 : decode cX11_year 70 = .ok (.iload_n 2, 1) := by decide +kernel
theorem dX11_year_71 : decode cX11_year 71 = .ok (.if_icmp .ge 53, 3) := by decide +kernel
theorem dX11_year_74 : decode cX11_year 74 = .ok (.bipush 75, 2) := by decide +kernel
theorem dX11_year_76 : decode cX11_year 76 = .ok (.iload 5, 2) := by decide +kernel
theorem dX11_year_78 : decode cX11_year 78 = .ok (.imul, 1) := by decide +kernel
theorem dX11_year_79 : decode cX11_year 79 = .ok (.bipush 74, 2) := by decide +kernel
theorem dX11_year_81 : decode cX11_year 81 = .ok (.iadd, 1) := by decide +kernel
theorem dX11_year_82 : decode cX11_year 82 = .ok (.ldc_w 336, 3) := by decide +kernel
theorem dX11_year_85 : decode cX11_year 85 = .ok (.irem, 1) := by decide +kernel
theorem dX11_year_86 : decode cX11_year 86 = .ok (.istore 5, 2) := by decide +kernel
theorem dX11_year_88 : decode cX11_year 88 = .ok (.iload 5, 2) := by decide +kernel
theorem dX11_year_90 : decode cX11_year 90 = .ok (.iload_n 3, 1) := by decide +kernel
theorem dX11_year_91 : decode cX11_year 91 = .ok (.irem, 1) := by decide +kernel
theorem dX11_year_92 : decode cX11_year 92 = .ok (.ifCond .ne 7, 3) := by decide +kernel
theorem dX11_year_95 : decode cX11_year 95 = .ok (.iconst 1, 1) := by decide +kernel
theorem dX11_year_96 : decode cX11_year 96 = .ok (.goto 4, 3) := by decide +kernel
theorem dX11_year_99 : decode cX11_year 99 = .ok (.iconst 0, 1) := by decide +kernel
theorem dX11_year_100 : decode cX11_year 100 = .ok (.istore 8, 2) := by decide +kernel
theorem dX11_year_102 : decode cX11_year 102 = .ok (.iload 6, 2) := by decide +kernel
theorem dX11_year_104 : decode cX11_year 104 = .ok (.iload 8, 2) := by decide +kernel
theorem dX11_year_106 : decode cX11_year 106 = .ok (.iadd, 1) := by decide +kernel
theorem dX11_year_107 : decode cX11_year 107 = .ok (.istore 6, 2) := by decide +kernel
theorem dX11_year_109 : decode cX11_year 109 = .ok (.aload_n 0, 1) := by decide +kernel
theorem dX11_year_110 : decode cX11_year 110 = .ok (.getfield 41, 3) := by decide +kernel
theorem dX11_year_113 : decode cX11_year 113 = .ok (.iload 8, 2) := by decide +kernel
theorem dX11_year_115 : decode cX11_year 115 = .ok (.invokevirtual 258, 3) := by decide +kernel
theorem dX11_year_118 : decode cX11_year 118 = .ok (.iinc 7 1, 3) := by decide +kernel
theorem dX11_year_121 : decode cX11_year 121 = .ok (.goto (-53), 3) := by decide +kernel
theorem dX11_year_124 : decode cX11_year 124 = .ok (.iload 4, 2) := by decide +kernel
theorem dX11_year_126 : decode cX11_year 126 = .ok (.ifCond .ne 13, 3) := by decide +kernel
theorem dX11_year_129 : decode cX11_year 129 = .ok (.aload_n 0, 1) := by decide +kernel
theorem dX11_year_130 : decode cX11_year 130 = .ok (.getfield 41, 3) := by decide +kernel
theorem dX11_year_133 : decode cX11_year 133 = .ok (.invokevirtual 337, 3) := by decide +kernel
theorem dX11_year_136 : decode cX11_year 136 = .ok (.goto 5, 3) := by decide +kernel
theorem dX11_year_139 : decode cX11_year 139 = .ok (.iload 6, 2) := by decide +kernel
theorem dX11_year_141 : decode cX11_year 141 = .ok (.ireturn, 1) := by decide +kernel
theorem dX11_image_0 : decode cX11_image 0 = .ok (.iload_n 1, 1) := by decide +kernel
theorem dX11_image_1 : decode cX11_image 1 = .ok (.iconst 0, 1) := by decide +kernel
theorem dX11_image_2 : decode cX11_image 2 = .ok (.iconst 1, 1) := by decide +kernel
theorem dX11_image_3 : decode cX11_image 3 = .ok (.invokestatic 70, 3) := by decide +kernel
theorem dX11_image_6 : decode cX11_image 6 = .ok (.ifCond .ne 6, 3) := by decide +kernel
theorem dX11_image_9 : decode cX11_image 9 = .ok (.bipush (-2), 2) := by decide +kernel
theorem dX11_image_11 : decode cX11_image 11 = .ok (.ireturn, 1) := by decide +kernel
theorem dX11_image_12 : decode cX11_image 12 = .ok (.aload_n 0, 1) := by decide +kernel
theorem dX11_image_13 : decode cX11_image 13 = .ok (.getfield 16, 3) := by decide +kernel
theorem dX11_image_16 : decode cX11_image 16 = .ok (.iload_n 1, 1) := by decide +kernel
theorem dX11_image_17 : decode cX11_image 17 = .ok (.aaload, 1) := by decide +kernel
theorem dX11_image_18 : decode cX11_image 18 = .ok (.ifnonnull 16, 3) := by decide +kernel
theorem dX11_image_21 : decode cX11_image 21 = .ok (.aload_n 0, 1) := by decide +kernel
theorem dX11_image_22 : decode cX11_image 22 = .ok (.getfield 16, 3) := by decide +kernel
theorem dX11_image_25 : decode cX11_image 25 = .ok (.iload_n 1, 1) := by decide +kernel
theorem dX11_image_26 : decode cX11_image 26 = .ok (.new 9, 3) := by decide +kernel
theorem dX11_image_29 : decode cX11_image 29 = .ok (.dup, 1) := by decide +kernel
theorem dX11_image_30 : decode cX11_image 30 = .ok (.invokespecial 11, 3) := by decide +kernel
theorem dX11_image_33 : decode cX11_image 33 = .ok (.aastore, 1) := by decide +kernel
theorem dX11_image_34 : decode cX11_image 34 = .ok (.aload_n 0, 1) := by decide +kernel
theorem dX11_image_35 : decode cX11_image 35 = .ok (.getfield 16, 3) := by decide +kernel
theorem dX11_image_38 : decode cX11_image 38 = .ok (.iload_n 1, 1) := by decide +kernel
theorem dX11_image_39 : decode cX11_image 39 = .ok (.aaload, 1) := by decide +kernel
theorem dX11_image_40 : decode cX11_image 40 = .ok (.aload_n 0, 1) := by decide +kernel
theorem dX11_image_41 : decode cX11_image 41 = .ok (.getfield 12, 3) := by decide +kernel
theorem dX11_image_44 : decode cX11_image 44 = .ok (.invokevirtual 340, 3) := by decide +kernel
theorem dX11_image_47 : decode cX11_image 47 = .ok (.iconst 1, 1) := by decide +kernel
theorem dX11_image_48 : decode cX11_image 48 = .ok (.ireturn, 1) := by decide +kernel
theorem dX11_restore_0 : decode cX11_restore 0 = .ok (.iload_n 1, 1) := by decide +kernel
theorem dX11_restore_1 : decode cX11_restore 1 = .ok (.iconst 0, 1) := by decide +kernel
theorem dX11_restore_2 : decode cX11_restore 2 = .ok (.iconst 1, 1) := by decide +kernel
theorem dX11_restore_3 : decode cX11_restore 3 = .ok (.invokestatic 70, 3) := by decide +kernel
theorem dX11_restore_6 : decode cX11_restore 6 = .ok (.ifCond .ne 6, 3) := by decide +kernel
theorem dX11_restore_9 : decode cX11_restore 9 = .ok (.bipush (-2), 2) := by decide +kernel
theorem dX11_restore_11 : decode cX11_restore 11 = .ok (.ireturn, 1) := by decide +kernel
theorem dX11_restore_12 : decode cX11_restore 12 = .ok (.aload_n 0, 1) := by decide +kernel
theorem dX11_restore_13 : decode cX11_restore 13 = .ok (.getfield 16, 3) := by decide +kernel
theorem dX11_restore_16 : decode cX11_restore 16 = .ok (.iload_n 1, 1) := by decide +kernel
theorem dX11_restore_17 : decode cX11_restore 17 = .ok (.aaload, 1) := by decide +kernel
theorem dX11_restore_18 : decode cX11_restore 18 = .ok (.astore_n 2, 1) := by decide +kernel
theorem dX11_restore_19 : decode cX11_restore 19 = .ok (.aload_n 2, 1) := by decide +kernel
theorem dX11_restore_20 : decode cX11_restore 20 = .ok (.ifnonnull 6, 3) := by decide +kernel
theorem dX11_restore_23 : decode cX11_restore 23 = .ok (.bipush (-3), 2) := by decide +kernel
theorem dX11_restore_25 : decode cX11_restore 25 = .ok (.ireturn, 1) := by decide +kernel
theorem dX11_restore_26 : decode cX11_restore 26 = .ok (.aload_n 0, 1) := by decide +kernel
theorem dX11_restore_27 : decode cX11_restore 27 = .ok (.getfield 12, 3) := by decide +kernel
theorem dX11_restore_30 : decode cX11_restore 30 = .ok (.aload_n 2, 1) := by decide +kernel
theorem dX11_restore_31 : decode cX11_restore 31 = .ok (.invokevirtual 340, 3) := by decide +kernel
theorem dX11_restore_34 : decode cX11_restore 34 = .ok (.iconst 1, 1) := by decide +kernel
theorem dX11_restore_35 : decode cX11_restore 35 = .ok (.ireturn, 1) := by decide +kernel
theorem dX11_told_0 : decode cX11_told 0 = .ok (.iload_n 1, 1) := by decide +kernel
theorem dX11_told_1 : decode cX11_told 1 = .ok (.bipush 100, 2) := by decide +kernel
theorem dX11_told_3 : decode cX11_told 3 = .ok (.if_icmp .lt 18, 3) := by decide +kernel
theorem dX11_told_6 : decode cX11_told 6 = .ok (.aload_n 0, 1) := by decide +kernel
theorem dX11_told_7 : decode cX11_told 7 = .ok (.iload_n 1, 1) := by decide +kernel
theorem dX11_told_8 : decode cX11_told 8 = .ok (.bipush 100, 2) := by decide +kernel
theorem dX11_told_10 : decode cX11_told 10 = .ok (.idiv, 1) := by decide +kernel
theorem dX11_told_11 : decode cX11_told 11 = .ok (.iconst 1, 1) := by decide +kernel
theorem dX11_told_12 : decode cX11_told 12 = .ok (.isub, 1) := by decide +kernel
theorem dX11_told_13 : decode cX11_told 13 = .ok (.iload_n 1, 1) := by decide +kernel
theorem dX11_told_14 : decode cX11_told 14 = .ok (.bipush 100, 2) := by decide +kernel
theorem dX11_told_16 : decode cX11_told 16 = .ok (.irem, 1) := by decide +kernel
theorem dX11_told_17 : decode cX11_told 17 = .ok (.invokevirtual 343, 3) := by decide +kernel
theorem dX11_told_20 : decode cX11_told 20 = .ok (.ireturn, 1) := by decide +kernel
theorem dX11_told_21 : decode cX11_told 21 = .ok (.iload_n 1, 1) := by decide +kernel
theorem dX11_told_22 : decode cX11_told 22 = .ok (.bipush 10, 2) := by decide +kernel
theorem dX11_told_24 : decode cX11_told 24 = .ok (.bipush 39, 2) := by decide +kernel
theorem dX11_told_26 : decode cX11_told 26 = .ok (.invokestatic 70, 3) := by decide +kernel
theorem dX11_told_29 : decode cX11_told 29 = .ok (.ifCond .eq 16, 3) := by decide +kernel
theorem dX11_told_32 : decode cX11_told 32 = .ok (.aload_n 0, 1) := by decide +kernel
theorem dX11_told_33 : decode cX11_told 33 = .ok (.iload_n 1, 1) := by decide +kernel
theorem dX11_told_34 : decode cX11_told 34 = .ok (.bipush 10, 2) := by decide +kernel
theorem dX11_told_36 : decode cX11_told 36 = .ok (.idiv, 1) := by decide +kernel
theorem dX11_told_37 : decode cX11_told 37 = .ok (.iload_n 1, 1) := by decide +kernel
theorem dX11_told_38 : decode cX11_told 38 = .ok (.bipush 10, 2) := by decide +kernel
theorem dX11_told_40 : decode cX11_told 40 = .ok (.irem, 1) := by decide +kernel
theorem dX11_told_41 : decode cX11_told 41 = .ok (.invokevirtual 346, 3) := by decide +kernel
theorem dX11_told_44 : decode cX11_told 44 = .ok (.ireturn, 1) := by decide +kernel
theorem dX11_told_45 : decode cX11_told 45 = .ok (.iload_n 1, 1) := by decide +kernel
theorem dX11_told_46 : decode cX11_told 46 = .ok (.bipush 40, 2) := by decide +kernel
theorem dX11_told_48 : decode cX11_told 48 = .ok (.bipush 43, 2) := by decide +kernel
theorem dX11_told_50 : decode cX11_told 50 = .ok (.invokestatic 70, 3) := by decide +kernel
theorem dX11_told_53 : decode cX11_told 53 = .ok (.ifCond .eq 18, 3) := by decide +kernel
theorem dX11_told_56 : decode cX11_told 56 = .ok (.aload_n 0, 1) := by decide +kernel
theorem dX11_told_57 : decode cX11_told 57 = .ok (.getfield 12, 3) := by decide +kernel
theorem dX11_told_60 : decode cX11_told 60 = .ok (.getfield 138, 3) := by decide +kernel
theorem dX11_told_63 : decode cX11_told 63 = .ok (.iconst 3, 1) := by decide +kernel
theorem dX11_told_64 : decode cX11_told 64 = .ok (.iload_n 1, 1) := by decide +kernel
theorem dX11_told_65 : decode cX11_told 65 = .ok (.iadd, 1) := by decide +kernel
theorem dX11_told_66 : decode cX11_told 66 = .ok (.bipush 40, 2) := by decide +kernel
theorem dX11_told_68 : decode cX11_told 68 = .ok (.isub, 1) := by decide +kernel
theorem dX11_told_69 : decode cX11_told 69 = .ok (.iaload, 1) := by decide +kernel
theorem dX11_told_70 : decode cX11_told 70 = .ok (.ireturn, 1) := by decide +kernel
theorem dX11_told_71 : decode cX11_told 71 = .ok (.iload_n 1, 1) := by decide +kernel
theorem dX11_told_72 : decode cX11_told 72 = .ok (.tableswitch 130 0 7 #[48, 56, 67, 78, 88, 98, 108, 119], 48) := by decide +kernel
theorem dX11_told_120 : decode cX11_told 120 = .ok (.aload_n 0, 1) := by decide +kernel
theorem dX11_told_121 : decode cX11_told 121 = .ok (.getfield 23, 3) := by decide +kernel
theorem dX11_told_124 : decode cX11_told 124 = .ok (.getfield 147, 3) := by decide +kernel
theorem dX11_told_127 : decode cX11_told 127 = .ok (.ireturn, 1) := by decide +kernel
theorem dX11_told_128 : decode cX11_told 128 = .ok (.aload_n 0, 1) := by decide +kernel
theorem dX11_told_129 : decode cX11_told 129 = .ok (.getfield 12, 3) := by decide +kernel
theorem dX11_told_132 : decode cX11_told 132 = .ok (.getfield 74, 3) := by decide +kernel
theorem dX11_told_135 : decode cX11_told 135 = .ok (.getfield 78, 3) := by decide +kernel
theorem dX11_told_138 : decode cX11_told 138 = .ok (.ireturn, 1) := by decide +kernel
theorem dX11_told_139 : decode cX11_told 139 = .ok (.aload_n 0, 1) := by decide +kernel
theorem dX11_told_140 : decode cX11_told 140 = .ok (.getfield 12, 3) := by decide +kernel
theorem dX11_told_143 : decode cX11_told 143 = .ok (.getfield 88, 3) := by decide +kernel
theorem dX11_told_146 : decode cX11_told 146 = .ok (.getfield 92, 3) := by decide +kernel
theorem dX11_told_149 : decode cX11_told 149 = .ok (.ireturn, 1) := by decide +kernel
theorem dX11_told_150 : decode cX11_told 150 = .ok (.aload_n 0, 1) := by decide +kernel
theorem dX11_told_151 : decode cX11_told 151 = .ok (.getfield 12, 3) := by decide +kernel
theorem dX11_told_154 : decode cX11_told 154 = .ok (.getfield 138, 3) := by decide +kernel
theorem dX11_told_157 : decode cX11_told 157 = .ok (.iconst 0, 1) := by decide +kernel
theorem dX11_told_158 : decode cX11_told 158 = .ok (.iaload, 1) := by decide +kernel
theorem dX11_told_159 : decode cX11_told 159 = .ok (.ireturn, 1) := by decide +kernel
theorem dX11_told_160 : decode cX11_told 160 = .ok (.aload_n 0, 1) := by decide +kernel
theorem dX11_told_161 : decode cX11_told 161 = .ok (.getfield 12, 3) := by decide +kernel
theorem dX11_told_164 : decode cX11_told 164 = .ok (.getfield 138, 3) := by decide +kernel
theorem dX11_told_167 : decode cX11_told 167 = .ok (.iconst 1, 1) := by decide +kernel
theorem dX11_told_168 : decode cX11_told 168 = .ok (.iaload, 1) := by decide +kernel
theorem dX11_told_169 : decode cX11_told 169 = .ok (.ireturn, 1) := by decide +kernel
theorem dX11_told_170 : decode cX11_told 170 = .ok (.aload_n 0, 1) := by decide +kernel
theorem dX11_told_171 : decode cX11_told 171 = .ok (.getfield 12, 3) := by decide +kernel
theorem dX11_told_174 : decode cX11_told 174 = .ok (.getfield 138, 3) := by decide +kernel
theorem dX11_told_177 : decode cX11_told 177 = .ok (.iconst 2, 1) := by decide +kernel
theorem dX11_told_178 : decode cX11_told 178 = .ok (.iaload, 1) := by decide +kernel
theorem dX11_told_179 : decode cX11_told 179 = .ok (.ireturn, 1) := by decide +kernel
theorem dX11_told_180 : decode cX11_told 180 = .ok (.aload_n 0, 1) := by decide +kernel
theorem dX11_told_181 : decode cX11_told 181 = .ok (.getfield 12, 3) := by decide +kernel
theorem dX11_told_184 : decode cX11_told 184 = .ok (.getfield 158, 3) := by decide +kernel
theorem dX11_told_187 : decode cX11_told 187 = .ok (.getfield 168, 3) := by decide +kernel
theorem dX11_told_190 : decode cX11_told 190 = .ok (.ireturn, 1) := by decide +kernel
theorem dX11_told_191 : decode cX11_told 191 = .ok (.aload_n 0, 1) := by decide +kernel
theorem dX11_told_192 : decode cX11_told 192 = .ok (.getfield 12, 3) := by decide +kernel
theorem dX11_told_195 : decode cX11_told 195 = .ok (.getfield 97, 3) := by decide +kernel
theorem dX11_told_198 : decode cX11_told 198 = .ok (.getfield 101, 3) := by decide +kernel
theorem dX11_told_201 : decode cX11_told 201 = .ok (.ireturn, 1) := by decide +kernel
theorem dX11_told_202 : decode cX11_told 202 = .ok (.bipush (-2), 2) := by decide +kernel
theorem dX11_told_204 : decode cX11_told 204 = .ok (.ireturn, 1) := by decide +kernel
theorem dX11_toldOfCellar_0 : decode cX11_toldOfCellar 0 = .ok (.aload_n 0, 1) := by decide +kernel
theorem dX11_toldOfCellar_1 : decode cX11_toldOfCellar 1 = .ok (.getfield 12, 3) := by decide +kernel
theorem dX11_toldOfCellar_4 : decode cX11_toldOfCellar 4 = .ok (.getfield 74, 3) := by decide +kernel
theorem dX11_toldOfCellar_7 : decode cX11_toldOfCellar 7 = .ok (.iload_n 2, 1) := by decide +kernel
theorem dX11_toldOfCellar_8 : decode cX11_toldOfCellar 8 = .ok (.invokevirtual 104, 3) := by decide +kernel
theorem dX11_toldOfCellar_11 : decode cX11_toldOfCellar 11 = .ok (.ifCond .ne 6, 3) := by decide +kernel
theorem dX11_toldOfCellar_14 : decode cX11_toldOfCellar 14 = .ok (.bipush (-2), 2) := by decide +kernel
theorem dX11_toldOfCellar_16 : decode cX11_toldOfCellar 16 = .ok (.ireturn, 1) := by decide +kernel
theorem dX11_toldOfCellar_17 : decode cX11_toldOfCellar 17 = .ok (.iload_n 1, 1) := by decide +kernel
theorem dX11_toldOfCellar_18 : decode cX11_toldOfCellar 18 = .ok (.iconst 1, 1) := by decide +kernel
theorem dX11_toldOfCellar_19 : decode cX11_toldOfCellar 19 = .ok (.if_icmp .ne 16, 3) := by decide +kernel
theorem dX11_toldOfCellar_22 : decode cX11_toldOfCellar 22 = .ok (.aload_n 0, 1) := by decide +kernel
theorem dX11_toldOfCellar_23 : decode cX11_toldOfCellar 23 = .ok (.getfield 12, 3) := by decide +kernel
theorem dX11_toldOfCellar_26 : decode cX11_toldOfCellar 26 = .ok (.getfield 74, 3) := by decide +kernel
theorem dX11_toldOfCellar_29 : decode cX11_toldOfCellar 29 = .ok (.getfield 115, 3) := by decide +kernel
theorem dX11_toldOfCellar_32 : decode cX11_toldOfCellar 32 = .ok (.iload_n 2, 1) := by decide +kernel
theorem dX11_toldOfCellar_33 : decode cX11_toldOfCellar 33 = .ok (.iaload, 1) := by decide +kernel
theorem dX11_toldOfCellar_34 : decode cX11_toldOfCellar 34 = .ok (.ireturn, 1) := by decide +kernel
theorem dX11_toldOfCellar_35 : decode cX11_toldOfCellar 35 = .ok (.iload_n 1, 1) := by decide +kernel
theorem dX11_toldOfCellar_36 : decode cX11_toldOfCellar 36 = .ok (.iconst 2, 1) := by decide +kernel
theorem dX11_toldOfCellar_37 : decode cX11_toldOfCellar 37 = .ok (.if_icmp .ne 16, 3) := by decide +kernel
theorem dX11_toldOfCellar_40 : decode cX11_toldOfCellar 40 = .ok (.aload_n 0, 1) := by decide +kernel
theorem dX11_toldOfCellar_41 : decode cX11_toldOfCellar 41 = .ok (.getfield 12, 3) := by decide +kernel
theorem dX11_toldOfCellar_44 : decode cX11_toldOfCellar 44 = .ok (.getfield 74, 3) := by decide +kernel
theorem dX11_toldOfCellar_47 : decode cX11_toldOfCellar 47 = .ok (.getfield 121, 3) := by decide +kernel
theorem dX11_toldOfCellar_50 : decode cX11_toldOfCellar 50 = .ok (.iload_n 2, 1) := by decide +kernel
theorem dX11_toldOfCellar_51 : decode cX11_toldOfCellar 51 = .ok (.iaload, 1) := by decide +kernel
theorem dX11_toldOfCellar_52 : decode cX11_toldOfCellar 52 = .ok (.ireturn, 1) := by decide +kernel
theorem dX11_toldOfCellar_53 : decode cX11_toldOfCellar 53 = .ok (.aload_n 0, 1) := by decide +kernel
theorem dX11_toldOfCellar_54 : decode cX11_toldOfCellar 54 = .ok (.getfield 12, 3) := by decide +kernel
theorem dX11_toldOfCellar_57 : decode cX11_toldOfCellar 57 = .ok (.getfield 74, 3) := by decide +kernel
theorem dX11_toldOfCellar_60 : decode cX11_toldOfCellar 60 = .ok (.getfield 124, 3) := by decide +kernel
theorem dX11_toldOfCellar_63 : decode cX11_toldOfCellar 63 = .ok (.iload_n 2, 1) := by decide +kernel
theorem dX11_toldOfCellar_64 : decode cX11_toldOfCellar 64 = .ok (.invokestatic 232, 3) := by decide +kernel
theorem dX11_toldOfCellar_67 : decode cX11_toldOfCellar 67 = .ok (.ifCond .eq 7, 3) := by decide +kernel
theorem dX11_toldOfCellar_70 : decode cX11_toldOfCellar 70 = .ok (.iconst 1, 1) := by decide +kernel
theorem dX11_toldOfCellar_71 : decode cX11_toldOfCellar 71 = .ok (.goto 4, 3) := by decide +kernel
theorem dX11_toldOfCellar_74 : decode cX11_toldOfCellar 74 = .ok (.iconst 0, 1) := by decide +kernel
theorem dX11_toldOfCellar_75 : decode cX11_toldOfCellar 75 = .ok (.ireturn, 1) := by decide +kernel
theorem dX11_toldOfBarrel_0 : decode cX11_toldOfBarrel 0 = .ok (.aload_n 0, 1) := by decide +kernel
theorem dX11_toldOfBarrel_1 : decode cX11_toldOfBarrel 1 = .ok (.getfield 12, 3) := by decide +kernel
theorem dX11_toldOfBarrel_4 : decode cX11_toldOfBarrel 4 = .ok (.getfield 88, 3) := by decide +kernel
theorem dX11_toldOfBarrel_7 : decode cX11_toldOfBarrel 7 = .ok (.iload_n 1, 1) := by decide +kernel
theorem dX11_toldOfBarrel_8 : decode cX11_toldOfBarrel 8 = .ok (.invokevirtual 137, 3) := by decide +kernel
theorem dX11_toldOfBarrel_11 : decode cX11_toldOfBarrel 11 = .ok (.ifCond .ne 6, 3) := by decide +kernel
theorem dX11_toldOfBarrel_14 : decode cX11_toldOfBarrel 14 = .ok (.bipush (-2), 2) := by decide +kernel
theorem dX11_toldOfBarrel_16 : decode cX11_toldOfBarrel 16 = .ok (.ireturn, 1) := by decide +kernel
theorem dX11_toldOfBarrel_17 : decode cX11_toldOfBarrel 17 = .ok (.iload_n 2, 1) := by decide +kernel
theorem dX11_toldOfBarrel_18 : decode cX11_toldOfBarrel 18 = .ok (.tableswitch 82 0 3 #[30, 43, 56, 69], 30) := by decide +kernel
theorem dX11_toldOfBarrel_48 : decode cX11_toldOfBarrel 48 = .ok (.aload_n 0, 1) := by decide +kernel
theorem dX11_toldOfBarrel_49 : decode cX11_toldOfBarrel 49 = .ok (.getfield 12, 3) := by decide +kernel
theorem dX11_toldOfBarrel_52 : decode cX11_toldOfBarrel 52 = .ok (.getfield 88, 3) := by decide +kernel
theorem dX11_toldOfBarrel_55 : decode cX11_toldOfBarrel 55 = .ok (.getfield 212, 3) := by decide +kernel
theorem dX11_toldOfBarrel_58 : decode cX11_toldOfBarrel 58 = .ok (.iload_n 1, 1) := by decide +kernel
theorem dX11_toldOfBarrel_59 : decode cX11_toldOfBarrel 59 = .ok (.iaload, 1) := by decide +kernel
theorem dX11_toldOfBarrel_60 : decode cX11_toldOfBarrel 60 = .ok (.ireturn, 1) := by decide +kernel
theorem dX11_toldOfBarrel_61 : decode cX11_toldOfBarrel 61 = .ok (.aload_n 0, 1) := by decide +kernel
theorem dX11_toldOfBarrel_62 : decode cX11_toldOfBarrel 62 = .ok (.getfield 12, 3) := by decide +kernel
theorem dX11_toldOfBarrel_65 : decode cX11_toldOfBarrel 65 = .ok (.getfield 88, 3) := by decide +kernel
theorem dX11_toldOfBarrel_68 : decode cX11_toldOfBarrel 68 = .ok (.getfield 226, 3) := by decide +kernel
theorem dX11_toldOfBarrel_71 : decode cX11_toldOfBarrel 71 = .ok (.iload_n 1, 1) := by decide +kernel
theorem dX11_toldOfBarrel_72 : decode cX11_toldOfBarrel 72 = .ok (.iaload, 1) := by decide +kernel
theorem dX11_toldOfBarrel_73 : decode cX11_toldOfBarrel 73 = .ok (.ireturn, 1) := by decide +kernel
theorem dX11_toldOfBarrel_74 : decode cX11_toldOfBarrel 74 = .ok (.aload_n 0, 1) := by decide +kernel
theorem dX11_toldOfBarrel_75 : decode cX11_toldOfBarrel 75 = .ok (.getfield 12, 3) := by decide +kernel
theorem dX11_toldOfBarrel_78 : decode cX11_toldOfBarrel 78 = .ok (.getfield 88, 3) := by decide +kernel
theorem dX11_toldOfBarrel_81 : decode cX11_toldOfBarrel 81 = .ok (.getfield 213, 3) := by decide +kernel
theorem dX11_toldOfBarrel_84 : decode cX11_toldOfBarrel 84 = .ok (.iload_n 1, 1) := by decide +kernel
theorem dX11_toldOfBarrel_85 : decode cX11_toldOfBarrel 85 = .ok (.iaload, 1) := by decide +kernel
theorem dX11_toldOfBarrel_86 : decode cX11_toldOfBarrel 86 = .ok (.ireturn, 1) := by decide +kernel
theorem dX11_toldOfBarrel_87 : decode cX11_toldOfBarrel 87 = .ok (.aload_n 0, 1) := by decide +kernel
theorem dX11_toldOfBarrel_88 : decode cX11_toldOfBarrel 88 = .ok (.getfield 12, 3) := by decide +kernel
theorem dX11_toldOfBarrel_91 : decode cX11_toldOfBarrel 91 = .ok (.getfield 88, 3) := by decide +kernel
theorem dX11_toldOfBarrel_94 : decode cX11_toldOfBarrel 94 = .ok (.getfield 349, 3) := by decide +kernel
theorem dX11_toldOfBarrel_97 : decode cX11_toldOfBarrel 97 = .ok (.iload_n 1, 1) := by decide +kernel
theorem dX11_toldOfBarrel_98 : decode cX11_toldOfBarrel 98 = .ok (.iaload, 1) := by decide +kernel
theorem dX11_toldOfBarrel_99 : decode cX11_toldOfBarrel 99 = .ok (.ireturn, 1) := by decide +kernel
theorem dX11_toldOfBarrel_100 : decode cX11_toldOfBarrel 100 = .ok (.bipush (-2), 2) := by decide +kernel
theorem dX11_toldOfBarrel_102 : decode cX11_toldOfBarrel 102 = .ok (.ireturn, 1) := by decide +kernel
theorem dX11_within_0 : decode cX11_within 0 = .ok (.iload_n 0, 1) := by decide +kernel
theorem dX11_within_1 : decode cX11_within 1 = .ok (.iload_n 1, 1) := by decide +kernel
theorem dX11_within_2 : decode cX11_within 2 = .ok (.if_icmp .lt 12, 3) := by decide +kernel
theorem dX11_within_5 : decode cX11_within 5 = .ok (.iload_n 0, 1) := by decide +kernel
theorem dX11_within_6 : decode cX11_within 6 = .ok (.iload_n 2, 1) := by decide +kernel
theorem dX11_within_7 : decode cX11_within 7 = .ok (.if_icmp .gt 7, 3) := by decide +kernel
theorem dX11_within_10 : decode cX11_within 10 = .ok (.iconst 1, 1) := by decide +kernel
theorem dX11_within_11 : decode cX11_within 11 = .ok (.goto 4, 3) := by decide +kernel
theorem dX11_within_14 : decode cX11_within 14 = .ok (.iconst 0, 1) := by decide +kernel
theorem dX11_within_15 : decode cX11_within 15 = .ok (.ireturn, 1) := by decide +kernel
theorem dX11_hasBit_0 : decode cX11_hasBit 0 = .ok (.iload_n 1, 1) := by decide +kernel
theorem dX11_hasBit_1 : decode cX11_hasBit 1 = .ok (.ifCond .lt 22, 3) := by decide +kernel
theorem dX11_hasBit_4 : decode cX11_hasBit 4 = .ok (.iload_n 1, 1) := by decide +kernel
theorem dX11_hasBit_5 : decode cX11_hasBit 5 = .ok (.bipush 31, 2) := by decide +kernel
theorem dX11_hasBit_7 : decode cX11_hasBit 7 = .ok (.if_icmp .ge 16, 3) := by decide +kernel
theorem dX11_hasBit_10 : decode cX11_hasBit 10 = .ok (.iload_n 0, 1) := by decide +kernel
theorem dX11_hasBit_11 : decode cX11_hasBit 11 = .ok (.iload_n 1, 1) := by decide +kernel
theorem dX11_hasBit_12 : decode cX11_hasBit 12 = .ok (.ishr, 1) := by decide +kernel
theorem dX11_hasBit_13 : decode cX11_hasBit 13 = .ok (.iconst 1, 1) := by decide +kernel
theorem dX11_hasBit_14 : decode cX11_hasBit 14 = .ok (.iand, 1) := by decide +kernel
theorem dX11_hasBit_15 : decode cX11_hasBit 15 = .ok (.iconst 1, 1) := by decide +kernel
theorem dX11_hasBit_16 : decode cX11_hasBit 16 = .ok (.if_icmp .ne 7, 3) := by decide +kernel
theorem dX11_hasBit_19 : decode cX11_hasBit 19 = .ok (.iconst 1, 1) := by decide +kernel
theorem dX11_hasBit_20 : decode cX11_hasBit 20 = .ok (.goto 4, 3) := by decide +kernel
theorem dX11_hasBit_23 : decode cX11_hasBit 23 = .ok (.iconst 0, 1) := by decide +kernel
theorem dX11_hasBit_24 : decode cX11_hasBit 24 = .ok (.ireturn, 1) := by decide +kernel
theorem dX11_inLowestTerms_0 : decode cX11_inLowestTerms 0 = .ok (.lload_n 0, 1) := by decide +kernel
theorem dX11_inLowestTerms_1 : decode cX11_inLowestTerms 1 = .ok (.lload_n 2, 1) := by decide +kernel
theorem dX11_inLowestTerms_2 : decode cX11_inLowestTerms 2 = .ok (.invokestatic 352, 3) := by decide +kernel
theorem dX11_inLowestTerms_5 : decode cX11_inLowestTerms 5 = .ok (.lstore 5, 2) := by decide +kernel
theorem dX11_inLowestTerms_7 : decode cX11_inLowestTerms 7 = .ok (.iload 4, 2) := by decide +kernel
theorem dX11_inLowestTerms_9 : decode cX11_inLowestTerms 9 = .ok (.ifCond .ne 7, 3) := by decide +kernel
theorem dX11_inLowestTerms_12 : decode cX11_inLowestTerms 12 = .ok (.lload_n 0, 1) := by decide +kernel
theorem dX11_inLowestTerms_13 : decode cX11_inLowestTerms 13 = .ok (.goto 4, 3) := by decide +kernel
theorem dX11_inLowestTerms_16 : decode cX11_inLowestTerms 16 = .ok (.lload_n 2, 1) := by decide +kernel
theorem dX11_inLowestTerms_17 : decode cX11_inLowestTerms 17 = .ok (.lstore 7, 2) := by decide +kernel
theorem dX11_inLowestTerms_19 : decode cX11_inLowestTerms 19 = .ok (.lload 5, 2) := by decide +kernel
theorem dX11_inLowestTerms_21 : decode cX11_inLowestTerms 21 = .ok (.lconst 1, 1) := by decide +kernel
theorem dX11_inLowestTerms_22 : decode cX11_inLowestTerms 22 = .ok (.lcmp, 1) := by decide +kernel
theorem dX11_inLowestTerms_23 : decode cX11_inLowestTerms 23 = .ok (.ifCond .ge 8, 3) := by decide +kernel
theorem dX11_inLowestTerms_26 : decode cX11_inLowestTerms 26 = .ok (.lload 7, 2) := by decide +kernel
theorem dX11_inLowestTerms_28 : decode cX11_inLowestTerms 28 = .ok (.goto 8, 3) := by decide +kernel
theorem dX11_inLowestTerms_31 : decode cX11_inLowestTerms 31 = .ok (.lload 7, 2) := by decide +kernel
theorem dX11_inLowestTerms_33 : decode cX11_inLowestTerms 33 = .ok (.lload 5, 2) := by decide +kernel
theorem dX11_inLowestTerms_35 : decode cX11_inLowestTerms 35 = .ok (.ldiv, 1) := by decide +kernel
theorem dX11_inLowestTerms_36 : decode cX11_inLowestTerms 36 = .ok (.lreturn, 1) := by decide +kernel
theorem dX11_greatestShared_0 : decode cX11_greatestShared 0 = .ok (.lload_n 0, 1) := by decide +kernel
theorem dX11_greatestShared_1 : decode cX11_greatestShared 1 = .ok (.lstore 4, 2) := by decide +kernel
theorem dX11_greatestShared_3 : decode cX11_greatestShared 3 = .ok (.lload_n 2, 1) := by decide +kernel
theorem dX11_greatestShared_4 : decode cX11_greatestShared 4 = .ok (.lstore 6, 2) := by decide +kernel
theorem dX11_greatestShared_6 : decode cX11_greatestShared 6 = .ok (.iconst 0, 1) := by decide +kernel
theorem dX11_greatestShared_7 : decode cX11_greatestShared 7 = .ok (.istore 8, 2) := by decide +kernel
theorem dX11_greatestShared_9 : decode cX11_greatestShared 9 = .ok (.iload 8, 2) := by decide +kernel
theorem dX11_greatestShared_11 : decode cX11_greatestShared 11 = .ok (.sipush 200, 3) := by decide +kernel
theorem dX11_greatestShared_14 : decode cX11_greatestShared 14 = .ok (.if_icmp .ge 31, 3) := by decide +kernel
theorem dX11_greatestShared_17 : decode cX11_greatestShared 17 = .ok (.lload 6, 2) := by decide +kernel
theorem dX11_greatestShared_19 : decode cX11_greatestShared 19 = .ok (.lconst 0, 1) := by decide +kernel
theorem dX11_greatestShared_20 : decode cX11_greatestShared 20 = .ok (.lcmp, 1) := by decide +kernel
theorem dX11_greatestShared_21 : decode cX11_greatestShared 21 = .ok (.ifCond .eq 24, 3) := by decide +kernel
theorem dX11_greatestShared_24 : decode cX11_greatestShared 24 = .ok (.lload 4, 2) := by decide +kernel
theorem dX11_greatestShared_26 : decode cX11_greatestShared 26 = .ok (.lload 6, 2) := by decide +kernel
theorem dX11_greatestShared_28 : decode cX11_greatestShared 28 = .ok (.lrem, 1) := by decide +kernel
theorem dX11_greatestShared_29 : decode cX11_greatestShared 29 = .ok (.lstore 9, 2) := by decide +kernel
theorem dX11_greatestShared_31 : decode cX11_greatestShared 31 = .ok (.lload 6, 2) := by decide +kernel
theorem dX11_greatestShared_33 : decode cX11_greatestShared 33 = .ok (.lstore 4, 2) := by decide +kernel
theorem dX11_greatestShared_35 : decode cX11_greatestShared 35 = .ok (.lload 9, 2) := by decide +kernel
theorem dX11_greatestShared_37 : decode cX11_greatestShared 37 = .ok (.lstore 6, 2) := by decide +kernel
theorem dX11_greatestShared_39 : decode cX11_greatestShared 39 = .ok (.iinc 8 1, 3) := by decide +kernel
theorem dX11_greatestShared_42 : decode cX11_greatestShared 42 = .ok (.goto (-33), 3) := by decide +kernel
theorem dX11_greatestShared_45 : decode cX11_greatestShared 45 = .ok (.lload 4, 2) := by decide +kernel
theorem dX11_greatestShared_47 : decode cX11_greatestShared 47 = .ok (.lreturn, 1) := by decide +kernel
