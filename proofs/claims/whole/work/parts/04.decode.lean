theorem dX0_init_0 : decode cX0_init 0 = .ok (.aload_n 0, 1) := by decide +kernel
theorem dX0_init_1 : decode cX0_init 1 = .ok (.invokespecial 3, 3) := by decide +kernel
theorem dX0_init_4 : decode cX0_init 4 = .ok (.return_, 1) := by decide +kernel
theorem dX0_bringToStart_0 : decode cX0_bringToStart 0 = .ok (.aload_n 0, 1) := by decide +kernel
theorem dX0_bringToStart_1 : decode cX0_bringToStart 1 = .ok (.aload_n 0, 1) := by decide +kernel
theorem dX0_bringToStart_2 : decode cX0_bringToStart 2 = .ok (.getfield 9, 3) := by decide +kernel
theorem dX0_bringToStart_5 : decode cX0_bringToStart 5 = .ok (.putfield 15, 3) := by decide +kernel
theorem dX0_bringToStart_8 : decode cX0_bringToStart 8 = .ok (.aload_n 0, 1) := by decide +kernel
theorem dX0_bringToStart_9 : decode cX0_bringToStart 9 = .ok (.iconst 0, 1) := by decide +kernel
theorem dX0_bringToStart_10 : decode cX0_bringToStart 10 = .ok (.putfield 18, 3) := by decide +kernel
theorem dX0_bringToStart_13 : decode cX0_bringToStart 13 = .ok (.return_, 1) := by decide +kernel
theorem dX0_work_0 : decode cX0_work 0 = .ok (.aload_n 0, 1) := by decide +kernel
theorem dX0_work_1 : decode cX0_work 1 = .ok (.getfield 21, 3) := by decide +kernel
theorem dX0_work_4 : decode cX0_work 4 = .ok (.tableswitch 138 0 4 #[36, 57, 73, 89, 113], 36) := by decide +kernel
theorem dX0_work_40 : decode cX0_work 40 = .ok (.aload_n 0, 1) := by decide +kernel
theorem dX0_work_41 : decode cX0_work 41 = .ok (.aload_n 0, 1) := by decide +kernel
theorem dX0_work_42 : decode cX0_work 42 = .ok (.getfield 15, 3) := by decide +kernel
theorem dX0_work_45 : decode cX0_work 45 = .ok (.putfield 18, 3) := by decide +kernel
theorem dX0_work_48 : decode cX0_work 48 = .ok (.aload_n 0, 1) := by decide +kernel
theorem dX0_work_49 : decode cX0_work 49 = .ok (.aload_n 0, 1) := by decide +kernel
theorem dX0_work_50 : decode cX0_work 50 = .ok (.getfield 15, 3) := by decide +kernel
theorem dX0_work_53 : decode cX0_work 53 = .ok (.iconst 1, 1) := by decide +kernel
theorem dX0_work_54 : decode cX0_work 54 = .ok (.iadd, 1) := by decide +kernel
theorem dX0_work_55 : decode cX0_work 55 = .ok (.putfield 15, 3) := by decide +kernel
theorem dX0_work_58 : decode cX0_work 58 = .ok (.goto 97, 3) := by decide +kernel
theorem dX0_work_61 : decode cX0_work 61 = .ok (.aload_n 0, 1) := by decide +kernel
theorem dX0_work_62 : decode cX0_work 62 = .ok (.aload_n 1, 1) := by decide +kernel
theorem dX0_work_63 : decode cX0_work 63 = .ok (.getfield 24, 3) := by decide +kernel
theorem dX0_work_66 : decode cX0_work 66 = .ok (.aload_n 0, 1) := by decide +kernel
theorem dX0_work_67 : decode cX0_work 67 = .ok (.getfield 9, 3) := by decide +kernel
theorem dX0_work_70 : decode cX0_work 70 = .ok (.iadd, 1) := by decide +kernel
theorem dX0_work_71 : decode cX0_work 71 = .ok (.putfield 18, 3) := by decide +kernel
theorem dX0_work_74 : decode cX0_work 74 = .ok (.goto 81, 3) := by decide +kernel
theorem dX0_work_77 : decode cX0_work 77 = .ok (.aload_n 0, 1) := by decide +kernel
theorem dX0_work_78 : decode cX0_work 78 = .ok (.aload_n 1, 1) := by decide +kernel
theorem dX0_work_79 : decode cX0_work 79 = .ok (.getfield 24, 3) := by decide +kernel
theorem dX0_work_82 : decode cX0_work 82 = .ok (.aload_n 0, 1) := by decide +kernel
theorem dX0_work_83 : decode cX0_work 83 = .ok (.getfield 9, 3) := by decide +kernel
theorem dX0_work_86 : decode cX0_work 86 = .ok (.imul, 1) := by decide +kernel
theorem dX0_work_87 : decode cX0_work 87 = .ok (.putfield 18, 3) := by decide +kernel
theorem dX0_work_90 : decode cX0_work 90 = .ok (.goto 65, 3) := by decide +kernel
theorem dX0_work_93 : decode cX0_work 93 = .ok (.aload_n 0, 1) := by decide +kernel
theorem dX0_work_94 : decode cX0_work 94 = .ok (.aload_n 0, 1) := by decide +kernel
theorem dX0_work_95 : decode cX0_work 95 = .ok (.getfield 15, 3) := by decide +kernel
theorem dX0_work_98 : decode cX0_work 98 = .ok (.aload_n 1, 1) := by decide +kernel
theorem dX0_work_99 : decode cX0_work 99 = .ok (.getfield 24, 3) := by decide +kernel
theorem dX0_work_102 : decode cX0_work 102 = .ok (.iadd, 1) := by decide +kernel
theorem dX0_work_103 : decode cX0_work 103 = .ok (.putfield 15, 3) := by decide +kernel
theorem dX0_work_106 : decode cX0_work 106 = .ok (.aload_n 0, 1) := by decide +kernel
theorem dX0_work_107 : decode cX0_work 107 = .ok (.aload_n 0, 1) := by decide +kernel
theorem dX0_work_108 : decode cX0_work 108 = .ok (.getfield 15, 3) := by decide +kernel
theorem dX0_work_111 : decode cX0_work 111 = .ok (.putfield 18, 3) := by decide +kernel
theorem dX0_work_114 : decode cX0_work 114 = .ok (.goto 41, 3) := by decide +kernel
theorem dX0_work_117 : decode cX0_work 117 = .ok (.aload_n 0, 1) := by decide +kernel
theorem dX0_work_118 : decode cX0_work 118 = .ok (.aload_n 1, 1) := by decide +kernel
theorem dX0_work_119 : decode cX0_work 119 = .ok (.getfield 29, 3) := by decide +kernel
theorem dX0_work_122 : decode cX0_work 122 = .ok (.ifCond .ne 10, 3) := by decide +kernel
theorem dX0_work_125 : decode cX0_work 125 = .ok (.aload_n 0, 1) := by decide +kernel
theorem dX0_work_126 : decode cX0_work 126 = .ok (.getfield 9, 3) := by decide +kernel
theorem dX0_work_129 : decode cX0_work 129 = .ok (.goto 7, 3) := by decide +kernel
theorem dX0_work_132 : decode cX0_work 132 = .ok (.aload_n 1, 1) := by decide +kernel
theorem dX0_work_133 : decode cX0_work 133 = .ok (.getfield 32, 3) := by decide +kernel
theorem dX0_work_136 : decode cX0_work 136 = .ok (.putfield 18, 3) := by decide +kernel
theorem dX0_work_139 : decode cX0_work 139 = .ok (.goto 16, 3) := by decide +kernel
theorem dX0_work_142 : decode cX0_work 142 = .ok (.aload_n 0, 1) := by decide +kernel
theorem dX0_work_143 : decode cX0_work 143 = .ok (.aload_n 1, 1) := by decide +kernel
theorem dX0_work_144 : decode cX0_work 144 = .ok (.getfield 35, 3) := by decide +kernel
theorem dX0_work_147 : decode cX0_work 147 = .ok (.aload_n 0, 1) := by decide +kernel
theorem dX0_work_148 : decode cX0_work 148 = .ok (.getfield 9, 3) := by decide +kernel
theorem dX0_work_151 : decode cX0_work 151 = .ok (.iadd, 1) := by decide +kernel
theorem dX0_work_152 : decode cX0_work 152 = .ok (.putfield 18, 3) := by decide +kernel
theorem dX0_work_155 : decode cX0_work 155 = .ok (.return_, 1) := by decide +kernel
theorem dX1_init_0 : decode cX1_init 0 = .ok (.aload_n 0, 1) := by decide +kernel
theorem dX1_init_1 : decode cX1_init 1 = .ok (.invokespecial 3, 3) := by decide +kernel
theorem dX1_init_4 : decode cX1_init 4 = .ok (.aload_n 0, 1) := by decide +kernel
theorem dX1_init_5 : decode cX1_init 5 = .ok (.bipush 9, 2) := by decide +kernel
theorem dX1_init_7 : decode cX1_init 7 = .ok (.newarray .int, 2) := by decide +kernel
theorem dX1_init_9 : decode cX1_init 9 = .ok (.putfield 9, 3) := by decide +kernel
theorem dX1_init_12 : decode cX1_init 12 = .ok (.return_, 1) := by decide +kernel
theorem dX1_bringToStart_0 : decode cX1_bringToStart 0 = .ok (.aload_n 0, 1) := by decide +kernel
theorem dX1_bringToStart_1 : decode cX1_bringToStart 1 = .ok (.iconst 0, 1) := by decide +kernel
theorem dX1_bringToStart_2 : decode cX1_bringToStart 2 = .ok (.putfield 15, 3) := by decide +kernel
theorem dX1_bringToStart_5 : decode cX1_bringToStart 5 = .ok (.aload_n 0, 1) := by decide +kernel
theorem dX1_bringToStart_6 : decode cX1_bringToStart 6 = .ok (.aload_n 0, 1) := by decide +kernel
theorem dX1_bringToStart_7 : decode cX1_bringToStart 7 = .ok (.getfield 19, 3) := by decide +kernel
theorem dX1_bringToStart_10 : decode cX1_bringToStart 10 = .ok (.putfield 22, 3) := by decide +kernel
theorem dX1_bringToStart_13 : decode cX1_bringToStart 13 = .ok (.iconst 0, 1) := by decide +kernel
theorem dX1_bringToStart_14 : decode cX1_bringToStart 14 = .ok (.istore_n 1, 1) := by decide +kernel
theorem dX1_bringToStart_15 : decode cX1_bringToStart 15 = .ok (.iload_n 1, 1) := by decide +kernel
theorem dX1_bringToStart_16 : decode cX1_bringToStart 16 = .ok (.aload_n 0, 1) := by decide +kernel
theorem dX1_bringToStart_17 : decode cX1_bringToStart 17 = .ok (.getfield 19, 3) := by decide +kernel
theorem dX1_bringToStart_20 : decode cX1_bringToStart 20 = .ok (.if_icmp .ge 25, 3) := by decide +kernel
theorem dX1_bringToStart_23 : decode cX1_bringToStart 23 = .ok (.iload_n 1, 1) := by decide +kernel
theorem dX1_bringToStart_24 : decode cX1_bringToStart 24 = .ok (.aload_n 0, 1) := by decide +kernel
theorem dX1_bringToStart_25 : decode cX1_bringToStart 25 = .ok (.getfield 9, 3) := by decide +kernel
theorem dX1_bringToStart_28 : decode cX1_bringToStart 28 = .ok (.arraylength, 1) := by decide +kernel
theorem dX1_bringToStart_29 : decode cX1_bringToStart 29 = .ok (.if_icmp .ge 16, 3) := by decide +kernel
theorem dX1_bringToStart_32 : decode cX1_bringToStart 32 = .ok (.aload_n 0, 1) := by decide +kernel
theorem dX1_bringToStart_33 : decode cX1_bringToStart 33 = .ok (.getfield 9, 3) := by decide +kernel
theorem dX1_bringToStart_36 : decode cX1_bringToStart 36 = .ok (.iload_n 1, 1) := by decide +kernel
theorem dX1_bringToStart_37 : decode cX1_bringToStart 37 = .ok (.iconst 0, 1) := by decide +kernel
theorem dX1_bringToStart_38 : decode cX1_bringToStart 38 = .ok (.iastore, 1) := by decide +kernel
theorem dX1_bringToStart_39 : decode cX1_bringToStart 39 = .ok (.iinc 1 1, 3) := by decide +kernel
theorem dX1_bringToStart_42 : decode cX1_bringToStart 42 = .ok (.goto (-27), 3) := by decide +kernel
theorem dX1_bringToStart_45 : decode cX1_bringToStart 45 = .ok (.return_, 1) := by decide +kernel
theorem dX1_beginCounting_0 : decode cX1_beginCounting 0 = .ok (.aload_n 0, 1) := by decide +kernel
theorem dX1_beginCounting_1 : decode cX1_beginCounting 1 = .ok (.aload_n 0, 1) := by decide +kernel
theorem dX1_beginCounting_2 : decode cX1_beginCounting 2 = .ok (.getfield 19, 3) := by decide +kernel
theorem dX1_beginCounting_5 : decode cX1_beginCounting 5 = .ok (.putfield 25, 3) := by decide +kernel
theorem dX1_beginCounting_8 : decode cX1_beginCounting 8 = .ok (.aload_n 0, 1) := by decide +kernel
theorem dX1_beginCounting_9 : decode cX1_beginCounting 9 = .ok (.aload_n 0, 1) := by decide +kernel
theorem dX1_beginCounting_10 : decode cX1_beginCounting 10 = .ok (.getfield 19, 3) := by decide +kernel
theorem dX1_beginCounting_13 : decode cX1_beginCounting 13 = .ok (.putfield 28, 3) := by decide +kernel
theorem dX1_beginCounting_16 : decode cX1_beginCounting 16 = .ok (.return_, 1) := by decide +kernel
theorem dX1_countFiring_0 : decode cX1_countFiring 0 = .ok (.aload_n 0, 1) := by decide +kernel
theorem dX1_countFiring_1 : decode cX1_countFiring 1 = .ok (.getfield 31, 3) := by decide +kernel
theorem dX1_countFiring_4 : decode cX1_countFiring 4 = .ok (.iload_n 1, 1) := by decide +kernel
theorem dX1_countFiring_5 : decode cX1_countFiring 5 = .ok (.if_icmp .ne 16, 3) := by decide +kernel
theorem dX1_countFiring_8 : decode cX1_countFiring 8 = .ok (.aload_n 0, 1) := by decide +kernel
theorem dX1_countFiring_9 : decode cX1_countFiring 9 = .ok (.dup, 1) := by decide +kernel
theorem dX1_countFiring_10 : decode cX1_countFiring 10 = .ok (.getfield 25, 3) := by decide +kernel
theorem dX1_countFiring_13 : decode cX1_countFiring 13 = .ok (.aload_n 0, 1) := by decide +kernel
theorem dX1_countFiring_14 : decode cX1_countFiring 14 = .ok (.getfield 34, 3) := by decide +kernel
theorem dX1_countFiring_17 : decode cX1_countFiring 17 = .ok (.isub, 1) := by decide +kernel
theorem dX1_countFiring_18 : decode cX1_countFiring 18 = .ok (.putfield 25, 3) := by decide +kernel
theorem dX1_countFiring_21 : decode cX1_countFiring 21 = .ok (.aload_n 0, 1) := by decide +kernel
theorem dX1_countFiring_22 : decode cX1_countFiring 22 = .ok (.getfield 37, 3) := by decide +kernel
theorem dX1_countFiring_25 : decode cX1_countFiring 25 = .ok (.iload_n 1, 1) := by decide +kernel
theorem dX1_countFiring_26 : decode cX1_countFiring 26 = .ok (.if_icmp .ne 16, 3) := by decide +kernel
theorem dX1_countFiring_29 : decode cX1_countFiring 29 = .ok (.aload_n 0, 1) := by decide +kernel
theorem dX1_countFiring_30 : decode cX1_countFiring 30 = .ok (.dup, 1) := by decide +kernel
theorem dX1_countFiring_31 : decode cX1_countFiring 31 = .ok (.getfield 25, 3) := by decide +kernel
theorem dX1_countFiring_34 : decode cX1_countFiring 34 = .ok (.aload_n 0, 1) := by decide +kernel
theorem dX1_countFiring_35 : decode cX1_countFiring 35 = .ok (.getfield 40, 3) := by decide +kernel
theorem dX1_countFiring_38 : decode cX1_countFiring 38 = .ok (.iadd, 1) := by decide +kernel
theorem dX1_countFiring_39 : decode cX1_countFiring 39 = .ok (.putfield 25, 3) := by decide +kernel
theorem dX1_countFiring_42 : decode cX1_countFiring 42 = .ok (.aload_n 0, 1) := by decide +kernel
theorem dX1_countFiring_43 : decode cX1_countFiring 43 = .ok (.aload_n 0, 1) := by decide +kernel
theorem dX1_countFiring_44 : decode cX1_countFiring 44 = .ok (.getfield 28, 3) := by decide +kernel
theorem dX1_countFiring_47 : decode cX1_countFiring 47 = .ok (.aload_n 0, 1) := by decide +kernel
theorem dX1_countFiring_48 : decode cX1_countFiring 48 = .ok (.getfield 25, 3) := by decide +kernel
theorem dX1_countFiring_51 : decode cX1_countFiring 51 = .ok (.invokestatic 43, 3) := by decide +kernel
theorem dX1_countFiring_54 : decode cX1_countFiring 54 = .ok (.putfield 28, 3) := by decide +kernel
theorem dX1_countFiring_57 : decode cX1_countFiring 57 = .ok (.return_, 1) := by decide +kernel
theorem dX1_makeRoom_0 : decode cX1_makeRoom 0 = .ok (.aload_n 0, 1) := by decide +kernel
theorem dX1_makeRoom_1 : decode cX1_makeRoom 1 = .ok (.getfield 9, 3) := by decide +kernel
theorem dX1_makeRoom_4 : decode cX1_makeRoom 4 = .ok (.arraylength, 1) := by decide +kernel
theorem dX1_makeRoom_5 : decode cX1_makeRoom 5 = .ok (.aload_n 0, 1) := by decide +kernel
theorem dX1_makeRoom_6 : decode cX1_makeRoom 6 = .ok (.getfield 28, 3) := by decide +kernel
theorem dX1_makeRoom_9 : decode cX1_makeRoom 9 = .ok (.if_icmp .ge 23, 3) := by decide +kernel
theorem dX1_makeRoom_12 : decode cX1_makeRoom 12 = .ok (.aload_n 0, 1) := by decide +kernel
theorem dX1_makeRoom_13 : decode cX1_makeRoom 13 = .ok (.aload_n 0, 1) := by decide +kernel
theorem dX1_makeRoom_14 : decode cX1_makeRoom 14 = .ok (.getfield 28, 3) := by decide +kernel
theorem dX1_makeRoom_17 : decode cX1_makeRoom 17 = .ok (.iconst 2, 1) := by decide +kernel
theorem dX1_makeRoom_18 : decode cX1_makeRoom 18 = .ok (.aload_n 0, 1) := by decide +kernel
theorem dX1_makeRoom_19 : decode cX1_makeRoom 19 = .ok (.getfield 9, 3) := by decide +kernel
theorem dX1_makeRoom_22 : decode cX1_makeRoom 22 = .ok (.arraylength, 1) := by decide +kernel
theorem dX1_makeRoom_23 : decode cX1_makeRoom 23 = .ok (.imul, 1) := by decide +kernel
theorem dX1_makeRoom_24 : decode cX1_makeRoom 24 = .ok (.invokestatic 43, 3) := by decide +kernel
theorem dX1_makeRoom_27 : decode cX1_makeRoom 27 = .ok (.newarray .int, 2) := by decide +kernel
theorem dX1_makeRoom_29 : decode cX1_makeRoom 29 = .ok (.putfield 9, 3) := by decide +kernel
theorem dX1_makeRoom_32 : decode cX1_makeRoom 32 = .ok (.return_, 1) := by decide +kernel
theorem dX1_handOver_0 : decode cX1_handOver 0 = .ok (.iconst 0, 1) := by decide +kernel
theorem dX1_handOver_1 : decode cX1_handOver 1 = .ok (.istore_n 2, 1) := by decide +kernel
theorem dX1_handOver_2 : decode cX1_handOver 2 = .ok (.iload_n 2, 1) := by decide +kernel
theorem dX1_handOver_3 : decode cX1_handOver 3 = .ok (.aload_n 0, 1) := by decide +kernel
theorem dX1_handOver_4 : decode cX1_handOver 4 = .ok (.getfield 34, 3) := by decide +kernel
theorem dX1_handOver_7 : decode cX1_handOver 7 = .ok (.if_icmp .ge 44, 3) := by decide +kernel
theorem dX1_handOver_10 : decode cX1_handOver 10 = .ok (.aload_n 0, 1) := by decide +kernel
theorem dX1_handOver_11 : decode cX1_handOver 11 = .ok (.getfield 22, 3) := by decide +kernel
theorem dX1_handOver_14 : decode cX1_handOver 14 = .ok (.ifCond .le 37, 3) := by decide +kernel
theorem dX1_handOver_17 : decode cX1_handOver 17 = .ok (.aload_n 1, 1) := by decide +kernel
theorem dX1_handOver_18 : decode cX1_handOver 18 = .ok (.aload_n 0, 1) := by decide +kernel
theorem dX1_handOver_19 : decode cX1_handOver 19 = .ok (.iconst 0, 1) := by decide +kernel
theorem dX1_handOver_20 : decode cX1_handOver 20 = .ok (.invokevirtual 49, 3) := by decide +kernel
theorem dX1_handOver_23 : decode cX1_handOver 23 = .ok (.invokevirtual 53, 3) := by decide +kernel
theorem dX1_handOver_26 : decode cX1_handOver 26 = .ok (.aload_n 0, 1) := by decide +kernel
theorem dX1_handOver_27 : decode cX1_handOver 27 = .ok (.aload_n 0, 1) := by decide +kernel
theorem dX1_handOver_28 : decode cX1_handOver 28 = .ok (.iconst 1, 1) := by decide +kernel
theorem dX1_handOver_29 : decode cX1_handOver 29 = .ok (.invokevirtual 59, 3) := by decide +kernel
theorem dX1_handOver_32 : decode cX1_handOver 32 = .ok (.putfield 15, 3) := by decide +kernel
theorem dX1_handOver_35 : decode cX1_handOver 35 = .ok (.aload_n 0, 1) := by decide +kernel
theorem dX1_handOver_36 : decode cX1_handOver 36 = .ok (.dup, 1) := by decide +kernel
theorem dX1_handOver_37 : decode cX1_handOver 37 = .ok (.getfield 22, 3) := by decide +kernel
theorem dX1_handOver_40 : decode cX1_handOver 40 = .ok (.iconst 1, 1) := by decide +kernel
theorem dX1_handOver_41 : decode cX1_handOver 41 = .ok (.isub, 1) := by decide +kernel
theorem dX1_handOver_42 : decode cX1_handOver 42 = .ok (.putfield 22, 3) := by decide +kernel
theorem dX1_handOver_45 : decode cX1_handOver 45 = .ok (.iinc 2 1, 3) := by decide +kernel
theorem dX1_handOver_48 : decode cX1_handOver 48 = .ok (.goto (-46), 3) := by decide +kernel
theorem dX1_handOver_51 : decode cX1_handOver 51 = .ok (.return_, 1) := by decide +kernel
theorem dX1_receive_0 : decode cX1_receive 0 = .ok (.iconst 0, 1) := by decide +kernel
theorem dX1_receive_1 : decode cX1_receive 1 = .ok (.istore_n 2, 1) := by decide +kernel
theorem dX1_receive_2 : decode cX1_receive 2 = .ok (.iload_n 2, 1) := by decide +kernel
theorem dX1_receive_3 : decode cX1_receive 3 = .ok (.aload_n 0, 1) := by decide +kernel
theorem dX1_receive_4 : decode cX1_receive 4 = .ok (.getfield 40, 3) := by decide +kernel
theorem dX1_receive_7 : decode cX1_receive 7 = .ok (.if_icmp .ge 47, 3) := by decide +kernel
theorem dX1_receive_10 : decode cX1_receive 10 = .ok (.aload_n 0, 1) := by decide +kernel
theorem dX1_receive_11 : decode cX1_receive 11 = .ok (.getfield 22, 3) := by decide +kernel
theorem dX1_receive_14 : decode cX1_receive 14 = .ok (.aload_n 0, 1) := by decide +kernel
theorem dX1_receive_15 : decode cX1_receive 15 = .ok (.getfield 9, 3) := by decide +kernel
theorem dX1_receive_18 : decode cX1_receive 18 = .ok (.arraylength, 1) := by decide +kernel
theorem dX1_receive_19 : decode cX1_receive 19 = .ok (.if_icmp .ge 35, 3) := by decide +kernel
theorem dX1_receive_22 : decode cX1_receive 22 = .ok (.aload_n 0, 1) := by decide +kernel
theorem dX1_receive_23 : decode cX1_receive 23 = .ok (.getfield 9, 3) := by decide +kernel
theorem dX1_receive_26 : decode cX1_receive 26 = .ok (.aload_n 0, 1) := by decide +kernel
theorem dX1_receive_27 : decode cX1_receive 27 = .ok (.aload_n 0, 1) := by decide +kernel
theorem dX1_receive_28 : decode cX1_receive 28 = .ok (.getfield 22, 3) := by decide +kernel
theorem dX1_receive_31 : decode cX1_receive 31 = .ok (.invokevirtual 59, 3) := by decide +kernel
theorem dX1_receive_34 : decode cX1_receive 34 = .ok (.iload_n 1, 1) := by decide +kernel
theorem dX1_receive_35 : decode cX1_receive 35 = .ok (.iload_n 2, 1) := by decide +kernel
theorem dX1_receive_36 : decode cX1_receive 36 = .ok (.iadd, 1) := by decide +kernel
theorem dX1_receive_37 : decode cX1_receive 37 = .ok (.iastore, 1) := by decide +kernel
theorem dX1_receive_38 : decode cX1_receive 38 = .ok (.aload_n 0, 1) := by decide +kernel
theorem dX1_receive_39 : decode cX1_receive 39 = .ok (.dup, 1) := by decide +kernel
theorem dX1_receive_40 : decode cX1_receive 40 = .ok (.getfield 22, 3) := by decide +kernel
theorem dX1_receive_43 : decode cX1_receive 43 = .ok (.iconst 1, 1) := by decide +kernel
theorem dX1_receive_44 : decode cX1_receive 44 = .ok (.iadd, 1) := by decide +kernel
theorem dX1_receive_45 : decode cX1_receive 45 = .ok (.putfield 22, 3) := by decide +kernel
theorem dX1_receive_48 : decode cX1_receive 48 = .ok (.iinc 2 1, 3) := by decide +kernel
theorem dX1_receive_51 : decode cX1_receive 51 = .ok (.goto (-49), 3) := by decide +kernel
theorem dX1_receive_54 : decode cX1_receive 54 = .ok (.return_, 1) := by decide +kernel
theorem dX1_look_0 : decode cX1_look 0 = .ok (.iload_n 1, 1) := by decide +kernel
theorem dX1_look_1 : decode cX1_look 1 = .ok (.ifCond .lt 24, 3) := by decide +kernel
theorem dX1_look_4 : decode cX1_look 4 = .ok (.iload_n 1, 1) := by decide +kernel
theorem dX1_look_5 : decode cX1_look 5 = .ok (.aload_n 0, 1) := by decide +kernel
theorem dX1_look_6 : decode cX1_look 6 = .ok (.getfield 22, 3) := by decide +kernel
theorem dX1_look_9 : decode cX1_look 9 = .ok (.if_icmp .ge 16, 3) := by decide +kernel
theorem dX1_look_12 : decode cX1_look 12 = .ok (.aload_n 0, 1) := by decide +kernel
theorem dX1_look_13 : decode cX1_look 13 = .ok (.getfield 9, 3) := by decide +kernel
theorem dX1_look_16 : decode cX1_look 16 = .ok (.aload_n 0, 1) := by decide +kernel
theorem dX1_look_17 : decode cX1_look 17 = .ok (.iload_n 1, 1) := by decide +kernel
theorem dX1_look_18 : decode cX1_look 18 = .ok (.invokevirtual 59, 3) := by decide +kernel
theorem dX1_look_21 : decode cX1_look 21 = .ok (.iaload, 1) := by decide +kernel
theorem dX1_look_22 : decode cX1_look 22 = .ok (.goto 4, 3) := by decide +kernel
theorem dX1_look_25 : decode cX1_look 25 = .ok (.iconst 0, 1) := by decide +kernel
theorem dX1_look_26 : decode cX1_look 26 = .ok (.ireturn, 1) := by decide +kernel
theorem dX1_place_0 : decode cX1_place 0 = .ok (.aload_n 0, 1) := by decide +kernel
theorem dX1_place_1 : decode cX1_place 1 = .ok (.getfield 15, 3) := by decide +kernel
theorem dX1_place_4 : decode cX1_place 4 = .ok (.iload_n 1, 1) := by decide +kernel
theorem dX1_place_5 : decode cX1_place 5 = .ok (.iadd, 1) := by decide +kernel
theorem dX1_place_6 : decode cX1_place 6 = .ok (.istore_n 2, 1) := by decide +kernel
theorem dX1_place_7 : decode cX1_place 7 = .ok (.iload_n 2, 1) := by decide +kernel
theorem dX1_place_8 : decode cX1_place 8 = .ok (.aload_n 0, 1) := by decide +kernel
theorem dX1_place_9 : decode cX1_place 9 = .ok (.getfield 9, 3) := by decide +kernel
theorem dX1_place_12 : decode cX1_place 12 = .ok (.arraylength, 1) := by decide +kernel
theorem dX1_place_13 : decode cX1_place 13 = .ok (.if_icmp .ge 7, 3) := by decide +kernel
theorem dX1_place_16 : decode cX1_place 16 = .ok (.iload_n 2, 1) := by decide +kernel
theorem dX1_place_17 : decode cX1_place 17 = .ok (.goto 10, 3) := by decide +kernel
theorem dX1_place_20 : decode cX1_place 20 = .ok (.iload_n 2, 1) := by decide +kernel
theorem dX1_place_21 : decode cX1_place 21 = .ok (.aload_n 0, 1) := by decide +kernel
theorem dX1_place_22 : decode cX1_place 22 = .ok (.getfield 9, 3) := by decide +kernel
theorem dX1_place_25 : decode cX1_place 25 = .ok (.arraylength, 1) := by decide +kernel
theorem dX1_place_26 : decode cX1_place 26 = .ok (.isub, 1) := by decide +kernel
theorem dX1_place_27 : decode cX1_place 27 = .ok (.ireturn, 1) := by decide +kernel
theorem dX2_init_0 : decode cX2_init 0 = .ok (.aload_n 0, 1) := by decide +kernel
theorem dX2_init_1 : decode cX2_init 1 = .ok (.invokespecial 1, 3) := by decide +kernel
theorem dX2_init_4 : decode cX2_init 4 = .ok (.return_, 1) := by decide +kernel
theorem dX2_forget_0 : decode cX2_forget 0 = .ok (.aload_n 0, 1) := by decide +kernel
theorem dX2_forget_1 : decode cX2_forget 1 = .ok (.iconst 0, 1) := by decide +kernel
theorem dX2_forget_2 : decode cX2_forget 2 = .ok (.putfield 7, 3) := by decide +kernel
theorem dX2_forget_5 : decode cX2_forget 5 = .ok (.aload_n 0, 1) := by decide +kernel
theorem dX2_forget_6 : decode cX2_forget 6 = .ok (.iconst 0, 1) := by decide +kernel
theorem dX2_forget_7 : decode cX2_forget 7 = .ok (.putfield 13, 3) := by decide +kernel
theorem dX2_forget_10 : decode cX2_forget 10 = .ok (.aload_n 0, 1) := by decide +kernel
theorem dX2_forget_11 : decode cX2_forget 11 = .ok (.iconst 0, 1) := by decide +kernel
theorem dX2_forget_12 : decode cX2_forget 12 = .ok (.putfield 16, 3) := by decide +kernel
theorem dX2_forget_15 : decode cX2_forget 15 = .ok (.aload_n 0, 1) := by decide +kernel
theorem dX2_forget_16 : decode cX2_forget 16 = .ok (.iconst 0, 1) := by decide +kernel
theorem dX2_forget_17 : decode cX2_forget 17 = .ok (.putfield 19, 3) := by decide +kernel
theorem dX2_forget_20 : decode cX2_forget 20 = .ok (.return_, 1) := by decide +kernel
theorem dX2_add_0 : decode cX2_add 0 = .ok (.aload_n 0, 1) := by decide +kernel
theorem dX2_add_1 : decode cX2_add 1 = .ok (.aload_n 0, 1) := by decide +kernel
theorem dX2_add_2 : decode cX2_add 2 = .ok (.getfield 7, 3) := by decide +kernel
theorem dX2_add_5 : decode cX2_add 5 = .ok (.ifCond .ne 7, 3) := by decide +kernel
theorem dX2_add_8 : decode cX2_add 8 = .ok (.iload_n 1, 1) := by decide +kernel
theorem dX2_add_9 : decode cX2_add 9 = .ok (.goto 11, 3) := by decide +kernel
theorem dX2_add_12 : decode cX2_add 12 = .ok (.aload_n 0, 1) := by decide +kernel
theorem dX2_add_13 : decode cX2_add 13 = .ok (.getfield 16, 3) := by decide +kernel
theorem dX2_add_16 : decode cX2_add 16 = .ok (.iload_n 1, 1) := by decide +kernel
theorem dX2_add_17 : decode cX2_add 17 = .ok (.invokestatic 22, 3) := by decide +kernel
theorem dX2_add_20 : decode cX2_add 20 = .ok (.putfield 16, 3) := by decide +kernel
theorem dX2_add_23 : decode cX2_add 23 = .ok (.aload_n 0, 1) := by decide +kernel
theorem dX2_add_24 : decode cX2_add 24 = .ok (.dup, 1) := by decide +kernel
theorem dX2_add_25 : decode cX2_add 25 = .ok (.getfield 7, 3) := by decide +kernel
theorem dX2_add_28 : decode cX2_add 28 = .ok (.iconst 1, 1) := by decide +kernel
theorem dX2_add_29 : decode cX2_add 29 = .ok (.iadd, 1) := by decide +kernel
theorem dX2_add_30 : decode cX2_add 30 = .ok (.putfield 7, 3) := by decide +kernel
theorem dX2_add_33 : decode cX2_add 33 = .ok (.aload_n 0, 1) := by decide +kernel
theorem dX2_add_34 : decode cX2_add 34 = .ok (.aload_n 0, 1) := by decide +kernel
theorem dX2_add_35 : decode cX2_add 35 = .ok (.getfield 13, 3) := by decide +kernel
theorem dX2_add_38 : decode cX2_add 38 = .ok (.iload_n 1, 1) := by decide +kernel
theorem dX2_add_39 : decode cX2_add 39 = .ok (.iadd, 1) := by decide +kernel
theorem dX2_add_40 : decode cX2_add 40 = .ok (.putfield 13, 3) := by decide +kernel
theorem dX2_add_43 : decode cX2_add 43 = .ok (.aload_n 0, 1) := by decide +kernel
theorem dX2_add_44 : decode cX2_add 44 = .ok (.bipush 31, 2) := by decide +kernel
theorem dX2_add_46 : decode cX2_add 46 = .ok (.aload_n 0, 1) := by decide +kernel
theorem dX2_add_47 : decode cX2_add 47 = .ok (.getfield 19, 3) := by decide +kernel
theorem dX2_add_50 : decode cX2_add 50 = .ok (.imul, 1) := by decide +kernel
theorem dX2_add_51 : decode cX2_add 51 = .ok (.iload_n 1, 1) := by decide +kernel
theorem dX2_add_52 : decode cX2_add 52 = .ok (.iadd, 1) := by decide +kernel
theorem dX2_add_53 : decode cX2_add 53 = .ok (.putfield 19, 3) := by decide +kernel
theorem dX2_add_56 : decode cX2_add 56 = .ok (.return_, 1) := by decide +kernel
theorem dX3_init_0 : decode cX3_init 0 = .ok (.aload_n 0, 1) := by decide +kernel
theorem dX3_init_1 : decode cX3_init 1 = .ok (.invokespecial 1, 3) := by decide +kernel
theorem dX3_init_4 : decode cX3_init 4 = .ok (.aload_n 0, 1) := by decide +kernel
theorem dX3_init_5 : decode cX3_init 5 = .ok (.bipush 8, 2) := by decide +kernel
theorem dX3_init_7 : decode cX3_init 7 = .ok (.anewarray 9, 3) := by decide +kernel
theorem dX3_init_10 : decode cX3_init 10 = .ok (.putfield 11, 3) := by decide +kernel
theorem dX3_init_13 : decode cX3_init 13 = .ok (.iconst 0, 1) := by decide +kernel
theorem dX3_init_14 : decode cX3_init 14 = .ok (.istore_n 1, 1) := by decide +kernel
theorem dX3_init_15 : decode cX3_init 15 = .ok (.iload_n 1, 1) := by decide +kernel
theorem dX3_init_16 : decode cX3_init 16 = .ok (.bipush 8, 2) := by decide +kernel
theorem dX3_init_18 : decode cX3_init 18 = .ok (.if_icmp .ge 22, 3) := by decide +kernel
theorem dX3_init_21 : decode cX3_init 21 = .ok (.aload_n 0, 1) := by decide +kernel
theorem dX3_init_22 : decode cX3_init 22 = .ok (.getfield 11, 3) := by decide +kernel
theorem dX3_init_25 : decode cX3_init 25 = .ok (.iload_n 1, 1) := by decide +kernel
theorem dX3_init_26 : decode cX3_init 26 = .ok (.new 9, 3) := by decide +kernel
theorem dX3_init_29 : decode cX3_init 29 = .ok (.dup, 1) := by decide +kernel
theorem dX3_init_30 : decode cX3_init 30 = .ok (.invokespecial 15, 3) := by decide +kernel
theorem dX3_init_33 : decode cX3_init 33 = .ok (.aastore, 1) := by decide +kernel
theorem dX3_init_34 : decode cX3_init 34 = .ok (.iinc 1 1, 3) := by decide +kernel
theorem dX3_init_37 : decode cX3_init 37 = .ok (.goto (-22), 3) := by decide +kernel
theorem dX3_init_40 : decode cX3_init 40 = .ok (.aload_n 0, 1) := by decide +kernel
theorem dX3_init_41 : decode cX3_init 41 = .ok (.bipush 12, 2) := by decide +kernel
theorem dX3_init_43 : decode cX3_init 43 = .ok (.anewarray 16, 3) := by decide +kernel
theorem dX3_init_46 : decode cX3_init 46 = .ok (.putfield 18, 3) := by decide +kernel
theorem dX3_init_49 : decode cX3_init 49 = .ok (.iconst 0, 1) := by decide +kernel
theorem dX3_init_50 : decode cX3_init 50 = .ok (.istore_n 1, 1) := by decide +kernel
theorem dX3_init_51 : decode cX3_init 51 = .ok (.iload_n 1, 1) := by decide +kernel
theorem dX3_init_52 : decode cX3_init 52 = .ok (.bipush 12, 2) := by decide +kernel
theorem dX3_init_54 : decode cX3_init 54 = .ok (.if_icmp .ge 22, 3) := by decide +kernel
theorem dX3_init_57 : decode cX3_init 57 = .ok (.aload_n 0, 1) := by decide +kernel
theorem dX3_init_58 : decode cX3_init 58 = .ok (.getfield 18, 3) := by decide +kernel
theorem dX3_init_61 : decode cX3_init 61 = .ok (.iload_n 1, 1) := by decide +kernel
theorem dX3_init_62 : decode cX3_init 62 = .ok (.new 16, 3) := by decide +kernel
theorem dX3_init_65 : decode cX3_init 65 = .ok (.dup, 1) := by decide +kernel
theorem dX3_init_66 : decode cX3_init 66 = .ok (.invokespecial 22, 3) := by decide +kernel
theorem dX3_init_69 : decode cX3_init 69 = .ok (.aastore, 1) := by decide +kernel
theorem dX3_init_70 : decode cX3_init 70 = .ok (.iinc 1 1, 3) := by decide +kernel
theorem dX3_init_73 : decode cX3_init 73 = .ok (.goto (-22), 3) := by decide +kernel
theorem dX3_init_76 : decode cX3_init 76 = .ok (.aload_n 0, 1) := by decide +kernel
theorem dX3_init_77 : decode cX3_init 77 = .ok (.sipush 200, 3) := by decide +kernel
theorem dX3_init_80 : decode cX3_init 80 = .ok (.newarray .int, 2) := by decide +kernel
theorem dX3_init_82 : decode cX3_init 82 = .ok (.putfield 23, 3) := by decide +kernel
theorem dX3_init_85 : decode cX3_init 85 = .ok (.aload_n 0, 1) := by decide +kernel
theorem dX3_init_86 : decode cX3_init 86 = .ok (.new 27, 3) := by decide +kernel
theorem dX3_init_89 : decode cX3_init 89 = .ok (.dup, 1) := by decide +kernel
theorem dX3_init_90 : decode cX3_init 90 = .ok (.invokespecial 29, 3) := by decide +kernel
theorem dX3_init_93 : decode cX3_init 93 = .ok (.putfield 30, 3) := by decide +kernel
theorem dX3_init_96 : decode cX3_init 96 = .ok (.return_, 1) := by decide +kernel
theorem dX3_actor_0 : decode cX3_actor 0 = .ok (.iload_n 1, 1) := by decide +kernel
theorem dX3_actor_1 : decode cX3_actor 1 = .ok (.ifCond .lt 8, 3) := by decide +kernel
theorem dX3_actor_4 : decode cX3_actor 4 = .ok (.iload_n 1, 1) := by decide +kernel
theorem dX3_actor_5 : decode cX3_actor 5 = .ok (.iconst 5, 1) := by decide +kernel
theorem dX3_actor_6 : decode cX3_actor 6 = .ok (.if_icmp .le 5, 3) := by decide +kernel
theorem dX3_actor_9 : decode cX3_actor 9 = .ok (.iconst (-1), 1) := by decide +kernel
theorem dX3_actor_10 : decode cX3_actor 10 = .ok (.ireturn, 1) := by decide +kernel
theorem dX3_actor_11 : decode cX3_actor 11 = .ok (.aload_n 0, 1) := by decide +kernel
theorem dX3_actor_12 : decode cX3_actor 12 = .ok (.getfield 34, 3) := by decide +kernel
theorem dX3_actor_15 : decode cX3_actor 15 = .ok (.bipush 8, 2) := by decide +kernel
theorem dX3_actor_17 : decode cX3_actor 17 = .ok (.if_icmp .lt 6, 3) := by decide +kernel
theorem dX3_actor_20 : decode cX3_actor 20 = .ok (.bipush (-2), 2) := by decide +kernel
theorem dX3_actor_22 : decode cX3_actor 22 = .ok (.ireturn, 1) := by decide +kernel
theorem dX3_actor_23 : decode cX3_actor 23 = .ok (.aload_n 0, 1) := by decide +kernel
theorem dX3_actor_24 : decode cX3_actor 24 = .ok (.getfield 34, 3) := by decide +kernel
theorem dX3_actor_27 : decode cX3_actor 27 = .ok (.istore_n 3, 1) := by decide +kernel
theorem dX3_actor_28 : decode cX3_actor 28 = .ok (.aload_n 0, 1) := by decide +kernel
theorem dX3_actor_29 : decode cX3_actor 29 = .ok (.getfield 11, 3) := by decide +kernel
theorem dX3_actor_32 : decode cX3_actor 32 = .ok (.iload_n 3, 1) := by decide +kernel
theorem dX3_actor_33 : decode cX3_actor 33 = .ok (.aaload, 1) := by decide +kernel
theorem dX3_actor_34 : decode cX3_actor 34 = .ok (.iload_n 1, 1) := by decide +kernel
theorem dX3_actor_35 : decode cX3_actor 35 = .ok (.putfield 38, 3) := by decide +kernel
theorem dX3_actor_38 : decode cX3_actor 38 = .ok (.aload_n 0, 1) := by decide +kernel
theorem dX3_actor_39 : decode cX3_actor 39 = .ok (.getfield 11, 3) := by decide +kernel
theorem dX3_actor_42 : decode cX3_actor 42 = .ok (.iload_n 3, 1) := by decide +kernel
theorem dX3_actor_43 : decode cX3_actor 43 = .ok (.aaload, 1) := by decide +kernel
theorem dX3_actor_44 : decode cX3_actor 44 = .ok (.iload_n 2, 1) := by decide +kernel
theorem dX3_actor_45 : decode cX3_actor 45 = .ok (.putfield 41, 3) := by decide +kernel
theorem dX3_actor_48 : decode cX3_actor 48 = .ok (.aload_n 0, 1) := by decide +kernel
theorem dX3_actor_49 : decode cX3_actor 49 = .ok (.dup, 1) := by decide +kernel
theorem dX3_actor_50 : decode cX3_actor 50 = .ok (.getfield 34, 3) := by decide +kernel
theorem dX3_actor_53 : decode cX3_actor 53 = .ok (.iconst 1, 1) := by decide +kernel
theorem dX3_actor_54 : decode cX3_actor 54 = .ok (.iadd, 1) := by decide +kernel
theorem dX3_actor_55 : decode cX3_actor 55 = .ok (.putfield 34, 3) := by decide +kernel
theorem dX3_actor_58 : decode cX3_actor 58 = .ok (.aload_n 0, 1) := by decide +kernel
theorem dX3_actor_59 : decode cX3_actor 59 = .ok (.invokevirtual 44, 3) := by decide +kernel
theorem dX3_actor_62 : decode cX3_actor 62 = .ok (.iload_n 3, 1) := by decide +kernel
theorem dX3_actor_63 : decode cX3_actor 63 = .ok (.ireturn, 1) := by decide +kernel
theorem dX3_edge_0 : decode cX3_edge 0 = .ok (.aload_n 0, 1) := by decide +kernel
theorem dX3_edge_1 : decode cX3_edge 1 = .ok (.iload_n 1, 1) := by decide +kernel
theorem dX3_edge_2 : decode cX3_edge 2 = .ok (.invokevirtual 47, 3) := by decide +kernel
theorem dX3_edge_5 : decode cX3_edge 5 = .ok (.ifCond .eq 11, 3) := by decide +kernel
theorem dX3_edge_8 : decode cX3_edge 8 = .ok (.aload_n 0, 1) := by decide +kernel
theorem dX3_edge_9 : decode cX3_edge 9 = .ok (.iload_n 2, 1) := by decide +kernel
theorem dX3_edge_10 : decode cX3_edge 10 = .ok (.invokevirtual 47, 3) := by decide +kernel
theorem dX3_edge_13 : decode cX3_edge 13 = .ok (.ifCond .ne 5, 3) := by decide +kernel
theorem dX3_edge_16 : decode cX3_edge 16 = .ok (.iconst (-1), 1) := by decide +kernel
theorem dX3_edge_17 : decode cX3_edge 17 = .ok (.ireturn, 1) := by decide +kernel
theorem dX3_edge_18 : decode cX3_edge 18 = .ok (.iload_n 3, 1) := by decide +kernel
theorem dX3_edge_19 : decode cX3_edge 19 = .ok (.invokestatic 51, 3) := by decide +kernel
theorem dX3_edge_22 : decode cX3_edge 22 = .ok (.ifCond .eq 19, 3) := by decide +kernel
theorem dX3_edge_25 : decode cX3_edge 25 = .ok (.iload 4, 2) := by decide +kernel
theorem dX3_edge_27 : decode cX3_edge 27 = .ok (.invokestatic 51, 3) := by decide +kernel
theorem dX3_edge_30 : decode cX3_edge 30 = .ok (.ifCond .eq 11, 3) := by decide +kernel
theorem dX3_edge_33 : decode cX3_edge 33 = .ok (.iload 5, 2) := by decide +kernel
theorem dX3_edge_35 : decode cX3_edge 35 = .ok (.invokestatic 54, 3) := by decide +kernel
theorem dX3_edge_38 : decode cX3_edge 38 = .ok (.ifCond .ne 6, 3) := by decide +kernel
theorem dX3_edge_41 : decode cX3_edge 41 = .ok (.bipush (-2), 2) := by decide +kernel
theorem dX3_edge_43 : decode cX3_edge 43 = .ok (.ireturn, 1) := by decide +kernel
theorem dX3_edge_44 : decode cX3_edge 44 = .ok (.aload_n 0, 1) := by decide +kernel
theorem dX3_edge_45 : decode cX3_edge 45 = .ok (.getfield 57, 3) := by decide +kernel
theorem dX3_edge_48 : decode cX3_edge 48 = .ok (.bipush 12, 2) := by decide +kernel
theorem dX3_edge_50 : decode cX3_edge 50 = .ok (.if_icmp .lt 6, 3) := by decide +kernel
theorem dX3_edge_53 : decode cX3_edge 53 = .ok (.bipush (-3), 2) := by decide +kernel
theorem dX3_edge_55 : decode cX3_edge 55 = .ok (.ireturn, 1) := by decide +kernel
theorem dX3_edge_56 : decode cX3_edge 56 = .ok (.aload_n 0, 1) := by decide +kernel
theorem dX3_edge_57 : decode cX3_edge 57 = .ok (.getfield 57, 3) := by decide +kernel
theorem dX3_edge_60 : decode cX3_edge 60 = .ok (.istore 6, 2) := by decide +kernel
theorem dX3_edge_62 : decode cX3_edge 62 = .ok (.aload_n 0, 1) := by decide +kernel
theorem dX3_edge_63 : decode cX3_edge 63 = .ok (.getfield 18, 3) := by decide +kernel
theorem dX3_edge_66 : decode cX3_edge 66 = .ok (.iload 6, 2) := by decide +kernel
theorem dX3_edge_68 : decode cX3_edge 68 = .ok (.aaload, 1) := by decide +kernel
theorem dX3_edge_69 : decode cX3_edge 69 = .ok (.astore 7, 2) := by decide +kernel
theorem dX3_edge_71 : decode cX3_edge 71 = .ok (.aload 7, 2) := by decide +kernel
theorem dX3_edge_73 : decode cX3_edge 73 = .ok (.iload_n 1, 1) := by decide +kernel
theorem dX3_edge_74 : decode cX3_edge 74 = .ok (.putfield 60, 3) := by decide +kernel
theorem dX3_edge_77 : decode cX3_edge 77 = .ok (.aload 7, 2) := by decide +kernel
theorem dX3_edge_79 : decode cX3_edge 79 = .ok (.iload_n 2, 1) := by decide +kernel
theorem dX3_edge_80 : decode cX3_edge 80 = .ok (.putfield 63, 3) := by decide +kernel
theorem dX3_edge_83 : decode cX3_edge 83 = .ok (.aload 7, 2) := by decide +kernel
theorem dX3_edge_85 : decode cX3_edge 85 = .ok (.iload_n 3, 1) := by decide +kernel
theorem dX3_edge_86 : decode cX3_edge 86 = .ok (.putfield 66, 3) := by decide +kernel
theorem dX3_edge_89 : decode cX3_edge 89 = .ok (.aload 7, 2) := by decide +kernel
theorem dX3_edge_91 : decode cX3_edge 91 = .ok (.iload 4, 2) := by decide +kernel
theorem dX3_edge_93 : decode cX3_edge 93 = .ok (.putfield 69, 3) := by decide +kernel
theorem dX3_edge_96 : decode cX3_edge 96 = .ok (.aload 7, 2) := by decide +kernel
theorem dX3_edge_98 : decode cX3_edge 98 = .ok (.iload 5, 2) := by decide +kernel
theorem dX3_edge_100 : decode cX3_edge 100 = .ok (.putfield 72, 3) := by decide +kernel
theorem dX3_edge_103 : decode cX3_edge 103 = .ok (.aload_n 0, 1) := by decide +kernel
theorem dX3_edge_104 : decode cX3_edge 104 = .ok (.dup, 1) := by decide +kernel
theorem dX3_edge_105 : decode cX3_edge 105 = .ok (.getfield 57, 3) := by decide +kernel
theorem dX3_edge_108 : decode cX3_edge 108 = .ok (.iconst 1, 1) := by decide +kernel
theorem dX3_edge_109 : decode cX3_edge 109 = .ok (.iadd, 1) := by decide +kernel
theorem dX3_edge_110 : decode cX3_edge 110 = .ok (.putfield 57, 3) := by decide +kernel
theorem dX3_edge_113 : decode cX3_edge 113 = .ok (.aload_n 0, 1) := by decide +kernel
theorem dX3_edge_114 : decode cX3_edge 114 = .ok (.invokevirtual 44, 3) := by decide +kernel
theorem dX3_edge_117 : decode cX3_edge 117 = .ok (.iload 6, 2) := by decide +kernel
theorem dX3_edge_119 : decode cX3_edge 119 = .ok (.ireturn, 1) := by decide +kernel
theorem dX3_delay_0 : decode cX3_delay 0 = .ok (.aload_n 0, 1) := by decide +kernel
theorem dX3_delay_1 : decode cX3_delay 1 = .ok (.iload_n 1, 1) := by decide +kernel
theorem dX3_delay_2 : decode cX3_delay 2 = .ok (.invokevirtual 75, 3) := by decide +kernel
theorem dX3_delay_5 : decode cX3_delay 5 = .ok (.ifCond .eq 10, 3) := by decide +kernel
theorem dX3_delay_8 : decode cX3_delay 8 = .ok (.iload_n 2, 1) := by decide +kernel
theorem dX3_delay_9 : decode cX3_delay 9 = .ok (.invokestatic 54, 3) := by decide +kernel
theorem dX3_delay_12 : decode cX3_delay 12 = .ok (.ifCond .ne 5, 3) := by decide +kernel
theorem dX3_delay_15 : decode cX3_delay 15 = .ok (.iconst 0, 1) := by decide +kernel
theorem dX3_delay_16 : decode cX3_delay 16 = .ok (.ireturn, 1) := by decide +kernel
theorem dX3_delay_17 : decode cX3_delay 17 = .ok (.aload_n 0, 1) := by decide +kernel
theorem dX3_delay_18 : decode cX3_delay 18 = .ok (.getfield 18, 3) := by decide +kernel
theorem dX3_delay_21 : decode cX3_delay 21 = .ok (.iload_n 1, 1) := by decide +kernel
theorem dX3_delay_22 : decode cX3_delay 22 = .ok (.aaload, 1) := by decide +kernel
theorem dX3_delay_23 : decode cX3_delay 23 = .ok (.iload_n 2, 1) := by decide +kernel
theorem dX3_delay_24 : decode cX3_delay 24 = .ok (.putfield 72, 3) := by decide +kernel
theorem dX3_delay_27 : decode cX3_delay 27 = .ok (.aload_n 0, 1) := by decide +kernel
theorem dX3_delay_28 : decode cX3_delay 28 = .ok (.invokevirtual 44, 3) := by decide +kernel
theorem dX3_delay_31 : decode cX3_delay 31 = .ok (.iconst 1, 1) := by decide +kernel
theorem dX3_delay_32 : decode cX3_delay 32 = .ok (.ireturn, 1) := by decide +kernel
theorem dX3_reset_0 : decode cX3_reset 0 = .ok (.aload_n 0, 1) := by decide +kernel
theorem dX3_reset_1 : decode cX3_reset 1 = .ok (.invokevirtual 78, 3) := by decide +kernel
theorem dX3_reset_4 : decode cX3_reset 4 = .ok (.return_, 1) := by decide +kernel
theorem dX3_clear_0 : decode cX3_clear 0 = .ok (.aload_n 0, 1) := by decide +kernel
theorem dX3_clear_1 : decode cX3_clear 1 = .ok (.iconst 0, 1) := by decide +kernel
theorem dX3_clear_2 : decode cX3_clear 2 = .ok (.putfield 34, 3) := by decide +kernel
theorem dX3_clear_5 : decode cX3_clear 5 = .ok (.aload_n 0, 1) := by decide +kernel
theorem dX3_clear_6 : decode cX3_clear 6 = .ok (.iconst 0, 1) := by decide +kernel
theorem dX3_clear_7 : decode cX3_clear 7 = .ok (.putfield 57, 3) := by decide +kernel
theorem dX3_clear_10 : decode cX3_clear 10 = .ok (.aload_n 0, 1) := by decide +kernel
theorem dX3_clear_11 : decode cX3_clear 11 = .ok (.invokevirtual 44, 3) := by decide +kernel
theorem dX3_clear_14 : decode cX3_clear 14 = .ok (.return_, 1) := by decide +kernel
theorem dX3_actors_0 : decode cX3_actors 0 = .ok (.aload_n 0, 1) := by decide +kernel
theorem dX3_actors_1 : decode cX3_actors 1 = .ok (.getfield 34, 3) := by decide +kernel
theorem dX3_actors_4 : decode cX3_actors 4 = .ok (.ireturn, 1) := by decide +kernel
theorem dX3_edges_0 : decode cX3_edges 0 = .ok (.aload_n 0, 1) := by decide +kernel
theorem dX3_edges_1 : decode cX3_edges 1 = .ok (.getfield 57, 3) := by decide +kernel
theorem dX3_edges_4 : decode cX3_edges 4 = .ok (.ireturn, 1) := by decide +kernel
theorem dX3_plan_0 : decode cX3_plan 0 = .ok (.aload_n 0, 1) := by decide +kernel
theorem dX3_plan_1 : decode cX3_plan 1 = .ok (.iconst 0, 1) := by decide +kernel
theorem dX3_plan_2 : decode cX3_plan 2 = .ok (.putfield 81, 3) := by decide +kernel
theorem dX3_plan_5 : decode cX3_plan 5 = .ok (.aload_n 0, 1) := by decide +kernel
theorem dX3_plan_6 : decode cX3_plan 6 = .ok (.invokevirtual 84, 3) := by decide +kernel
theorem dX3_plan_9 : decode cX3_plan 9 = .ok (.aload_n 0, 1) := by decide +kernel
theorem dX3_plan_10 : decode cX3_plan 10 = .ok (.invokevirtual 87, 3) := by decide +kernel
theorem dX3_plan_13 : decode cX3_plan 13 = .ok (.ifCond .ne 13, 3) := by decide +kernel
theorem dX3_plan_16 : decode cX3_plan 16 = .ok (.new 91, 3) := by decide +kernel
theorem dX3_plan_19 : decode cX3_plan 19 = .ok (.dup, 1) := by decide +kernel
theorem dX3_plan_20 : decode cX3_plan 20 = .ok (.ldc 93, 2) := by decide +kernel
theorem dX3_plan_22 : decode cX3_plan 22 = .ok (.invokespecial 95, 3) := by decide +kernel
theorem dX3_plan_25 : decode cX3_plan 25 = .ok (.athrow, 1) := by decide +kernel
theorem dX3_plan_26 : decode cX3_plan 26 = .ok (.aload_n 0, 1) := by decide +kernel
theorem dX3_plan_27 : decode cX3_plan 27 = .ok (.invokevirtual 98, 3) := by decide +kernel
theorem dX3_plan_30 : decode cX3_plan 30 = .ok (.ifCond .ne 13, 3) := by decide +kernel
theorem dX3_plan_33 : decode cX3_plan 33 = .ok (.new 101, 3) := by decide +kernel
theorem dX3_plan_36 : decode cX3_plan 36 = .ok (.dup, 1) := by decide +kernel
theorem dX3_plan_37 : decode cX3_plan 37 = .ok (.ldc 103, 2) := by decide +kernel
theorem dX3_plan_39 : decode cX3_plan 39 = .ok (.invokespecial 105, 3) := by decide +kernel
theorem dX3_plan_42 : decode cX3_plan 42 = .ok (.athrow, 1) := by decide +kernel
theorem dX3_plan_43 : decode cX3_plan 43 = .ok (.aload_n 0, 1) := by decide +kernel
theorem dX3_plan_44 : decode cX3_plan 44 = .ok (.invokevirtual 106, 3) := by decide +kernel
theorem dX3_plan_47 : decode cX3_plan 47 = .ok (.aload_n 0, 1) := by decide +kernel
theorem dX3_plan_48 : decode cX3_plan 48 = .ok (.invokevirtual 109, 3) := by decide +kernel
theorem dX3_plan_51 : decode cX3_plan 51 = .ok (.lstore_n 1, 1) := by decide +kernel
theorem dX3_plan_52 : decode cX3_plan 52 = .ok (.lload_n 1, 1) := by decide +kernel
theorem dX3_plan_53 : decode cX3_plan 53 = .ok (.ldc2_w 113, 3) := by decide +kernel
theorem dX3_plan_56 : decode cX3_plan 56 = .ok (.lcmp, 1) := by decide +kernel
theorem dX3_plan_57 : decode cX3_plan 57 = .ok (.ifCond .le 13, 3) := by decide +kernel
theorem dX3_plan_60 : decode cX3_plan 60 = .ok (.new 115, 3) := by decide +kernel
theorem dX3_plan_63 : decode cX3_plan 63 = .ok (.dup, 1) := by decide +kernel
theorem dX3_plan_64 : decode cX3_plan 64 = .ok (.ldc 117, 2) := by decide +kernel
theorem dX3_plan_66 : decode cX3_plan 66 = .ok (.invokespecial 119, 3) := by decide +kernel
theorem dX3_plan_69 : decode cX3_plan 69 = .ok (.athrow, 1) := by decide +kernel
theorem dX3_plan_70 : decode cX3_plan 70 = .ok (.aload_n 0, 1) := by decide +kernel
theorem dX3_plan_71 : decode cX3_plan 71 = .ok (.lload_n 1, 1) := by decide +kernel
theorem dX3_plan_72 : decode cX3_plan 72 = .ok (.l2i, 1) := by decide +kernel
theorem dX3_plan_73 : decode cX3_plan 73 = .ok (.invokevirtual 120, 3) := by decide +kernel
theorem dX3_plan_76 : decode cX3_plan 76 = .ok (.ifCond .ne 13, 3) := by decide +kernel
theorem dX3_plan_79 : decode cX3_plan 79 = .ok (.new 123, 3) := by decide +kernel
theorem dX3_plan_82 : decode cX3_plan 82 = .ok (.dup, 1) := by decide +kernel
theorem dX3_plan_83 : decode cX3_plan 83 = .ok (.ldc 125, 2) := by decide +kernel
theorem dX3_plan_85 : decode cX3_plan 85 = .ok (.invokespecial 127, 3) := by decide +kernel
theorem dX3_plan_88 : decode cX3_plan 88 = .ok (.athrow, 1) := by decide +kernel
theorem dX3_plan_89 : decode cX3_plan 89 = .ok (.aload_n 0, 1) := by decide +kernel
theorem dX3_plan_90 : decode cX3_plan 90 = .ok (.lload_n 1, 1) := by decide +kernel
theorem dX3_plan_91 : decode cX3_plan 91 = .ok (.l2i, 1) := by decide +kernel
theorem dX3_plan_92 : decode cX3_plan 92 = .ok (.putfield 81, 3) := by decide +kernel
theorem dX3_plan_95 : decode cX3_plan 95 = .ok (.aload_n 0, 1) := by decide +kernel
theorem dX3_plan_96 : decode cX3_plan 96 = .ok (.invokevirtual 128, 3) := by decide +kernel
theorem dX3_plan_99 : decode cX3_plan 99 = .ok (.aload_n 0, 1) := by decide +kernel
theorem dX3_plan_100 : decode cX3_plan 100 = .ok (.invokevirtual 78, 3) := by decide +kernel
theorem dX3_plan_103 : decode cX3_plan 103 = .ok (.aload_n 0, 1) := by decide +kernel
theorem dX3_plan_104 : decode cX3_plan 104 = .ok (.getfield 81, 3) := by decide +kernel
theorem dX3_plan_107 : decode cX3_plan 107 = .ok (.ireturn, 1) := by decide +kernel
theorem dX3_planned_0 : decode cX3_planned 0 = .ok (.aload_n 0, 1) := by decide +kernel
theorem dX3_planned_1 : decode cX3_planned 1 = .ok (.getfield 81, 3) := by decide +kernel
theorem dX3_planned_4 : decode cX3_planned 4 = .ok (.ireturn, 1) := by decide +kernel
theorem dX3_firing_0 : decode cX3_firing 0 = .ok (.iload_n 1, 1) := by decide +kernel
theorem dX3_firing_1 : decode cX3_firing 1 = .ok (.ifCond .lt 20, 3) := by decide +kernel
theorem dX3_firing_4 : decode cX3_firing 4 = .ok (.iload_n 1, 1) := by decide +kernel
theorem dX3_firing_5 : decode cX3_firing 5 = .ok (.aload_n 0, 1) := by decide +kernel
theorem dX3_firing_6 : decode cX3_firing 6 = .ok (.getfield 81, 3) := by decide +kernel
theorem dX3_firing_9 : decode cX3_firing 9 = .ok (.if_icmp .ge 12, 3) := by decide +kernel
theorem dX3_firing_12 : decode cX3_firing 12 = .ok (.aload_n 0, 1) := by decide +kernel
theorem dX3_firing_13 : decode cX3_firing 13 = .ok (.getfield 23, 3) := by decide +kernel
theorem dX3_firing_16 : decode cX3_firing 16 = .ok (.iload_n 1, 1) := by decide +kernel
theorem dX3_firing_17 : decode cX3_firing 17 = .ok (.iaload, 1) := by decide +kernel
theorem dX3_firing_18 : decode cX3_firing 18 = .ok (.goto 4, 3) := by decide +kernel
theorem dX3_firing_21 : decode cX3_firing 21 = .ok (.iconst (-1), 1) := by decide +kernel
theorem dX3_firing_22 : decode cX3_firing 22 = .ok (.ireturn, 1) := by decide +kernel
theorem dX3_repetitions_0 : decode cX3_repetitions 0 = .ok (.aload_n 0, 1) := by decide +kernel
theorem dX3_repetitions_1 : decode cX3_repetitions 1 = .ok (.getfield 81, 3) := by decide +kernel
theorem dX3_repetitions_4 : decode cX3_repetitions 4 = .ok (.ifCond .le 24, 3) := by decide +kernel
theorem dX3_repetitions_7 : decode cX3_repetitions 7 = .ok (.aload_n 0, 1) := by decide +kernel
theorem dX3_repetitions_8 : decode cX3_repetitions 8 = .ok (.iload_n 1, 1) := by decide +kernel
theorem dX3_repetitions_9 : decode cX3_repetitions 9 = .ok (.invokevirtual 47, 3) := by decide +kernel
theorem dX3_repetitions_12 : decode cX3_repetitions 12 = .ok (.ifCond .eq 16, 3) := by decide +kernel
theorem dX3_repetitions_15 : decode cX3_repetitions 15 = .ok (.aload_n 0, 1) := by decide +kernel
theorem dX3_repetitions_16 : decode cX3_repetitions 16 = .ok (.getfield 11, 3) := by decide +kernel
theorem dX3_repetitions_19 : decode cX3_repetitions 19 = .ok (.iload_n 1, 1) := by decide +kernel
theorem dX3_repetitions_20 : decode cX3_repetitions 20 = .ok (.aaload, 1) := by decide +kernel
theorem dX3_repetitions_21 : decode cX3_repetitions 21 = .ok (.getfield 131, 3) := by decide +kernel
theorem dX3_repetitions_24 : decode cX3_repetitions 24 = .ok (.l2i, 1) := by decide +kernel
theorem dX3_repetitions_25 : decode cX3_repetitions 25 = .ok (.goto 4, 3) := by decide +kernel
theorem dX3_repetitions_28 : decode cX3_repetitions 28 = .ok (.iconst 0, 1) := by decide +kernel
theorem dX3_repetitions_29 : decode cX3_repetitions 29 = .ok (.ireturn, 1) := by decide +kernel
theorem dX3_bound_0 : decode cX3_bound 0 = .ok (.aload_n 0, 1) := by decide +kernel
theorem dX3_bound_1 : decode cX3_bound 1 = .ok (.getfield 81, 3) := by decide +kernel
theorem dX3_bound_4 : decode cX3_bound 4 = .ok (.ifCond .le 23, 3) := by decide +kernel
theorem dX3_bound_7 : decode cX3_bound 7 = .ok (.aload_n 0, 1) := by decide +kernel
theorem dX3_bound_8 : decode cX3_bound 8 = .ok (.iload_n 1, 1) := by decide +kernel
theorem dX3_bound_9 : decode cX3_bound 9 = .ok (.invokevirtual 75, 3) := by decide +kernel
theorem dX3_bound_12 : decode cX3_bound 12 = .ok (.ifCond .eq 15, 3) := by decide +kernel
theorem dX3_bound_15 : decode cX3_bound 15 = .ok (.aload_n 0, 1) := by decide +kernel
theorem dX3_bound_16 : decode cX3_bound 16 = .ok (.getfield 18, 3) := by decide +kernel
theorem dX3_bound_19 : decode cX3_bound 19 = .ok (.iload_n 1, 1) := by decide +kernel
theorem dX3_bound_20 : decode cX3_bound 20 = .ok (.aaload, 1) := by decide +kernel
theorem dX3_bound_21 : decode cX3_bound 21 = .ok (.getfield 135, 3) := by decide +kernel
theorem dX3_bound_24 : decode cX3_bound 24 = .ok (.goto 4, 3) := by decide +kernel
theorem dX3_bound_27 : decode cX3_bound 27 = .ok (.iconst (-1), 1) := by decide +kernel
theorem dX3_bound_28 : decode cX3_bound 28 = .ok (.ireturn, 1) := by decide +kernel
theorem dX3_run_0 : decode cX3_run 0 = .ok (.aload_n 0, 1) := by decide +kernel
theorem dX3_run_1 : decode cX3_run 1 = .ok (.getfield 81, 3) := by decide +kernel
theorem dX3_run_4 : decode cX3_run 4 = .ok (.ifCond .ne 13, 3) := by decide +kernel
theorem dX3_run_7 : decode cX3_run 7 = .ok (.new 91, 3) := by decide +kernel
theorem dX3_run_10 : decode cX3_run 10 = .ok (.dup, 1) := by decide +kernel
theorem dX3_run_11 : decode cX3_run 11 = .ok (.ldc 138, 2) := by decide +kernel
theorem dX3_run_13 : decode cX3_run 13 = .ok (.invokespecial 95, 3) := by decide +kernel
theorem dX3_run_16 : decode cX3_run 16 = .ok (.athrow, 1) := by decide +kernel
theorem dX3_run_17 : decode cX3_run 17 = .ok (.iload_n 1, 1) := by decide +kernel
theorem dX3_run_18 : decode cX3_run 18 = .ok (.iconst 1, 1) := by decide +kernel
theorem dX3_run_19 : decode cX3_run 19 = .ok (.if_icmp .lt 9, 3) := by decide +kernel
theorem dX3_run_22 : decode cX3_run 22 = .ok (.iload_n 1, 1) := by decide +kernel
theorem dX3_run_23 : decode cX3_run 23 = .ok (.bipush 20, 2) := by decide +kernel
theorem dX3_run_25 : decode cX3_run 25 = .ok (.if_icmp .le 13, 3) := by decide +kernel
theorem dX3_run_28 : decode cX3_run 28 = .ok (.new 140, 3) := by decide +kernel
theorem dX3_run_31 : decode cX3_run 31 = .ok (.dup, 1) := by decide +kernel
theorem dX3_run_32 : decode cX3_run 32 = .ok (.ldc 142, 2) := by decide +kernel
theorem dX3_run_34 : decode cX3_run 34 = .ok (.invokespecial 144, 3) := by decide +kernel
theorem dX3_run_37 : decode cX3_run 37 = .ok (.athrow, 1) := by decide +kernel
theorem dX3_run_38 : decode cX3_run 38 = .ok (.iconst 0, 1) := by decide +kernel
theorem dX3_run_39 : decode cX3_run 39 = .ok (.istore_n 2, 1) := by decide +kernel
theorem dX3_run_40 : decode cX3_run 40 = .ok (.iload_n 2, 1) := by decide +kernel
theorem dX3_run_41 : decode cX3_run 41 = .ok (.iload_n 1, 1) := by decide +kernel
theorem dX3_run_42 : decode cX3_run 42 = .ok (.if_icmp .ge 35, 3) := by decide +kernel
theorem dX3_run_45 : decode cX3_run 45 = .ok (.iconst 0, 1) := by decide +kernel
theorem dX3_run_46 : decode cX3_run 46 = .ok (.istore_n 3, 1) := by decide +kernel
theorem dX3_run_47 : decode cX3_run 47 = .ok (.iload_n 3, 1) := by decide +kernel
theorem dX3_run_48 : decode cX3_run 48 = .ok (.aload_n 0, 1) := by decide +kernel
theorem dX3_run_49 : decode cX3_run 49 = .ok (.getfield 81, 3) := by decide +kernel
theorem dX3_run_52 : decode cX3_run 52 = .ok (.if_icmp .ge 19, 3) := by decide +kernel
theorem dX3_run_55 : decode cX3_run 55 = .ok (.aload_n 0, 1) := by decide +kernel
theorem dX3_run_56 : decode cX3_run 56 = .ok (.aload_n 0, 1) := by decide +kernel
theorem dX3_run_57 : decode cX3_run 57 = .ok (.getfield 23, 3) := by decide +kernel
theorem dX3_run_60 : decode cX3_run 60 = .ok (.iload_n 3, 1) := by decide +kernel
theorem dX3_run_61 : decode cX3_run 61 = .ok (.iaload, 1) := by decide +kernel
theorem dX3_run_62 : decode cX3_run 62 = .ok (.invokevirtual 145, 3) := by decide +kernel
theorem dX3_run_65 : decode cX3_run 65 = .ok (.iinc 3 1, 3) := by decide +kernel
theorem dX3_run_68 : decode cX3_run 68 = .ok (.goto (-21), 3) := by decide +kernel
theorem dX3_run_71 : decode cX3_run 71 = .ok (.iinc 2 1, 3) := by decide +kernel
theorem dX3_run_74 : decode cX3_run 74 = .ok (.goto (-34), 3) := by decide +kernel
theorem dX3_run_77 : decode cX3_run 77 = .ok (.iload_n 1, 1) := by decide +kernel
theorem dX3_run_78 : decode cX3_run 78 = .ok (.aload_n 0, 1) := by decide +kernel
theorem dX3_run_79 : decode cX3_run 79 = .ok (.getfield 81, 3) := by decide +kernel
theorem dX3_run_82 : decode cX3_run 82 = .ok (.imul, 1) := by decide +kernel
theorem dX3_run_83 : decode cX3_run 83 = .ok (.ireturn, 1) := by decide +kernel
theorem dX3_tokens_0 : decode cX3_tokens 0 = .ok (.aload_n 0, 1) := by decide +kernel
theorem dX3_tokens_1 : decode cX3_tokens 1 = .ok (.iload_n 1, 1) := by decide +kernel
theorem dX3_tokens_2 : decode cX3_tokens 2 = .ok (.invokevirtual 75, 3) := by decide +kernel
theorem dX3_tokens_5 : decode cX3_tokens 5 = .ok (.ifCond .eq 15, 3) := by decide +kernel
theorem dX3_tokens_8 : decode cX3_tokens 8 = .ok (.aload_n 0, 1) := by decide +kernel
theorem dX3_tokens_9 : decode cX3_tokens 9 = .ok (.getfield 18, 3) := by decide +kernel
theorem dX3_tokens_12 : decode cX3_tokens 12 = .ok (.iload_n 1, 1) := by decide +kernel
theorem dX3_tokens_13 : decode cX3_tokens 13 = .ok (.aaload, 1) := by decide +kernel
theorem dX3_tokens_14 : decode cX3_tokens 14 = .ok (.getfield 149, 3) := by decide +kernel
theorem dX3_tokens_17 : decode cX3_tokens 17 = .ok (.goto 4, 3) := by decide +kernel
theorem dX3_tokens_20 : decode cX3_tokens 20 = .ok (.iconst (-1), 1) := by decide +kernel
theorem dX3_tokens_21 : decode cX3_tokens 21 = .ok (.ireturn, 1) := by decide +kernel
theorem dX3_token_0 : decode cX3_token 0 = .ok (.aload_n 0, 1) := by decide +kernel
theorem dX3_token_1 : decode cX3_token 1 = .ok (.iload_n 1, 1) := by decide +kernel
theorem dX3_token_2 : decode cX3_token 2 = .ok (.invokevirtual 75, 3) := by decide +kernel
theorem dX3_token_5 : decode cX3_token 5 = .ok (.ifCond .eq 16, 3) := by decide +kernel
theorem dX3_token_8 : decode cX3_token 8 = .ok (.aload_n 0, 1) := by decide +kernel
theorem dX3_token_9 : decode cX3_token 9 = .ok (.getfield 18, 3) := by decide +kernel
theorem dX3_token_12 : decode cX3_token 12 = .ok (.iload_n 1, 1) := by decide +kernel
theorem dX3_token_13 : decode cX3_token 13 = .ok (.aaload, 1) := by decide +kernel
theorem dX3_token_14 : decode cX3_token 14 = .ok (.iload_n 2, 1) := by decide +kernel
theorem dX3_token_15 : decode cX3_token 15 = .ok (.invokevirtual 152, 3) := by decide +kernel
theorem dX3_token_18 : decode cX3_token 18 = .ok (.goto 4, 3) := by decide +kernel
theorem dX3_token_21 : decode cX3_token 21 = .ok (.iconst 0, 1) := by decide +kernel
theorem dX3_token_22 : decode cX3_token 22 = .ok (.ireturn, 1) := by decide +kernel
theorem dX3_value_0 : decode cX3_value 0 = .ok (.aload_n 0, 1) := by decide +kernel
theorem dX3_value_1 : decode cX3_value 1 = .ok (.iload_n 1, 1) := by decide +kernel
theorem dX3_value_2 : decode cX3_value 2 = .ok (.invokevirtual 47, 3) := by decide +kernel
theorem dX3_value_5 : decode cX3_value 5 = .ok (.ifCond .eq 15, 3) := by decide +kernel
theorem dX3_value_8 : decode cX3_value 8 = .ok (.aload_n 0, 1) := by decide +kernel
theorem dX3_value_9 : decode cX3_value 9 = .ok (.getfield 11, 3) := by decide +kernel
theorem dX3_value_12 : decode cX3_value 12 = .ok (.iload_n 1, 1) := by decide +kernel
theorem dX3_value_13 : decode cX3_value 13 = .ok (.aaload, 1) := by decide +kernel
theorem dX3_value_14 : decode cX3_value 14 = .ok (.getfield 156, 3) := by decide +kernel
theorem dX3_value_17 : decode cX3_value 17 = .ok (.goto 4, 3) := by decide +kernel
theorem dX3_value_20 : decode cX3_value 20 = .ok (.iconst 0, 1) := by decide +kernel
theorem dX3_value_21 : decode cX3_value 21 = .ok (.ireturn, 1) := by decide +kernel
theorem dX3_state_0 : decode cX3_state 0 = .ok (.aload_n 0, 1) := by decide +kernel
theorem dX3_state_1 : decode cX3_state 1 = .ok (.iload_n 1, 1) := by decide +kernel
theorem dX3_state_2 : decode cX3_state 2 = .ok (.invokevirtual 47, 3) := by decide +kernel
theorem dX3_state_5 : decode cX3_state 5 = .ok (.ifCond .eq 15, 3) := by decide +kernel
theorem dX3_state_8 : decode cX3_state 8 = .ok (.aload_n 0, 1) := by decide +kernel
theorem dX3_state_9 : decode cX3_state 9 = .ok (.getfield 11, 3) := by decide +kernel
theorem dX3_state_12 : decode cX3_state 12 = .ok (.iload_n 1, 1) := by decide +kernel
theorem dX3_state_13 : decode cX3_state 13 = .ok (.aaload, 1) := by decide +kernel
theorem dX3_state_14 : decode cX3_state 14 = .ok (.getfield 159, 3) := by decide +kernel
theorem dX3_state_17 : decode cX3_state 17 = .ok (.goto 4, 3) := by decide +kernel
theorem dX3_state_20 : decode cX3_state 20 = .ok (.iconst 0, 1) := by decide +kernel
theorem dX3_state_21 : decode cX3_state 21 = .ok (.ireturn, 1) := by decide +kernel
theorem dX3_isActor_0 : decode cX3_isActor 0 = .ok (.iload_n 1, 1) := by decide +kernel
theorem dX3_isActor_1 : decode cX3_isActor 1 = .ok (.ifCond .lt 15, 3) := by decide +kernel
theorem dX3_isActor_4 : decode cX3_isActor 4 = .ok (.iload_n 1, 1) := by decide +kernel
theorem dX3_isActor_5 : decode cX3_isActor 5 = .ok (.aload_n 0, 1) := by decide +kernel
theorem dX3_isActor_6 : decode cX3_isActor 6 = .ok (.getfield 34, 3) := by decide +kernel
theorem dX3_isActor_9 : decode cX3_isActor 9 = .ok (.if_icmp .ge 7, 3) := by decide +kernel
theorem dX3_isActor_12 : decode cX3_isActor 12 = .ok (.iconst 1, 1) := by decide +kernel
theorem dX3_isActor_13 : decode cX3_isActor 13 = .ok (.goto 4, 3) := by decide +kernel
theorem dX3_isActor_16 : decode cX3_isActor 16 = .ok (.iconst 0, 1) := by decide +kernel
theorem dX3_isActor_17 : decode cX3_isActor 17 = .ok (.ireturn, 1) := by decide +kernel
theorem dX3_isEdge_0 : decode cX3_isEdge 0 = .ok (.iload_n 1, 1) := by decide +kernel
theorem dX3_isEdge_1 : decode cX3_isEdge 1 = .ok (.ifCond .lt 15, 3) := by decide +kernel
theorem dX3_isEdge_4 : decode cX3_isEdge 4 = .ok (.iload_n 1, 1) := by decide +kernel
theorem dX3_isEdge_5 : decode cX3_isEdge 5 = .ok (.aload_n 0, 1) := by decide +kernel
theorem dX3_isEdge_6 : decode cX3_isEdge 6 = .ok (.getfield 57, 3) := by decide +kernel
theorem dX3_isEdge_9 : decode cX3_isEdge 9 = .ok (.if_icmp .ge 7, 3) := by decide +kernel
theorem dX3_isEdge_12 : decode cX3_isEdge 12 = .ok (.iconst 1, 1) := by decide +kernel
theorem dX3_isEdge_13 : decode cX3_isEdge 13 = .ok (.goto 4, 3) := by decide +kernel
theorem dX3_isEdge_16 : decode cX3_isEdge 16 = .ok (.iconst 0, 1) := by decide +kernel
theorem dX3_isEdge_17 : decode cX3_isEdge 17 = .ok (.ireturn, 1) := by decide +kernel
theorem dX3_isAtOnce_0 : decode cX3_isAtOnce 0 = .ok (.iload_n 0, 1) := by decide +kernel
theorem dX3_isAtOnce_1 : decode cX3_isAtOnce 1 = .ok (.iconst 1, 1) := by decide +kernel
theorem dX3_isAtOnce_2 : decode cX3_isAtOnce 2 = .ok (.if_icmp .lt 13, 3) := by decide +kernel
theorem dX3_isAtOnce_5 : decode cX3_isAtOnce 5 = .ok (.iload_n 0, 1) := by decide +kernel
theorem dX3_isAtOnce_6 : decode cX3_isAtOnce 6 = .ok (.bipush 9, 2) := by decide +kernel
theorem dX3_isAtOnce_8 : decode cX3_isAtOnce 8 = .ok (.if_icmp .gt 7, 3) := by decide +kernel
theorem dX3_isAtOnce_11 : decode cX3_isAtOnce 11 = .ok (.iconst 1, 1) := by decide +kernel
theorem dX3_isAtOnce_12 : decode cX3_isAtOnce 12 = .ok (.goto 4, 3) := by decide +kernel
theorem dX3_isAtOnce_15 : decode cX3_isAtOnce 15 = .ok (.iconst 0, 1) := by decide +kernel
theorem dX3_isAtOnce_16 : decode cX3_isAtOnce 16 = .ok (.ireturn, 1) := by decide +kernel
theorem dX3_isWaiting_0 : decode cX3_isWaiting 0 = .ok (.iload_n 0, 1) := by decide +kernel
theorem dX3_isWaiting_1 : decode cX3_isWaiting 1 = .ok (.ifCond .lt 13, 3) := by decide +kernel
theorem dX3_isWaiting_4 : decode cX3_isWaiting 4 = .ok (.iload_n 0, 1) := by decide +kernel
theorem dX3_isWaiting_5 : decode cX3_isWaiting 5 = .ok (.bipush 9, 2) := by decide +kernel
theorem dX3_isWaiting_7 : decode cX3_isWaiting 7 = .ok (.if_icmp .gt 7, 3) := by decide +kernel
theorem dX3_isWaiting_10 : decode cX3_isWaiting 10 = .ok (.iconst 1, 1) := by decide +kernel
theorem dX3_isWaiting_11 : decode cX3_isWaiting 11 = .ok (.goto 4, 3) := by decide +kernel
theorem dX3_isWaiting_14 : decode cX3_isWaiting 14 = .ok (.iconst 0, 1) := by decide +kernel
theorem dX3_isWaiting_15 : decode cX3_isWaiting 15 = .ok (.ireturn, 1) := by decide +kernel
theorem dX3_noteChange_0 : decode cX3_noteChange 0 = .ok (.aload_n 0, 1) := by decide +kernel
theorem dX3_noteChange_1 : decode cX3_noteChange 1 = .ok (.iconst 0, 1) := by decide +kernel
theorem dX3_noteChange_2 : decode cX3_noteChange 2 = .ok (.putfield 81, 3) := by decide +kernel
theorem dX3_noteChange_5 : decode cX3_noteChange 5 = .ok (.aload_n 0, 1) := by decide +kernel
theorem dX3_noteChange_6 : decode cX3_noteChange 6 = .ok (.invokevirtual 78, 3) := by decide +kernel
theorem dX3_noteChange_9 : decode cX3_noteChange 9 = .ok (.return_, 1) := by decide +kernel
theorem dX3_bringToStart_0 : decode cX3_bringToStart 0 = .ok (.iconst 0, 1) := by decide +kernel
theorem dX3_bringToStart_1 : decode cX3_bringToStart 1 = .ok (.istore_n 1, 1) := by decide +kernel
theorem dX3_bringToStart_2 : decode cX3_bringToStart 2 = .ok (.iload_n 1, 1) := by decide +kernel
theorem dX3_bringToStart_3 : decode cX3_bringToStart 3 = .ok (.aload_n 0, 1) := by decide +kernel
theorem dX3_bringToStart_4 : decode cX3_bringToStart 4 = .ok (.getfield 34, 3) := by decide +kernel
theorem dX3_bringToStart_7 : decode cX3_bringToStart 7 = .ok (.if_icmp .ge 18, 3) := by decide +kernel
theorem dX3_bringToStart_10 : decode cX3_bringToStart 10 = .ok (.aload_n 0, 1) := by decide +kernel
theorem dX3_bringToStart_11 : decode cX3_bringToStart 11 = .ok (.getfield 11, 3) := by decide +kernel
theorem dX3_bringToStart_14 : decode cX3_bringToStart 14 = .ok (.iload_n 1, 1) := by decide +kernel
theorem dX3_bringToStart_15 : decode cX3_bringToStart 15 = .ok (.aaload, 1) := by decide +kernel
theorem dX3_bringToStart_16 : decode cX3_bringToStart 16 = .ok (.invokevirtual 162, 3) := by decide +kernel
theorem dX3_bringToStart_19 : decode cX3_bringToStart 19 = .ok (.iinc 1 1, 3) := by decide +kernel
theorem dX3_bringToStart_22 : decode cX3_bringToStart 22 = .ok (.goto (-20), 3) := by decide +kernel
theorem dX3_bringToStart_25 : decode cX3_bringToStart 25 = .ok (.iconst 0, 1) := by decide +kernel
theorem dX3_bringToStart_26 : decode cX3_bringToStart 26 = .ok (.istore_n 1, 1) := by decide +kernel
theorem dX3_bringToStart_27 : decode cX3_bringToStart 27 = .ok (.iload_n 1, 1) := by decide +kernel
theorem dX3_bringToStart_28 : decode cX3_bringToStart 28 = .ok (.aload_n 0, 1) := by decide +kernel
theorem dX3_bringToStart_29 : decode cX3_bringToStart 29 = .ok (.getfield 57, 3) := by decide +kernel
theorem dX3_bringToStart_32 : decode cX3_bringToStart 32 = .ok (.if_icmp .ge 18, 3) := by decide +kernel
theorem dX3_bringToStart_35 : decode cX3_bringToStart 35 = .ok (.aload_n 0, 1) := by decide +kernel
theorem dX3_bringToStart_36 : decode cX3_bringToStart 36 = .ok (.getfield 18, 3) := by decide +kernel
theorem dX3_bringToStart_39 : decode cX3_bringToStart 39 = .ok (.iload_n 1, 1) := by decide +kernel
theorem dX3_bringToStart_40 : decode cX3_bringToStart 40 = .ok (.aaload, 1) := by decide +kernel
theorem dX3_bringToStart_41 : decode cX3_bringToStart 41 = .ok (.invokevirtual 163, 3) := by decide +kernel
theorem dX3_bringToStart_44 : decode cX3_bringToStart 44 = .ok (.iinc 1 1, 3) := by decide +kernel
theorem dX3_bringToStart_47 : decode cX3_bringToStart 47 = .ok (.goto (-20), 3) := by decide +kernel
theorem dX3_bringToStart_50 : decode cX3_bringToStart 50 = .ok (.return_, 1) := by decide +kernel
theorem dX3_spreadRepetitions_0 : decode cX3_spreadRepetitions 0 = .ok (.iconst 0, 1) := by decide +kernel
theorem dX3_spreadRepetitions_1 : decode cX3_spreadRepetitions 1 = .ok (.istore_n 1, 1) := by decide +kernel
theorem dX3_spreadRepetitions_2 : decode cX3_spreadRepetitions 2 = .ok (.iload_n 1, 1) := by decide +kernel
theorem dX3_spreadRepetitions_3 : decode cX3_spreadRepetitions 3 = .ok (.aload_n 0, 1) := by decide +kernel
theorem dX3_spreadRepetitions_4 : decode cX3_spreadRepetitions 4 = .ok (.getfield 34, 3) := by decide +kernel
theorem dX3_spreadRepetitions_7 : decode cX3_spreadRepetitions 7 = .ok (.if_icmp .ge 27, 3) := by decide +kernel
theorem dX3_spreadRepetitions_10 : decode cX3_spreadRepetitions 10 = .ok (.aload_n 0, 1) := by decide +kernel
theorem dX3_spreadRepetitions_11 : decode cX3_spreadRepetitions 11 = .ok (.getfield 11, 3) := by decide +kernel
theorem dX3_spreadRepetitions_14 : decode cX3_spreadRepetitions 14 = .ok (.iload_n 1, 1) := by decide +kernel
theorem dX3_spreadRepetitions_15 : decode cX3_spreadRepetitions 15 = .ok (.aaload, 1) := by decide +kernel
theorem dX3_spreadRepetitions_16 : decode cX3_spreadRepetitions 16 = .ok (.iload_n 1, 1) := by decide +kernel
theorem dX3_spreadRepetitions_17 : decode cX3_spreadRepetitions 17 = .ok (.ifCond .ne 7, 3) := by decide +kernel
theorem dX3_spreadRepetitions_20 : decode cX3_spreadRepetitions 20 = .ok (.lconst 1, 1) := by decide +kernel
theorem dX3_spreadRepetitions_21 : decode cX3_spreadRepetitions 21 = .ok (.goto 4, 3) := by decide +kernel
theorem dX3_spreadRepetitions_24 : decode cX3_spreadRepetitions 24 = .ok (.lconst 0, 1) := by decide +kernel
theorem dX3_spreadRepetitions_25 : decode cX3_spreadRepetitions 25 = .ok (.putfield 131, 3) := by decide +kernel
theorem dX3_spreadRepetitions_28 : decode cX3_spreadRepetitions 28 = .ok (.iinc 1 1, 3) := by decide +kernel
theorem dX3_spreadRepetitions_31 : decode cX3_spreadRepetitions 31 = .ok (.goto (-29), 3) := by decide +kernel
theorem dX3_spreadRepetitions_34 : decode cX3_spreadRepetitions 34 = .ok (.iconst 1, 1) := by decide +kernel
theorem dX3_spreadRepetitions_35 : decode cX3_spreadRepetitions 35 = .ok (.istore_n 1, 1) := by decide +kernel
theorem dX3_spreadRepetitions_36 : decode cX3_spreadRepetitions 36 = .ok (.iload_n 1, 1) := by decide +kernel
theorem dX3_spreadRepetitions_37 : decode cX3_spreadRepetitions 37 = .ok (.aload_n 0, 1) := by decide +kernel
theorem dX3_spreadRepetitions_38 : decode cX3_spreadRepetitions 38 = .ok (.getfield 34, 3) := by decide +kernel
theorem dX3_spreadRepetitions_41 : decode cX3_spreadRepetitions 41 = .ok (.if_icmp .ge 35, 3) := by decide +kernel
theorem dX3_spreadRepetitions_44 : decode cX3_spreadRepetitions 44 = .ok (.iconst 0, 1) := by decide +kernel
theorem dX3_spreadRepetitions_45 : decode cX3_spreadRepetitions 45 = .ok (.istore_n 2, 1) := by decide +kernel
theorem dX3_spreadRepetitions_46 : decode cX3_spreadRepetitions 46 = .ok (.iload_n 2, 1) := by decide +kernel
theorem dX3_spreadRepetitions_47 : decode cX3_spreadRepetitions 47 = .ok (.aload_n 0, 1) := by decide +kernel
theorem dX3_spreadRepetitions_48 : decode cX3_spreadRepetitions 48 = .ok (.getfield 57, 3) := by decide +kernel
theorem dX3_spreadRepetitions_51 : decode cX3_spreadRepetitions 51 = .ok (.if_icmp .ge 19, 3) := by decide +kernel
theorem dX3_spreadRepetitions_54 : decode cX3_spreadRepetitions 54 = .ok (.aload_n 0, 1) := by decide +kernel
theorem dX3_spreadRepetitions_55 : decode cX3_spreadRepetitions 55 = .ok (.aload_n 0, 1) := by decide +kernel
theorem dX3_spreadRepetitions_56 : decode cX3_spreadRepetitions 56 = .ok (.getfield 18, 3) := by decide +kernel
theorem dX3_spreadRepetitions_59 : decode cX3_spreadRepetitions 59 = .ok (.iload_n 2, 1) := by decide +kernel
theorem dX3_spreadRepetitions_60 : decode cX3_spreadRepetitions 60 = .ok (.aaload, 1) := by decide +kernel
theorem dX3_spreadRepetitions_61 : decode cX3_spreadRepetitions 61 = .ok (.invokevirtual 164, 3) := by decide +kernel
theorem dX3_spreadRepetitions_64 : decode cX3_spreadRepetitions 64 = .ok (.iinc 2 1, 3) := by decide +kernel
theorem dX3_spreadRepetitions_67 : decode cX3_spreadRepetitions 67 = .ok (.goto (-21), 3) := by decide +kernel
theorem dX3_spreadRepetitions_70 : decode cX3_spreadRepetitions 70 = .ok (.iinc 1 1, 3) := by decide +kernel
theorem dX3_spreadRepetitions_73 : decode cX3_spreadRepetitions 73 = .ok (.goto (-37), 3) := by decide +kernel
theorem dX3_spreadRepetitions_76 : decode cX3_spreadRepetitions 76 = .ok (.return_, 1) := by decide +kernel
theorem dX3_spreadAlong_0 : decode cX3_spreadAlong 0 = .ok (.aload_n 0, 1) := by decide +kernel
theorem dX3_spreadAlong_1 : decode cX3_spreadAlong 1 = .ok (.getfield 11, 3) := by decide +kernel
theorem dX3_spreadAlong_4 : decode cX3_spreadAlong 4 = .ok (.aload_n 1, 1) := by decide +kernel
theorem dX3_spreadAlong_5 : decode cX3_spreadAlong 5 = .ok (.getfield 60, 3) := by decide +kernel
theorem dX3_spreadAlong_8 : decode cX3_spreadAlong 8 = .ok (.aaload, 1) := by decide +kernel
theorem dX3_spreadAlong_9 : decode cX3_spreadAlong 9 = .ok (.astore_n 2, 1) := by decide +kernel
theorem dX3_spreadAlong_10 : decode cX3_spreadAlong 10 = .ok (.aload_n 0, 1) := by decide +kernel
theorem dX3_spreadAlong_11 : decode cX3_spreadAlong 11 = .ok (.getfield 11, 3) := by decide +kernel
theorem dX3_spreadAlong_14 : decode cX3_spreadAlong 14 = .ok (.aload_n 1, 1) := by decide +kernel
theorem dX3_spreadAlong_15 : decode cX3_spreadAlong 15 = .ok (.getfield 63, 3) := by decide +kernel
theorem dX3_spreadAlong_18 : decode cX3_spreadAlong 18 = .ok (.aaload, 1) := by decide +kernel
theorem dX3_spreadAlong_19 : decode cX3_spreadAlong 19 = .ok (.astore_n 3, 1) := by decide +kernel
theorem dX3_spreadAlong_20 : decode cX3_spreadAlong 20 = .ok (.aload_n 2, 1) := by decide +kernel
theorem dX3_spreadAlong_21 : decode cX3_spreadAlong 21 = .ok (.getfield 131, 3) := by decide +kernel
theorem dX3_spreadAlong_24 : decode cX3_spreadAlong 24 = .ok (.lconst 0, 1) := by decide +kernel
theorem dX3_spreadAlong_25 : decode cX3_spreadAlong 25 = .ok (.lcmp, 1) := by decide +kernel
theorem dX3_spreadAlong_26 : decode cX3_spreadAlong 26 = .ok (.ifCond .le 34, 3) := by decide +kernel
theorem dX3_spreadAlong_29 : decode cX3_spreadAlong 29 = .ok (.aload_n 3, 1) := by decide +kernel
theorem dX3_spreadAlong_30 : decode cX3_spreadAlong 30 = .ok (.getfield 131, 3) := by decide +kernel
theorem dX3_spreadAlong_33 : decode cX3_spreadAlong 33 = .ok (.lconst 0, 1) := by decide +kernel
theorem dX3_spreadAlong_34 : decode cX3_spreadAlong 34 = .ok (.lcmp, 1) := by decide +kernel
theorem dX3_spreadAlong_35 : decode cX3_spreadAlong 35 = .ok (.ifCond .ne 25, 3) := by decide +kernel
theorem dX3_spreadAlong_38 : decode cX3_spreadAlong 38 = .ok (.aload_n 0, 1) := by decide +kernel
theorem dX3_spreadAlong_39 : decode cX3_spreadAlong 39 = .ok (.aload_n 3, 1) := by decide +kernel
theorem dX3_spreadAlong_40 : decode cX3_spreadAlong 40 = .ok (.aload_n 2, 1) := by decide +kernel
theorem dX3_spreadAlong_41 : decode cX3_spreadAlong 41 = .ok (.getfield 131, 3) := by decide +kernel
theorem dX3_spreadAlong_44 : decode cX3_spreadAlong 44 = .ok (.aload_n 1, 1) := by decide +kernel
theorem dX3_spreadAlong_45 : decode cX3_spreadAlong 45 = .ok (.getfield 66, 3) := by decide +kernel
theorem dX3_spreadAlong_48 : decode cX3_spreadAlong 48 = .ok (.i2l, 1) := by decide +kernel
theorem dX3_spreadAlong_49 : decode cX3_spreadAlong 49 = .ok (.lmul, 1) := by decide +kernel
theorem dX3_spreadAlong_50 : decode cX3_spreadAlong 50 = .ok (.aload_n 1, 1) := by decide +kernel
theorem dX3_spreadAlong_51 : decode cX3_spreadAlong 51 = .ok (.getfield 69, 3) := by decide +kernel
theorem dX3_spreadAlong_54 : decode cX3_spreadAlong 54 = .ok (.invokevirtual 168, 3) := by decide +kernel
theorem dX3_spreadAlong_57 : decode cX3_spreadAlong 57 = .ok (.goto 40, 3) := by decide +kernel
theorem dX3_spreadAlong_60 : decode cX3_spreadAlong 60 = .ok (.aload_n 3, 1) := by decide +kernel
theorem dX3_spreadAlong_61 : decode cX3_spreadAlong 61 = .ok (.getfield 131, 3) := by decide +kernel
theorem dX3_spreadAlong_64 : decode cX3_spreadAlong 64 = .ok (.lconst 0, 1) := by decide +kernel
theorem dX3_spreadAlong_65 : decode cX3_spreadAlong 65 = .ok (.lcmp, 1) := by decide +kernel
theorem dX3_spreadAlong_66 : decode cX3_spreadAlong 66 = .ok (.ifCond .le 31, 3) := by decide +kernel
theorem dX3_spreadAlong_69 : decode cX3_spreadAlong 69 = .ok (.aload_n 2, 1) := by decide +kernel
theorem dX3_spreadAlong_70 : decode cX3_spreadAlong 70 = .ok (.getfield 131, 3) := by decide +kernel
theorem dX3_spreadAlong_73 : decode cX3_spreadAlong 73 = .ok (.lconst 0, 1) := by decide +kernel
theorem dX3_spreadAlong_74 : decode cX3_spreadAlong 74 = .ok (.lcmp, 1) := by decide +kernel
theorem dX3_spreadAlong_75 : decode cX3_spreadAlong 75 = .ok (.ifCond .ne 22, 3) := by decide +kernel
theorem dX3_spreadAlong_78 : decode cX3_spreadAlong 78 = .ok (.aload_n 0, 1) := by decide +kernel
theorem dX3_spreadAlong_79 : decode cX3_spreadAlong 79 = .ok (.aload_n 2, 1) := by decide +kernel
theorem dX3_spreadAlong_80 : decode cX3_spreadAlong 80 = .ok (.aload_n 3, 1) := by decide +kernel
theorem dX3_spreadAlong_81 : decode cX3_spreadAlong 81 = .ok (.getfield 131, 3) := by decide +kernel
theorem dX3_spreadAlong_84 : decode cX3_spreadAlong 84 = .ok (.aload_n 1, 1) := by decide +kernel
theorem dX3_spreadAlong_85 : decode cX3_spreadAlong 85 = .ok (.getfield 69, 3) := by decide +kernel
theorem dX3_spreadAlong_88 : decode cX3_spreadAlong 88 = .ok (.i2l, 1) := by decide +kernel
theorem dX3_spreadAlong_89 : decode cX3_spreadAlong 89 = .ok (.lmul, 1) := by decide +kernel
theorem dX3_spreadAlong_90 : decode cX3_spreadAlong 90 = .ok (.aload_n 1, 1) := by decide +kernel
theorem dX3_spreadAlong_91 : decode cX3_spreadAlong 91 = .ok (.getfield 66, 3) := by decide +kernel
theorem dX3_spreadAlong_94 : decode cX3_spreadAlong 94 = .ok (.invokevirtual 168, 3) := by decide +kernel
theorem dX3_spreadAlong_97 : decode cX3_spreadAlong 97 = .ok (.return_, 1) := by decide +kernel
theorem dX3_reach_0 : decode cX3_reach 0 = .ok (.iconst 0, 1) := by decide +kernel
theorem dX3_reach_1 : decode cX3_reach 1 = .ok (.istore 5, 2) := by decide +kernel
theorem dX3_reach_3 : decode cX3_reach 3 = .ok (.iload 5, 2) := by decide +kernel
theorem dX3_reach_5 : decode cX3_reach 5 = .ok (.aload_n 0, 1) := by decide +kernel
theorem dX3_reach_6 : decode cX3_reach 6 = .ok (.getfield 34, 3) := by decide +kernel
theorem dX3_reach_9 : decode cX3_reach 9 = .ok (.if_icmp .ge 27, 3) := by decide +kernel
theorem dX3_reach_12 : decode cX3_reach 12 = .ok (.aload_n 0, 1) := by decide +kernel
theorem dX3_reach_13 : decode cX3_reach 13 = .ok (.getfield 11, 3) := by decide +kernel
theorem dX3_reach_16 : decode cX3_reach 16 = .ok (.iload 5, 2) := by decide +kernel
theorem dX3_reach_18 : decode cX3_reach 18 = .ok (.aaload, 1) := by decide +kernel
theorem dX3_reach_19 : decode cX3_reach 19 = .ok (.dup, 1) := by decide +kernel
theorem dX3_reach_20 : decode cX3_reach 20 = .ok (.getfield 131, 3) := by decide +kernel
theorem dX3_reach_23 : decode cX3_reach 23 = .ok (.iload 4, 2) := by decide +kernel
theorem dX3_reach_25 : decode cX3_reach 25 = .ok (.i2l, 1) := by decide +kernel
theorem dX3_reach_26 : decode cX3_reach 26 = .ok (.lmul, 1) := by decide +kernel
theorem dX3_reach_27 : decode cX3_reach 27 = .ok (.putfield 131, 3) := by decide +kernel
theorem dX3_reach_30 : decode cX3_reach 30 = .ok (.iinc 5 1, 3) := by decide +kernel
theorem dX3_reach_33 : decode cX3_reach 33 = .ok (.goto (-30), 3) := by decide +kernel
theorem dX3_reach_36 : decode cX3_reach 36 = .ok (.aload_n 1, 1) := by decide +kernel
theorem dX3_reach_37 : decode cX3_reach 37 = .ok (.lload_n 2, 1) := by decide +kernel
theorem dX3_reach_38 : decode cX3_reach 38 = .ok (.putfield 131, 3) := by decide +kernel
theorem dX3_reach_41 : decode cX3_reach 41 = .ok (.return_, 1) := by decide +kernel
theorem dX3_isConnected_0 : decode cX3_isConnected 0 = .ok (.iconst 0, 1) := by decide +kernel
theorem dX3_isConnected_1 : decode cX3_isConnected 1 = .ok (.istore_n 1, 1) := by decide +kernel
theorem dX3_isConnected_2 : decode cX3_isConnected 2 = .ok (.iload_n 1, 1) := by decide +kernel
theorem dX3_isConnected_3 : decode cX3_isConnected 3 = .ok (.aload_n 0, 1) := by decide +kernel
theorem dX3_isConnected_4 : decode cX3_isConnected 4 = .ok (.getfield 34, 3) := by decide +kernel
theorem dX3_isConnected_7 : decode cX3_isConnected 7 = .ok (.if_icmp .ge 25, 3) := by decide +kernel
theorem dX3_isConnected_10 : decode cX3_isConnected 10 = .ok (.aload_n 0, 1) := by decide +kernel
theorem dX3_isConnected_11 : decode cX3_isConnected 11 = .ok (.getfield 11, 3) := by decide +kernel
theorem dX3_isConnected_14 : decode cX3_isConnected 14 = .ok (.iload_n 1, 1) := by decide +kernel
theorem dX3_isConnected_15 : decode cX3_isConnected 15 = .ok (.aaload, 1) := by decide +kernel
theorem dX3_isConnected_16 : decode cX3_isConnected 16 = .ok (.getfield 131, 3) := by decide +kernel
theorem dX3_isConnected_19 : decode cX3_isConnected 19 = .ok (.lconst 0, 1) := by decide +kernel
theorem dX3_isConnected_20 : decode cX3_isConnected 20 = .ok (.lcmp, 1) := by decide +kernel
theorem dX3_isConnected_21 : decode cX3_isConnected 21 = .ok (.ifCond .ne 5, 3) := by decide +kernel
theorem dX3_isConnected_24 : decode cX3_isConnected 24 = .ok (.iconst 0, 1) := by decide +kernel
theorem dX3_isConnected_25 : decode cX3_isConnected 25 = .ok (.ireturn, 1) := by decide +kernel
theorem dX3_isConnected_26 : decode cX3_isConnected 26 = .ok (.iinc 1 1, 3) := by decide +kernel
theorem dX3_isConnected_29 : decode cX3_isConnected 29 = .ok (.goto (-27), 3) := by decide +kernel
theorem dX3_isConnected_32 : decode cX3_isConnected 32 = .ok (.aload_n 0, 1) := by decide +kernel
theorem dX3_isConnected_33 : decode cX3_isConnected 33 = .ok (.getfield 34, 3) := by decide +kernel
theorem dX3_isConnected_36 : decode cX3_isConnected 36 = .ok (.ifCond .le 7, 3) := by decide +kernel
theorem dX3_isConnected_39 : decode cX3_isConnected 39 = .ok (.iconst 1, 1) := by decide +kernel
theorem dX3_isConnected_40 : decode cX3_isConnected 40 = .ok (.goto 4, 3) := by decide +kernel
theorem dX3_isConnected_43 : decode cX3_isConnected 43 = .ok (.iconst 0, 1) := by decide +kernel
theorem dX3_isConnected_44 : decode cX3_isConnected 44 = .ok (.ireturn, 1) := by decide +kernel
theorem dX3_isBalanced_0 : decode cX3_isBalanced 0 = .ok (.iconst 0, 1) := by decide +kernel
theorem dX3_isBalanced_1 : decode cX3_isBalanced 1 = .ok (.istore_n 1, 1) := by decide +kernel
theorem dX3_isBalanced_2 : decode cX3_isBalanced 2 = .ok (.iload_n 1, 1) := by decide +kernel
theorem dX3_isBalanced_3 : decode cX3_isBalanced 3 = .ok (.aload_n 0, 1) := by decide +kernel
theorem dX3_isBalanced_4 : decode cX3_isBalanced 4 = .ok (.getfield 57, 3) := by decide +kernel
theorem dX3_isBalanced_7 : decode cX3_isBalanced 7 = .ok (.if_icmp .ge 60, 3) := by decide +kernel
theorem dX3_isBalanced_10 : decode cX3_isBalanced 10 = .ok (.aload_n 0, 1) := by decide +kernel
theorem dX3_isBalanced_11 : decode cX3_isBalanced 11 = .ok (.getfield 18, 3) := by decide +kernel
theorem dX3_isBalanced_14 : decode cX3_isBalanced 14 = .ok (.iload_n 1, 1) := by decide +kernel
theorem dX3_isBalanced_15 : decode cX3_isBalanced 15 = .ok (.aaload, 1) := by decide +kernel
theorem dX3_isBalanced_16 : decode cX3_isBalanced 16 = .ok (.astore_n 2, 1) := by decide +kernel
theorem dX3_isBalanced_17 : decode cX3_isBalanced 17 = .ok (.aload_n 0, 1) := by decide +kernel
theorem dX3_isBalanced_18 : decode cX3_isBalanced 18 = .ok (.getfield 11, 3) := by decide +kernel
theorem dX3_isBalanced_21 : decode cX3_isBalanced 21 = .ok (.aload_n 2, 1) := by decide +kernel
theorem dX3_isBalanced_22 : decode cX3_isBalanced 22 = .ok (.getfield 60, 3) := by decide +kernel
theorem dX3_isBalanced_25 : decode cX3_isBalanced 25 = .ok (.aaload, 1) := by decide +kernel
theorem dX3_isBalanced_26 : decode cX3_isBalanced 26 = .ok (.getfield 131, 3) := by decide +kernel
theorem dX3_isBalanced_29 : decode cX3_isBalanced 29 = .ok (.aload_n 2, 1) := by decide +kernel
theorem dX3_isBalanced_30 : decode cX3_isBalanced 30 = .ok (.getfield 66, 3) := by decide +kernel
theorem dX3_isBalanced_33 : decode cX3_isBalanced 33 = .ok (.i2l, 1) := by decide +kernel
theorem dX3_isBalanced_34 : decode cX3_isBalanced 34 = .ok (.lmul, 1) := by decide +kernel
theorem dX3_isBalanced_35 : decode cX3_isBalanced 35 = .ok (.lstore_n 3, 1) := by decide +kernel
theorem dX3_isBalanced_36 : decode cX3_isBalanced 36 = .ok (.lload_n 3, 1) := by decide +kernel
theorem dX3_isBalanced_37 : decode cX3_isBalanced 37 = .ok (.aload_n 0, 1) := by decide +kernel
theorem dX3_isBalanced_38 : decode cX3_isBalanced 38 = .ok (.getfield 11, 3) := by decide +kernel
theorem dX3_isBalanced_41 : decode cX3_isBalanced 41 = .ok (.aload_n 2, 1) := by decide +kernel
theorem dX3_isBalanced_42 : decode cX3_isBalanced 42 = .ok (.getfield 63, 3) := by decide +kernel
theorem dX3_isBalanced_45 : decode cX3_isBalanced 45 = .ok (.aaload, 1) := by decide +kernel
theorem dX3_isBalanced_46 : decode cX3_isBalanced 46 = .ok (.getfield 131, 3) := by decide +kernel
theorem dX3_isBalanced_49 : decode cX3_isBalanced 49 = .ok (.aload_n 2, 1) := by decide +kernel
theorem dX3_isBalanced_50 : decode cX3_isBalanced 50 = .ok (.getfield 69, 3) := by decide +kernel
theorem dX3_isBalanced_53 : decode cX3_isBalanced 53 = .ok (.i2l, 1) := by decide +kernel
theorem dX3_isBalanced_54 : decode cX3_isBalanced 54 = .ok (.lmul, 1) := by decide +kernel
theorem dX3_isBalanced_55 : decode cX3_isBalanced 55 = .ok (.lcmp, 1) := by decide +kernel
theorem dX3_isBalanced_56 : decode cX3_isBalanced 56 = .ok (.ifCond .eq 5, 3) := by decide +kernel
theorem dX3_isBalanced_59 : decode cX3_isBalanced 59 = .ok (.iconst 0, 1) := by decide +kernel
theorem dX3_isBalanced_60 : decode cX3_isBalanced 60 = .ok (.ireturn, 1) := by decide +kernel
theorem dX3_isBalanced_61 : decode cX3_isBalanced 61 = .ok (.iinc 1 1, 3) := by decide +kernel
theorem dX3_isBalanced_64 : decode cX3_isBalanced 64 = .ok (.goto (-62), 3) := by decide +kernel
theorem dX3_isBalanced_67 : decode cX3_isBalanced 67 = .ok (.iconst 1, 1) := by decide +kernel
theorem dX3_isBalanced_68 : decode cX3_isBalanced 68 = .ok (.ireturn, 1) := by decide +kernel
theorem dX3_reduceRepetitions_0 : decode cX3_reduceRepetitions 0 = .ok (.lconst 0, 1) := by decide +kernel
theorem dX3_reduceRepetitions_1 : decode cX3_reduceRepetitions 1 = .ok (.lstore_n 1, 1) := by decide +kernel
theorem dX3_reduceRepetitions_2 : decode cX3_reduceRepetitions 2 = .ok (.iconst 0, 1) := by decide +kernel
theorem dX3_reduceRepetitions_3 : decode cX3_reduceRepetitions 3 = .ok (.istore_n 3, 1) := by decide +kernel
theorem dX3_reduceRepetitions_4 : decode cX3_reduceRepetitions 4 = .ok (.iload_n 3, 1) := by decide +kernel
theorem dX3_reduceRepetitions_5 : decode cX3_reduceRepetitions 5 = .ok (.aload_n 0, 1) := by decide +kernel
theorem dX3_reduceRepetitions_6 : decode cX3_reduceRepetitions 6 = .ok (.getfield 34, 3) := by decide +kernel
theorem dX3_reduceRepetitions_9 : decode cX3_reduceRepetitions 9 = .ok (.if_icmp .ge 23, 3) := by decide +kernel
theorem dX3_reduceRepetitions_12 : decode cX3_reduceRepetitions 12 = .ok (.aload_n 0, 1) := by decide +kernel
theorem dX3_reduceRepetitions_13 : decode cX3_reduceRepetitions 13 = .ok (.getfield 11, 3) := by decide +kernel
theorem dX3_reduceRepetitions_16 : decode cX3_reduceRepetitions 16 = .ok (.iload_n 3, 1) := by decide +kernel
theorem dX3_reduceRepetitions_17 : decode cX3_reduceRepetitions 17 = .ok (.aaload, 1) := by decide +kernel
theorem dX3_reduceRepetitions_18 : decode cX3_reduceRepetitions 18 = .ok (.getfield 131, 3) := by decide +kernel
theorem dX3_reduceRepetitions_21 : decode cX3_reduceRepetitions 21 = .ok (.lload_n 1, 1) := by decide +kernel
theorem dX3_reduceRepetitions_22 : decode cX3_reduceRepetitions 22 = .ok (.invokestatic 172, 3) := by decide +kernel
theorem dX3_reduceRepetitions_25 : decode cX3_reduceRepetitions 25 = .ok (.lstore_n 1, 1) := by decide +kernel
theorem dX3_reduceRepetitions_26 : decode cX3_reduceRepetitions 26 = .ok (.iinc 3 1, 3) := by decide +kernel
theorem dX3_reduceRepetitions_29 : decode cX3_reduceRepetitions 29 = .ok (.goto (-25), 3) := by decide +kernel
theorem dX3_reduceRepetitions_32 : decode cX3_reduceRepetitions 32 = .ok (.lload_n 1, 1) := by decide +kernel
theorem dX3_reduceRepetitions_33 : decode cX3_reduceRepetitions 33 = .ok (.lconst 1, 1) := by decide +kernel
theorem dX3_reduceRepetitions_34 : decode cX3_reduceRepetitions 34 = .ok (.lcmp, 1) := by decide +kernel
theorem dX3_reduceRepetitions_35 : decode cX3_reduceRepetitions 35 = .ok (.ifCond .le 34, 3) := by decide +kernel
theorem dX3_reduceRepetitions_38 : decode cX3_reduceRepetitions 38 = .ok (.iconst 0, 1) := by decide +kernel
theorem dX3_reduceRepetitions_39 : decode cX3_reduceRepetitions 39 = .ok (.istore_n 3, 1) := by decide +kernel
theorem dX3_reduceRepetitions_40 : decode cX3_reduceRepetitions 40 = .ok (.iload_n 3, 1) := by decide +kernel
theorem dX3_reduceRepetitions_41 : decode cX3_reduceRepetitions 41 = .ok (.aload_n 0, 1) := by decide +kernel
theorem dX3_reduceRepetitions_42 : decode cX3_reduceRepetitions 42 = .ok (.getfield 34, 3) := by decide +kernel
theorem dX3_reduceRepetitions_45 : decode cX3_reduceRepetitions 45 = .ok (.if_icmp .ge 24, 3) := by decide +kernel
theorem dX3_reduceRepetitions_48 : decode cX3_reduceRepetitions 48 = .ok (.aload_n 0, 1) := by decide +kernel
theorem dX3_reduceRepetitions_49 : decode cX3_reduceRepetitions 49 = .ok (.getfield 11, 3) := by decide +kernel
theorem dX3_reduceRepetitions_52 : decode cX3_reduceRepetitions 52 = .ok (.iload_n 3, 1) := by decide +kernel
theorem dX3_reduceRepetitions_53 : decode cX3_reduceRepetitions 53 = .ok (.aaload, 1) := by decide +kernel
theorem dX3_reduceRepetitions_54 : decode cX3_reduceRepetitions 54 = .ok (.dup, 1) := by decide +kernel
theorem dX3_reduceRepetitions_55 : decode cX3_reduceRepetitions 55 = .ok (.getfield 131, 3) := by decide +kernel
theorem dX3_reduceRepetitions_58 : decode cX3_reduceRepetitions 58 = .ok (.lload_n 1, 1) := by decide +kernel
theorem dX3_reduceRepetitions_59 : decode cX3_reduceRepetitions 59 = .ok (.ldiv, 1) := by decide +kernel
theorem dX3_reduceRepetitions_60 : decode cX3_reduceRepetitions 60 = .ok (.putfield 131, 3) := by decide +kernel
theorem dX3_reduceRepetitions_63 : decode cX3_reduceRepetitions 63 = .ok (.iinc 3 1, 3) := by decide +kernel
theorem dX3_reduceRepetitions_66 : decode cX3_reduceRepetitions 66 = .ok (.goto (-26), 3) := by decide +kernel
theorem dX3_reduceRepetitions_69 : decode cX3_reduceRepetitions 69 = .ok (.return_, 1) := by decide +kernel
theorem dX3_greatestDivisor_0 : decode cX3_greatestDivisor 0 = .ok (.lload_n 0, 1) := by decide +kernel
theorem dX3_greatestDivisor_1 : decode cX3_greatestDivisor 1 = .ok (.lstore 4, 2) := by decide +kernel
theorem dX3_greatestDivisor_3 : decode cX3_greatestDivisor 3 = .ok (.lload_n 2, 1) := by decide +kernel
theorem dX3_greatestDivisor_4 : decode cX3_greatestDivisor 4 = .ok (.lstore 6, 2) := by decide +kernel
theorem dX3_greatestDivisor_6 : decode cX3_greatestDivisor 6 = .ok (.iconst 0, 1) := by decide +kernel
theorem dX3_greatestDivisor_7 : decode cX3_greatestDivisor 7 = .ok (.istore 8, 2) := by decide +kernel
theorem dX3_greatestDivisor_9 : decode cX3_greatestDivisor 9 = .ok (.iload 8, 2) := by decide +kernel
theorem dX3_greatestDivisor_11 : decode cX3_greatestDivisor 11 = .ok (.bipush 100, 2) := by decide +kernel
theorem dX3_greatestDivisor_13 : decode cX3_greatestDivisor 13 = .ok (.if_icmp .ge 31, 3) := by decide +kernel
theorem dX3_greatestDivisor_16 : decode cX3_greatestDivisor 16 = .ok (.lload 6, 2) := by decide +kernel
theorem dX3_greatestDivisor_18 : decode cX3_greatestDivisor 18 = .ok (.lconst 0, 1) := by decide +kernel
theorem dX3_greatestDivisor_19 : decode cX3_greatestDivisor 19 = .ok (.lcmp, 1) := by decide +kernel
theorem dX3_greatestDivisor_20 : decode cX3_greatestDivisor 20 = .ok (.ifCond .eq 24, 3) := by decide +kernel
theorem dX3_greatestDivisor_23 : decode cX3_greatestDivisor 23 = .ok (.lload 4, 2) := by decide +kernel
theorem dX3_greatestDivisor_25 : decode cX3_greatestDivisor 25 = .ok (.lload 6, 2) := by decide +kernel
theorem dX3_greatestDivisor_27 : decode cX3_greatestDivisor 27 = .ok (.lrem, 1) := by decide +kernel
theorem dX3_greatestDivisor_28 : decode cX3_greatestDivisor 28 = .ok (.lstore 9, 2) := by decide +kernel
theorem dX3_greatestDivisor_30 : decode cX3_greatestDivisor 30 = .ok (.lload 6, 2) := by decide +kernel
theorem dX3_greatestDivisor_32 : decode cX3_greatestDivisor 32 = .ok (.lstore 4, 2) := by decide +kernel
theorem dX3_greatestDivisor_34 : decode cX3_greatestDivisor 34 = .ok (.lload 9, 2) := by decide +kernel
theorem dX3_greatestDivisor_36 : decode cX3_greatestDivisor 36 = .ok (.lstore 6, 2) := by decide +kernel
theorem dX3_greatestDivisor_38 : decode cX3_greatestDivisor 38 = .ok (.iinc 8 1, 3) := by decide +kernel
theorem dX3_greatestDivisor_41 : decode cX3_greatestDivisor 41 = .ok (.goto (-32), 3) := by decide +kernel
theorem dX3_greatestDivisor_44 : decode cX3_greatestDivisor 44 = .ok (.lload 4, 2) := by decide +kernel
theorem dX3_greatestDivisor_46 : decode cX3_greatestDivisor 46 = .ok (.lreturn, 1) := by decide +kernel
theorem dX3_sumOfRepetitions_0 : decode cX3_sumOfRepetitions 0 = .ok (.lconst 0, 1) := by decide +kernel
theorem dX3_sumOfRepetitions_1 : decode cX3_sumOfRepetitions 1 = .ok (.lstore_n 1, 1) := by decide +kernel
theorem dX3_sumOfRepetitions_2 : decode cX3_sumOfRepetitions 2 = .ok (.iconst 0, 1) := by decide +kernel
theorem dX3_sumOfRepetitions_3 : decode cX3_sumOfRepetitions 3 = .ok (.istore_n 3, 1) := by decide +kernel
theorem dX3_sumOfRepetitions_4 : decode cX3_sumOfRepetitions 4 = .ok (.iload_n 3, 1) := by decide +kernel
theorem dX3_sumOfRepetitions_5 : decode cX3_sumOfRepetitions 5 = .ok (.aload_n 0, 1) := by decide +kernel
theorem dX3_sumOfRepetitions_6 : decode cX3_sumOfRepetitions 6 = .ok (.getfield 34, 3) := by decide +kernel
theorem dX3_sumOfRepetitions_9 : decode cX3_sumOfRepetitions 9 = .ok (.if_icmp .ge 21, 3) := by decide +kernel
theorem dX3_sumOfRepetitions_12 : decode cX3_sumOfRepetitions 12 = .ok (.lload_n 1, 1) := by decide +kernel
theorem dX3_sumOfRepetitions_13 : decode cX3_sumOfRepetitions 13 = .ok (.aload_n 0, 1) := by decide +kernel
theorem dX3_sumOfRepetitions_14 : decode cX3_sumOfRepetitions 14 = .ok (.getfield 11, 3) := by decide +kernel
theorem dX3_sumOfRepetitions_17 : decode cX3_sumOfRepetitions 17 = .ok (.iload_n 3, 1) := by decide +kernel
theorem dX3_sumOfRepetitions_18 : decode cX3_sumOfRepetitions 18 = .ok (.aaload, 1) := by decide +kernel
theorem dX3_sumOfRepetitions_19 : decode cX3_sumOfRepetitions 19 = .ok (.getfield 131, 3) := by decide +kernel
theorem dX3_sumOfRepetitions_22 : decode cX3_sumOfRepetitions 22 = .ok (.ladd, 1) := by decide +kernel
theorem dX3_sumOfRepetitions_23 : decode cX3_sumOfRepetitions 23 = .ok (.lstore_n 1, 1) := by decide +kernel
theorem dX3_sumOfRepetitions_24 : decode cX3_sumOfRepetitions 24 = .ok (.iinc 3 1, 3) := by decide +kernel
theorem dX3_sumOfRepetitions_27 : decode cX3_sumOfRepetitions 27 = .ok (.goto (-23), 3) := by decide +kernel
theorem dX3_sumOfRepetitions_30 : decode cX3_sumOfRepetitions 30 = .ok (.lload_n 1, 1) := by decide +kernel
theorem dX3_sumOfRepetitions_31 : decode cX3_sumOfRepetitions 31 = .ok (.lreturn, 1) := by decide +kernel
theorem dX3_layOut_0 : decode cX3_layOut 0 = .ok (.iconst 0, 1) := by decide +kernel
theorem dX3_layOut_1 : decode cX3_layOut 1 = .ok (.istore_n 2, 1) := by decide +kernel
theorem dX3_layOut_2 : decode cX3_layOut 2 = .ok (.iload_n 2, 1) := by decide +kernel
theorem dX3_layOut_3 : decode cX3_layOut 3 = .ok (.aload_n 0, 1) := by decide +kernel
theorem dX3_layOut_4 : decode cX3_layOut 4 = .ok (.getfield 34, 3) := by decide +kernel
theorem dX3_layOut_7 : decode cX3_layOut 7 = .ok (.if_icmp .ge 19, 3) := by decide +kernel
theorem dX3_layOut_10 : decode cX3_layOut 10 = .ok (.aload_n 0, 1) := by decide +kernel
theorem dX3_layOut_11 : decode cX3_layOut 11 = .ok (.getfield 11, 3) := by decide +kernel
theorem dX3_layOut_14 : decode cX3_layOut 14 = .ok (.iload_n 2, 1) := by decide +kernel
theorem dX3_layOut_15 : decode cX3_layOut 15 = .ok (.aaload, 1) := by decide +kernel
theorem dX3_layOut_16 : decode cX3_layOut 16 = .ok (.iconst 0, 1) := by decide +kernel
theorem dX3_layOut_17 : decode cX3_layOut 17 = .ok (.putfield 176, 3) := by decide +kernel
theorem dX3_layOut_20 : decode cX3_layOut 20 = .ok (.iinc 2 1, 3) := by decide +kernel
theorem dX3_layOut_23 : decode cX3_layOut 23 = .ok (.goto (-21), 3) := by decide +kernel
theorem dX3_layOut_26 : decode cX3_layOut 26 = .ok (.iconst 0, 1) := by decide +kernel
theorem dX3_layOut_27 : decode cX3_layOut 27 = .ok (.istore_n 2, 1) := by decide +kernel
theorem dX3_layOut_28 : decode cX3_layOut 28 = .ok (.iload_n 2, 1) := by decide +kernel
theorem dX3_layOut_29 : decode cX3_layOut 29 = .ok (.aload_n 0, 1) := by decide +kernel
theorem dX3_layOut_30 : decode cX3_layOut 30 = .ok (.getfield 57, 3) := by decide +kernel
theorem dX3_layOut_33 : decode cX3_layOut 33 = .ok (.if_icmp .ge 18, 3) := by decide +kernel
theorem dX3_layOut_36 : decode cX3_layOut 36 = .ok (.aload_n 0, 1) := by decide +kernel
theorem dX3_layOut_37 : decode cX3_layOut 37 = .ok (.getfield 18, 3) := by decide +kernel
theorem dX3_layOut_40 : decode cX3_layOut 40 = .ok (.iload_n 2, 1) := by decide +kernel
theorem dX3_layOut_41 : decode cX3_layOut 41 = .ok (.aaload, 1) := by decide +kernel
theorem dX3_layOut_42 : decode cX3_layOut 42 = .ok (.invokevirtual 179, 3) := by decide +kernel
theorem dX3_layOut_45 : decode cX3_layOut 45 = .ok (.iinc 2 1, 3) := by decide +kernel
theorem dX3_layOut_48 : decode cX3_layOut 48 = .ok (.goto (-20), 3) := by decide +kernel
theorem dX3_layOut_51 : decode cX3_layOut 51 = .ok (.iconst 0, 1) := by decide +kernel
theorem dX3_layOut_52 : decode cX3_layOut 52 = .ok (.istore_n 2, 1) := by decide +kernel
theorem dX3_layOut_53 : decode cX3_layOut 53 = .ok (.iload_n 2, 1) := by decide +kernel
theorem dX3_layOut_54 : decode cX3_layOut 54 = .ok (.iload_n 1, 1) := by decide +kernel
theorem dX3_layOut_55 : decode cX3_layOut 55 = .ok (.if_icmp .ge 39, 3) := by decide +kernel
theorem dX3_layOut_58 : decode cX3_layOut 58 = .ok (.iload_n 2, 1) := by decide +kernel
theorem dX3_layOut_59 : decode cX3_layOut 59 = .ok (.sipush 200, 3) := by decide +kernel
theorem dX3_layOut_62 : decode cX3_layOut 62 = .ok (.if_icmp .ge 32, 3) := by decide +kernel
theorem dX3_layOut_65 : decode cX3_layOut 65 = .ok (.aload_n 0, 1) := by decide +kernel
theorem dX3_layOut_66 : decode cX3_layOut 66 = .ok (.invokevirtual 182, 3) := by decide +kernel
theorem dX3_layOut_69 : decode cX3_layOut 69 = .ok (.istore_n 3, 1) := by decide +kernel
theorem dX3_layOut_70 : decode cX3_layOut 70 = .ok (.iload_n 3, 1) := by decide +kernel
theorem dX3_layOut_71 : decode cX3_layOut 71 = .ok (.ifCond .ge 5, 3) := by decide +kernel
theorem dX3_layOut_74 : decode cX3_layOut 74 = .ok (.iconst 0, 1) := by decide +kernel
theorem dX3_layOut_75 : decode cX3_layOut 75 = .ok (.ireturn, 1) := by decide +kernel
theorem dX3_layOut_76 : decode cX3_layOut 76 = .ok (.aload_n 0, 1) := by decide +kernel
theorem dX3_layOut_77 : decode cX3_layOut 77 = .ok (.getfield 23, 3) := by decide +kernel
theorem dX3_layOut_80 : decode cX3_layOut 80 = .ok (.iload_n 2, 1) := by decide +kernel
theorem dX3_layOut_81 : decode cX3_layOut 81 = .ok (.iload_n 3, 1) := by decide +kernel
theorem dX3_layOut_82 : decode cX3_layOut 82 = .ok (.iastore, 1) := by decide +kernel
theorem dX3_layOut_83 : decode cX3_layOut 83 = .ok (.aload_n 0, 1) := by decide +kernel
theorem dX3_layOut_84 : decode cX3_layOut 84 = .ok (.iload_n 3, 1) := by decide +kernel
theorem dX3_layOut_85 : decode cX3_layOut 85 = .ok (.invokevirtual 186, 3) := by decide +kernel
theorem dX3_layOut_88 : decode cX3_layOut 88 = .ok (.iinc 2 1, 3) := by decide +kernel
theorem dX3_layOut_91 : decode cX3_layOut 91 = .ok (.goto (-38), 3) := by decide +kernel
theorem dX3_layOut_94 : decode cX3_layOut 94 = .ok (.iconst 1, 1) := by decide +kernel
theorem dX3_layOut_95 : decode cX3_layOut 95 = .ok (.ireturn, 1) := by decide +kernel
theorem dX3_nextToFire_0 : decode cX3_nextToFire 0 = .ok (.iconst 0, 1) := by decide +kernel
theorem dX3_nextToFire_1 : decode cX3_nextToFire 1 = .ok (.istore_n 1, 1) := by decide +kernel
theorem dX3_nextToFire_2 : decode cX3_nextToFire 2 = .ok (.iload_n 1, 1) := by decide +kernel
theorem dX3_nextToFire_3 : decode cX3_nextToFire 3 = .ok (.aload_n 0, 1) := by decide +kernel
theorem dX3_nextToFire_4 : decode cX3_nextToFire 4 = .ok (.getfield 34, 3) := by decide +kernel
theorem dX3_nextToFire_7 : decode cX3_nextToFire 7 = .ok (.if_icmp .ge 42, 3) := by decide +kernel
theorem dX3_nextToFire_10 : decode cX3_nextToFire 10 = .ok (.aload_n 0, 1) := by decide +kernel
theorem dX3_nextToFire_11 : decode cX3_nextToFire 11 = .ok (.getfield 11, 3) := by decide +kernel
theorem dX3_nextToFire_14 : decode cX3_nextToFire 14 = .ok (.iload_n 1, 1) := by decide +kernel
theorem dX3_nextToFire_15 : decode cX3_nextToFire 15 = .ok (.aaload, 1) := by decide +kernel
theorem dX3_nextToFire_16 : decode cX3_nextToFire 16 = .ok (.getfield 176, 3) := by decide +kernel
theorem dX3_nextToFire_19 : decode cX3_nextToFire 19 = .ok (.i2l, 1) := by decide +kernel
theorem dX3_nextToFire_20 : decode cX3_nextToFire 20 = .ok (.aload_n 0, 1) := by decide +kernel
theorem dX3_nextToFire_21 : decode cX3_nextToFire 21 = .ok (.getfield 11, 3) := by decide +kernel
theorem dX3_nextToFire_24 : decode cX3_nextToFire 24 = .ok (.iload_n 1, 1) := by decide +kernel
theorem dX3_nextToFire_25 : decode cX3_nextToFire 25 = .ok (.aaload, 1) := by decide +kernel
theorem dX3_nextToFire_26 : decode cX3_nextToFire 26 = .ok (.getfield 131, 3) := by decide +kernel
theorem dX3_nextToFire_29 : decode cX3_nextToFire 29 = .ok (.lcmp, 1) := by decide +kernel
theorem dX3_nextToFire_30 : decode cX3_nextToFire 30 = .ok (.ifCond .ge 13, 3) := by decide +kernel
theorem dX3_nextToFire_33 : decode cX3_nextToFire 33 = .ok (.aload_n 0, 1) := by decide +kernel
theorem dX3_nextToFire_34 : decode cX3_nextToFire 34 = .ok (.iload_n 1, 1) := by decide +kernel
theorem dX3_nextToFire_35 : decode cX3_nextToFire 35 = .ok (.invokevirtual 189, 3) := by decide +kernel
theorem dX3_nextToFire_38 : decode cX3_nextToFire 38 = .ok (.ifCond .eq 5, 3) := by decide +kernel
theorem dX3_nextToFire_41 : decode cX3_nextToFire 41 = .ok (.iload_n 1, 1) := by decide +kernel
theorem dX3_nextToFire_42 : decode cX3_nextToFire 42 = .ok (.ireturn, 1) := by decide +kernel
theorem dX3_nextToFire_43 : decode cX3_nextToFire 43 = .ok (.iinc 1 1, 3) := by decide +kernel
theorem dX3_nextToFire_46 : decode cX3_nextToFire 46 = .ok (.goto (-44), 3) := by decide +kernel
theorem dX3_nextToFire_49 : decode cX3_nextToFire 49 = .ok (.iconst (-1), 1) := by decide +kernel
theorem dX3_nextToFire_50 : decode cX3_nextToFire 50 = .ok (.ireturn, 1) := by decide +kernel
theorem dX3_hasEnough_0 : decode cX3_hasEnough 0 = .ok (.iconst 0, 1) := by decide +kernel
theorem dX3_hasEnough_1 : decode cX3_hasEnough 1 = .ok (.istore_n 2, 1) := by decide +kernel
theorem dX3_hasEnough_2 : decode cX3_hasEnough 2 = .ok (.iload_n 2, 1) := by decide +kernel
theorem dX3_hasEnough_3 : decode cX3_hasEnough 3 = .ok (.aload_n 0, 1) := by decide +kernel
theorem dX3_hasEnough_4 : decode cX3_hasEnough 4 = .ok (.getfield 57, 3) := by decide +kernel
theorem dX3_hasEnough_7 : decode cX3_hasEnough 7 = .ok (.if_icmp .ge 45, 3) := by decide +kernel
theorem dX3_hasEnough_10 : decode cX3_hasEnough 10 = .ok (.aload_n 0, 1) := by decide +kernel
theorem dX3_hasEnough_11 : decode cX3_hasEnough 11 = .ok (.getfield 18, 3) := by decide +kernel
theorem dX3_hasEnough_14 : decode cX3_hasEnough 14 = .ok (.iload_n 2, 1) := by decide +kernel
theorem dX3_hasEnough_15 : decode cX3_hasEnough 15 = .ok (.aaload, 1) := by decide +kernel
theorem dX3_hasEnough_16 : decode cX3_hasEnough 16 = .ok (.getfield 63, 3) := by decide +kernel
theorem dX3_hasEnough_19 : decode cX3_hasEnough 19 = .ok (.iload_n 1, 1) := by decide +kernel
theorem dX3_hasEnough_20 : decode cX3_hasEnough 20 = .ok (.if_icmp .ne 26, 3) := by decide +kernel
theorem dX3_hasEnough_23 : decode cX3_hasEnough 23 = .ok (.aload_n 0, 1) := by decide +kernel
theorem dX3_hasEnough_24 : decode cX3_hasEnough 24 = .ok (.getfield 18, 3) := by decide +kernel
theorem dX3_hasEnough_27 : decode cX3_hasEnough 27 = .ok (.iload_n 2, 1) := by decide +kernel
theorem dX3_hasEnough_28 : decode cX3_hasEnough 28 = .ok (.aaload, 1) := by decide +kernel
theorem dX3_hasEnough_29 : decode cX3_hasEnough 29 = .ok (.getfield 192, 3) := by decide +kernel
theorem dX3_hasEnough_32 : decode cX3_hasEnough 32 = .ok (.aload_n 0, 1) := by decide +kernel
theorem dX3_hasEnough_33 : decode cX3_hasEnough 33 = .ok (.getfield 18, 3) := by decide +kernel
theorem dX3_hasEnough_36 : decode cX3_hasEnough 36 = .ok (.iload_n 2, 1) := by decide +kernel
theorem dX3_hasEnough_37 : decode cX3_hasEnough 37 = .ok (.aaload, 1) := by decide +kernel
theorem dX3_hasEnough_38 : decode cX3_hasEnough 38 = .ok (.getfield 69, 3) := by decide +kernel
theorem dX3_hasEnough_41 : decode cX3_hasEnough 41 = .ok (.if_icmp .ge 5, 3) := by decide +kernel
theorem dX3_hasEnough_44 : decode cX3_hasEnough 44 = .ok (.iconst 0, 1) := by decide +kernel
theorem dX3_hasEnough_45 : decode cX3_hasEnough 45 = .ok (.ireturn, 1) := by decide +kernel
theorem dX3_hasEnough_46 : decode cX3_hasEnough 46 = .ok (.iinc 2 1, 3) := by decide +kernel
theorem dX3_hasEnough_49 : decode cX3_hasEnough 49 = .ok (.goto (-47), 3) := by decide +kernel
theorem dX3_hasEnough_52 : decode cX3_hasEnough 52 = .ok (.iconst 1, 1) := by decide +kernel
theorem dX3_hasEnough_53 : decode cX3_hasEnough 53 = .ok (.ireturn, 1) := by decide +kernel
theorem dX3_countFiring_0 : decode cX3_countFiring 0 = .ok (.aload_n 0, 1) := by decide +kernel
theorem dX3_countFiring_1 : decode cX3_countFiring 1 = .ok (.getfield 11, 3) := by decide +kernel
theorem dX3_countFiring_4 : decode cX3_countFiring 4 = .ok (.iload_n 1, 1) := by decide +kernel
theorem dX3_countFiring_5 : decode cX3_countFiring 5 = .ok (.aaload, 1) := by decide +kernel
theorem dX3_countFiring_6 : decode cX3_countFiring 6 = .ok (.dup, 1) := by decide +kernel
theorem dX3_countFiring_7 : decode cX3_countFiring 7 = .ok (.getfield 176, 3) := by decide +kernel
theorem dX3_countFiring_10 : decode cX3_countFiring 10 = .ok (.iconst 1, 1) := by decide +kernel
theorem dX3_countFiring_11 : decode cX3_countFiring 11 = .ok (.iadd, 1) := by decide +kernel
theorem dX3_countFiring_12 : decode cX3_countFiring 12 = .ok (.putfield 176, 3) := by decide +kernel
theorem dX3_countFiring_15 : decode cX3_countFiring 15 = .ok (.iconst 0, 1) := by decide +kernel
theorem dX3_countFiring_16 : decode cX3_countFiring 16 = .ok (.istore_n 2, 1) := by decide +kernel
theorem dX3_countFiring_17 : decode cX3_countFiring 17 = .ok (.iload_n 2, 1) := by decide +kernel
theorem dX3_countFiring_18 : decode cX3_countFiring 18 = .ok (.aload_n 0, 1) := by decide +kernel
theorem dX3_countFiring_19 : decode cX3_countFiring 19 = .ok (.getfield 57, 3) := by decide +kernel
theorem dX3_countFiring_22 : decode cX3_countFiring 22 = .ok (.if_icmp .ge 19, 3) := by decide +kernel
theorem dX3_countFiring_25 : decode cX3_countFiring 25 = .ok (.aload_n 0, 1) := by decide +kernel
theorem dX3_countFiring_26 : decode cX3_countFiring 26 = .ok (.getfield 18, 3) := by decide +kernel
theorem dX3_countFiring_29 : decode cX3_countFiring 29 = .ok (.iload_n 2, 1) := by decide +kernel
theorem dX3_countFiring_30 : decode cX3_countFiring 30 = .ok (.aaload, 1) := by decide +kernel
theorem dX3_countFiring_31 : decode cX3_countFiring 31 = .ok (.iload_n 1, 1) := by decide +kernel
theorem dX3_countFiring_32 : decode cX3_countFiring 32 = .ok (.invokevirtual 195, 3) := by decide +kernel
theorem dX3_countFiring_35 : decode cX3_countFiring 35 = .ok (.iinc 2 1, 3) := by decide +kernel
theorem dX3_countFiring_38 : decode cX3_countFiring 38 = .ok (.goto (-21), 3) := by decide +kernel
theorem dX3_countFiring_41 : decode cX3_countFiring 41 = .ok (.return_, 1) := by decide +kernel
theorem dX3_makeRoomForTokens_0 : decode cX3_makeRoomForTokens 0 = .ok (.iconst 0, 1) := by decide +kernel
theorem dX3_makeRoomForTokens_1 : decode cX3_makeRoomForTokens 1 = .ok (.istore_n 1, 1) := by decide +kernel
theorem dX3_makeRoomForTokens_2 : decode cX3_makeRoomForTokens 2 = .ok (.iload_n 1, 1) := by decide +kernel
theorem dX3_makeRoomForTokens_3 : decode cX3_makeRoomForTokens 3 = .ok (.aload_n 0, 1) := by decide +kernel
theorem dX3_makeRoomForTokens_4 : decode cX3_makeRoomForTokens 4 = .ok (.getfield 57, 3) := by decide +kernel
theorem dX3_makeRoomForTokens_7 : decode cX3_makeRoomForTokens 7 = .ok (.if_icmp .ge 18, 3) := by decide +kernel
theorem dX3_makeRoomForTokens_10 : decode cX3_makeRoomForTokens 10 = .ok (.aload_n 0, 1) := by decide +kernel
theorem dX3_makeRoomForTokens_11 : decode cX3_makeRoomForTokens 11 = .ok (.getfield 18, 3) := by decide +kernel
theorem dX3_makeRoomForTokens_14 : decode cX3_makeRoomForTokens 14 = .ok (.iload_n 1, 1) := by decide +kernel
theorem dX3_makeRoomForTokens_15 : decode cX3_makeRoomForTokens 15 = .ok (.aaload, 1) := by decide +kernel
theorem dX3_makeRoomForTokens_16 : decode cX3_makeRoomForTokens 16 = .ok (.invokevirtual 196, 3) := by decide +kernel
theorem dX3_makeRoomForTokens_19 : decode cX3_makeRoomForTokens 19 = .ok (.iinc 1 1, 3) := by decide +kernel
theorem dX3_makeRoomForTokens_22 : decode cX3_makeRoomForTokens 22 = .ok (.goto (-20), 3) := by decide +kernel
theorem dX3_makeRoomForTokens_25 : decode cX3_makeRoomForTokens 25 = .ok (.return_, 1) := by decide +kernel
theorem dX3_fire_0 : decode cX3_fire 0 = .ok (.aload_n 0, 1) := by decide +kernel
theorem dX3_fire_1 : decode cX3_fire 1 = .ok (.getfield 30, 3) := by decide +kernel
theorem dX3_fire_4 : decode cX3_fire 4 = .ok (.invokevirtual 199, 3) := by decide +kernel
theorem dX3_fire_7 : decode cX3_fire 7 = .ok (.iconst 0, 1) := by decide +kernel
theorem dX3_fire_8 : decode cX3_fire 8 = .ok (.istore_n 2, 1) := by decide +kernel
theorem dX3_fire_9 : decode cX3_fire 9 = .ok (.iload_n 2, 1) := by decide +kernel
theorem dX3_fire_10 : decode cX3_fire 10 = .ok (.aload_n 0, 1) := by decide +kernel
theorem dX3_fire_11 : decode cX3_fire 11 = .ok (.getfield 57, 3) := by decide +kernel
theorem dX3_fire_14 : decode cX3_fire 14 = .ok (.if_icmp .ge 35, 3) := by decide +kernel
theorem dX3_fire_17 : decode cX3_fire 17 = .ok (.aload_n 0, 1) := by decide +kernel
theorem dX3_fire_18 : decode cX3_fire 18 = .ok (.getfield 18, 3) := by decide +kernel
theorem dX3_fire_21 : decode cX3_fire 21 = .ok (.iload_n 2, 1) := by decide +kernel
theorem dX3_fire_22 : decode cX3_fire 22 = .ok (.aaload, 1) := by decide +kernel
theorem dX3_fire_23 : decode cX3_fire 23 = .ok (.getfield 63, 3) := by decide +kernel
theorem dX3_fire_26 : decode cX3_fire 26 = .ok (.iload_n 1, 1) := by decide +kernel
theorem dX3_fire_27 : decode cX3_fire 27 = .ok (.if_icmp .ne 16, 3) := by decide +kernel
theorem dX3_fire_30 : decode cX3_fire 30 = .ok (.aload_n 0, 1) := by decide +kernel
theorem dX3_fire_31 : decode cX3_fire 31 = .ok (.getfield 18, 3) := by decide +kernel
theorem dX3_fire_34 : decode cX3_fire 34 = .ok (.iload_n 2, 1) := by decide +kernel
theorem dX3_fire_35 : decode cX3_fire 35 = .ok (.aaload, 1) := by decide +kernel
theorem dX3_fire_36 : decode cX3_fire 36 = .ok (.aload_n 0, 1) := by decide +kernel
theorem dX3_fire_37 : decode cX3_fire 37 = .ok (.getfield 30, 3) := by decide +kernel
theorem dX3_fire_40 : decode cX3_fire 40 = .ok (.invokevirtual 202, 3) := by decide +kernel
theorem dX3_fire_43 : decode cX3_fire 43 = .ok (.iinc 2 1, 3) := by decide +kernel
theorem dX3_fire_46 : decode cX3_fire 46 = .ok (.goto (-37), 3) := by decide +kernel
theorem dX3_fire_49 : decode cX3_fire 49 = .ok (.aload_n 0, 1) := by decide +kernel
theorem dX3_fire_50 : decode cX3_fire 50 = .ok (.getfield 11, 3) := by decide +kernel
theorem dX3_fire_53 : decode cX3_fire 53 = .ok (.iload_n 1, 1) := by decide +kernel
theorem dX3_fire_54 : decode cX3_fire 54 = .ok (.aaload, 1) := by decide +kernel
theorem dX3_fire_55 : decode cX3_fire 55 = .ok (.astore_n 2, 1) := by decide +kernel
theorem dX3_fire_56 : decode cX3_fire 56 = .ok (.aload_n 2, 1) := by decide +kernel
theorem dX3_fire_57 : decode cX3_fire 57 = .ok (.aload_n 0, 1) := by decide +kernel
theorem dX3_fire_58 : decode cX3_fire 58 = .ok (.getfield 30, 3) := by decide +kernel
theorem dX3_fire_61 : decode cX3_fire 61 = .ok (.invokevirtual 206, 3) := by decide +kernel
theorem dX3_fire_64 : decode cX3_fire 64 = .ok (.iconst 0, 1) := by decide +kernel
theorem dX3_fire_65 : decode cX3_fire 65 = .ok (.istore_n 3, 1) := by decide +kernel
theorem dX3_fire_66 : decode cX3_fire 66 = .ok (.iload_n 3, 1) := by decide +kernel
theorem dX3_fire_67 : decode cX3_fire 67 = .ok (.aload_n 0, 1) := by decide +kernel
theorem dX3_fire_68 : decode cX3_fire 68 = .ok (.getfield 57, 3) := by decide +kernel
theorem dX3_fire_71 : decode cX3_fire 71 = .ok (.if_icmp .ge 35, 3) := by decide +kernel
theorem dX3_fire_74 : decode cX3_fire 74 = .ok (.aload_n 0, 1) := by decide +kernel
theorem dX3_fire_75 : decode cX3_fire 75 = .ok (.getfield 18, 3) := by decide +kernel
theorem dX3_fire_78 : decode cX3_fire 78 = .ok (.iload_n 3, 1) := by decide +kernel
theorem dX3_fire_79 : decode cX3_fire 79 = .ok (.aaload, 1) := by decide +kernel
theorem dX3_fire_80 : decode cX3_fire 80 = .ok (.getfield 60, 3) := by decide +kernel
theorem dX3_fire_83 : decode cX3_fire 83 = .ok (.iload_n 1, 1) := by decide +kernel
theorem dX3_fire_84 : decode cX3_fire 84 = .ok (.if_icmp .ne 16, 3) := by decide +kernel
theorem dX3_fire_87 : decode cX3_fire 87 = .ok (.aload_n 0, 1) := by decide +kernel
theorem dX3_fire_88 : decode cX3_fire 88 = .ok (.getfield 18, 3) := by decide +kernel
theorem dX3_fire_91 : decode cX3_fire 91 = .ok (.iload_n 3, 1) := by decide +kernel
theorem dX3_fire_92 : decode cX3_fire 92 = .ok (.aaload, 1) := by decide +kernel
theorem dX3_fire_93 : decode cX3_fire 93 = .ok (.aload_n 2, 1) := by decide +kernel
theorem dX3_fire_94 : decode cX3_fire 94 = .ok (.getfield 156, 3) := by decide +kernel
theorem dX3_fire_97 : decode cX3_fire 97 = .ok (.invokevirtual 209, 3) := by decide +kernel
theorem dX3_fire_100 : decode cX3_fire 100 = .ok (.iinc 3 1, 3) := by decide +kernel
theorem dX3_fire_103 : decode cX3_fire 103 = .ok (.goto (-37), 3) := by decide +kernel
theorem dX3_fire_106 : decode cX3_fire 106 = .ok (.return_, 1) := by decide +kernel
theorem dX4_init_0 : decode cX4_init 0 = .ok (.aload_n 0, 1) := by decide +kernel
theorem dX4_init_1 : decode cX4_init 1 = .ok (.invokespecial 1, 3) := by decide +kernel
theorem dX4_init_4 : decode cX4_init 4 = .ok (.aload_n 0, 1) := by decide +kernel
theorem dX4_init_5 : decode cX4_init 5 = .ok (.bipush 8, 2) := by decide +kernel
theorem dX4_init_7 : decode cX4_init 7 = .ok (.newarray .int, 2) := by decide +kernel
theorem dX4_init_9 : decode cX4_init 9 = .ok (.putfield 7, 3) := by decide +kernel
theorem dX4_init_12 : decode cX4_init 12 = .ok (.aload_n 0, 1) := by decide +kernel
theorem dX4_init_13 : decode cX4_init 13 = .ok (.bipush 8, 2) := by decide +kernel
theorem dX4_init_15 : decode cX4_init 15 = .ok (.newarray .int, 2) := by decide +kernel
theorem dX4_init_17 : decode cX4_init 17 = .ok (.putfield 13, 3) := by decide +kernel
theorem dX4_init_20 : decode cX4_init 20 = .ok (.aload_n 0, 1) := by decide +kernel
theorem dX4_init_21 : decode cX4_init 21 = .ok (.bipush 8, 2) := by decide +kernel
theorem dX4_init_23 : decode cX4_init 23 = .ok (.newarray .int, 2) := by decide +kernel
theorem dX4_init_25 : decode cX4_init 25 = .ok (.putfield 16, 3) := by decide +kernel
theorem dX4_init_28 : decode cX4_init 28 = .ok (.aload_n 0, 1) := by decide +kernel
theorem dX4_init_29 : decode cX4_init 29 = .ok (.bipush 8, 2) := by decide +kernel
theorem dX4_init_31 : decode cX4_init 31 = .ok (.newarray .int, 2) := by decide +kernel
theorem dX4_init_33 : decode cX4_init 33 = .ok (.putfield 19, 3) := by decide +kernel
theorem dX4_init_36 : decode cX4_init 36 = .ok (.aload_n 0, 1) := by decide +kernel
theorem dX4_init_37 : decode cX4_init 37 = .ok (.bipush 12, 2) := by decide +kernel
theorem dX4_init_39 : decode cX4_init 39 = .ok (.newarray .int, 2) := by decide +kernel
theorem dX4_init_41 : decode cX4_init 41 = .ok (.putfield 22, 3) := by decide +kernel
theorem dX4_init_44 : decode cX4_init 44 = .ok (.aload_n 0, 1) := by decide +kernel
theorem dX4_init_45 : decode cX4_init 45 = .ok (.bipush 12, 2) := by decide +kernel
theorem dX4_init_47 : decode cX4_init 47 = .ok (.newarray .int, 2) := by decide +kernel
theorem dX4_init_49 : decode cX4_init 49 = .ok (.putfield 25, 3) := by decide +kernel
theorem dX4_init_52 : decode cX4_init 52 = .ok (.aload_n 0, 1) := by decide +kernel
theorem dX4_init_53 : decode cX4_init 53 = .ok (.bipush 12, 2) := by decide +kernel
theorem dX4_init_55 : decode cX4_init 55 = .ok (.newarray .int, 2) := by decide +kernel
theorem dX4_init_57 : decode cX4_init 57 = .ok (.putfield 28, 3) := by decide +kernel
theorem dX4_init_60 : decode cX4_init 60 = .ok (.aload_n 0, 1) := by decide +kernel
theorem dX4_init_61 : decode cX4_init 61 = .ok (.bipush 12, 2) := by decide +kernel
theorem dX4_init_63 : decode cX4_init 63 = .ok (.newarray .int, 2) := by decide +kernel
theorem dX4_init_65 : decode cX4_init 65 = .ok (.putfield 31, 3) := by decide +kernel
theorem dX4_init_68 : decode cX4_init 68 = .ok (.aload_n 0, 1) := by decide +kernel
theorem dX4_init_69 : decode cX4_init 69 = .ok (.bipush 12, 2) := by decide +kernel
theorem dX4_init_71 : decode cX4_init 71 = .ok (.newarray .int, 2) := by decide +kernel
theorem dX4_init_73 : decode cX4_init 73 = .ok (.putfield 34, 3) := by decide +kernel
theorem dX4_init_76 : decode cX4_init 76 = .ok (.aload_n 0, 1) := by decide +kernel
theorem dX4_init_77 : decode cX4_init 77 = .ok (.sipush 10920, 3) := by decide +kernel
theorem dX4_init_80 : decode cX4_init 80 = .ok (.newarray .int, 2) := by decide +kernel
theorem dX4_init_82 : decode cX4_init 82 = .ok (.putfield 37, 3) := by decide +kernel
theorem dX4_init_85 : decode cX4_init 85 = .ok (.aload_n 0, 1) := by decide +kernel
theorem dX4_init_86 : decode cX4_init 86 = .ok (.bipush 12, 2) := by decide +kernel
theorem dX4_init_88 : decode cX4_init 88 = .ok (.newarray .int, 2) := by decide +kernel
theorem dX4_init_90 : decode cX4_init 90 = .ok (.putfield 40, 3) := by decide +kernel
theorem dX4_init_93 : decode cX4_init 93 = .ok (.aload_n 0, 1) := by decide +kernel
theorem dX4_init_94 : decode cX4_init 94 = .ok (.bipush 12, 2) := by decide +kernel
theorem dX4_init_96 : decode cX4_init 96 = .ok (.newarray .int, 2) := by decide +kernel
theorem dX4_init_98 : decode cX4_init 98 = .ok (.putfield 43, 3) := by decide +kernel
theorem dX4_init_101 : decode cX4_init 101 = .ok (.aload_n 0, 1) := by decide +kernel
theorem dX4_init_102 : decode cX4_init 102 = .ok (.sipush 200, 3) := by decide +kernel
theorem dX4_init_105 : decode cX4_init 105 = .ok (.newarray .int, 2) := by decide +kernel
theorem dX4_init_107 : decode cX4_init 107 = .ok (.putfield 46, 3) := by decide +kernel
theorem dX4_init_110 : decode cX4_init 110 = .ok (.aload_n 0, 1) := by decide +kernel
theorem dX4_init_111 : decode cX4_init 111 = .ok (.bipush 8, 2) := by decide +kernel
theorem dX4_init_113 : decode cX4_init 113 = .ok (.newarray .int, 2) := by decide +kernel
theorem dX4_init_115 : decode cX4_init 115 = .ok (.putfield 49, 3) := by decide +kernel
theorem dX4_init_118 : decode cX4_init 118 = .ok (.aload_n 0, 1) := by decide +kernel
theorem dX4_init_119 : decode cX4_init 119 = .ok (.bipush 12, 2) := by decide +kernel
theorem dX4_init_121 : decode cX4_init 121 = .ok (.newarray .int, 2) := by decide +kernel
theorem dX4_init_123 : decode cX4_init 123 = .ok (.putfield 52, 3) := by decide +kernel
theorem dX4_init_126 : decode cX4_init 126 = .ok (.aload_n 0, 1) := by decide +kernel
theorem dX4_init_127 : decode cX4_init 127 = .ok (.bipush 8, 2) := by decide +kernel
theorem dX4_init_129 : decode cX4_init 129 = .ok (.newarray .long, 2) := by decide +kernel
theorem dX4_init_131 : decode cX4_init 131 = .ok (.putfield 55, 3) := by decide +kernel
theorem dX4_init_134 : decode cX4_init 134 = .ok (.aload_n 0, 1) := by decide +kernel
theorem dX4_init_135 : decode cX4_init 135 = .ok (.bipush 8, 2) := by decide +kernel
