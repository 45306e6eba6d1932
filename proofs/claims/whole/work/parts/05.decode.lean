theorem dX4_init_137 : decode cX4_init 137 = .ok (.newarray .int, 2) := by decide +kernel
theorem dX4_init_139 : decode cX4_init 139 = .ok (.putfield 59, 3) := by decide +kernel
theorem dX4_init_142 : decode cX4_init 142 = .ok (.aload_n 0, 1) := by decide +kernel
theorem dX4_init_143 : decode cX4_init 143 = .ok (.bipush 12, 2) := by decide +kernel
theorem dX4_init_145 : decode cX4_init 145 = .ok (.newarray .int, 2) := by decide +kernel
theorem dX4_init_147 : decode cX4_init 147 = .ok (.putfield 62, 3) := by decide +kernel
theorem dX4_init_150 : decode cX4_init 150 = .ok (.aload_n 0, 1) := by decide +kernel
theorem dX4_init_151 : decode cX4_init 151 = .ok (.bipush 12, 2) := by decide +kernel
theorem dX4_init_153 : decode cX4_init 153 = .ok (.newarray .int, 2) := by decide +kernel
theorem dX4_init_155 : decode cX4_init 155 = .ok (.putfield 65, 3) := by decide +kernel
theorem dX4_init_158 : decode cX4_init 158 = .ok (.aload_n 0, 1) := by decide +kernel
theorem dX4_init_159 : decode cX4_init 159 = .ok (.sipush 200, 3) := by decide +kernel
theorem dX4_init_162 : decode cX4_init 162 = .ok (.newarray .int, 2) := by decide +kernel
theorem dX4_init_164 : decode cX4_init 164 = .ok (.putfield 68, 3) := by decide +kernel
theorem dX4_init_167 : decode cX4_init 167 = .ok (.return_, 1) := by decide +kernel
theorem dX4_thrown_0 : decode cX4_thrown 0 = .ok (.aload_n 0, 1) := by decide +kernel
theorem dX4_thrown_1 : decode cX4_thrown 1 = .ok (.getfield 71, 3) := by decide +kernel
theorem dX4_thrown_4 : decode cX4_thrown 4 = .ok (.ireturn, 1) := by decide +kernel
theorem dX4_within_0 : decode cX4_within 0 = .ok (.iload_n 0, 1) := by decide +kernel
theorem dX4_within_1 : decode cX4_within 1 = .ok (.iload_n 1, 1) := by decide +kernel
theorem dX4_within_2 : decode cX4_within 2 = .ok (.if_icmp .lt 12, 3) := by decide +kernel
theorem dX4_within_5 : decode cX4_within 5 = .ok (.iload_n 0, 1) := by decide +kernel
theorem dX4_within_6 : decode cX4_within 6 = .ok (.iload_n 2, 1) := by decide +kernel
theorem dX4_within_7 : decode cX4_within 7 = .ok (.if_icmp .gt 7, 3) := by decide +kernel
theorem dX4_within_10 : decode cX4_within 10 = .ok (.iconst 1, 1) := by decide +kernel
theorem dX4_within_11 : decode cX4_within 11 = .ok (.goto 4, 3) := by decide +kernel
theorem dX4_within_14 : decode cX4_within 14 = .ok (.iconst 0, 1) := by decide +kernel
theorem dX4_within_15 : decode cX4_within 15 = .ok (.ireturn, 1) := by decide +kernel
theorem dX4_start_0 : decode cX4_start 0 = .ok (.iconst 0, 1) := by decide +kernel
theorem dX4_start_1 : decode cX4_start 1 = .ok (.istore_n 1, 1) := by decide +kernel
theorem dX4_start_2 : decode cX4_start 2 = .ok (.iload_n 1, 1) := by decide +kernel
theorem dX4_start_3 : decode cX4_start 3 = .ok (.aload_n 0, 1) := by decide +kernel
theorem dX4_start_4 : decode cX4_start 4 = .ok (.getfield 75, 3) := by decide +kernel
theorem dX4_start_7 : decode cX4_start 7 = .ok (.if_icmp .ge 28, 3) := by decide +kernel
theorem dX4_start_10 : decode cX4_start 10 = .ok (.aload_n 0, 1) := by decide +kernel
theorem dX4_start_11 : decode cX4_start 11 = .ok (.getfield 16, 3) := by decide +kernel
theorem dX4_start_14 : decode cX4_start 14 = .ok (.iload_n 1, 1) := by decide +kernel
theorem dX4_start_15 : decode cX4_start 15 = .ok (.aload_n 0, 1) := by decide +kernel
theorem dX4_start_16 : decode cX4_start 16 = .ok (.getfield 13, 3) := by decide +kernel
theorem dX4_start_19 : decode cX4_start 19 = .ok (.iload_n 1, 1) := by decide +kernel
theorem dX4_start_20 : decode cX4_start 20 = .ok (.iaload, 1) := by decide +kernel
theorem dX4_start_21 : decode cX4_start 21 = .ok (.iastore, 1) := by decide +kernel
theorem dX4_start_22 : decode cX4_start 22 = .ok (.aload_n 0, 1) := by decide +kernel
theorem dX4_start_23 : decode cX4_start 23 = .ok (.getfield 19, 3) := by decide +kernel
theorem dX4_start_26 : decode cX4_start 26 = .ok (.iload_n 1, 1) := by decide +kernel
theorem dX4_start_27 : decode cX4_start 27 = .ok (.iconst 0, 1) := by decide +kernel
theorem dX4_start_28 : decode cX4_start 28 = .ok (.iastore, 1) := by decide +kernel
theorem dX4_start_29 : decode cX4_start 29 = .ok (.iinc 1 1, 3) := by decide +kernel
theorem dX4_start_32 : decode cX4_start 32 = .ok (.goto (-30), 3) := by decide +kernel
theorem dX4_start_35 : decode cX4_start 35 = .ok (.iconst 0, 1) := by decide +kernel
theorem dX4_start_36 : decode cX4_start 36 = .ok (.istore_n 1, 1) := by decide +kernel
theorem dX4_start_37 : decode cX4_start 37 = .ok (.iload_n 1, 1) := by decide +kernel
theorem dX4_start_38 : decode cX4_start 38 = .ok (.aload_n 0, 1) := by decide +kernel
theorem dX4_start_39 : decode cX4_start 39 = .ok (.getfield 78, 3) := by decide +kernel
theorem dX4_start_42 : decode cX4_start 42 = .ok (.if_icmp .ge 55, 3) := by decide +kernel
theorem dX4_start_45 : decode cX4_start 45 = .ok (.aload_n 0, 1) := by decide +kernel
theorem dX4_start_46 : decode cX4_start 46 = .ok (.getfield 40, 3) := by decide +kernel
theorem dX4_start_49 : decode cX4_start 49 = .ok (.iload_n 1, 1) := by decide +kernel
theorem dX4_start_50 : decode cX4_start 50 = .ok (.iconst 0, 1) := by decide +kernel
theorem dX4_start_51 : decode cX4_start 51 = .ok (.iastore, 1) := by decide +kernel
theorem dX4_start_52 : decode cX4_start 52 = .ok (.aload_n 0, 1) := by decide +kernel
theorem dX4_start_53 : decode cX4_start 53 = .ok (.getfield 43, 3) := by decide +kernel
theorem dX4_start_56 : decode cX4_start 56 = .ok (.iload_n 1, 1) := by decide +kernel
theorem dX4_start_57 : decode cX4_start 57 = .ok (.aload_n 0, 1) := by decide +kernel
theorem dX4_start_58 : decode cX4_start 58 = .ok (.getfield 34, 3) := by decide +kernel
theorem dX4_start_61 : decode cX4_start 61 = .ok (.iload_n 1, 1) := by decide +kernel
theorem dX4_start_62 : decode cX4_start 62 = .ok (.iaload, 1) := by decide +kernel
theorem dX4_start_63 : decode cX4_start 63 = .ok (.iastore, 1) := by decide +kernel
theorem dX4_start_64 : decode cX4_start 64 = .ok (.iconst 0, 1) := by decide +kernel
theorem dX4_start_65 : decode cX4_start 65 = .ok (.istore_n 2, 1) := by decide +kernel
theorem dX4_start_66 : decode cX4_start 66 = .ok (.iload_n 2, 1) := by decide +kernel
theorem dX4_start_67 : decode cX4_start 67 = .ok (.bipush 9, 2) := by decide +kernel
theorem dX4_start_69 : decode cX4_start 69 = .ok (.if_icmp .ge 22, 3) := by decide +kernel
theorem dX4_start_72 : decode cX4_start 72 = .ok (.aload_n 0, 1) := by decide +kernel
theorem dX4_start_73 : decode cX4_start 73 = .ok (.getfield 37, 3) := by decide +kernel
theorem dX4_start_76 : decode cX4_start 76 = .ok (.sipush 910, 3) := by decide +kernel
theorem dX4_start_79 : decode cX4_start 79 = .ok (.iload_n 1, 1) := by decide +kernel
theorem dX4_start_80 : decode cX4_start 80 = .ok (.imul, 1) := by decide +kernel
theorem dX4_start_81 : decode cX4_start 81 = .ok (.iload_n 2, 1) := by decide +kernel
theorem dX4_start_82 : decode cX4_start 82 = .ok (.iadd, 1) := by decide +kernel
theorem dX4_start_83 : decode cX4_start 83 = .ok (.iconst 0, 1) := by decide +kernel
theorem dX4_start_84 : decode cX4_start 84 = .ok (.iastore, 1) := by decide +kernel
theorem dX4_start_85 : decode cX4_start 85 = .ok (.iinc 2 1, 3) := by decide +kernel
theorem dX4_start_88 : decode cX4_start 88 = .ok (.goto (-22), 3) := by decide +kernel
theorem dX4_start_91 : decode cX4_start 91 = .ok (.iinc 1 1, 3) := by decide +kernel
theorem dX4_start_94 : decode cX4_start 94 = .ok (.goto (-57), 3) := by decide +kernel
theorem dX4_start_97 : decode cX4_start 97 = .ok (.return_, 1) := by decide +kernel
theorem dX4_changed_0 : decode cX4_changed 0 = .ok (.aload_n 0, 1) := by decide +kernel
theorem dX4_changed_1 : decode cX4_changed 1 = .ok (.iconst 0, 1) := by decide +kernel
theorem dX4_changed_2 : decode cX4_changed 2 = .ok (.putfield 81, 3) := by decide +kernel
theorem dX4_changed_5 : decode cX4_changed 5 = .ok (.aload_n 0, 1) := by decide +kernel
theorem dX4_changed_6 : decode cX4_changed 6 = .ok (.invokevirtual 84, 3) := by decide +kernel
theorem dX4_changed_9 : decode cX4_changed 9 = .ok (.return_, 1) := by decide +kernel
theorem dX4_actor_0 : decode cX4_actor 0 = .ok (.aload_n 0, 1) := by decide +kernel
theorem dX4_actor_1 : decode cX4_actor 1 = .ok (.iconst 0, 1) := by decide +kernel
theorem dX4_actor_2 : decode cX4_actor 2 = .ok (.putfield 71, 3) := by decide +kernel
theorem dX4_actor_5 : decode cX4_actor 5 = .ok (.iload_n 1, 1) := by decide +kernel
theorem dX4_actor_6 : decode cX4_actor 6 = .ok (.iconst 0, 1) := by decide +kernel
theorem dX4_actor_7 : decode cX4_actor 7 = .ok (.iconst 5, 1) := by decide +kernel
theorem dX4_actor_8 : decode cX4_actor 8 = .ok (.invokestatic 87, 3) := by decide +kernel
theorem dX4_actor_11 : decode cX4_actor 11 = .ok (.ifCond .ne 5, 3) := by decide +kernel
theorem dX4_actor_14 : decode cX4_actor 14 = .ok (.iconst (-1), 1) := by decide +kernel
theorem dX4_actor_15 : decode cX4_actor 15 = .ok (.ireturn, 1) := by decide +kernel
theorem dX4_actor_16 : decode cX4_actor 16 = .ok (.aload_n 0, 1) := by decide +kernel
theorem dX4_actor_17 : decode cX4_actor 17 = .ok (.getfield 75, 3) := by decide +kernel
theorem dX4_actor_20 : decode cX4_actor 20 = .ok (.bipush 8, 2) := by decide +kernel
theorem dX4_actor_22 : decode cX4_actor 22 = .ok (.if_icmp .ne 6, 3) := by decide +kernel
theorem dX4_actor_25 : decode cX4_actor 25 = .ok (.bipush (-2), 2) := by decide +kernel
theorem dX4_actor_27 : decode cX4_actor 27 = .ok (.ireturn, 1) := by decide +kernel
theorem dX4_actor_28 : decode cX4_actor 28 = .ok (.aload_n 0, 1) := by decide +kernel
theorem dX4_actor_29 : decode cX4_actor 29 = .ok (.getfield 7, 3) := by decide +kernel
theorem dX4_actor_32 : decode cX4_actor 32 = .ok (.aload_n 0, 1) := by decide +kernel
theorem dX4_actor_33 : decode cX4_actor 33 = .ok (.getfield 75, 3) := by decide +kernel
theorem dX4_actor_36 : decode cX4_actor 36 = .ok (.iload_n 1, 1) := by decide +kernel
theorem dX4_actor_37 : decode cX4_actor 37 = .ok (.iastore, 1) := by decide +kernel
theorem dX4_actor_38 : decode cX4_actor 38 = .ok (.aload_n 0, 1) := by decide +kernel
theorem dX4_actor_39 : decode cX4_actor 39 = .ok (.getfield 13, 3) := by decide +kernel
theorem dX4_actor_42 : decode cX4_actor 42 = .ok (.aload_n 0, 1) := by decide +kernel
theorem dX4_actor_43 : decode cX4_actor 43 = .ok (.getfield 75, 3) := by decide +kernel
theorem dX4_actor_46 : decode cX4_actor 46 = .ok (.iload_n 2, 1) := by decide +kernel
theorem dX4_actor_47 : decode cX4_actor 47 = .ok (.iastore, 1) := by decide +kernel
theorem dX4_actor_48 : decode cX4_actor 48 = .ok (.aload_n 0, 1) := by decide +kernel
theorem dX4_actor_49 : decode cX4_actor 49 = .ok (.dup, 1) := by decide +kernel
theorem dX4_actor_50 : decode cX4_actor 50 = .ok (.getfield 75, 3) := by decide +kernel
theorem dX4_actor_53 : decode cX4_actor 53 = .ok (.iconst 1, 1) := by decide +kernel
theorem dX4_actor_54 : decode cX4_actor 54 = .ok (.iadd, 1) := by decide +kernel
theorem dX4_actor_55 : decode cX4_actor 55 = .ok (.putfield 75, 3) := by decide +kernel
theorem dX4_actor_58 : decode cX4_actor 58 = .ok (.aload_n 0, 1) := by decide +kernel
theorem dX4_actor_59 : decode cX4_actor 59 = .ok (.invokevirtual 91, 3) := by decide +kernel
theorem dX4_actor_62 : decode cX4_actor 62 = .ok (.aload_n 0, 1) := by decide +kernel
theorem dX4_actor_63 : decode cX4_actor 63 = .ok (.getfield 75, 3) := by decide +kernel
theorem dX4_actor_66 : decode cX4_actor 66 = .ok (.iconst 1, 1) := by decide +kernel
theorem dX4_actor_67 : decode cX4_actor 67 = .ok (.isub, 1) := by decide +kernel
theorem dX4_actor_68 : decode cX4_actor 68 = .ok (.ireturn, 1) := by decide +kernel
theorem dX4_isActor_0 : decode cX4_isActor 0 = .ok (.iload_n 1, 1) := by decide +kernel
theorem dX4_isActor_1 : decode cX4_isActor 1 = .ok (.iconst 0, 1) := by decide +kernel
theorem dX4_isActor_2 : decode cX4_isActor 2 = .ok (.aload_n 0, 1) := by decide +kernel
theorem dX4_isActor_3 : decode cX4_isActor 3 = .ok (.getfield 75, 3) := by decide +kernel
theorem dX4_isActor_6 : decode cX4_isActor 6 = .ok (.iconst 1, 1) := by decide +kernel
theorem dX4_isActor_7 : decode cX4_isActor 7 = .ok (.isub, 1) := by decide +kernel
theorem dX4_isActor_8 : decode cX4_isActor 8 = .ok (.invokestatic 87, 3) := by decide +kernel
theorem dX4_isActor_11 : decode cX4_isActor 11 = .ok (.ireturn, 1) := by decide +kernel
theorem dX4_isEdge_0 : decode cX4_isEdge 0 = .ok (.iload_n 1, 1) := by decide +kernel
theorem dX4_isEdge_1 : decode cX4_isEdge 1 = .ok (.iconst 0, 1) := by decide +kernel
theorem dX4_isEdge_2 : decode cX4_isEdge 2 = .ok (.aload_n 0, 1) := by decide +kernel
theorem dX4_isEdge_3 : decode cX4_isEdge 3 = .ok (.getfield 78, 3) := by decide +kernel
theorem dX4_isEdge_6 : decode cX4_isEdge 6 = .ok (.iconst 1, 1) := by decide +kernel
theorem dX4_isEdge_7 : decode cX4_isEdge 7 = .ok (.isub, 1) := by decide +kernel
theorem dX4_isEdge_8 : decode cX4_isEdge 8 = .ok (.invokestatic 87, 3) := by decide +kernel
theorem dX4_isEdge_11 : decode cX4_isEdge 11 = .ok (.ireturn, 1) := by decide +kernel
theorem dX4_edge_0 : decode cX4_edge 0 = .ok (.aload_n 0, 1) := by decide +kernel
theorem dX4_edge_1 : decode cX4_edge 1 = .ok (.iconst 0, 1) := by decide +kernel
theorem dX4_edge_2 : decode cX4_edge 2 = .ok (.putfield 71, 3) := by decide +kernel
theorem dX4_edge_5 : decode cX4_edge 5 = .ok (.aload_n 0, 1) := by decide +kernel
theorem dX4_edge_6 : decode cX4_edge 6 = .ok (.iload_n 1, 1) := by decide +kernel
theorem dX4_edge_7 : decode cX4_edge 7 = .ok (.invokevirtual 94, 3) := by decide +kernel
theorem dX4_edge_10 : decode cX4_edge 10 = .ok (.ifCond .eq 11, 3) := by decide +kernel
theorem dX4_edge_13 : decode cX4_edge 13 = .ok (.aload_n 0, 1) := by decide +kernel
theorem dX4_edge_14 : decode cX4_edge 14 = .ok (.iload_n 2, 1) := by decide +kernel
theorem dX4_edge_15 : decode cX4_edge 15 = .ok (.invokevirtual 94, 3) := by decide +kernel
theorem dX4_edge_18 : decode cX4_edge 18 = .ok (.ifCond .ne 5, 3) := by decide +kernel
theorem dX4_edge_21 : decode cX4_edge 21 = .ok (.iconst (-1), 1) := by decide +kernel
theorem dX4_edge_22 : decode cX4_edge 22 = .ok (.ireturn, 1) := by decide +kernel
theorem dX4_edge_23 : decode cX4_edge 23 = .ok (.iload_n 3, 1) := by decide +kernel
theorem dX4_edge_24 : decode cX4_edge 24 = .ok (.iconst 1, 1) := by decide +kernel
theorem dX4_edge_25 : decode cX4_edge 25 = .ok (.bipush 9, 2) := by decide +kernel
theorem dX4_edge_27 : decode cX4_edge 27 = .ok (.invokestatic 87, 3) := by decide +kernel
theorem dX4_edge_30 : decode cX4_edge 30 = .ok (.ifCond .eq 25, 3) := by decide +kernel
theorem dX4_edge_33 : decode cX4_edge 33 = .ok (.iload 4, 2) := by decide +kernel
theorem dX4_edge_35 : decode cX4_edge 35 = .ok (.iconst 1, 1) := by decide +kernel
theorem dX4_edge_36 : decode cX4_edge 36 = .ok (.bipush 9, 2) := by decide +kernel
theorem dX4_edge_38 : decode cX4_edge 38 = .ok (.invokestatic 87, 3) := by decide +kernel
theorem dX4_edge_41 : decode cX4_edge 41 = .ok (.ifCond .eq 14, 3) := by decide +kernel
theorem dX4_edge_44 : decode cX4_edge 44 = .ok (.iload 5, 2) := by decide +kernel
theorem dX4_edge_46 : decode cX4_edge 46 = .ok (.iconst 0, 1) := by decide +kernel
theorem dX4_edge_47 : decode cX4_edge 47 = .ok (.bipush 9, 2) := by decide +kernel
theorem dX4_edge_49 : decode cX4_edge 49 = .ok (.invokestatic 87, 3) := by decide +kernel
theorem dX4_edge_52 : decode cX4_edge 52 = .ok (.ifCond .ne 6, 3) := by decide +kernel
theorem dX4_edge_55 : decode cX4_edge 55 = .ok (.bipush (-2), 2) := by decide +kernel
theorem dX4_edge_57 : decode cX4_edge 57 = .ok (.ireturn, 1) := by decide +kernel
theorem dX4_edge_58 : decode cX4_edge 58 = .ok (.aload_n 0, 1) := by decide +kernel
theorem dX4_edge_59 : decode cX4_edge 59 = .ok (.getfield 78, 3) := by decide +kernel
theorem dX4_edge_62 : decode cX4_edge 62 = .ok (.bipush 12, 2) := by decide +kernel
theorem dX4_edge_64 : decode cX4_edge 64 = .ok (.if_icmp .ne 6, 3) := by decide +kernel
theorem dX4_edge_67 : decode cX4_edge 67 = .ok (.bipush (-3), 2) := by decide +kernel
theorem dX4_edge_69 : decode cX4_edge 69 = .ok (.ireturn, 1) := by decide +kernel
theorem dX4_edge_70 : decode cX4_edge 70 = .ok (.aload_n 0, 1) := by decide +kernel
theorem dX4_edge_71 : decode cX4_edge 71 = .ok (.getfield 22, 3) := by decide +kernel
theorem dX4_edge_74 : decode cX4_edge 74 = .ok (.aload_n 0, 1) := by decide +kernel
theorem dX4_edge_75 : decode cX4_edge 75 = .ok (.getfield 78, 3) := by decide +kernel
theorem dX4_edge_78 : decode cX4_edge 78 = .ok (.iload_n 1, 1) := by decide +kernel
theorem dX4_edge_79 : decode cX4_edge 79 = .ok (.iastore, 1) := by decide +kernel
theorem dX4_edge_80 : decode cX4_edge 80 = .ok (.aload_n 0, 1) := by decide +kernel
theorem dX4_edge_81 : decode cX4_edge 81 = .ok (.getfield 25, 3) := by decide +kernel
theorem dX4_edge_84 : decode cX4_edge 84 = .ok (.aload_n 0, 1) := by decide +kernel
theorem dX4_edge_85 : decode cX4_edge 85 = .ok (.getfield 78, 3) := by decide +kernel
theorem dX4_edge_88 : decode cX4_edge 88 = .ok (.iload_n 2, 1) := by decide +kernel
theorem dX4_edge_89 : decode cX4_edge 89 = .ok (.iastore, 1) := by decide +kernel
theorem dX4_edge_90 : decode cX4_edge 90 = .ok (.aload_n 0, 1) := by decide +kernel
theorem dX4_edge_91 : decode cX4_edge 91 = .ok (.getfield 28, 3) := by decide +kernel
theorem dX4_edge_94 : decode cX4_edge 94 = .ok (.aload_n 0, 1) := by decide +kernel
theorem dX4_edge_95 : decode cX4_edge 95 = .ok (.getfield 78, 3) := by decide +kernel
theorem dX4_edge_98 : decode cX4_edge 98 = .ok (.iload_n 3, 1) := by decide +kernel
theorem dX4_edge_99 : decode cX4_edge 99 = .ok (.iastore, 1) := by decide +kernel
theorem dX4_edge_100 : decode cX4_edge 100 = .ok (.aload_n 0, 1) := by decide +kernel
theorem dX4_edge_101 : decode cX4_edge 101 = .ok (.getfield 31, 3) := by decide +kernel
theorem dX4_edge_104 : decode cX4_edge 104 = .ok (.aload_n 0, 1) := by decide +kernel
theorem dX4_edge_105 : decode cX4_edge 105 = .ok (.getfield 78, 3) := by decide +kernel
theorem dX4_edge_108 : decode cX4_edge 108 = .ok (.iload 4, 2) := by decide +kernel
theorem dX4_edge_110 : decode cX4_edge 110 = .ok (.iastore, 1) := by decide +kernel
theorem dX4_edge_111 : decode cX4_edge 111 = .ok (.aload_n 0, 1) := by decide +kernel
theorem dX4_edge_112 : decode cX4_edge 112 = .ok (.getfield 34, 3) := by decide +kernel
theorem dX4_edge_115 : decode cX4_edge 115 = .ok (.aload_n 0, 1) := by decide +kernel
theorem dX4_edge_116 : decode cX4_edge 116 = .ok (.getfield 78, 3) := by decide +kernel
theorem dX4_edge_119 : decode cX4_edge 119 = .ok (.iload 5, 2) := by decide +kernel
theorem dX4_edge_121 : decode cX4_edge 121 = .ok (.iastore, 1) := by decide +kernel
theorem dX4_edge_122 : decode cX4_edge 122 = .ok (.aload_n 0, 1) := by decide +kernel
theorem dX4_edge_123 : decode cX4_edge 123 = .ok (.dup, 1) := by decide +kernel
theorem dX4_edge_124 : decode cX4_edge 124 = .ok (.getfield 78, 3) := by decide +kernel
theorem dX4_edge_127 : decode cX4_edge 127 = .ok (.iconst 1, 1) := by decide +kernel
theorem dX4_edge_128 : decode cX4_edge 128 = .ok (.iadd, 1) := by decide +kernel
theorem dX4_edge_129 : decode cX4_edge 129 = .ok (.putfield 78, 3) := by decide +kernel
theorem dX4_edge_132 : decode cX4_edge 132 = .ok (.aload_n 0, 1) := by decide +kernel
theorem dX4_edge_133 : decode cX4_edge 133 = .ok (.invokevirtual 91, 3) := by decide +kernel
theorem dX4_edge_136 : decode cX4_edge 136 = .ok (.aload_n 0, 1) := by decide +kernel
theorem dX4_edge_137 : decode cX4_edge 137 = .ok (.getfield 78, 3) := by decide +kernel
theorem dX4_edge_140 : decode cX4_edge 140 = .ok (.iconst 1, 1) := by decide +kernel
theorem dX4_edge_141 : decode cX4_edge 141 = .ok (.isub, 1) := by decide +kernel
theorem dX4_edge_142 : decode cX4_edge 142 = .ok (.ireturn, 1) := by decide +kernel
theorem dX4_delay_0 : decode cX4_delay 0 = .ok (.aload_n 0, 1) := by decide +kernel
theorem dX4_delay_1 : decode cX4_delay 1 = .ok (.iconst 0, 1) := by decide +kernel
theorem dX4_delay_2 : decode cX4_delay 2 = .ok (.putfield 71, 3) := by decide +kernel
theorem dX4_delay_5 : decode cX4_delay 5 = .ok (.aload_n 0, 1) := by decide +kernel
theorem dX4_delay_6 : decode cX4_delay 6 = .ok (.iload_n 1, 1) := by decide +kernel
theorem dX4_delay_7 : decode cX4_delay 7 = .ok (.invokevirtual 98, 3) := by decide +kernel
theorem dX4_delay_10 : decode cX4_delay 10 = .ok (.ifCond .eq 13, 3) := by decide +kernel
theorem dX4_delay_13 : decode cX4_delay 13 = .ok (.iload_n 2, 1) := by decide +kernel
theorem dX4_delay_14 : decode cX4_delay 14 = .ok (.iconst 0, 1) := by decide +kernel
theorem dX4_delay_15 : decode cX4_delay 15 = .ok (.bipush 9, 2) := by decide +kernel
theorem dX4_delay_17 : decode cX4_delay 17 = .ok (.invokestatic 87, 3) := by decide +kernel
theorem dX4_delay_20 : decode cX4_delay 20 = .ok (.ifCond .ne 5, 3) := by decide +kernel
theorem dX4_delay_23 : decode cX4_delay 23 = .ok (.iconst 0, 1) := by decide +kernel
theorem dX4_delay_24 : decode cX4_delay 24 = .ok (.ireturn, 1) := by decide +kernel
theorem dX4_delay_25 : decode cX4_delay 25 = .ok (.aload_n 0, 1) := by decide +kernel
theorem dX4_delay_26 : decode cX4_delay 26 = .ok (.getfield 34, 3) := by decide +kernel
theorem dX4_delay_29 : decode cX4_delay 29 = .ok (.iload_n 1, 1) := by decide +kernel
theorem dX4_delay_30 : decode cX4_delay 30 = .ok (.iload_n 2, 1) := by decide +kernel
theorem dX4_delay_31 : decode cX4_delay 31 = .ok (.iastore, 1) := by decide +kernel
theorem dX4_delay_32 : decode cX4_delay 32 = .ok (.aload_n 0, 1) := by decide +kernel
theorem dX4_delay_33 : decode cX4_delay 33 = .ok (.invokevirtual 91, 3) := by decide +kernel
theorem dX4_delay_36 : decode cX4_delay 36 = .ok (.iconst 1, 1) := by decide +kernel
theorem dX4_delay_37 : decode cX4_delay 37 = .ok (.ireturn, 1) := by decide +kernel
theorem dX4_reset_0 : decode cX4_reset 0 = .ok (.aload_n 0, 1) := by decide +kernel
theorem dX4_reset_1 : decode cX4_reset 1 = .ok (.iconst 0, 1) := by decide +kernel
theorem dX4_reset_2 : decode cX4_reset 2 = .ok (.putfield 71, 3) := by decide +kernel
theorem dX4_reset_5 : decode cX4_reset 5 = .ok (.aload_n 0, 1) := by decide +kernel
theorem dX4_reset_6 : decode cX4_reset 6 = .ok (.invokevirtual 84, 3) := by decide +kernel
theorem dX4_reset_9 : decode cX4_reset 9 = .ok (.return_, 1) := by decide +kernel
theorem dX4_clear_0 : decode cX4_clear 0 = .ok (.aload_n 0, 1) := by decide +kernel
theorem dX4_clear_1 : decode cX4_clear 1 = .ok (.iconst 0, 1) := by decide +kernel
theorem dX4_clear_2 : decode cX4_clear 2 = .ok (.putfield 71, 3) := by decide +kernel
theorem dX4_clear_5 : decode cX4_clear 5 = .ok (.aload_n 0, 1) := by decide +kernel
theorem dX4_clear_6 : decode cX4_clear 6 = .ok (.iconst 0, 1) := by decide +kernel
theorem dX4_clear_7 : decode cX4_clear 7 = .ok (.putfield 75, 3) := by decide +kernel
theorem dX4_clear_10 : decode cX4_clear 10 = .ok (.aload_n 0, 1) := by decide +kernel
theorem dX4_clear_11 : decode cX4_clear 11 = .ok (.iconst 0, 1) := by decide +kernel
theorem dX4_clear_12 : decode cX4_clear 12 = .ok (.putfield 78, 3) := by decide +kernel
theorem dX4_clear_15 : decode cX4_clear 15 = .ok (.aload_n 0, 1) := by decide +kernel
theorem dX4_clear_16 : decode cX4_clear 16 = .ok (.iconst 0, 1) := by decide +kernel
theorem dX4_clear_17 : decode cX4_clear 17 = .ok (.putfield 81, 3) := by decide +kernel
theorem dX4_clear_20 : decode cX4_clear 20 = .ok (.return_, 1) := by decide +kernel
theorem dX4_actors_0 : decode cX4_actors 0 = .ok (.aload_n 0, 1) := by decide +kernel
theorem dX4_actors_1 : decode cX4_actors 1 = .ok (.iconst 0, 1) := by decide +kernel
theorem dX4_actors_2 : decode cX4_actors 2 = .ok (.putfield 71, 3) := by decide +kernel
theorem dX4_actors_5 : decode cX4_actors 5 = .ok (.aload_n 0, 1) := by decide +kernel
theorem dX4_actors_6 : decode cX4_actors 6 = .ok (.getfield 75, 3) := by decide +kernel
theorem dX4_actors_9 : decode cX4_actors 9 = .ok (.ireturn, 1) := by decide +kernel
theorem dX4_edges_0 : decode cX4_edges 0 = .ok (.aload_n 0, 1) := by decide +kernel
theorem dX4_edges_1 : decode cX4_edges 1 = .ok (.iconst 0, 1) := by decide +kernel
theorem dX4_edges_2 : decode cX4_edges 2 = .ok (.putfield 71, 3) := by decide +kernel
theorem dX4_edges_5 : decode cX4_edges 5 = .ok (.aload_n 0, 1) := by decide +kernel
theorem dX4_edges_6 : decode cX4_edges 6 = .ok (.getfield 78, 3) := by decide +kernel
theorem dX4_edges_9 : decode cX4_edges 9 = .ok (.ireturn, 1) := by decide +kernel
theorem dX4_spread_0 : decode cX4_spread 0 = .ok (.iconst 0, 1) := by decide +kernel
theorem dX4_spread_1 : decode cX4_spread 1 = .ok (.istore_n 3, 1) := by decide +kernel
theorem dX4_spread_2 : decode cX4_spread 2 = .ok (.iload_n 3, 1) := by decide +kernel
theorem dX4_spread_3 : decode cX4_spread 3 = .ok (.bipush 8, 2) := by decide +kernel
theorem dX4_spread_5 : decode cX4_spread 5 = .ok (.if_icmp .ge 16, 3) := by decide +kernel
theorem dX4_spread_8 : decode cX4_spread 8 = .ok (.aload_n 0, 1) := by decide +kernel
theorem dX4_spread_9 : decode cX4_spread 9 = .ok (.getfield 55, 3) := by decide +kernel
theorem dX4_spread_12 : decode cX4_spread 12 = .ok (.iload_n 3, 1) := by decide +kernel
theorem dX4_spread_13 : decode cX4_spread 13 = .ok (.lconst 0, 1) := by decide +kernel
theorem dX4_spread_14 : decode cX4_spread 14 = .ok (.lastore, 1) := by decide +kernel
theorem dX4_spread_15 : decode cX4_spread 15 = .ok (.iinc 3 1, 3) := by decide +kernel
theorem dX4_spread_18 : decode cX4_spread 18 = .ok (.goto (-16), 3) := by decide +kernel
theorem dX4_spread_21 : decode cX4_spread 21 = .ok (.aload_n 0, 1) := by decide +kernel
theorem dX4_spread_22 : decode cX4_spread 22 = .ok (.getfield 55, 3) := by decide +kernel
theorem dX4_spread_25 : decode cX4_spread 25 = .ok (.iconst 0, 1) := by decide +kernel
theorem dX4_spread_26 : decode cX4_spread 26 = .ok (.lload_n 1, 1) := by decide +kernel
theorem dX4_spread_27 : decode cX4_spread 27 = .ok (.lastore, 1) := by decide +kernel
theorem dX4_spread_28 : decode cX4_spread 28 = .ok (.aload_n 0, 1) := by decide +kernel
theorem dX4_spread_29 : decode cX4_spread 29 = .ok (.lconst 1, 1) := by decide +kernel
theorem dX4_spread_30 : decode cX4_spread 30 = .ok (.putfield 101, 3) := by decide +kernel
theorem dX4_spread_33 : decode cX4_spread 33 = .ok (.iconst 1, 1) := by decide +kernel
theorem dX4_spread_34 : decode cX4_spread 34 = .ok (.istore_n 3, 1) := by decide +kernel
theorem dX4_spread_35 : decode cX4_spread 35 = .ok (.iconst 0, 1) := by decide +kernel
theorem dX4_spread_36 : decode cX4_spread 36 = .ok (.istore 4, 2) := by decide +kernel
theorem dX4_spread_38 : decode cX4_spread 38 = .ok (.iload 4, 2) := by decide +kernel
theorem dX4_spread_40 : decode cX4_spread 40 = .ok (.bipush 8, 2) := by decide +kernel
theorem dX4_spread_42 : decode cX4_spread 42 = .ok (.if_icmp .ge 200, 3) := by decide +kernel
theorem dX4_spread_45 : decode cX4_spread 45 = .ok (.iconst 0, 1) := by decide +kernel
theorem dX4_spread_46 : decode cX4_spread 46 = .ok (.istore 5, 2) := by decide +kernel
theorem dX4_spread_48 : decode cX4_spread 48 = .ok (.iload 5, 2) := by decide +kernel
theorem dX4_spread_50 : decode cX4_spread 50 = .ok (.aload_n 0, 1) := by decide +kernel
theorem dX4_spread_51 : decode cX4_spread 51 = .ok (.getfield 78, 3) := by decide +kernel
theorem dX4_spread_54 : decode cX4_spread 54 = .ok (.if_icmp .ge 182, 3) := by decide +kernel
theorem dX4_spread_57 : decode cX4_spread 57 = .ok (.aload_n 0, 1) := by decide +kernel
theorem dX4_spread_58 : decode cX4_spread 58 = .ok (.getfield 22, 3) := by decide +kernel
theorem dX4_spread_61 : decode cX4_spread 61 = .ok (.iload 5, 2) := by decide +kernel
theorem dX4_spread_63 : decode cX4_spread 63 = .ok (.iaload, 1) := by decide +kernel
theorem dX4_spread_64 : decode cX4_spread 64 = .ok (.istore 6, 2) := by decide +kernel
theorem dX4_spread_66 : decode cX4_spread 66 = .ok (.aload_n 0, 1) := by decide +kernel
theorem dX4_spread_67 : decode cX4_spread 67 = .ok (.getfield 25, 3) := by decide +kernel
theorem dX4_spread_70 : decode cX4_spread 70 = .ok (.iload 5, 2) := by decide +kernel
theorem dX4_spread_72 : decode cX4_spread 72 = .ok (.iaload, 1) := by decide +kernel
theorem dX4_spread_73 : decode cX4_spread 73 = .ok (.istore 7, 2) := by decide +kernel
theorem dX4_spread_75 : decode cX4_spread 75 = .ok (.aload_n 0, 1) := by decide +kernel
theorem dX4_spread_76 : decode cX4_spread 76 = .ok (.getfield 55, 3) := by decide +kernel
theorem dX4_spread_79 : decode cX4_spread 79 = .ok (.iload 6, 2) := by decide +kernel
theorem dX4_spread_81 : decode cX4_spread 81 = .ok (.laload, 1) := by decide +kernel
theorem dX4_spread_82 : decode cX4_spread 82 = .ok (.lconst 0, 1) := by decide +kernel
theorem dX4_spread_83 : decode cX4_spread 83 = .ok (.lcmp, 1) := by decide +kernel
theorem dX4_spread_84 : decode cX4_spread 84 = .ok (.ifCond .le 70, 3) := by decide +kernel
theorem dX4_spread_87 : decode cX4_spread 87 = .ok (.aload_n 0, 1) := by decide +kernel
theorem dX4_spread_88 : decode cX4_spread 88 = .ok (.getfield 55, 3) := by decide +kernel
theorem dX4_spread_91 : decode cX4_spread 91 = .ok (.iload 7, 2) := by decide +kernel
theorem dX4_spread_93 : decode cX4_spread 93 = .ok (.laload, 1) := by decide +kernel
theorem dX4_spread_94 : decode cX4_spread 94 = .ok (.lconst 0, 1) := by decide +kernel
theorem dX4_spread_95 : decode cX4_spread 95 = .ok (.lcmp, 1) := by decide +kernel
theorem dX4_spread_96 : decode cX4_spread 96 = .ok (.ifCond .ne 58, 3) := by decide +kernel
theorem dX4_spread_99 : decode cX4_spread 99 = .ok (.aload_n 0, 1) := by decide +kernel
theorem dX4_spread_100 : decode cX4_spread 100 = .ok (.getfield 55, 3) := by decide +kernel
theorem dX4_spread_103 : decode cX4_spread 103 = .ok (.iload 7, 2) := by decide +kernel
theorem dX4_spread_105 : decode cX4_spread 105 = .ok (.aload_n 0, 1) := by decide +kernel
theorem dX4_spread_106 : decode cX4_spread 106 = .ok (.getfield 55, 3) := by decide +kernel
theorem dX4_spread_109 : decode cX4_spread 109 = .ok (.iload 6, 2) := by decide +kernel
theorem dX4_spread_111 : decode cX4_spread 111 = .ok (.laload, 1) := by decide +kernel
theorem dX4_spread_112 : decode cX4_spread 112 = .ok (.aload_n 0, 1) := by decide +kernel
theorem dX4_spread_113 : decode cX4_spread 113 = .ok (.getfield 28, 3) := by decide +kernel
theorem dX4_spread_116 : decode cX4_spread 116 = .ok (.iload 5, 2) := by decide +kernel
theorem dX4_spread_118 : decode cX4_spread 118 = .ok (.iaload, 1) := by decide +kernel
theorem dX4_spread_119 : decode cX4_spread 119 = .ok (.i2l, 1) := by decide +kernel
theorem dX4_spread_120 : decode cX4_spread 120 = .ok (.lmul, 1) := by decide +kernel
theorem dX4_spread_121 : decode cX4_spread 121 = .ok (.aload_n 0, 1) := by decide +kernel
theorem dX4_spread_122 : decode cX4_spread 122 = .ok (.getfield 31, 3) := by decide +kernel
theorem dX4_spread_125 : decode cX4_spread 125 = .ok (.iload 5, 2) := by decide +kernel
theorem dX4_spread_127 : decode cX4_spread 127 = .ok (.iaload, 1) := by decide +kernel
theorem dX4_spread_128 : decode cX4_spread 128 = .ok (.i2l, 1) := by decide +kernel
theorem dX4_spread_129 : decode cX4_spread 129 = .ok (.ldiv, 1) := by decide +kernel
theorem dX4_spread_130 : decode cX4_spread 130 = .ok (.lastore, 1) := by decide +kernel
theorem dX4_spread_131 : decode cX4_spread 131 = .ok (.aload_n 0, 1) := by decide +kernel
theorem dX4_spread_132 : decode cX4_spread 132 = .ok (.aload_n 0, 1) := by decide +kernel
theorem dX4_spread_133 : decode cX4_spread 133 = .ok (.getfield 101, 3) := by decide +kernel
theorem dX4_spread_136 : decode cX4_spread 136 = .ok (.aload_n 0, 1) := by decide +kernel
theorem dX4_spread_137 : decode cX4_spread 137 = .ok (.getfield 31, 3) := by decide +kernel
theorem dX4_spread_140 : decode cX4_spread 140 = .ok (.iload 5, 2) := by decide +kernel
theorem dX4_spread_142 : decode cX4_spread 142 = .ok (.iaload, 1) := by decide +kernel
theorem dX4_spread_143 : decode cX4_spread 143 = .ok (.i2l, 1) := by decide +kernel
theorem dX4_spread_144 : decode cX4_spread 144 = .ok (.lmul, 1) := by decide +kernel
theorem dX4_spread_145 : decode cX4_spread 145 = .ok (.putfield 101, 3) := by decide +kernel
theorem dX4_spread_148 : decode cX4_spread 148 = .ok (.iinc 3 1, 3) := by decide +kernel
theorem dX4_spread_151 : decode cX4_spread 151 = .ok (.goto 79, 3) := by decide +kernel
theorem dX4_spread_154 : decode cX4_spread 154 = .ok (.aload_n 0, 1) := by decide +kernel
theorem dX4_spread_155 : decode cX4_spread 155 = .ok (.getfield 55, 3) := by decide +kernel
theorem dX4_spread_158 : decode cX4_spread 158 = .ok (.iload 7, 2) := by decide +kernel
theorem dX4_spread_160 : decode cX4_spread 160 = .ok (.laload, 1) := by decide +kernel
theorem dX4_spread_161 : decode cX4_spread 161 = .ok (.lconst 0, 1) := by decide +kernel
theorem dX4_spread_162 : decode cX4_spread 162 = .ok (.lcmp, 1) := by decide +kernel
theorem dX4_spread_163 : decode cX4_spread 163 = .ok (.ifCond .le 67, 3) := by decide +kernel
theorem dX4_spread_166 : decode cX4_spread 166 = .ok (.aload_n 0, 1) := by decide +kernel
theorem dX4_spread_167 : decode cX4_spread 167 = .ok (.getfield 55, 3) := by decide +kernel
theorem dX4_spread_170 : decode cX4_spread 170 = .ok (.iload 6, 2) := by decide +kernel
theorem dX4_spread_172 : decode cX4_spread 172 = .ok (.laload, 1) := by decide +kernel
theorem dX4_spread_173 : decode cX4_spread 173 = .ok (.lconst 0, 1) := by decide +kernel
theorem dX4_spread_174 : decode cX4_spread 174 = .ok (.lcmp, 1) := by decide +kernel
theorem dX4_spread_175 : decode cX4_spread 175 = .ok (.ifCond .ne 55, 3) := by decide +kernel
theorem dX4_spread_178 : decode cX4_spread 178 = .ok (.aload_n 0, 1) := by decide +kernel
theorem dX4_spread_179 : decode cX4_spread 179 = .ok (.getfield 55, 3) := by decide +kernel
theorem dX4_spread_182 : decode cX4_spread 182 = .ok (.iload 6, 2) := by decide +kernel
theorem dX4_spread_184 : decode cX4_spread 184 = .ok (.aload_n 0, 1) := by decide +kernel
theorem dX4_spread_185 : decode cX4_spread 185 = .ok (.getfield 55, 3) := by decide +kernel
theorem dX4_spread_188 : decode cX4_spread 188 = .ok (.iload 7, 2) := by decide +kernel
theorem dX4_spread_190 : decode cX4_spread 190 = .ok (.laload, 1) := by decide +kernel
theorem dX4_spread_191 : decode cX4_spread 191 = .ok (.aload_n 0, 1) := by decide +kernel
theorem dX4_spread_192 : decode cX4_spread 192 = .ok (.getfield 31, 3) := by decide +kernel
theorem dX4_spread_195 : decode cX4_spread 195 = .ok (.iload 5, 2) := by decide +kernel
theorem dX4_spread_197 : decode cX4_spread 197 = .ok (.iaload, 1) := by decide +kernel
theorem dX4_spread_198 : decode cX4_spread 198 = .ok (.i2l, 1) := by decide +kernel
theorem dX4_spread_199 : decode cX4_spread 199 = .ok (.lmul, 1) := by decide +kernel
theorem dX4_spread_200 : decode cX4_spread 200 = .ok (.aload_n 0, 1) := by decide +kernel
theorem dX4_spread_201 : decode cX4_spread 201 = .ok (.getfield 28, 3) := by decide +kernel
theorem dX4_spread_204 : decode cX4_spread 204 = .ok (.iload 5, 2) := by decide +kernel
theorem dX4_spread_206 : decode cX4_spread 206 = .ok (.iaload, 1) := by decide +kernel
theorem dX4_spread_207 : decode cX4_spread 207 = .ok (.i2l, 1) := by decide +kernel
theorem dX4_spread_208 : decode cX4_spread 208 = .ok (.ldiv, 1) := by decide +kernel
theorem dX4_spread_209 : decode cX4_spread 209 = .ok (.lastore, 1) := by decide +kernel
theorem dX4_spread_210 : decode cX4_spread 210 = .ok (.aload_n 0, 1) := by decide +kernel
theorem dX4_spread_211 : decode cX4_spread 211 = .ok (.aload_n 0, 1) := by decide +kernel
theorem dX4_spread_212 : decode cX4_spread 212 = .ok (.getfield 101, 3) := by decide +kernel
theorem dX4_spread_215 : decode cX4_spread 215 = .ok (.aload_n 0, 1) := by decide +kernel
theorem dX4_spread_216 : decode cX4_spread 216 = .ok (.getfield 28, 3) := by decide +kernel
theorem dX4_spread_219 : decode cX4_spread 219 = .ok (.iload 5, 2) := by decide +kernel
theorem dX4_spread_221 : decode cX4_spread 221 = .ok (.iaload, 1) := by decide +kernel
theorem dX4_spread_222 : decode cX4_spread 222 = .ok (.i2l, 1) := by decide +kernel
theorem dX4_spread_223 : decode cX4_spread 223 = .ok (.lmul, 1) := by decide +kernel
theorem dX4_spread_224 : decode cX4_spread 224 = .ok (.putfield 101, 3) := by decide +kernel
theorem dX4_spread_227 : decode cX4_spread 227 = .ok (.iinc 3 1, 3) := by decide +kernel
theorem dX4_spread_230 : decode cX4_spread 230 = .ok (.iinc 5 1, 3) := by decide +kernel
theorem dX4_spread_233 : decode cX4_spread 233 = .ok (.goto (-185), 3) := by decide +kernel
theorem dX4_spread_236 : decode cX4_spread 236 = .ok (.iinc 4 1, 3) := by decide +kernel
theorem dX4_spread_239 : decode cX4_spread 239 = .ok (.goto (-201), 3) := by decide +kernel
theorem dX4_spread_242 : decode cX4_spread 242 = .ok (.iload_n 3, 1) := by decide +kernel
theorem dX4_spread_243 : decode cX4_spread 243 = .ok (.aload_n 0, 1) := by decide +kernel
theorem dX4_spread_244 : decode cX4_spread 244 = .ok (.getfield 75, 3) := by decide +kernel
theorem dX4_spread_247 : decode cX4_spread 247 = .ok (.if_icmp .ne 7, 3) := by decide +kernel
theorem dX4_spread_250 : decode cX4_spread 250 = .ok (.iconst 1, 1) := by decide +kernel
theorem dX4_spread_251 : decode cX4_spread 251 = .ok (.goto 4, 3) := by decide +kernel
theorem dX4_spread_254 : decode cX4_spread 254 = .ok (.iconst 0, 1) := by decide +kernel
theorem dX4_spread_255 : decode cX4_spread 255 = .ok (.ireturn, 1) := by decide +kernel
theorem dX4_divisor_0 : decode cX4_divisor 0 = .ok (.lload_n 0, 1) := by decide +kernel
theorem dX4_divisor_1 : decode cX4_divisor 1 = .ok (.lstore 4, 2) := by decide +kernel
theorem dX4_divisor_3 : decode cX4_divisor 3 = .ok (.lload_n 2, 1) := by decide +kernel
theorem dX4_divisor_4 : decode cX4_divisor 4 = .ok (.lstore 6, 2) := by decide +kernel
theorem dX4_divisor_6 : decode cX4_divisor 6 = .ok (.iconst 0, 1) := by decide +kernel
theorem dX4_divisor_7 : decode cX4_divisor 7 = .ok (.istore 8, 2) := by decide +kernel
theorem dX4_divisor_9 : decode cX4_divisor 9 = .ok (.iload 8, 2) := by decide +kernel
theorem dX4_divisor_11 : decode cX4_divisor 11 = .ok (.sipush 200, 3) := by decide +kernel
theorem dX4_divisor_14 : decode cX4_divisor 14 = .ok (.if_icmp .ge 31, 3) := by decide +kernel
theorem dX4_divisor_17 : decode cX4_divisor 17 = .ok (.lload 6, 2) := by decide +kernel
theorem dX4_divisor_19 : decode cX4_divisor 19 = .ok (.lconst 0, 1) := by decide +kernel
theorem dX4_divisor_20 : decode cX4_divisor 20 = .ok (.lcmp, 1) := by decide +kernel
theorem dX4_divisor_21 : decode cX4_divisor 21 = .ok (.ifCond .eq 24, 3) := by decide +kernel
theorem dX4_divisor_24 : decode cX4_divisor 24 = .ok (.lload 4, 2) := by decide +kernel
theorem dX4_divisor_26 : decode cX4_divisor 26 = .ok (.lload 6, 2) := by decide +kernel
theorem dX4_divisor_28 : decode cX4_divisor 28 = .ok (.lrem, 1) := by decide +kernel
theorem dX4_divisor_29 : decode cX4_divisor 29 = .ok (.lstore 9, 2) := by decide +kernel
theorem dX4_divisor_31 : decode cX4_divisor 31 = .ok (.lload 6, 2) := by decide +kernel
theorem dX4_divisor_33 : decode cX4_divisor 33 = .ok (.lstore 4, 2) := by decide +kernel
theorem dX4_divisor_35 : decode cX4_divisor 35 = .ok (.lload 9, 2) := by decide +kernel
theorem dX4_divisor_37 : decode cX4_divisor 37 = .ok (.lstore 6, 2) := by decide +kernel
theorem dX4_divisor_39 : decode cX4_divisor 39 = .ok (.iinc 8 1, 3) := by decide +kernel
theorem dX4_divisor_42 : decode cX4_divisor 42 = .ok (.goto (-33), 3) := by decide +kernel
theorem dX4_divisor_45 : decode cX4_divisor 45 = .ok (.lload 4, 2) := by decide +kernel
theorem dX4_divisor_47 : decode cX4_divisor 47 = .ok (.lreturn, 1) := by decide +kernel
theorem dX4_repeat_0 : decode cX4_repeat 0 = .ok (.aload_n 0, 1) := by decide +kernel
theorem dX4_repeat_1 : decode cX4_repeat 1 = .ok (.getfield 75, 3) := by decide +kernel
theorem dX4_repeat_4 : decode cX4_repeat 4 = .ok (.ifCond .eq 13, 3) := by decide +kernel
theorem dX4_repeat_7 : decode cX4_repeat 7 = .ok (.aload_n 0, 1) := by decide +kernel
theorem dX4_repeat_8 : decode cX4_repeat 8 = .ok (.ldc2_w 105, 3) := by decide +kernel
theorem dX4_repeat_11 : decode cX4_repeat 11 = .ok (.invokevirtual 107, 3) := by decide +kernel
theorem dX4_repeat_14 : decode cX4_repeat 14 = .ok (.ifCond .ne 5, 3) := by decide +kernel
theorem dX4_repeat_17 : decode cX4_repeat 17 = .ok (.iconst 1, 1) := by decide +kernel
theorem dX4_repeat_18 : decode cX4_repeat 18 = .ok (.ireturn, 1) := by decide +kernel
theorem dX4_repeat_19 : decode cX4_repeat 19 = .ok (.aload_n 0, 1) := by decide +kernel
theorem dX4_repeat_20 : decode cX4_repeat 20 = .ok (.aload_n 0, 1) := by decide +kernel
theorem dX4_repeat_21 : decode cX4_repeat 21 = .ok (.getfield 101, 3) := by decide +kernel
theorem dX4_repeat_24 : decode cX4_repeat 24 = .ok (.invokevirtual 107, 3) := by decide +kernel
theorem dX4_repeat_27 : decode cX4_repeat 27 = .ok (.istore_n 1, 1) := by decide +kernel
theorem dX4_repeat_28 : decode cX4_repeat 28 = .ok (.lconst 0, 1) := by decide +kernel
theorem dX4_repeat_29 : decode cX4_repeat 29 = .ok (.lstore_n 2, 1) := by decide +kernel
theorem dX4_repeat_30 : decode cX4_repeat 30 = .ok (.lconst 0, 1) := by decide +kernel
theorem dX4_repeat_31 : decode cX4_repeat 31 = .ok (.lstore 4, 2) := by decide +kernel
theorem dX4_repeat_33 : decode cX4_repeat 33 = .ok (.iconst 0, 1) := by decide +kernel
theorem dX4_repeat_34 : decode cX4_repeat 34 = .ok (.istore 6, 2) := by decide +kernel
theorem dX4_repeat_36 : decode cX4_repeat 36 = .ok (.iload 6, 2) := by decide +kernel
theorem dX4_repeat_38 : decode cX4_repeat 38 = .ok (.aload_n 0, 1) := by decide +kernel
theorem dX4_repeat_39 : decode cX4_repeat 39 = .ok (.getfield 78, 3) := by decide +kernel
theorem dX4_repeat_42 : decode cX4_repeat 42 = .ok (.if_icmp .ge 57, 3) := by decide +kernel
theorem dX4_repeat_45 : decode cX4_repeat 45 = .ok (.aload_n 0, 1) := by decide +kernel
theorem dX4_repeat_46 : decode cX4_repeat 46 = .ok (.getfield 55, 3) := by decide +kernel
theorem dX4_repeat_49 : decode cX4_repeat 49 = .ok (.aload_n 0, 1) := by decide +kernel
theorem dX4_repeat_50 : decode cX4_repeat 50 = .ok (.getfield 22, 3) := by decide +kernel
theorem dX4_repeat_53 : decode cX4_repeat 53 = .ok (.iload 6, 2) := by decide +kernel
theorem dX4_repeat_55 : decode cX4_repeat 55 = .ok (.iaload, 1) := by decide +kernel
theorem dX4_repeat_56 : decode cX4_repeat 56 = .ok (.laload, 1) := by decide +kernel
theorem dX4_repeat_57 : decode cX4_repeat 57 = .ok (.aload_n 0, 1) := by decide +kernel
theorem dX4_repeat_58 : decode cX4_repeat 58 = .ok (.getfield 28, 3) := by decide +kernel
theorem dX4_repeat_61 : decode cX4_repeat 61 = .ok (.iload 6, 2) := by decide +kernel
theorem dX4_repeat_63 : decode cX4_repeat 63 = .ok (.iaload, 1) := by decide +kernel
theorem dX4_repeat_64 : decode cX4_repeat 64 = .ok (.i2l, 1) := by decide +kernel
theorem dX4_repeat_65 : decode cX4_repeat 65 = .ok (.lmul, 1) := by decide +kernel
theorem dX4_repeat_66 : decode cX4_repeat 66 = .ok (.aload_n 0, 1) := by decide +kernel
theorem dX4_repeat_67 : decode cX4_repeat 67 = .ok (.getfield 55, 3) := by decide +kernel
theorem dX4_repeat_70 : decode cX4_repeat 70 = .ok (.aload_n 0, 1) := by decide +kernel
theorem dX4_repeat_71 : decode cX4_repeat 71 = .ok (.getfield 25, 3) := by decide +kernel
theorem dX4_repeat_74 : decode cX4_repeat 74 = .ok (.iload 6, 2) := by decide +kernel
theorem dX4_repeat_76 : decode cX4_repeat 76 = .ok (.iaload, 1) := by decide +kernel
theorem dX4_repeat_77 : decode cX4_repeat 77 = .ok (.laload, 1) := by decide +kernel
theorem dX4_repeat_78 : decode cX4_repeat 78 = .ok (.aload_n 0, 1) := by decide +kernel
theorem dX4_repeat_79 : decode cX4_repeat 79 = .ok (.getfield 31, 3) := by decide +kernel
theorem dX4_repeat_82 : decode cX4_repeat 82 = .ok (.iload 6, 2) := by decide +kernel
theorem dX4_repeat_84 : decode cX4_repeat 84 = .ok (.iaload, 1) := by decide +kernel
theorem dX4_repeat_85 : decode cX4_repeat 85 = .ok (.i2l, 1) := by decide +kernel
theorem dX4_repeat_86 : decode cX4_repeat 86 = .ok (.lmul, 1) := by decide +kernel
theorem dX4_repeat_87 : decode cX4_repeat 87 = .ok (.lcmp, 1) := by decide +kernel
theorem dX4_repeat_88 : decode cX4_repeat 88 = .ok (.ifCond .eq 5, 3) := by decide +kernel
theorem dX4_repeat_91 : decode cX4_repeat 91 = .ok (.iconst 2, 1) := by decide +kernel
theorem dX4_repeat_92 : decode cX4_repeat 92 = .ok (.ireturn, 1) := by decide +kernel
theorem dX4_repeat_93 : decode cX4_repeat 93 = .ok (.iinc 6 1, 3) := by decide +kernel
theorem dX4_repeat_96 : decode cX4_repeat 96 = .ok (.goto (-60), 3) := by decide +kernel
theorem dX4_repeat_99 : decode cX4_repeat 99 = .ok (.iconst 0, 1) := by decide +kernel
theorem dX4_repeat_100 : decode cX4_repeat 100 = .ok (.istore 6, 2) := by decide +kernel
theorem dX4_repeat_102 : decode cX4_repeat 102 = .ok (.iload 6, 2) := by decide +kernel
theorem dX4_repeat_104 : decode cX4_repeat 104 = .ok (.aload_n 0, 1) := by decide +kernel
theorem dX4_repeat_105 : decode cX4_repeat 105 = .ok (.getfield 75, 3) := by decide +kernel
theorem dX4_repeat_108 : decode cX4_repeat 108 = .ok (.if_icmp .ge 21, 3) := by decide +kernel
theorem dX4_repeat_111 : decode cX4_repeat 111 = .ok (.lload_n 2, 1) := by decide +kernel
theorem dX4_repeat_112 : decode cX4_repeat 112 = .ok (.aload_n 0, 1) := by decide +kernel
theorem dX4_repeat_113 : decode cX4_repeat 113 = .ok (.getfield 55, 3) := by decide +kernel
theorem dX4_repeat_116 : decode cX4_repeat 116 = .ok (.iload 6, 2) := by decide +kernel
theorem dX4_repeat_118 : decode cX4_repeat 118 = .ok (.laload, 1) := by decide +kernel
theorem dX4_repeat_119 : decode cX4_repeat 119 = .ok (.invokestatic 111, 3) := by decide +kernel
theorem dX4_repeat_122 : decode cX4_repeat 122 = .ok (.lstore_n 2, 1) := by decide +kernel
theorem dX4_repeat_123 : decode cX4_repeat 123 = .ok (.iinc 6 1, 3) := by decide +kernel
theorem dX4_repeat_126 : decode cX4_repeat 126 = .ok (.goto (-24), 3) := by decide +kernel
theorem dX4_repeat_129 : decode cX4_repeat 129 = .ok (.iconst 0, 1) := by decide +kernel
theorem dX4_repeat_130 : decode cX4_repeat 130 = .ok (.istore 6, 2) := by decide +kernel
theorem dX4_repeat_132 : decode cX4_repeat 132 = .ok (.iload 6, 2) := by decide +kernel
theorem dX4_repeat_134 : decode cX4_repeat 134 = .ok (.aload_n 0, 1) := by decide +kernel
theorem dX4_repeat_135 : decode cX4_repeat 135 = .ok (.getfield 75, 3) := by decide +kernel
theorem dX4_repeat_138 : decode cX4_repeat 138 = .ok (.if_icmp .ge 37, 3) := by decide +kernel
theorem dX4_repeat_141 : decode cX4_repeat 141 = .ok (.aload_n 0, 1) := by decide +kernel
theorem dX4_repeat_142 : decode cX4_repeat 142 = .ok (.getfield 55, 3) := by decide +kernel
theorem dX4_repeat_145 : decode cX4_repeat 145 = .ok (.iload 6, 2) := by decide +kernel
theorem dX4_repeat_147 : decode cX4_repeat 147 = .ok (.aload_n 0, 1) := by decide +kernel
theorem dX4_repeat_148 : decode cX4_repeat 148 = .ok (.getfield 55, 3) := by decide +kernel
theorem dX4_repeat_151 : decode cX4_repeat 151 = .ok (.iload 6, 2) := by decide +kernel
theorem dX4_repeat_153 : decode cX4_repeat 153 = .ok (.laload, 1) := by decide +kernel
theorem dX4_repeat_154 : decode cX4_repeat 154 = .ok (.lload_n 2, 1) := by decide +kernel
theorem dX4_repeat_155 : decode cX4_repeat 155 = .ok (.ldiv, 1) := by decide +kernel
theorem dX4_repeat_156 : decode cX4_repeat 156 = .ok (.lastore, 1) := by decide +kernel
theorem dX4_repeat_157 : decode cX4_repeat 157 = .ok (.lload 4, 2) := by decide +kernel
theorem dX4_repeat_159 : decode cX4_repeat 159 = .ok (.aload_n 0, 1) := by decide +kernel
theorem dX4_repeat_160 : decode cX4_repeat 160 = .ok (.getfield 55, 3) := by decide +kernel
theorem dX4_repeat_163 : decode cX4_repeat 163 = .ok (.iload 6, 2) := by decide +kernel
theorem dX4_repeat_165 : decode cX4_repeat 165 = .ok (.laload, 1) := by decide +kernel
theorem dX4_repeat_166 : decode cX4_repeat 166 = .ok (.ladd, 1) := by decide +kernel
theorem dX4_repeat_167 : decode cX4_repeat 167 = .ok (.lstore 4, 2) := by decide +kernel
theorem dX4_repeat_169 : decode cX4_repeat 169 = .ok (.iinc 6 1, 3) := by decide +kernel
theorem dX4_repeat_172 : decode cX4_repeat 172 = .ok (.goto (-40), 3) := by decide +kernel
theorem dX4_repeat_175 : decode cX4_repeat 175 = .ok (.lload 4, 2) := by decide +kernel
theorem dX4_repeat_177 : decode cX4_repeat 177 = .ok (.ldc2_w 115, 3) := by decide +kernel
theorem dX4_repeat_180 : decode cX4_repeat 180 = .ok (.lcmp, 1) := by decide +kernel
theorem dX4_repeat_181 : decode cX4_repeat 181 = .ok (.ifCond .le 7, 3) := by decide +kernel
theorem dX4_repeat_184 : decode cX4_repeat 184 = .ok (.iconst 3, 1) := by decide +kernel
theorem dX4_repeat_185 : decode cX4_repeat 185 = .ok (.goto 4, 3) := by decide +kernel
theorem dX4_repeat_188 : decode cX4_repeat 188 = .ok (.iconst 0, 1) := by decide +kernel
theorem dX4_repeat_189 : decode cX4_repeat 189 = .ok (.ireturn, 1) := by decide +kernel
theorem dX4_mayFire_0 : decode cX4_mayFire 0 = .ok (.aload_n 0, 1) := by decide +kernel
theorem dX4_mayFire_1 : decode cX4_mayFire 1 = .ok (.getfield 59, 3) := by decide +kernel
theorem dX4_mayFire_4 : decode cX4_mayFire 4 = .ok (.iload_n 1, 1) := by decide +kernel
theorem dX4_mayFire_5 : decode cX4_mayFire 5 = .ok (.iaload, 1) := by decide +kernel
theorem dX4_mayFire_6 : decode cX4_mayFire 6 = .ok (.i2l, 1) := by decide +kernel
theorem dX4_mayFire_7 : decode cX4_mayFire 7 = .ok (.aload_n 0, 1) := by decide +kernel
theorem dX4_mayFire_8 : decode cX4_mayFire 8 = .ok (.getfield 55, 3) := by decide +kernel
theorem dX4_mayFire_11 : decode cX4_mayFire 11 = .ok (.iload_n 1, 1) := by decide +kernel
theorem dX4_mayFire_12 : decode cX4_mayFire 12 = .ok (.laload, 1) := by decide +kernel
theorem dX4_mayFire_13 : decode cX4_mayFire 13 = .ok (.lcmp, 1) := by decide +kernel
theorem dX4_mayFire_14 : decode cX4_mayFire 14 = .ok (.ifCond .ne 5, 3) := by decide +kernel
theorem dX4_mayFire_17 : decode cX4_mayFire 17 = .ok (.iconst 0, 1) := by decide +kernel
theorem dX4_mayFire_18 : decode cX4_mayFire 18 = .ok (.ireturn, 1) := by decide +kernel
theorem dX4_mayFire_19 : decode cX4_mayFire 19 = .ok (.iconst 0, 1) := by decide +kernel
theorem dX4_mayFire_20 : decode cX4_mayFire 20 = .ok (.istore_n 2, 1) := by decide +kernel
theorem dX4_mayFire_21 : decode cX4_mayFire 21 = .ok (.iload_n 2, 1) := by decide +kernel
theorem dX4_mayFire_22 : decode cX4_mayFire 22 = .ok (.aload_n 0, 1) := by decide +kernel
theorem dX4_mayFire_23 : decode cX4_mayFire 23 = .ok (.getfield 78, 3) := by decide +kernel
theorem dX4_mayFire_26 : decode cX4_mayFire 26 = .ok (.if_icmp .ge 36, 3) := by decide +kernel
theorem dX4_mayFire_29 : decode cX4_mayFire 29 = .ok (.aload_n 0, 1) := by decide +kernel
theorem dX4_mayFire_30 : decode cX4_mayFire 30 = .ok (.getfield 25, 3) := by decide +kernel
theorem dX4_mayFire_33 : decode cX4_mayFire 33 = .ok (.iload_n 2, 1) := by decide +kernel
theorem dX4_mayFire_34 : decode cX4_mayFire 34 = .ok (.iaload, 1) := by decide +kernel
theorem dX4_mayFire_35 : decode cX4_mayFire 35 = .ok (.iload_n 1, 1) := by decide +kernel
theorem dX4_mayFire_36 : decode cX4_mayFire 36 = .ok (.if_icmp .ne 20, 3) := by decide +kernel
theorem dX4_mayFire_39 : decode cX4_mayFire 39 = .ok (.aload_n 0, 1) := by decide +kernel
theorem dX4_mayFire_40 : decode cX4_mayFire 40 = .ok (.getfield 62, 3) := by decide +kernel
theorem dX4_mayFire_43 : decode cX4_mayFire 43 = .ok (.iload_n 2, 1) := by decide +kernel
theorem dX4_mayFire_44 : decode cX4_mayFire 44 = .ok (.iaload, 1) := by decide +kernel
theorem dX4_mayFire_45 : decode cX4_mayFire 45 = .ok (.aload_n 0, 1) := by decide +kernel
theorem dX4_mayFire_46 : decode cX4_mayFire 46 = .ok (.getfield 31, 3) := by decide +kernel
theorem dX4_mayFire_49 : decode cX4_mayFire 49 = .ok (.iload_n 2, 1) := by decide +kernel
theorem dX4_mayFire_50 : decode cX4_mayFire 50 = .ok (.iaload, 1) := by decide +kernel
theorem dX4_mayFire_51 : decode cX4_mayFire 51 = .ok (.if_icmp .ge 5, 3) := by decide +kernel
theorem dX4_mayFire_54 : decode cX4_mayFire 54 = .ok (.iconst 0, 1) := by decide +kernel
theorem dX4_mayFire_55 : decode cX4_mayFire 55 = .ok (.ireturn, 1) := by decide +kernel
theorem dX4_mayFire_56 : decode cX4_mayFire 56 = .ok (.iinc 2 1, 3) := by decide +kernel
theorem dX4_mayFire_59 : decode cX4_mayFire 59 = .ok (.goto (-38), 3) := by decide +kernel
theorem dX4_mayFire_62 : decode cX4_mayFire 62 = .ok (.iconst 1, 1) := by decide +kernel
theorem dX4_mayFire_63 : decode cX4_mayFire 63 = .ok (.ireturn, 1) := by decide +kernel
theorem dX4_attempt_0 : decode cX4_attempt 0 = .ok (.iconst 0, 1) := by decide +kernel
theorem dX4_attempt_1 : decode cX4_attempt 1 = .ok (.istore_n 1, 1) := by decide +kernel
theorem dX4_attempt_2 : decode cX4_attempt 2 = .ok (.iconst 0, 1) := by decide +kernel
theorem dX4_attempt_3 : decode cX4_attempt 3 = .ok (.istore_n 2, 1) := by decide +kernel
theorem dX4_attempt_4 : decode cX4_attempt 4 = .ok (.iconst 0, 1) := by decide +kernel
theorem dX4_attempt_5 : decode cX4_attempt 5 = .ok (.istore_n 3, 1) := by decide +kernel
theorem dX4_attempt_6 : decode cX4_attempt 6 = .ok (.iload_n 3, 1) := by decide +kernel
theorem dX4_attempt_7 : decode cX4_attempt 7 = .ok (.aload_n 0, 1) := by decide +kernel
theorem dX4_attempt_8 : decode cX4_attempt 8 = .ok (.getfield 75, 3) := by decide +kernel
theorem dX4_attempt_11 : decode cX4_attempt 11 = .ok (.if_icmp .ge 26, 3) := by decide +kernel
theorem dX4_attempt_14 : decode cX4_attempt 14 = .ok (.aload_n 0, 1) := by decide +kernel
theorem dX4_attempt_15 : decode cX4_attempt 15 = .ok (.getfield 59, 3) := by decide +kernel
theorem dX4_attempt_18 : decode cX4_attempt 18 = .ok (.iload_n 3, 1) := by decide +kernel
theorem dX4_attempt_19 : decode cX4_attempt 19 = .ok (.iconst 0, 1) := by decide +kernel
theorem dX4_attempt_20 : decode cX4_attempt 20 = .ok (.iastore, 1) := by decide +kernel
theorem dX4_attempt_21 : decode cX4_attempt 21 = .ok (.iload_n 1, 1) := by decide +kernel
theorem dX4_attempt_22 : decode cX4_attempt 22 = .ok (.aload_n 0, 1) := by decide +kernel
theorem dX4_attempt_23 : decode cX4_attempt 23 = .ok (.getfield 55, 3) := by decide +kernel
theorem dX4_attempt_26 : decode cX4_attempt 26 = .ok (.iload_n 3, 1) := by decide +kernel
theorem dX4_attempt_27 : decode cX4_attempt 27 = .ok (.laload, 1) := by decide +kernel
theorem dX4_attempt_28 : decode cX4_attempt 28 = .ok (.l2i, 1) := by decide +kernel
theorem dX4_attempt_29 : decode cX4_attempt 29 = .ok (.iadd, 1) := by decide +kernel
theorem dX4_attempt_30 : decode cX4_attempt 30 = .ok (.istore_n 1, 1) := by decide +kernel
theorem dX4_attempt_31 : decode cX4_attempt 31 = .ok (.iinc 3 1, 3) := by decide +kernel
theorem dX4_attempt_34 : decode cX4_attempt 34 = .ok (.goto (-28), 3) := by decide +kernel
theorem dX4_attempt_37 : decode cX4_attempt 37 = .ok (.iconst 0, 1) := by decide +kernel
theorem dX4_attempt_38 : decode cX4_attempt 38 = .ok (.istore_n 3, 1) := by decide +kernel
theorem dX4_attempt_39 : decode cX4_attempt 39 = .ok (.iload_n 3, 1) := by decide +kernel
theorem dX4_attempt_40 : decode cX4_attempt 40 = .ok (.aload_n 0, 1) := by decide +kernel
theorem dX4_attempt_41 : decode cX4_attempt 41 = .ok (.getfield 78, 3) := by decide +kernel
theorem dX4_attempt_44 : decode cX4_attempt 44 = .ok (.if_icmp .ge 33, 3) := by decide +kernel
theorem dX4_attempt_47 : decode cX4_attempt 47 = .ok (.aload_n 0, 1) := by decide +kernel
theorem dX4_attempt_48 : decode cX4_attempt 48 = .ok (.getfield 62, 3) := by decide +kernel
theorem dX4_attempt_51 : decode cX4_attempt 51 = .ok (.iload_n 3, 1) := by decide +kernel
theorem dX4_attempt_52 : decode cX4_attempt 52 = .ok (.aload_n 0, 1) := by decide +kernel
theorem dX4_attempt_53 : decode cX4_attempt 53 = .ok (.getfield 34, 3) := by decide +kernel
theorem dX4_attempt_56 : decode cX4_attempt 56 = .ok (.iload_n 3, 1) := by decide +kernel
theorem dX4_attempt_57 : decode cX4_attempt 57 = .ok (.iaload, 1) := by decide +kernel
theorem dX4_attempt_58 : decode cX4_attempt 58 = .ok (.iastore, 1) := by decide +kernel
theorem dX4_attempt_59 : decode cX4_attempt 59 = .ok (.aload_n 0, 1) := by decide +kernel
theorem dX4_attempt_60 : decode cX4_attempt 60 = .ok (.getfield 65, 3) := by decide +kernel
theorem dX4_attempt_63 : decode cX4_attempt 63 = .ok (.iload_n 3, 1) := by decide +kernel
theorem dX4_attempt_64 : decode cX4_attempt 64 = .ok (.aload_n 0, 1) := by decide +kernel
theorem dX4_attempt_65 : decode cX4_attempt 65 = .ok (.getfield 34, 3) := by decide +kernel
theorem dX4_attempt_68 : decode cX4_attempt 68 = .ok (.iload_n 3, 1) := by decide +kernel
theorem dX4_attempt_69 : decode cX4_attempt 69 = .ok (.iaload, 1) := by decide +kernel
theorem dX4_attempt_70 : decode cX4_attempt 70 = .ok (.iastore, 1) := by decide +kernel
theorem dX4_attempt_71 : decode cX4_attempt 71 = .ok (.iinc 3 1, 3) := by decide +kernel
theorem dX4_attempt_74 : decode cX4_attempt 74 = .ok (.goto (-35), 3) := by decide +kernel
theorem dX4_attempt_77 : decode cX4_attempt 77 = .ok (.iconst 0, 1) := by decide +kernel
theorem dX4_attempt_78 : decode cX4_attempt 78 = .ok (.istore_n 3, 1) := by decide +kernel
theorem dX4_attempt_79 : decode cX4_attempt 79 = .ok (.iload_n 3, 1) := by decide +kernel
theorem dX4_attempt_80 : decode cX4_attempt 80 = .ok (.iload_n 1, 1) := by decide +kernel
theorem dX4_attempt_81 : decode cX4_attempt 81 = .ok (.if_icmp .ge 176, 3) := by decide +kernel
theorem dX4_attempt_84 : decode cX4_attempt 84 = .ok (.iconst 0, 1) := by decide +kernel
theorem dX4_attempt_85 : decode cX4_attempt 85 = .ok (.istore 4, 2) := by decide +kernel
theorem dX4_attempt_87 : decode cX4_attempt 87 = .ok (.iload 4, 2) := by decide +kernel
theorem dX4_attempt_89 : decode cX4_attempt 89 = .ok (.aload_n 0, 1) := by decide +kernel
theorem dX4_attempt_90 : decode cX4_attempt 90 = .ok (.getfield 75, 3) := by decide +kernel
theorem dX4_attempt_93 : decode cX4_attempt 93 = .ok (.if_icmp .ge 18, 3) := by decide +kernel
theorem dX4_attempt_96 : decode cX4_attempt 96 = .ok (.aload_n 0, 1) := by decide +kernel
theorem dX4_attempt_97 : decode cX4_attempt 97 = .ok (.iload 4, 2) := by decide +kernel
theorem dX4_attempt_99 : decode cX4_attempt 99 = .ok (.invokevirtual 117, 3) := by decide +kernel
theorem dX4_attempt_102 : decode cX4_attempt 102 = .ok (.ifCond .ne 9, 3) := by decide +kernel
theorem dX4_attempt_105 : decode cX4_attempt 105 = .ok (.iinc 4 1, 3) := by decide +kernel
theorem dX4_attempt_108 : decode cX4_attempt 108 = .ok (.goto (-21), 3) := by decide +kernel
theorem dX4_attempt_111 : decode cX4_attempt 111 = .ok (.iload 4, 2) := by decide +kernel
theorem dX4_attempt_113 : decode cX4_attempt 113 = .ok (.aload_n 0, 1) := by decide +kernel
theorem dX4_attempt_114 : decode cX4_attempt 114 = .ok (.getfield 75, 3) := by decide +kernel
theorem dX4_attempt_117 : decode cX4_attempt 117 = .ok (.if_icmp .ne 5, 3) := by decide +kernel
theorem dX4_attempt_120 : decode cX4_attempt 120 = .ok (.iconst (-1), 1) := by decide +kernel
theorem dX4_attempt_121 : decode cX4_attempt 121 = .ok (.ireturn, 1) := by decide +kernel
theorem dX4_attempt_122 : decode cX4_attempt 122 = .ok (.aload_n 0, 1) := by decide +kernel
theorem dX4_attempt_123 : decode cX4_attempt 123 = .ok (.getfield 59, 3) := by decide +kernel
theorem dX4_attempt_126 : decode cX4_attempt 126 = .ok (.iload 4, 2) := by decide +kernel
theorem dX4_attempt_128 : decode cX4_attempt 128 = .ok (.dup2, 1) := by decide +kernel
theorem dX4_attempt_129 : decode cX4_attempt 129 = .ok (.iaload, 1) := by decide +kernel
theorem dX4_attempt_130 : decode cX4_attempt 130 = .ok (.iconst 1, 1) := by decide +kernel
theorem dX4_attempt_131 : decode cX4_attempt 131 = .ok (.iadd, 1) := by decide +kernel
theorem dX4_attempt_132 : decode cX4_attempt 132 = .ok (.iastore, 1) := by decide +kernel
theorem dX4_attempt_133 : decode cX4_attempt 133 = .ok (.aload_n 0, 1) := by decide +kernel
theorem dX4_attempt_134 : decode cX4_attempt 134 = .ok (.getfield 68, 3) := by decide +kernel
theorem dX4_attempt_137 : decode cX4_attempt 137 = .ok (.iload_n 3, 1) := by decide +kernel
theorem dX4_attempt_138 : decode cX4_attempt 138 = .ok (.iload 4, 2) := by decide +kernel
theorem dX4_attempt_140 : decode cX4_attempt 140 = .ok (.iastore, 1) := by decide +kernel
theorem dX4_attempt_141 : decode cX4_attempt 141 = .ok (.iinc 2 1, 3) := by decide +kernel
theorem dX4_attempt_144 : decode cX4_attempt 144 = .ok (.iconst 0, 1) := by decide +kernel
theorem dX4_attempt_145 : decode cX4_attempt 145 = .ok (.istore 5, 2) := by decide +kernel
theorem dX4_attempt_147 : decode cX4_attempt 147 = .ok (.iload 5, 2) := by decide +kernel
theorem dX4_attempt_149 : decode cX4_attempt 149 = .ok (.aload_n 0, 1) := by decide +kernel
theorem dX4_attempt_150 : decode cX4_attempt 150 = .ok (.getfield 78, 3) := by decide +kernel
theorem dX4_attempt_153 : decode cX4_attempt 153 = .ok (.if_icmp .ge 98, 3) := by decide +kernel
theorem dX4_attempt_156 : decode cX4_attempt 156 = .ok (.aload_n 0, 1) := by decide +kernel
theorem dX4_attempt_157 : decode cX4_attempt 157 = .ok (.getfield 25, 3) := by decide +kernel
theorem dX4_attempt_160 : decode cX4_attempt 160 = .ok (.iload 5, 2) := by decide +kernel
theorem dX4_attempt_162 : decode cX4_attempt 162 = .ok (.iaload, 1) := by decide +kernel
theorem dX4_attempt_163 : decode cX4_attempt 163 = .ok (.iload 4, 2) := by decide +kernel
theorem dX4_attempt_165 : decode cX4_attempt 165 = .ok (.if_icmp .ne 20, 3) := by decide +kernel
theorem dX4_attempt_168 : decode cX4_attempt 168 = .ok (.aload_n 0, 1) := by decide +kernel
theorem dX4_attempt_169 : decode cX4_attempt 169 = .ok (.getfield 62, 3) := by decide +kernel
theorem dX4_attempt_172 : decode cX4_attempt 172 = .ok (.iload 5, 2) := by decide +kernel
theorem dX4_attempt_174 : decode cX4_attempt 174 = .ok (.dup2, 1) := by decide +kernel
theorem dX4_attempt_175 : decode cX4_attempt 175 = .ok (.iaload, 1) := by decide +kernel
theorem dX4_attempt_176 : decode cX4_attempt 176 = .ok (.aload_n 0, 1) := by decide +kernel
theorem dX4_attempt_177 : decode cX4_attempt 177 = .ok (.getfield 31, 3) := by decide +kernel
theorem dX4_attempt_180 : decode cX4_attempt 180 = .ok (.iload 5, 2) := by decide +kernel
theorem dX4_attempt_182 : decode cX4_attempt 182 = .ok (.iaload, 1) := by decide +kernel
theorem dX4_attempt_183 : decode cX4_attempt 183 = .ok (.isub, 1) := by decide +kernel
theorem dX4_attempt_184 : decode cX4_attempt 184 = .ok (.iastore, 1) := by decide +kernel
theorem dX4_attempt_185 : decode cX4_attempt 185 = .ok (.aload_n 0, 1) := by decide +kernel
theorem dX4_attempt_186 : decode cX4_attempt 186 = .ok (.getfield 22, 3) := by decide +kernel
theorem dX4_attempt_189 : decode cX4_attempt 189 = .ok (.iload 5, 2) := by decide +kernel
theorem dX4_attempt_191 : decode cX4_attempt 191 = .ok (.iaload, 1) := by decide +kernel
theorem dX4_attempt_192 : decode cX4_attempt 192 = .ok (.iload 4, 2) := by decide +kernel
theorem dX4_attempt_194 : decode cX4_attempt 194 = .ok (.if_icmp .ne 20, 3) := by decide +kernel
theorem dX4_attempt_197 : decode cX4_attempt 197 = .ok (.aload_n 0, 1) := by decide +kernel
theorem dX4_attempt_198 : decode cX4_attempt 198 = .ok (.getfield 62, 3) := by decide +kernel
theorem dX4_attempt_201 : decode cX4_attempt 201 = .ok (.iload 5, 2) := by decide +kernel
theorem dX4_attempt_203 : decode cX4_attempt 203 = .ok (.dup2, 1) := by decide +kernel
theorem dX4_attempt_204 : decode cX4_attempt 204 = .ok (.iaload, 1) := by decide +kernel
theorem dX4_attempt_205 : decode cX4_attempt 205 = .ok (.aload_n 0, 1) := by decide +kernel
theorem dX4_attempt_206 : decode cX4_attempt 206 = .ok (.getfield 28, 3) := by decide +kernel
theorem dX4_attempt_209 : decode cX4_attempt 209 = .ok (.iload 5, 2) := by decide +kernel
theorem dX4_attempt_211 : decode cX4_attempt 211 = .ok (.iaload, 1) := by decide +kernel
theorem dX4_attempt_212 : decode cX4_attempt 212 = .ok (.iadd, 1) := by decide +kernel
theorem dX4_attempt_213 : decode cX4_attempt 213 = .ok (.iastore, 1) := by decide +kernel
theorem dX4_attempt_214 : decode cX4_attempt 214 = .ok (.aload_n 0, 1) := by decide +kernel
theorem dX4_attempt_215 : decode cX4_attempt 215 = .ok (.getfield 62, 3) := by decide +kernel
theorem dX4_attempt_218 : decode cX4_attempt 218 = .ok (.iload 5, 2) := by decide +kernel
theorem dX4_attempt_220 : decode cX4_attempt 220 = .ok (.iaload, 1) := by decide +kernel
theorem dX4_attempt_221 : decode cX4_attempt 221 = .ok (.aload_n 0, 1) := by decide +kernel
theorem dX4_attempt_222 : decode cX4_attempt 222 = .ok (.getfield 65, 3) := by decide +kernel
theorem dX4_attempt_225 : decode cX4_attempt 225 = .ok (.iload 5, 2) := by decide +kernel
theorem dX4_attempt_227 : decode cX4_attempt 227 = .ok (.iaload, 1) := by decide +kernel
theorem dX4_attempt_228 : decode cX4_attempt 228 = .ok (.if_icmp .le 17, 3) := by decide +kernel
theorem dX4_attempt_231 : decode cX4_attempt 231 = .ok (.aload_n 0, 1) := by decide +kernel
theorem dX4_attempt_232 : decode cX4_attempt 232 = .ok (.getfield 65, 3) := by decide +kernel
theorem dX4_attempt_235 : decode cX4_attempt 235 = .ok (.iload 5, 2) := by decide +kernel
theorem dX4_attempt_237 : decode cX4_attempt 237 = .ok (.aload_n 0, 1) := by decide +kernel
theorem dX4_attempt_238 : decode cX4_attempt 238 = .ok (.getfield 62, 3) := by decide +kernel
theorem dX4_attempt_241 : decode cX4_attempt 241 = .ok (.iload 5, 2) := by decide +kernel
theorem dX4_attempt_243 : decode cX4_attempt 243 = .ok (.iaload, 1) := by decide +kernel
theorem dX4_attempt_244 : decode cX4_attempt 244 = .ok (.iastore, 1) := by decide +kernel
theorem dX4_attempt_245 : decode cX4_attempt 245 = .ok (.iinc 5 1, 3) := by decide +kernel
theorem dX4_attempt_248 : decode cX4_attempt 248 = .ok (.goto (-101), 3) := by decide +kernel
theorem dX4_attempt_251 : decode cX4_attempt 251 = .ok (.iinc 3 1, 3) := by decide +kernel
theorem dX4_attempt_254 : decode cX4_attempt 254 = .ok (.goto (-175), 3) := by decide +kernel
theorem dX4_attempt_257 : decode cX4_attempt 257 = .ok (.iload_n 2, 1) := by decide +kernel
theorem dX4_attempt_258 : decode cX4_attempt 258 = .ok (.ireturn, 1) := by decide +kernel
theorem dX4_plan_0 : decode cX4_plan 0 = .ok (.aload_n 0, 1) := by decide +kernel
theorem dX4_plan_1 : decode cX4_plan 1 = .ok (.iconst 0, 1) := by decide +kernel
theorem dX4_plan_2 : decode cX4_plan 2 = .ok (.putfield 81, 3) := by decide +kernel
theorem dX4_plan_5 : decode cX4_plan 5 = .ok (.aload_n 0, 1) := by decide +kernel
theorem dX4_plan_6 : decode cX4_plan 6 = .ok (.aload_n 0, 1) := by decide +kernel
theorem dX4_plan_7 : decode cX4_plan 7 = .ok (.invokevirtual 120, 3) := by decide +kernel
theorem dX4_plan_10 : decode cX4_plan 10 = .ok (.putfield 71, 3) := by decide +kernel
theorem dX4_plan_13 : decode cX4_plan 13 = .ok (.aload_n 0, 1) := by decide +kernel
theorem dX4_plan_14 : decode cX4_plan 14 = .ok (.getfield 71, 3) := by decide +kernel
theorem dX4_plan_17 : decode cX4_plan 17 = .ok (.ifCond .le 5, 3) := by decide +kernel
theorem dX4_plan_20 : decode cX4_plan 20 = .ok (.iconst 0, 1) := by decide +kernel
theorem dX4_plan_21 : decode cX4_plan 21 = .ok (.ireturn, 1) := by decide +kernel
theorem dX4_plan_22 : decode cX4_plan 22 = .ok (.aload_n 0, 1) := by decide +kernel
theorem dX4_plan_23 : decode cX4_plan 23 = .ok (.invokevirtual 124, 3) := by decide +kernel
theorem dX4_plan_26 : decode cX4_plan 26 = .ok (.istore_n 1, 1) := by decide +kernel
theorem dX4_plan_27 : decode cX4_plan 27 = .ok (.iload_n 1, 1) := by decide +kernel
theorem dX4_plan_28 : decode cX4_plan 28 = .ok (.ifCond .ge 10, 3) := by decide +kernel
theorem dX4_plan_31 : decode cX4_plan 31 = .ok (.aload_n 0, 1) := by decide +kernel
theorem dX4_plan_32 : decode cX4_plan 32 = .ok (.iconst 4, 1) := by decide +kernel
theorem dX4_plan_33 : decode cX4_plan 33 = .ok (.putfield 71, 3) := by decide +kernel
theorem dX4_plan_36 : decode cX4_plan 36 = .ok (.iconst 0, 1) := by decide +kernel
theorem dX4_plan_37 : decode cX4_plan 37 = .ok (.ireturn, 1) := by decide +kernel
theorem dX4_plan_38 : decode cX4_plan 38 = .ok (.aload_n 0, 1) := by decide +kernel
theorem dX4_plan_39 : decode cX4_plan 39 = .ok (.iload_n 1, 1) := by decide +kernel
theorem dX4_plan_40 : decode cX4_plan 40 = .ok (.putfield 81, 3) := by decide +kernel
theorem dX4_plan_43 : decode cX4_plan 43 = .ok (.iconst 0, 1) := by decide +kernel
theorem dX4_plan_44 : decode cX4_plan 44 = .ok (.istore_n 2, 1) := by decide +kernel
theorem dX4_plan_45 : decode cX4_plan 45 = .ok (.iload_n 2, 1) := by decide +kernel
theorem dX4_plan_46 : decode cX4_plan 46 = .ok (.iload_n 1, 1) := by decide +kernel
theorem dX4_plan_47 : decode cX4_plan 47 = .ok (.if_icmp .ge 21, 3) := by decide +kernel
theorem dX4_plan_50 : decode cX4_plan 50 = .ok (.aload_n 0, 1) := by decide +kernel
theorem dX4_plan_51 : decode cX4_plan 51 = .ok (.getfield 46, 3) := by decide +kernel
theorem dX4_plan_54 : decode cX4_plan 54 = .ok (.iload_n 2, 1) := by decide +kernel
theorem dX4_plan_55 : decode cX4_plan 55 = .ok (.aload_n 0, 1) := by decide +kernel
theorem dX4_plan_56 : decode cX4_plan 56 = .ok (.getfield 68, 3) := by decide +kernel
theorem dX4_plan_59 : decode cX4_plan 59 = .ok (.iload_n 2, 1) := by decide +kernel
theorem dX4_plan_60 : decode cX4_plan 60 = .ok (.iaload, 1) := by decide +kernel
theorem dX4_plan_61 : decode cX4_plan 61 = .ok (.iastore, 1) := by decide +kernel
theorem dX4_plan_62 : decode cX4_plan 62 = .ok (.iinc 2 1, 3) := by decide +kernel
theorem dX4_plan_65 : decode cX4_plan 65 = .ok (.goto (-20), 3) := by decide +kernel
theorem dX4_plan_68 : decode cX4_plan 68 = .ok (.iconst 0, 1) := by decide +kernel
theorem dX4_plan_69 : decode cX4_plan 69 = .ok (.istore_n 2, 1) := by decide +kernel
theorem dX4_plan_70 : decode cX4_plan 70 = .ok (.iload_n 2, 1) := by decide +kernel
theorem dX4_plan_71 : decode cX4_plan 71 = .ok (.aload_n 0, 1) := by decide +kernel
theorem dX4_plan_72 : decode cX4_plan 72 = .ok (.getfield 75, 3) := by decide +kernel
theorem dX4_plan_75 : decode cX4_plan 75 = .ok (.if_icmp .ge 22, 3) := by decide +kernel
theorem dX4_plan_78 : decode cX4_plan 78 = .ok (.aload_n 0, 1) := by decide +kernel
theorem dX4_plan_79 : decode cX4_plan 79 = .ok (.getfield 49, 3) := by decide +kernel
theorem dX4_plan_82 : decode cX4_plan 82 = .ok (.iload_n 2, 1) := by decide +kernel
theorem dX4_plan_83 : decode cX4_plan 83 = .ok (.aload_n 0, 1) := by decide +kernel
theorem dX4_plan_84 : decode cX4_plan 84 = .ok (.getfield 55, 3) := by decide +kernel
theorem dX4_plan_87 : decode cX4_plan 87 = .ok (.iload_n 2, 1) := by decide +kernel
theorem dX4_plan_88 : decode cX4_plan 88 = .ok (.laload, 1) := by decide +kernel
theorem dX4_plan_89 : decode cX4_plan 89 = .ok (.l2i, 1) := by decide +kernel
theorem dX4_plan_90 : decode cX4_plan 90 = .ok (.iastore, 1) := by decide +kernel
theorem dX4_plan_91 : decode cX4_plan 91 = .ok (.iinc 2 1, 3) := by decide +kernel
theorem dX4_plan_94 : decode cX4_plan 94 = .ok (.goto (-24), 3) := by decide +kernel
theorem dX4_plan_97 : decode cX4_plan 97 = .ok (.iconst 0, 1) := by decide +kernel
theorem dX4_plan_98 : decode cX4_plan 98 = .ok (.istore_n 2, 1) := by decide +kernel
theorem dX4_plan_99 : decode cX4_plan 99 = .ok (.iload_n 2, 1) := by decide +kernel
theorem dX4_plan_100 : decode cX4_plan 100 = .ok (.aload_n 0, 1) := by decide +kernel
theorem dX4_plan_101 : decode cX4_plan 101 = .ok (.getfield 78, 3) := by decide +kernel
theorem dX4_plan_104 : decode cX4_plan 104 = .ok (.if_icmp .ge 21, 3) := by decide +kernel
theorem dX4_plan_107 : decode cX4_plan 107 = .ok (.aload_n 0, 1) := by decide +kernel
theorem dX4_plan_108 : decode cX4_plan 108 = .ok (.getfield 52, 3) := by decide +kernel
theorem dX4_plan_111 : decode cX4_plan 111 = .ok (.iload_n 2, 1) := by decide +kernel
theorem dX4_plan_112 : decode cX4_plan 112 = .ok (.aload_n 0, 1) := by decide +kernel
theorem dX4_plan_113 : decode cX4_plan 113 = .ok (.getfield 65, 3) := by decide +kernel
theorem dX4_plan_116 : decode cX4_plan 116 = .ok (.iload_n 2, 1) := by decide +kernel
theorem dX4_plan_117 : decode cX4_plan 117 = .ok (.iaload, 1) := by decide +kernel
theorem dX4_plan_118 : decode cX4_plan 118 = .ok (.iastore, 1) := by decide +kernel
theorem dX4_plan_119 : decode cX4_plan 119 = .ok (.iinc 2 1, 3) := by decide +kernel
theorem dX4_plan_122 : decode cX4_plan 122 = .ok (.goto (-23), 3) := by decide +kernel
theorem dX4_plan_125 : decode cX4_plan 125 = .ok (.aload_n 0, 1) := by decide +kernel
theorem dX4_plan_126 : decode cX4_plan 126 = .ok (.invokevirtual 84, 3) := by decide +kernel
theorem dX4_plan_129 : decode cX4_plan 129 = .ok (.iload_n 1, 1) := by decide +kernel
theorem dX4_plan_130 : decode cX4_plan 130 = .ok (.ireturn, 1) := by decide +kernel
theorem dX4_planned_0 : decode cX4_planned 0 = .ok (.aload_n 0, 1) := by decide +kernel
theorem dX4_planned_1 : decode cX4_planned 1 = .ok (.iconst 0, 1) := by decide +kernel
theorem dX4_planned_2 : decode cX4_planned 2 = .ok (.putfield 71, 3) := by decide +kernel
theorem dX4_planned_5 : decode cX4_planned 5 = .ok (.aload_n 0, 1) := by decide +kernel
theorem dX4_planned_6 : decode cX4_planned 6 = .ok (.getfield 81, 3) := by decide +kernel
theorem dX4_planned_9 : decode cX4_planned 9 = .ok (.ireturn, 1) := by decide +kernel
theorem dX4_firing_0 : decode cX4_firing 0 = .ok (.aload_n 0, 1) := by decide +kernel
theorem dX4_firing_1 : decode cX4_firing 1 = .ok (.iconst 0, 1) := by decide +kernel
theorem dX4_firing_2 : decode cX4_firing 2 = .ok (.putfield 71, 3) := by decide +kernel
theorem dX4_firing_5 : decode cX4_firing 5 = .ok (.iload_n 1, 1) := by decide +kernel
theorem dX4_firing_6 : decode cX4_firing 6 = .ok (.iconst 0, 1) := by decide +kernel
theorem dX4_firing_7 : decode cX4_firing 7 = .ok (.aload_n 0, 1) := by decide +kernel
theorem dX4_firing_8 : decode cX4_firing 8 = .ok (.getfield 81, 3) := by decide +kernel
theorem dX4_firing_11 : decode cX4_firing 11 = .ok (.iconst 1, 1) := by decide +kernel
theorem dX4_firing_12 : decode cX4_firing 12 = .ok (.isub, 1) := by decide +kernel
theorem dX4_firing_13 : decode cX4_firing 13 = .ok (.invokestatic 87, 3) := by decide +kernel
theorem dX4_firing_16 : decode cX4_firing 16 = .ok (.ifCond .eq 12, 3) := by decide +kernel
theorem dX4_firing_19 : decode cX4_firing 19 = .ok (.aload_n 0, 1) := by decide +kernel
theorem dX4_firing_20 : decode cX4_firing 20 = .ok (.getfield 46, 3) := by decide +kernel
theorem dX4_firing_23 : decode cX4_firing 23 = .ok (.iload_n 1, 1) := by decide +kernel
theorem dX4_firing_24 : decode cX4_firing 24 = .ok (.iaload, 1) := by decide +kernel
theorem dX4_firing_25 : decode cX4_firing 25 = .ok (.goto 4, 3) := by decide +kernel
theorem dX4_firing_28 : decode cX4_firing 28 = .ok (.iconst (-1), 1) := by decide +kernel
theorem dX4_firing_29 : decode cX4_firing 29 = .ok (.ireturn, 1) := by decide +kernel
theorem dX4_repetitions_0 : decode cX4_repetitions 0 = .ok (.aload_n 0, 1) := by decide +kernel
theorem dX4_repetitions_1 : decode cX4_repetitions 1 = .ok (.iconst 0, 1) := by decide +kernel
theorem dX4_repetitions_2 : decode cX4_repetitions 2 = .ok (.putfield 71, 3) := by decide +kernel
theorem dX4_repetitions_5 : decode cX4_repetitions 5 = .ok (.aload_n 0, 1) := by decide +kernel
theorem dX4_repetitions_6 : decode cX4_repetitions 6 = .ok (.getfield 81, 3) := by decide +kernel
theorem dX4_repetitions_9 : decode cX4_repetitions 9 = .ok (.ifCond .le 20, 3) := by decide +kernel
theorem dX4_repetitions_12 : decode cX4_repetitions 12 = .ok (.aload_n 0, 1) := by decide +kernel
theorem dX4_repetitions_13 : decode cX4_repetitions 13 = .ok (.iload_n 1, 1) := by decide +kernel
theorem dX4_repetitions_14 : decode cX4_repetitions 14 = .ok (.invokevirtual 94, 3) := by decide +kernel
theorem dX4_repetitions_17 : decode cX4_repetitions 17 = .ok (.ifCond .eq 12, 3) := by decide +kernel
theorem dX4_repetitions_20 : decode cX4_repetitions 20 = .ok (.aload_n 0, 1) := by decide +kernel
theorem dX4_repetitions_21 : decode cX4_repetitions 21 = .ok (.getfield 49, 3) := by decide +kernel
theorem dX4_repetitions_24 : decode cX4_repetitions 24 = .ok (.iload_n 1, 1) := by decide +kernel
theorem dX4_repetitions_25 : decode cX4_repetitions 25 = .ok (.iaload, 1) := by decide +kernel
theorem dX4_repetitions_26 : decode cX4_repetitions 26 = .ok (.goto 4, 3) := by decide +kernel
theorem dX4_repetitions_29 : decode cX4_repetitions 29 = .ok (.iconst 0, 1) := by decide +kernel
theorem dX4_repetitions_30 : decode cX4_repetitions 30 = .ok (.ireturn, 1) := by decide +kernel
theorem dX4_bound_0 : decode cX4_bound 0 = .ok (.aload_n 0, 1) := by decide +kernel
theorem dX4_bound_1 : decode cX4_bound 1 = .ok (.iconst 0, 1) := by decide +kernel
theorem dX4_bound_2 : decode cX4_bound 2 = .ok (.putfield 71, 3) := by decide +kernel
theorem dX4_bound_5 : decode cX4_bound 5 = .ok (.aload_n 0, 1) := by decide +kernel
theorem dX4_bound_6 : decode cX4_bound 6 = .ok (.getfield 81, 3) := by decide +kernel
theorem dX4_bound_9 : decode cX4_bound 9 = .ok (.ifCond .le 20, 3) := by decide +kernel
theorem dX4_bound_12 : decode cX4_bound 12 = .ok (.aload_n 0, 1) := by decide +kernel
theorem dX4_bound_13 : decode cX4_bound 13 = .ok (.iload_n 1, 1) := by decide +kernel
theorem dX4_bound_14 : decode cX4_bound 14 = .ok (.invokevirtual 98, 3) := by decide +kernel
theorem dX4_bound_17 : decode cX4_bound 17 = .ok (.ifCond .eq 12, 3) := by decide +kernel
theorem dX4_bound_20 : decode cX4_bound 20 = .ok (.aload_n 0, 1) := by decide +kernel
theorem dX4_bound_21 : decode cX4_bound 21 = .ok (.getfield 52, 3) := by decide +kernel
theorem dX4_bound_24 : decode cX4_bound 24 = .ok (.iload_n 1, 1) := by decide +kernel
theorem dX4_bound_25 : decode cX4_bound 25 = .ok (.iaload, 1) := by decide +kernel
theorem dX4_bound_26 : decode cX4_bound 26 = .ok (.goto 4, 3) := by decide +kernel
theorem dX4_bound_29 : decode cX4_bound 29 = .ok (.iconst (-1), 1) := by decide +kernel
theorem dX4_bound_30 : decode cX4_bound 30 = .ok (.ireturn, 1) := by decide +kernel
theorem dX4_at_0 : decode cX4_at 0 = .ok (.sipush 910, 3) := by decide +kernel
theorem dX4_at_3 : decode cX4_at 3 = .ok (.iload_n 1, 1) := by decide +kernel
theorem dX4_at_4 : decode cX4_at 4 = .ok (.imul, 1) := by decide +kernel
theorem dX4_at_5 : decode cX4_at 5 = .ok (.aload_n 0, 1) := by decide +kernel
theorem dX4_at_6 : decode cX4_at 6 = .ok (.getfield 40, 3) := by decide +kernel
theorem dX4_at_9 : decode cX4_at 9 = .ok (.iload_n 1, 1) := by decide +kernel
theorem dX4_at_10 : decode cX4_at 10 = .ok (.iaload, 1) := by decide +kernel
theorem dX4_at_11 : decode cX4_at 11 = .ok (.iload_n 2, 1) := by decide +kernel
theorem dX4_at_12 : decode cX4_at 12 = .ok (.iadd, 1) := by decide +kernel
theorem dX4_at_13 : decode cX4_at 13 = .ok (.sipush 910, 3) := by decide +kernel
theorem dX4_at_16 : decode cX4_at 16 = .ok (.irem, 1) := by decide +kernel
theorem dX4_at_17 : decode cX4_at 17 = .ok (.iadd, 1) := by decide +kernel
theorem dX4_at_18 : decode cX4_at 18 = .ok (.ireturn, 1) := by decide +kernel
theorem dX4_fire_0 : decode cX4_fire 0 = .ok (.iconst 0, 1) := by decide +kernel
theorem dX4_fire_1 : decode cX4_fire 1 = .ok (.istore_n 2, 1) := by decide +kernel
theorem dX4_fire_2 : decode cX4_fire 2 = .ok (.iconst 0, 1) := by decide +kernel
theorem dX4_fire_3 : decode cX4_fire 3 = .ok (.istore_n 3, 1) := by decide +kernel
theorem dX4_fire_4 : decode cX4_fire 4 = .ok (.aload_n 0, 1) := by decide +kernel
theorem dX4_fire_5 : decode cX4_fire 5 = .ok (.getfield 13, 3) := by decide +kernel
theorem dX4_fire_8 : decode cX4_fire 8 = .ok (.iload_n 1, 1) := by decide +kernel
theorem dX4_fire_9 : decode cX4_fire 9 = .ok (.iaload, 1) := by decide +kernel
theorem dX4_fire_10 : decode cX4_fire 10 = .ok (.istore 4, 2) := by decide +kernel
theorem dX4_fire_12 : decode cX4_fire 12 = .ok (.iconst 0, 1) := by decide +kernel
theorem dX4_fire_13 : decode cX4_fire 13 = .ok (.istore 5, 2) := by decide +kernel
theorem dX4_fire_15 : decode cX4_fire 15 = .ok (.iconst 0, 1) := by decide +kernel
theorem dX4_fire_16 : decode cX4_fire 16 = .ok (.istore 6, 2) := by decide +kernel
theorem dX4_fire_18 : decode cX4_fire 18 = .ok (.iload 6, 2) := by decide +kernel
theorem dX4_fire_20 : decode cX4_fire 20 = .ok (.aload_n 0, 1) := by decide +kernel
theorem dX4_fire_21 : decode cX4_fire 21 = .ok (.getfield 78, 3) := by decide +kernel
theorem dX4_fire_24 : decode cX4_fire 24 = .ok (.if_icmp .ge 134, 3) := by decide +kernel
theorem dX4_fire_27 : decode cX4_fire 27 = .ok (.aload_n 0, 1) := by decide +kernel
theorem dX4_fire_28 : decode cX4_fire 28 = .ok (.getfield 25, 3) := by decide +kernel
theorem dX4_fire_31 : decode cX4_fire 31 = .ok (.iload 6, 2) := by decide +kernel
theorem dX4_fire_33 : decode cX4_fire 33 = .ok (.iaload, 1) := by decide +kernel
theorem dX4_fire_34 : decode cX4_fire 34 = .ok (.iload_n 1, 1) := by decide +kernel
theorem dX4_fire_35 : decode cX4_fire 35 = .ok (.if_icmp .eq 6, 3) := by decide +kernel
theorem dX4_fire_38 : decode cX4_fire 38 = .ok (.goto 114, 3) := by decide +kernel
theorem dX4_fire_41 : decode cX4_fire 41 = .ok (.iconst 0, 1) := by decide +kernel
theorem dX4_fire_42 : decode cX4_fire 42 = .ok (.istore 7, 2) := by decide +kernel
theorem dX4_fire_44 : decode cX4_fire 44 = .ok (.iload 7, 2) := by decide +kernel
theorem dX4_fire_46 : decode cX4_fire 46 = .ok (.aload_n 0, 1) := by decide +kernel
theorem dX4_fire_47 : decode cX4_fire 47 = .ok (.getfield 31, 3) := by decide +kernel
theorem dX4_fire_50 : decode cX4_fire 50 = .ok (.iload 6, 2) := by decide +kernel
theorem dX4_fire_52 : decode cX4_fire 52 = .ok (.iaload, 1) := by decide +kernel
theorem dX4_fire_53 : decode cX4_fire 53 = .ok (.if_icmp .ge 56, 3) := by decide +kernel
theorem dX4_fire_56 : decode cX4_fire 56 = .ok (.aload_n 0, 1) := by decide +kernel
theorem dX4_fire_57 : decode cX4_fire 57 = .ok (.getfield 37, 3) := by decide +kernel
theorem dX4_fire_60 : decode cX4_fire 60 = .ok (.aload_n 0, 1) := by decide +kernel
theorem dX4_fire_61 : decode cX4_fire 61 = .ok (.iload 6, 2) := by decide +kernel
theorem dX4_fire_63 : decode cX4_fire 63 = .ok (.iload 7, 2) := by decide +kernel
theorem dX4_fire_65 : decode cX4_fire 65 = .ok (.invokevirtual 127, 3) := by decide +kernel
theorem dX4_fire_68 : decode cX4_fire 68 = .ok (.iaload, 1) := by decide +kernel
theorem dX4_fire_69 : decode cX4_fire 69 = .ok (.istore 8, 2) := by decide +kernel
theorem dX4_fire_71 : decode cX4_fire 71 = .ok (.iload_n 2, 1) := by decide +kernel
theorem dX4_fire_72 : decode cX4_fire 72 = .ok (.iload 8, 2) := by decide +kernel
theorem dX4_fire_74 : decode cX4_fire 74 = .ok (.iadd, 1) := by decide +kernel
theorem dX4_fire_75 : decode cX4_fire 75 = .ok (.istore_n 2, 1) := by decide +kernel
theorem dX4_fire_76 : decode cX4_fire 76 = .ok (.bipush 31, 2) := by decide +kernel
theorem dX4_fire_78 : decode cX4_fire 78 = .ok (.iload_n 3, 1) := by decide +kernel
theorem dX4_fire_79 : decode cX4_fire 79 = .ok (.imul, 1) := by decide +kernel
theorem dX4_fire_80 : decode cX4_fire 80 = .ok (.iload 8, 2) := by decide +kernel
theorem dX4_fire_82 : decode cX4_fire 82 = .ok (.iadd, 1) := by decide +kernel
theorem dX4_fire_83 : decode cX4_fire 83 = .ok (.istore_n 3, 1) := by decide +kernel
theorem dX4_fire_84 : decode cX4_fire 84 = .ok (.iload 5, 2) := by decide +kernel
theorem dX4_fire_86 : decode cX4_fire 86 = .ok (.ifCond .eq 10, 3) := by decide +kernel
theorem dX4_fire_89 : decode cX4_fire 89 = .ok (.iload 8, 2) := by decide +kernel
theorem dX4_fire_91 : decode cX4_fire 91 = .ok (.iload 4, 2) := by decide +kernel
theorem dX4_fire_93 : decode cX4_fire 93 = .ok (.if_icmp .le 7, 3) := by decide +kernel
theorem dX4_fire_96 : decode cX4_fire 96 = .ok (.iload 8, 2) := by decide +kernel
theorem dX4_fire_98 : decode cX4_fire 98 = .ok (.istore 4, 2) := by decide +kernel
theorem dX4_fire_100 : decode cX4_fire 100 = .ok (.iconst 1, 1) := by decide +kernel
theorem dX4_fire_101 : decode cX4_fire 101 = .ok (.istore 5, 2) := by decide +kernel
theorem dX4_fire_103 : decode cX4_fire 103 = .ok (.iinc 7 1, 3) := by decide +kernel
theorem dX4_fire_106 : decode cX4_fire 106 = .ok (.goto (-62), 3) := by decide +kernel
theorem dX4_fire_109 : decode cX4_fire 109 = .ok (.aload_n 0, 1) := by decide +kernel
theorem dX4_fire_110 : decode cX4_fire 110 = .ok (.getfield 40, 3) := by decide +kernel
theorem dX4_fire_113 : decode cX4_fire 113 = .ok (.iload 6, 2) := by decide +kernel
theorem dX4_fire_115 : decode cX4_fire 115 = .ok (.aload_n 0, 1) := by decide +kernel
theorem dX4_fire_116 : decode cX4_fire 116 = .ok (.getfield 40, 3) := by decide +kernel
theorem dX4_fire_119 : decode cX4_fire 119 = .ok (.iload 6, 2) := by decide +kernel
theorem dX4_fire_121 : decode cX4_fire 121 = .ok (.iaload, 1) := by decide +kernel
theorem dX4_fire_122 : decode cX4_fire 122 = .ok (.aload_n 0, 1) := by decide +kernel
theorem dX4_fire_123 : decode cX4_fire 123 = .ok (.getfield 31, 3) := by decide +kernel
theorem dX4_fire_126 : decode cX4_fire 126 = .ok (.iload 6, 2) := by decide +kernel
theorem dX4_fire_128 : decode cX4_fire 128 = .ok (.iaload, 1) := by decide +kernel
theorem dX4_fire_129 : decode cX4_fire 129 = .ok (.iadd, 1) := by decide +kernel
theorem dX4_fire_130 : decode cX4_fire 130 = .ok (.sipush 910, 3) := by decide +kernel
theorem dX4_fire_133 : decode cX4_fire 133 = .ok (.irem, 1) := by decide +kernel
theorem dX4_fire_134 : decode cX4_fire 134 = .ok (.iastore, 1) := by decide +kernel
theorem dX4_fire_135 : decode cX4_fire 135 = .ok (.aload_n 0, 1) := by decide +kernel
theorem dX4_fire_136 : decode cX4_fire 136 = .ok (.getfield 43, 3) := by decide +kernel
theorem dX4_fire_139 : decode cX4_fire 139 = .ok (.iload 6, 2) := by decide +kernel
theorem dX4_fire_141 : decode cX4_fire 141 = .ok (.dup2, 1) := by decide +kernel
theorem dX4_fire_142 : decode cX4_fire 142 = .ok (.iaload, 1) := by decide +kernel
theorem dX4_fire_143 : decode cX4_fire 143 = .ok (.aload_n 0, 1) := by decide +kernel
theorem dX4_fire_144 : decode cX4_fire 144 = .ok (.getfield 31, 3) := by decide +kernel
theorem dX4_fire_147 : decode cX4_fire 147 = .ok (.iload 6, 2) := by decide +kernel
theorem dX4_fire_149 : decode cX4_fire 149 = .ok (.iaload, 1) := by decide +kernel
theorem dX4_fire_150 : decode cX4_fire 150 = .ok (.isub, 1) := by decide +kernel
theorem dX4_fire_151 : decode cX4_fire 151 = .ok (.iastore, 1) := by decide +kernel
theorem dX4_fire_152 : decode cX4_fire 152 = .ok (.iinc 6 1, 3) := by decide +kernel
theorem dX4_fire_155 : decode cX4_fire 155 = .ok (.goto (-137), 3) := by decide +kernel
theorem dX4_fire_158 : decode cX4_fire 158 = .ok (.iconst 0, 1) := by decide +kernel
theorem dX4_fire_159 : decode cX4_fire 159 = .ok (.istore 6, 2) := by decide +kernel
theorem dX4_fire_161 : decode cX4_fire 161 = .ok (.aload_n 0, 1) := by decide +kernel
theorem dX4_fire_162 : decode cX4_fire 162 = .ok (.getfield 7, 3) := by decide +kernel
theorem dX4_fire_165 : decode cX4_fire 165 = .ok (.iload_n 1, 1) := by decide +kernel
theorem dX4_fire_166 : decode cX4_fire 166 = .ok (.iaload, 1) := by decide +kernel
theorem dX4_fire_167 : decode cX4_fire 167 = .ok (.tableswitch 108 0 4 #[33, 54, 67, 80, 101], 33) := by decide +kernel
theorem dX4_fire_200 : decode cX4_fire 200 = .ok (.aload_n 0, 1) := by decide +kernel
theorem dX4_fire_201 : decode cX4_fire 201 = .ok (.getfield 16, 3) := by decide +kernel
theorem dX4_fire_204 : decode cX4_fire 204 = .ok (.iload_n 1, 1) := by decide +kernel
theorem dX4_fire_205 : decode cX4_fire 205 = .ok (.iaload, 1) := by decide +kernel
theorem dX4_fire_206 : decode cX4_fire 206 = .ok (.istore 6, 2) := by decide +kernel
theorem dX4_fire_208 : decode cX4_fire 208 = .ok (.aload_n 0, 1) := by decide +kernel
theorem dX4_fire_209 : decode cX4_fire 209 = .ok (.getfield 16, 3) := by decide +kernel
theorem dX4_fire_212 : decode cX4_fire 212 = .ok (.iload_n 1, 1) := by decide +kernel
theorem dX4_fire_213 : decode cX4_fire 213 = .ok (.iload 6, 2) := by decide +kernel
theorem dX4_fire_215 : decode cX4_fire 215 = .ok (.iconst 1, 1) := by decide +kernel
theorem dX4_fire_216 : decode cX4_fire 216 = .ok (.iadd, 1) := by decide +kernel
theorem dX4_fire_217 : decode cX4_fire 217 = .ok (.iastore, 1) := by decide +kernel
theorem dX4_fire_218 : decode cX4_fire 218 = .ok (.goto 67, 3) := by decide +kernel
theorem dX4_fire_221 : decode cX4_fire 221 = .ok (.iload_n 2, 1) := by decide +kernel
theorem dX4_fire_222 : decode cX4_fire 222 = .ok (.aload_n 0, 1) := by decide +kernel
theorem dX4_fire_223 : decode cX4_fire 223 = .ok (.getfield 13, 3) := by decide +kernel
theorem dX4_fire_226 : decode cX4_fire 226 = .ok (.iload_n 1, 1) := by decide +kernel
theorem dX4_fire_227 : decode cX4_fire 227 = .ok (.iaload, 1) := by decide +kernel
theorem dX4_fire_228 : decode cX4_fire 228 = .ok (.iadd, 1) := by decide +kernel
theorem dX4_fire_229 : decode cX4_fire 229 = .ok (.istore 6, 2) := by decide +kernel
theorem dX4_fire_231 : decode cX4_fire 231 = .ok (.goto 54, 3) := by decide +kernel
theorem dX4_fire_234 : decode cX4_fire 234 = .ok (.iload_n 2, 1) := by decide +kernel
theorem dX4_fire_235 : decode cX4_fire 235 = .ok (.aload_n 0, 1) := by decide +kernel
theorem dX4_fire_236 : decode cX4_fire 236 = .ok (.getfield 13, 3) := by decide +kernel
theorem dX4_fire_239 : decode cX4_fire 239 = .ok (.iload_n 1, 1) := by decide +kernel
theorem dX4_fire_240 : decode cX4_fire 240 = .ok (.iaload, 1) := by decide +kernel
theorem dX4_fire_241 : decode cX4_fire 241 = .ok (.imul, 1) := by decide +kernel
theorem dX4_fire_242 : decode cX4_fire 242 = .ok (.istore 6, 2) := by decide +kernel
theorem dX4_fire_244 : decode cX4_fire 244 = .ok (.goto 41, 3) := by decide +kernel
theorem dX4_fire_247 : decode cX4_fire 247 = .ok (.aload_n 0, 1) := by decide +kernel
theorem dX4_fire_248 : decode cX4_fire 248 = .ok (.getfield 16, 3) := by decide +kernel
theorem dX4_fire_251 : decode cX4_fire 251 = .ok (.iload_n 1, 1) := by decide +kernel
theorem dX4_fire_252 : decode cX4_fire 252 = .ok (.iaload, 1) := by decide +kernel
theorem dX4_fire_253 : decode cX4_fire 253 = .ok (.iload_n 2, 1) := by decide +kernel
theorem dX4_fire_254 : decode cX4_fire 254 = .ok (.iadd, 1) := by decide +kernel
theorem dX4_fire_255 : decode cX4_fire 255 = .ok (.istore 6, 2) := by decide +kernel
theorem dX4_fire_257 : decode cX4_fire 257 = .ok (.aload_n 0, 1) := by decide +kernel
theorem dX4_fire_258 : decode cX4_fire 258 = .ok (.getfield 16, 3) := by decide +kernel
theorem dX4_fire_261 : decode cX4_fire 261 = .ok (.iload_n 1, 1) := by decide +kernel
theorem dX4_fire_262 : decode cX4_fire 262 = .ok (.iload 6, 2) := by decide +kernel
theorem dX4_fire_264 : decode cX4_fire 264 = .ok (.iastore, 1) := by decide +kernel
theorem dX4_fire_265 : decode cX4_fire 265 = .ok (.goto 20, 3) := by decide +kernel
theorem dX4_fire_268 : decode cX4_fire 268 = .ok (.iload 4, 2) := by decide +kernel
theorem dX4_fire_270 : decode cX4_fire 270 = .ok (.istore 6, 2) := by decide +kernel
theorem dX4_fire_272 : decode cX4_fire 272 = .ok (.goto 13, 3) := by decide +kernel
theorem dX4_fire_275 : decode cX4_fire 275 = .ok (.iload_n 3, 1) := by decide +kernel
theorem dX4_fire_276 : decode cX4_fire 276 = .ok (.aload_n 0, 1) := by decide +kernel
theorem dX4_fire_277 : decode cX4_fire 277 = .ok (.getfield 13, 3) := by decide +kernel
theorem dX4_fire_280 : decode cX4_fire 280 = .ok (.iload_n 1, 1) := by decide +kernel
theorem dX4_fire_281 : decode cX4_fire 281 = .ok (.iaload, 1) := by decide +kernel
theorem dX4_fire_282 : decode cX4_fire 282 = .ok (.iadd, 1) := by decide +kernel
theorem dX4_fire_283 : decode cX4_fire 283 = .ok (.istore 6, 2) := by decide +kernel
theorem dX4_fire_285 : decode cX4_fire 285 = .ok (.aload_n 0, 1) := by decide +kernel
theorem dX4_fire_286 : decode cX4_fire 286 = .ok (.getfield 19, 3) := by decide +kernel
theorem dX4_fire_289 : decode cX4_fire 289 = .ok (.iload_n 1, 1) := by decide +kernel
theorem dX4_fire_290 : decode cX4_fire 290 = .ok (.iload 6, 2) := by decide +kernel
theorem dX4_fire_292 : decode cX4_fire 292 = .ok (.iastore, 1) := by decide +kernel
theorem dX4_fire_293 : decode cX4_fire 293 = .ok (.iconst 0, 1) := by decide +kernel
theorem dX4_fire_294 : decode cX4_fire 294 = .ok (.istore 7, 2) := by decide +kernel
theorem dX4_fire_296 : decode cX4_fire 296 = .ok (.iload 7, 2) := by decide +kernel
theorem dX4_fire_298 : decode cX4_fire 298 = .ok (.aload_n 0, 1) := by decide +kernel
theorem dX4_fire_299 : decode cX4_fire 299 = .ok (.getfield 78, 3) := by decide +kernel
theorem dX4_fire_302 : decode cX4_fire 302 = .ok (.if_icmp .ge 87, 3) := by decide +kernel
theorem dX4_fire_305 : decode cX4_fire 305 = .ok (.aload_n 0, 1) := by decide +kernel
theorem dX4_fire_306 : decode cX4_fire 306 = .ok (.getfield 22, 3) := by decide +kernel
theorem dX4_fire_309 : decode cX4_fire 309 = .ok (.iload 7, 2) := by decide +kernel
theorem dX4_fire_311 : decode cX4_fire 311 = .ok (.iaload, 1) := by decide +kernel
theorem dX4_fire_312 : decode cX4_fire 312 = .ok (.iload_n 1, 1) := by decide +kernel
theorem dX4_fire_313 : decode cX4_fire 313 = .ok (.if_icmp .eq 6, 3) := by decide +kernel
theorem dX4_fire_316 : decode cX4_fire 316 = .ok (.goto 67, 3) := by decide +kernel
theorem dX4_fire_319 : decode cX4_fire 319 = .ok (.iconst 0, 1) := by decide +kernel
theorem dX4_fire_320 : decode cX4_fire 320 = .ok (.istore 8, 2) := by decide +kernel
theorem dX4_fire_322 : decode cX4_fire 322 = .ok (.iload 8, 2) := by decide +kernel
theorem dX4_fire_324 : decode cX4_fire 324 = .ok (.aload_n 0, 1) := by decide +kernel
theorem dX4_fire_325 : decode cX4_fire 325 = .ok (.getfield 28, 3) := by decide +kernel
theorem dX4_fire_328 : decode cX4_fire 328 = .ok (.iload 7, 2) := by decide +kernel
theorem dX4_fire_330 : decode cX4_fire 330 = .ok (.iaload, 1) := by decide +kernel
theorem dX4_fire_331 : decode cX4_fire 331 = .ok (.if_icmp .ge 35, 3) := by decide +kernel
theorem dX4_fire_334 : decode cX4_fire 334 = .ok (.aload_n 0, 1) := by decide +kernel
theorem dX4_fire_335 : decode cX4_fire 335 = .ok (.getfield 37, 3) := by decide +kernel
theorem dX4_fire_338 : decode cX4_fire 338 = .ok (.aload_n 0, 1) := by decide +kernel
theorem dX4_fire_339 : decode cX4_fire 339 = .ok (.iload 7, 2) := by decide +kernel
theorem dX4_fire_341 : decode cX4_fire 341 = .ok (.aload_n 0, 1) := by decide +kernel
theorem dX4_fire_342 : decode cX4_fire 342 = .ok (.getfield 43, 3) := by decide +kernel
theorem dX4_fire_345 : decode cX4_fire 345 = .ok (.iload 7, 2) := by decide +kernel
theorem dX4_fire_347 : decode cX4_fire 347 = .ok (.iaload, 1) := by decide +kernel
theorem dX4_fire_348 : decode cX4_fire 348 = .ok (.iload 8, 2) := by decide +kernel
theorem dX4_fire_350 : decode cX4_fire 350 = .ok (.iadd, 1) := by decide +kernel
theorem dX4_fire_351 : decode cX4_fire 351 = .ok (.invokevirtual 127, 3) := by decide +kernel
theorem dX4_fire_354 : decode cX4_fire 354 = .ok (.iload 6, 2) := by decide +kernel
theorem dX4_fire_356 : decode cX4_fire 356 = .ok (.iload 8, 2) := by decide +kernel
theorem dX4_fire_358 : decode cX4_fire 358 = .ok (.iadd, 1) := by decide +kernel
theorem dX4_fire_359 : decode cX4_fire 359 = .ok (.iastore, 1) := by decide +kernel
theorem dX4_fire_360 : decode cX4_fire 360 = .ok (.iinc 8 1, 3) := by decide +kernel
theorem dX4_fire_363 : decode cX4_fire 363 = .ok (.goto (-41), 3) := by decide +kernel
theorem dX4_fire_366 : decode cX4_fire 366 = .ok (.aload_n 0, 1) := by decide +kernel
theorem dX4_fire_367 : decode cX4_fire 367 = .ok (.getfield 43, 3) := by decide +kernel
theorem dX4_fire_370 : decode cX4_fire 370 = .ok (.iload 7, 2) := by decide +kernel
theorem dX4_fire_372 : decode cX4_fire 372 = .ok (.dup2, 1) := by decide +kernel
theorem dX4_fire_373 : decode cX4_fire 373 = .ok (.iaload, 1) := by decide +kernel
theorem dX4_fire_374 : decode cX4_fire 374 = .ok (.aload_n 0, 1) := by decide +kernel
theorem dX4_fire_375 : decode cX4_fire 375 = .ok (.getfield 28, 3) := by decide +kernel
theorem dX4_fire_378 : decode cX4_fire 378 = .ok (.iload 7, 2) := by decide +kernel
theorem dX4_fire_380 : decode cX4_fire 380 = .ok (.iaload, 1) := by decide +kernel
theorem dX4_fire_381 : decode cX4_fire 381 = .ok (.iadd, 1) := by decide +kernel
theorem dX4_fire_382 : decode cX4_fire 382 = .ok (.iastore, 1) := by decide +kernel
theorem dX4_fire_383 : decode cX4_fire 383 = .ok (.iinc 7 1, 3) := by decide +kernel
theorem dX4_fire_386 : decode cX4_fire 386 = .ok (.goto (-90), 3) := by decide +kernel
theorem dX4_fire_389 : decode cX4_fire 389 = .ok (.return_, 1) := by decide +kernel
theorem dX4_run_0 : decode cX4_run 0 = .ok (.aload_n 0, 1) := by decide +kernel
theorem dX4_run_1 : decode cX4_run 1 = .ok (.aload_n 0, 1) := by decide +kernel
theorem dX4_run_2 : decode cX4_run 2 = .ok (.getfield 81, 3) := by decide +kernel
theorem dX4_run_5 : decode cX4_run 5 = .ok (.ifCond .ne 7, 3) := by decide +kernel
theorem dX4_run_8 : decode cX4_run 8 = .ok (.iconst 1, 1) := by decide +kernel
theorem dX4_run_9 : decode cX4_run 9 = .ok (.goto 18, 3) := by decide +kernel
theorem dX4_run_12 : decode cX4_run 12 = .ok (.iload_n 1, 1) := by decide +kernel
theorem dX4_run_13 : decode cX4_run 13 = .ok (.iconst 1, 1) := by decide +kernel
theorem dX4_run_14 : decode cX4_run 14 = .ok (.bipush 20, 2) := by decide +kernel
theorem dX4_run_16 : decode cX4_run 16 = .ok (.invokestatic 87, 3) := by decide +kernel
theorem dX4_run_19 : decode cX4_run 19 = .ok (.ifCond .ne 7, 3) := by decide +kernel
theorem dX4_run_22 : decode cX4_run 22 = .ok (.iconst 2, 1) := by decide +kernel
theorem dX4_run_23 : decode cX4_run 23 = .ok (.goto 4, 3) := by decide +kernel
theorem dX4_run_26 : decode cX4_run 26 = .ok (.iconst 0, 1) := by decide +kernel
theorem dX4_run_27 : decode cX4_run 27 = .ok (.putfield 71, 3) := by decide +kernel
theorem dX4_run_30 : decode cX4_run 30 = .ok (.aload_n 0, 1) := by decide +kernel
theorem dX4_run_31 : decode cX4_run 31 = .ok (.getfield 71, 3) := by decide +kernel
theorem dX4_run_34 : decode cX4_run 34 = .ok (.ifCond .le 5, 3) := by decide +kernel
theorem dX4_run_37 : decode cX4_run 37 = .ok (.iconst 0, 1) := by decide +kernel
theorem dX4_run_38 : decode cX4_run 38 = .ok (.ireturn, 1) := by decide +kernel
theorem dX4_run_39 : decode cX4_run 39 = .ok (.iconst 0, 1) := by decide +kernel
theorem dX4_run_40 : decode cX4_run 40 = .ok (.istore_n 2, 1) := by decide +kernel
theorem dX4_run_41 : decode cX4_run 41 = .ok (.iload_n 2, 1) := by decide +kernel
theorem dX4_run_42 : decode cX4_run 42 = .ok (.iload_n 1, 1) := by decide +kernel
theorem dX4_run_43 : decode cX4_run 43 = .ok (.aload_n 0, 1) := by decide +kernel
theorem dX4_run_44 : decode cX4_run 44 = .ok (.getfield 81, 3) := by decide +kernel
theorem dX4_run_47 : decode cX4_run 47 = .ok (.imul, 1) := by decide +kernel
theorem dX4_run_48 : decode cX4_run 48 = .ok (.if_icmp .ge 24, 3) := by decide +kernel
theorem dX4_run_51 : decode cX4_run 51 = .ok (.aload_n 0, 1) := by decide +kernel
theorem dX4_run_52 : decode cX4_run 52 = .ok (.aload_n 0, 1) := by decide +kernel
theorem dX4_run_53 : decode cX4_run 53 = .ok (.getfield 46, 3) := by decide +kernel
theorem dX4_run_56 : decode cX4_run 56 = .ok (.iload_n 2, 1) := by decide +kernel
theorem dX4_run_57 : decode cX4_run 57 = .ok (.aload_n 0, 1) := by decide +kernel
theorem dX4_run_58 : decode cX4_run 58 = .ok (.getfield 81, 3) := by decide +kernel
theorem dX4_run_61 : decode cX4_run 61 = .ok (.irem, 1) := by decide +kernel
theorem dX4_run_62 : decode cX4_run 62 = .ok (.iaload, 1) := by decide +kernel
theorem dX4_run_63 : decode cX4_run 63 = .ok (.invokevirtual 131, 3) := by decide +kernel
theorem dX4_run_66 : decode cX4_run 66 = .ok (.iinc 2 1, 3) := by decide +kernel
theorem dX4_run_69 : decode cX4_run 69 = .ok (.goto (-28), 3) := by decide +kernel
theorem dX4_run_72 : decode cX4_run 72 = .ok (.iload_n 1, 1) := by decide +kernel
theorem dX4_run_73 : decode cX4_run 73 = .ok (.aload_n 0, 1) := by decide +kernel
theorem dX4_run_74 : decode cX4_run 74 = .ok (.getfield 81, 3) := by decide +kernel
theorem dX4_run_77 : decode cX4_run 77 = .ok (.imul, 1) := by decide +kernel
theorem dX4_run_78 : decode cX4_run 78 = .ok (.ireturn, 1) := by decide +kernel
theorem dX4_tokens_0 : decode cX4_tokens 0 = .ok (.aload_n 0, 1) := by decide +kernel
theorem dX4_tokens_1 : decode cX4_tokens 1 = .ok (.iconst 0, 1) := by decide +kernel
theorem dX4_tokens_2 : decode cX4_tokens 2 = .ok (.putfield 71, 3) := by decide +kernel
theorem dX4_tokens_5 : decode cX4_tokens 5 = .ok (.aload_n 0, 1) := by decide +kernel
theorem dX4_tokens_6 : decode cX4_tokens 6 = .ok (.iload_n 1, 1) := by decide +kernel
theorem dX4_tokens_7 : decode cX4_tokens 7 = .ok (.invokevirtual 98, 3) := by decide +kernel
theorem dX4_tokens_10 : decode cX4_tokens 10 = .ok (.ifCond .eq 12, 3) := by decide +kernel
theorem dX4_tokens_13 : decode cX4_tokens 13 = .ok (.aload_n 0, 1) := by decide +kernel
theorem dX4_tokens_14 : decode cX4_tokens 14 = .ok (.getfield 43, 3) := by decide +kernel
theorem dX4_tokens_17 : decode cX4_tokens 17 = .ok (.iload_n 1, 1) := by decide +kernel
theorem dX4_tokens_18 : decode cX4_tokens 18 = .ok (.iaload, 1) := by decide +kernel
theorem dX4_tokens_19 : decode cX4_tokens 19 = .ok (.goto 4, 3) := by decide +kernel
theorem dX4_tokens_22 : decode cX4_tokens 22 = .ok (.iconst (-1), 1) := by decide +kernel
theorem dX4_tokens_23 : decode cX4_tokens 23 = .ok (.ireturn, 1) := by decide +kernel
theorem dX4_token_0 : decode cX4_token 0 = .ok (.aload_n 0, 1) := by decide +kernel
theorem dX4_token_1 : decode cX4_token 1 = .ok (.iconst 0, 1) := by decide +kernel
theorem dX4_token_2 : decode cX4_token 2 = .ok (.putfield 71, 3) := by decide +kernel
theorem dX4_token_5 : decode cX4_token 5 = .ok (.aload_n 0, 1) := by decide +kernel
theorem dX4_token_6 : decode cX4_token 6 = .ok (.iload_n 1, 1) := by decide +kernel
theorem dX4_token_7 : decode cX4_token 7 = .ok (.invokevirtual 98, 3) := by decide +kernel
theorem dX4_token_10 : decode cX4_token 10 = .ok (.ifCond .eq 33, 3) := by decide +kernel
theorem dX4_token_13 : decode cX4_token 13 = .ok (.iload_n 2, 1) := by decide +kernel
theorem dX4_token_14 : decode cX4_token 14 = .ok (.iconst 0, 1) := by decide +kernel
theorem dX4_token_15 : decode cX4_token 15 = .ok (.aload_n 0, 1) := by decide +kernel
theorem dX4_token_16 : decode cX4_token 16 = .ok (.getfield 43, 3) := by decide +kernel
theorem dX4_token_19 : decode cX4_token 19 = .ok (.iload_n 1, 1) := by decide +kernel
theorem dX4_token_20 : decode cX4_token 20 = .ok (.iaload, 1) := by decide +kernel
theorem dX4_token_21 : decode cX4_token 21 = .ok (.iconst 1, 1) := by decide +kernel
theorem dX4_token_22 : decode cX4_token 22 = .ok (.isub, 1) := by decide +kernel
theorem dX4_token_23 : decode cX4_token 23 = .ok (.invokestatic 87, 3) := by decide +kernel
theorem dX4_token_26 : decode cX4_token 26 = .ok (.ifCond .eq 17, 3) := by decide +kernel
theorem dX4_token_29 : decode cX4_token 29 = .ok (.aload_n 0, 1) := by decide +kernel
theorem dX4_token_30 : decode cX4_token 30 = .ok (.getfield 37, 3) := by decide +kernel
theorem dX4_token_33 : decode cX4_token 33 = .ok (.aload_n 0, 1) := by decide +kernel
theorem dX4_token_34 : decode cX4_token 34 = .ok (.iload_n 1, 1) := by decide +kernel
theorem dX4_token_35 : decode cX4_token 35 = .ok (.iload_n 2, 1) := by decide +kernel
theorem dX4_token_36 : decode cX4_token 36 = .ok (.invokevirtual 127, 3) := by decide +kernel
theorem dX4_token_39 : decode cX4_token 39 = .ok (.iaload, 1) := by decide +kernel
theorem dX4_token_40 : decode cX4_token 40 = .ok (.goto 4, 3) := by decide +kernel
theorem dX4_token_43 : decode cX4_token 43 = .ok (.iconst 0, 1) := by decide +kernel
theorem dX4_token_44 : decode cX4_token 44 = .ok (.ireturn, 1) := by decide +kernel
theorem dX4_value_0 : decode cX4_value 0 = .ok (.aload_n 0, 1) := by decide +kernel
theorem dX4_value_1 : decode cX4_value 1 = .ok (.iconst 0, 1) := by decide +kernel
theorem dX4_value_2 : decode cX4_value 2 = .ok (.putfield 71, 3) := by decide +kernel
theorem dX4_value_5 : decode cX4_value 5 = .ok (.aload_n 0, 1) := by decide +kernel
theorem dX4_value_6 : decode cX4_value 6 = .ok (.iload_n 1, 1) := by decide +kernel
theorem dX4_value_7 : decode cX4_value 7 = .ok (.invokevirtual 94, 3) := by decide +kernel
theorem dX4_value_10 : decode cX4_value 10 = .ok (.ifCond .eq 12, 3) := by decide +kernel
theorem dX4_value_13 : decode cX4_value 13 = .ok (.aload_n 0, 1) := by decide +kernel
theorem dX4_value_14 : decode cX4_value 14 = .ok (.getfield 19, 3) := by decide +kernel
theorem dX4_value_17 : decode cX4_value 17 = .ok (.iload_n 1, 1) := by decide +kernel
theorem dX4_value_18 : decode cX4_value 18 = .ok (.iaload, 1) := by decide +kernel
theorem dX4_value_19 : decode cX4_value 19 = .ok (.goto 4, 3) := by decide +kernel
theorem dX4_value_22 : decode cX4_value 22 = .ok (.iconst 0, 1) := by decide +kernel
theorem dX4_value_23 : decode cX4_value 23 = .ok (.ireturn, 1) := by decide +kernel
theorem dX4_state_0 : decode cX4_state 0 = .ok (.aload_n 0, 1) := by decide +kernel
theorem dX4_state_1 : decode cX4_state 1 = .ok (.iconst 0, 1) := by decide +kernel
theorem dX4_state_2 : decode cX4_state 2 = .ok (.putfield 71, 3) := by decide +kernel
theorem dX4_state_5 : decode cX4_state 5 = .ok (.aload_n 0, 1) := by decide +kernel
theorem dX4_state_6 : decode cX4_state 6 = .ok (.iload_n 1, 1) := by decide +kernel
theorem dX4_state_7 : decode cX4_state 7 = .ok (.invokevirtual 94, 3) := by decide +kernel
theorem dX4_state_10 : decode cX4_state 10 = .ok (.ifCond .eq 12, 3) := by decide +kernel
theorem dX4_state_13 : decode cX4_state 13 = .ok (.aload_n 0, 1) := by decide +kernel
theorem dX4_state_14 : decode cX4_state 14 = .ok (.getfield 16, 3) := by decide +kernel
theorem dX4_state_17 : decode cX4_state 17 = .ok (.iload_n 1, 1) := by decide +kernel
theorem dX4_state_18 : decode cX4_state 18 = .ok (.iaload, 1) := by decide +kernel
theorem dX4_state_19 : decode cX4_state 19 = .ok (.goto 4, 3) := by decide +kernel
theorem dX4_state_22 : decode cX4_state 22 = .ok (.iconst 0, 1) := by decide +kernel
theorem dX4_state_23 : decode cX4_state 23 = .ok (.ireturn, 1) := by decide +kernel
theorem dL_plan_0 : decode cL_plan 0 = .ok (.aload_n 1, 1) := by decide +kernel
theorem dL_plan_1 : decode cL_plan 1 = .ok (.iconst 0, 1) := by decide +kernel
theorem dL_plan_2 : decode cL_plan 2 = .ok (.aload_n 0, 1) := by decide +kernel
theorem dL_plan_3 : decode cL_plan 3 = .ok (.invokevirtual 7, 3) := by decide +kernel
theorem dL_plan_6 : decode cL_plan 6 = .ok (.i2l, 1) := by decide +kernel
theorem dL_plan_7 : decode cL_plan 7 = .ok (.lastore, 1) := by decide +kernel
theorem dL_plan_8 : decode cL_plan 8 = .ok (.goto 15, 3) := by decide +kernel
theorem dL_plan_11 : decode cL_plan 11 = .ok (.astore_n 2, 1) := by decide +kernel
theorem dL_plan_12 : decode cL_plan 12 = .ok (.iconst 1, 1) := by decide +kernel
theorem dL_plan_13 : decode cL_plan 13 = .ok (.ireturn, 1) := by decide +kernel
theorem dL_plan_14 : decode cL_plan 14 = .ok (.astore_n 2, 1) := by decide +kernel
theorem dL_plan_15 : decode cL_plan 15 = .ok (.iconst 2, 1) := by decide +kernel
theorem dL_plan_16 : decode cL_plan 16 = .ok (.ireturn, 1) := by decide +kernel
theorem dL_plan_17 : decode cL_plan 17 = .ok (.astore_n 2, 1) := by decide +kernel
theorem dL_plan_18 : decode cL_plan 18 = .ok (.iconst 3, 1) := by decide +kernel
theorem dL_plan_19 : decode cL_plan 19 = .ok (.ireturn, 1) := by decide +kernel
theorem dL_plan_20 : decode cL_plan 20 = .ok (.astore_n 2, 1) := by decide +kernel
theorem dL_plan_21 : decode cL_plan 21 = .ok (.iconst 4, 1) := by decide +kernel
theorem dL_plan_22 : decode cL_plan 22 = .ok (.ireturn, 1) := by decide +kernel
theorem dL_plan_23 : decode cL_plan 23 = .ok (.iconst 0, 1) := by decide +kernel
theorem dL_plan_24 : decode cL_plan 24 = .ok (.ireturn, 1) := by decide +kernel
theorem dL_run_0 : decode cL_run 0 = .ok (.aload_n 2, 1) := by decide +kernel
theorem dL_run_1 : decode cL_run 1 = .ok (.iconst 0, 1) := by decide +kernel
theorem dL_run_2 : decode cL_run 2 = .ok (.aload_n 0, 1) := by decide +kernel
theorem dL_run_3 : decode cL_run 3 = .ok (.iload_n 1, 1) := by decide +kernel
theorem dL_run_4 : decode cL_run 4 = .ok (.invokevirtual 21, 3) := by decide +kernel
theorem dL_run_7 : decode cL_run 7 = .ok (.i2l, 1) := by decide +kernel
theorem dL_run_8 : decode cL_run 8 = .ok (.lastore, 1) := by decide +kernel
theorem dL_run_9 : decode cL_run 9 = .ok (.goto 9, 3) := by decide +kernel
theorem dL_run_12 : decode cL_run 12 = .ok (.astore_n 3, 1) := by decide +kernel
theorem dL_run_13 : decode cL_run 13 = .ok (.iconst 1, 1) := by decide +kernel
theorem dL_run_14 : decode cL_run 14 = .ok (.ireturn, 1) := by decide +kernel
theorem dL_run_15 : decode cL_run 15 = .ok (.astore_n 3, 1) := by decide +kernel
theorem dL_run_16 : decode cL_run 16 = .ok (.iconst 2, 1) := by decide +kernel
theorem dL_run_17 : decode cL_run 17 = .ok (.ireturn, 1) := by decide +kernel
theorem dL_run_18 : decode cL_run 18 = .ok (.iconst 0, 1) := by decide +kernel
theorem dL_run_19 : decode cL_run 19 = .ok (.ireturn, 1) := by decide +kernel
theorem dL_law_0 : decode cL_law 0 = .ok (.new 8, 3) := by decide +kernel
theorem dL_law_3 : decode cL_law 3 = .ok (.dup, 1) := by decide +kernel
theorem dL_law_4 : decode cL_law 4 = .ok (.invokespecial 27, 3) := by decide +kernel
theorem dL_law_7 : decode cL_law 7 = .ok (.astore_n 1, 1) := by decide +kernel
theorem dL_law_8 : decode cL_law 8 = .ok (.new 28, 3) := by decide +kernel
theorem dL_law_11 : decode cL_law 11 = .ok (.dup, 1) := by decide +kernel
theorem dL_law_12 : decode cL_law 12 = .ok (.invokespecial 30, 3) := by decide +kernel
theorem dL_law_15 : decode cL_law 15 = .ok (.astore_n 2, 1) := by decide +kernel
theorem dL_law_16 : decode cL_law 16 = .ok (.iconst 1, 1) := by decide +kernel
theorem dL_law_17 : decode cL_law 17 = .ok (.newarray .long, 2) := by decide +kernel
theorem dL_law_19 : decode cL_law 19 = .ok (.astore_n 3, 1) := by decide +kernel
theorem dL_law_20 : decode cL_law 20 = .ok (.iconst 0, 1) := by decide +kernel
theorem dL_law_21 : decode cL_law 21 = .ok (.istore 4, 2) := by decide +kernel
theorem dL_law_23 : decode cL_law 23 = .ok (.iload 4, 2) := by decide +kernel
theorem dL_law_25 : decode cL_law 25 = .ok (.aload_n 0, 1) := by decide +kernel
theorem dL_law_26 : decode cL_law 26 = .ok (.arraylength, 1) := by decide +kernel
theorem dL_law_27 : decode cL_law 27 = .ok (.bipush 6, 2) := by decide +kernel
theorem dL_law_29 : decode cL_law 29 = .ok (.isub, 1) := by decide +kernel
theorem dL_law_30 : decode cL_law 30 = .ok (.if_icmp .gt 595, 3) := by decide +kernel
theorem dL_law_33 : decode cL_law 33 = .ok (.aload_n 0, 1) := by decide +kernel
theorem dL_law_34 : decode cL_law 34 = .ok (.iload 4, 2) := by decide +kernel
theorem dL_law_36 : decode cL_law 36 = .ok (.iaload, 1) := by decide +kernel
theorem dL_law_37 : decode cL_law 37 = .ok (.bipush 31, 2) := by decide +kernel
theorem dL_law_39 : decode cL_law 39 = .ok (.iand, 1) := by decide +kernel
theorem dL_law_40 : decode cL_law 40 = .ok (.tableswitch 579 0 16 #[84, 121, 194, 231, 242, 253, 266, 279, 323, 336, 361, 386, 411, 467, 492, 529, 554], 84) := by decide +kernel
theorem dL_law_124 : decode cL_law 124 = .ok (.aload_n 1, 1) := by decide +kernel
theorem dL_law_125 : decode cL_law 125 = .ok (.aload_n 0, 1) := by decide +kernel
theorem dL_law_126 : decode cL_law 126 = .ok (.iload 4, 2) := by decide +kernel
theorem dL_law_128 : decode cL_law 128 = .ok (.iconst 1, 1) := by decide +kernel
theorem dL_law_129 : decode cL_law 129 = .ok (.iadd, 1) := by decide +kernel
theorem dL_law_130 : decode cL_law 130 = .ok (.iaload, 1) := by decide +kernel
theorem dL_law_131 : decode cL_law 131 = .ok (.aload_n 0, 1) := by decide +kernel
theorem dL_law_132 : decode cL_law 132 = .ok (.iload 4, 2) := by decide +kernel
theorem dL_law_134 : decode cL_law 134 = .ok (.iconst 2, 1) := by decide +kernel
theorem dL_law_135 : decode cL_law 135 = .ok (.iadd, 1) := by decide +kernel
theorem dL_law_136 : decode cL_law 136 = .ok (.iaload, 1) := by decide +kernel
theorem dL_law_137 : decode cL_law 137 = .ok (.invokevirtual 31, 3) := by decide +kernel
theorem dL_law_140 : decode cL_law 140 = .ok (.aload_n 2, 1) := by decide +kernel
theorem dL_law_141 : decode cL_law 141 = .ok (.aload_n 0, 1) := by decide +kernel
theorem dL_law_142 : decode cL_law 142 = .ok (.iload 4, 2) := by decide +kernel
theorem dL_law_144 : decode cL_law 144 = .ok (.iconst 1, 1) := by decide +kernel
theorem dL_law_145 : decode cL_law 145 = .ok (.iadd, 1) := by decide +kernel
theorem dL_law_146 : decode cL_law 146 = .ok (.iaload, 1) := by decide +kernel
theorem dL_law_147 : decode cL_law 147 = .ok (.aload_n 0, 1) := by decide +kernel
theorem dL_law_148 : decode cL_law 148 = .ok (.iload 4, 2) := by decide +kernel
theorem dL_law_150 : decode cL_law 150 = .ok (.iconst 2, 1) := by decide +kernel
theorem dL_law_151 : decode cL_law 151 = .ok (.iadd, 1) := by decide +kernel
theorem dL_law_152 : decode cL_law 152 = .ok (.iaload, 1) := by decide +kernel
theorem dL_law_153 : decode cL_law 153 = .ok (.invokevirtual 35, 3) := by decide +kernel
theorem dL_law_156 : decode cL_law 156 = .ok (.if_icmp .eq 463, 3) := by decide +kernel
theorem dL_law_159 : decode cL_law 159 = .ok (.iconst 0, 1) := by decide +kernel
theorem dL_law_160 : decode cL_law 160 = .ok (.ireturn, 1) := by decide +kernel
theorem dL_law_161 : decode cL_law 161 = .ok (.aload_n 1, 1) := by decide +kernel
theorem dL_law_162 : decode cL_law 162 = .ok (.aload_n 0, 1) := by decide +kernel
theorem dL_law_163 : decode cL_law 163 = .ok (.iload 4, 2) := by decide +kernel
theorem dL_law_165 : decode cL_law 165 = .ok (.iconst 1, 1) := by decide +kernel
theorem dL_law_166 : decode cL_law 166 = .ok (.iadd, 1) := by decide +kernel
theorem dL_law_167 : decode cL_law 167 = .ok (.iaload, 1) := by decide +kernel
theorem dL_law_168 : decode cL_law 168 = .ok (.aload_n 0, 1) := by decide +kernel
theorem dL_law_169 : decode cL_law 169 = .ok (.iload 4, 2) := by decide +kernel
theorem dL_law_171 : decode cL_law 171 = .ok (.iconst 2, 1) := by decide +kernel
theorem dL_law_172 : decode cL_law 172 = .ok (.iadd, 1) := by decide +kernel
theorem dL_law_173 : decode cL_law 173 = .ok (.iaload, 1) := by decide +kernel
theorem dL_law_174 : decode cL_law 174 = .ok (.aload_n 0, 1) := by decide +kernel
theorem dL_law_175 : decode cL_law 175 = .ok (.iload 4, 2) := by decide +kernel
theorem dL_law_177 : decode cL_law 177 = .ok (.iconst 3, 1) := by decide +kernel
theorem dL_law_178 : decode cL_law 178 = .ok (.iadd, 1) := by decide +kernel
theorem dL_law_179 : decode cL_law 179 = .ok (.iaload, 1) := by decide +kernel
theorem dL_law_180 : decode cL_law 180 = .ok (.aload_n 0, 1) := by decide +kernel
theorem dL_law_181 : decode cL_law 181 = .ok (.iload 4, 2) := by decide +kernel
theorem dL_law_183 : decode cL_law 183 = .ok (.iconst 4, 1) := by decide +kernel
theorem dL_law_184 : decode cL_law 184 = .ok (.iadd, 1) := by decide +kernel
theorem dL_law_185 : decode cL_law 185 = .ok (.iaload, 1) := by decide +kernel
theorem dL_law_186 : decode cL_law 186 = .ok (.aload_n 0, 1) := by decide +kernel
theorem dL_law_187 : decode cL_law 187 = .ok (.iload 4, 2) := by decide +kernel
theorem dL_law_189 : decode cL_law 189 = .ok (.iconst 5, 1) := by decide +kernel
theorem dL_law_190 : decode cL_law 190 = .ok (.iadd, 1) := by decide +kernel
theorem dL_law_191 : decode cL_law 191 = .ok (.iaload, 1) := by decide +kernel
theorem dL_law_192 : decode cL_law 192 = .ok (.invokevirtual 36, 3) := by decide +kernel
theorem dL_law_195 : decode cL_law 195 = .ok (.aload_n 2, 1) := by decide +kernel
theorem dL_law_196 : decode cL_law 196 = .ok (.aload_n 0, 1) := by decide +kernel
theorem dL_law_197 : decode cL_law 197 = .ok (.iload 4, 2) := by decide +kernel
theorem dL_law_199 : decode cL_law 199 = .ok (.iconst 1, 1) := by decide +kernel
theorem dL_law_200 : decode cL_law 200 = .ok (.iadd, 1) := by decide +kernel
theorem dL_law_201 : decode cL_law 201 = .ok (.iaload, 1) := by decide +kernel
theorem dL_law_202 : decode cL_law 202 = .ok (.aload_n 0, 1) := by decide +kernel
theorem dL_law_203 : decode cL_law 203 = .ok (.iload 4, 2) := by decide +kernel
theorem dL_law_205 : decode cL_law 205 = .ok (.iconst 2, 1) := by decide +kernel
theorem dL_law_206 : decode cL_law 206 = .ok (.iadd, 1) := by decide +kernel
theorem dL_law_207 : decode cL_law 207 = .ok (.iaload, 1) := by decide +kernel
theorem dL_law_208 : decode cL_law 208 = .ok (.aload_n 0, 1) := by decide +kernel
theorem dL_law_209 : decode cL_law 209 = .ok (.iload 4, 2) := by decide +kernel
theorem dL_law_211 : decode cL_law 211 = .ok (.iconst 3, 1) := by decide +kernel
theorem dL_law_212 : decode cL_law 212 = .ok (.iadd, 1) := by decide +kernel
theorem dL_law_213 : decode cL_law 213 = .ok (.iaload, 1) := by decide +kernel
theorem dL_law_214 : decode cL_law 214 = .ok (.aload_n 0, 1) := by decide +kernel
theorem dL_law_215 : decode cL_law 215 = .ok (.iload 4, 2) := by decide +kernel
theorem dL_law_217 : decode cL_law 217 = .ok (.iconst 4, 1) := by decide +kernel
theorem dL_law_218 : decode cL_law 218 = .ok (.iadd, 1) := by decide +kernel
theorem dL_law_219 : decode cL_law 219 = .ok (.iaload, 1) := by decide +kernel
theorem dL_law_220 : decode cL_law 220 = .ok (.aload_n 0, 1) := by decide +kernel
theorem dL_law_221 : decode cL_law 221 = .ok (.iload 4, 2) := by decide +kernel
theorem dL_law_223 : decode cL_law 223 = .ok (.iconst 5, 1) := by decide +kernel
theorem dL_law_224 : decode cL_law 224 = .ok (.iadd, 1) := by decide +kernel
theorem dL_law_225 : decode cL_law 225 = .ok (.iaload, 1) := by decide +kernel
theorem dL_law_226 : decode cL_law 226 = .ok (.invokevirtual 40, 3) := by decide +kernel
theorem dL_law_229 : decode cL_law 229 = .ok (.if_icmp .eq 390, 3) := by decide +kernel
theorem dL_law_232 : decode cL_law 232 = .ok (.iconst 0, 1) := by decide +kernel
theorem dL_law_233 : decode cL_law 233 = .ok (.ireturn, 1) := by decide +kernel
theorem dL_law_234 : decode cL_law 234 = .ok (.aload_n 1, 1) := by decide +kernel
theorem dL_law_235 : decode cL_law 235 = .ok (.aload_n 0, 1) := by decide +kernel
theorem dL_law_236 : decode cL_law 236 = .ok (.iload 4, 2) := by decide +kernel
theorem dL_law_238 : decode cL_law 238 = .ok (.iconst 1, 1) := by decide +kernel
theorem dL_law_239 : decode cL_law 239 = .ok (.iadd, 1) := by decide +kernel
theorem dL_law_240 : decode cL_law 240 = .ok (.iaload, 1) := by decide +kernel
theorem dL_law_241 : decode cL_law 241 = .ok (.aload_n 0, 1) := by decide +kernel
theorem dL_law_242 : decode cL_law 242 = .ok (.iload 4, 2) := by decide +kernel
theorem dL_law_244 : decode cL_law 244 = .ok (.iconst 2, 1) := by decide +kernel
theorem dL_law_245 : decode cL_law 245 = .ok (.iadd, 1) := by decide +kernel
theorem dL_law_246 : decode cL_law 246 = .ok (.iaload, 1) := by decide +kernel
theorem dL_law_247 : decode cL_law 247 = .ok (.invokevirtual 41, 3) := by decide +kernel
theorem dL_law_250 : decode cL_law 250 = .ok (.aload_n 2, 1) := by decide +kernel
theorem dL_law_251 : decode cL_law 251 = .ok (.aload_n 0, 1) := by decide +kernel
theorem dL_law_252 : decode cL_law 252 = .ok (.iload 4, 2) := by decide +kernel
theorem dL_law_254 : decode cL_law 254 = .ok (.iconst 1, 1) := by decide +kernel
theorem dL_law_255 : decode cL_law 255 = .ok (.iadd, 1) := by decide +kernel
theorem dL_law_256 : decode cL_law 256 = .ok (.iaload, 1) := by decide +kernel
theorem dL_law_257 : decode cL_law 257 = .ok (.aload_n 0, 1) := by decide +kernel
theorem dL_law_258 : decode cL_law 258 = .ok (.iload 4, 2) := by decide +kernel
theorem dL_law_260 : decode cL_law 260 = .ok (.iconst 2, 1) := by decide +kernel
theorem dL_law_261 : decode cL_law 261 = .ok (.iadd, 1) := by decide +kernel
theorem dL_law_262 : decode cL_law 262 = .ok (.iaload, 1) := by decide +kernel
theorem dL_law_263 : decode cL_law 263 = .ok (.invokevirtual 45, 3) := by decide +kernel
theorem dL_law_266 : decode cL_law 266 = .ok (.if_icmp .eq 353, 3) := by decide +kernel
theorem dL_law_269 : decode cL_law 269 = .ok (.iconst 0, 1) := by decide +kernel
theorem dL_law_270 : decode cL_law 270 = .ok (.ireturn, 1) := by decide +kernel
theorem dL_law_271 : decode cL_law 271 = .ok (.aload_n 1, 1) := by decide +kernel
theorem dL_law_272 : decode cL_law 272 = .ok (.invokevirtual 46, 3) := by decide +kernel
theorem dL_law_275 : decode cL_law 275 = .ok (.aload_n 2, 1) := by decide +kernel
theorem dL_law_276 : decode cL_law 276 = .ok (.invokevirtual 49, 3) := by decide +kernel
theorem dL_law_279 : decode cL_law 279 = .ok (.goto 340, 3) := by decide +kernel
theorem dL_law_282 : decode cL_law 282 = .ok (.aload_n 1, 1) := by decide +kernel
theorem dL_law_283 : decode cL_law 283 = .ok (.invokevirtual 50, 3) := by decide +kernel
theorem dL_law_286 : decode cL_law 286 = .ok (.aload_n 2, 1) := by decide +kernel
theorem dL_law_287 : decode cL_law 287 = .ok (.invokevirtual 53, 3) := by decide +kernel
theorem dL_law_290 : decode cL_law 290 = .ok (.goto 329, 3) := by decide +kernel
theorem dL_law_293 : decode cL_law 293 = .ok (.aload_n 1, 1) := by decide +kernel
theorem dL_law_294 : decode cL_law 294 = .ok (.invokevirtual 54, 3) := by decide +kernel
theorem dL_law_297 : decode cL_law 297 = .ok (.aload_n 2, 1) := by decide +kernel
theorem dL_law_298 : decode cL_law 298 = .ok (.invokevirtual 57, 3) := by decide +kernel
theorem dL_law_301 : decode cL_law 301 = .ok (.if_icmp .eq 318, 3) := by decide +kernel
theorem dL_law_304 : decode cL_law 304 = .ok (.iconst 0, 1) := by decide +kernel
theorem dL_law_305 : decode cL_law 305 = .ok (.ireturn, 1) := by decide +kernel
theorem dL_law_306 : decode cL_law 306 = .ok (.aload_n 1, 1) := by decide +kernel
theorem dL_law_307 : decode cL_law 307 = .ok (.invokevirtual 58, 3) := by decide +kernel
theorem dL_law_310 : decode cL_law 310 = .ok (.aload_n 2, 1) := by decide +kernel
theorem dL_law_311 : decode cL_law 311 = .ok (.invokevirtual 61, 3) := by decide +kernel
theorem dL_law_314 : decode cL_law 314 = .ok (.if_icmp .eq 305, 3) := by decide +kernel
theorem dL_law_317 : decode cL_law 317 = .ok (.iconst 0, 1) := by decide +kernel
theorem dL_law_318 : decode cL_law 318 = .ok (.ireturn, 1) := by decide +kernel
theorem dL_law_319 : decode cL_law 319 = .ok (.aload_n 1, 1) := by decide +kernel
theorem dL_law_320 : decode cL_law 320 = .ok (.aload_n 3, 1) := by decide +kernel
theorem dL_law_321 : decode cL_law 321 = .ok (.invokestatic 62, 3) := by decide +kernel
theorem dL_law_324 : decode cL_law 324 = .ok (.istore 5, 2) := by decide +kernel
theorem dL_law_326 : decode cL_law 326 = .ok (.aload_n 2, 1) := by decide +kernel
theorem dL_law_327 : decode cL_law 327 = .ok (.invokevirtual 67, 3) := by decide +kernel
theorem dL_law_330 : decode cL_law 330 = .ok (.istore 6, 2) := by decide +kernel
theorem dL_law_332 : decode cL_law 332 = .ok (.aload_n 2, 1) := by decide +kernel
theorem dL_law_333 : decode cL_law 333 = .ok (.invokevirtual 68, 3) := by decide +kernel
theorem dL_law_336 : decode cL_law 336 = .ok (.iload 5, 2) := by decide +kernel
theorem dL_law_338 : decode cL_law 338 = .ok (.if_icmp .eq 5, 3) := by decide +kernel
theorem dL_law_341 : decode cL_law 341 = .ok (.iconst 0, 1) := by decide +kernel
theorem dL_law_342 : decode cL_law 342 = .ok (.ireturn, 1) := by decide +kernel
theorem dL_law_343 : decode cL_law 343 = .ok (.iload 5, 2) := by decide +kernel
theorem dL_law_345 : decode cL_law 345 = .ok (.ifCond .ne 15, 3) := by decide +kernel
theorem dL_law_348 : decode cL_law 348 = .ok (.aload_n 3, 1) := by decide +kernel
theorem dL_law_349 : decode cL_law 349 = .ok (.iconst 0, 1) := by decide +kernel
theorem dL_law_350 : decode cL_law 350 = .ok (.laload, 1) := by decide +kernel
theorem dL_law_351 : decode cL_law 351 = .ok (.iload 6, 2) := by decide +kernel
theorem dL_law_353 : decode cL_law 353 = .ok (.i2l, 1) := by decide +kernel
theorem dL_law_354 : decode cL_law 354 = .ok (.lcmp, 1) := by decide +kernel
theorem dL_law_355 : decode cL_law 355 = .ok (.ifCond .eq 5, 3) := by decide +kernel
theorem dL_law_358 : decode cL_law 358 = .ok (.iconst 0, 1) := by decide +kernel
theorem dL_law_359 : decode cL_law 359 = .ok (.ireturn, 1) := by decide +kernel
theorem dL_law_360 : decode cL_law 360 = .ok (.goto 259, 3) := by decide +kernel
theorem dL_law_363 : decode cL_law 363 = .ok (.aload_n 1, 1) := by decide +kernel
theorem dL_law_364 : decode cL_law 364 = .ok (.invokevirtual 71, 3) := by decide +kernel
theorem dL_law_367 : decode cL_law 367 = .ok (.aload_n 2, 1) := by decide +kernel
theorem dL_law_368 : decode cL_law 368 = .ok (.invokevirtual 74, 3) := by decide +kernel
theorem dL_law_371 : decode cL_law 371 = .ok (.if_icmp .eq 248, 3) := by decide +kernel
theorem dL_law_374 : decode cL_law 374 = .ok (.iconst 0, 1) := by decide +kernel
theorem dL_law_375 : decode cL_law 375 = .ok (.ireturn, 1) := by decide +kernel
theorem dL_law_376 : decode cL_law 376 = .ok (.aload_n 1, 1) := by decide +kernel
theorem dL_law_377 : decode cL_law 377 = .ok (.aload_n 0, 1) := by decide +kernel
theorem dL_law_378 : decode cL_law 378 = .ok (.iload 4, 2) := by decide +kernel
theorem dL_law_380 : decode cL_law 380 = .ok (.iconst 1, 1) := by decide +kernel
theorem dL_law_381 : decode cL_law 381 = .ok (.iadd, 1) := by decide +kernel
theorem dL_law_382 : decode cL_law 382 = .ok (.iaload, 1) := by decide +kernel
theorem dL_law_383 : decode cL_law 383 = .ok (.invokevirtual 75, 3) := by decide +kernel
theorem dL_law_386 : decode cL_law 386 = .ok (.aload_n 2, 1) := by decide +kernel
theorem dL_law_387 : decode cL_law 387 = .ok (.aload_n 0, 1) := by decide +kernel
theorem dL_law_388 : decode cL_law 388 = .ok (.iload 4, 2) := by decide +kernel
theorem dL_law_390 : decode cL_law 390 = .ok (.iconst 1, 1) := by decide +kernel
theorem dL_law_391 : decode cL_law 391 = .ok (.iadd, 1) := by decide +kernel
theorem dL_law_392 : decode cL_law 392 = .ok (.iaload, 1) := by decide +kernel
theorem dL_law_393 : decode cL_law 393 = .ok (.invokevirtual 78, 3) := by decide +kernel
theorem dL_law_396 : decode cL_law 396 = .ok (.if_icmp .eq 223, 3) := by decide +kernel
theorem dL_law_399 : decode cL_law 399 = .ok (.iconst 0, 1) := by decide +kernel
theorem dL_law_400 : decode cL_law 400 = .ok (.ireturn, 1) := by decide +kernel
theorem dL_law_401 : decode cL_law 401 = .ok (.aload_n 1, 1) := by decide +kernel
theorem dL_law_402 : decode cL_law 402 = .ok (.aload_n 0, 1) := by decide +kernel
theorem dL_law_403 : decode cL_law 403 = .ok (.iload 4, 2) := by decide +kernel
theorem dL_law_405 : decode cL_law 405 = .ok (.iconst 1, 1) := by decide +kernel
theorem dL_law_406 : decode cL_law 406 = .ok (.iadd, 1) := by decide +kernel
theorem dL_law_407 : decode cL_law 407 = .ok (.iaload, 1) := by decide +kernel
theorem dL_law_408 : decode cL_law 408 = .ok (.invokevirtual 79, 3) := by decide +kernel
theorem dL_law_411 : decode cL_law 411 = .ok (.aload_n 2, 1) := by decide +kernel
theorem dL_law_412 : decode cL_law 412 = .ok (.aload_n 0, 1) := by decide +kernel
theorem dL_law_413 : decode cL_law 413 = .ok (.iload 4, 2) := by decide +kernel
theorem dL_law_415 : decode cL_law 415 = .ok (.iconst 1, 1) := by decide +kernel
theorem dL_law_416 : decode cL_law 416 = .ok (.iadd, 1) := by decide +kernel
theorem dL_law_417 : decode cL_law 417 = .ok (.iaload, 1) := by decide +kernel
theorem dL_law_418 : decode cL_law 418 = .ok (.invokevirtual 82, 3) := by decide +kernel
theorem dL_law_421 : decode cL_law 421 = .ok (.if_icmp .eq 198, 3) := by decide +kernel
theorem dL_law_424 : decode cL_law 424 = .ok (.iconst 0, 1) := by decide +kernel
theorem dL_law_425 : decode cL_law 425 = .ok (.ireturn, 1) := by decide +kernel
theorem dL_law_426 : decode cL_law 426 = .ok (.aload_n 1, 1) := by decide +kernel
theorem dL_law_427 : decode cL_law 427 = .ok (.aload_n 0, 1) := by decide +kernel
theorem dL_law_428 : decode cL_law 428 = .ok (.iload 4, 2) := by decide +kernel
theorem dL_law_430 : decode cL_law 430 = .ok (.iconst 1, 1) := by decide +kernel
theorem dL_law_431 : decode cL_law 431 = .ok (.iadd, 1) := by decide +kernel
theorem dL_law_432 : decode cL_law 432 = .ok (.iaload, 1) := by decide +kernel
theorem dL_law_433 : decode cL_law 433 = .ok (.invokevirtual 83, 3) := by decide +kernel
theorem dL_law_436 : decode cL_law 436 = .ok (.aload_n 2, 1) := by decide +kernel
theorem dL_law_437 : decode cL_law 437 = .ok (.aload_n 0, 1) := by decide +kernel
theorem dL_law_438 : decode cL_law 438 = .ok (.iload 4, 2) := by decide +kernel
theorem dL_law_440 : decode cL_law 440 = .ok (.iconst 1, 1) := by decide +kernel
theorem dL_law_441 : decode cL_law 441 = .ok (.iadd, 1) := by decide +kernel
theorem dL_law_442 : decode cL_law 442 = .ok (.iaload, 1) := by decide +kernel
theorem dL_law_443 : decode cL_law 443 = .ok (.invokevirtual 86, 3) := by decide +kernel
theorem dL_law_446 : decode cL_law 446 = .ok (.if_icmp .eq 173, 3) := by decide +kernel
theorem dL_law_449 : decode cL_law 449 = .ok (.iconst 0, 1) := by decide +kernel
theorem dL_law_450 : decode cL_law 450 = .ok (.ireturn, 1) := by decide +kernel
theorem dL_law_451 : decode cL_law 451 = .ok (.aload_n 1, 1) := by decide +kernel
theorem dL_law_452 : decode cL_law 452 = .ok (.aload_n 0, 1) := by decide +kernel
theorem dL_law_453 : decode cL_law 453 = .ok (.iload 4, 2) := by decide +kernel
theorem dL_law_455 : decode cL_law 455 = .ok (.iconst 1, 1) := by decide +kernel
theorem dL_law_456 : decode cL_law 456 = .ok (.iadd, 1) := by decide +kernel
theorem dL_law_457 : decode cL_law 457 = .ok (.iaload, 1) := by decide +kernel
theorem dL_law_458 : decode cL_law 458 = .ok (.aload_n 3, 1) := by decide +kernel
theorem dL_law_459 : decode cL_law 459 = .ok (.invokestatic 87, 3) := by decide +kernel
theorem dL_law_462 : decode cL_law 462 = .ok (.istore 5, 2) := by decide +kernel
theorem dL_law_464 : decode cL_law 464 = .ok (.aload_n 2, 1) := by decide +kernel
theorem dL_law_465 : decode cL_law 465 = .ok (.aload_n 0, 1) := by decide +kernel
theorem dL_law_466 : decode cL_law 466 = .ok (.iload 4, 2) := by decide +kernel
theorem dL_law_468 : decode cL_law 468 = .ok (.iconst 1, 1) := by decide +kernel
theorem dL_law_469 : decode cL_law 469 = .ok (.iadd, 1) := by decide +kernel
theorem dL_law_470 : decode cL_law 470 = .ok (.iaload, 1) := by decide +kernel
theorem dL_law_471 : decode cL_law 471 = .ok (.invokevirtual 90, 3) := by decide +kernel
theorem dL_law_474 : decode cL_law 474 = .ok (.istore 6, 2) := by decide +kernel
theorem dL_law_476 : decode cL_law 476 = .ok (.aload_n 2, 1) := by decide +kernel
theorem dL_law_477 : decode cL_law 477 = .ok (.invokevirtual 68, 3) := by decide +kernel
theorem dL_law_480 : decode cL_law 480 = .ok (.iload 5, 2) := by decide +kernel
theorem dL_law_482 : decode cL_law 482 = .ok (.if_icmp .eq 5, 3) := by decide +kernel
theorem dL_law_485 : decode cL_law 485 = .ok (.iconst 0, 1) := by decide +kernel
theorem dL_law_486 : decode cL_law 486 = .ok (.ireturn, 1) := by decide +kernel
theorem dL_law_487 : decode cL_law 487 = .ok (.iload 5, 2) := by decide +kernel
theorem dL_law_489 : decode cL_law 489 = .ok (.ifCond .ne 15, 3) := by decide +kernel
theorem dL_law_492 : decode cL_law 492 = .ok (.aload_n 3, 1) := by decide +kernel
theorem dL_law_493 : decode cL_law 493 = .ok (.iconst 0, 1) := by decide +kernel
theorem dL_law_494 : decode cL_law 494 = .ok (.laload, 1) := by decide +kernel
theorem dL_law_495 : decode cL_law 495 = .ok (.iload 6, 2) := by decide +kernel
theorem dL_law_497 : decode cL_law 497 = .ok (.i2l, 1) := by decide +kernel
theorem dL_law_498 : decode cL_law 498 = .ok (.lcmp, 1) := by decide +kernel
theorem dL_law_499 : decode cL_law 499 = .ok (.ifCond .eq 5, 3) := by decide +kernel
theorem dL_law_502 : decode cL_law 502 = .ok (.iconst 0, 1) := by decide +kernel
theorem dL_law_503 : decode cL_law 503 = .ok (.ireturn, 1) := by decide +kernel
theorem dL_law_504 : decode cL_law 504 = .ok (.goto 115, 3) := by decide +kernel
theorem dL_law_507 : decode cL_law 507 = .ok (.aload_n 1, 1) := by decide +kernel
theorem dL_law_508 : decode cL_law 508 = .ok (.aload_n 0, 1) := by decide +kernel
theorem dL_law_509 : decode cL_law 509 = .ok (.iload 4, 2) := by decide +kernel
theorem dL_law_511 : decode cL_law 511 = .ok (.iconst 1, 1) := by decide +kernel
theorem dL_law_512 : decode cL_law 512 = .ok (.iadd, 1) := by decide +kernel
theorem dL_law_513 : decode cL_law 513 = .ok (.iaload, 1) := by decide +kernel
theorem dL_law_514 : decode cL_law 514 = .ok (.invokevirtual 91, 3) := by decide +kernel
theorem dL_law_517 : decode cL_law 517 = .ok (.aload_n 2, 1) := by decide +kernel
theorem dL_law_518 : decode cL_law 518 = .ok (.aload_n 0, 1) := by decide +kernel
theorem dL_law_519 : decode cL_law 519 = .ok (.iload 4, 2) := by decide +kernel
theorem dL_law_521 : decode cL_law 521 = .ok (.iconst 1, 1) := by decide +kernel
theorem dL_law_522 : decode cL_law 522 = .ok (.iadd, 1) := by decide +kernel
theorem dL_law_523 : decode cL_law 523 = .ok (.iaload, 1) := by decide +kernel
theorem dL_law_524 : decode cL_law 524 = .ok (.invokevirtual 94, 3) := by decide +kernel
theorem dL_law_527 : decode cL_law 527 = .ok (.if_icmp .eq 92, 3) := by decide +kernel
theorem dL_law_530 : decode cL_law 530 = .ok (.iconst 0, 1) := by decide +kernel
theorem dL_law_531 : decode cL_law 531 = .ok (.ireturn, 1) := by decide +kernel
theorem dL_law_532 : decode cL_law 532 = .ok (.aload_n 1, 1) := by decide +kernel
theorem dL_law_533 : decode cL_law 533 = .ok (.aload_n 0, 1) := by decide +kernel
theorem dL_law_534 : decode cL_law 534 = .ok (.iload 4, 2) := by decide +kernel
theorem dL_law_536 : decode cL_law 536 = .ok (.iconst 1, 1) := by decide +kernel
theorem dL_law_537 : decode cL_law 537 = .ok (.iadd, 1) := by decide +kernel
theorem dL_law_538 : decode cL_law 538 = .ok (.iaload, 1) := by decide +kernel
theorem dL_law_539 : decode cL_law 539 = .ok (.aload_n 0, 1) := by decide +kernel
theorem dL_law_540 : decode cL_law 540 = .ok (.iload 4, 2) := by decide +kernel
theorem dL_law_542 : decode cL_law 542 = .ok (.iconst 2, 1) := by decide +kernel
theorem dL_law_543 : decode cL_law 543 = .ok (.iadd, 1) := by decide +kernel
theorem dL_law_544 : decode cL_law 544 = .ok (.iaload, 1) := by decide +kernel
theorem dL_law_545 : decode cL_law 545 = .ok (.invokevirtual 95, 3) := by decide +kernel
theorem dL_law_548 : decode cL_law 548 = .ok (.aload_n 2, 1) := by decide +kernel
theorem dL_law_549 : decode cL_law 549 = .ok (.aload_n 0, 1) := by decide +kernel
theorem dL_law_550 : decode cL_law 550 = .ok (.iload 4, 2) := by decide +kernel
theorem dL_law_552 : decode cL_law 552 = .ok (.iconst 1, 1) := by decide +kernel
theorem dL_law_553 : decode cL_law 553 = .ok (.iadd, 1) := by decide +kernel
theorem dL_law_554 : decode cL_law 554 = .ok (.iaload, 1) := by decide +kernel
theorem dL_law_555 : decode cL_law 555 = .ok (.aload_n 0, 1) := by decide +kernel
theorem dL_law_556 : decode cL_law 556 = .ok (.iload 4, 2) := by decide +kernel
theorem dL_law_558 : decode cL_law 558 = .ok (.iconst 2, 1) := by decide +kernel
theorem dL_law_559 : decode cL_law 559 = .ok (.iadd, 1) := by decide +kernel
theorem dL_law_560 : decode cL_law 560 = .ok (.iaload, 1) := by decide +kernel
theorem dL_law_561 : decode cL_law 561 = .ok (.invokevirtual 98, 3) := by decide +kernel
theorem dL_law_564 : decode cL_law 564 = .ok (.if_icmp .eq 55, 3) := by decide +kernel
theorem dL_law_567 : decode cL_law 567 = .ok (.iconst 0, 1) := by decide +kernel
theorem dL_law_568 : decode cL_law 568 = .ok (.ireturn, 1) := by decide +kernel
theorem dL_law_569 : decode cL_law 569 = .ok (.aload_n 1, 1) := by decide +kernel
theorem dL_law_570 : decode cL_law 570 = .ok (.aload_n 0, 1) := by decide +kernel
theorem dL_law_571 : decode cL_law 571 = .ok (.iload 4, 2) := by decide +kernel
theorem dL_law_573 : decode cL_law 573 = .ok (.iconst 1, 1) := by decide +kernel
theorem dL_law_574 : decode cL_law 574 = .ok (.iadd, 1) := by decide +kernel
theorem dL_law_575 : decode cL_law 575 = .ok (.iaload, 1) := by decide +kernel
theorem dL_law_576 : decode cL_law 576 = .ok (.invokevirtual 99, 3) := by decide +kernel
theorem dL_law_579 : decode cL_law 579 = .ok (.aload_n 2, 1) := by decide +kernel
theorem dL_law_580 : decode cL_law 580 = .ok (.aload_n 0, 1) := by decide +kernel
theorem dL_law_581 : decode cL_law 581 = .ok (.iload 4, 2) := by decide +kernel
theorem dL_law_583 : decode cL_law 583 = .ok (.iconst 1, 1) := by decide +kernel
theorem dL_law_584 : decode cL_law 584 = .ok (.iadd, 1) := by decide +kernel
theorem dL_law_585 : decode cL_law 585 = .ok (.iaload, 1) := by decide +kernel
theorem dL_law_586 : decode cL_law 586 = .ok (.invokevirtual 102, 3) := by decide +kernel
theorem dL_law_589 : decode cL_law 589 = .ok (.if_icmp .eq 30, 3) := by decide +kernel
theorem dL_law_592 : decode cL_law 592 = .ok (.iconst 0, 1) := by decide +kernel
theorem dL_law_593 : decode cL_law 593 = .ok (.ireturn, 1) := by decide +kernel
theorem dL_law_594 : decode cL_law 594 = .ok (.aload_n 1, 1) := by decide +kernel
theorem dL_law_595 : decode cL_law 595 = .ok (.aload_n 0, 1) := by decide +kernel
theorem dL_law_596 : decode cL_law 596 = .ok (.iload 4, 2) := by decide +kernel
theorem dL_law_598 : decode cL_law 598 = .ok (.iconst 1, 1) := by decide +kernel
theorem dL_law_599 : decode cL_law 599 = .ok (.iadd, 1) := by decide +kernel
theorem dL_law_600 : decode cL_law 600 = .ok (.iaload, 1) := by decide +kernel
theorem dL_law_601 : decode cL_law 601 = .ok (.invokevirtual 103, 3) := by decide +kernel
theorem dL_law_604 : decode cL_law 604 = .ok (.aload_n 2, 1) := by decide +kernel
theorem dL_law_605 : decode cL_law 605 = .ok (.aload_n 0, 1) := by decide +kernel
theorem dL_law_606 : decode cL_law 606 = .ok (.iload 4, 2) := by decide +kernel
theorem dL_law_608 : decode cL_law 608 = .ok (.iconst 1, 1) := by decide +kernel
theorem dL_law_609 : decode cL_law 609 = .ok (.iadd, 1) := by decide +kernel
theorem dL_law_610 : decode cL_law 610 = .ok (.iaload, 1) := by decide +kernel
theorem dL_law_611 : decode cL_law 611 = .ok (.invokevirtual 106, 3) := by decide +kernel
theorem dL_law_614 : decode cL_law 614 = .ok (.if_icmp .eq 5, 3) := by decide +kernel
theorem dL_law_617 : decode cL_law 617 = .ok (.iconst 0, 1) := by decide +kernel
theorem dL_law_618 : decode cL_law 618 = .ok (.ireturn, 1) := by decide +kernel
theorem dL_law_619 : decode cL_law 619 = .ok (.iinc 4 6, 3) := by decide +kernel
theorem dL_law_622 : decode cL_law 622 = .ok (.goto (-599), 3) := by decide +kernel
theorem dL_law_625 : decode cL_law 625 = .ok (.iconst 1, 1) := by decide +kernel
theorem dL_law_626 : decode cL_law 626 = .ok (.ireturn, 1) := by decide +kernel
