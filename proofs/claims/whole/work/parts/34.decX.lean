theorem d_X_init_0 : decode tb_X_init 0 = .ok (.aload_n 0, 1) := by decide +kernel
theorem d_X_init_1 : decode tb_X_init 1 = .ok (.invokespecial 1, 3) := by decide +kernel
theorem d_X_init_4 : decode tb_X_init 4 = .ok (.aload_n 0, 1) := by decide +kernel
theorem d_X_init_5 : decode tb_X_init 5 = .ok (.bipush 7, 2) := by decide +kernel
theorem d_X_init_7 : decode tb_X_init 7 = .ok (.anewarray 9, 3) := by decide +kernel
theorem d_X_init_10 : decode tb_X_init 10 = .ok (.putfield 11, 3) := by decide +kernel
theorem d_X_init_13 : decode tb_X_init 13 = .ok (.aload_n 0, 1) := by decide +kernel
theorem d_X_init_14 : decode tb_X_init 14 = .ok (.bipush 7, 2) := by decide +kernel
theorem d_X_init_16 : decode tb_X_init 16 = .ok (.bipush 7, 2) := by decide +kernel
theorem d_X_init_18 : decode tb_X_init 18 = .ok (.multianewarray 15 2, 4) := by decide +kernel
theorem d_X_init_22 : decode tb_X_init 22 = .ok (.putfield 17, 3) := by decide +kernel
theorem d_X_init_25 : decode tb_X_init 25 = .ok (.aload_n 0, 1) := by decide +kernel
theorem d_X_init_26 : decode tb_X_init 26 = .ok (.iload_n 1, 1) := by decide +kernel
theorem d_X_init_27 : decode tb_X_init 27 = .ok (.putfield 20, 3) := by decide +kernel
theorem d_X_init_30 : decode tb_X_init 30 = .ok (.aload_n 0, 1) := by decide +kernel
theorem d_X_init_31 : decode tb_X_init 31 = .ok (.iconst 0, 1) := by decide +kernel
theorem d_X_init_32 : decode tb_X_init 32 = .ok (.sipush 200, 3) := by decide +kernel
theorem d_X_init_35 : decode tb_X_init 35 = .ok (.iload_n 2, 1) := by decide +kernel
theorem d_X_init_36 : decode tb_X_init 36 = .ok (.invokestatic 24, 3) := by decide +kernel
theorem d_X_init_39 : decode tb_X_init 39 = .ok (.invokestatic 30, 3) := by decide +kernel
theorem d_X_init_42 : decode tb_X_init 42 = .ok (.putfield 33, 3) := by decide +kernel
theorem d_X_init_45 : decode tb_X_init 45 = .ok (.aload_n 0, 1) := by decide +kernel
theorem d_X_init_46 : decode tb_X_init 46 = .ok (.iconst 1, 1) := by decide +kernel
theorem d_X_init_47 : decode tb_X_init 47 = .ok (.bipush 9, 2) := by decide +kernel
theorem d_X_init_49 : decode tb_X_init 49 = .ok (.iload_n 3, 1) := by decide +kernel
theorem d_X_init_50 : decode tb_X_init 50 = .ok (.invokestatic 24, 3) := by decide +kernel
theorem d_X_init_53 : decode tb_X_init 53 = .ok (.invokestatic 30, 3) := by decide +kernel
theorem d_X_init_56 : decode tb_X_init 56 = .ok (.putfield 36, 3) := by decide +kernel
theorem d_X_init_59 : decode tb_X_init 59 = .ok (.iconst 0, 1) := by decide +kernel
theorem d_X_init_60 : decode tb_X_init 60 = .ok (.istore 4, 2) := by decide +kernel
theorem d_X_init_62 : decode tb_X_init 62 = .ok (.iload 4, 2) := by decide +kernel
theorem d_X_init_64 : decode tb_X_init 64 = .ok (.bipush 7, 2) := by decide +kernel
theorem d_X_init_66 : decode tb_X_init 66 = .ok (.if_icmp .ge 25, 3) := by decide +kernel
theorem d_X_init_69 : decode tb_X_init 69 = .ok (.aload_n 0, 1) := by decide +kernel
theorem d_X_init_70 : decode tb_X_init 70 = .ok (.getfield 11, 3) := by decide +kernel
theorem d_X_init_73 : decode tb_X_init 73 = .ok (.iload 4, 2) := by decide +kernel
theorem d_X_init_75 : decode tb_X_init 75 = .ok (.new 9, 3) := by decide +kernel
theorem d_X_init_78 : decode tb_X_init 78 = .ok (.dup, 1) := by decide +kernel
theorem d_X_init_79 : decode tb_X_init 79 = .ok (.iload 4, 2) := by decide +kernel
theorem d_X_init_81 : decode tb_X_init 81 = .ok (.invokespecial 39, 3) := by decide +kernel
theorem d_X_init_84 : decode tb_X_init 84 = .ok (.aastore, 1) := by decide +kernel
theorem d_X_init_85 : decode tb_X_init 85 = .ok (.iinc 4 1, 3) := by decide +kernel
theorem d_X_init_88 : decode tb_X_init 88 = .ok (.goto (-26), 3) := by decide +kernel
theorem d_X_init_91 : decode tb_X_init 91 = .ok (.aload_n 0, 1) := by decide +kernel
theorem d_X_init_92 : decode tb_X_init 92 = .ok (.getfield 11, 3) := by decide +kernel
theorem d_X_init_95 : decode tb_X_init 95 = .ok (.iconst 0, 1) := by decide +kernel
theorem d_X_init_96 : decode tb_X_init 96 = .ok (.aaload, 1) := by decide +kernel
theorem d_X_init_97 : decode tb_X_init 97 = .ok (.astore 4, 2) := by decide +kernel
theorem d_X_init_99 : decode tb_X_init 99 = .ok (.aload 4, 2) := by decide +kernel
theorem d_X_init_101 : decode tb_X_init 101 = .ok (.iconst 1, 1) := by decide +kernel
theorem d_X_init_102 : decode tb_X_init 102 = .ok (.putfield 42, 3) := by decide +kernel
theorem d_X_init_105 : decode tb_X_init 105 = .ok (.aload 4, 2) := by decide +kernel
theorem d_X_init_107 : decode tb_X_init 107 = .ok (.iconst 1, 1) := by decide +kernel
theorem d_X_init_108 : decode tb_X_init 108 = .ok (.putfield 45, 3) := by decide +kernel
theorem d_X_init_111 : decode tb_X_init 111 = .ok (.aload 4, 2) := by decide +kernel
theorem d_X_init_113 : decode tb_X_init 113 = .ok (.getfield 48, 3) := by decide +kernel
theorem d_X_init_116 : decode tb_X_init 116 = .ok (.iconst 1, 1) := by decide +kernel
theorem d_X_init_117 : decode tb_X_init 117 = .ok (.putfield 52, 3) := by decide +kernel
theorem d_X_init_120 : decode tb_X_init 120 = .ok (.aload_n 0, 1) := by decide +kernel
theorem d_X_init_121 : decode tb_X_init 121 = .ok (.aload 4, 2) := by decide +kernel
theorem d_X_init_123 : decode tb_X_init 123 = .ok (.invokevirtual 58, 3) := by decide +kernel
theorem d_X_init_126 : decode tb_X_init 126 = .ok (.return_, 1) := by decide +kernel
theorem d_X_link_0 : decode tb_X_link 0 = .ok (.iload_n 1, 1) := by decide +kernel
theorem d_X_link_1 : decode tb_X_link 1 = .ok (.invokestatic 62, 3) := by decide +kernel
theorem d_X_link_4 : decode tb_X_link 4 = .ok (.ifCond .eq 25, 3) := by decide +kernel
theorem d_X_link_7 : decode tb_X_link 7 = .ok (.iload_n 2, 1) := by decide +kernel
theorem d_X_link_8 : decode tb_X_link 8 = .ok (.invokestatic 62, 3) := by decide +kernel
theorem d_X_link_11 : decode tb_X_link 11 = .ok (.ifCond .eq 18, 3) := by decide +kernel
theorem d_X_link_14 : decode tb_X_link 14 = .ok (.iload_n 1, 1) := by decide +kernel
theorem d_X_link_15 : decode tb_X_link 15 = .ok (.iload_n 2, 1) := by decide +kernel
theorem d_X_link_16 : decode tb_X_link 16 = .ok (.if_icmp .eq 13, 3) := by decide +kernel
theorem d_X_link_19 : decode tb_X_link 19 = .ok (.iload_n 3, 1) := by decide +kernel
theorem d_X_link_20 : decode tb_X_link 20 = .ok (.ifCond .lt 9, 3) := by decide +kernel
theorem d_X_link_23 : decode tb_X_link 23 = .ok (.iload_n 3, 1) := by decide +kernel
theorem d_X_link_24 : decode tb_X_link 24 = .ok (.bipush 9, 2) := by decide +kernel
theorem d_X_link_26 : decode tb_X_link 26 = .ok (.if_icmp .le 5, 3) := by decide +kernel
theorem d_X_link_29 : decode tb_X_link 29 = .ok (.iconst 0, 1) := by decide +kernel
theorem d_X_link_30 : decode tb_X_link 30 = .ok (.ireturn, 1) := by decide +kernel
theorem d_X_link_31 : decode tb_X_link 31 = .ok (.aload_n 0, 1) := by decide +kernel
theorem d_X_link_32 : decode tb_X_link 32 = .ok (.getfield 17, 3) := by decide +kernel
theorem d_X_link_35 : decode tb_X_link 35 = .ok (.iload_n 1, 1) := by decide +kernel
theorem d_X_link_36 : decode tb_X_link 36 = .ok (.aaload, 1) := by decide +kernel
theorem d_X_link_37 : decode tb_X_link 37 = .ok (.iload_n 2, 1) := by decide +kernel
theorem d_X_link_38 : decode tb_X_link 38 = .ok (.iload_n 3, 1) := by decide +kernel
theorem d_X_link_39 : decode tb_X_link 39 = .ok (.iastore, 1) := by decide +kernel
theorem d_X_link_40 : decode tb_X_link 40 = .ok (.aload_n 0, 1) := by decide +kernel
theorem d_X_link_41 : decode tb_X_link 41 = .ok (.getfield 17, 3) := by decide +kernel
theorem d_X_link_44 : decode tb_X_link 44 = .ok (.iload_n 2, 1) := by decide +kernel
theorem d_X_link_45 : decode tb_X_link 45 = .ok (.aaload, 1) := by decide +kernel
theorem d_X_link_46 : decode tb_X_link 46 = .ok (.iload_n 1, 1) := by decide +kernel
theorem d_X_link_47 : decode tb_X_link 47 = .ok (.iload_n 3, 1) := by decide +kernel
theorem d_X_link_48 : decode tb_X_link 48 = .ok (.iastore, 1) := by decide +kernel
theorem d_X_link_49 : decode tb_X_link 49 = .ok (.iconst 1, 1) := by decide +kernel
theorem d_X_link_50 : decode tb_X_link 50 = .ok (.ireturn, 1) := by decide +kernel
theorem d_X_kill_0 : decode tb_X_kill 0 = .ok (.iload_n 1, 1) := by decide +kernel
theorem d_X_kill_1 : decode tb_X_kill 1 = .ok (.invokestatic 62, 3) := by decide +kernel
theorem d_X_kill_4 : decode tb_X_kill 4 = .ok (.ifCond .eq 19, 3) := by decide +kernel
theorem d_X_kill_7 : decode tb_X_kill 7 = .ok (.iload_n 1, 1) := by decide +kernel
theorem d_X_kill_8 : decode tb_X_kill 8 = .ok (.ifCond .eq 15, 3) := by decide +kernel
theorem d_X_kill_11 : decode tb_X_kill 11 = .ok (.aload_n 0, 1) := by decide +kernel
theorem d_X_kill_12 : decode tb_X_kill 12 = .ok (.getfield 11, 3) := by decide +kernel
theorem d_X_kill_15 : decode tb_X_kill 15 = .ok (.iload_n 1, 1) := by decide +kernel
theorem d_X_kill_16 : decode tb_X_kill 16 = .ok (.aaload, 1) := by decide +kernel
theorem d_X_kill_17 : decode tb_X_kill 17 = .ok (.getfield 66, 3) := by decide +kernel
theorem d_X_kill_20 : decode tb_X_kill 20 = .ok (.ifCond .ne 5, 3) := by decide +kernel
theorem d_X_kill_23 : decode tb_X_kill 23 = .ok (.iconst 0, 1) := by decide +kernel
theorem d_X_kill_24 : decode tb_X_kill 24 = .ok (.ireturn, 1) := by decide +kernel
theorem d_X_kill_25 : decode tb_X_kill 25 = .ok (.aload_n 0, 1) := by decide +kernel
theorem d_X_kill_26 : decode tb_X_kill 26 = .ok (.getfield 11, 3) := by decide +kernel
theorem d_X_kill_29 : decode tb_X_kill 29 = .ok (.iload_n 1, 1) := by decide +kernel
theorem d_X_kill_30 : decode tb_X_kill 30 = .ok (.aaload, 1) := by decide +kernel
theorem d_X_kill_31 : decode tb_X_kill 31 = .ok (.iconst 0, 1) := by decide +kernel
theorem d_X_kill_32 : decode tb_X_kill 32 = .ok (.putfield 66, 3) := by decide +kernel
theorem d_X_kill_35 : decode tb_X_kill 35 = .ok (.aload_n 0, 1) := by decide +kernel
theorem d_X_kill_36 : decode tb_X_kill 36 = .ok (.getfield 11, 3) := by decide +kernel
theorem d_X_kill_39 : decode tb_X_kill 39 = .ok (.iload_n 1, 1) := by decide +kernel
theorem d_X_kill_40 : decode tb_X_kill 40 = .ok (.aaload, 1) := by decide +kernel
theorem d_X_kill_41 : decode tb_X_kill 41 = .ok (.getfield 69, 3) := by decide +kernel
theorem d_X_kill_44 : decode tb_X_kill 44 = .ok (.astore_n 2, 1) := by decide +kernel
theorem d_X_kill_45 : decode tb_X_kill 45 = .ok (.aload_n 2, 1) := by decide +kernel
theorem d_X_kill_46 : decode tb_X_kill 46 = .ok (.iconst 0, 1) := by decide +kernel
theorem d_X_kill_47 : decode tb_X_kill 47 = .ok (.putfield 73, 3) := by decide +kernel
theorem d_X_kill_50 : decode tb_X_kill 50 = .ok (.aload_n 2, 1) := by decide +kernel
theorem d_X_kill_51 : decode tb_X_kill 51 = .ok (.iconst (-1), 1) := by decide +kernel
theorem d_X_kill_52 : decode tb_X_kill 52 = .ok (.putfield 78, 3) := by decide +kernel
theorem d_X_kill_55 : decode tb_X_kill 55 = .ok (.aload_n 2, 1) := by decide +kernel
theorem d_X_kill_56 : decode tb_X_kill 56 = .ok (.iconst 0, 1) := by decide +kernel
theorem d_X_kill_57 : decode tb_X_kill 57 = .ok (.putfield 81, 3) := by decide +kernel
theorem d_X_kill_60 : decode tb_X_kill 60 = .ok (.iconst 1, 1) := by decide +kernel
theorem d_X_kill_61 : decode tb_X_kill 61 = .ok (.ireturn, 1) := by decide +kernel
theorem d_X_repair_0 : decode tb_X_repair 0 = .ok (.aload_n 0, 1) := by decide +kernel
theorem d_X_repair_1 : decode tb_X_repair 1 = .ok (.getfield 11, 3) := by decide +kernel
theorem d_X_repair_4 : decode tb_X_repair 4 = .ok (.iconst 0, 1) := by decide +kernel
theorem d_X_repair_5 : decode tb_X_repair 5 = .ok (.aaload, 1) := by decide +kernel
theorem d_X_repair_6 : decode tb_X_repair 6 = .ok (.astore_n 1, 1) := by decide +kernel
theorem d_X_repair_7 : decode tb_X_repair 7 = .ok (.aload_n 1, 1) := by decide +kernel
theorem d_X_repair_8 : decode tb_X_repair 8 = .ok (.dup, 1) := by decide +kernel
theorem d_X_repair_9 : decode tb_X_repair 9 = .ok (.getfield 42, 3) := by decide +kernel
theorem d_X_repair_12 : decode tb_X_repair 12 = .ok (.iconst 1, 1) := by decide +kernel
theorem d_X_repair_13 : decode tb_X_repair 13 = .ok (.iadd, 1) := by decide +kernel
theorem d_X_repair_14 : decode tb_X_repair 14 = .ok (.putfield 42, 3) := by decide +kernel
theorem d_X_repair_17 : decode tb_X_repair 17 = .ok (.aload_n 0, 1) := by decide +kernel
theorem d_X_repair_18 : decode tb_X_repair 18 = .ok (.aload_n 1, 1) := by decide +kernel
theorem d_X_repair_19 : decode tb_X_repair 19 = .ok (.invokevirtual 58, 3) := by decide +kernel
theorem d_X_repair_22 : decode tb_X_repair 22 = .ok (.aload_n 1, 1) := by decide +kernel
theorem d_X_repair_23 : decode tb_X_repair 23 = .ok (.getfield 42, 3) := by decide +kernel
theorem d_X_repair_26 : decode tb_X_repair 26 = .ok (.ireturn, 1) := by decide +kernel
theorem d_X_send_0 : decode tb_X_send 0 = .ok (.iload_n 1, 1) := by decide +kernel
theorem d_X_send_1 : decode tb_X_send 1 = .ok (.invokestatic 62, 3) := by decide +kernel
theorem d_X_send_4 : decode tb_X_send 4 = .ok (.ifCond .eq 27, 3) := by decide +kernel
theorem d_X_send_7 : decode tb_X_send 7 = .ok (.iload_n 2, 1) := by decide +kernel
theorem d_X_send_8 : decode tb_X_send 8 = .ok (.invokestatic 62, 3) := by decide +kernel
theorem d_X_send_11 : decode tb_X_send 11 = .ok (.ifCond .eq 20, 3) := by decide +kernel
theorem d_X_send_14 : decode tb_X_send 14 = .ok (.iload_n 1, 1) := by decide +kernel
theorem d_X_send_15 : decode tb_X_send 15 = .ok (.iload_n 2, 1) := by decide +kernel
theorem d_X_send_16 : decode tb_X_send 16 = .ok (.if_icmp .eq 15, 3) := by decide +kernel
theorem d_X_send_19 : decode tb_X_send 19 = .ok (.aload_n 0, 1) := by decide +kernel
theorem d_X_send_20 : decode tb_X_send 20 = .ok (.getfield 11, 3) := by decide +kernel
theorem d_X_send_23 : decode tb_X_send 23 = .ok (.iload_n 1, 1) := by decide +kernel
theorem d_X_send_24 : decode tb_X_send 24 = .ok (.aaload, 1) := by decide +kernel
theorem d_X_send_25 : decode tb_X_send 25 = .ok (.getfield 66, 3) := by decide +kernel
theorem d_X_send_28 : decode tb_X_send 28 = .ok (.ifCond .ne 5, 3) := by decide +kernel
theorem d_X_send_31 : decode tb_X_send 31 = .ok (.iconst (-1), 1) := by decide +kernel
theorem d_X_send_32 : decode tb_X_send 32 = .ok (.ireturn, 1) := by decide +kernel
theorem d_X_send_33 : decode tb_X_send 33 = .ok (.iload_n 3, 1) := by decide +kernel
theorem d_X_send_34 : decode tb_X_send 34 = .ok (.iconst 1, 1) := by decide +kernel
theorem d_X_send_35 : decode tb_X_send 35 = .ok (.if_icmp .lt 22, 3) := by decide +kernel
theorem d_X_send_38 : decode tb_X_send 38 = .ok (.iload_n 3, 1) := by decide +kernel
theorem d_X_send_39 : decode tb_X_send 39 = .ok (.bipush 15, 2) := by decide +kernel
theorem d_X_send_41 : decode tb_X_send 41 = .ok (.if_icmp .gt 16, 3) := by decide +kernel
theorem d_X_send_44 : decode tb_X_send 44 = .ok (.iload 4, 2) := by decide +kernel
theorem d_X_send_46 : decode tb_X_send 46 = .ok (.ifCond .lt 11, 3) := by decide +kernel
theorem d_X_send_49 : decode tb_X_send 49 = .ok (.iload 4, 2) := by decide +kernel
theorem d_X_send_51 : decode tb_X_send 51 = .ok (.sipush 999, 3) := by decide +kernel
theorem d_X_send_54 : decode tb_X_send 54 = .ok (.if_icmp .le 5, 3) := by decide +kernel
theorem d_X_send_57 : decode tb_X_send 57 = .ok (.iconst (-1), 1) := by decide +kernel
theorem d_X_send_58 : decode tb_X_send 58 = .ok (.ireturn, 1) := by decide +kernel
theorem d_X_send_59 : decode tb_X_send 59 = .ok (.aload_n 0, 1) := by decide +kernel
theorem d_X_send_60 : decode tb_X_send 60 = .ok (.dup, 1) := by decide +kernel
theorem d_X_send_61 : decode tb_X_send 61 = .ok (.getfield 84, 3) := by decide +kernel
theorem d_X_send_64 : decode tb_X_send 64 = .ok (.iconst 1, 1) := by decide +kernel
theorem d_X_send_65 : decode tb_X_send 65 = .ok (.iadd, 1) := by decide +kernel
theorem d_X_send_66 : decode tb_X_send 66 = .ok (.putfield 84, 3) := by decide +kernel
theorem d_X_send_69 : decode tb_X_send 69 = .ok (.aload_n 0, 1) := by decide +kernel
theorem d_X_send_70 : decode tb_X_send 70 = .ok (.aload_n 0, 1) := by decide +kernel
theorem d_X_send_71 : decode tb_X_send 71 = .ok (.getfield 11, 3) := by decide +kernel
theorem d_X_send_74 : decode tb_X_send 74 = .ok (.iload_n 1, 1) := by decide +kernel
theorem d_X_send_75 : decode tb_X_send 75 = .ok (.aaload, 1) := by decide +kernel
theorem d_X_send_76 : decode tb_X_send 76 = .ok (.iload_n 1, 1) := by decide +kernel
theorem d_X_send_77 : decode tb_X_send 77 = .ok (.iload_n 2, 1) := by decide +kernel
theorem d_X_send_78 : decode tb_X_send 78 = .ok (.iload_n 3, 1) := by decide +kernel
theorem d_X_send_79 : decode tb_X_send 79 = .ok (.iload 4, 2) := by decide +kernel
theorem d_X_send_81 : decode tb_X_send 81 = .ok (.iconst 0, 1) := by decide +kernel
theorem d_X_send_82 : decode tb_X_send 82 = .ok (.invokevirtual 87, 3) := by decide +kernel
theorem d_X_send_85 : decode tb_X_send 85 = .ok (.aload_n 0, 1) := by decide +kernel
theorem d_X_send_86 : decode tb_X_send 86 = .ok (.getfield 84, 3) := by decide +kernel
theorem d_X_send_89 : decode tb_X_send 89 = .ok (.ireturn, 1) := by decide +kernel
theorem d_X_tick_0 : decode tb_X_tick 0 = .ok (.iload_n 1, 1) := by decide +kernel
theorem d_X_tick_1 : decode tb_X_tick 1 = .ok (.ifCond .lt 9, 3) := by decide +kernel
theorem d_X_tick_4 : decode tb_X_tick 4 = .ok (.iload_n 1, 1) := by decide +kernel
theorem d_X_tick_5 : decode tb_X_tick 5 = .ok (.bipush 100, 2) := by decide +kernel
theorem d_X_tick_7 : decode tb_X_tick 7 = .ok (.if_icmp .le 5, 3) := by decide +kernel
theorem d_X_tick_10 : decode tb_X_tick 10 = .ok (.iconst (-1), 1) := by decide +kernel
theorem d_X_tick_11 : decode tb_X_tick 11 = .ok (.ireturn, 1) := by decide +kernel
theorem d_X_tick_12 : decode tb_X_tick 12 = .ok (.iconst 0, 1) := by decide +kernel
theorem d_X_tick_13 : decode tb_X_tick 13 = .ok (.istore_n 2, 1) := by decide +kernel
theorem d_X_tick_14 : decode tb_X_tick 14 = .ok (.iload_n 2, 1) := by decide +kernel
theorem d_X_tick_15 : decode tb_X_tick 15 = .ok (.iload_n 1, 1) := by decide +kernel
theorem d_X_tick_16 : decode tb_X_tick 16 = .ok (.if_icmp .ge 47, 3) := by decide +kernel
theorem d_X_tick_19 : decode tb_X_tick 19 = .ok (.aload_n 0, 1) := by decide +kernel
theorem d_X_tick_20 : decode tb_X_tick 20 = .ok (.dup, 1) := by decide +kernel
theorem d_X_tick_21 : decode tb_X_tick 21 = .ok (.getfield 91, 3) := by decide +kernel
theorem d_X_tick_24 : decode tb_X_tick 24 = .ok (.iconst 1, 1) := by decide +kernel
theorem d_X_tick_25 : decode tb_X_tick 25 = .ok (.iadd, 1) := by decide +kernel
theorem d_X_tick_26 : decode tb_X_tick 26 = .ok (.putfield 91, 3) := by decide +kernel
theorem d_X_tick_29 : decode tb_X_tick 29 = .ok (.aload_n 0, 1) := by decide +kernel
theorem d_X_tick_30 : decode tb_X_tick 30 = .ok (.invokevirtual 94, 3) := by decide +kernel
theorem d_X_tick_33 : decode tb_X_tick 33 = .ok (.aload_n 0, 1) := by decide +kernel
theorem d_X_tick_34 : decode tb_X_tick 34 = .ok (.invokevirtual 97, 3) := by decide +kernel
theorem d_X_tick_37 : decode tb_X_tick 37 = .ok (.aload_n 0, 1) := by decide +kernel
theorem d_X_tick_38 : decode tb_X_tick 38 = .ok (.invokevirtual 100, 3) := by decide +kernel
theorem d_X_tick_41 : decode tb_X_tick 41 = .ok (.aload_n 0, 1) := by decide +kernel
theorem d_X_tick_42 : decode tb_X_tick 42 = .ok (.invokevirtual 103, 3) := by decide +kernel
theorem d_X_tick_45 : decode tb_X_tick 45 = .ok (.aload_n 0, 1) := by decide +kernel
theorem d_X_tick_46 : decode tb_X_tick 46 = .ok (.invokevirtual 106, 3) := by decide +kernel
theorem d_X_tick_49 : decode tb_X_tick 49 = .ok (.aload_n 0, 1) := by decide +kernel
theorem d_X_tick_50 : decode tb_X_tick 50 = .ok (.invokevirtual 109, 3) := by decide +kernel
theorem d_X_tick_53 : decode tb_X_tick 53 = .ok (.aload_n 0, 1) := by decide +kernel
theorem d_X_tick_54 : decode tb_X_tick 54 = .ok (.invokevirtual 112, 3) := by decide +kernel
theorem d_X_tick_57 : decode tb_X_tick 57 = .ok (.iinc 2 1, 3) := by decide +kernel
theorem d_X_tick_60 : decode tb_X_tick 60 = .ok (.goto (-46), 3) := by decide +kernel
theorem d_X_tick_63 : decode tb_X_tick 63 = .ok (.aload_n 0, 1) := by decide +kernel
theorem d_X_tick_64 : decode tb_X_tick 64 = .ok (.getfield 91, 3) := by decide +kernel
theorem d_X_tick_67 : decode tb_X_tick 67 = .ok (.ireturn, 1) := by decide +kernel
theorem d_X_node_0 : decode tb_X_node 0 = .ok (.iload_n 1, 1) := by decide +kernel
theorem d_X_node_1 : decode tb_X_node 1 = .ok (.invokestatic 62, 3) := by decide +kernel
theorem d_X_node_4 : decode tb_X_node 4 = .ok (.ifCond .ne 5, 3) := by decide +kernel
theorem d_X_node_7 : decode tb_X_node 7 = .ok (.iconst (-1), 1) := by decide +kernel
theorem d_X_node_8 : decode tb_X_node 8 = .ok (.ireturn, 1) := by decide +kernel
theorem d_X_node_9 : decode tb_X_node 9 = .ok (.aload_n 0, 1) := by decide +kernel
theorem d_X_node_10 : decode tb_X_node 10 = .ok (.getfield 11, 3) := by decide +kernel
theorem d_X_node_13 : decode tb_X_node 13 = .ok (.iload_n 1, 1) := by decide +kernel
theorem d_X_node_14 : decode tb_X_node 14 = .ok (.aaload, 1) := by decide +kernel
theorem d_X_node_15 : decode tb_X_node 15 = .ok (.astore_n 3, 1) := by decide +kernel
theorem d_X_node_16 : decode tb_X_node 16 = .ok (.aload_n 3, 1) := by decide +kernel
theorem d_X_node_17 : decode tb_X_node 17 = .ok (.getfield 69, 3) := by decide +kernel
theorem d_X_node_20 : decode tb_X_node 20 = .ok (.astore 4, 2) := by decide +kernel
theorem d_X_node_22 : decode tb_X_node 22 = .ok (.aload 4, 2) := by decide +kernel
theorem d_X_node_24 : decode tb_X_node 24 = .ok (.getfield 73, 3) := by decide +kernel
theorem d_X_node_27 : decode tb_X_node 27 = .ok (.ifCond .le 7, 3) := by decide +kernel
theorem d_X_node_30 : decode tb_X_node 30 = .ok (.iconst 1, 1) := by decide +kernel
theorem d_X_node_31 : decode tb_X_node 31 = .ok (.goto 4, 3) := by decide +kernel
theorem d_X_node_34 : decode tb_X_node 34 = .ok (.iconst 0, 1) := by decide +kernel
theorem d_X_node_35 : decode tb_X_node 35 = .ok (.istore 5, 2) := by decide +kernel
theorem d_X_node_37 : decode tb_X_node 37 = .ok (.iload_n 2, 1) := by decide +kernel
theorem d_X_node_38 : decode tb_X_node 38 = .ok (.tableswitch 175 0 12 #[66, 71, 78, 83, 91, 99, 107, 113, 128, 143, 158, 163, 168], 66) := by decide +kernel
theorem d_X_node_104 : decode tb_X_node 104 = .ok (.aload_n 3, 1) := by decide +kernel
theorem d_X_node_105 : decode tb_X_node 105 = .ok (.getfield 45, 3) := by decide +kernel
theorem d_X_node_108 : decode tb_X_node 108 = .ok (.ireturn, 1) := by decide +kernel
theorem d_X_node_109 : decode tb_X_node 109 = .ok (.aload_n 3, 1) := by decide +kernel
theorem d_X_node_110 : decode tb_X_node 110 = .ok (.getfield 115, 3) := by decide +kernel
theorem d_X_node_113 : decode tb_X_node 113 = .ok (.iconst 1, 1) := by decide +kernel
theorem d_X_node_114 : decode tb_X_node 114 = .ok (.iadd, 1) := by decide +kernel
theorem d_X_node_115 : decode tb_X_node 115 = .ok (.ireturn, 1) := by decide +kernel
theorem d_X_node_116 : decode tb_X_node 116 = .ok (.aload_n 3, 1) := by decide +kernel
theorem d_X_node_117 : decode tb_X_node 117 = .ok (.getfield 42, 3) := by decide +kernel
theorem d_X_node_120 : decode tb_X_node 120 = .ok (.ireturn, 1) := by decide +kernel
theorem d_X_node_121 : decode tb_X_node 121 = .ok (.aload_n 3, 1) := by decide +kernel
theorem d_X_node_122 : decode tb_X_node 122 = .ok (.getfield 48, 3) := by decide +kernel
theorem d_X_node_125 : decode tb_X_node 125 = .ok (.getfield 118, 3) := by decide +kernel
theorem d_X_node_128 : decode tb_X_node 128 = .ok (.ireturn, 1) := by decide +kernel
theorem d_X_node_129 : decode tb_X_node 129 = .ok (.aload_n 3, 1) := by decide +kernel
theorem d_X_node_130 : decode tb_X_node 130 = .ok (.getfield 48, 3) := by decide +kernel
theorem d_X_node_133 : decode tb_X_node 133 = .ok (.getfield 121, 3) := by decide +kernel
theorem d_X_node_136 : decode tb_X_node 136 = .ok (.ireturn, 1) := by decide +kernel
theorem d_X_node_137 : decode tb_X_node 137 = .ok (.aload_n 3, 1) := by decide +kernel
theorem d_X_node_138 : decode tb_X_node 138 = .ok (.getfield 48, 3) := by decide +kernel
theorem d_X_node_141 : decode tb_X_node 141 = .ok (.getfield 124, 3) := by decide +kernel
theorem d_X_node_144 : decode tb_X_node 144 = .ok (.ireturn, 1) := by decide +kernel
theorem d_X_node_145 : decode tb_X_node 145 = .ok (.aload 4, 2) := by decide +kernel
theorem d_X_node_147 : decode tb_X_node 147 = .ok (.getfield 73, 3) := by decide +kernel
theorem d_X_node_150 : decode tb_X_node 150 = .ok (.ireturn, 1) := by decide +kernel
theorem d_X_node_151 : decode tb_X_node 151 = .ok (.iload 5, 2) := by decide +kernel
theorem d_X_node_153 : decode tb_X_node 153 = .ok (.ifCond .eq 11, 3) := by decide +kernel
theorem d_X_node_156 : decode tb_X_node 156 = .ok (.aload 4, 2) := by decide +kernel
theorem d_X_node_158 : decode tb_X_node 158 = .ok (.getfield 127, 3) := by decide +kernel
theorem d_X_node_161 : decode tb_X_node 161 = .ok (.goto 4, 3) := by decide +kernel
theorem d_X_node_164 : decode tb_X_node 164 = .ok (.iconst 0, 1) := by decide +kernel
theorem d_X_node_165 : decode tb_X_node 165 = .ok (.ireturn, 1) := by decide +kernel
theorem d_X_node_166 : decode tb_X_node 166 = .ok (.iload 5, 2) := by decide +kernel
theorem d_X_node_168 : decode tb_X_node 168 = .ok (.ifCond .eq 11, 3) := by decide +kernel
theorem d_X_node_171 : decode tb_X_node 171 = .ok (.aload 4, 2) := by decide +kernel
theorem d_X_node_173 : decode tb_X_node 173 = .ok (.getfield 130, 3) := by decide +kernel
theorem d_X_node_176 : decode tb_X_node 176 = .ok (.goto 4, 3) := by decide +kernel
theorem d_X_node_179 : decode tb_X_node 179 = .ok (.iconst 0, 1) := by decide +kernel
theorem d_X_node_180 : decode tb_X_node 180 = .ok (.ireturn, 1) := by decide +kernel
theorem d_X_node_181 : decode tb_X_node 181 = .ok (.iload 5, 2) := by decide +kernel
theorem d_X_node_183 : decode tb_X_node 183 = .ok (.ifCond .eq 11, 3) := by decide +kernel
theorem d_X_node_186 : decode tb_X_node 186 = .ok (.aload 4, 2) := by decide +kernel
theorem d_X_node_188 : decode tb_X_node 188 = .ok (.getfield 133, 3) := by decide +kernel
theorem d_X_node_191 : decode tb_X_node 191 = .ok (.goto 4, 3) := by decide +kernel
theorem d_X_node_194 : decode tb_X_node 194 = .ok (.iconst 0, 1) := by decide +kernel
theorem d_X_node_195 : decode tb_X_node 195 = .ok (.ireturn, 1) := by decide +kernel
theorem d_X_node_196 : decode tb_X_node 196 = .ok (.aload_n 3, 1) := by decide +kernel
theorem d_X_node_197 : decode tb_X_node 197 = .ok (.getfield 136, 3) := by decide +kernel
theorem d_X_node_200 : decode tb_X_node 200 = .ok (.ireturn, 1) := by decide +kernel
theorem d_X_node_201 : decode tb_X_node 201 = .ok (.aload_n 3, 1) := by decide +kernel
theorem d_X_node_202 : decode tb_X_node 202 = .ok (.invokestatic 139, 3) := by decide +kernel
theorem d_X_node_205 : decode tb_X_node 205 = .ok (.ireturn, 1) := by decide +kernel
theorem d_X_node_206 : decode tb_X_node 206 = .ok (.aload_n 3, 1) := by decide +kernel
theorem d_X_node_207 : decode tb_X_node 207 = .ok (.getfield 143, 3) := by decide +kernel
theorem d_X_node_210 : decode tb_X_node 210 = .ok (.iload_n 1, 1) := by decide +kernel
theorem d_X_node_211 : decode tb_X_node 211 = .ok (.iaload, 1) := by decide +kernel
theorem d_X_node_212 : decode tb_X_node 212 = .ok (.ireturn, 1) := by decide +kernel
theorem d_X_node_213 : decode tb_X_node 213 = .ok (.iconst (-1), 1) := by decide +kernel
theorem d_X_node_214 : decode tb_X_node 214 = .ok (.ireturn, 1) := by decide +kernel
theorem d_X_next_0 : decode tb_X_next 0 = .ok (.iload_n 1, 1) := by decide +kernel
theorem d_X_next_1 : decode tb_X_next 1 = .ok (.invokestatic 62, 3) := by decide +kernel
theorem d_X_next_4 : decode tb_X_next 4 = .ok (.ifCond .eq 26, 3) := by decide +kernel
theorem d_X_next_7 : decode tb_X_next 7 = .ok (.iload_n 2, 1) := by decide +kernel
theorem d_X_next_8 : decode tb_X_next 8 = .ok (.invokestatic 62, 3) := by decide +kernel
theorem d_X_next_11 : decode tb_X_next 11 = .ok (.ifCond .eq 19, 3) := by decide +kernel
theorem d_X_next_14 : decode tb_X_next 14 = .ok (.aload_n 0, 1) := by decide +kernel
theorem d_X_next_15 : decode tb_X_next 15 = .ok (.getfield 11, 3) := by decide +kernel
theorem d_X_next_18 : decode tb_X_next 18 = .ok (.iload_n 1, 1) := by decide +kernel
theorem d_X_next_19 : decode tb_X_next 19 = .ok (.aaload, 1) := by decide +kernel
theorem d_X_next_20 : decode tb_X_next 20 = .ok (.getfield 147, 3) := by decide +kernel
theorem d_X_next_23 : decode tb_X_next 23 = .ok (.iload_n 2, 1) := by decide +kernel
theorem d_X_next_24 : decode tb_X_next 24 = .ok (.iaload, 1) := by decide +kernel
theorem d_X_next_25 : decode tb_X_next 25 = .ok (.iconst 1, 1) := by decide +kernel
theorem d_X_next_26 : decode tb_X_next 26 = .ok (.iadd, 1) := by decide +kernel
theorem d_X_next_27 : decode tb_X_next 27 = .ok (.goto 4, 3) := by decide +kernel
theorem d_X_next_30 : decode tb_X_next 30 = .ok (.iconst 0, 1) := by decide +kernel
theorem d_X_next_31 : decode tb_X_next 31 = .ok (.ireturn, 1) := by decide +kernel
theorem d_X_known_0 : decode tb_X_known 0 = .ok (.iload_n 1, 1) := by decide +kernel
theorem d_X_known_1 : decode tb_X_known 1 = .ok (.invokestatic 62, 3) := by decide +kernel
theorem d_X_known_4 : decode tb_X_known 4 = .ok (.ifCond .eq 24, 3) := by decide +kernel
theorem d_X_known_7 : decode tb_X_known 7 = .ok (.iload_n 2, 1) := by decide +kernel
theorem d_X_known_8 : decode tb_X_known 8 = .ok (.invokestatic 62, 3) := by decide +kernel
theorem d_X_known_11 : decode tb_X_known 11 = .ok (.ifCond .eq 17, 3) := by decide +kernel
theorem d_X_known_14 : decode tb_X_known 14 = .ok (.aload_n 0, 1) := by decide +kernel
theorem d_X_known_15 : decode tb_X_known 15 = .ok (.getfield 11, 3) := by decide +kernel
theorem d_X_known_18 : decode tb_X_known 18 = .ok (.iload_n 1, 1) := by decide +kernel
theorem d_X_known_19 : decode tb_X_known 19 = .ok (.aaload, 1) := by decide +kernel
theorem d_X_known_20 : decode tb_X_known 20 = .ok (.getfield 150, 3) := by decide +kernel
theorem d_X_known_23 : decode tb_X_known 23 = .ok (.iload_n 2, 1) := by decide +kernel
theorem d_X_known_24 : decode tb_X_known 24 = .ok (.iaload, 1) := by decide +kernel
theorem d_X_known_25 : decode tb_X_known 25 = .ok (.goto 4, 3) := by decide +kernel
theorem d_X_known_28 : decode tb_X_known 28 = .ok (.iconst 0, 1) := by decide +kernel
theorem d_X_known_29 : decode tb_X_known 29 = .ok (.ireturn, 1) := by decide +kernel
theorem d_X_delivered_0 : decode tb_X_delivered 0 = .ok (.iload_n 1, 1) := by decide +kernel
theorem d_X_delivered_1 : decode tb_X_delivered 1 = .ok (.invokestatic 62, 3) := by decide +kernel
theorem d_X_delivered_4 : decode tb_X_delivered 4 = .ok (.ifCond .ne 5, 3) := by decide +kernel
theorem d_X_delivered_7 : decode tb_X_delivered 7 = .ok (.iconst 0, 1) := by decide +kernel
theorem d_X_delivered_8 : decode tb_X_delivered 8 = .ok (.ireturn, 1) := by decide +kernel
theorem d_X_delivered_9 : decode tb_X_delivered 9 = .ok (.aload_n 0, 1) := by decide +kernel
theorem d_X_delivered_10 : decode tb_X_delivered 10 = .ok (.getfield 11, 3) := by decide +kernel
theorem d_X_delivered_13 : decode tb_X_delivered 13 = .ok (.iload_n 1, 1) := by decide +kernel
theorem d_X_delivered_14 : decode tb_X_delivered 14 = .ok (.aaload, 1) := by decide +kernel
theorem d_X_delivered_15 : decode tb_X_delivered 15 = .ok (.astore_n 3, 1) := by decide +kernel
theorem d_X_delivered_16 : decode tb_X_delivered 16 = .ok (.iload_n 2, 1) := by decide +kernel
theorem d_X_delivered_17 : decode tb_X_delivered 17 = .ok (.iconst (-1), 1) := by decide +kernel
theorem d_X_delivered_18 : decode tb_X_delivered 18 = .ok (.if_icmp .ne 8, 3) := by decide +kernel
theorem d_X_delivered_21 : decode tb_X_delivered 21 = .ok (.aload_n 3, 1) := by decide +kernel
theorem d_X_delivered_22 : decode tb_X_delivered 22 = .ok (.getfield 153, 3) := by decide +kernel
theorem d_X_delivered_25 : decode tb_X_delivered 25 = .ok (.ireturn, 1) := by decide +kernel
theorem d_X_delivered_26 : decode tb_X_delivered 26 = .ok (.iload_n 2, 1) := by decide +kernel
theorem d_X_delivered_27 : decode tb_X_delivered 27 = .ok (.ifCond .lt 17, 3) := by decide +kernel
theorem d_X_delivered_30 : decode tb_X_delivered 30 = .ok (.iload_n 2, 1) := by decide +kernel
theorem d_X_delivered_31 : decode tb_X_delivered 31 = .ok (.bipush 8, 2) := by decide +kernel
theorem d_X_delivered_33 : decode tb_X_delivered 33 = .ok (.if_icmp .ge 11, 3) := by decide +kernel
theorem d_X_delivered_36 : decode tb_X_delivered 36 = .ok (.iload_n 2, 1) := by decide +kernel
theorem d_X_delivered_37 : decode tb_X_delivered 37 = .ok (.aload_n 3, 1) := by decide +kernel
theorem d_X_delivered_38 : decode tb_X_delivered 38 = .ok (.getfield 153, 3) := by decide +kernel
theorem d_X_delivered_41 : decode tb_X_delivered 41 = .ok (.if_icmp .lt 5, 3) := by decide +kernel
theorem d_X_delivered_44 : decode tb_X_delivered 44 = .ok (.iconst 0, 1) := by decide +kernel
theorem d_X_delivered_45 : decode tb_X_delivered 45 = .ok (.ireturn, 1) := by decide +kernel
theorem d_X_delivered_46 : decode tb_X_delivered 46 = .ok (.aload_n 3, 1) := by decide +kernel
theorem d_X_delivered_47 : decode tb_X_delivered 47 = .ok (.getfield 156, 3) := by decide +kernel
theorem d_X_delivered_50 : decode tb_X_delivered 50 = .ok (.aload_n 3, 1) := by decide +kernel
theorem d_X_delivered_51 : decode tb_X_delivered 51 = .ok (.getfield 153, 3) := by decide +kernel
theorem d_X_delivered_54 : decode tb_X_delivered 54 = .ok (.iconst 1, 1) := by decide +kernel
theorem d_X_delivered_55 : decode tb_X_delivered 55 = .ok (.isub, 1) := by decide +kernel
theorem d_X_delivered_56 : decode tb_X_delivered 56 = .ok (.iload_n 2, 1) := by decide +kernel
theorem d_X_delivered_57 : decode tb_X_delivered 57 = .ok (.isub, 1) := by decide +kernel
theorem d_X_delivered_58 : decode tb_X_delivered 58 = .ok (.bipush 8, 2) := by decide +kernel
theorem d_X_delivered_60 : decode tb_X_delivered 60 = .ok (.irem, 1) := by decide +kernel
theorem d_X_delivered_61 : decode tb_X_delivered 61 = .ok (.iaload, 1) := by decide +kernel
theorem d_X_delivered_62 : decode tb_X_delivered 62 = .ok (.ireturn, 1) := by decide +kernel
theorem d_X_count_0 : decode tb_X_count 0 = .ok (.iload_n 1, 1) := by decide +kernel
theorem d_X_count_1 : decode tb_X_count 1 = .ok (.tableswitch 42 0 2 #[27, 32, 37], 27) := by decide +kernel
theorem d_X_count_28 : decode tb_X_count 28 = .ok (.aload_n 0, 1) := by decide +kernel
theorem d_X_count_29 : decode tb_X_count 29 = .ok (.getfield 159, 3) := by decide +kernel
theorem d_X_count_32 : decode tb_X_count 32 = .ok (.ireturn, 1) := by decide +kernel
theorem d_X_count_33 : decode tb_X_count 33 = .ok (.aload_n 0, 1) := by decide +kernel
theorem d_X_count_34 : decode tb_X_count 34 = .ok (.getfield 162, 3) := by decide +kernel
theorem d_X_count_37 : decode tb_X_count 37 = .ok (.ireturn, 1) := by decide +kernel
theorem d_X_count_38 : decode tb_X_count 38 = .ok (.aload_n 0, 1) := by decide +kernel
theorem d_X_count_39 : decode tb_X_count 39 = .ok (.getfield 165, 3) := by decide +kernel
theorem d_X_count_42 : decode tb_X_count 42 = .ok (.ireturn, 1) := by decide +kernel
theorem d_X_count_43 : decode tb_X_count 43 = .ok (.iconst 0, 1) := by decide +kernel
theorem d_X_count_44 : decode tb_X_count 44 = .ok (.ireturn, 1) := by decide +kernel
theorem d_X_isNode_0 : decode tb_X_isNode 0 = .ok (.iload_n 0, 1) := by decide +kernel
theorem d_X_isNode_1 : decode tb_X_isNode 1 = .ok (.ifCond .lt 13, 3) := by decide +kernel
theorem d_X_isNode_4 : decode tb_X_isNode 4 = .ok (.iload_n 0, 1) := by decide +kernel
theorem d_X_isNode_5 : decode tb_X_isNode 5 = .ok (.bipush 7, 2) := by decide +kernel
theorem d_X_isNode_7 : decode tb_X_isNode 7 = .ok (.if_icmp .ge 7, 3) := by decide +kernel
theorem d_X_isNode_10 : decode tb_X_isNode 10 = .ok (.iconst 1, 1) := by decide +kernel
theorem d_X_isNode_11 : decode tb_X_isNode 11 = .ok (.goto 4, 3) := by decide +kernel
theorem d_X_isNode_14 : decode tb_X_isNode 14 = .ok (.iconst 0, 1) := by decide +kernel
theorem d_X_isNode_15 : decode tb_X_isNode 15 = .ok (.ireturn, 1) := by decide +kernel
theorem d_X_condition_0 : decode tb_X_condition 0 = .ok (.aload_n 0, 1) := by decide +kernel
theorem d_X_condition_1 : decode tb_X_condition 1 = .ok (.getfield 66, 3) := by decide +kernel
theorem d_X_condition_4 : decode tb_X_condition 4 = .ok (.ifCond .ne 5, 3) := by decide +kernel
theorem d_X_condition_7 : decode tb_X_condition 7 = .ok (.iconst 1, 1) := by decide +kernel
theorem d_X_condition_8 : decode tb_X_condition 8 = .ok (.ireturn, 1) := by decide +kernel
theorem d_X_condition_9 : decode tb_X_condition 9 = .ok (.aload_n 0, 1) := by decide +kernel
theorem d_X_condition_10 : decode tb_X_condition 10 = .ok (.getfield 69, 3) := by decide +kernel
theorem d_X_condition_13 : decode tb_X_condition 13 = .ok (.getfield 81, 3) := by decide +kernel
theorem d_X_condition_16 : decode tb_X_condition 16 = .ok (.ifCond .eq 5, 3) := by decide +kernel
theorem d_X_condition_19 : decode tb_X_condition 19 = .ok (.iconst 2, 1) := by decide +kernel
theorem d_X_condition_20 : decode tb_X_condition 20 = .ok (.ireturn, 1) := by decide +kernel
theorem d_X_condition_21 : decode tb_X_condition 21 = .ok (.aload_n 0, 1) := by decide +kernel
theorem d_X_condition_22 : decode tb_X_condition 22 = .ok (.getfield 69, 3) := by decide +kernel
theorem d_X_condition_25 : decode tb_X_condition 25 = .ok (.getfield 78, 3) := by decide +kernel
theorem d_X_condition_28 : decode tb_X_condition 28 = .ok (.iconst (-1), 1) := by decide +kernel
theorem d_X_condition_29 : decode tb_X_condition 29 = .ok (.if_icmp .eq 7, 3) := by decide +kernel
theorem d_X_condition_32 : decode tb_X_condition 32 = .ok (.iconst 3, 1) := by decide +kernel
theorem d_X_condition_33 : decode tb_X_condition 33 = .ok (.goto 4, 3) := by decide +kernel
theorem d_X_condition_36 : decode tb_X_condition 36 = .ok (.iconst 0, 1) := by decide +kernel
theorem d_X_condition_37 : decode tb_X_condition 37 = .ok (.ireturn, 1) := by decide +kernel
theorem d_X_draw_0 : decode tb_X_draw 0 = .ok (.aload_n 0, 1) := by decide +kernel
theorem d_X_draw_1 : decode tb_X_draw 1 = .ok (.aload_n 0, 1) := by decide +kernel
theorem d_X_draw_2 : decode tb_X_draw 2 = .ok (.getfield 20, 3) := by decide +kernel
theorem d_X_draw_5 : decode tb_X_draw 5 = .ok (.ldc 168, 2) := by decide +kernel
theorem d_X_draw_7 : decode tb_X_draw 7 = .ok (.imul, 1) := by decide +kernel
theorem d_X_draw_8 : decode tb_X_draw 8 = .ok (.sipush 12345, 3) := by decide +kernel
theorem d_X_draw_11 : decode tb_X_draw 11 = .ok (.iadd, 1) := by decide +kernel
theorem d_X_draw_12 : decode tb_X_draw 12 = .ok (.putfield 20, 3) := by decide +kernel
theorem d_X_draw_15 : decode tb_X_draw 15 = .ok (.iload_n 1, 1) := by decide +kernel
theorem d_X_draw_16 : decode tb_X_draw 16 = .ok (.ifCond .le 15, 3) := by decide +kernel
theorem d_X_draw_19 : decode tb_X_draw 19 = .ok (.aload_n 0, 1) := by decide +kernel
theorem d_X_draw_20 : decode tb_X_draw 20 = .ok (.getfield 20, 3) := by decide +kernel
theorem d_X_draw_23 : decode tb_X_draw 23 = .ok (.bipush 16, 2) := by decide +kernel
theorem d_X_draw_25 : decode tb_X_draw 25 = .ok (.iushr, 1) := by decide +kernel
theorem d_X_draw_26 : decode tb_X_draw 26 = .ok (.iload_n 1, 1) := by decide +kernel
theorem d_X_draw_27 : decode tb_X_draw 27 = .ok (.irem, 1) := by decide +kernel
theorem d_X_draw_28 : decode tb_X_draw 28 = .ok (.goto 4, 3) := by decide +kernel
theorem d_X_draw_31 : decode tb_X_draw 31 = .ok (.iconst 0, 1) := by decide +kernel
theorem d_X_draw_32 : decode tb_X_draw 32 = .ok (.ireturn, 1) := by decide +kernel
theorem d_X_enqueue_0 : decode tb_X_enqueue 0 = .ok (.aload_n 1, 1) := by decide +kernel
theorem d_X_enqueue_1 : decode tb_X_enqueue 1 = .ok (.getfield 69, 3) := by decide +kernel
theorem d_X_enqueue_4 : decode tb_X_enqueue 4 = .ok (.astore 4, 2) := by decide +kernel
theorem d_X_enqueue_6 : decode tb_X_enqueue 6 = .ok (.aload 4, 2) := by decide +kernel
theorem d_X_enqueue_8 : decode tb_X_enqueue 8 = .ok (.getfield 73, 3) := by decide +kernel
theorem d_X_enqueue_11 : decode tb_X_enqueue 11 = .ok (.iconst 4, 1) := by decide +kernel
theorem d_X_enqueue_12 : decode tb_X_enqueue 12 = .ok (.if_icmp .lt 5, 3) := by decide +kernel
theorem d_X_enqueue_15 : decode tb_X_enqueue 15 = .ok (.aconst_null, 1) := by decide +kernel
theorem d_X_enqueue_16 : decode tb_X_enqueue 16 = .ok (.areturn, 1) := by decide +kernel
theorem d_X_enqueue_17 : decode tb_X_enqueue 17 = .ok (.aload 4, 2) := by decide +kernel
theorem d_X_enqueue_19 : decode tb_X_enqueue 19 = .ok (.getfield 169, 3) := by decide +kernel
theorem d_X_enqueue_22 : decode tb_X_enqueue 22 = .ok (.aload 4, 2) := by decide +kernel
theorem d_X_enqueue_24 : decode tb_X_enqueue 24 = .ok (.getfield 73, 3) := by decide +kernel
theorem d_X_enqueue_27 : decode tb_X_enqueue 27 = .ok (.aaload, 1) := by decide +kernel
theorem d_X_enqueue_28 : decode tb_X_enqueue 28 = .ok (.astore 5, 2) := by decide +kernel
theorem d_X_enqueue_30 : decode tb_X_enqueue 30 = .ok (.aload 4, 2) := by decide +kernel
theorem d_X_enqueue_32 : decode tb_X_enqueue 32 = .ok (.dup, 1) := by decide +kernel
theorem d_X_enqueue_33 : decode tb_X_enqueue 33 = .ok (.getfield 73, 3) := by decide +kernel
theorem d_X_enqueue_36 : decode tb_X_enqueue 36 = .ok (.iconst 1, 1) := by decide +kernel
theorem d_X_enqueue_37 : decode tb_X_enqueue 37 = .ok (.iadd, 1) := by decide +kernel
theorem d_X_enqueue_38 : decode tb_X_enqueue 38 = .ok (.putfield 73, 3) := by decide +kernel
theorem d_X_enqueue_41 : decode tb_X_enqueue 41 = .ok (.aload_n 0, 1) := by decide +kernel
theorem d_X_enqueue_42 : decode tb_X_enqueue 42 = .ok (.dup, 1) := by decide +kernel
theorem d_X_enqueue_43 : decode tb_X_enqueue 43 = .ok (.getfield 173, 3) := by decide +kernel
theorem d_X_enqueue_46 : decode tb_X_enqueue 46 = .ok (.iconst 1, 1) := by decide +kernel
theorem d_X_enqueue_47 : decode tb_X_enqueue 47 = .ok (.iadd, 1) := by decide +kernel
theorem d_X_enqueue_48 : decode tb_X_enqueue 48 = .ok (.putfield 173, 3) := by decide +kernel
theorem d_X_enqueue_51 : decode tb_X_enqueue 51 = .ok (.aload 5, 2) := by decide +kernel
theorem d_X_enqueue_53 : decode tb_X_enqueue 53 = .ok (.aload_n 0, 1) := by decide +kernel
theorem d_X_enqueue_54 : decode tb_X_enqueue 54 = .ok (.getfield 173, 3) := by decide +kernel
theorem d_X_enqueue_57 : decode tb_X_enqueue 57 = .ok (.putfield 176, 3) := by decide +kernel
theorem d_X_enqueue_60 : decode tb_X_enqueue 60 = .ok (.aload 5, 2) := by decide +kernel
theorem d_X_enqueue_62 : decode tb_X_enqueue 62 = .ok (.iload_n 2, 1) := by decide +kernel
theorem d_X_enqueue_63 : decode tb_X_enqueue 63 = .ok (.putfield 181, 3) := by decide +kernel
theorem d_X_enqueue_66 : decode tb_X_enqueue 66 = .ok (.aload 5, 2) := by decide +kernel
theorem d_X_enqueue_68 : decode tb_X_enqueue 68 = .ok (.iload_n 3, 1) := by decide +kernel
theorem d_X_enqueue_69 : decode tb_X_enqueue 69 = .ok (.putfield 184, 3) := by decide +kernel
theorem d_X_enqueue_72 : decode tb_X_enqueue 72 = .ok (.aload 4, 2) := by decide +kernel
theorem d_X_enqueue_74 : decode tb_X_enqueue 74 = .ok (.getfield 73, 3) := by decide +kernel
theorem d_X_enqueue_77 : decode tb_X_enqueue 77 = .ok (.iconst 1, 1) := by decide +kernel
theorem d_X_enqueue_78 : decode tb_X_enqueue 78 = .ok (.if_icmp .ne 13, 3) := by decide +kernel
theorem d_X_enqueue_81 : decode tb_X_enqueue 81 = .ok (.aload 4, 2) := by decide +kernel
theorem d_X_enqueue_83 : decode tb_X_enqueue 83 = .ok (.aload_n 0, 1) := by decide +kernel
theorem d_X_enqueue_84 : decode tb_X_enqueue 84 = .ok (.iconst 4, 1) := by decide +kernel
theorem d_X_enqueue_85 : decode tb_X_enqueue 85 = .ok (.invokevirtual 187, 3) := by decide +kernel
theorem d_X_enqueue_88 : decode tb_X_enqueue 88 = .ok (.invokevirtual 191, 3) := by decide +kernel
theorem d_X_enqueue_91 : decode tb_X_enqueue 91 = .ok (.aload 5, 2) := by decide +kernel
theorem d_X_enqueue_93 : decode tb_X_enqueue 93 = .ok (.areturn, 1) := by decide +kernel
theorem d_X_enqueueOnce_0 : decode tb_X_enqueueOnce 0 = .ok (.iconst 0, 1) := by decide +kernel
theorem d_X_enqueueOnce_1 : decode tb_X_enqueueOnce 1 = .ok (.istore_n 3, 1) := by decide +kernel
theorem d_X_enqueueOnce_2 : decode tb_X_enqueueOnce 2 = .ok (.iload_n 3, 1) := by decide +kernel
theorem d_X_enqueueOnce_3 : decode tb_X_enqueueOnce 3 = .ok (.aload_n 1, 1) := by decide +kernel
theorem d_X_enqueueOnce_4 : decode tb_X_enqueueOnce 4 = .ok (.getfield 69, 3) := by decide +kernel
theorem d_X_enqueueOnce_7 : decode tb_X_enqueueOnce 7 = .ok (.getfield 73, 3) := by decide +kernel
theorem d_X_enqueueOnce_10 : decode tb_X_enqueueOnce 10 = .ok (.if_icmp .ge 26, 3) := by decide +kernel
theorem d_X_enqueueOnce_13 : decode tb_X_enqueueOnce 13 = .ok (.aload_n 1, 1) := by decide +kernel
theorem d_X_enqueueOnce_14 : decode tb_X_enqueueOnce 14 = .ok (.getfield 69, 3) := by decide +kernel
theorem d_X_enqueueOnce_17 : decode tb_X_enqueueOnce 17 = .ok (.getfield 169, 3) := by decide +kernel
theorem d_X_enqueueOnce_20 : decode tb_X_enqueueOnce 20 = .ok (.iload_n 3, 1) := by decide +kernel
theorem d_X_enqueueOnce_21 : decode tb_X_enqueueOnce 21 = .ok (.aaload, 1) := by decide +kernel
theorem d_X_enqueueOnce_22 : decode tb_X_enqueueOnce 22 = .ok (.getfield 181, 3) := by decide +kernel
theorem d_X_enqueueOnce_25 : decode tb_X_enqueueOnce 25 = .ok (.iload_n 2, 1) := by decide +kernel
theorem d_X_enqueueOnce_26 : decode tb_X_enqueueOnce 26 = .ok (.if_icmp .ne 4, 3) := by decide +kernel
theorem d_X_enqueueOnce_29 : decode tb_X_enqueueOnce 29 = .ok (.return_, 1) := by decide +kernel
theorem d_X_enqueueOnce_30 : decode tb_X_enqueueOnce 30 = .ok (.iinc 3 1, 3) := by decide +kernel
theorem d_X_enqueueOnce_33 : decode tb_X_enqueueOnce 33 = .ok (.goto (-31), 3) := by decide +kernel
theorem d_X_enqueueOnce_36 : decode tb_X_enqueueOnce 36 = .ok (.aload_n 0, 1) := by decide +kernel
theorem d_X_enqueueOnce_37 : decode tb_X_enqueueOnce 37 = .ok (.aload_n 1, 1) := by decide +kernel
theorem d_X_enqueueOnce_38 : decode tb_X_enqueueOnce 38 = .ok (.iload_n 2, 1) := by decide +kernel
theorem d_X_enqueueOnce_39 : decode tb_X_enqueueOnce 39 = .ok (.iconst (-1), 1) := by decide +kernel
theorem d_X_enqueueOnce_40 : decode tb_X_enqueueOnce 40 = .ok (.invokevirtual 194, 3) := by decide +kernel
theorem d_X_enqueueOnce_43 : decode tb_X_enqueueOnce 43 = .ok (.pop, 1) := by decide +kernel
theorem d_X_enqueueOnce_44 : decode tb_X_enqueueOnce 44 = .ok (.return_, 1) := by decide +kernel
theorem d_X_removeFirst_0 : decode tb_X_removeFirst 0 = .ok (.aload_n 1, 1) := by decide +kernel
theorem d_X_removeFirst_1 : decode tb_X_removeFirst 1 = .ok (.getfield 169, 3) := by decide +kernel
theorem d_X_removeFirst_4 : decode tb_X_removeFirst 4 = .ok (.iconst 0, 1) := by decide +kernel
theorem d_X_removeFirst_5 : decode tb_X_removeFirst 5 = .ok (.aaload, 1) := by decide +kernel
theorem d_X_removeFirst_6 : decode tb_X_removeFirst 6 = .ok (.astore_n 2, 1) := by decide +kernel
theorem d_X_removeFirst_7 : decode tb_X_removeFirst 7 = .ok (.iconst 1, 1) := by decide +kernel
theorem d_X_removeFirst_8 : decode tb_X_removeFirst 8 = .ok (.istore_n 3, 1) := by decide +kernel
theorem d_X_removeFirst_9 : decode tb_X_removeFirst 9 = .ok (.iload_n 3, 1) := by decide +kernel
theorem d_X_removeFirst_10 : decode tb_X_removeFirst 10 = .ok (.iconst 4, 1) := by decide +kernel
theorem d_X_removeFirst_11 : decode tb_X_removeFirst 11 = .ok (.if_icmp .ge 23, 3) := by decide +kernel
theorem d_X_removeFirst_14 : decode tb_X_removeFirst 14 = .ok (.aload_n 1, 1) := by decide +kernel
theorem d_X_removeFirst_15 : decode tb_X_removeFirst 15 = .ok (.getfield 169, 3) := by decide +kernel
theorem d_X_removeFirst_18 : decode tb_X_removeFirst 18 = .ok (.iload_n 3, 1) := by decide +kernel
theorem d_X_removeFirst_19 : decode tb_X_removeFirst 19 = .ok (.iconst 1, 1) := by decide +kernel
theorem d_X_removeFirst_20 : decode tb_X_removeFirst 20 = .ok (.isub, 1) := by decide +kernel
theorem d_X_removeFirst_21 : decode tb_X_removeFirst 21 = .ok (.aload_n 1, 1) := by decide +kernel
theorem d_X_removeFirst_22 : decode tb_X_removeFirst 22 = .ok (.getfield 169, 3) := by decide +kernel
theorem d_X_removeFirst_25 : decode tb_X_removeFirst 25 = .ok (.iload_n 3, 1) := by decide +kernel
theorem d_X_removeFirst_26 : decode tb_X_removeFirst 26 = .ok (.aaload, 1) := by decide +kernel
theorem d_X_removeFirst_27 : decode tb_X_removeFirst 27 = .ok (.aastore, 1) := by decide +kernel
theorem d_X_removeFirst_28 : decode tb_X_removeFirst 28 = .ok (.iinc 3 1, 3) := by decide +kernel
theorem d_X_removeFirst_31 : decode tb_X_removeFirst 31 = .ok (.goto (-22), 3) := by decide +kernel
theorem d_X_removeFirst_34 : decode tb_X_removeFirst 34 = .ok (.aload_n 1, 1) := by decide +kernel
theorem d_X_removeFirst_35 : decode tb_X_removeFirst 35 = .ok (.getfield 169, 3) := by decide +kernel
theorem d_X_removeFirst_38 : decode tb_X_removeFirst 38 = .ok (.iconst 3, 1) := by decide +kernel
theorem d_X_removeFirst_39 : decode tb_X_removeFirst 39 = .ok (.aload_n 2, 1) := by decide +kernel
theorem d_X_removeFirst_40 : decode tb_X_removeFirst 40 = .ok (.aastore, 1) := by decide +kernel
theorem d_X_removeFirst_41 : decode tb_X_removeFirst 41 = .ok (.aload_n 1, 1) := by decide +kernel
theorem d_X_removeFirst_42 : decode tb_X_removeFirst 42 = .ok (.dup, 1) := by decide +kernel
theorem d_X_removeFirst_43 : decode tb_X_removeFirst 43 = .ok (.getfield 73, 3) := by decide +kernel
theorem d_X_removeFirst_46 : decode tb_X_removeFirst 46 = .ok (.iconst 1, 1) := by decide +kernel
theorem d_X_removeFirst_47 : decode tb_X_removeFirst 47 = .ok (.isub, 1) := by decide +kernel
theorem d_X_removeFirst_48 : decode tb_X_removeFirst 48 = .ok (.putfield 73, 3) := by decide +kernel
theorem d_X_removeFirst_51 : decode tb_X_removeFirst 51 = .ok (.aload_n 1, 1) := by decide +kernel
theorem d_X_removeFirst_52 : decode tb_X_removeFirst 52 = .ok (.getfield 73, 3) := by decide +kernel
theorem d_X_removeFirst_55 : decode tb_X_removeFirst 55 = .ok (.ifCond .le 12, 3) := by decide +kernel
theorem d_X_removeFirst_58 : decode tb_X_removeFirst 58 = .ok (.aload_n 1, 1) := by decide +kernel
theorem d_X_removeFirst_59 : decode tb_X_removeFirst 59 = .ok (.aload_n 0, 1) := by decide +kernel
theorem d_X_removeFirst_60 : decode tb_X_removeFirst 60 = .ok (.iconst 4, 1) := by decide +kernel
theorem d_X_removeFirst_61 : decode tb_X_removeFirst 61 = .ok (.invokevirtual 187, 3) := by decide +kernel
theorem d_X_removeFirst_64 : decode tb_X_removeFirst 64 = .ok (.invokevirtual 191, 3) := by decide +kernel
theorem d_X_removeFirst_67 : decode tb_X_removeFirst 67 = .ok (.return_, 1) := by decide +kernel
theorem d_X_failFirst_0 : decode tb_X_failFirst 0 = .ok (.aload_n 1, 1) := by decide +kernel
theorem d_X_failFirst_1 : decode tb_X_failFirst 1 = .ok (.getfield 69, 3) := by decide +kernel
theorem d_X_failFirst_4 : decode tb_X_failFirst 4 = .ok (.getfield 169, 3) := by decide +kernel
theorem d_X_failFirst_7 : decode tb_X_failFirst 7 = .ok (.iconst 0, 1) := by decide +kernel
theorem d_X_failFirst_8 : decode tb_X_failFirst 8 = .ok (.aaload, 1) := by decide +kernel
theorem d_X_failFirst_9 : decode tb_X_failFirst 9 = .ok (.astore_n 2, 1) := by decide +kernel
theorem d_X_failFirst_10 : decode tb_X_failFirst 10 = .ok (.aload_n 2, 1) := by decide +kernel
theorem d_X_failFirst_11 : decode tb_X_failFirst 11 = .ok (.getfield 184, 3) := by decide +kernel
theorem d_X_failFirst_14 : decode tb_X_failFirst 14 = .ok (.istore_n 3, 1) := by decide +kernel
theorem d_X_failFirst_15 : decode tb_X_failFirst 15 = .ok (.aload_n 2, 1) := by decide +kernel
theorem d_X_failFirst_16 : decode tb_X_failFirst 16 = .ok (.getfield 181, 3) := by decide +kernel
theorem d_X_failFirst_19 : decode tb_X_failFirst 19 = .ok (.iconst 4, 1) := by decide +kernel
theorem d_X_failFirst_20 : decode tb_X_failFirst 20 = .ok (.if_icmp .ne 13, 3) := by decide +kernel
theorem d_X_failFirst_23 : decode tb_X_failFirst 23 = .ok (.aload_n 0, 1) := by decide +kernel
theorem d_X_failFirst_24 : decode tb_X_failFirst 24 = .ok (.dup, 1) := by decide +kernel
theorem d_X_failFirst_25 : decode tb_X_failFirst 25 = .ok (.getfield 159, 3) := by decide +kernel
theorem d_X_failFirst_28 : decode tb_X_failFirst 28 = .ok (.iconst 1, 1) := by decide +kernel
theorem d_X_failFirst_29 : decode tb_X_failFirst 29 = .ok (.iadd, 1) := by decide +kernel
theorem d_X_failFirst_30 : decode tb_X_failFirst 30 = .ok (.putfield 159, 3) := by decide +kernel
theorem d_X_failFirst_33 : decode tb_X_failFirst 33 = .ok (.aload_n 0, 1) := by decide +kernel
theorem d_X_failFirst_34 : decode tb_X_failFirst 34 = .ok (.aload_n 1, 1) := by decide +kernel
theorem d_X_failFirst_35 : decode tb_X_failFirst 35 = .ok (.getfield 69, 3) := by decide +kernel
theorem d_X_failFirst_38 : decode tb_X_failFirst 38 = .ok (.invokevirtual 198, 3) := by decide +kernel
theorem d_X_failFirst_41 : decode tb_X_failFirst 41 = .ok (.iload_n 3, 1) := by decide +kernel
theorem d_X_failFirst_42 : decode tb_X_failFirst 42 = .ok (.iconst (-1), 1) := by decide +kernel
theorem d_X_failFirst_43 : decode tb_X_failFirst 43 = .ok (.if_icmp .ne 4, 3) := by decide +kernel
theorem d_X_failFirst_46 : decode tb_X_failFirst 46 = .ok (.return_, 1) := by decide +kernel
theorem d_X_failFirst_47 : decode tb_X_failFirst 47 = .ok (.iconst 0, 1) := by decide +kernel
theorem d_X_failFirst_48 : decode tb_X_failFirst 48 = .ok (.istore 4, 2) := by decide +kernel
theorem d_X_failFirst_50 : decode tb_X_failFirst 50 = .ok (.iload 4, 2) := by decide +kernel
theorem d_X_failFirst_52 : decode tb_X_failFirst 52 = .ok (.bipush 7, 2) := by decide +kernel
theorem d_X_failFirst_54 : decode tb_X_failFirst 54 = .ok (.if_icmp .ge 28, 3) := by decide +kernel
theorem d_X_failFirst_57 : decode tb_X_failFirst 57 = .ok (.aload_n 1, 1) := by decide +kernel
theorem d_X_failFirst_58 : decode tb_X_failFirst 58 = .ok (.getfield 147, 3) := by decide +kernel
theorem d_X_failFirst_61 : decode tb_X_failFirst 61 = .ok (.iload 4, 2) := by decide +kernel
theorem d_X_failFirst_63 : decode tb_X_failFirst 63 = .ok (.iaload, 1) := by decide +kernel
theorem d_X_failFirst_64 : decode tb_X_failFirst 64 = .ok (.iload_n 3, 1) := by decide +kernel
theorem d_X_failFirst_65 : decode tb_X_failFirst 65 = .ok (.if_icmp .ne 11, 3) := by decide +kernel
theorem d_X_failFirst_68 : decode tb_X_failFirst 68 = .ok (.aload_n 1, 1) := by decide +kernel
theorem d_X_failFirst_69 : decode tb_X_failFirst 69 = .ok (.getfield 147, 3) := by decide +kernel
theorem d_X_failFirst_72 : decode tb_X_failFirst 72 = .ok (.iload 4, 2) := by decide +kernel
theorem d_X_failFirst_74 : decode tb_X_failFirst 74 = .ok (.iconst (-1), 1) := by decide +kernel
theorem d_X_failFirst_75 : decode tb_X_failFirst 75 = .ok (.iastore, 1) := by decide +kernel
theorem d_X_failFirst_76 : decode tb_X_failFirst 76 = .ok (.iinc 4 1, 3) := by decide +kernel
theorem d_X_failFirst_79 : decode tb_X_failFirst 79 = .ok (.goto (-29), 3) := by decide +kernel
theorem d_X_failFirst_82 : decode tb_X_failFirst 82 = .ok (.aload_n 1, 1) := by decide +kernel
theorem d_X_failFirst_83 : decode tb_X_failFirst 83 = .ok (.getfield 115, 3) := by decide +kernel
theorem d_X_failFirst_86 : decode tb_X_failFirst 86 = .ok (.iload_n 3, 1) := by decide +kernel
theorem d_X_failFirst_87 : decode tb_X_failFirst 87 = .ok (.if_icmp .ne 15, 3) := by decide +kernel
theorem d_X_failFirst_90 : decode tb_X_failFirst 90 = .ok (.aload_n 1, 1) := by decide +kernel
theorem d_X_failFirst_91 : decode tb_X_failFirst 91 = .ok (.getfield 150, 3) := by decide +kernel
theorem d_X_failFirst_94 : decode tb_X_failFirst 94 = .ok (.iload_n 3, 1) := by decide +kernel
theorem d_X_failFirst_95 : decode tb_X_failFirst 95 = .ok (.iconst 0, 1) := by decide +kernel
theorem d_X_failFirst_96 : decode tb_X_failFirst 96 = .ok (.iastore, 1) := by decide +kernel
theorem d_X_failFirst_97 : decode tb_X_failFirst 97 = .ok (.aload_n 0, 1) := by decide +kernel
theorem d_X_failFirst_98 : decode tb_X_failFirst 98 = .ok (.aload_n 1, 1) := by decide +kernel
theorem d_X_failFirst_99 : decode tb_X_failFirst 99 = .ok (.invokevirtual 202, 3) := by decide +kernel
theorem d_X_failFirst_102 : decode tb_X_failFirst 102 = .ok (.return_, 1) := by decide +kernel
theorem d_X_rememberTheAir_0 : decode tb_X_rememberTheAir 0 = .ok (.iconst 0, 1) := by decide +kernel
theorem d_X_rememberTheAir_1 : decode tb_X_rememberTheAir 1 = .ok (.istore_n 1, 1) := by decide +kernel
theorem d_X_rememberTheAir_2 : decode tb_X_rememberTheAir 2 = .ok (.iload_n 1, 1) := by decide +kernel
theorem d_X_rememberTheAir_3 : decode tb_X_rememberTheAir 3 = .ok (.bipush 7, 2) := by decide +kernel
theorem d_X_rememberTheAir_5 : decode tb_X_rememberTheAir 5 = .ok (.if_icmp .ge 40, 3) := by decide +kernel
theorem d_X_rememberTheAir_8 : decode tb_X_rememberTheAir 8 = .ok (.aload_n 0, 1) := by decide +kernel
theorem d_X_rememberTheAir_9 : decode tb_X_rememberTheAir 9 = .ok (.getfield 11, 3) := by decide +kernel
theorem d_X_rememberTheAir_12 : decode tb_X_rememberTheAir 12 = .ok (.iload_n 1, 1) := by decide +kernel
theorem d_X_rememberTheAir_13 : decode tb_X_rememberTheAir 13 = .ok (.aaload, 1) := by decide +kernel
theorem d_X_rememberTheAir_14 : decode tb_X_rememberTheAir 14 = .ok (.getfield 69, 3) := by decide +kernel
theorem d_X_rememberTheAir_17 : decode tb_X_rememberTheAir 17 = .ok (.astore_n 2, 1) := by decide +kernel
theorem d_X_rememberTheAir_18 : decode tb_X_rememberTheAir 18 = .ok (.aload_n 2, 1) := by decide +kernel
theorem d_X_rememberTheAir_19 : decode tb_X_rememberTheAir 19 = .ok (.aload_n 2, 1) := by decide +kernel
theorem d_X_rememberTheAir_20 : decode tb_X_rememberTheAir 20 = .ok (.getfield 205, 3) := by decide +kernel
theorem d_X_rememberTheAir_23 : decode tb_X_rememberTheAir 23 = .ok (.ifCond .eq 7, 3) := by decide +kernel
theorem d_X_rememberTheAir_26 : decode tb_X_rememberTheAir 26 = .ok (.iconst 1, 1) := by decide +kernel
theorem d_X_rememberTheAir_27 : decode tb_X_rememberTheAir 27 = .ok (.goto 4, 3) := by decide +kernel
theorem d_X_rememberTheAir_30 : decode tb_X_rememberTheAir 30 = .ok (.iconst 0, 1) := by decide +kernel
theorem d_X_rememberTheAir_31 : decode tb_X_rememberTheAir 31 = .ok (.putfield 208, 3) := by decide +kernel
theorem d_X_rememberTheAir_34 : decode tb_X_rememberTheAir 34 = .ok (.aload_n 2, 1) := by decide +kernel
theorem d_X_rememberTheAir_35 : decode tb_X_rememberTheAir 35 = .ok (.iconst 0, 1) := by decide +kernel
theorem d_X_rememberTheAir_36 : decode tb_X_rememberTheAir 36 = .ok (.putfield 205, 3) := by decide +kernel
theorem d_X_rememberTheAir_39 : decode tb_X_rememberTheAir 39 = .ok (.iinc 1 1, 3) := by decide +kernel
theorem d_X_rememberTheAir_42 : decode tb_X_rememberTheAir 42 = .ok (.goto (-40), 3) := by decide +kernel
theorem d_X_rememberTheAir_45 : decode tb_X_rememberTheAir 45 = .ok (.return_, 1) := by decide +kernel
theorem d_X_goOnTheAir_0 : decode tb_X_goOnTheAir 0 = .ok (.iconst 0, 1) := by decide +kernel
theorem d_X_goOnTheAir_1 : decode tb_X_goOnTheAir 1 = .ok (.istore_n 1, 1) := by decide +kernel
theorem d_X_goOnTheAir_2 : decode tb_X_goOnTheAir 2 = .ok (.iload_n 1, 1) := by decide +kernel
theorem d_X_goOnTheAir_3 : decode tb_X_goOnTheAir 3 = .ok (.bipush 7, 2) := by decide +kernel
theorem d_X_goOnTheAir_5 : decode tb_X_goOnTheAir 5 = .ok (.if_icmp .ge 158, 3) := by decide +kernel
theorem d_X_goOnTheAir_8 : decode tb_X_goOnTheAir 8 = .ok (.aload_n 0, 1) := by decide +kernel
theorem d_X_goOnTheAir_9 : decode tb_X_goOnTheAir 9 = .ok (.getfield 11, 3) := by decide +kernel
theorem d_X_goOnTheAir_12 : decode tb_X_goOnTheAir 12 = .ok (.iload_n 1, 1) := by decide +kernel
theorem d_X_goOnTheAir_13 : decode tb_X_goOnTheAir 13 = .ok (.aaload, 1) := by decide +kernel
theorem d_X_goOnTheAir_14 : decode tb_X_goOnTheAir 14 = .ok (.astore_n 2, 1) := by decide +kernel
theorem d_X_goOnTheAir_15 : decode tb_X_goOnTheAir 15 = .ok (.aload_n 2, 1) := by decide +kernel
theorem d_X_goOnTheAir_16 : decode tb_X_goOnTheAir 16 = .ok (.getfield 69, 3) := by decide +kernel
theorem d_X_goOnTheAir_19 : decode tb_X_goOnTheAir 19 = .ok (.astore_n 3, 1) := by decide +kernel
theorem d_X_goOnTheAir_20 : decode tb_X_goOnTheAir 20 = .ok (.aload_n 3, 1) := by decide +kernel
theorem d_X_goOnTheAir_21 : decode tb_X_goOnTheAir 21 = .ok (.getfield 78, 3) := by decide +kernel
theorem d_X_goOnTheAir_24 : decode tb_X_goOnTheAir 24 = .ok (.iconst (-1), 1) := by decide +kernel
theorem d_X_goOnTheAir_25 : decode tb_X_goOnTheAir 25 = .ok (.if_icmp .eq 24, 3) := by decide +kernel
theorem d_X_goOnTheAir_28 : decode tb_X_goOnTheAir 28 = .ok (.aload_n 3, 1) := by decide +kernel
theorem d_X_goOnTheAir_29 : decode tb_X_goOnTheAir 29 = .ok (.iconst 1, 1) := by decide +kernel
theorem d_X_goOnTheAir_30 : decode tb_X_goOnTheAir 30 = .ok (.putfield 205, 3) := by decide +kernel
theorem d_X_goOnTheAir_33 : decode tb_X_goOnTheAir 33 = .ok (.aload_n 3, 1) := by decide +kernel
theorem d_X_goOnTheAir_34 : decode tb_X_goOnTheAir 34 = .ok (.aload_n 3, 1) := by decide +kernel
theorem d_X_goOnTheAir_35 : decode tb_X_goOnTheAir 35 = .ok (.getfield 78, 3) := by decide +kernel
theorem d_X_goOnTheAir_38 : decode tb_X_goOnTheAir 38 = .ok (.putfield 211, 3) := by decide +kernel
theorem d_X_goOnTheAir_41 : decode tb_X_goOnTheAir 41 = .ok (.aload_n 3, 1) := by decide +kernel
theorem d_X_goOnTheAir_42 : decode tb_X_goOnTheAir 42 = .ok (.iconst (-1), 1) := by decide +kernel
theorem d_X_goOnTheAir_43 : decode tb_X_goOnTheAir 43 = .ok (.putfield 78, 3) := by decide +kernel
theorem d_X_goOnTheAir_46 : decode tb_X_goOnTheAir 46 = .ok (.goto 111, 3) := by decide +kernel
theorem d_X_goOnTheAir_49 : decode tb_X_goOnTheAir 49 = .ok (.aload_n 3, 1) := by decide +kernel
theorem d_X_goOnTheAir_50 : decode tb_X_goOnTheAir 50 = .ok (.getfield 81, 3) := by decide +kernel
theorem d_X_goOnTheAir_53 : decode tb_X_goOnTheAir 53 = .ok (.ifCond .ne 104, 3) := by decide +kernel
theorem d_X_goOnTheAir_56 : decode tb_X_goOnTheAir 56 = .ok (.aload_n 3, 1) := by decide +kernel
theorem d_X_goOnTheAir_57 : decode tb_X_goOnTheAir 57 = .ok (.getfield 73, 3) := by decide +kernel
theorem d_X_goOnTheAir_60 : decode tb_X_goOnTheAir 60 = .ok (.ifCond .ne 6, 3) := by decide +kernel
theorem d_X_goOnTheAir_63 : decode tb_X_goOnTheAir 63 = .ok (.goto 94, 3) := by decide +kernel
theorem d_X_goOnTheAir_66 : decode tb_X_goOnTheAir 66 = .ok (.aload_n 3, 1) := by decide +kernel
theorem d_X_goOnTheAir_67 : decode tb_X_goOnTheAir 67 = .ok (.getfield 127, 3) := by decide +kernel
theorem d_X_goOnTheAir_70 : decode tb_X_goOnTheAir 70 = .ok (.ifCond .le 16, 3) := by decide +kernel
theorem d_X_goOnTheAir_73 : decode tb_X_goOnTheAir 73 = .ok (.aload_n 3, 1) := by decide +kernel
theorem d_X_goOnTheAir_74 : decode tb_X_goOnTheAir 74 = .ok (.dup, 1) := by decide +kernel
theorem d_X_goOnTheAir_75 : decode tb_X_goOnTheAir 75 = .ok (.getfield 127, 3) := by decide +kernel
theorem d_X_goOnTheAir_78 : decode tb_X_goOnTheAir 78 = .ok (.iconst 1, 1) := by decide +kernel
theorem d_X_goOnTheAir_79 : decode tb_X_goOnTheAir 79 = .ok (.isub, 1) := by decide +kernel
theorem d_X_goOnTheAir_80 : decode tb_X_goOnTheAir 80 = .ok (.putfield 127, 3) := by decide +kernel
theorem d_X_goOnTheAir_83 : decode tb_X_goOnTheAir 83 = .ok (.goto 74, 3) := by decide +kernel
theorem d_X_goOnTheAir_86 : decode tb_X_goOnTheAir 86 = .ok (.aload_n 0, 1) := by decide +kernel
theorem d_X_goOnTheAir_87 : decode tb_X_goOnTheAir 87 = .ok (.aload_n 2, 1) := by decide +kernel
theorem d_X_goOnTheAir_88 : decode tb_X_goOnTheAir 88 = .ok (.invokevirtual 214, 3) := by decide +kernel
theorem d_X_goOnTheAir_91 : decode tb_X_goOnTheAir 91 = .ok (.ifCond .ne 21, 3) := by decide +kernel
theorem d_X_goOnTheAir_94 : decode tb_X_goOnTheAir 94 = .ok (.aload_n 3, 1) := by decide +kernel
theorem d_X_goOnTheAir_95 : decode tb_X_goOnTheAir 95 = .ok (.iconst 2, 1) := by decide +kernel
theorem d_X_goOnTheAir_96 : decode tb_X_goOnTheAir 96 = .ok (.putfield 205, 3) := by decide +kernel
theorem d_X_goOnTheAir_99 : decode tb_X_goOnTheAir 99 = .ok (.aload_n 0, 1) := by decide +kernel
theorem d_X_goOnTheAir_100 : decode tb_X_goOnTheAir 100 = .ok (.dup, 1) := by decide +kernel
theorem d_X_goOnTheAir_101 : decode tb_X_goOnTheAir 101 = .ok (.getfield 165, 3) := by decide +kernel
theorem d_X_goOnTheAir_104 : decode tb_X_goOnTheAir 104 = .ok (.iconst 1, 1) := by decide +kernel
theorem d_X_goOnTheAir_105 : decode tb_X_goOnTheAir 105 = .ok (.iadd, 1) := by decide +kernel
theorem d_X_goOnTheAir_106 : decode tb_X_goOnTheAir 106 = .ok (.putfield 165, 3) := by decide +kernel
theorem d_X_goOnTheAir_109 : decode tb_X_goOnTheAir 109 = .ok (.goto 48, 3) := by decide +kernel
theorem d_X_goOnTheAir_112 : decode tb_X_goOnTheAir 112 = .ok (.aload_n 3, 1) := by decide +kernel
theorem d_X_goOnTheAir_113 : decode tb_X_goOnTheAir 113 = .ok (.dup, 1) := by decide +kernel
theorem d_X_goOnTheAir_114 : decode tb_X_goOnTheAir 114 = .ok (.getfield 130, 3) := by decide +kernel
theorem d_X_goOnTheAir_117 : decode tb_X_goOnTheAir 117 = .ok (.iconst 1, 1) := by decide +kernel
theorem d_X_goOnTheAir_118 : decode tb_X_goOnTheAir 118 = .ok (.iadd, 1) := by decide +kernel
theorem d_X_goOnTheAir_119 : decode tb_X_goOnTheAir 119 = .ok (.putfield 130, 3) := by decide +kernel
theorem d_X_goOnTheAir_122 : decode tb_X_goOnTheAir 122 = .ok (.aload_n 3, 1) := by decide +kernel
theorem d_X_goOnTheAir_123 : decode tb_X_goOnTheAir 123 = .ok (.getfield 130, 3) := by decide +kernel
theorem d_X_goOnTheAir_126 : decode tb_X_goOnTheAir 126 = .ok (.iconst 5, 1) := by decide +kernel
theorem d_X_goOnTheAir_127 : decode tb_X_goOnTheAir 127 = .ok (.if_icmp .ne 11, 3) := by decide +kernel
theorem d_X_goOnTheAir_130 : decode tb_X_goOnTheAir 130 = .ok (.aload_n 0, 1) := by decide +kernel
theorem d_X_goOnTheAir_131 : decode tb_X_goOnTheAir 131 = .ok (.aload_n 2, 1) := by decide +kernel
theorem d_X_goOnTheAir_132 : decode tb_X_goOnTheAir 132 = .ok (.invokevirtual 218, 3) := by decide +kernel
theorem d_X_goOnTheAir_135 : decode tb_X_goOnTheAir 135 = .ok (.goto 22, 3) := by decide +kernel
theorem d_X_goOnTheAir_138 : decode tb_X_goOnTheAir 138 = .ok (.aload_n 3, 1) := by decide +kernel
theorem d_X_goOnTheAir_139 : decode tb_X_goOnTheAir 139 = .ok (.aload_n 0, 1) := by decide +kernel
theorem d_X_goOnTheAir_140 : decode tb_X_goOnTheAir 140 = .ok (.bipush 32, 2) := by decide +kernel
theorem d_X_goOnTheAir_142 : decode tb_X_goOnTheAir 142 = .ok (.iconst 4, 1) := by decide +kernel
theorem d_X_goOnTheAir_143 : decode tb_X_goOnTheAir 143 = .ok (.aload_n 3, 1) := by decide +kernel
theorem d_X_goOnTheAir_144 : decode tb_X_goOnTheAir 144 = .ok (.getfield 130, 3) := by decide +kernel
theorem d_X_goOnTheAir_147 : decode tb_X_goOnTheAir 147 = .ok (.ishl, 1) := by decide +kernel
theorem d_X_goOnTheAir_148 : decode tb_X_goOnTheAir 148 = .ok (.invokestatic 24, 3) := by decide +kernel
theorem d_X_goOnTheAir_151 : decode tb_X_goOnTheAir 151 = .ok (.invokevirtual 187, 3) := by decide +kernel
theorem d_X_goOnTheAir_154 : decode tb_X_goOnTheAir 154 = .ok (.putfield 127, 3) := by decide +kernel
theorem d_X_goOnTheAir_157 : decode tb_X_goOnTheAir 157 = .ok (.iinc 1 1, 3) := by decide +kernel
theorem d_X_goOnTheAir_160 : decode tb_X_goOnTheAir 160 = .ok (.goto (-158), 3) := by decide +kernel
theorem d_X_goOnTheAir_163 : decode tb_X_goOnTheAir 163 = .ok (.return_, 1) := by decide +kernel
theorem d_X_seemsBusy_0 : decode tb_X_seemsBusy 0 = .ok (.iconst 0, 1) := by decide +kernel
theorem d_X_seemsBusy_1 : decode tb_X_seemsBusy 1 = .ok (.istore_n 2, 1) := by decide +kernel
theorem d_X_seemsBusy_2 : decode tb_X_seemsBusy 2 = .ok (.iload_n 2, 1) := by decide +kernel
theorem d_X_seemsBusy_3 : decode tb_X_seemsBusy 3 = .ok (.bipush 7, 2) := by decide +kernel
theorem d_X_seemsBusy_5 : decode tb_X_seemsBusy 5 = .ok (.if_icmp .ge 40, 3) := by decide +kernel
theorem d_X_seemsBusy_8 : decode tb_X_seemsBusy 8 = .ok (.aload_n 0, 1) := by decide +kernel
theorem d_X_seemsBusy_9 : decode tb_X_seemsBusy 9 = .ok (.getfield 17, 3) := by decide +kernel
theorem d_X_seemsBusy_12 : decode tb_X_seemsBusy 12 = .ok (.aload_n 1, 1) := by decide +kernel
theorem d_X_seemsBusy_13 : decode tb_X_seemsBusy 13 = .ok (.getfield 221, 3) := by decide +kernel
theorem d_X_seemsBusy_16 : decode tb_X_seemsBusy 16 = .ok (.aaload, 1) := by decide +kernel
theorem d_X_seemsBusy_17 : decode tb_X_seemsBusy 17 = .ok (.iload_n 2, 1) := by decide +kernel
theorem d_X_seemsBusy_18 : decode tb_X_seemsBusy 18 = .ok (.iaload, 1) := by decide +kernel
theorem d_X_seemsBusy_19 : decode tb_X_seemsBusy 19 = .ok (.ifCond .le 20, 3) := by decide +kernel
theorem d_X_seemsBusy_22 : decode tb_X_seemsBusy 22 = .ok (.aload_n 0, 1) := by decide +kernel
theorem d_X_seemsBusy_23 : decode tb_X_seemsBusy 23 = .ok (.getfield 11, 3) := by decide +kernel
theorem d_X_seemsBusy_26 : decode tb_X_seemsBusy 26 = .ok (.iload_n 2, 1) := by decide +kernel
theorem d_X_seemsBusy_27 : decode tb_X_seemsBusy 27 = .ok (.aaload, 1) := by decide +kernel
theorem d_X_seemsBusy_28 : decode tb_X_seemsBusy 28 = .ok (.getfield 69, 3) := by decide +kernel
theorem d_X_seemsBusy_31 : decode tb_X_seemsBusy 31 = .ok (.getfield 208, 3) := by decide +kernel
theorem d_X_seemsBusy_34 : decode tb_X_seemsBusy 34 = .ok (.ifCond .eq 5, 3) := by decide +kernel
theorem d_X_seemsBusy_37 : decode tb_X_seemsBusy 37 = .ok (.iconst 1, 1) := by decide +kernel
theorem d_X_seemsBusy_38 : decode tb_X_seemsBusy 38 = .ok (.ireturn, 1) := by decide +kernel
theorem d_X_seemsBusy_39 : decode tb_X_seemsBusy 39 = .ok (.iinc 2 1, 3) := by decide +kernel
theorem d_X_seemsBusy_42 : decode tb_X_seemsBusy 42 = .ok (.goto (-40), 3) := by decide +kernel
theorem d_X_seemsBusy_45 : decode tb_X_seemsBusy 45 = .ok (.iconst 0, 1) := by decide +kernel
theorem d_X_seemsBusy_46 : decode tb_X_seemsBusy 46 = .ok (.ireturn, 1) := by decide +kernel
theorem d_X_hearTheAir_0 : decode tb_X_hearTheAir 0 = .ok (.iconst 0, 1) := by decide +kernel
theorem d_X_hearTheAir_1 : decode tb_X_hearTheAir 1 = .ok (.istore_n 1, 1) := by decide +kernel
theorem d_X_hearTheAir_2 : decode tb_X_hearTheAir 2 = .ok (.iload_n 1, 1) := by decide +kernel
theorem d_X_hearTheAir_3 : decode tb_X_hearTheAir 3 = .ok (.bipush 7, 2) := by decide +kernel
theorem d_X_hearTheAir_5 : decode tb_X_hearTheAir 5 = .ok (.if_icmp .ge 59, 3) := by decide +kernel
theorem d_X_hearTheAir_8 : decode tb_X_hearTheAir 8 = .ok (.aload_n 0, 1) := by decide +kernel
theorem d_X_hearTheAir_9 : decode tb_X_hearTheAir 9 = .ok (.getfield 11, 3) := by decide +kernel
theorem d_X_hearTheAir_12 : decode tb_X_hearTheAir 12 = .ok (.iload_n 1, 1) := by decide +kernel
theorem d_X_hearTheAir_13 : decode tb_X_hearTheAir 13 = .ok (.aaload, 1) := by decide +kernel
theorem d_X_hearTheAir_14 : decode tb_X_hearTheAir 14 = .ok (.astore_n 2, 1) := by decide +kernel
theorem d_X_hearTheAir_15 : decode tb_X_hearTheAir 15 = .ok (.aload_n 2, 1) := by decide +kernel
theorem d_X_hearTheAir_16 : decode tb_X_hearTheAir 16 = .ok (.getfield 66, 3) := by decide +kernel
theorem d_X_hearTheAir_19 : decode tb_X_hearTheAir 19 = .ok (.ifCond .eq 17, 3) := by decide +kernel
theorem d_X_hearTheAir_22 : decode tb_X_hearTheAir 22 = .ok (.aload_n 2, 1) := by decide +kernel
theorem d_X_hearTheAir_23 : decode tb_X_hearTheAir 23 = .ok (.getfield 69, 3) := by decide +kernel
theorem d_X_hearTheAir_26 : decode tb_X_hearTheAir 26 = .ok (.getfield 205, 3) := by decide +kernel
theorem d_X_hearTheAir_29 : decode tb_X_hearTheAir 29 = .ok (.ifCond .ne 7, 3) := by decide +kernel
theorem d_X_hearTheAir_32 : decode tb_X_hearTheAir 32 = .ok (.iconst 1, 1) := by decide +kernel
theorem d_X_hearTheAir_33 : decode tb_X_hearTheAir 33 = .ok (.goto 4, 3) := by decide +kernel
theorem d_X_hearTheAir_36 : decode tb_X_hearTheAir 36 = .ok (.iconst 0, 1) := by decide +kernel
theorem d_X_hearTheAir_37 : decode tb_X_hearTheAir 37 = .ok (.istore_n 3, 1) := by decide +kernel
theorem d_X_hearTheAir_38 : decode tb_X_hearTheAir 38 = .ok (.aload_n 2, 1) := by decide +kernel
theorem d_X_hearTheAir_39 : decode tb_X_hearTheAir 39 = .ok (.getfield 69, 3) := by decide +kernel
theorem d_X_hearTheAir_42 : decode tb_X_hearTheAir 42 = .ok (.iload_n 3, 1) := by decide +kernel
theorem d_X_hearTheAir_43 : decode tb_X_hearTheAir 43 = .ok (.ifCond .eq 11, 3) := by decide +kernel
theorem d_X_hearTheAir_46 : decode tb_X_hearTheAir 46 = .ok (.aload_n 0, 1) := by decide +kernel
theorem d_X_hearTheAir_47 : decode tb_X_hearTheAir 47 = .ok (.iload_n 1, 1) := by decide +kernel
theorem d_X_hearTheAir_48 : decode tb_X_hearTheAir 48 = .ok (.invokevirtual 224, 3) := by decide +kernel
theorem d_X_hearTheAir_51 : decode tb_X_hearTheAir 51 = .ok (.goto 4, 3) := by decide +kernel
theorem d_X_hearTheAir_54 : decode tb_X_hearTheAir 54 = .ok (.iconst (-1), 1) := by decide +kernel
theorem d_X_hearTheAir_55 : decode tb_X_hearTheAir 55 = .ok (.putfield 227, 3) := by decide +kernel
theorem d_X_hearTheAir_58 : decode tb_X_hearTheAir 58 = .ok (.iinc 1 1, 3) := by decide +kernel
theorem d_X_hearTheAir_61 : decode tb_X_hearTheAir 61 = .ok (.goto (-59), 3) := by decide +kernel
theorem d_X_hearTheAir_64 : decode tb_X_hearTheAir 64 = .ok (.return_, 1) := by decide +kernel
theorem d_X_onlySpeaker_0 : decode tb_X_onlySpeaker 0 = .ok (.iconst (-1), 1) := by decide +kernel
theorem d_X_onlySpeaker_1 : decode tb_X_onlySpeaker 1 = .ok (.istore_n 2, 1) := by decide +kernel
theorem d_X_onlySpeaker_2 : decode tb_X_onlySpeaker 2 = .ok (.iconst 0, 1) := by decide +kernel
theorem d_X_onlySpeaker_3 : decode tb_X_onlySpeaker 3 = .ok (.istore_n 3, 1) := by decide +kernel
theorem d_X_onlySpeaker_4 : decode tb_X_onlySpeaker 4 = .ok (.iload_n 3, 1) := by decide +kernel
theorem d_X_onlySpeaker_5 : decode tb_X_onlySpeaker 5 = .ok (.bipush 7, 2) := by decide +kernel
theorem d_X_onlySpeaker_7 : decode tb_X_onlySpeaker 7 = .ok (.if_icmp .ge 44, 3) := by decide +kernel
theorem d_X_onlySpeaker_10 : decode tb_X_onlySpeaker 10 = .ok (.aload_n 0, 1) := by decide +kernel
theorem d_X_onlySpeaker_11 : decode tb_X_onlySpeaker 11 = .ok (.getfield 17, 3) := by decide +kernel
theorem d_X_onlySpeaker_14 : decode tb_X_onlySpeaker 14 = .ok (.iload_n 1, 1) := by decide +kernel
theorem d_X_onlySpeaker_15 : decode tb_X_onlySpeaker 15 = .ok (.aaload, 1) := by decide +kernel
theorem d_X_onlySpeaker_16 : decode tb_X_onlySpeaker 16 = .ok (.iload_n 3, 1) := by decide +kernel
theorem d_X_onlySpeaker_17 : decode tb_X_onlySpeaker 17 = .ok (.iaload, 1) := by decide +kernel
theorem d_X_onlySpeaker_18 : decode tb_X_onlySpeaker 18 = .ok (.ifCond .le 27, 3) := by decide +kernel
theorem d_X_onlySpeaker_21 : decode tb_X_onlySpeaker 21 = .ok (.aload_n 0, 1) := by decide +kernel
theorem d_X_onlySpeaker_22 : decode tb_X_onlySpeaker 22 = .ok (.getfield 11, 3) := by decide +kernel
theorem d_X_onlySpeaker_25 : decode tb_X_onlySpeaker 25 = .ok (.iload_n 3, 1) := by decide +kernel
theorem d_X_onlySpeaker_26 : decode tb_X_onlySpeaker 26 = .ok (.aaload, 1) := by decide +kernel
theorem d_X_onlySpeaker_27 : decode tb_X_onlySpeaker 27 = .ok (.getfield 69, 3) := by decide +kernel
theorem d_X_onlySpeaker_30 : decode tb_X_onlySpeaker 30 = .ok (.getfield 205, 3) := by decide +kernel
theorem d_X_onlySpeaker_33 : decode tb_X_onlySpeaker 33 = .ok (.ifCond .eq 12, 3) := by decide +kernel
theorem d_X_onlySpeaker_36 : decode tb_X_onlySpeaker 36 = .ok (.iload_n 2, 1) := by decide +kernel
theorem d_X_onlySpeaker_37 : decode tb_X_onlySpeaker 37 = .ok (.iconst (-1), 1) := by decide +kernel
theorem d_X_onlySpeaker_38 : decode tb_X_onlySpeaker 38 = .ok (.if_icmp .eq 5, 3) := by decide +kernel
theorem d_X_onlySpeaker_41 : decode tb_X_onlySpeaker 41 = .ok (.iconst (-1), 1) := by decide +kernel
theorem d_X_onlySpeaker_42 : decode tb_X_onlySpeaker 42 = .ok (.ireturn, 1) := by decide +kernel
theorem d_X_onlySpeaker_43 : decode tb_X_onlySpeaker 43 = .ok (.iload_n 3, 1) := by decide +kernel
theorem d_X_onlySpeaker_44 : decode tb_X_onlySpeaker 44 = .ok (.istore_n 2, 1) := by decide +kernel
theorem d_X_onlySpeaker_45 : decode tb_X_onlySpeaker 45 = .ok (.iinc 3 1, 3) := by decide +kernel
theorem d_X_onlySpeaker_48 : decode tb_X_onlySpeaker 48 = .ok (.goto (-44), 3) := by decide +kernel
theorem d_X_onlySpeaker_51 : decode tb_X_onlySpeaker 51 = .ok (.iload_n 2, 1) := by decide +kernel
theorem d_X_onlySpeaker_52 : decode tb_X_onlySpeaker 52 = .ok (.ireturn, 1) := by decide +kernel
theorem d_X_takeWhatWasHeard_0 : decode tb_X_takeWhatWasHeard 0 = .ok (.iconst 0, 1) := by decide +kernel
theorem d_X_takeWhatWasHeard_1 : decode tb_X_takeWhatWasHeard 1 = .ok (.istore_n 1, 1) := by decide +kernel
theorem d_X_takeWhatWasHeard_2 : decode tb_X_takeWhatWasHeard 2 = .ok (.iload_n 1, 1) := by decide +kernel
theorem d_X_takeWhatWasHeard_3 : decode tb_X_takeWhatWasHeard 3 = .ok (.bipush 7, 2) := by decide +kernel
theorem d_X_takeWhatWasHeard_5 : decode tb_X_takeWhatWasHeard 5 = .ok (.if_icmp .ge 133, 3) := by decide +kernel
theorem d_X_takeWhatWasHeard_8 : decode tb_X_takeWhatWasHeard 8 = .ok (.aload_n 0, 1) := by decide +kernel
theorem d_X_takeWhatWasHeard_9 : decode tb_X_takeWhatWasHeard 9 = .ok (.getfield 11, 3) := by decide +kernel
theorem d_X_takeWhatWasHeard_12 : decode tb_X_takeWhatWasHeard 12 = .ok (.iload_n 1, 1) := by decide +kernel
theorem d_X_takeWhatWasHeard_13 : decode tb_X_takeWhatWasHeard 13 = .ok (.aaload, 1) := by decide +kernel
theorem d_X_takeWhatWasHeard_14 : decode tb_X_takeWhatWasHeard 14 = .ok (.getfield 69, 3) := by decide +kernel
theorem d_X_takeWhatWasHeard_17 : decode tb_X_takeWhatWasHeard 17 = .ok (.getfield 227, 3) := by decide +kernel
theorem d_X_takeWhatWasHeard_20 : decode tb_X_takeWhatWasHeard 20 = .ok (.istore_n 2, 1) := by decide +kernel
theorem d_X_takeWhatWasHeard_21 : decode tb_X_takeWhatWasHeard 21 = .ok (.iload_n 2, 1) := by decide +kernel
theorem d_X_takeWhatWasHeard_22 : decode tb_X_takeWhatWasHeard 22 = .ok (.iconst (-1), 1) := by decide +kernel
theorem d_X_takeWhatWasHeard_23 : decode tb_X_takeWhatWasHeard 23 = .ok (.if_icmp .ne 6, 3) := by decide +kernel
theorem d_X_takeWhatWasHeard_26 : decode tb_X_takeWhatWasHeard 26 = .ok (.goto 106, 3) := by decide +kernel
theorem d_X_takeWhatWasHeard_29 : decode tb_X_takeWhatWasHeard 29 = .ok (.aload_n 0, 1) := by decide +kernel
theorem d_X_takeWhatWasHeard_30 : decode tb_X_takeWhatWasHeard 30 = .ok (.getfield 11, 3) := by decide +kernel
theorem d_X_takeWhatWasHeard_33 : decode tb_X_takeWhatWasHeard 33 = .ok (.iload_n 1, 1) := by decide +kernel
theorem d_X_takeWhatWasHeard_34 : decode tb_X_takeWhatWasHeard 34 = .ok (.aaload, 1) := by decide +kernel
theorem d_X_takeWhatWasHeard_35 : decode tb_X_takeWhatWasHeard 35 = .ok (.astore_n 3, 1) := by decide +kernel
theorem d_X_takeWhatWasHeard_36 : decode tb_X_takeWhatWasHeard 36 = .ok (.aload_n 0, 1) := by decide +kernel
theorem d_X_takeWhatWasHeard_37 : decode tb_X_takeWhatWasHeard 37 = .ok (.getfield 11, 3) := by decide +kernel
theorem d_X_takeWhatWasHeard_40 : decode tb_X_takeWhatWasHeard 40 = .ok (.iload_n 2, 1) := by decide +kernel
theorem d_X_takeWhatWasHeard_41 : decode tb_X_takeWhatWasHeard 41 = .ok (.aaload, 1) := by decide +kernel
theorem d_X_takeWhatWasHeard_42 : decode tb_X_takeWhatWasHeard 42 = .ok (.astore 4, 2) := by decide +kernel
theorem d_X_takeWhatWasHeard_44 : decode tb_X_takeWhatWasHeard 44 = .ok (.aload 4, 2) := by decide +kernel
theorem d_X_takeWhatWasHeard_46 : decode tb_X_takeWhatWasHeard 46 = .ok (.getfield 69, 3) := by decide +kernel
theorem d_X_takeWhatWasHeard_49 : decode tb_X_takeWhatWasHeard 49 = .ok (.getfield 205, 3) := by decide +kernel
theorem d_X_takeWhatWasHeard_52 : decode tb_X_takeWhatWasHeard 52 = .ok (.iconst 1, 1) := by decide +kernel
theorem d_X_takeWhatWasHeard_53 : decode tb_X_takeWhatWasHeard 53 = .ok (.if_icmp .ne 13, 3) := by decide +kernel
theorem d_X_takeWhatWasHeard_56 : decode tb_X_takeWhatWasHeard 56 = .ok (.aload_n 0, 1) := by decide +kernel
theorem d_X_takeWhatWasHeard_57 : decode tb_X_takeWhatWasHeard 57 = .ok (.aload_n 3, 1) := by decide +kernel
theorem d_X_takeWhatWasHeard_58 : decode tb_X_takeWhatWasHeard 58 = .ok (.aload 4, 2) := by decide +kernel
theorem d_X_takeWhatWasHeard_60 : decode tb_X_takeWhatWasHeard 60 = .ok (.invokevirtual 230, 3) := by decide +kernel
theorem d_X_takeWhatWasHeard_63 : decode tb_X_takeWhatWasHeard 63 = .ok (.goto 69, 3) := by decide +kernel
theorem d_X_takeWhatWasHeard_66 : decode tb_X_takeWhatWasHeard 66 = .ok (.aload 4, 2) := by decide +kernel
theorem d_X_takeWhatWasHeard_68 : decode tb_X_takeWhatWasHeard 68 = .ok (.getfield 69, 3) := by decide +kernel
theorem d_X_takeWhatWasHeard_71 : decode tb_X_takeWhatWasHeard 71 = .ok (.getfield 169, 3) := by decide +kernel
theorem d_X_takeWhatWasHeard_74 : decode tb_X_takeWhatWasHeard 74 = .ok (.iconst 0, 1) := by decide +kernel
theorem d_X_takeWhatWasHeard_75 : decode tb_X_takeWhatWasHeard 75 = .ok (.aaload, 1) := by decide +kernel
theorem d_X_takeWhatWasHeard_76 : decode tb_X_takeWhatWasHeard 76 = .ok (.astore 5, 2) := by decide +kernel
theorem d_X_takeWhatWasHeard_78 : decode tb_X_takeWhatWasHeard 78 = .ok (.aload 5, 2) := by decide +kernel
theorem d_X_takeWhatWasHeard_80 : decode tb_X_takeWhatWasHeard 80 = .ok (.getfield 181, 3) := by decide +kernel
theorem d_X_takeWhatWasHeard_83 : decode tb_X_takeWhatWasHeard 83 = .ok (.iconst 1, 1) := by decide +kernel
theorem d_X_takeWhatWasHeard_84 : decode tb_X_takeWhatWasHeard 84 = .ok (.if_icmp .ne 11, 3) := by decide +kernel
theorem d_X_takeWhatWasHeard_87 : decode tb_X_takeWhatWasHeard 87 = .ok (.aload_n 0, 1) := by decide +kernel
theorem d_X_takeWhatWasHeard_88 : decode tb_X_takeWhatWasHeard 88 = .ok (.aload_n 3, 1) := by decide +kernel
theorem d_X_takeWhatWasHeard_89 : decode tb_X_takeWhatWasHeard 89 = .ok (.invokevirtual 234, 3) := by decide +kernel
theorem d_X_takeWhatWasHeard_92 : decode tb_X_takeWhatWasHeard 92 = .ok (.goto 40, 3) := by decide +kernel
theorem d_X_takeWhatWasHeard_95 : decode tb_X_takeWhatWasHeard 95 = .ok (.aload 5, 2) := by decide +kernel
theorem d_X_takeWhatWasHeard_97 : decode tb_X_takeWhatWasHeard 97 = .ok (.getfield 181, 3) := by decide +kernel
theorem d_X_takeWhatWasHeard_100 : decode tb_X_takeWhatWasHeard 100 = .ok (.iconst 2, 1) := by decide +kernel
theorem d_X_takeWhatWasHeard_101 : decode tb_X_takeWhatWasHeard 101 = .ok (.if_icmp .ne 13, 3) := by decide +kernel
theorem d_X_takeWhatWasHeard_104 : decode tb_X_takeWhatWasHeard 104 = .ok (.aload_n 0, 1) := by decide +kernel
theorem d_X_takeWhatWasHeard_105 : decode tb_X_takeWhatWasHeard 105 = .ok (.aload_n 3, 1) := by decide +kernel
theorem d_X_takeWhatWasHeard_106 : decode tb_X_takeWhatWasHeard 106 = .ok (.aload 4, 2) := by decide +kernel
theorem d_X_takeWhatWasHeard_108 : decode tb_X_takeWhatWasHeard 108 = .ok (.invokevirtual 237, 3) := by decide +kernel
theorem d_X_takeWhatWasHeard_111 : decode tb_X_takeWhatWasHeard 111 = .ok (.goto 21, 3) := by decide +kernel
theorem d_X_takeWhatWasHeard_114 : decode tb_X_takeWhatWasHeard 114 = .ok (.aload 5, 2) := by decide +kernel
theorem d_X_takeWhatWasHeard_116 : decode tb_X_takeWhatWasHeard 116 = .ok (.getfield 184, 3) := by decide +kernel
theorem d_X_takeWhatWasHeard_119 : decode tb_X_takeWhatWasHeard 119 = .ok (.iload_n 1, 1) := by decide +kernel
theorem d_X_takeWhatWasHeard_120 : decode tb_X_takeWhatWasHeard 120 = .ok (.if_icmp .ne 12, 3) := by decide +kernel
theorem d_X_takeWhatWasHeard_123 : decode tb_X_takeWhatWasHeard 123 = .ok (.aload_n 0, 1) := by decide +kernel
theorem d_X_takeWhatWasHeard_124 : decode tb_X_takeWhatWasHeard 124 = .ok (.aload_n 3, 1) := by decide +kernel
theorem d_X_takeWhatWasHeard_125 : decode tb_X_takeWhatWasHeard 125 = .ok (.aload 4, 2) := by decide +kernel
theorem d_X_takeWhatWasHeard_127 : decode tb_X_takeWhatWasHeard 127 = .ok (.aload 5, 2) := by decide +kernel
theorem d_X_takeWhatWasHeard_129 : decode tb_X_takeWhatWasHeard 129 = .ok (.invokevirtual 240, 3) := by decide +kernel
theorem d_X_takeWhatWasHeard_132 : decode tb_X_takeWhatWasHeard 132 = .ok (.iinc 1 1, 3) := by decide +kernel
theorem d_X_takeWhatWasHeard_135 : decode tb_X_takeWhatWasHeard 135 = .ok (.goto (-133), 3) := by decide +kernel
theorem d_X_takeWhatWasHeard_138 : decode tb_X_takeWhatWasHeard 138 = .ok (.return_, 1) := by decide +kernel
theorem d_X_settleWhatWasOnTheAir_0 : decode tb_X_settleWhatWasOnTheAir 0 = .ok (.iconst 0, 1) := by decide +kernel
theorem d_X_settleWhatWasOnTheAir_1 : decode tb_X_settleWhatWasOnTheAir 1 = .ok (.istore_n 1, 1) := by decide +kernel
theorem d_X_settleWhatWasOnTheAir_2 : decode tb_X_settleWhatWasOnTheAir 2 = .ok (.iload_n 1, 1) := by decide +kernel
theorem d_X_settleWhatWasOnTheAir_3 : decode tb_X_settleWhatWasOnTheAir 3 = .ok (.bipush 7, 2) := by decide +kernel
theorem d_X_settleWhatWasOnTheAir_5 : decode tb_X_settleWhatWasOnTheAir 5 = .ok (.if_icmp .ge 56, 3) := by decide +kernel
theorem d_X_settleWhatWasOnTheAir_8 : decode tb_X_settleWhatWasOnTheAir 8 = .ok (.aload_n 0, 1) := by decide +kernel
theorem d_X_settleWhatWasOnTheAir_9 : decode tb_X_settleWhatWasOnTheAir 9 = .ok (.getfield 11, 3) := by decide +kernel
theorem d_X_settleWhatWasOnTheAir_12 : decode tb_X_settleWhatWasOnTheAir 12 = .ok (.iload_n 1, 1) := by decide +kernel
theorem d_X_settleWhatWasOnTheAir_13 : decode tb_X_settleWhatWasOnTheAir 13 = .ok (.aaload, 1) := by decide +kernel
theorem d_X_settleWhatWasOnTheAir_14 : decode tb_X_settleWhatWasOnTheAir 14 = .ok (.getfield 69, 3) := by decide +kernel
theorem d_X_settleWhatWasOnTheAir_17 : decode tb_X_settleWhatWasOnTheAir 17 = .ok (.astore_n 2, 1) := by decide +kernel
theorem d_X_settleWhatWasOnTheAir_18 : decode tb_X_settleWhatWasOnTheAir 18 = .ok (.aload_n 2, 1) := by decide +kernel
theorem d_X_settleWhatWasOnTheAir_19 : decode tb_X_settleWhatWasOnTheAir 19 = .ok (.getfield 205, 3) := by decide +kernel
theorem d_X_settleWhatWasOnTheAir_22 : decode tb_X_settleWhatWasOnTheAir 22 = .ok (.iconst 2, 1) := by decide +kernel
theorem d_X_settleWhatWasOnTheAir_23 : decode tb_X_settleWhatWasOnTheAir 23 = .ok (.if_icmp .eq 6, 3) := by decide +kernel
theorem d_X_settleWhatWasOnTheAir_26 : decode tb_X_settleWhatWasOnTheAir 26 = .ok (.goto 29, 3) := by decide +kernel
theorem d_X_settleWhatWasOnTheAir_29 : decode tb_X_settleWhatWasOnTheAir 29 = .ok (.aload_n 2, 1) := by decide +kernel
theorem d_X_settleWhatWasOnTheAir_30 : decode tb_X_settleWhatWasOnTheAir 30 = .ok (.getfield 169, 3) := by decide +kernel
theorem d_X_settleWhatWasOnTheAir_33 : decode tb_X_settleWhatWasOnTheAir 33 = .ok (.iconst 0, 1) := by decide +kernel
theorem d_X_settleWhatWasOnTheAir_34 : decode tb_X_settleWhatWasOnTheAir 34 = .ok (.aaload, 1) := by decide +kernel
theorem d_X_settleWhatWasOnTheAir_35 : decode tb_X_settleWhatWasOnTheAir 35 = .ok (.getfield 184, 3) := by decide +kernel
theorem d_X_settleWhatWasOnTheAir_38 : decode tb_X_settleWhatWasOnTheAir 38 = .ok (.iconst (-1), 1) := by decide +kernel
theorem d_X_settleWhatWasOnTheAir_39 : decode tb_X_settleWhatWasOnTheAir 39 = .ok (.if_icmp .ne 11, 3) := by decide +kernel
theorem d_X_settleWhatWasOnTheAir_42 : decode tb_X_settleWhatWasOnTheAir 42 = .ok (.aload_n 0, 1) := by decide +kernel
theorem d_X_settleWhatWasOnTheAir_43 : decode tb_X_settleWhatWasOnTheAir 43 = .ok (.aload_n 2, 1) := by decide +kernel
theorem d_X_settleWhatWasOnTheAir_44 : decode tb_X_settleWhatWasOnTheAir 44 = .ok (.invokevirtual 198, 3) := by decide +kernel
theorem d_X_settleWhatWasOnTheAir_47 : decode tb_X_settleWhatWasOnTheAir 47 = .ok (.goto 8, 3) := by decide +kernel
theorem d_X_settleWhatWasOnTheAir_50 : decode tb_X_settleWhatWasOnTheAir 50 = .ok (.aload_n 2, 1) := by decide +kernel
theorem d_X_settleWhatWasOnTheAir_51 : decode tb_X_settleWhatWasOnTheAir 51 = .ok (.iconst 1, 1) := by decide +kernel
theorem d_X_settleWhatWasOnTheAir_52 : decode tb_X_settleWhatWasOnTheAir 52 = .ok (.putfield 81, 3) := by decide +kernel
theorem d_X_settleWhatWasOnTheAir_55 : decode tb_X_settleWhatWasOnTheAir 55 = .ok (.iinc 1 1, 3) := by decide +kernel
theorem d_X_settleWhatWasOnTheAir_58 : decode tb_X_settleWhatWasOnTheAir 58 = .ok (.goto (-56), 3) := by decide +kernel
theorem d_X_settleWhatWasOnTheAir_61 : decode tb_X_settleWhatWasOnTheAir 61 = .ok (.return_, 1) := by decide +kernel
theorem d_X_settleWhatWasListenedFor_0 : decode tb_X_settleWhatWasListenedFor 0 = .ok (.iconst 0, 1) := by decide +kernel
theorem d_X_settleWhatWasListenedFor_1 : decode tb_X_settleWhatWasListenedFor 1 = .ok (.istore_n 1, 1) := by decide +kernel
theorem d_X_settleWhatWasListenedFor_2 : decode tb_X_settleWhatWasListenedFor 2 = .ok (.iload_n 1, 1) := by decide +kernel
theorem d_X_settleWhatWasListenedFor_3 : decode tb_X_settleWhatWasListenedFor 3 = .ok (.bipush 7, 2) := by decide +kernel
theorem d_X_settleWhatWasListenedFor_5 : decode tb_X_settleWhatWasListenedFor 5 = .ok (.if_icmp .ge 86, 3) := by decide +kernel
theorem d_X_settleWhatWasListenedFor_8 : decode tb_X_settleWhatWasListenedFor 8 = .ok (.aload_n 0, 1) := by decide +kernel
theorem d_X_settleWhatWasListenedFor_9 : decode tb_X_settleWhatWasListenedFor 9 = .ok (.getfield 11, 3) := by decide +kernel
theorem d_X_settleWhatWasListenedFor_12 : decode tb_X_settleWhatWasListenedFor 12 = .ok (.iload_n 1, 1) := by decide +kernel
theorem d_X_settleWhatWasListenedFor_13 : decode tb_X_settleWhatWasListenedFor 13 = .ok (.aaload, 1) := by decide +kernel
theorem d_X_settleWhatWasListenedFor_14 : decode tb_X_settleWhatWasListenedFor 14 = .ok (.getfield 69, 3) := by decide +kernel
theorem d_X_settleWhatWasListenedFor_17 : decode tb_X_settleWhatWasListenedFor 17 = .ok (.astore_n 2, 1) := by decide +kernel
theorem d_X_settleWhatWasListenedFor_18 : decode tb_X_settleWhatWasListenedFor 18 = .ok (.aload_n 2, 1) := by decide +kernel
theorem d_X_settleWhatWasListenedFor_19 : decode tb_X_settleWhatWasListenedFor 19 = .ok (.getfield 81, 3) := by decide +kernel
theorem d_X_settleWhatWasListenedFor_22 : decode tb_X_settleWhatWasListenedFor 22 = .ok (.ifCond .eq 63, 3) := by decide +kernel
theorem d_X_settleWhatWasListenedFor_25 : decode tb_X_settleWhatWasListenedFor 25 = .ok (.aload_n 2, 1) := by decide +kernel
theorem d_X_settleWhatWasListenedFor_26 : decode tb_X_settleWhatWasListenedFor 26 = .ok (.getfield 205, 3) := by decide +kernel
theorem d_X_settleWhatWasListenedFor_29 : decode tb_X_settleWhatWasListenedFor 29 = .ok (.ifCond .eq 6, 3) := by decide +kernel
theorem d_X_settleWhatWasListenedFor_32 : decode tb_X_settleWhatWasListenedFor 32 = .ok (.goto 53, 3) := by decide +kernel
theorem d_X_settleWhatWasListenedFor_35 : decode tb_X_settleWhatWasListenedFor 35 = .ok (.aload_n 2, 1) := by decide +kernel
theorem d_X_settleWhatWasListenedFor_36 : decode tb_X_settleWhatWasListenedFor 36 = .ok (.iconst 0, 1) := by decide +kernel
theorem d_X_settleWhatWasListenedFor_37 : decode tb_X_settleWhatWasListenedFor 37 = .ok (.putfield 81, 3) := by decide +kernel
theorem d_X_settleWhatWasListenedFor_40 : decode tb_X_settleWhatWasListenedFor 40 = .ok (.aload_n 2, 1) := by decide +kernel
theorem d_X_settleWhatWasListenedFor_41 : decode tb_X_settleWhatWasListenedFor 41 = .ok (.dup, 1) := by decide +kernel
theorem d_X_settleWhatWasListenedFor_42 : decode tb_X_settleWhatWasListenedFor 42 = .ok (.getfield 133, 3) := by decide +kernel
theorem d_X_settleWhatWasListenedFor_45 : decode tb_X_settleWhatWasListenedFor 45 = .ok (.iconst 1, 1) := by decide +kernel
theorem d_X_settleWhatWasListenedFor_46 : decode tb_X_settleWhatWasListenedFor 46 = .ok (.iadd, 1) := by decide +kernel
theorem d_X_settleWhatWasListenedFor_47 : decode tb_X_settleWhatWasListenedFor 47 = .ok (.putfield 133, 3) := by decide +kernel
theorem d_X_settleWhatWasListenedFor_50 : decode tb_X_settleWhatWasListenedFor 50 = .ok (.aload_n 2, 1) := by decide +kernel
theorem d_X_settleWhatWasListenedFor_51 : decode tb_X_settleWhatWasListenedFor 51 = .ok (.getfield 133, 3) := by decide +kernel
theorem d_X_settleWhatWasListenedFor_54 : decode tb_X_settleWhatWasListenedFor 54 = .ok (.iconst 4, 1) := by decide +kernel
theorem d_X_settleWhatWasListenedFor_55 : decode tb_X_settleWhatWasListenedFor 55 = .ok (.if_icmp .ne 16, 3) := by decide +kernel
theorem d_X_settleWhatWasListenedFor_58 : decode tb_X_settleWhatWasListenedFor 58 = .ok (.aload_n 0, 1) := by decide +kernel
theorem d_X_settleWhatWasListenedFor_59 : decode tb_X_settleWhatWasListenedFor 59 = .ok (.aload_n 0, 1) := by decide +kernel
theorem d_X_settleWhatWasListenedFor_60 : decode tb_X_settleWhatWasListenedFor 60 = .ok (.getfield 11, 3) := by decide +kernel
theorem d_X_settleWhatWasListenedFor_63 : decode tb_X_settleWhatWasListenedFor 63 = .ok (.iload_n 1, 1) := by decide +kernel
theorem d_X_settleWhatWasListenedFor_64 : decode tb_X_settleWhatWasListenedFor 64 = .ok (.aaload, 1) := by decide +kernel
theorem d_X_settleWhatWasListenedFor_65 : decode tb_X_settleWhatWasListenedFor 65 = .ok (.invokevirtual 218, 3) := by decide +kernel
theorem d_X_settleWhatWasListenedFor_68 : decode tb_X_settleWhatWasListenedFor 68 = .ok (.goto 17, 3) := by decide +kernel
theorem d_X_settleWhatWasListenedFor_71 : decode tb_X_settleWhatWasListenedFor 71 = .ok (.aload_n 2, 1) := by decide +kernel
theorem d_X_settleWhatWasListenedFor_72 : decode tb_X_settleWhatWasListenedFor 72 = .ok (.iconst 0, 1) := by decide +kernel
theorem d_X_settleWhatWasListenedFor_73 : decode tb_X_settleWhatWasListenedFor 73 = .ok (.putfield 130, 3) := by decide +kernel
theorem d_X_settleWhatWasListenedFor_76 : decode tb_X_settleWhatWasListenedFor 76 = .ok (.aload_n 2, 1) := by decide +kernel
theorem d_X_settleWhatWasListenedFor_77 : decode tb_X_settleWhatWasListenedFor 77 = .ok (.aload_n 0, 1) := by decide +kernel
theorem d_X_settleWhatWasListenedFor_78 : decode tb_X_settleWhatWasListenedFor 78 = .ok (.iconst 4, 1) := by decide +kernel
theorem d_X_settleWhatWasListenedFor_79 : decode tb_X_settleWhatWasListenedFor 79 = .ok (.invokevirtual 187, 3) := by decide +kernel
theorem d_X_settleWhatWasListenedFor_82 : decode tb_X_settleWhatWasListenedFor 82 = .ok (.putfield 127, 3) := by decide +kernel
theorem d_X_settleWhatWasListenedFor_85 : decode tb_X_settleWhatWasListenedFor 85 = .ok (.iinc 1 1, 3) := by decide +kernel
theorem d_X_settleWhatWasListenedFor_88 : decode tb_X_settleWhatWasListenedFor 88 = .ok (.goto (-86), 3) := by decide +kernel
theorem d_X_settleWhatWasListenedFor_91 : decode tb_X_settleWhatWasListenedFor 91 = .ok (.return_, 1) := by decide +kernel
theorem d_X_runTimers_0 : decode tb_X_runTimers 0 = .ok (.iconst 0, 1) := by decide +kernel
theorem d_X_runTimers_1 : decode tb_X_runTimers 1 = .ok (.istore_n 1, 1) := by decide +kernel
theorem d_X_runTimers_2 : decode tb_X_runTimers 2 = .ok (.iload_n 1, 1) := by decide +kernel
theorem d_X_runTimers_3 : decode tb_X_runTimers 3 = .ok (.bipush 7, 2) := by decide +kernel
theorem d_X_runTimers_5 : decode tb_X_runTimers 5 = .ok (.if_icmp .ge 113, 3) := by decide +kernel
theorem d_X_runTimers_8 : decode tb_X_runTimers 8 = .ok (.aload_n 0, 1) := by decide +kernel
theorem d_X_runTimers_9 : decode tb_X_runTimers 9 = .ok (.getfield 11, 3) := by decide +kernel
theorem d_X_runTimers_12 : decode tb_X_runTimers 12 = .ok (.iload_n 1, 1) := by decide +kernel
theorem d_X_runTimers_13 : decode tb_X_runTimers 13 = .ok (.aaload, 1) := by decide +kernel
theorem d_X_runTimers_14 : decode tb_X_runTimers 14 = .ok (.astore_n 2, 1) := by decide +kernel
theorem d_X_runTimers_15 : decode tb_X_runTimers 15 = .ok (.aload_n 2, 1) := by decide +kernel
theorem d_X_runTimers_16 : decode tb_X_runTimers 16 = .ok (.getfield 66, 3) := by decide +kernel
theorem d_X_runTimers_19 : decode tb_X_runTimers 19 = .ok (.ifCond .ne 6, 3) := by decide +kernel
theorem d_X_runTimers_22 : decode tb_X_runTimers 22 = .ok (.goto 90, 3) := by decide +kernel
theorem d_X_runTimers_25 : decode tb_X_runTimers 25 = .ok (.aload_n 2, 1) := by decide +kernel
theorem d_X_runTimers_26 : decode tb_X_runTimers 26 = .ok (.getfield 48, 3) := by decide +kernel
theorem d_X_runTimers_29 : decode tb_X_runTimers 29 = .ok (.getfield 52, 3) := by decide +kernel
theorem d_X_runTimers_32 : decode tb_X_runTimers 32 = .ok (.ifCond .eq 8, 3) := by decide +kernel
theorem d_X_runTimers_35 : decode tb_X_runTimers 35 = .ok (.aload_n 0, 1) := by decide +kernel
theorem d_X_runTimers_36 : decode tb_X_runTimers 36 = .ok (.aload_n 2, 1) := by decide +kernel
theorem d_X_runTimers_37 : decode tb_X_runTimers 37 = .ok (.invokevirtual 244, 3) := by decide +kernel
theorem d_X_runTimers_40 : decode tb_X_runTimers 40 = .ok (.iload_n 1, 1) := by decide +kernel
theorem d_X_runTimers_41 : decode tb_X_runTimers 41 = .ok (.ifCond .eq 29, 3) := by decide +kernel
theorem d_X_runTimers_44 : decode tb_X_runTimers 44 = .ok (.aload_n 2, 1) := by decide +kernel
theorem d_X_runTimers_45 : decode tb_X_runTimers 45 = .ok (.getfield 45, 3) := by decide +kernel
theorem d_X_runTimers_48 : decode tb_X_runTimers 48 = .ok (.sipush 255, 3) := by decide +kernel
theorem d_X_runTimers_51 : decode tb_X_runTimers 51 = .ok (.if_icmp .ne 19, 3) := by decide +kernel
theorem d_X_runTimers_54 : decode tb_X_runTimers 54 = .ok (.aload_n 0, 1) := by decide +kernel
theorem d_X_runTimers_55 : decode tb_X_runTimers 55 = .ok (.getfield 91, 3) := by decide +kernel
theorem d_X_runTimers_58 : decode tb_X_runTimers 58 = .ok (.bipush 16, 2) := by decide +kernel
theorem d_X_runTimers_60 : decode tb_X_runTimers 60 = .ok (.irem, 1) := by decide +kernel
theorem d_X_runTimers_61 : decode tb_X_runTimers 61 = .ok (.ifCond .ne 9, 3) := by decide +kernel
theorem d_X_runTimers_64 : decode tb_X_runTimers 64 = .ok (.aload_n 0, 1) := by decide +kernel
theorem d_X_runTimers_65 : decode tb_X_runTimers 65 = .ok (.aload_n 2, 1) := by decide +kernel
theorem d_X_runTimers_66 : decode tb_X_runTimers 66 = .ok (.iconst 1, 1) := by decide +kernel
theorem d_X_runTimers_67 : decode tb_X_runTimers 67 = .ok (.invokevirtual 247, 3) := by decide +kernel
theorem d_X_runTimers_70 : decode tb_X_runTimers 70 = .ok (.aload_n 2, 1) := by decide +kernel
theorem d_X_runTimers_71 : decode tb_X_runTimers 71 = .ok (.getfield 115, 3) := by decide +kernel
theorem d_X_runTimers_74 : decode tb_X_runTimers 74 = .ok (.iconst (-1), 1) := by decide +kernel
theorem d_X_runTimers_75 : decode tb_X_runTimers 75 = .ok (.if_icmp .eq 37, 3) := by decide +kernel
theorem d_X_runTimers_78 : decode tb_X_runTimers 78 = .ok (.aload_n 0, 1) := by decide +kernel
theorem d_X_runTimers_79 : decode tb_X_runTimers 79 = .ok (.getfield 91, 3) := by decide +kernel
theorem d_X_runTimers_82 : decode tb_X_runTimers 82 = .ok (.bipush 64, 2) := by decide +kernel
theorem d_X_runTimers_84 : decode tb_X_runTimers 84 = .ok (.irem, 1) := by decide +kernel
theorem d_X_runTimers_85 : decode tb_X_runTimers 85 = .ok (.ifCond .ne 27, 3) := by decide +kernel
theorem d_X_runTimers_88 : decode tb_X_runTimers 88 = .ok (.aload_n 2, 1) := by decide +kernel
theorem d_X_runTimers_89 : decode tb_X_runTimers 89 = .ok (.getfield 143, 3) := by decide +kernel
theorem d_X_runTimers_92 : decode tb_X_runTimers 92 = .ok (.iload_n 1, 1) := by decide +kernel
theorem d_X_runTimers_93 : decode tb_X_runTimers 93 = .ok (.dup2, 1) := by decide +kernel
theorem d_X_runTimers_94 : decode tb_X_runTimers 94 = .ok (.iaload, 1) := by decide +kernel
theorem d_X_runTimers_95 : decode tb_X_runTimers 95 = .ok (.iconst 1, 1) := by decide +kernel
theorem d_X_runTimers_96 : decode tb_X_runTimers 96 = .ok (.iadd, 1) := by decide +kernel
theorem d_X_runTimers_97 : decode tb_X_runTimers 97 = .ok (.iastore, 1) := by decide +kernel
theorem d_X_runTimers_98 : decode tb_X_runTimers 98 = .ok (.aload_n 0, 1) := by decide +kernel
theorem d_X_runTimers_99 : decode tb_X_runTimers 99 = .ok (.aload_n 2, 1) := by decide +kernel
theorem d_X_runTimers_100 : decode tb_X_runTimers 100 = .ok (.aload_n 2, 1) := by decide +kernel
theorem d_X_runTimers_101 : decode tb_X_runTimers 101 = .ok (.invokestatic 251, 3) := by decide +kernel
theorem d_X_runTimers_104 : decode tb_X_runTimers 104 = .ok (.aload_n 2, 1) := by decide +kernel
theorem d_X_runTimers_105 : decode tb_X_runTimers 105 = .ok (.getfield 115, 3) := by decide +kernel
theorem d_X_runTimers_108 : decode tb_X_runTimers 108 = .ok (.iconst 0, 1) := by decide +kernel
theorem d_X_runTimers_109 : decode tb_X_runTimers 109 = .ok (.invokevirtual 254, 3) := by decide +kernel
theorem d_X_runTimers_112 : decode tb_X_runTimers 112 = .ok (.iinc 1 1, 3) := by decide +kernel
theorem d_X_runTimers_115 : decode tb_X_runTimers 115 = .ok (.goto (-113), 3) := by decide +kernel
theorem d_X_runTimers_118 : decode tb_X_runTimers 118 = .ok (.return_, 1) := by decide +kernel
theorem d_X_runTimer_0 : decode tb_X_runTimer 0 = .ok (.aload_n 1, 1) := by decide +kernel
theorem d_X_runTimer_1 : decode tb_X_runTimer 1 = .ok (.getfield 48, 3) := by decide +kernel
theorem d_X_runTimer_4 : decode tb_X_runTimer 4 = .ok (.astore_n 2, 1) := by decide +kernel
theorem d_X_runTimer_5 : decode tb_X_runTimer 5 = .ok (.aload_n 2, 1) := by decide +kernel
theorem d_X_runTimer_6 : decode tb_X_runTimer 6 = .ok (.dup, 1) := by decide +kernel
theorem d_X_runTimer_7 : decode tb_X_runTimer 7 = .ok (.getfield 121, 3) := by decide +kernel
theorem d_X_runTimer_10 : decode tb_X_runTimer 10 = .ok (.iconst 1, 1) := by decide +kernel
theorem d_X_runTimer_11 : decode tb_X_runTimer 11 = .ok (.iadd, 1) := by decide +kernel
theorem d_X_runTimer_12 : decode tb_X_runTimer 12 = .ok (.putfield 121, 3) := by decide +kernel
theorem d_X_runTimer_15 : decode tb_X_runTimer 15 = .ok (.aload_n 2, 1) := by decide +kernel
theorem d_X_runTimer_16 : decode tb_X_runTimer 16 = .ok (.getfield 121, 3) := by decide +kernel
theorem d_X_runTimer_19 : decode tb_X_runTimer 19 = .ok (.aload_n 2, 1) := by decide +kernel
theorem d_X_runTimer_20 : decode tb_X_runTimer 20 = .ok (.getfield 258, 3) := by decide +kernel
theorem d_X_runTimer_23 : decode tb_X_runTimer 23 = .ok (.if_icmp .ne 20, 3) := by decide +kernel
theorem d_X_runTimer_26 : decode tb_X_runTimer 26 = .ok (.aload_n 2, 1) := by decide +kernel
theorem d_X_runTimer_27 : decode tb_X_runTimer 27 = .ok (.getfield 124, 3) := by decide +kernel
theorem d_X_runTimer_30 : decode tb_X_runTimer 30 = .ok (.aload_n 0, 1) := by decide +kernel
theorem d_X_runTimer_31 : decode tb_X_runTimer 31 = .ok (.getfield 36, 3) := by decide +kernel
theorem d_X_runTimer_34 : decode tb_X_runTimer 34 = .ok (.if_icmp .ge 9, 3) := by decide +kernel
theorem d_X_runTimer_37 : decode tb_X_runTimer 37 = .ok (.aload_n 0, 1) := by decide +kernel
theorem d_X_runTimer_38 : decode tb_X_runTimer 38 = .ok (.aload_n 1, 1) := by decide +kernel
theorem d_X_runTimer_39 : decode tb_X_runTimer 39 = .ok (.iconst 2, 1) := by decide +kernel
theorem d_X_runTimer_40 : decode tb_X_runTimer 40 = .ok (.invokevirtual 247, 3) := by decide +kernel
theorem d_X_runTimer_43 : decode tb_X_runTimer 43 = .ok (.aload_n 2, 1) := by decide +kernel
theorem d_X_runTimer_44 : decode tb_X_runTimer 44 = .ok (.getfield 121, 3) := by decide +kernel
theorem d_X_runTimer_47 : decode tb_X_runTimer 47 = .ok (.aload_n 2, 1) := by decide +kernel
theorem d_X_runTimer_48 : decode tb_X_runTimer 48 = .ok (.getfield 118, 3) := by decide +kernel
theorem d_X_runTimer_51 : decode tb_X_runTimer 51 = .ok (.if_icmp .ne 19, 3) := by decide +kernel
theorem d_X_runTimer_54 : decode tb_X_runTimer 54 = .ok (.aload_n 0, 1) := by decide +kernel
theorem d_X_runTimer_55 : decode tb_X_runTimer 55 = .ok (.aload_n 2, 1) := by decide +kernel
theorem d_X_runTimer_56 : decode tb_X_runTimer 56 = .ok (.bipush 64, 2) := by decide +kernel
theorem d_X_runTimer_58 : decode tb_X_runTimer 58 = .ok (.aload_n 2, 1) := by decide +kernel
theorem d_X_runTimer_59 : decode tb_X_runTimer 59 = .ok (.getfield 118, 3) := by decide +kernel
theorem d_X_runTimer_62 : decode tb_X_runTimer 62 = .ok (.iconst 2, 1) := by decide +kernel
theorem d_X_runTimer_63 : decode tb_X_runTimer 63 = .ok (.imul, 1) := by decide +kernel
theorem d_X_runTimer_64 : decode tb_X_runTimer 64 = .ok (.invokestatic 24, 3) := by decide +kernel
theorem d_X_runTimer_67 : decode tb_X_runTimer 67 = .ok (.invokevirtual 261, 3) := by decide +kernel
theorem d_X_runTimer_70 : decode tb_X_runTimer 70 = .ok (.return_, 1) := by decide +kernel
theorem d_X_resetTimer_0 : decode tb_X_resetTimer 0 = .ok (.aload_n 1, 1) := by decide +kernel
theorem d_X_resetTimer_1 : decode tb_X_resetTimer 1 = .ok (.getfield 48, 3) := by decide +kernel
theorem d_X_resetTimer_4 : decode tb_X_resetTimer 4 = .ok (.getfield 52, 3) := by decide +kernel
theorem d_X_resetTimer_7 : decode tb_X_resetTimer 7 = .ok (.ifCond .eq 23, 3) := by decide +kernel
theorem d_X_resetTimer_10 : decode tb_X_resetTimer 10 = .ok (.aload_n 1, 1) := by decide +kernel
theorem d_X_resetTimer_11 : decode tb_X_resetTimer 11 = .ok (.getfield 48, 3) := by decide +kernel
theorem d_X_resetTimer_14 : decode tb_X_resetTimer 14 = .ok (.getfield 118, 3) := by decide +kernel
theorem d_X_resetTimer_17 : decode tb_X_resetTimer 17 = .ok (.iconst 4, 1) := by decide +kernel
theorem d_X_resetTimer_18 : decode tb_X_resetTimer 18 = .ok (.if_icmp .eq 12, 3) := by decide +kernel
theorem d_X_resetTimer_21 : decode tb_X_resetTimer 21 = .ok (.aload_n 0, 1) := by decide +kernel
theorem d_X_resetTimer_22 : decode tb_X_resetTimer 22 = .ok (.aload_n 1, 1) := by decide +kernel
theorem d_X_resetTimer_23 : decode tb_X_resetTimer 23 = .ok (.getfield 48, 3) := by decide +kernel
theorem d_X_resetTimer_26 : decode tb_X_resetTimer 26 = .ok (.iconst 4, 1) := by decide +kernel
theorem d_X_resetTimer_27 : decode tb_X_resetTimer 27 = .ok (.invokevirtual 261, 3) := by decide +kernel
theorem d_X_resetTimer_30 : decode tb_X_resetTimer 30 = .ok (.return_, 1) := by decide +kernel
theorem d_X_beginInterval_0 : decode tb_X_beginInterval 0 = .ok (.iload_n 2, 1) := by decide +kernel
theorem d_X_beginInterval_1 : decode tb_X_beginInterval 1 = .ok (.iconst 2, 1) := by decide +kernel
theorem d_X_beginInterval_2 : decode tb_X_beginInterval 2 = .ok (.idiv, 1) := by decide +kernel
theorem d_X_beginInterval_3 : decode tb_X_beginInterval 3 = .ok (.istore_n 3, 1) := by decide +kernel
theorem d_X_beginInterval_4 : decode tb_X_beginInterval 4 = .ok (.aload_n 1, 1) := by decide +kernel
theorem d_X_beginInterval_5 : decode tb_X_beginInterval 5 = .ok (.iload_n 2, 1) := by decide +kernel
theorem d_X_beginInterval_6 : decode tb_X_beginInterval 6 = .ok (.putfield 118, 3) := by decide +kernel
theorem d_X_beginInterval_9 : decode tb_X_beginInterval 9 = .ok (.aload_n 1, 1) := by decide +kernel
theorem d_X_beginInterval_10 : decode tb_X_beginInterval 10 = .ok (.iconst 0, 1) := by decide +kernel
theorem d_X_beginInterval_11 : decode tb_X_beginInterval 11 = .ok (.putfield 121, 3) := by decide +kernel
theorem d_X_beginInterval_14 : decode tb_X_beginInterval 14 = .ok (.aload_n 1, 1) := by decide +kernel
theorem d_X_beginInterval_15 : decode tb_X_beginInterval 15 = .ok (.iconst 0, 1) := by decide +kernel
theorem d_X_beginInterval_16 : decode tb_X_beginInterval 16 = .ok (.putfield 124, 3) := by decide +kernel
theorem d_X_beginInterval_19 : decode tb_X_beginInterval 19 = .ok (.aload_n 1, 1) := by decide +kernel
theorem d_X_beginInterval_20 : decode tb_X_beginInterval 20 = .ok (.iload_n 3, 1) := by decide +kernel
theorem d_X_beginInterval_21 : decode tb_X_beginInterval 21 = .ok (.aload_n 0, 1) := by decide +kernel
theorem d_X_beginInterval_22 : decode tb_X_beginInterval 22 = .ok (.iload_n 3, 1) := by decide +kernel
theorem d_X_beginInterval_23 : decode tb_X_beginInterval 23 = .ok (.invokevirtual 187, 3) := by decide +kernel
theorem d_X_beginInterval_26 : decode tb_X_beginInterval 26 = .ok (.iadd, 1) := by decide +kernel
theorem d_X_beginInterval_27 : decode tb_X_beginInterval 27 = .ok (.putfield 258, 3) := by decide +kernel
theorem d_X_beginInterval_30 : decode tb_X_beginInterval 30 = .ok (.return_, 1) := by decide +kernel
theorem d_X_takeAck_0 : decode tb_X_takeAck 0 = .ok (.aload_n 1, 1) := by decide +kernel
theorem d_X_takeAck_1 : decode tb_X_takeAck 1 = .ok (.getfield 69, 3) := by decide +kernel
theorem d_X_takeAck_4 : decode tb_X_takeAck 4 = .ok (.astore_n 3, 1) := by decide +kernel
theorem d_X_takeAck_5 : decode tb_X_takeAck 5 = .ok (.aload_n 2, 1) := by decide +kernel
theorem d_X_takeAck_6 : decode tb_X_takeAck 6 = .ok (.getfield 69, 3) := by decide +kernel
theorem d_X_takeAck_9 : decode tb_X_takeAck 9 = .ok (.getfield 211, 3) := by decide +kernel
theorem d_X_takeAck_12 : decode tb_X_takeAck 12 = .ok (.aload_n 1, 1) := by decide +kernel
theorem d_X_takeAck_13 : decode tb_X_takeAck 13 = .ok (.getfield 221, 3) := by decide +kernel
theorem d_X_takeAck_16 : decode tb_X_takeAck 16 = .ok (.if_icmp .ne 7, 3) := by decide +kernel
theorem d_X_takeAck_19 : decode tb_X_takeAck 19 = .ok (.iconst 1, 1) := by decide +kernel
theorem d_X_takeAck_20 : decode tb_X_takeAck 20 = .ok (.goto 4, 3) := by decide +kernel
theorem d_X_takeAck_23 : decode tb_X_takeAck 23 = .ok (.iconst 0, 1) := by decide +kernel
theorem d_X_takeAck_24 : decode tb_X_takeAck 24 = .ok (.istore 4, 2) := by decide +kernel
theorem d_X_takeAck_26 : decode tb_X_takeAck 26 = .ok (.iload 4, 2) := by decide +kernel
theorem d_X_takeAck_28 : decode tb_X_takeAck 28 = .ok (.ifCond .eq 36, 3) := by decide +kernel
theorem d_X_takeAck_31 : decode tb_X_takeAck 31 = .ok (.aload_n 3, 1) := by decide +kernel
theorem d_X_takeAck_32 : decode tb_X_takeAck 32 = .ok (.getfield 81, 3) := by decide +kernel
theorem d_X_takeAck_35 : decode tb_X_takeAck 35 = .ok (.ifCond .eq 29, 3) := by decide +kernel
theorem d_X_takeAck_38 : decode tb_X_takeAck 38 = .ok (.aload_n 3, 1) := by decide +kernel
theorem d_X_takeAck_39 : decode tb_X_takeAck 39 = .ok (.getfield 169, 3) := by decide +kernel
theorem d_X_takeAck_42 : decode tb_X_takeAck 42 = .ok (.iconst 0, 1) := by decide +kernel
theorem d_X_takeAck_43 : decode tb_X_takeAck 43 = .ok (.aaload, 1) := by decide +kernel
theorem d_X_takeAck_44 : decode tb_X_takeAck 44 = .ok (.getfield 184, 3) := by decide +kernel
theorem d_X_takeAck_47 : decode tb_X_takeAck 47 = .ok (.aload_n 2, 1) := by decide +kernel
theorem d_X_takeAck_48 : decode tb_X_takeAck 48 = .ok (.getfield 221, 3) := by decide +kernel
theorem d_X_takeAck_51 : decode tb_X_takeAck 51 = .ok (.if_icmp .ne 13, 3) := by decide +kernel
theorem d_X_takeAck_54 : decode tb_X_takeAck 54 = .ok (.aload_n 3, 1) := by decide +kernel
theorem d_X_takeAck_55 : decode tb_X_takeAck 55 = .ok (.iconst 0, 1) := by decide +kernel
theorem d_X_takeAck_56 : decode tb_X_takeAck 56 = .ok (.putfield 81, 3) := by decide +kernel
theorem d_X_takeAck_59 : decode tb_X_takeAck 59 = .ok (.aload_n 0, 1) := by decide +kernel
theorem d_X_takeAck_60 : decode tb_X_takeAck 60 = .ok (.aload_n 3, 1) := by decide +kernel
theorem d_X_takeAck_61 : decode tb_X_takeAck 61 = .ok (.invokevirtual 198, 3) := by decide +kernel
theorem d_X_takeAck_64 : decode tb_X_takeAck 64 = .ok (.return_, 1) := by decide +kernel
theorem d_X_takeSolicit_0 : decode tb_X_takeSolicit 0 = .ok (.aload_n 1, 1) := by decide +kernel
theorem d_X_takeSolicit_1 : decode tb_X_takeSolicit 1 = .ok (.getfield 221, 3) := by decide +kernel
theorem d_X_takeSolicit_4 : decode tb_X_takeSolicit 4 = .ok (.ifCond .eq 13, 3) := by decide +kernel
theorem d_X_takeSolicit_7 : decode tb_X_takeSolicit 7 = .ok (.aload_n 1, 1) := by decide +kernel
theorem d_X_takeSolicit_8 : decode tb_X_takeSolicit 8 = .ok (.getfield 45, 3) := by decide +kernel
theorem d_X_takeSolicit_11 : decode tb_X_takeSolicit 11 = .ok (.sipush 255, 3) := by decide +kernel
theorem d_X_takeSolicit_14 : decode tb_X_takeSolicit 14 = .ok (.if_icmp .eq 8, 3) := by decide +kernel
theorem d_X_takeSolicit_17 : decode tb_X_takeSolicit 17 = .ok (.aload_n 0, 1) := by decide +kernel
theorem d_X_takeSolicit_18 : decode tb_X_takeSolicit 18 = .ok (.aload_n 1, 1) := by decide +kernel
theorem d_X_takeSolicit_19 : decode tb_X_takeSolicit 19 = .ok (.invokevirtual 58, 3) := by decide +kernel
theorem d_X_takeSolicit_22 : decode tb_X_takeSolicit 22 = .ok (.return_, 1) := by decide +kernel
theorem d_X_takeAdvert_0 : decode tb_X_takeAdvert 0 = .ok (.aload_n 2, 1) := by decide +kernel
theorem d_X_takeAdvert_1 : decode tb_X_takeAdvert 1 = .ok (.getfield 42, 3) := by decide +kernel
theorem d_X_takeAdvert_4 : decode tb_X_takeAdvert 4 = .ok (.aload_n 1, 1) := by decide +kernel
theorem d_X_takeAdvert_5 : decode tb_X_takeAdvert 5 = .ok (.getfield 42, 3) := by decide +kernel
theorem d_X_takeAdvert_8 : decode tb_X_takeAdvert 8 = .ok (.if_icmp .ge 9, 3) := by decide +kernel
theorem d_X_takeAdvert_11 : decode tb_X_takeAdvert 11 = .ok (.aload_n 0, 1) := by decide +kernel
theorem d_X_takeAdvert_12 : decode tb_X_takeAdvert 12 = .ok (.aload_n 1, 1) := by decide +kernel
theorem d_X_takeAdvert_13 : decode tb_X_takeAdvert 13 = .ok (.invokevirtual 58, 3) := by decide +kernel
theorem d_X_takeAdvert_16 : decode tb_X_takeAdvert 16 = .ok (.return_, 1) := by decide +kernel
theorem d_X_takeAdvert_17 : decode tb_X_takeAdvert 17 = .ok (.aload_n 2, 1) := by decide +kernel
theorem d_X_takeAdvert_18 : decode tb_X_takeAdvert 18 = .ok (.getfield 42, 3) := by decide +kernel
theorem d_X_takeAdvert_21 : decode tb_X_takeAdvert 21 = .ok (.aload_n 1, 1) := by decide +kernel
theorem d_X_takeAdvert_22 : decode tb_X_takeAdvert 22 = .ok (.getfield 42, 3) := by decide +kernel
theorem d_X_takeAdvert_25 : decode tb_X_takeAdvert 25 = .ok (.if_icmp .le 19, 3) := by decide +kernel
theorem d_X_takeAdvert_28 : decode tb_X_takeAdvert 28 = .ok (.aload_n 1, 1) := by decide +kernel
theorem d_X_takeAdvert_29 : decode tb_X_takeAdvert 29 = .ok (.getfield 221, 3) := by decide +kernel
theorem d_X_takeAdvert_32 : decode tb_X_takeAdvert 32 = .ok (.ifCond .eq 12, 3) := by decide +kernel
theorem d_X_takeAdvert_35 : decode tb_X_takeAdvert 35 = .ok (.aload_n 0, 1) := by decide +kernel
theorem d_X_takeAdvert_36 : decode tb_X_takeAdvert 36 = .ok (.aload_n 1, 1) := by decide +kernel
theorem d_X_takeAdvert_37 : decode tb_X_takeAdvert 37 = .ok (.aload_n 2, 1) := by decide +kernel
theorem d_X_takeAdvert_38 : decode tb_X_takeAdvert 38 = .ok (.getfield 42, 3) := by decide +kernel
theorem d_X_takeAdvert_41 : decode tb_X_takeAdvert 41 = .ok (.invokevirtual 265, 3) := by decide +kernel
theorem d_X_takeAdvert_44 : decode tb_X_takeAdvert 44 = .ok (.aload_n 1, 1) := by decide +kernel
theorem d_X_takeAdvert_45 : decode tb_X_takeAdvert 45 = .ok (.getfield 150, 3) := by decide +kernel
theorem d_X_takeAdvert_48 : decode tb_X_takeAdvert 48 = .ok (.aload_n 2, 1) := by decide +kernel
theorem d_X_takeAdvert_49 : decode tb_X_takeAdvert 49 = .ok (.getfield 221, 3) := by decide +kernel
theorem d_X_takeAdvert_52 : decode tb_X_takeAdvert 52 = .ok (.aload_n 2, 1) := by decide +kernel
theorem d_X_takeAdvert_53 : decode tb_X_takeAdvert 53 = .ok (.getfield 45, 3) := by decide +kernel
theorem d_X_takeAdvert_56 : decode tb_X_takeAdvert 56 = .ok (.iastore, 1) := by decide +kernel
theorem d_X_takeAdvert_57 : decode tb_X_takeAdvert 57 = .ok (.aload_n 1, 1) := by decide +kernel
theorem d_X_takeAdvert_58 : decode tb_X_takeAdvert 58 = .ok (.getfield 45, 3) := by decide +kernel
theorem d_X_takeAdvert_61 : decode tb_X_takeAdvert 61 = .ok (.istore_n 3, 1) := by decide +kernel
theorem d_X_takeAdvert_62 : decode tb_X_takeAdvert 62 = .ok (.aload_n 1, 1) := by decide +kernel
theorem d_X_takeAdvert_63 : decode tb_X_takeAdvert 63 = .ok (.getfield 115, 3) := by decide +kernel
theorem d_X_takeAdvert_66 : decode tb_X_takeAdvert 66 = .ok (.istore 4, 2) := by decide +kernel
theorem d_X_takeAdvert_68 : decode tb_X_takeAdvert 68 = .ok (.aload_n 1, 1) := by decide +kernel
theorem d_X_takeAdvert_69 : decode tb_X_takeAdvert 69 = .ok (.getfield 221, 3) := by decide +kernel
theorem d_X_takeAdvert_72 : decode tb_X_takeAdvert 72 = .ok (.ifCond .eq 8, 3) := by decide +kernel
theorem d_X_takeAdvert_75 : decode tb_X_takeAdvert 75 = .ok (.aload_n 0, 1) := by decide +kernel
theorem d_X_takeAdvert_76 : decode tb_X_takeAdvert 76 = .ok (.aload_n 1, 1) := by decide +kernel
theorem d_X_takeAdvert_77 : decode tb_X_takeAdvert 77 = .ok (.invokevirtual 202, 3) := by decide +kernel
theorem d_X_takeAdvert_80 : decode tb_X_takeAdvert 80 = .ok (.aload_n 1, 1) := by decide +kernel
theorem d_X_takeAdvert_81 : decode tb_X_takeAdvert 81 = .ok (.getfield 45, 3) := by decide +kernel
theorem d_X_takeAdvert_84 : decode tb_X_takeAdvert 84 = .ok (.iload_n 3, 1) := by decide +kernel
theorem d_X_takeAdvert_85 : decode tb_X_takeAdvert 85 = .ok (.if_icmp .ne 25, 3) := by decide +kernel
theorem d_X_takeAdvert_88 : decode tb_X_takeAdvert 88 = .ok (.aload_n 1, 1) := by decide +kernel
theorem d_X_takeAdvert_89 : decode tb_X_takeAdvert 89 = .ok (.getfield 115, 3) := by decide +kernel
theorem d_X_takeAdvert_92 : decode tb_X_takeAdvert 92 = .ok (.iload 4, 2) := by decide +kernel
theorem d_X_takeAdvert_94 : decode tb_X_takeAdvert 94 = .ok (.if_icmp .ne 16, 3) := by decide +kernel
theorem d_X_takeAdvert_97 : decode tb_X_takeAdvert 97 = .ok (.aload_n 1, 1) := by decide +kernel
theorem d_X_takeAdvert_98 : decode tb_X_takeAdvert 98 = .ok (.getfield 48, 3) := by decide +kernel
theorem d_X_takeAdvert_101 : decode tb_X_takeAdvert 101 = .ok (.dup, 1) := by decide +kernel
theorem d_X_takeAdvert_102 : decode tb_X_takeAdvert 102 = .ok (.getfield 124, 3) := by decide +kernel
theorem d_X_takeAdvert_105 : decode tb_X_takeAdvert 105 = .ok (.iconst 1, 1) := by decide +kernel
theorem d_X_takeAdvert_106 : decode tb_X_takeAdvert 106 = .ok (.iadd, 1) := by decide +kernel
theorem d_X_takeAdvert_107 : decode tb_X_takeAdvert 107 = .ok (.putfield 124, 3) := by decide +kernel
theorem d_X_takeAdvert_110 : decode tb_X_takeAdvert 110 = .ok (.return_, 1) := by decide +kernel
theorem d_X_takeVersion_0 : decode tb_X_takeVersion 0 = .ok (.aload_n 1, 1) := by decide +kernel
theorem d_X_takeVersion_1 : decode tb_X_takeVersion 1 = .ok (.getfield 115, 3) := by decide +kernel
theorem d_X_takeVersion_4 : decode tb_X_takeVersion 4 = .ok (.iconst (-1), 1) := by decide +kernel
theorem d_X_takeVersion_5 : decode tb_X_takeVersion 5 = .ok (.if_icmp .ne 13, 3) := by decide +kernel
theorem d_X_takeVersion_8 : decode tb_X_takeVersion 8 = .ok (.aload_n 1, 1) := by decide +kernel
theorem d_X_takeVersion_9 : decode tb_X_takeVersion 9 = .ok (.getfield 45, 3) := by decide +kernel
theorem d_X_takeVersion_12 : decode tb_X_takeVersion 12 = .ok (.sipush 255, 3) := by decide +kernel
theorem d_X_takeVersion_15 : decode tb_X_takeVersion 15 = .ok (.if_icmp .eq 7, 3) := by decide +kernel
theorem d_X_takeVersion_18 : decode tb_X_takeVersion 18 = .ok (.iconst 1, 1) := by decide +kernel
theorem d_X_takeVersion_19 : decode tb_X_takeVersion 19 = .ok (.goto 4, 3) := by decide +kernel
theorem d_X_takeVersion_22 : decode tb_X_takeVersion 22 = .ok (.iconst 0, 1) := by decide +kernel
theorem d_X_takeVersion_23 : decode tb_X_takeVersion 23 = .ok (.istore_n 3, 1) := by decide +kernel
theorem d_X_takeVersion_24 : decode tb_X_takeVersion 24 = .ok (.aload_n 1, 1) := by decide +kernel
theorem d_X_takeVersion_25 : decode tb_X_takeVersion 25 = .ok (.iload_n 2, 1) := by decide +kernel
theorem d_X_takeVersion_26 : decode tb_X_takeVersion 26 = .ok (.putfield 42, 3) := by decide +kernel
theorem d_X_takeVersion_29 : decode tb_X_takeVersion 29 = .ok (.aload_n 1, 1) := by decide +kernel
theorem d_X_takeVersion_30 : decode tb_X_takeVersion 30 = .ok (.getfield 150, 3) := by decide +kernel
theorem d_X_takeVersion_33 : decode tb_X_takeVersion 33 = .ok (.iconst 0, 1) := by decide +kernel
theorem d_X_takeVersion_34 : decode tb_X_takeVersion 34 = .ok (.invokestatic 268, 3) := by decide +kernel
theorem d_X_takeVersion_37 : decode tb_X_takeVersion 37 = .ok (.aload_n 1, 1) := by decide +kernel
theorem d_X_takeVersion_38 : decode tb_X_takeVersion 38 = .ok (.sipush 255, 3) := by decide +kernel
theorem d_X_takeVersion_41 : decode tb_X_takeVersion 41 = .ok (.putfield 136, 3) := by decide +kernel
theorem d_X_takeVersion_44 : decode tb_X_takeVersion 44 = .ok (.iload_n 3, 1) := by decide +kernel
theorem d_X_takeVersion_45 : decode tb_X_takeVersion 45 = .ok (.ifCond .eq 20, 3) := by decide +kernel
theorem d_X_takeVersion_48 : decode tb_X_takeVersion 48 = .ok (.aload_n 1, 1) := by decide +kernel
theorem d_X_takeVersion_49 : decode tb_X_takeVersion 49 = .ok (.sipush 255, 3) := by decide +kernel
theorem d_X_takeVersion_52 : decode tb_X_takeVersion 52 = .ok (.putfield 45, 3) := by decide +kernel
theorem d_X_takeVersion_55 : decode tb_X_takeVersion 55 = .ok (.aload_n 1, 1) := by decide +kernel
theorem d_X_takeVersion_56 : decode tb_X_takeVersion 56 = .ok (.iconst (-1), 1) := by decide +kernel
theorem d_X_takeVersion_57 : decode tb_X_takeVersion 57 = .ok (.putfield 115, 3) := by decide +kernel
theorem d_X_takeVersion_60 : decode tb_X_takeVersion 60 = .ok (.aload_n 0, 1) := by decide +kernel
theorem d_X_takeVersion_61 : decode tb_X_takeVersion 61 = .ok (.aload_n 1, 1) := by decide +kernel
theorem d_X_takeVersion_62 : decode tb_X_takeVersion 62 = .ok (.invokevirtual 58, 3) := by decide +kernel
theorem d_X_takeVersion_65 : decode tb_X_takeVersion 65 = .ok (.return_, 1) := by decide +kernel
theorem d_X_takeOwn_0 : decode tb_X_takeOwn 0 = .ok (.aload_n 1, 1) := by decide +kernel
theorem d_X_takeOwn_1 : decode tb_X_takeOwn 1 = .ok (.getfield 69, 3) := by decide +kernel
theorem d_X_takeOwn_4 : decode tb_X_takeOwn 4 = .ok (.aload_n 2, 1) := by decide +kernel
theorem d_X_takeOwn_5 : decode tb_X_takeOwn 5 = .ok (.getfield 221, 3) := by decide +kernel
theorem d_X_takeOwn_8 : decode tb_X_takeOwn 8 = .ok (.putfield 78, 3) := by decide +kernel
theorem d_X_takeOwn_11 : decode tb_X_takeOwn 11 = .ok (.aload_n 1, 1) := by decide +kernel
theorem d_X_takeOwn_12 : decode tb_X_takeOwn 12 = .ok (.getfield 274, 3) := by decide +kernel
theorem d_X_takeOwn_15 : decode tb_X_takeOwn 15 = .ok (.aload_n 2, 1) := by decide +kernel
theorem d_X_takeOwn_16 : decode tb_X_takeOwn 16 = .ok (.getfield 221, 3) := by decide +kernel
theorem d_X_takeOwn_19 : decode tb_X_takeOwn 19 = .ok (.iaload, 1) := by decide +kernel
theorem d_X_takeOwn_20 : decode tb_X_takeOwn 20 = .ok (.aload_n 3, 1) := by decide +kernel
theorem d_X_takeOwn_21 : decode tb_X_takeOwn 21 = .ok (.getfield 176, 3) := by decide +kernel
theorem d_X_takeOwn_24 : decode tb_X_takeOwn 24 = .ok (.if_icmp .ne 4, 3) := by decide +kernel
theorem d_X_takeOwn_27 : decode tb_X_takeOwn 27 = .ok (.return_, 1) := by decide +kernel
theorem d_X_takeOwn_28 : decode tb_X_takeOwn 28 = .ok (.aload_n 1, 1) := by decide +kernel
theorem d_X_takeOwn_29 : decode tb_X_takeOwn 29 = .ok (.getfield 274, 3) := by decide +kernel
theorem d_X_takeOwn_32 : decode tb_X_takeOwn 32 = .ok (.aload_n 2, 1) := by decide +kernel
theorem d_X_takeOwn_33 : decode tb_X_takeOwn 33 = .ok (.getfield 221, 3) := by decide +kernel
theorem d_X_takeOwn_36 : decode tb_X_takeOwn 36 = .ok (.aload_n 3, 1) := by decide +kernel
theorem d_X_takeOwn_37 : decode tb_X_takeOwn 37 = .ok (.getfield 176, 3) := by decide +kernel
theorem d_X_takeOwn_40 : decode tb_X_takeOwn 40 = .ok (.iastore, 1) := by decide +kernel
theorem d_X_takeOwn_41 : decode tb_X_takeOwn 41 = .ok (.aload_n 3, 1) := by decide +kernel
theorem d_X_takeOwn_42 : decode tb_X_takeOwn 42 = .ok (.getfield 181, 3) := by decide +kernel
theorem d_X_takeOwn_45 : decode tb_X_takeOwn 45 = .ok (.iconst 3, 1) := by decide +kernel
theorem d_X_takeOwn_46 : decode tb_X_takeOwn 46 = .ok (.if_icmp .ne 16, 3) := by decide +kernel
theorem d_X_takeOwn_49 : decode tb_X_takeOwn 49 = .ok (.aload_n 0, 1) := by decide +kernel
theorem d_X_takeOwn_50 : decode tb_X_takeOwn 50 = .ok (.aload_n 1, 1) := by decide +kernel
theorem d_X_takeOwn_51 : decode tb_X_takeOwn 51 = .ok (.aload_n 2, 1) := by decide +kernel
theorem d_X_takeOwn_52 : decode tb_X_takeOwn 52 = .ok (.getfield 221, 3) := by decide +kernel
theorem d_X_takeOwn_55 : decode tb_X_takeOwn 55 = .ok (.aload_n 3, 1) := by decide +kernel
theorem d_X_takeOwn_56 : decode tb_X_takeOwn 56 = .ok (.invokevirtual 277, 3) := by decide +kernel
theorem d_X_takeOwn_59 : decode tb_X_takeOwn 59 = .ok (.goto 13, 3) := by decide +kernel
theorem d_X_takeOwn_62 : decode tb_X_takeOwn 62 = .ok (.aload_n 0, 1) := by decide +kernel
theorem d_X_takeOwn_63 : decode tb_X_takeOwn 63 = .ok (.aload_n 1, 1) := by decide +kernel
theorem d_X_takeOwn_64 : decode tb_X_takeOwn 64 = .ok (.aload_n 2, 1) := by decide +kernel
theorem d_X_takeOwn_65 : decode tb_X_takeOwn 65 = .ok (.getfield 45, 3) := by decide +kernel
theorem d_X_takeOwn_68 : decode tb_X_takeOwn 68 = .ok (.aload_n 3, 1) := by decide +kernel
theorem d_X_takeOwn_69 : decode tb_X_takeOwn 69 = .ok (.invokevirtual 281, 3) := by decide +kernel
theorem d_X_takeOwn_72 : decode tb_X_takeOwn 72 = .ok (.return_, 1) := by decide +kernel
theorem d_X_choose_0 : decode tb_X_choose 0 = .ok (.aload_n 1, 1) := by decide +kernel
theorem d_X_choose_1 : decode tb_X_choose 1 = .ok (.getfield 45, 3) := by decide +kernel
theorem d_X_choose_4 : decode tb_X_choose 4 = .ok (.istore_n 2, 1) := by decide +kernel
theorem d_X_choose_5 : decode tb_X_choose 5 = .ok (.aload_n 1, 1) := by decide +kernel
theorem d_X_choose_6 : decode tb_X_choose 6 = .ok (.getfield 115, 3) := by decide +kernel
theorem d_X_choose_9 : decode tb_X_choose 9 = .ok (.istore_n 3, 1) := by decide +kernel
theorem d_X_choose_10 : decode tb_X_choose 10 = .ok (.aload_n 0, 1) := by decide +kernel
theorem d_X_choose_11 : decode tb_X_choose 11 = .ok (.aload_n 1, 1) := by decide +kernel
theorem d_X_choose_12 : decode tb_X_choose 12 = .ok (.invokevirtual 284, 3) := by decide +kernel
theorem d_X_choose_15 : decode tb_X_choose 15 = .ok (.istore 4, 2) := by decide +kernel
theorem d_X_choose_17 : decode tb_X_choose 17 = .ok (.iload 4, 2) := by decide +kernel
theorem d_X_choose_19 : decode tb_X_choose 19 = .ok (.iconst (-1), 1) := by decide +kernel
theorem d_X_choose_20 : decode tb_X_choose 20 = .ok (.if_icmp .ne 9, 3) := by decide +kernel
theorem d_X_choose_23 : decode tb_X_choose 23 = .ok (.sipush 255, 3) := by decide +kernel
theorem d_X_choose_26 : decode tb_X_choose 26 = .ok (.goto 10, 3) := by decide +kernel
theorem d_X_choose_29 : decode tb_X_choose 29 = .ok (.aload_n 0, 1) := by decide +kernel
theorem d_X_choose_30 : decode tb_X_choose 30 = .ok (.aload_n 1, 1) := by decide +kernel
theorem d_X_choose_31 : decode tb_X_choose 31 = .ok (.iload 4, 2) := by decide +kernel
theorem d_X_choose_33 : decode tb_X_choose 33 = .ok (.invokevirtual 287, 3) := by decide +kernel
theorem d_X_choose_36 : decode tb_X_choose 36 = .ok (.istore 5, 2) := by decide +kernel
theorem d_X_choose_38 : decode tb_X_choose 38 = .ok (.iload 5, 2) := by decide +kernel
theorem d_X_choose_40 : decode tb_X_choose 40 = .ok (.sipush 254, 3) := by decide +kernel
theorem d_X_choose_43 : decode tb_X_choose 43 = .ok (.if_icmp .gt 17, 3) := by decide +kernel
theorem d_X_choose_46 : decode tb_X_choose 46 = .ok (.iload 5, 2) := by decide +kernel
theorem d_X_choose_48 : decode tb_X_choose 48 = .ok (.aload_n 1, 1) := by decide +kernel
theorem d_X_choose_49 : decode tb_X_choose 49 = .ok (.getfield 136, 3) := by decide +kernel
theorem d_X_choose_52 : decode tb_X_choose 52 = .ok (.aload_n 0, 1) := by decide +kernel
theorem d_X_choose_53 : decode tb_X_choose 53 = .ok (.getfield 33, 3) := by decide +kernel
theorem d_X_choose_56 : decode tb_X_choose 56 = .ok (.iadd, 1) := by decide +kernel
theorem d_X_choose_57 : decode tb_X_choose 57 = .ok (.if_icmp .le 11, 3) := by decide +kernel
theorem d_X_choose_60 : decode tb_X_choose 60 = .ok (.iconst (-1), 1) := by decide +kernel
theorem d_X_choose_61 : decode tb_X_choose 61 = .ok (.istore 4, 2) := by decide +kernel
theorem d_X_choose_63 : decode tb_X_choose 63 = .ok (.sipush 255, 3) := by decide +kernel
theorem d_X_choose_66 : decode tb_X_choose 66 = .ok (.istore 5, 2) := by decide +kernel
theorem d_X_choose_68 : decode tb_X_choose 68 = .ok (.aload_n 1, 1) := by decide +kernel
theorem d_X_choose_69 : decode tb_X_choose 69 = .ok (.iload 5, 2) := by decide +kernel
theorem d_X_choose_71 : decode tb_X_choose 71 = .ok (.putfield 45, 3) := by decide +kernel
theorem d_X_choose_74 : decode tb_X_choose 74 = .ok (.aload_n 1, 1) := by decide +kernel
theorem d_X_choose_75 : decode tb_X_choose 75 = .ok (.iload 4, 2) := by decide +kernel
theorem d_X_choose_77 : decode tb_X_choose 77 = .ok (.putfield 115, 3) := by decide +kernel
theorem d_X_choose_80 : decode tb_X_choose 80 = .ok (.aload_n 1, 1) := by decide +kernel
theorem d_X_choose_81 : decode tb_X_choose 81 = .ok (.aload_n 1, 1) := by decide +kernel
theorem d_X_choose_82 : decode tb_X_choose 82 = .ok (.getfield 136, 3) := by decide +kernel
theorem d_X_choose_85 : decode tb_X_choose 85 = .ok (.iload 5, 2) := by decide +kernel
theorem d_X_choose_87 : decode tb_X_choose 87 = .ok (.invokestatic 24, 3) := by decide +kernel
theorem d_X_choose_90 : decode tb_X_choose 90 = .ok (.putfield 136, 3) := by decide +kernel
theorem d_X_choose_93 : decode tb_X_choose 93 = .ok (.iload 5, 2) := by decide +kernel
theorem d_X_choose_95 : decode tb_X_choose 95 = .ok (.sipush 255, 3) := by decide +kernel
theorem d_X_choose_98 : decode tb_X_choose 98 = .ok (.if_icmp .eq 11, 3) := by decide +kernel
theorem d_X_choose_101 : decode tb_X_choose 101 = .ok (.aload_n 1, 1) := by decide +kernel
theorem d_X_choose_102 : decode tb_X_choose 102 = .ok (.getfield 48, 3) := by decide +kernel
theorem d_X_choose_105 : decode tb_X_choose 105 = .ok (.iconst 1, 1) := by decide +kernel
theorem d_X_choose_106 : decode tb_X_choose 106 = .ok (.putfield 52, 3) := by decide +kernel
theorem d_X_choose_109 : decode tb_X_choose 109 = .ok (.iload 5, 2) := by decide +kernel
theorem d_X_choose_111 : decode tb_X_choose 111 = .ok (.iload_n 2, 1) := by decide +kernel
theorem d_X_choose_112 : decode tb_X_choose 112 = .ok (.if_icmp .ne 9, 3) := by decide +kernel
theorem d_X_choose_115 : decode tb_X_choose 115 = .ok (.iload 4, 2) := by decide +kernel
theorem d_X_choose_117 : decode tb_X_choose 117 = .ok (.iload_n 3, 1) := by decide +kernel
theorem d_X_choose_118 : decode tb_X_choose 118 = .ok (.if_icmp .eq 8, 3) := by decide +kernel
theorem d_X_choose_121 : decode tb_X_choose 121 = .ok (.aload_n 0, 1) := by decide +kernel
theorem d_X_choose_122 : decode tb_X_choose 122 = .ok (.aload_n 1, 1) := by decide +kernel
theorem d_X_choose_123 : decode tb_X_choose 123 = .ok (.invokevirtual 58, 3) := by decide +kernel
theorem d_X_choose_126 : decode tb_X_choose 126 = .ok (.iload 4, 2) := by decide +kernel
theorem d_X_choose_128 : decode tb_X_choose 128 = .ok (.iload_n 3, 1) := by decide +kernel
theorem d_X_choose_129 : decode tb_X_choose 129 = .ok (.if_icmp .eq 19, 3) := by decide +kernel
theorem d_X_choose_132 : decode tb_X_choose 132 = .ok (.iload_n 3, 1) := by decide +kernel
theorem d_X_choose_133 : decode tb_X_choose 133 = .ok (.iconst (-1), 1) := by decide +kernel
theorem d_X_choose_134 : decode tb_X_choose 134 = .ok (.if_icmp .eq 14, 3) := by decide +kernel
theorem d_X_choose_137 : decode tb_X_choose 137 = .ok (.aload_n 0, 1) := by decide +kernel
theorem d_X_choose_138 : decode tb_X_choose 138 = .ok (.aload_n 1, 1) := by decide +kernel
theorem d_X_choose_139 : decode tb_X_choose 139 = .ok (.aload_n 1, 1) := by decide +kernel
theorem d_X_choose_140 : decode tb_X_choose 140 = .ok (.invokestatic 251, 3) := by decide +kernel
theorem d_X_choose_143 : decode tb_X_choose 143 = .ok (.iload_n 3, 1) := by decide +kernel
theorem d_X_choose_144 : decode tb_X_choose 144 = .ok (.iconst 1, 1) := by decide +kernel
theorem d_X_choose_145 : decode tb_X_choose 145 = .ok (.invokevirtual 254, 3) := by decide +kernel
theorem d_X_choose_148 : decode tb_X_choose 148 = .ok (.iload 4, 2) := by decide +kernel
theorem d_X_choose_150 : decode tb_X_choose 150 = .ok (.iload_n 3, 1) := by decide +kernel
theorem d_X_choose_151 : decode tb_X_choose 151 = .ok (.if_icmp .eq 34, 3) := by decide +kernel
theorem d_X_choose_154 : decode tb_X_choose 154 = .ok (.iload 4, 2) := by decide +kernel
theorem d_X_choose_156 : decode tb_X_choose 156 = .ok (.iconst (-1), 1) := by decide +kernel
theorem d_X_choose_157 : decode tb_X_choose 157 = .ok (.if_icmp .eq 28, 3) := by decide +kernel
theorem d_X_choose_160 : decode tb_X_choose 160 = .ok (.aload_n 1, 1) := by decide +kernel
theorem d_X_choose_161 : decode tb_X_choose 161 = .ok (.getfield 143, 3) := by decide +kernel
theorem d_X_choose_164 : decode tb_X_choose 164 = .ok (.aload_n 1, 1) := by decide +kernel
theorem d_X_choose_165 : decode tb_X_choose 165 = .ok (.getfield 221, 3) := by decide +kernel
theorem d_X_choose_168 : decode tb_X_choose 168 = .ok (.dup2, 1) := by decide +kernel
theorem d_X_choose_169 : decode tb_X_choose 169 = .ok (.iaload, 1) := by decide +kernel
theorem d_X_choose_170 : decode tb_X_choose 170 = .ok (.iconst 1, 1) := by decide +kernel
theorem d_X_choose_171 : decode tb_X_choose 171 = .ok (.iadd, 1) := by decide +kernel
theorem d_X_choose_172 : decode tb_X_choose 172 = .ok (.iastore, 1) := by decide +kernel
theorem d_X_choose_173 : decode tb_X_choose 173 = .ok (.aload_n 0, 1) := by decide +kernel
theorem d_X_choose_174 : decode tb_X_choose 174 = .ok (.aload_n 1, 1) := by decide +kernel
theorem d_X_choose_175 : decode tb_X_choose 175 = .ok (.aload_n 1, 1) := by decide +kernel
theorem d_X_choose_176 : decode tb_X_choose 176 = .ok (.invokestatic 251, 3) := by decide +kernel
theorem d_X_choose_179 : decode tb_X_choose 179 = .ok (.iload 4, 2) := by decide +kernel
theorem d_X_choose_181 : decode tb_X_choose 181 = .ok (.iconst 0, 1) := by decide +kernel
theorem d_X_choose_182 : decode tb_X_choose 182 = .ok (.invokevirtual 254, 3) := by decide +kernel
theorem d_X_choose_185 : decode tb_X_choose 185 = .ok (.return_, 1) := by decide +kernel
theorem d_X_bestParent_0 : decode tb_X_bestParent 0 = .ok (.iconst (-1), 1) := by decide +kernel
theorem d_X_bestParent_1 : decode tb_X_bestParent 1 = .ok (.istore_n 2, 1) := by decide +kernel
theorem d_X_bestParent_2 : decode tb_X_bestParent 2 = .ok (.iconst 0, 1) := by decide +kernel
theorem d_X_bestParent_3 : decode tb_X_bestParent 3 = .ok (.istore_n 3, 1) := by decide +kernel
theorem d_X_bestParent_4 : decode tb_X_bestParent 4 = .ok (.iload_n 3, 1) := by decide +kernel
theorem d_X_bestParent_5 : decode tb_X_bestParent 5 = .ok (.bipush 7, 2) := by decide +kernel
theorem d_X_bestParent_7 : decode tb_X_bestParent 7 = .ok (.if_icmp .ge 73, 3) := by decide +kernel
theorem d_X_bestParent_10 : decode tb_X_bestParent 10 = .ok (.aload_n 0, 1) := by decide +kernel
theorem d_X_bestParent_11 : decode tb_X_bestParent 11 = .ok (.getfield 17, 3) := by decide +kernel
theorem d_X_bestParent_14 : decode tb_X_bestParent 14 = .ok (.aload_n 1, 1) := by decide +kernel
theorem d_X_bestParent_15 : decode tb_X_bestParent 15 = .ok (.getfield 221, 3) := by decide +kernel
theorem d_X_bestParent_18 : decode tb_X_bestParent 18 = .ok (.aaload, 1) := by decide +kernel
theorem d_X_bestParent_19 : decode tb_X_bestParent 19 = .ok (.iload_n 3, 1) := by decide +kernel
theorem d_X_bestParent_20 : decode tb_X_bestParent 20 = .ok (.iaload, 1) := by decide +kernel
theorem d_X_bestParent_21 : decode tb_X_bestParent 21 = .ok (.ifCond .le 28, 3) := by decide +kernel
theorem d_X_bestParent_24 : decode tb_X_bestParent 24 = .ok (.aload_n 1, 1) := by decide +kernel
theorem d_X_bestParent_25 : decode tb_X_bestParent 25 = .ok (.getfield 150, 3) := by decide +kernel
theorem d_X_bestParent_28 : decode tb_X_bestParent 28 = .ok (.iload_n 3, 1) := by decide +kernel
theorem d_X_bestParent_29 : decode tb_X_bestParent 29 = .ok (.iaload, 1) := by decide +kernel
theorem d_X_bestParent_30 : decode tb_X_bestParent 30 = .ok (.ifCond .eq 19, 3) := by decide +kernel
theorem d_X_bestParent_33 : decode tb_X_bestParent 33 = .ok (.aload_n 1, 1) := by decide +kernel
theorem d_X_bestParent_34 : decode tb_X_bestParent 34 = .ok (.getfield 150, 3) := by decide +kernel
theorem d_X_bestParent_37 : decode tb_X_bestParent 37 = .ok (.iload_n 3, 1) := by decide +kernel
theorem d_X_bestParent_38 : decode tb_X_bestParent 38 = .ok (.iaload, 1) := by decide +kernel
theorem d_X_bestParent_39 : decode tb_X_bestParent 39 = .ok (.sipush 255, 3) := by decide +kernel
theorem d_X_bestParent_42 : decode tb_X_bestParent 42 = .ok (.if_icmp .eq 7, 3) := by decide +kernel
theorem d_X_bestParent_45 : decode tb_X_bestParent 45 = .ok (.iconst 1, 1) := by decide +kernel
theorem d_X_bestParent_46 : decode tb_X_bestParent 46 = .ok (.goto 4, 3) := by decide +kernel
theorem d_X_bestParent_49 : decode tb_X_bestParent 49 = .ok (.iconst 0, 1) := by decide +kernel
theorem d_X_bestParent_50 : decode tb_X_bestParent 50 = .ok (.istore 4, 2) := by decide +kernel
theorem d_X_bestParent_52 : decode tb_X_bestParent 52 = .ok (.iload 4, 2) := by decide +kernel
theorem d_X_bestParent_54 : decode tb_X_bestParent 54 = .ok (.ifCond .eq 20, 3) := by decide +kernel
theorem d_X_bestParent_57 : decode tb_X_bestParent 57 = .ok (.iload_n 2, 1) := by decide +kernel
theorem d_X_bestParent_58 : decode tb_X_bestParent 58 = .ok (.iconst (-1), 1) := by decide +kernel
theorem d_X_bestParent_59 : decode tb_X_bestParent 59 = .ok (.if_icmp .eq 13, 3) := by decide +kernel
theorem d_X_bestParent_62 : decode tb_X_bestParent 62 = .ok (.aload_n 0, 1) := by decide +kernel
theorem d_X_bestParent_63 : decode tb_X_bestParent 63 = .ok (.aload_n 1, 1) := by decide +kernel
theorem d_X_bestParent_64 : decode tb_X_bestParent 64 = .ok (.iload_n 3, 1) := by decide +kernel
theorem d_X_bestParent_65 : decode tb_X_bestParent 65 = .ok (.iload_n 2, 1) := by decide +kernel
theorem d_X_bestParent_66 : decode tb_X_bestParent 66 = .ok (.invokevirtual 291, 3) := by decide +kernel
theorem d_X_bestParent_69 : decode tb_X_bestParent 69 = .ok (.ifCond .eq 5, 3) := by decide +kernel
theorem d_X_bestParent_72 : decode tb_X_bestParent 72 = .ok (.iload_n 3, 1) := by decide +kernel
theorem d_X_bestParent_73 : decode tb_X_bestParent 73 = .ok (.istore_n 2, 1) := by decide +kernel
theorem d_X_bestParent_74 : decode tb_X_bestParent 74 = .ok (.iinc 3 1, 3) := by decide +kernel
theorem d_X_bestParent_77 : decode tb_X_bestParent 77 = .ok (.goto (-73), 3) := by decide +kernel
theorem d_X_bestParent_80 : decode tb_X_bestParent 80 = .ok (.iload_n 2, 1) := by decide +kernel
theorem d_X_bestParent_81 : decode tb_X_bestParent 81 = .ok (.ireturn, 1) := by decide +kernel
theorem d_X_isBetter_0 : decode tb_X_isBetter 0 = .ok (.aload_n 0, 1) := by decide +kernel
theorem d_X_isBetter_1 : decode tb_X_isBetter 1 = .ok (.aload_n 1, 1) := by decide +kernel
theorem d_X_isBetter_2 : decode tb_X_isBetter 2 = .ok (.iload_n 2, 1) := by decide +kernel
theorem d_X_isBetter_3 : decode tb_X_isBetter 3 = .ok (.invokevirtual 287, 3) := by decide +kernel
theorem d_X_isBetter_6 : decode tb_X_isBetter 6 = .ok (.aload_n 0, 1) := by decide +kernel
theorem d_X_isBetter_7 : decode tb_X_isBetter 7 = .ok (.aload_n 1, 1) := by decide +kernel
theorem d_X_isBetter_8 : decode tb_X_isBetter 8 = .ok (.iload_n 3, 1) := by decide +kernel
theorem d_X_isBetter_9 : decode tb_X_isBetter 9 = .ok (.invokevirtual 287, 3) := by decide +kernel
theorem d_X_isBetter_12 : decode tb_X_isBetter 12 = .ok (.isub, 1) := by decide +kernel
theorem d_X_isBetter_13 : decode tb_X_isBetter 13 = .ok (.istore 4, 2) := by decide +kernel
theorem d_X_isBetter_15 : decode tb_X_isBetter 15 = .ok (.iload 4, 2) := by decide +kernel
theorem d_X_isBetter_17 : decode tb_X_isBetter 17 = .ok (.ifCond .lt 16, 3) := by decide +kernel
theorem d_X_isBetter_20 : decode tb_X_isBetter 20 = .ok (.iload 4, 2) := by decide +kernel
theorem d_X_isBetter_22 : decode tb_X_isBetter 22 = .ok (.ifCond .ne 15, 3) := by decide +kernel
theorem d_X_isBetter_25 : decode tb_X_isBetter 25 = .ok (.iload_n 2, 1) := by decide +kernel
theorem d_X_isBetter_26 : decode tb_X_isBetter 26 = .ok (.aload_n 1, 1) := by decide +kernel
theorem d_X_isBetter_27 : decode tb_X_isBetter 27 = .ok (.getfield 115, 3) := by decide +kernel
theorem d_X_isBetter_30 : decode tb_X_isBetter 30 = .ok (.if_icmp .ne 7, 3) := by decide +kernel
theorem d_X_isBetter_33 : decode tb_X_isBetter 33 = .ok (.iconst 1, 1) := by decide +kernel
theorem d_X_isBetter_34 : decode tb_X_isBetter 34 = .ok (.goto 4, 3) := by decide +kernel
theorem d_X_isBetter_37 : decode tb_X_isBetter 37 = .ok (.iconst 0, 1) := by decide +kernel
theorem d_X_isBetter_38 : decode tb_X_isBetter 38 = .ok (.ireturn, 1) := by decide +kernel
theorem d_X_rankBelow_0 : decode tb_X_rankBelow 0 = .ok (.aload_n 1, 1) := by decide +kernel
theorem d_X_rankBelow_1 : decode tb_X_rankBelow 1 = .ok (.getfield 150, 3) := by decide +kernel
theorem d_X_rankBelow_4 : decode tb_X_rankBelow 4 = .ok (.iload_n 2, 1) := by decide +kernel
theorem d_X_rankBelow_5 : decode tb_X_rankBelow 5 = .ok (.iaload, 1) := by decide +kernel
theorem d_X_rankBelow_6 : decode tb_X_rankBelow 6 = .ok (.aload_n 0, 1) := by decide +kernel
theorem d_X_rankBelow_7 : decode tb_X_rankBelow 7 = .ok (.getfield 17, 3) := by decide +kernel
theorem d_X_rankBelow_10 : decode tb_X_rankBelow 10 = .ok (.aload_n 1, 1) := by decide +kernel
theorem d_X_rankBelow_11 : decode tb_X_rankBelow 11 = .ok (.getfield 221, 3) := by decide +kernel
theorem d_X_rankBelow_14 : decode tb_X_rankBelow 14 = .ok (.aaload, 1) := by decide +kernel
theorem d_X_rankBelow_15 : decode tb_X_rankBelow 15 = .ok (.iload_n 2, 1) := by decide +kernel
theorem d_X_rankBelow_16 : decode tb_X_rankBelow 16 = .ok (.iaload, 1) := by decide +kernel
theorem d_X_rankBelow_17 : decode tb_X_rankBelow 17 = .ok (.iadd, 1) := by decide +kernel
theorem d_X_rankBelow_18 : decode tb_X_rankBelow 18 = .ok (.ireturn, 1) := by decide +kernel
theorem d_X_ownGoals_0 : decode tb_X_ownGoals 0 = .ok (.iconst 1, 1) := by decide +kernel
theorem d_X_ownGoals_1 : decode tb_X_ownGoals 1 = .ok (.aload_n 0, 1) := by decide +kernel
theorem d_X_ownGoals_2 : decode tb_X_ownGoals 2 = .ok (.getfield 221, 3) := by decide +kernel
theorem d_X_ownGoals_5 : decode tb_X_ownGoals 5 = .ok (.ishl, 1) := by decide +kernel
theorem d_X_ownGoals_6 : decode tb_X_ownGoals 6 = .ok (.istore_n 1, 1) := by decide +kernel
theorem d_X_ownGoals_7 : decode tb_X_ownGoals 7 = .ok (.iconst 0, 1) := by decide +kernel
theorem d_X_ownGoals_8 : decode tb_X_ownGoals 8 = .ok (.istore_n 2, 1) := by decide +kernel
theorem d_X_ownGoals_9 : decode tb_X_ownGoals 9 = .ok (.iload_n 2, 1) := by decide +kernel
theorem d_X_ownGoals_10 : decode tb_X_ownGoals 10 = .ok (.bipush 7, 2) := by decide +kernel
theorem d_X_ownGoals_12 : decode tb_X_ownGoals 12 = .ok (.if_icmp .ge 25, 3) := by decide +kernel
theorem d_X_ownGoals_15 : decode tb_X_ownGoals 15 = .ok (.aload_n 0, 1) := by decide +kernel
theorem d_X_ownGoals_16 : decode tb_X_ownGoals 16 = .ok (.getfield 147, 3) := by decide +kernel
theorem d_X_ownGoals_19 : decode tb_X_ownGoals 19 = .ok (.iload_n 2, 1) := by decide +kernel
theorem d_X_ownGoals_20 : decode tb_X_ownGoals 20 = .ok (.iaload, 1) := by decide +kernel
theorem d_X_ownGoals_21 : decode tb_X_ownGoals 21 = .ok (.iconst (-1), 1) := by decide +kernel
theorem d_X_ownGoals_22 : decode tb_X_ownGoals 22 = .ok (.if_icmp .eq 9, 3) := by decide +kernel
theorem d_X_ownGoals_25 : decode tb_X_ownGoals 25 = .ok (.iload_n 1, 1) := by decide +kernel
theorem d_X_ownGoals_26 : decode tb_X_ownGoals 26 = .ok (.iconst 1, 1) := by decide +kernel
theorem d_X_ownGoals_27 : decode tb_X_ownGoals 27 = .ok (.iload_n 2, 1) := by decide +kernel
theorem d_X_ownGoals_28 : decode tb_X_ownGoals 28 = .ok (.ishl, 1) := by decide +kernel
theorem d_X_ownGoals_29 : decode tb_X_ownGoals 29 = .ok (.ior, 1) := by decide +kernel
theorem d_X_ownGoals_30 : decode tb_X_ownGoals 30 = .ok (.istore_n 1, 1) := by decide +kernel
theorem d_X_ownGoals_31 : decode tb_X_ownGoals 31 = .ok (.iinc 2 1, 3) := by decide +kernel
theorem d_X_ownGoals_34 : decode tb_X_ownGoals 34 = .ok (.goto (-25), 3) := by decide +kernel
theorem d_X_ownGoals_37 : decode tb_X_ownGoals 37 = .ok (.iload_n 1, 1) := by decide +kernel
theorem d_X_ownGoals_38 : decode tb_X_ownGoals 38 = .ok (.ireturn, 1) := by decide +kernel
theorem d_X_announce_0 : decode tb_X_announce 0 = .ok (.aload_n 0, 1) := by decide +kernel
theorem d_X_announce_1 : decode tb_X_announce 1 = .ok (.aload_n 1, 1) := by decide +kernel
theorem d_X_announce_2 : decode tb_X_announce 2 = .ok (.iconst 3, 1) := by decide +kernel
theorem d_X_announce_3 : decode tb_X_announce 3 = .ok (.iload_n 3, 1) := by decide +kernel
theorem d_X_announce_4 : decode tb_X_announce 4 = .ok (.invokevirtual 194, 3) := by decide +kernel
theorem d_X_announce_7 : decode tb_X_announce 7 = .ok (.astore 5, 2) := by decide +kernel
theorem d_X_announce_9 : decode tb_X_announce 9 = .ok (.aload 5, 2) := by decide +kernel
theorem d_X_announce_11 : decode tb_X_announce 11 = .ok (.ifnonnull 4, 3) := by decide +kernel
theorem d_X_announce_14 : decode tb_X_announce 14 = .ok (.return_, 1) := by decide +kernel
theorem d_X_announce_15 : decode tb_X_announce 15 = .ok (.aload 5, 2) := by decide +kernel
theorem d_X_announce_17 : decode tb_X_announce 17 = .ok (.iload_n 2, 1) := by decide +kernel
theorem d_X_announce_18 : decode tb_X_announce 18 = .ok (.putfield 295, 3) := by decide +kernel
theorem d_X_announce_21 : decode tb_X_announce 21 = .ok (.aload 5, 2) := by decide +kernel
theorem d_X_announce_23 : decode tb_X_announce 23 = .ok (.iload 4, 2) := by decide +kernel
theorem d_X_announce_25 : decode tb_X_announce 25 = .ok (.putfield 298, 3) := by decide +kernel
theorem d_X_announce_28 : decode tb_X_announce 28 = .ok (.aload_n 1, 1) := by decide +kernel
theorem d_X_announce_29 : decode tb_X_announce 29 = .ok (.getfield 143, 3) := by decide +kernel
theorem d_X_announce_32 : decode tb_X_announce 32 = .ok (.iconst 0, 1) := by decide +kernel
theorem d_X_announce_33 : decode tb_X_announce 33 = .ok (.aload 5, 2) := by decide +kernel
theorem d_X_announce_35 : decode tb_X_announce 35 = .ok (.getfield 301, 3) := by decide +kernel
theorem d_X_announce_38 : decode tb_X_announce 38 = .ok (.iconst 0, 1) := by decide +kernel
theorem d_X_announce_39 : decode tb_X_announce 39 = .ok (.bipush 7, 2) := by decide +kernel
theorem d_X_announce_41 : decode tb_X_announce 41 = .ok (.invokestatic 302, 3) := by decide +kernel
theorem d_X_announce_44 : decode tb_X_announce 44 = .ok (.return_, 1) := by decide +kernel
theorem d_X_receiveAnnounce_0 : decode tb_X_receiveAnnounce 0 = .ok (.iconst 0, 1) := by decide +kernel
theorem d_X_receiveAnnounce_1 : decode tb_X_receiveAnnounce 1 = .ok (.istore 4, 2) := by decide +kernel
theorem d_X_receiveAnnounce_3 : decode tb_X_receiveAnnounce 3 = .ok (.iconst 0, 1) := by decide +kernel
theorem d_X_receiveAnnounce_4 : decode tb_X_receiveAnnounce 4 = .ok (.istore 5, 2) := by decide +kernel
theorem d_X_receiveAnnounce_6 : decode tb_X_receiveAnnounce 6 = .ok (.iload 5, 2) := by decide +kernel
theorem d_X_receiveAnnounce_8 : decode tb_X_receiveAnnounce 8 = .ok (.bipush 7, 2) := by decide +kernel
theorem d_X_receiveAnnounce_10 : decode tb_X_receiveAnnounce 10 = .ok (.if_icmp .ge 63, 3) := by decide +kernel
theorem d_X_receiveAnnounce_13 : decode tb_X_receiveAnnounce 13 = .ok (.aload_n 3, 1) := by decide +kernel
theorem d_X_receiveAnnounce_14 : decode tb_X_receiveAnnounce 14 = .ok (.getfield 295, 3) := by decide +kernel
theorem d_X_receiveAnnounce_17 : decode tb_X_receiveAnnounce 17 = .ok (.iload 5, 2) := by decide +kernel
theorem d_X_receiveAnnounce_19 : decode tb_X_receiveAnnounce 19 = .ok (.ishr, 1) := by decide +kernel
theorem d_X_receiveAnnounce_20 : decode tb_X_receiveAnnounce 20 = .ok (.iconst 1, 1) := by decide +kernel
theorem d_X_receiveAnnounce_21 : decode tb_X_receiveAnnounce 21 = .ok (.iand, 1) := by decide +kernel
theorem d_X_receiveAnnounce_22 : decode tb_X_receiveAnnounce 22 = .ok (.iconst 1, 1) := by decide +kernel
theorem d_X_receiveAnnounce_23 : decode tb_X_receiveAnnounce 23 = .ok (.if_icmp .ne 16, 3) := by decide +kernel
theorem d_X_receiveAnnounce_26 : decode tb_X_receiveAnnounce 26 = .ok (.iload 5, 2) := by decide +kernel
theorem d_X_receiveAnnounce_28 : decode tb_X_receiveAnnounce 28 = .ok (.aload_n 1, 1) := by decide +kernel
theorem d_X_receiveAnnounce_29 : decode tb_X_receiveAnnounce 29 = .ok (.getfield 221, 3) := by decide +kernel
theorem d_X_receiveAnnounce_32 : decode tb_X_receiveAnnounce 32 = .ok (.if_icmp .eq 7, 3) := by decide +kernel
theorem d_X_receiveAnnounce_35 : decode tb_X_receiveAnnounce 35 = .ok (.iconst 1, 1) := by decide +kernel
theorem d_X_receiveAnnounce_36 : decode tb_X_receiveAnnounce 36 = .ok (.goto 4, 3) := by decide +kernel
theorem d_X_receiveAnnounce_39 : decode tb_X_receiveAnnounce 39 = .ok (.iconst 0, 1) := by decide +kernel
theorem d_X_receiveAnnounce_40 : decode tb_X_receiveAnnounce 40 = .ok (.istore 6, 2) := by decide +kernel
theorem d_X_receiveAnnounce_42 : decode tb_X_receiveAnnounce 42 = .ok (.iload 6, 2) := by decide +kernel
theorem d_X_receiveAnnounce_44 : decode tb_X_receiveAnnounce 44 = .ok (.ifCond .eq 23, 3) := by decide +kernel
theorem d_X_receiveAnnounce_47 : decode tb_X_receiveAnnounce 47 = .ok (.aload_n 1, 1) := by decide +kernel
theorem d_X_receiveAnnounce_48 : decode tb_X_receiveAnnounce 48 = .ok (.iload 5, 2) := by decide +kernel
theorem d_X_receiveAnnounce_50 : decode tb_X_receiveAnnounce 50 = .ok (.iload_n 2, 1) := by decide +kernel
theorem d_X_receiveAnnounce_51 : decode tb_X_receiveAnnounce 51 = .ok (.aload_n 3, 1) := by decide +kernel
theorem d_X_receiveAnnounce_52 : decode tb_X_receiveAnnounce 52 = .ok (.invokestatic 308, 3) := by decide +kernel
theorem d_X_receiveAnnounce_55 : decode tb_X_receiveAnnounce 55 = .ok (.ifCond .eq 12, 3) := by decide +kernel
theorem d_X_receiveAnnounce_58 : decode tb_X_receiveAnnounce 58 = .ok (.iload 4, 2) := by decide +kernel
theorem d_X_receiveAnnounce_60 : decode tb_X_receiveAnnounce 60 = .ok (.iconst 1, 1) := by decide +kernel
theorem d_X_receiveAnnounce_61 : decode tb_X_receiveAnnounce 61 = .ok (.iload 5, 2) := by decide +kernel
theorem d_X_receiveAnnounce_63 : decode tb_X_receiveAnnounce 63 = .ok (.ishl, 1) := by decide +kernel
theorem d_X_receiveAnnounce_64 : decode tb_X_receiveAnnounce 64 = .ok (.ior, 1) := by decide +kernel
theorem d_X_receiveAnnounce_65 : decode tb_X_receiveAnnounce 65 = .ok (.istore 4, 2) := by decide +kernel
theorem d_X_receiveAnnounce_67 : decode tb_X_receiveAnnounce 67 = .ok (.iinc 5 1, 3) := by decide +kernel
theorem d_X_receiveAnnounce_70 : decode tb_X_receiveAnnounce 70 = .ok (.goto (-64), 3) := by decide +kernel
theorem d_X_receiveAnnounce_73 : decode tb_X_receiveAnnounce 73 = .ok (.iload 4, 2) := by decide +kernel
theorem d_X_receiveAnnounce_75 : decode tb_X_receiveAnnounce 75 = .ok (.ifCond .eq 26, 3) := by decide +kernel
theorem d_X_receiveAnnounce_78 : decode tb_X_receiveAnnounce 78 = .ok (.aload_n 1, 1) := by decide +kernel
theorem d_X_receiveAnnounce_79 : decode tb_X_receiveAnnounce 79 = .ok (.getfield 115, 3) := by decide +kernel
theorem d_X_receiveAnnounce_82 : decode tb_X_receiveAnnounce 82 = .ok (.iconst (-1), 1) := by decide +kernel
theorem d_X_receiveAnnounce_83 : decode tb_X_receiveAnnounce 83 = .ok (.if_icmp .eq 18, 3) := by decide +kernel
theorem d_X_receiveAnnounce_86 : decode tb_X_receiveAnnounce 86 = .ok (.aload_n 0, 1) := by decide +kernel
theorem d_X_receiveAnnounce_87 : decode tb_X_receiveAnnounce 87 = .ok (.aload_n 1, 1) := by decide +kernel
theorem d_X_receiveAnnounce_88 : decode tb_X_receiveAnnounce 88 = .ok (.iload 4, 2) := by decide +kernel
theorem d_X_receiveAnnounce_90 : decode tb_X_receiveAnnounce 90 = .ok (.aload_n 1, 1) := by decide +kernel
theorem d_X_receiveAnnounce_91 : decode tb_X_receiveAnnounce 91 = .ok (.getfield 115, 3) := by decide +kernel
theorem d_X_receiveAnnounce_94 : decode tb_X_receiveAnnounce 94 = .ok (.aload_n 3, 1) := by decide +kernel
theorem d_X_receiveAnnounce_95 : decode tb_X_receiveAnnounce 95 = .ok (.getfield 298, 3) := by decide +kernel
theorem d_X_receiveAnnounce_98 : decode tb_X_receiveAnnounce 98 = .ok (.invokevirtual 254, 3) := by decide +kernel
theorem d_X_receiveAnnounce_101 : decode tb_X_receiveAnnounce 101 = .ok (.return_, 1) := by decide +kernel
theorem d_X_changeRoute_0 : decode tb_X_changeRoute 0 = .ok (.aload_n 3, 1) := by decide +kernel
theorem d_X_changeRoute_1 : decode tb_X_changeRoute 1 = .ok (.getfield 301, 3) := by decide +kernel
theorem d_X_changeRoute_4 : decode tb_X_changeRoute 4 = .ok (.iload_n 1, 1) := by decide +kernel
theorem d_X_changeRoute_5 : decode tb_X_changeRoute 5 = .ok (.iaload, 1) := by decide +kernel
theorem d_X_changeRoute_6 : decode tb_X_changeRoute 6 = .ok (.istore 4, 2) := by decide +kernel
theorem d_X_changeRoute_8 : decode tb_X_changeRoute 8 = .ok (.iload 4, 2) := by decide +kernel
theorem d_X_changeRoute_10 : decode tb_X_changeRoute 10 = .ok (.aload_n 0, 1) := by decide +kernel
theorem d_X_changeRoute_11 : decode tb_X_changeRoute 11 = .ok (.getfield 143, 3) := by decide +kernel
theorem d_X_changeRoute_14 : decode tb_X_changeRoute 14 = .ok (.iload_n 1, 1) := by decide +kernel
theorem d_X_changeRoute_15 : decode tb_X_changeRoute 15 = .ok (.iaload, 1) := by decide +kernel
theorem d_X_changeRoute_16 : decode tb_X_changeRoute 16 = .ok (.if_icmp .lt 20, 3) := by decide +kernel
theorem d_X_changeRoute_19 : decode tb_X_changeRoute 19 = .ok (.aload_n 3, 1) := by decide +kernel
theorem d_X_changeRoute_20 : decode tb_X_changeRoute 20 = .ok (.getfield 298, 3) := by decide +kernel
theorem d_X_changeRoute_23 : decode tb_X_changeRoute 23 = .ok (.ifCond .eq 15, 3) := by decide +kernel
theorem d_X_changeRoute_26 : decode tb_X_changeRoute 26 = .ok (.aload_n 0, 1) := by decide +kernel
theorem d_X_changeRoute_27 : decode tb_X_changeRoute 27 = .ok (.getfield 147, 3) := by decide +kernel
theorem d_X_changeRoute_30 : decode tb_X_changeRoute 30 = .ok (.iload_n 1, 1) := by decide +kernel
theorem d_X_changeRoute_31 : decode tb_X_changeRoute 31 = .ok (.iaload, 1) := by decide +kernel
theorem d_X_changeRoute_32 : decode tb_X_changeRoute 32 = .ok (.iload_n 2, 1) := by decide +kernel
theorem d_X_changeRoute_33 : decode tb_X_changeRoute 33 = .ok (.if_icmp .eq 5, 3) := by decide +kernel
theorem d_X_changeRoute_36 : decode tb_X_changeRoute 36 = .ok (.iconst 0, 1) := by decide +kernel
theorem d_X_changeRoute_37 : decode tb_X_changeRoute 37 = .ok (.ireturn, 1) := by decide +kernel
theorem d_X_changeRoute_38 : decode tb_X_changeRoute 38 = .ok (.aload_n 3, 1) := by decide +kernel
theorem d_X_changeRoute_39 : decode tb_X_changeRoute 39 = .ok (.getfield 298, 3) := by decide +kernel
theorem d_X_changeRoute_42 : decode tb_X_changeRoute 42 = .ok (.ifCond .eq 7, 3) := by decide +kernel
theorem d_X_changeRoute_45 : decode tb_X_changeRoute 45 = .ok (.iconst (-1), 1) := by decide +kernel
theorem d_X_changeRoute_46 : decode tb_X_changeRoute 46 = .ok (.goto 4, 3) := by decide +kernel
theorem d_X_changeRoute_49 : decode tb_X_changeRoute 49 = .ok (.iload_n 2, 1) := by decide +kernel
theorem d_X_changeRoute_50 : decode tb_X_changeRoute 50 = .ok (.istore 5, 2) := by decide +kernel
theorem d_X_changeRoute_52 : decode tb_X_changeRoute 52 = .ok (.iload 4, 2) := by decide +kernel
theorem d_X_changeRoute_54 : decode tb_X_changeRoute 54 = .ok (.aload_n 0, 1) := by decide +kernel
theorem d_X_changeRoute_55 : decode tb_X_changeRoute 55 = .ok (.getfield 143, 3) := by decide +kernel
theorem d_X_changeRoute_58 : decode tb_X_changeRoute 58 = .ok (.iload_n 1, 1) := by decide +kernel
theorem d_X_changeRoute_59 : decode tb_X_changeRoute 59 = .ok (.iaload, 1) := by decide +kernel
theorem d_X_changeRoute_60 : decode tb_X_changeRoute 60 = .ok (.if_icmp .ne 14, 3) := by decide +kernel
theorem d_X_changeRoute_63 : decode tb_X_changeRoute 63 = .ok (.iload 5, 2) := by decide +kernel
theorem d_X_changeRoute_65 : decode tb_X_changeRoute 65 = .ok (.aload_n 0, 1) := by decide +kernel
theorem d_X_changeRoute_66 : decode tb_X_changeRoute 66 = .ok (.getfield 147, 3) := by decide +kernel
theorem d_X_changeRoute_69 : decode tb_X_changeRoute 69 = .ok (.iload_n 1, 1) := by decide +kernel
theorem d_X_changeRoute_70 : decode tb_X_changeRoute 70 = .ok (.iaload, 1) := by decide +kernel
theorem d_X_changeRoute_71 : decode tb_X_changeRoute 71 = .ok (.if_icmp .eq 7, 3) := by decide +kernel
theorem d_X_changeRoute_74 : decode tb_X_changeRoute 74 = .ok (.iconst 1, 1) := by decide +kernel
theorem d_X_changeRoute_75 : decode tb_X_changeRoute 75 = .ok (.goto 4, 3) := by decide +kernel
theorem d_X_changeRoute_78 : decode tb_X_changeRoute 78 = .ok (.iconst 0, 1) := by decide +kernel
theorem d_X_changeRoute_79 : decode tb_X_changeRoute 79 = .ok (.istore 6, 2) := by decide +kernel
theorem d_X_changeRoute_81 : decode tb_X_changeRoute 81 = .ok (.aload_n 0, 1) := by decide +kernel
theorem d_X_changeRoute_82 : decode tb_X_changeRoute 82 = .ok (.getfield 143, 3) := by decide +kernel
theorem d_X_changeRoute_85 : decode tb_X_changeRoute 85 = .ok (.iload_n 1, 1) := by decide +kernel
theorem d_X_changeRoute_86 : decode tb_X_changeRoute 86 = .ok (.iload 4, 2) := by decide +kernel
theorem d_X_changeRoute_88 : decode tb_X_changeRoute 88 = .ok (.iastore, 1) := by decide +kernel
theorem d_X_changeRoute_89 : decode tb_X_changeRoute 89 = .ok (.aload_n 0, 1) := by decide +kernel
theorem d_X_changeRoute_90 : decode tb_X_changeRoute 90 = .ok (.getfield 147, 3) := by decide +kernel
theorem d_X_changeRoute_93 : decode tb_X_changeRoute 93 = .ok (.iload_n 1, 1) := by decide +kernel
theorem d_X_changeRoute_94 : decode tb_X_changeRoute 94 = .ok (.iload 5, 2) := by decide +kernel
theorem d_X_changeRoute_96 : decode tb_X_changeRoute 96 = .ok (.iastore, 1) := by decide +kernel
theorem d_X_changeRoute_97 : decode tb_X_changeRoute 97 = .ok (.iload 6, 2) := by decide +kernel
theorem d_X_changeRoute_99 : decode tb_X_changeRoute 99 = .ok (.ireturn, 1) := by decide +kernel
theorem d_X_sendOn_0 : decode tb_X_sendOn 0 = .ok (.aload_n 1, 1) := by decide +kernel
theorem d_X_sendOn_1 : decode tb_X_sendOn 1 = .ok (.getfield 147, 3) := by decide +kernel
theorem d_X_sendOn_4 : decode tb_X_sendOn 4 = .ok (.iload_n 3, 1) := by decide +kernel
theorem d_X_sendOn_5 : decode tb_X_sendOn 5 = .ok (.iaload, 1) := by decide +kernel
theorem d_X_sendOn_6 : decode tb_X_sendOn 6 = .ok (.iconst (-1), 1) := by decide +kernel
theorem d_X_sendOn_7 : decode tb_X_sendOn 7 = .ok (.if_icmp .eq 7, 3) := by decide +kernel
theorem d_X_sendOn_10 : decode tb_X_sendOn 10 = .ok (.iconst 1, 1) := by decide +kernel
theorem d_X_sendOn_11 : decode tb_X_sendOn 11 = .ok (.goto 4, 3) := by decide +kernel
theorem d_X_sendOn_14 : decode tb_X_sendOn 14 = .ok (.iconst 0, 1) := by decide +kernel
theorem d_X_sendOn_15 : decode tb_X_sendOn 15 = .ok (.istore 7, 2) := by decide +kernel
theorem d_X_sendOn_17 : decode tb_X_sendOn 17 = .ok (.iload 7, 2) := by decide +kernel
theorem d_X_sendOn_19 : decode tb_X_sendOn 19 = .ok (.ifCond .eq 12, 3) := by decide +kernel
theorem d_X_sendOn_22 : decode tb_X_sendOn 22 = .ok (.aload_n 1, 1) := by decide +kernel
theorem d_X_sendOn_23 : decode tb_X_sendOn 23 = .ok (.getfield 147, 3) := by decide +kernel
theorem d_X_sendOn_26 : decode tb_X_sendOn 26 = .ok (.iload_n 3, 1) := by decide +kernel
theorem d_X_sendOn_27 : decode tb_X_sendOn 27 = .ok (.iaload, 1) := by decide +kernel
theorem d_X_sendOn_28 : decode tb_X_sendOn 28 = .ok (.goto 7, 3) := by decide +kernel
theorem d_X_sendOn_31 : decode tb_X_sendOn 31 = .ok (.aload_n 1, 1) := by decide +kernel
theorem d_X_sendOn_32 : decode tb_X_sendOn 32 = .ok (.getfield 115, 3) := by decide +kernel
theorem d_X_sendOn_35 : decode tb_X_sendOn 35 = .ok (.istore 8, 2) := by decide +kernel
theorem d_X_sendOn_37 : decode tb_X_sendOn 37 = .ok (.iload 8, 2) := by decide +kernel
theorem d_X_sendOn_39 : decode tb_X_sendOn 39 = .ok (.iconst (-1), 1) := by decide +kernel
theorem d_X_sendOn_40 : decode tb_X_sendOn 40 = .ok (.if_icmp .ne 7, 3) := by decide +kernel
theorem d_X_sendOn_43 : decode tb_X_sendOn 43 = .ok (.aconst_null, 1) := by decide +kernel
theorem d_X_sendOn_44 : decode tb_X_sendOn 44 = .ok (.goto 11, 3) := by decide +kernel
theorem d_X_sendOn_47 : decode tb_X_sendOn 47 = .ok (.aload_n 0, 1) := by decide +kernel
theorem d_X_sendOn_48 : decode tb_X_sendOn 48 = .ok (.aload_n 1, 1) := by decide +kernel
theorem d_X_sendOn_49 : decode tb_X_sendOn 49 = .ok (.iconst 4, 1) := by decide +kernel
theorem d_X_sendOn_50 : decode tb_X_sendOn 50 = .ok (.iload 8, 2) := by decide +kernel
theorem d_X_sendOn_52 : decode tb_X_sendOn 52 = .ok (.invokevirtual 194, 3) := by decide +kernel
theorem d_X_sendOn_55 : decode tb_X_sendOn 55 = .ok (.astore 9, 2) := by decide +kernel
theorem d_X_sendOn_57 : decode tb_X_sendOn 57 = .ok (.aload 9, 2) := by decide +kernel
theorem d_X_sendOn_59 : decode tb_X_sendOn 59 = .ok (.ifnonnull 14, 3) := by decide +kernel
theorem d_X_sendOn_62 : decode tb_X_sendOn 62 = .ok (.aload_n 0, 1) := by decide +kernel
theorem d_X_sendOn_63 : decode tb_X_sendOn 63 = .ok (.dup, 1) := by decide +kernel
theorem d_X_sendOn_64 : decode tb_X_sendOn 64 = .ok (.getfield 159, 3) := by decide +kernel
theorem d_X_sendOn_67 : decode tb_X_sendOn 67 = .ok (.iconst 1, 1) := by decide +kernel
theorem d_X_sendOn_68 : decode tb_X_sendOn 68 = .ok (.iadd, 1) := by decide +kernel
theorem d_X_sendOn_69 : decode tb_X_sendOn 69 = .ok (.putfield 159, 3) := by decide +kernel
theorem d_X_sendOn_72 : decode tb_X_sendOn 72 = .ok (.return_, 1) := by decide +kernel
theorem d_X_sendOn_73 : decode tb_X_sendOn 73 = .ok (.aload 9, 2) := by decide +kernel
theorem d_X_sendOn_75 : decode tb_X_sendOn 75 = .ok (.iload_n 2, 1) := by decide +kernel
theorem d_X_sendOn_76 : decode tb_X_sendOn 76 = .ok (.putfield 312, 3) := by decide +kernel
theorem d_X_sendOn_79 : decode tb_X_sendOn 79 = .ok (.aload 9, 2) := by decide +kernel
theorem d_X_sendOn_81 : decode tb_X_sendOn 81 = .ok (.iload_n 3, 1) := by decide +kernel
theorem d_X_sendOn_82 : decode tb_X_sendOn 82 = .ok (.putfield 315, 3) := by decide +kernel
theorem d_X_sendOn_85 : decode tb_X_sendOn 85 = .ok (.aload 9, 2) := by decide +kernel
theorem d_X_sendOn_87 : decode tb_X_sendOn 87 = .ok (.iload 4, 2) := by decide +kernel
theorem d_X_sendOn_89 : decode tb_X_sendOn 89 = .ok (.putfield 318, 3) := by decide +kernel
theorem d_X_sendOn_92 : decode tb_X_sendOn 92 = .ok (.aload 9, 2) := by decide +kernel
theorem d_X_sendOn_94 : decode tb_X_sendOn 94 = .ok (.iload 5, 2) := by decide +kernel
theorem d_X_sendOn_96 : decode tb_X_sendOn 96 = .ok (.putfield 321, 3) := by decide +kernel
theorem d_X_sendOn_99 : decode tb_X_sendOn 99 = .ok (.aload 9, 2) := by decide +kernel
theorem d_X_sendOn_101 : decode tb_X_sendOn 101 = .ok (.iload 7, 2) := by decide +kernel
theorem d_X_sendOn_103 : decode tb_X_sendOn 103 = .ok (.putfield 324, 3) := by decide +kernel
theorem d_X_sendOn_106 : decode tb_X_sendOn 106 = .ok (.aload 9, 2) := by decide +kernel
theorem d_X_sendOn_108 : decode tb_X_sendOn 108 = .ok (.iload 6, 2) := by decide +kernel
theorem d_X_sendOn_110 : decode tb_X_sendOn 110 = .ok (.putfield 327, 3) := by decide +kernel
theorem d_X_sendOn_113 : decode tb_X_sendOn 113 = .ok (.return_, 1) := by decide +kernel
theorem d_X_receiveValue_0 : decode tb_X_receiveValue 0 = .ok (.aload_n 3, 1) := by decide +kernel
theorem d_X_receiveValue_1 : decode tb_X_receiveValue 1 = .ok (.getfield 324, 3) := by decide +kernel
theorem d_X_receiveValue_4 : decode tb_X_receiveValue 4 = .ok (.ifCond .eq 19, 3) := by decide +kernel
theorem d_X_receiveValue_7 : decode tb_X_receiveValue 7 = .ok (.iload_n 2, 1) := by decide +kernel
theorem d_X_receiveValue_8 : decode tb_X_receiveValue 8 = .ok (.aload_n 1, 1) := by decide +kernel
theorem d_X_receiveValue_9 : decode tb_X_receiveValue 9 = .ok (.getfield 45, 3) := by decide +kernel
theorem d_X_receiveValue_12 : decode tb_X_receiveValue 12 = .ok (.if_icmp .lt 7, 3) := by decide +kernel
theorem d_X_receiveValue_15 : decode tb_X_receiveValue 15 = .ok (.iconst 1, 1) := by decide +kernel
theorem d_X_receiveValue_16 : decode tb_X_receiveValue 16 = .ok (.goto 20, 3) := by decide +kernel
theorem d_X_receiveValue_19 : decode tb_X_receiveValue 19 = .ok (.iconst 0, 1) := by decide +kernel
theorem d_X_receiveValue_20 : decode tb_X_receiveValue 20 = .ok (.goto 16, 3) := by decide +kernel
theorem d_X_receiveValue_23 : decode tb_X_receiveValue 23 = .ok (.iload_n 2, 1) := by decide +kernel
theorem d_X_receiveValue_24 : decode tb_X_receiveValue 24 = .ok (.aload_n 1, 1) := by decide +kernel
theorem d_X_receiveValue_25 : decode tb_X_receiveValue 25 = .ok (.getfield 45, 3) := by decide +kernel
theorem d_X_receiveValue_28 : decode tb_X_receiveValue 28 = .ok (.if_icmp .gt 7, 3) := by decide +kernel
theorem d_X_receiveValue_31 : decode tb_X_receiveValue 31 = .ok (.iconst 1, 1) := by decide +kernel
theorem d_X_receiveValue_32 : decode tb_X_receiveValue 32 = .ok (.goto 4, 3) := by decide +kernel
theorem d_X_receiveValue_35 : decode tb_X_receiveValue 35 = .ok (.iconst 0, 1) := by decide +kernel
theorem d_X_receiveValue_36 : decode tb_X_receiveValue 36 = .ok (.istore 4, 2) := by decide +kernel
theorem d_X_receiveValue_38 : decode tb_X_receiveValue 38 = .ok (.iload 4, 2) := by decide +kernel
theorem d_X_receiveValue_40 : decode tb_X_receiveValue 40 = .ok (.ifCond .eq 28, 3) := by decide +kernel
theorem d_X_receiveValue_43 : decode tb_X_receiveValue 43 = .ok (.aload_n 3, 1) := by decide +kernel
theorem d_X_receiveValue_44 : decode tb_X_receiveValue 44 = .ok (.getfield 327, 3) := by decide +kernel
theorem d_X_receiveValue_47 : decode tb_X_receiveValue 47 = .ok (.ifCond .eq 21, 3) := by decide +kernel
theorem d_X_receiveValue_50 : decode tb_X_receiveValue 50 = .ok (.aload_n 0, 1) := by decide +kernel
theorem d_X_receiveValue_51 : decode tb_X_receiveValue 51 = .ok (.dup, 1) := by decide +kernel
theorem d_X_receiveValue_52 : decode tb_X_receiveValue 52 = .ok (.getfield 159, 3) := by decide +kernel
theorem d_X_receiveValue_55 : decode tb_X_receiveValue 55 = .ok (.iconst 1, 1) := by decide +kernel
theorem d_X_receiveValue_56 : decode tb_X_receiveValue 56 = .ok (.iadd, 1) := by decide +kernel
theorem d_X_receiveValue_57 : decode tb_X_receiveValue 57 = .ok (.putfield 159, 3) := by decide +kernel
theorem d_X_receiveValue_60 : decode tb_X_receiveValue 60 = .ok (.aload_n 0, 1) := by decide +kernel
theorem d_X_receiveValue_61 : decode tb_X_receiveValue 61 = .ok (.aload_n 1, 1) := by decide +kernel
theorem d_X_receiveValue_62 : decode tb_X_receiveValue 62 = .ok (.invokevirtual 58, 3) := by decide +kernel
theorem d_X_receiveValue_65 : decode tb_X_receiveValue 65 = .ok (.goto 84, 3) := by decide +kernel
theorem d_X_receiveValue_68 : decode tb_X_receiveValue 68 = .ok (.aload_n 3, 1) := by decide +kernel
theorem d_X_receiveValue_69 : decode tb_X_receiveValue 69 = .ok (.getfield 315, 3) := by decide +kernel
theorem d_X_receiveValue_72 : decode tb_X_receiveValue 72 = .ok (.aload_n 1, 1) := by decide +kernel
theorem d_X_receiveValue_73 : decode tb_X_receiveValue 73 = .ok (.getfield 221, 3) := by decide +kernel
theorem d_X_receiveValue_76 : decode tb_X_receiveValue 76 = .ok (.if_icmp .ne 12, 3) := by decide +kernel
theorem d_X_receiveValue_79 : decode tb_X_receiveValue 79 = .ok (.aload_n 0, 1) := by decide +kernel
theorem d_X_receiveValue_80 : decode tb_X_receiveValue 80 = .ok (.aload_n 1, 1) := by decide +kernel
theorem d_X_receiveValue_81 : decode tb_X_receiveValue 81 = .ok (.aload_n 3, 1) := by decide +kernel
theorem d_X_receiveValue_82 : decode tb_X_receiveValue 82 = .ok (.invokevirtual 330, 3) := by decide +kernel
theorem d_X_receiveValue_85 : decode tb_X_receiveValue 85 = .ok (.goto 64, 3) := by decide +kernel
theorem d_X_receiveValue_88 : decode tb_X_receiveValue 88 = .ok (.aload_n 3, 1) := by decide +kernel
theorem d_X_receiveValue_89 : decode tb_X_receiveValue 89 = .ok (.getfield 318, 3) := by decide +kernel
theorem d_X_receiveValue_92 : decode tb_X_receiveValue 92 = .ok (.iconst 1, 1) := by decide +kernel
theorem d_X_receiveValue_93 : decode tb_X_receiveValue 93 = .ok (.if_icmp .gt 16, 3) := by decide +kernel
theorem d_X_receiveValue_96 : decode tb_X_receiveValue 96 = .ok (.aload_n 0, 1) := by decide +kernel
theorem d_X_receiveValue_97 : decode tb_X_receiveValue 97 = .ok (.dup, 1) := by decide +kernel
theorem d_X_receiveValue_98 : decode tb_X_receiveValue 98 = .ok (.getfield 159, 3) := by decide +kernel
theorem d_X_receiveValue_101 : decode tb_X_receiveValue 101 = .ok (.iconst 1, 1) := by decide +kernel
theorem d_X_receiveValue_102 : decode tb_X_receiveValue 102 = .ok (.iadd, 1) := by decide +kernel
theorem d_X_receiveValue_103 : decode tb_X_receiveValue 103 = .ok (.putfield 159, 3) := by decide +kernel
theorem d_X_receiveValue_106 : decode tb_X_receiveValue 106 = .ok (.goto 43, 3) := by decide +kernel
theorem d_X_receiveValue_109 : decode tb_X_receiveValue 109 = .ok (.aload_n 0, 1) := by decide +kernel
theorem d_X_receiveValue_110 : decode tb_X_receiveValue 110 = .ok (.aload_n 1, 1) := by decide +kernel
theorem d_X_receiveValue_111 : decode tb_X_receiveValue 111 = .ok (.aload_n 3, 1) := by decide +kernel
theorem d_X_receiveValue_112 : decode tb_X_receiveValue 112 = .ok (.getfield 312, 3) := by decide +kernel
theorem d_X_receiveValue_115 : decode tb_X_receiveValue 115 = .ok (.aload_n 3, 1) := by decide +kernel
theorem d_X_receiveValue_116 : decode tb_X_receiveValue 116 = .ok (.getfield 315, 3) := by decide +kernel
theorem d_X_receiveValue_119 : decode tb_X_receiveValue 119 = .ok (.aload_n 3, 1) := by decide +kernel
theorem d_X_receiveValue_120 : decode tb_X_receiveValue 120 = .ok (.getfield 318, 3) := by decide +kernel
theorem d_X_receiveValue_123 : decode tb_X_receiveValue 123 = .ok (.iconst 1, 1) := by decide +kernel
theorem d_X_receiveValue_124 : decode tb_X_receiveValue 124 = .ok (.isub, 1) := by decide +kernel
theorem d_X_receiveValue_125 : decode tb_X_receiveValue 125 = .ok (.aload_n 3, 1) := by decide +kernel
theorem d_X_receiveValue_126 : decode tb_X_receiveValue 126 = .ok (.getfield 321, 3) := by decide +kernel
theorem d_X_receiveValue_129 : decode tb_X_receiveValue 129 = .ok (.iload 4, 2) := by decide +kernel
theorem d_X_receiveValue_131 : decode tb_X_receiveValue 131 = .ok (.ifCond .ne 10, 3) := by decide +kernel
theorem d_X_receiveValue_134 : decode tb_X_receiveValue 134 = .ok (.aload_n 3, 1) := by decide +kernel
theorem d_X_receiveValue_135 : decode tb_X_receiveValue 135 = .ok (.getfield 327, 3) := by decide +kernel
theorem d_X_receiveValue_138 : decode tb_X_receiveValue 138 = .ok (.ifCond .eq 7, 3) := by decide +kernel
theorem d_X_receiveValue_141 : decode tb_X_receiveValue 141 = .ok (.iconst 1, 1) := by decide +kernel
theorem d_X_receiveValue_142 : decode tb_X_receiveValue 142 = .ok (.goto 4, 3) := by decide +kernel
theorem d_X_receiveValue_145 : decode tb_X_receiveValue 145 = .ok (.iconst 0, 1) := by decide +kernel
theorem d_X_receiveValue_146 : decode tb_X_receiveValue 146 = .ok (.invokevirtual 87, 3) := by decide +kernel
theorem d_X_receiveValue_149 : decode tb_X_receiveValue 149 = .ok (.return_, 1) := by decide +kernel
theorem d_X_deliver_0 : decode tb_X_deliver 0 = .ok (.aload_n 1, 1) := by decide +kernel
theorem d_X_deliver_1 : decode tb_X_deliver 1 = .ok (.getfield 156, 3) := by decide +kernel
theorem d_X_deliver_4 : decode tb_X_deliver 4 = .ok (.aload_n 1, 1) := by decide +kernel
theorem d_X_deliver_5 : decode tb_X_deliver 5 = .ok (.getfield 153, 3) := by decide +kernel
theorem d_X_deliver_8 : decode tb_X_deliver 8 = .ok (.bipush 8, 2) := by decide +kernel
theorem d_X_deliver_10 : decode tb_X_deliver 10 = .ok (.irem, 1) := by decide +kernel
theorem d_X_deliver_11 : decode tb_X_deliver 11 = .ok (.sipush 1000, 3) := by decide +kernel
theorem d_X_deliver_14 : decode tb_X_deliver 14 = .ok (.aload_n 2, 1) := by decide +kernel
theorem d_X_deliver_15 : decode tb_X_deliver 15 = .ok (.getfield 312, 3) := by decide +kernel
theorem d_X_deliver_18 : decode tb_X_deliver 18 = .ok (.imul, 1) := by decide +kernel
theorem d_X_deliver_19 : decode tb_X_deliver 19 = .ok (.aload_n 2, 1) := by decide +kernel
theorem d_X_deliver_20 : decode tb_X_deliver 20 = .ok (.getfield 321, 3) := by decide +kernel
theorem d_X_deliver_23 : decode tb_X_deliver 23 = .ok (.iadd, 1) := by decide +kernel
theorem d_X_deliver_24 : decode tb_X_deliver 24 = .ok (.iastore, 1) := by decide +kernel
theorem d_X_deliver_25 : decode tb_X_deliver 25 = .ok (.aload_n 1, 1) := by decide +kernel
theorem d_X_deliver_26 : decode tb_X_deliver 26 = .ok (.dup, 1) := by decide +kernel
theorem d_X_deliver_27 : decode tb_X_deliver 27 = .ok (.getfield 153, 3) := by decide +kernel
theorem d_X_deliver_30 : decode tb_X_deliver 30 = .ok (.iconst 1, 1) := by decide +kernel
theorem d_X_deliver_31 : decode tb_X_deliver 31 = .ok (.iadd, 1) := by decide +kernel
theorem d_X_deliver_32 : decode tb_X_deliver 32 = .ok (.putfield 153, 3) := by decide +kernel
theorem d_X_deliver_35 : decode tb_X_deliver 35 = .ok (.aload_n 0, 1) := by decide +kernel
theorem d_X_deliver_36 : decode tb_X_deliver 36 = .ok (.dup, 1) := by decide +kernel
theorem d_X_deliver_37 : decode tb_X_deliver 37 = .ok (.getfield 162, 3) := by decide +kernel
theorem d_X_deliver_40 : decode tb_X_deliver 40 = .ok (.iconst 1, 1) := by decide +kernel
theorem d_X_deliver_41 : decode tb_X_deliver 41 = .ok (.iadd, 1) := by decide +kernel
theorem d_X_deliver_42 : decode tb_X_deliver 42 = .ok (.putfield 162, 3) := by decide +kernel
theorem d_X_deliver_45 : decode tb_X_deliver 45 = .ok (.return_, 1) := by decide +kernel
