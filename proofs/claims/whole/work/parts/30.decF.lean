theorem d_F_init_0 : decode tb_F_init 0 = .ok (.aload_n 0, 1) := by decide +kernel
theorem d_F_init_1 : decode tb_F_init 1 = .ok (.invokespecial 3, 3) := by decide +kernel
theorem d_F_init_4 : decode tb_F_init 4 = .ok (.aload_n 0, 1) := by decide +kernel
theorem d_F_init_5 : decode tb_F_init 5 = .ok (.iconst (-1), 1) := by decide +kernel
theorem d_F_init_6 : decode tb_F_init 6 = .ok (.putfield 9, 3) := by decide +kernel
theorem d_F_init_9 : decode tb_F_init 9 = .ok (.aload_n 0, 1) := by decide +kernel
theorem d_F_init_10 : decode tb_F_init 10 = .ok (.bipush 7, 2) := by decide +kernel
theorem d_F_init_12 : decode tb_F_init 12 = .ok (.newarray .int, 2) := by decide +kernel
theorem d_F_init_14 : decode tb_F_init 14 = .ok (.putfield 15, 3) := by decide +kernel
theorem d_F_init_17 : decode tb_F_init 17 = .ok (.return_, 1) := by decide +kernel
