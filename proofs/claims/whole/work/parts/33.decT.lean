theorem d_T_init_0 : decode tb_T_init 0 = .ok (.aload_n 0, 1) := by decide +kernel
theorem d_T_init_1 : decode tb_T_init 1 = .ok (.invokespecial 3, 3) := by decide +kernel
theorem d_T_init_4 : decode tb_T_init 4 = .ok (.aload_n 0, 1) := by decide +kernel
theorem d_T_init_5 : decode tb_T_init 5 = .ok (.bipush 64, 2) := by decide +kernel
theorem d_T_init_7 : decode tb_T_init 7 = .ok (.putfield 9, 3) := by decide +kernel
theorem d_T_init_10 : decode tb_T_init 10 = .ok (.return_, 1) := by decide +kernel
