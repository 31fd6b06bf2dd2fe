theorem d_R_init_0 : decode tb_R_init 0 = .ok (.aload_n 0, 1) := by decide +kernel
theorem d_R_init_1 : decode tb_R_init 1 = .ok (.invokespecial 3, 3) := by decide +kernel
theorem d_R_init_4 : decode tb_R_init 4 = .ok (.aload_n 0, 1) := by decide +kernel
theorem d_R_init_5 : decode tb_R_init 5 = .ok (.iconst 4, 1) := by decide +kernel
theorem d_R_init_6 : decode tb_R_init 6 = .ok (.anewarray 9, 3) := by decide +kernel
theorem d_R_init_9 : decode tb_R_init 9 = .ok (.putfield 11, 3) := by decide +kernel
theorem d_R_init_12 : decode tb_R_init 12 = .ok (.aload_n 0, 1) := by decide +kernel
theorem d_R_init_13 : decode tb_R_init 13 = .ok (.iconst 0, 1) := by decide +kernel
theorem d_R_init_14 : decode tb_R_init 14 = .ok (.putfield 17, 3) := by decide +kernel
theorem d_R_init_17 : decode tb_R_init 17 = .ok (.aload_n 0, 1) := by decide +kernel
theorem d_R_init_18 : decode tb_R_init 18 = .ok (.iconst (-1), 1) := by decide +kernel
theorem d_R_init_19 : decode tb_R_init 19 = .ok (.putfield 21, 3) := by decide +kernel
theorem d_R_init_22 : decode tb_R_init 22 = .ok (.aload_n 0, 1) := by decide +kernel
theorem d_R_init_23 : decode tb_R_init 23 = .ok (.iconst (-1), 1) := by decide +kernel
theorem d_R_init_24 : decode tb_R_init 24 = .ok (.putfield 24, 3) := by decide +kernel
theorem d_R_init_27 : decode tb_R_init 27 = .ok (.aload_n 0, 1) := by decide +kernel
theorem d_R_init_28 : decode tb_R_init 28 = .ok (.iconst (-1), 1) := by decide +kernel
theorem d_R_init_29 : decode tb_R_init 29 = .ok (.putfield 27, 3) := by decide +kernel
theorem d_R_init_32 : decode tb_R_init 32 = .ok (.iconst 0, 1) := by decide +kernel
theorem d_R_init_33 : decode tb_R_init 33 = .ok (.istore_n 1, 1) := by decide +kernel
theorem d_R_init_34 : decode tb_R_init 34 = .ok (.iload_n 1, 1) := by decide +kernel
theorem d_R_init_35 : decode tb_R_init 35 = .ok (.iconst 4, 1) := by decide +kernel
theorem d_R_init_36 : decode tb_R_init 36 = .ok (.if_icmp .ge 22, 3) := by decide +kernel
theorem d_R_init_39 : decode tb_R_init 39 = .ok (.aload_n 0, 1) := by decide +kernel
theorem d_R_init_40 : decode tb_R_init 40 = .ok (.getfield 11, 3) := by decide +kernel
theorem d_R_init_43 : decode tb_R_init 43 = .ok (.iload_n 1, 1) := by decide +kernel
theorem d_R_init_44 : decode tb_R_init 44 = .ok (.new 9, 3) := by decide +kernel
theorem d_R_init_47 : decode tb_R_init 47 = .ok (.dup, 1) := by decide +kernel
theorem d_R_init_48 : decode tb_R_init 48 = .ok (.invokespecial 30, 3) := by decide +kernel
theorem d_R_init_51 : decode tb_R_init 51 = .ok (.aastore, 1) := by decide +kernel
theorem d_R_init_52 : decode tb_R_init 52 = .ok (.iinc 1 1, 3) := by decide +kernel
theorem d_R_init_55 : decode tb_R_init 55 = .ok (.goto (-21), 3) := by decide +kernel
theorem d_R_init_58 : decode tb_R_init 58 = .ok (.return_, 1) := by decide +kernel
theorem d_R_beginFirst_0 : decode tb_R_beginFirst 0 = .ok (.aload_n 0, 1) := by decide +kernel
theorem d_R_beginFirst_1 : decode tb_R_beginFirst 1 = .ok (.iconst 0, 1) := by decide +kernel
theorem d_R_beginFirst_2 : decode tb_R_beginFirst 2 = .ok (.putfield 31, 3) := by decide +kernel
theorem d_R_beginFirst_5 : decode tb_R_beginFirst 5 = .ok (.aload_n 0, 1) := by decide +kernel
theorem d_R_beginFirst_6 : decode tb_R_beginFirst 6 = .ok (.iconst 0, 1) := by decide +kernel
theorem d_R_beginFirst_7 : decode tb_R_beginFirst 7 = .ok (.putfield 34, 3) := by decide +kernel
theorem d_R_beginFirst_10 : decode tb_R_beginFirst 10 = .ok (.aload_n 0, 1) := by decide +kernel
theorem d_R_beginFirst_11 : decode tb_R_beginFirst 11 = .ok (.iload_n 1, 1) := by decide +kernel
theorem d_R_beginFirst_12 : decode tb_R_beginFirst 12 = .ok (.putfield 37, 3) := by decide +kernel
theorem d_R_beginFirst_15 : decode tb_R_beginFirst 15 = .ok (.return_, 1) := by decide +kernel
