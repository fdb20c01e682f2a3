/-! the code is sound: 92.csB -/
theorem dX0_init_0 : decode cX0_init 0 = .ok (.aload_n 0, 1) := by decide +kernel
theorem dX0_init_1 : decode cX0_init 1 = .ok (.invokespecial 3, 3) := by decide +kernel
theorem dX0_init_4 : decode cX0_init 4 = .ok (.aload_n 0, 1) := by decide +kernel
theorem dX0_init_5 : decode cX0_init 5 = .ok (.new 9, 3) := by decide +kernel
theorem dX0_init_8 : decode cX0_init 8 = .ok (.dup, 1) := by decide +kernel
theorem dX0_init_9 : decode cX0_init 9 = .ok (.invokespecial 11, 3) := by decide +kernel
theorem dX0_init_12 : decode cX0_init 12 = .ok (.putfield 12, 3) := by decide +kernel
theorem dX0_init_15 : decode cX0_init 15 = .ok (.aload_n 0, 1) := by decide +kernel
theorem dX0_init_16 : decode cX0_init 16 = .ok (.aload_n 0, 1) := by decide +kernel
theorem dX0_init_17 : decode cX0_init 17 = .ok (.getfield 12, 3) := by decide +kernel
theorem dX0_init_20 : decode cX0_init 20 = .ok (.getfield 18, 3) := by decide +kernel
theorem dX0_init_23 : decode cX0_init 23 = .ok (.putfield 22, 3) := by decide +kernel
theorem dX0_init_26 : decode cX0_init 26 = .ok (.aload_n 0, 1) := by decide +kernel
theorem dX0_init_27 : decode cX0_init 27 = .ok (.iconst 0, 1) := by decide +kernel
theorem dX0_init_28 : decode cX0_init 28 = .ok (.putfield 23, 3) := by decide +kernel
theorem dX0_init_31 : decode cX0_init 31 = .ok (.aload_n 0, 1) := by decide +kernel
theorem dX0_init_32 : decode cX0_init 32 = .ok (.iconst 0, 1) := by decide +kernel
theorem dX0_init_33 : decode cX0_init 33 = .ok (.putfield 27, 3) := by decide +kernel
theorem dX0_init_36 : decode cX0_init 36 = .ok (.aload_n 0, 1) := by decide +kernel
theorem dX0_init_37 : decode cX0_init 37 = .ok (.iconst 2, 1) := by decide +kernel
theorem dX0_init_38 : decode cX0_init 38 = .ok (.bipush 12, 2) := by decide +kernel
theorem dX0_init_40 : decode cX0_init 40 = .ok (.multianewarray 30 2, 4) := by decide +kernel
theorem dX0_init_44 : decode cX0_init 44 = .ok (.putfield 32, 3) := by decide +kernel
theorem dX0_init_47 : decode cX0_init 47 = .ok (.aload_n 0, 1) := by decide +kernel
theorem dX0_init_48 : decode cX0_init 48 = .ok (.iconst 2, 1) := by decide +kernel
theorem dX0_init_49 : decode cX0_init 49 = .ok (.newarray .int, 2) := by decide +kernel
theorem dX0_init_51 : decode cX0_init 51 = .ok (.putfield 35, 3) := by decide +kernel
theorem dX0_init_54 : decode cX0_init 54 = .ok (.aload_n 0, 1) := by decide +kernel
theorem dX0_init_55 : decode cX0_init 55 = .ok (.sipush 200, 3) := by decide +kernel
theorem dX0_init_58 : decode cX0_init 58 = .ok (.newarray .int, 2) := by decide +kernel
theorem dX0_init_60 : decode cX0_init 60 = .ok (.putfield 39, 3) := by decide +kernel
theorem dX0_init_63 : decode cX0_init 63 = .ok (.aload_n 0, 1) := by decide +kernel
theorem dX0_init_64 : decode cX0_init 64 = .ok (.sipush 200, 3) := by decide +kernel
theorem dX0_init_67 : decode cX0_init 67 = .ok (.newarray .int, 2) := by decide +kernel
theorem dX0_init_69 : decode cX0_init 69 = .ok (.putfield 42, 3) := by decide +kernel
theorem dX0_init_72 : decode cX0_init 72 = .ok (.aload_n 0, 1) := by decide +kernel
theorem dX0_init_73 : decode cX0_init 73 = .ok (.iconst 0, 1) := by decide +kernel
theorem dX0_init_74 : decode cX0_init 74 = .ok (.putfield 45, 3) := by decide +kernel
theorem dX0_init_77 : decode cX0_init 77 = .ok (.return_, 1) := by decide +kernel
set_option maxRecDepth 20000 in
theorem s_CF_init (E : XE) : Cs E (yX0_init, cX0_init, 1, none) (k_CF_init) := (Cs_nd (Cs_nd (Cs_nd (Cs_nd (Cs_nd (Cs_lf (sg_aload_n dX0_init_0 rfl)) (Cs_lf (sg_obj dX0_init_1 w_117 w_38 w_39))) (Cs_nd (Cs_lf (sg_aload_n dX0_init_4 rfl)) (Cs_lf (sg_new dX0_init_5 rfl inX1 tyX1_ok (by decide) w_118 w_64 w_4)))) (Cs_nd (Cs_nd (Cs_lf (sg_dup dX0_init_8)) (Cs_lf (sg_invIN (mid := 15) (by decide +kernel) dX0_init_9 ok_15 rfl rfl (host := RX7) (by decide +kernel) w_66))) (Cs_nd (Cs_lf (sg_putF dX0_init_12 rfl inX0 tyX0_ok nmX0 (by decide) w_122 rfl rfl rfl (tyX0_ok 0 (by decide)) (ok_obj _))) (Cs_nd (Cs_lf (sg_aload_n dX0_init_15 rfl)) (Cs_lf (sg_aload_n dX0_init_16 rfl)))))) (Cs_nd (Cs_nd (Cs_nd (Cs_lf (sg_getf dX0_init_17 rfl inX0 (by decide) w_122)) (Cs_lf (sg_getf dX0_init_20 rfl inX1 (by decide) w_72))) (Cs_nd (Cs_lf (sg_putF dX0_init_23 rfl inX0 tyX0_ok nmX0 (by decide) w_126 rfl rfl rfl (tyX0_ok 1 (by decide)) (ok_obj _))) (Cs_nd (Cs_lf (sg_aload_n dX0_init_26 rfl)) (Cs_lf (sg_iconst dX0_init_27 (by decide)))))) (Cs_nd (Cs_nd (Cs_lf (sg_putf dX0_init_28 rfl inX0 tyX0_ok nmX0 (by decide) w_130 rfl (tyX0_ok 2 (by decide)) ok_int)) (Cs_lf (sg_aload_n dX0_init_31 rfl))) (Cs_nd (Cs_lf (sg_iconst dX0_init_32 (by decide))) (Cs_nd (Cs_lf (sg_putf dX0_init_33 rfl inX0 tyX0_ok nmX0 (by decide) w_134 rfl (tyX0_ok 3 (by decide)) ok_int)) (Cs_lf (sg_aload_n dX0_init_36 rfl))))))) (Cs_nd (Cs_nd (Cs_nd (Cs_nd (Cs_lf (sg_iconst dX0_init_37 (by decide))) (Cs_lf (sg_bipush dX0_init_38 (by decide)))) (Cs_nd (Cs_lf (sg_mna dX0_init_40 w_120 w_83)) (Cs_nd (Cs_lf (sg_putF dX0_init_44 rfl inX0 tyX0_ok nmX0 (by decide) w_137 rfl rfl rfl (tyX0_ok 4 (by decide)) (ok_arr _))) (Cs_lf (sg_aload_n dX0_init_47 rfl))))) (Cs_nd (Cs_nd (Cs_lf (sg_iconst dX0_init_48 (by decide))) (Cs_lf (sg_newI dX0_init_49 w_83))) (Cs_nd (Cs_lf (sg_putF dX0_init_51 rfl inX0 tyX0_ok nmX0 (by decide) w_138 rfl rfl rfl (tyX0_ok 5 (by decide)) (ok_arr _))) (Cs_nd (Cs_lf (sg_aload_n dX0_init_54 rfl)) (Cs_lf (sg_sipush dX0_init_55 (by decide))))))) (Cs_nd (Cs_nd (Cs_nd (Cs_lf (sg_newI dX0_init_58 w_83)) (Cs_lf (sg_putF dX0_init_60 rfl inX0 tyX0_ok nmX0 (by decide) w_139 rfl rfl rfl (tyX0_ok 6 (by decide)) (ok_arr _)))) (Cs_nd (Cs_lf (sg_aload_n dX0_init_63 rfl)) (Cs_nd (Cs_lf (sg_sipush dX0_init_64 (by decide))) (Cs_lf (sg_newI dX0_init_67 w_83))))) (Cs_nd (Cs_nd (Cs_lf (sg_putF dX0_init_69 rfl inX0 tyX0_ok nmX0 (by decide) w_140 rfl rfl rfl (tyX0_ok 7 (by decide)) (ok_arr _))) (Cs_lf (sg_aload_n dX0_init_72 rfl))) (Cs_nd (Cs_lf (sg_iconst dX0_init_73 (by decide))) (Cs_nd (Cs_lf (sg_putf dX0_init_74 rfl inX0 tyX0_ok nmX0 (by decide) w_141 rfl (tyX0_ok 8 (by decide)) ok_int)) (Cs_lf (sg_vret dX0_init_77 rfl))))))))
theorem dX0_begin_0 : decode cX0_begin 0 = .ok (.aload_n 0, 1) := by decide +kernel
theorem dX0_begin_1 : decode cX0_begin 1 = .ok (.getfield 22, 3) := by decide +kernel
theorem dX0_begin_4 : decode cX0_begin 4 = .ok (.aload_n 1, 1) := by decide +kernel
theorem dX0_begin_5 : decode cX0_begin 5 = .ok (.iconst 0, 1) := by decide +kernel
theorem dX0_begin_6 : decode cX0_begin 6 = .ok (.aload_n 1, 1) := by decide +kernel
theorem dX0_begin_7 : decode cX0_begin 7 = .ok (.invokevirtual 48, 3) := by decide +kernel
theorem dX0_begin_10 : decode cX0_begin 10 = .ok (.invokevirtual 54, 3) := by decide +kernel
theorem dX0_begin_13 : decode cX0_begin 13 = .ok (.pop, 1) := by decide +kernel
theorem dX0_begin_14 : decode cX0_begin 14 = .ok (.aload_n 0, 1) := by decide +kernel
theorem dX0_begin_15 : decode cX0_begin 15 = .ok (.getfield 12, 3) := by decide +kernel
theorem dX0_begin_18 : decode cX0_begin 18 = .ok (.iconst 0, 1) := by decide +kernel
theorem dX0_begin_19 : decode cX0_begin 19 = .ok (.invokevirtual 58, 3) := by decide +kernel
theorem dX0_begin_22 : decode cX0_begin 22 = .ok (.aload_n 0, 1) := by decide +kernel
theorem dX0_begin_23 : decode cX0_begin 23 = .ok (.iconst 0, 1) := by decide +kernel
theorem dX0_begin_24 : decode cX0_begin 24 = .ok (.putfield 23, 3) := by decide +kernel
theorem dX0_begin_27 : decode cX0_begin 27 = .ok (.aload_n 0, 1) := by decide +kernel
theorem dX0_begin_28 : decode cX0_begin 28 = .ok (.iconst 0, 1) := by decide +kernel
theorem dX0_begin_29 : decode cX0_begin 29 = .ok (.putfield 27, 3) := by decide +kernel
theorem dX0_begin_32 : decode cX0_begin 32 = .ok (.aload_n 0, 1) := by decide +kernel
theorem dX0_begin_33 : decode cX0_begin 33 = .ok (.iconst 0, 1) := by decide +kernel
theorem dX0_begin_34 : decode cX0_begin 34 = .ok (.putfield 45, 3) := by decide +kernel
theorem dX0_begin_37 : decode cX0_begin 37 = .ok (.aload_n 0, 1) := by decide +kernel
theorem dX0_begin_38 : decode cX0_begin 38 = .ok (.getfield 35, 3) := by decide +kernel
theorem dX0_begin_41 : decode cX0_begin 41 = .ok (.iconst 0, 1) := by decide +kernel
theorem dX0_begin_42 : decode cX0_begin 42 = .ok (.invokestatic 62, 3) := by decide +kernel
theorem dX0_begin_45 : decode cX0_begin 45 = .ok (.return_, 1) := by decide +kernel
set_option maxRecDepth 20000 in
theorem s_CF_begin (E : XE) : Cs E (yX0_begin, cX0_begin, 2, none) (k_CF_begin) := (Cs_nd (Cs_nd (Cs_nd (Cs_nd (Cs_lf (sg_aload_n dX0_begin_0 rfl)) (Cs_nd (Cs_lf (sg_getf dX0_begin_1 rfl inX0 (by decide) w_126)) (Cs_lf (sg_aload_n dX0_begin_4 rfl)))) (Cs_nd (Cs_lf (sg_iconst dX0_begin_5 (by decide))) (Cs_nd (Cs_lf (sg_aload_n dX0_begin_6 rfl)) (Cs_lf (sg_invV (mid := 61) (ci := 4) (by decide +kernel) dX0_begin_7 ok_61 rfl w_206 w_191 w_192))))) (Cs_nd (Cs_nd (Cs_lf (sg_invV (mid := 71) (ci := 4) (by decide +kernel) dX0_begin_10 ok_71 rfl w_207 w_208 w_209)) (Cs_nd (Cs_lf (sg_pop dX0_begin_13)) (Cs_lf (sg_aload_n dX0_begin_14 rfl)))) (Cs_nd (Cs_nd (Cs_lf (sg_getf dX0_begin_15 rfl inX0 (by decide) w_122)) (Cs_lf (sg_iconst dX0_begin_18 (by decide)))) (Cs_nd (Cs_lf (sg_invV (mid := 18) (ci := 1) (by decide +kernel) dX0_begin_19 ok_18 rfl w_226 w_227 w_228)) (Cs_lf (sg_aload_n dX0_begin_22 rfl)))))) (Cs_nd (Cs_nd (Cs_nd (Cs_lf (sg_iconst dX0_begin_23 (by decide))) (Cs_nd (Cs_lf (sg_putf dX0_begin_24 rfl inX0 tyX0_ok nmX0 (by decide) w_130 rfl (tyX0_ok 2 (by decide)) ok_int)) (Cs_lf (sg_aload_n dX0_begin_27 rfl)))) (Cs_nd (Cs_lf (sg_iconst dX0_begin_28 (by decide))) (Cs_nd (Cs_lf (sg_putf dX0_begin_29 rfl inX0 tyX0_ok nmX0 (by decide) w_134 rfl (tyX0_ok 3 (by decide)) ok_int)) (Cs_lf (sg_aload_n dX0_begin_32 rfl))))) (Cs_nd (Cs_nd (Cs_lf (sg_iconst dX0_begin_33 (by decide))) (Cs_nd (Cs_lf (sg_putf dX0_begin_34 rfl inX0 tyX0_ok nmX0 (by decide) w_141 rfl (tyX0_ok 8 (by decide)) ok_int)) (Cs_lf (sg_aload_n dX0_begin_37 rfl)))) (Cs_nd (Cs_nd (Cs_lf (sg_getf dX0_begin_38 rfl inX0 (by decide) w_138)) (Cs_lf (sg_iconst dX0_begin_41 (by decide)))) (Cs_nd (Cs_lf (sg_inv (mid := 191) (by decide +kernel) dX0_begin_42 ok_191 w_233 w_231)) (Cs_lf (sg_vret dX0_begin_45 rfl)))))))
theorem dX0_addTell_0 : decode cX0_addTell 0 = .ok (.aload_n 0, 1) := by decide +kernel
theorem dX0_addTell_1 : decode cX0_addTell 1 = .ok (.getfield 45, 3) := by decide +kernel
theorem dX0_addTell_4 : decode cX0_addTell 4 = .ok (.ifCond .lt 43, 3) := by decide +kernel
theorem dX0_addTell_7 : decode cX0_addTell 7 = .ok (.aload_n 0, 1) := by decide +kernel
theorem dX0_addTell_8 : decode cX0_addTell 8 = .ok (.getfield 45, 3) := by decide +kernel
theorem dX0_addTell_11 : decode cX0_addTell 11 = .ok (.sipush 200, 3) := by decide +kernel
theorem dX0_addTell_14 : decode cX0_addTell 14 = .ok (.if_icmp .ge 33, 3) := by decide +kernel
theorem dX0_addTell_17 : decode cX0_addTell 17 = .ok (.aload_n 0, 1) := by decide +kernel
theorem dX0_addTell_18 : decode cX0_addTell 18 = .ok (.getfield 39, 3) := by decide +kernel
theorem dX0_addTell_21 : decode cX0_addTell 21 = .ok (.aload_n 0, 1) := by decide +kernel
theorem dX0_addTell_22 : decode cX0_addTell 22 = .ok (.getfield 45, 3) := by decide +kernel
theorem dX0_addTell_25 : decode cX0_addTell 25 = .ok (.iload_n 1, 1) := by decide +kernel
theorem dX0_addTell_26 : decode cX0_addTell 26 = .ok (.iastore, 1) := by decide +kernel
theorem dX0_addTell_27 : decode cX0_addTell 27 = .ok (.aload_n 0, 1) := by decide +kernel
theorem dX0_addTell_28 : decode cX0_addTell 28 = .ok (.getfield 42, 3) := by decide +kernel
theorem dX0_addTell_31 : decode cX0_addTell 31 = .ok (.aload_n 0, 1) := by decide +kernel
theorem dX0_addTell_32 : decode cX0_addTell 32 = .ok (.getfield 45, 3) := by decide +kernel
theorem dX0_addTell_35 : decode cX0_addTell 35 = .ok (.iload_n 2, 1) := by decide +kernel
theorem dX0_addTell_36 : decode cX0_addTell 36 = .ok (.iastore, 1) := by decide +kernel
theorem dX0_addTell_37 : decode cX0_addTell 37 = .ok (.aload_n 0, 1) := by decide +kernel
theorem dX0_addTell_38 : decode cX0_addTell 38 = .ok (.dup, 1) := by decide +kernel
theorem dX0_addTell_39 : decode cX0_addTell 39 = .ok (.getfield 45, 3) := by decide +kernel
theorem dX0_addTell_42 : decode cX0_addTell 42 = .ok (.iconst 1, 1) := by decide +kernel
theorem dX0_addTell_43 : decode cX0_addTell 43 = .ok (.iadd, 1) := by decide +kernel
theorem dX0_addTell_44 : decode cX0_addTell 44 = .ok (.putfield 45, 3) := by decide +kernel
theorem dX0_addTell_47 : decode cX0_addTell 47 = .ok (.return_, 1) := by decide +kernel
set_option maxRecDepth 20000 in
theorem s_CF_addTell (E : XE) : Cs E (yX0_addTell, cX0_addTell, 3, none) (k_CF_addTell) := (Cs_nd (Cs_nd (Cs_nd (Cs_nd (Cs_lf (sg_aload_n dX0_addTell_0 rfl)) (Cs_nd (Cs_lf (sg_getf dX0_addTell_1 rfl inX0 (by decide) w_141)) (Cs_lf (sg_iflt dX0_addTell_4 (by decide))))) (Cs_nd (Cs_lf (sg_aload_n dX0_addTell_7 rfl)) (Cs_nd (Cs_lf (sg_getf dX0_addTell_8 rfl inX0 (by decide) w_141)) (Cs_lf (sg_sipush dX0_addTell_11 (by decide)))))) (Cs_nd (Cs_nd (Cs_lf (sg_cge dX0_addTell_14 (by decide))) (Cs_nd (Cs_lf (sg_aload_n dX0_addTell_17 rfl)) (Cs_lf (sg_getf dX0_addTell_18 rfl inX0 (by decide) w_139)))) (Cs_nd (Cs_nd (Cs_lf (sg_aload_n dX0_addTell_21 rfl)) (Cs_lf (sg_getf dX0_addTell_22 rfl inX0 (by decide) w_141))) (Cs_nd (Cs_lf (sg_iload_n dX0_addTell_25 rfl)) (Cs_lf (sg_iast dX0_addTell_26)))))) (Cs_nd (Cs_nd (Cs_nd (Cs_lf (sg_aload_n dX0_addTell_27 rfl)) (Cs_nd (Cs_lf (sg_getf dX0_addTell_28 rfl inX0 (by decide) w_140)) (Cs_lf (sg_aload_n dX0_addTell_31 rfl)))) (Cs_nd (Cs_lf (sg_getf dX0_addTell_32 rfl inX0 (by decide) w_141)) (Cs_nd (Cs_lf (sg_iload_n dX0_addTell_35 rfl)) (Cs_lf (sg_iast dX0_addTell_36))))) (Cs_nd (Cs_nd (Cs_lf (sg_aload_n dX0_addTell_37 rfl)) (Cs_nd (Cs_lf (sg_dup dX0_addTell_38)) (Cs_lf (sg_getf dX0_addTell_39 rfl inX0 (by decide) w_141)))) (Cs_nd (Cs_nd (Cs_lf (sg_iconst dX0_addTell_42 (by decide))) (Cs_lf (sg_iadd dX0_addTell_43))) (Cs_nd (Cs_lf (sg_putf dX0_addTell_44 rfl inX0 tyX0_ok nmX0 (by decide) w_141 rfl (tyX0_ok 8 (by decide)) ok_int)) (Cs_lf (sg_vret dX0_addTell_47 rfl)))))))
theorem dX0_tellCount_0 : decode cX0_tellCount 0 = .ok (.aload_n 0, 1) := by decide +kernel
theorem dX0_tellCount_1 : decode cX0_tellCount 1 = .ok (.getfield 45, 3) := by decide +kernel
theorem dX0_tellCount_4 : decode cX0_tellCount 4 = .ok (.ireturn, 1) := by decide +kernel
set_option maxRecDepth 20000 in
theorem s_CF_tellCount (E : XE) : Cs E (yX0_tellCount, cX0_tellCount, 1, some .int) (k_CF_tellCount) := (Cs_nd (Cs_lf (sg_aload_n dX0_tellCount_0 rfl)) (Cs_nd (Cs_lf (sg_getf dX0_tellCount_1 rfl inX0 (by decide) w_141)) (Cs_lf (sg_iret dX0_tellCount_4 rfl))))
theorem dX0_tellAt_0 : decode cX0_tellAt 0 = .ok (.iload_n 1, 1) := by decide +kernel
theorem dX0_tellAt_1 : decode cX0_tellAt 1 = .ok (.ifCond .lt 27, 3) := by decide +kernel
theorem dX0_tellAt_4 : decode cX0_tellAt 4 = .ok (.iload_n 1, 1) := by decide +kernel
theorem dX0_tellAt_5 : decode cX0_tellAt 5 = .ok (.aload_n 0, 1) := by decide +kernel
theorem dX0_tellAt_6 : decode cX0_tellAt 6 = .ok (.getfield 45, 3) := by decide +kernel
theorem dX0_tellAt_9 : decode cX0_tellAt 9 = .ok (.if_icmp .ge 19, 3) := by decide +kernel
theorem dX0_tellAt_12 : decode cX0_tellAt 12 = .ok (.iload_n 1, 1) := by decide +kernel
theorem dX0_tellAt_13 : decode cX0_tellAt 13 = .ok (.sipush 200, 3) := by decide +kernel
theorem dX0_tellAt_16 : decode cX0_tellAt 16 = .ok (.if_icmp .ge 12, 3) := by decide +kernel
theorem dX0_tellAt_19 : decode cX0_tellAt 19 = .ok (.aload_n 0, 1) := by decide +kernel
theorem dX0_tellAt_20 : decode cX0_tellAt 20 = .ok (.getfield 39, 3) := by decide +kernel
theorem dX0_tellAt_23 : decode cX0_tellAt 23 = .ok (.iload_n 1, 1) := by decide +kernel
theorem dX0_tellAt_24 : decode cX0_tellAt 24 = .ok (.iaload, 1) := by decide +kernel
theorem dX0_tellAt_25 : decode cX0_tellAt 25 = .ok (.goto 4, 3) := by decide +kernel
theorem dX0_tellAt_28 : decode cX0_tellAt 28 = .ok (.iconst 0, 1) := by decide +kernel
theorem dX0_tellAt_29 : decode cX0_tellAt 29 = .ok (.ireturn, 1) := by decide +kernel
set_option maxRecDepth 20000 in
theorem s_CF_tellAt (E : XE) : Cs E (yX0_tellAt, cX0_tellAt, 2, some .int) (k_CF_tellAt) := (Cs_nd (Cs_nd (Cs_nd (Cs_nd (Cs_lf (sg_iload_n dX0_tellAt_0 rfl)) (Cs_lf (sg_iflt dX0_tellAt_1 (by decide)))) (Cs_nd (Cs_lf (sg_iload_n dX0_tellAt_4 rfl)) (Cs_lf (sg_aload_n dX0_tellAt_5 rfl)))) (Cs_nd (Cs_nd (Cs_lf (sg_getf dX0_tellAt_6 rfl inX0 (by decide) w_141)) (Cs_lf (sg_cge dX0_tellAt_9 (by decide)))) (Cs_nd (Cs_lf (sg_iload_n dX0_tellAt_12 rfl)) (Cs_lf (sg_sipush dX0_tellAt_13 (by decide)))))) (Cs_nd (Cs_nd (Cs_nd (Cs_lf (sg_cge dX0_tellAt_16 (by decide))) (Cs_lf (sg_aload_n dX0_tellAt_19 rfl))) (Cs_nd (Cs_lf (sg_getf dX0_tellAt_20 rfl inX0 (by decide) w_139)) (Cs_lf (sg_iload_n dX0_tellAt_23 rfl)))) (Cs_nd (Cs_nd (Cs_lf (sg_iald dX0_tellAt_24)) (Cs_lf (sg_goto dX0_tellAt_25 (by decide)))) (Cs_nd (Cs_lf (sg_iconst dX0_tellAt_28 (by decide))) (Cs_lf (sg_iret dX0_tellAt_29 rfl))))))
theorem dX0_wanted_0 : decode cX0_wanted 0 = .ok (.iload_n 1, 1) := by decide +kernel
theorem dX0_wanted_1 : decode cX0_wanted 1 = .ok (.ifCond .lt 27, 3) := by decide +kernel
theorem dX0_wanted_4 : decode cX0_wanted 4 = .ok (.iload_n 1, 1) := by decide +kernel
theorem dX0_wanted_5 : decode cX0_wanted 5 = .ok (.aload_n 0, 1) := by decide +kernel
theorem dX0_wanted_6 : decode cX0_wanted 6 = .ok (.getfield 45, 3) := by decide +kernel
theorem dX0_wanted_9 : decode cX0_wanted 9 = .ok (.if_icmp .ge 19, 3) := by decide +kernel
theorem dX0_wanted_12 : decode cX0_wanted 12 = .ok (.iload_n 1, 1) := by decide +kernel
theorem dX0_wanted_13 : decode cX0_wanted 13 = .ok (.sipush 200, 3) := by decide +kernel
theorem dX0_wanted_16 : decode cX0_wanted 16 = .ok (.if_icmp .ge 12, 3) := by decide +kernel
theorem dX0_wanted_19 : decode cX0_wanted 19 = .ok (.aload_n 0, 1) := by decide +kernel
theorem dX0_wanted_20 : decode cX0_wanted 20 = .ok (.getfield 42, 3) := by decide +kernel
theorem dX0_wanted_23 : decode cX0_wanted 23 = .ok (.iload_n 1, 1) := by decide +kernel
theorem dX0_wanted_24 : decode cX0_wanted 24 = .ok (.iaload, 1) := by decide +kernel
theorem dX0_wanted_25 : decode cX0_wanted 25 = .ok (.goto 4, 3) := by decide +kernel
theorem dX0_wanted_28 : decode cX0_wanted 28 = .ok (.iconst 0, 1) := by decide +kernel
theorem dX0_wanted_29 : decode cX0_wanted 29 = .ok (.ireturn, 1) := by decide +kernel
set_option maxRecDepth 20000 in
theorem s_CF_wanted (E : XE) : Cs E (yX0_wanted, cX0_wanted, 2, some .int) (k_CF_wanted) := (Cs_nd (Cs_nd (Cs_nd (Cs_nd (Cs_lf (sg_iload_n dX0_wanted_0 rfl)) (Cs_lf (sg_iflt dX0_wanted_1 (by decide)))) (Cs_nd (Cs_lf (sg_iload_n dX0_wanted_4 rfl)) (Cs_lf (sg_aload_n dX0_wanted_5 rfl)))) (Cs_nd (Cs_nd (Cs_lf (sg_getf dX0_wanted_6 rfl inX0 (by decide) w_141)) (Cs_lf (sg_cge dX0_wanted_9 (by decide)))) (Cs_nd (Cs_lf (sg_iload_n dX0_wanted_12 rfl)) (Cs_lf (sg_sipush dX0_wanted_13 (by decide)))))) (Cs_nd (Cs_nd (Cs_nd (Cs_lf (sg_cge dX0_wanted_16 (by decide))) (Cs_lf (sg_aload_n dX0_wanted_19 rfl))) (Cs_nd (Cs_lf (sg_getf dX0_wanted_20 rfl inX0 (by decide) w_140)) (Cs_lf (sg_iload_n dX0_wanted_23 rfl)))) (Cs_nd (Cs_nd (Cs_lf (sg_iald dX0_wanted_24)) (Cs_lf (sg_goto dX0_wanted_25 (by decide)))) (Cs_nd (Cs_lf (sg_iconst dX0_wanted_28 (by decide))) (Cs_lf (sg_iret dX0_wanted_29 rfl))))))
theorem dX0_firstBehind_0 : decode cX0_firstBehind 0 = .ok (.iconst 0, 1) := by decide +kernel
theorem dX0_firstBehind_1 : decode cX0_firstBehind 1 = .ok (.istore_n 1, 1) := by decide +kernel
theorem dX0_firstBehind_2 : decode cX0_firstBehind 2 = .ok (.iload_n 1, 1) := by decide +kernel
theorem dX0_firstBehind_3 : decode cX0_firstBehind 3 = .ok (.aload_n 0, 1) := by decide +kernel
theorem dX0_firstBehind_4 : decode cX0_firstBehind 4 = .ok (.getfield 45, 3) := by decide +kernel
theorem dX0_firstBehind_7 : decode cX0_firstBehind 7 = .ok (.if_icmp .ge 23, 3) := by decide +kernel
theorem dX0_firstBehind_10 : decode cX0_firstBehind 10 = .ok (.aload_n 0, 1) := by decide +kernel
theorem dX0_firstBehind_11 : decode cX0_firstBehind 11 = .ok (.iload_n 1, 1) := by decide +kernel
theorem dX0_firstBehind_12 : decode cX0_firstBehind 12 = .ok (.invokevirtual 68, 3) := by decide +kernel
theorem dX0_firstBehind_15 : decode cX0_firstBehind 15 = .ok (.aload_n 0, 1) := by decide +kernel
theorem dX0_firstBehind_16 : decode cX0_firstBehind 16 = .ok (.getfield 23, 3) := by decide +kernel
theorem dX0_firstBehind_19 : decode cX0_firstBehind 19 = .ok (.if_icmp .lt 5, 3) := by decide +kernel
theorem dX0_firstBehind_22 : decode cX0_firstBehind 22 = .ok (.iload_n 1, 1) := by decide +kernel
theorem dX0_firstBehind_23 : decode cX0_firstBehind 23 = .ok (.ireturn, 1) := by decide +kernel
theorem dX0_firstBehind_24 : decode cX0_firstBehind 24 = .ok (.iinc 1 1, 3) := by decide +kernel
theorem dX0_firstBehind_27 : decode cX0_firstBehind 27 = .ok (.goto (-25), 3) := by decide +kernel
theorem dX0_firstBehind_30 : decode cX0_firstBehind 30 = .ok (.aload_n 0, 1) := by decide +kernel
theorem dX0_firstBehind_31 : decode cX0_firstBehind 31 = .ok (.getfield 45, 3) := by decide +kernel
theorem dX0_firstBehind_34 : decode cX0_firstBehind 34 = .ok (.ireturn, 1) := by decide +kernel
set_option maxRecDepth 20000 in
theorem s_CF_firstBehind (E : XE) : Cs E (yX0_firstBehind, cX0_firstBehind, 2, some .int) (k_CF_firstBehind) := (Cs_nd (Cs_nd (Cs_nd (Cs_nd (Cs_lf (sg_iconst dX0_firstBehind_0 (by decide))) (Cs_lf (sg_istore_n dX0_firstBehind_1 rfl (by decide)))) (Cs_nd (Cs_lf (sg_iload_n dX0_firstBehind_2 rfl)) (Cs_lf (sg_aload_n dX0_firstBehind_3 rfl)))) (Cs_nd (Cs_nd (Cs_lf (sg_getf dX0_firstBehind_4 rfl inX0 (by decide) w_141)) (Cs_lf (sg_cge dX0_firstBehind_7 (by decide)))) (Cs_nd (Cs_lf (sg_aload_n dX0_firstBehind_10 rfl)) (Cs_nd (Cs_lf (sg_iload_n dX0_firstBehind_11 rfl)) (Cs_lf (sg_invV (mid := 4) (ci := 0) (by decide +kernel) dX0_firstBehind_12 ok_4 rfl w_637 w_362 w_363)))))) (Cs_nd (Cs_nd (Cs_nd (Cs_lf (sg_aload_n dX0_firstBehind_15 rfl)) (Cs_lf (sg_getf dX0_firstBehind_16 rfl inX0 (by decide) w_130))) (Cs_nd (Cs_lf (sg_clt dX0_firstBehind_19 (by decide))) (Cs_nd (Cs_lf (sg_iload_n dX0_firstBehind_22 rfl)) (Cs_lf (sg_iret dX0_firstBehind_23 rfl))))) (Cs_nd (Cs_nd (Cs_lf (sg_iinc dX0_firstBehind_24 (by decide) (by decide))) (Cs_lf (sg_goto dX0_firstBehind_27 (by decide)))) (Cs_nd (Cs_lf (sg_aload_n dX0_firstBehind_30 rfl)) (Cs_nd (Cs_lf (sg_getf dX0_firstBehind_31 rfl inX0 (by decide) w_141)) (Cs_lf (sg_iret dX0_firstBehind_34 rfl)))))))
theorem dX0_addMember_0 : decode cX0_addMember 0 = .ok (.aload_n 0, 1) := by decide +kernel
theorem dX0_addMember_1 : decode cX0_addMember 1 = .ok (.iload_n 1, 1) := by decide +kernel
theorem dX0_addMember_2 : decode cX0_addMember 2 = .ok (.invokevirtual 72, 3) := by decide +kernel
theorem dX0_addMember_5 : decode cX0_addMember 5 = .ok (.istore_n 3, 1) := by decide +kernel
theorem dX0_addMember_6 : decode cX0_addMember 6 = .ok (.iload_n 1, 1) := by decide +kernel
theorem dX0_addMember_7 : decode cX0_addMember 7 = .ok (.ifCond .eq 8, 3) := by decide +kernel
theorem dX0_addMember_10 : decode cX0_addMember 10 = .ok (.iload_n 1, 1) := by decide +kernel
theorem dX0_addMember_11 : decode cX0_addMember 11 = .ok (.iconst 1, 1) := by decide +kernel
theorem dX0_addMember_12 : decode cX0_addMember 12 = .ok (.if_icmp .ne 31, 3) := by decide +kernel
theorem dX0_addMember_15 : decode cX0_addMember 15 = .ok (.iload_n 3, 1) := by decide +kernel
theorem dX0_addMember_16 : decode cX0_addMember 16 = .ok (.ifCond .lt 27, 3) := by decide +kernel
theorem dX0_addMember_19 : decode cX0_addMember 19 = .ok (.iload_n 3, 1) := by decide +kernel
theorem dX0_addMember_20 : decode cX0_addMember 20 = .ok (.bipush 12, 2) := by decide +kernel
theorem dX0_addMember_22 : decode cX0_addMember 22 = .ok (.if_icmp .ge 21, 3) := by decide +kernel
theorem dX0_addMember_25 : decode cX0_addMember 25 = .ok (.aload_n 0, 1) := by decide +kernel
theorem dX0_addMember_26 : decode cX0_addMember 26 = .ok (.getfield 32, 3) := by decide +kernel
theorem dX0_addMember_29 : decode cX0_addMember 29 = .ok (.iload_n 1, 1) := by decide +kernel
theorem dX0_addMember_30 : decode cX0_addMember 30 = .ok (.aaload, 1) := by decide +kernel
theorem dX0_addMember_31 : decode cX0_addMember 31 = .ok (.iload_n 3, 1) := by decide +kernel
theorem dX0_addMember_32 : decode cX0_addMember 32 = .ok (.iload_n 2, 1) := by decide +kernel
theorem dX0_addMember_33 : decode cX0_addMember 33 = .ok (.iastore, 1) := by decide +kernel
theorem dX0_addMember_34 : decode cX0_addMember 34 = .ok (.aload_n 0, 1) := by decide +kernel
theorem dX0_addMember_35 : decode cX0_addMember 35 = .ok (.getfield 35, 3) := by decide +kernel
theorem dX0_addMember_38 : decode cX0_addMember 38 = .ok (.iload_n 1, 1) := by decide +kernel
theorem dX0_addMember_39 : decode cX0_addMember 39 = .ok (.iload_n 3, 1) := by decide +kernel
theorem dX0_addMember_40 : decode cX0_addMember 40 = .ok (.iconst 1, 1) := by decide +kernel
theorem dX0_addMember_41 : decode cX0_addMember 41 = .ok (.iadd, 1) := by decide +kernel
theorem dX0_addMember_42 : decode cX0_addMember 42 = .ok (.iastore, 1) := by decide +kernel
theorem dX0_addMember_43 : decode cX0_addMember 43 = .ok (.return_, 1) := by decide +kernel
set_option maxRecDepth 20000 in
theorem s_CF_addMember (E : XE) : Cs E (yX0_addMember, cX0_addMember, 4, none) (k_CF_addMember) := (Cs_nd (Cs_nd (Cs_nd (Cs_nd (Cs_lf (sg_aload_n dX0_addMember_0 rfl)) (Cs_nd (Cs_lf (sg_iload_n dX0_addMember_1 rfl)) (Cs_lf (sg_invV (mid := 8) (ci := 0) (by decide +kernel) dX0_addMember_2 ok_8 rfl w_340 w_341 w_342)))) (Cs_nd (Cs_nd (Cs_lf (sg_istore_n dX0_addMember_5 rfl (by decide))) (Cs_lf (sg_iload_n dX0_addMember_6 rfl))) (Cs_nd (Cs_lf (sg_ifeq dX0_addMember_7 (by decide))) (Cs_lf (sg_iload_n dX0_addMember_10 rfl))))) (Cs_nd (Cs_nd (Cs_lf (sg_iconst dX0_addMember_11 (by decide))) (Cs_nd (Cs_lf (sg_cne dX0_addMember_12 (by decide))) (Cs_lf (sg_iload_n dX0_addMember_15 rfl)))) (Cs_nd (Cs_nd (Cs_lf (sg_iflt dX0_addMember_16 (by decide))) (Cs_lf (sg_iload_n dX0_addMember_19 rfl))) (Cs_nd (Cs_lf (sg_bipush dX0_addMember_20 (by decide))) (Cs_lf (sg_cge dX0_addMember_22 (by decide))))))) (Cs_nd (Cs_nd (Cs_nd (Cs_lf (sg_aload_n dX0_addMember_25 rfl)) (Cs_nd (Cs_lf (sg_getf dX0_addMember_26 rfl inX0 (by decide) w_137)) (Cs_lf (sg_iload_n dX0_addMember_29 rfl)))) (Cs_nd (Cs_nd (Cs_lf (sg_aald dX0_addMember_30)) (Cs_lf (sg_iload_n dX0_addMember_31 rfl))) (Cs_nd (Cs_lf (sg_iload_n dX0_addMember_32 rfl)) (Cs_lf (sg_iast dX0_addMember_33))))) (Cs_nd (Cs_nd (Cs_nd (Cs_lf (sg_aload_n dX0_addMember_34 rfl)) (Cs_lf (sg_getf dX0_addMember_35 rfl inX0 (by decide) w_138))) (Cs_nd (Cs_lf (sg_iload_n dX0_addMember_38 rfl)) (Cs_lf (sg_iload_n dX0_addMember_39 rfl)))) (Cs_nd (Cs_nd (Cs_lf (sg_iconst dX0_addMember_40 (by decide))) (Cs_lf (sg_iadd dX0_addMember_41))) (Cs_nd (Cs_lf (sg_iast dX0_addMember_42)) (Cs_lf (sg_vret dX0_addMember_43 rfl)))))))
theorem dX0_members_0 : decode cX0_members 0 = .ok (.iload_n 1, 1) := by decide +kernel
theorem dX0_members_1 : decode cX0_members 1 = .ok (.ifCond .eq 8, 3) := by decide +kernel
theorem dX0_members_4 : decode cX0_members 4 = .ok (.iload_n 1, 1) := by decide +kernel
theorem dX0_members_5 : decode cX0_members 5 = .ok (.iconst 1, 1) := by decide +kernel
theorem dX0_members_6 : decode cX0_members 6 = .ok (.if_icmp .ne 12, 3) := by decide +kernel
theorem dX0_members_9 : decode cX0_members 9 = .ok (.aload_n 0, 1) := by decide +kernel
theorem dX0_members_10 : decode cX0_members 10 = .ok (.getfield 35, 3) := by decide +kernel
theorem dX0_members_13 : decode cX0_members 13 = .ok (.iload_n 1, 1) := by decide +kernel
theorem dX0_members_14 : decode cX0_members 14 = .ok (.iaload, 1) := by decide +kernel
theorem dX0_members_15 : decode cX0_members 15 = .ok (.goto 4, 3) := by decide +kernel
theorem dX0_members_18 : decode cX0_members 18 = .ok (.iconst 0, 1) := by decide +kernel
theorem dX0_members_19 : decode cX0_members 19 = .ok (.ireturn, 1) := by decide +kernel
set_option maxRecDepth 20000 in
theorem s_CF_members (E : XE) : Cs E (yX0_members, cX0_members, 2, some .int) (k_CF_members) := (Cs_nd (Cs_nd (Cs_nd (Cs_lf (sg_iload_n dX0_members_0 rfl)) (Cs_nd (Cs_lf (sg_ifeq dX0_members_1 (by decide))) (Cs_lf (sg_iload_n dX0_members_4 rfl)))) (Cs_nd (Cs_lf (sg_iconst dX0_members_5 (by decide))) (Cs_nd (Cs_lf (sg_cne dX0_members_6 (by decide))) (Cs_lf (sg_aload_n dX0_members_9 rfl))))) (Cs_nd (Cs_nd (Cs_lf (sg_getf dX0_members_10 rfl inX0 (by decide) w_138)) (Cs_nd (Cs_lf (sg_iload_n dX0_members_13 rfl)) (Cs_lf (sg_iald dX0_members_14)))) (Cs_nd (Cs_lf (sg_goto dX0_members_15 (by decide))) (Cs_nd (Cs_lf (sg_iconst dX0_members_18 (by decide))) (Cs_lf (sg_iret dX0_members_19 rfl))))))
theorem dX0_memberAt_0 : decode cX0_memberAt 0 = .ok (.iload_n 2, 1) := by decide +kernel
theorem dX0_memberAt_1 : decode cX0_memberAt 1 = .ok (.ifCond .lt 29, 3) := by decide +kernel
theorem dX0_memberAt_4 : decode cX0_memberAt 4 = .ok (.iload_n 2, 1) := by decide +kernel
theorem dX0_memberAt_5 : decode cX0_memberAt 5 = .ok (.aload_n 0, 1) := by decide +kernel
theorem dX0_memberAt_6 : decode cX0_memberAt 6 = .ok (.iload_n 1, 1) := by decide +kernel
theorem dX0_memberAt_7 : decode cX0_memberAt 7 = .ok (.invokevirtual 72, 3) := by decide +kernel
theorem dX0_memberAt_10 : decode cX0_memberAt 10 = .ok (.if_icmp .ge 20, 3) := by decide +kernel
theorem dX0_memberAt_13 : decode cX0_memberAt 13 = .ok (.iload_n 2, 1) := by decide +kernel
theorem dX0_memberAt_14 : decode cX0_memberAt 14 = .ok (.bipush 12, 2) := by decide +kernel
theorem dX0_memberAt_16 : decode cX0_memberAt 16 = .ok (.if_icmp .ge 14, 3) := by decide +kernel
theorem dX0_memberAt_19 : decode cX0_memberAt 19 = .ok (.aload_n 0, 1) := by decide +kernel
theorem dX0_memberAt_20 : decode cX0_memberAt 20 = .ok (.getfield 32, 3) := by decide +kernel
theorem dX0_memberAt_23 : decode cX0_memberAt 23 = .ok (.iload_n 1, 1) := by decide +kernel
theorem dX0_memberAt_24 : decode cX0_memberAt 24 = .ok (.aaload, 1) := by decide +kernel
theorem dX0_memberAt_25 : decode cX0_memberAt 25 = .ok (.iload_n 2, 1) := by decide +kernel
theorem dX0_memberAt_26 : decode cX0_memberAt 26 = .ok (.iaload, 1) := by decide +kernel
theorem dX0_memberAt_27 : decode cX0_memberAt 27 = .ok (.goto 4, 3) := by decide +kernel
theorem dX0_memberAt_30 : decode cX0_memberAt 30 = .ok (.iconst (-1), 1) := by decide +kernel
theorem dX0_memberAt_31 : decode cX0_memberAt 31 = .ok (.ireturn, 1) := by decide +kernel
set_option maxRecDepth 20000 in
theorem s_CF_memberAt (E : XE) : Cs E (yX0_memberAt, cX0_memberAt, 3, some .int) (k_CF_memberAt) := (Cs_nd (Cs_nd (Cs_nd (Cs_nd (Cs_lf (sg_iload_n dX0_memberAt_0 rfl)) (Cs_lf (sg_iflt dX0_memberAt_1 (by decide)))) (Cs_nd (Cs_lf (sg_iload_n dX0_memberAt_4 rfl)) (Cs_lf (sg_aload_n dX0_memberAt_5 rfl)))) (Cs_nd (Cs_nd (Cs_lf (sg_iload_n dX0_memberAt_6 rfl)) (Cs_lf (sg_invV (mid := 8) (ci := 0) (by decide +kernel) dX0_memberAt_7 ok_8 rfl w_340 w_341 w_342))) (Cs_nd (Cs_lf (sg_cge dX0_memberAt_10 (by decide))) (Cs_nd (Cs_lf (sg_iload_n dX0_memberAt_13 rfl)) (Cs_lf (sg_bipush dX0_memberAt_14 (by decide))))))) (Cs_nd (Cs_nd (Cs_nd (Cs_lf (sg_cge dX0_memberAt_16 (by decide))) (Cs_lf (sg_aload_n dX0_memberAt_19 rfl))) (Cs_nd (Cs_lf (sg_getf dX0_memberAt_20 rfl inX0 (by decide) w_137)) (Cs_nd (Cs_lf (sg_iload_n dX0_memberAt_23 rfl)) (Cs_lf (sg_aald dX0_memberAt_24))))) (Cs_nd (Cs_nd (Cs_lf (sg_iload_n dX0_memberAt_25 rfl)) (Cs_lf (sg_iald dX0_memberAt_26))) (Cs_nd (Cs_lf (sg_goto dX0_memberAt_27 (by decide))) (Cs_nd (Cs_lf (sg_iconst dX0_memberAt_30 (by decide))) (Cs_lf (sg_iret dX0_memberAt_31 rfl)))))))
theorem dX0_faces_0 : decode cX0_faces 0 = .ok (.aload_n 0, 1) := by decide +kernel
theorem dX0_faces_1 : decode cX0_faces 1 = .ok (.getfield 22, 3) := by decide +kernel
theorem dX0_faces_4 : decode cX0_faces 4 = .ok (.aload_n 0, 1) := by decide +kernel
theorem dX0_faces_5 : decode cX0_faces 5 = .ok (.getfield 23, 3) := by decide +kernel
theorem dX0_faces_8 : decode cX0_faces 8 = .ok (.bipush 6, 2) := by decide +kernel
theorem dX0_faces_10 : decode cX0_faces 10 = .ok (.iadd, 1) := by decide +kernel
theorem dX0_faces_11 : decode cX0_faces 11 = .ok (.invokevirtual 75, 3) := by decide +kernel
theorem dX0_faces_14 : decode cX0_faces 14 = .ok (.ireturn, 1) := by decide +kernel
set_option maxRecDepth 20000 in
theorem s_CF_faces (E : XE) : Cs E (yX0_faces, cX0_faces, 1, some .int) (k_CF_faces) := (Cs_nd (Cs_nd (Cs_nd (Cs_lf (sg_aload_n dX0_faces_0 rfl)) (Cs_lf (sg_getf dX0_faces_1 rfl inX0 (by decide) w_126))) (Cs_nd (Cs_lf (sg_aload_n dX0_faces_4 rfl)) (Cs_lf (sg_getf dX0_faces_5 rfl inX0 (by decide) w_130)))) (Cs_nd (Cs_nd (Cs_lf (sg_bipush dX0_faces_8 (by decide))) (Cs_lf (sg_iadd dX0_faces_10))) (Cs_nd (Cs_lf (sg_invV (mid := 64) (ci := 4) (by decide +kernel) dX0_faces_11 ok_64 rfl w_446 w_291 w_292)) (Cs_lf (sg_iret dX0_faces_14 rfl)))))
theorem dX0_classPlace_0 : decode cX0_classPlace 0 = .ok (.iload_n 1, 1) := by decide +kernel
theorem dX0_classPlace_1 : decode cX0_classPlace 1 = .ok (.ifCond .lt 13, 3) := by decide +kernel
theorem dX0_classPlace_4 : decode cX0_classPlace 4 = .ok (.iload_n 1, 1) := by decide +kernel
theorem dX0_classPlace_5 : decode cX0_classPlace 5 = .ok (.iconst 2, 1) := by decide +kernel
theorem dX0_classPlace_6 : decode cX0_classPlace 6 = .ok (.isub, 1) := by decide +kernel
theorem dX0_classPlace_7 : decode cX0_classPlace 7 = .ok (.aload_n 0, 1) := by decide +kernel
theorem dX0_classPlace_8 : decode cX0_classPlace 8 = .ok (.invokevirtual 78, 3) := by decide +kernel
theorem dX0_classPlace_11 : decode cX0_classPlace 11 = .ok (.if_icmp .lt 5, 3) := by decide +kernel
theorem dX0_classPlace_14 : decode cX0_classPlace 14 = .ok (.iconst 0, 1) := by decide +kernel
theorem dX0_classPlace_15 : decode cX0_classPlace 15 = .ok (.ireturn, 1) := by decide +kernel
theorem dX0_classPlace_16 : decode cX0_classPlace 16 = .ok (.aload_n 0, 1) := by decide +kernel
theorem dX0_classPlace_17 : decode cX0_classPlace 17 = .ok (.getfield 22, 3) := by decide +kernel
theorem dX0_classPlace_20 : decode cX0_classPlace 20 = .ok (.aload_n 0, 1) := by decide +kernel
theorem dX0_classPlace_21 : decode cX0_classPlace 21 = .ok (.getfield 23, 3) := by decide +kernel
theorem dX0_classPlace_24 : decode cX0_classPlace 24 = .ok (.iload_n 1, 1) := by decide +kernel
theorem dX0_classPlace_25 : decode cX0_classPlace 25 = .ok (.iconst 2, 1) := by decide +kernel
theorem dX0_classPlace_26 : decode cX0_classPlace 26 = .ok (.if_icmp .ge 11, 3) := by decide +kernel
theorem dX0_classPlace_29 : decode cX0_classPlace 29 = .ok (.iconst 2, 1) := by decide +kernel
theorem dX0_classPlace_30 : decode cX0_classPlace 30 = .ok (.iconst 2, 1) := by decide +kernel
theorem dX0_classPlace_31 : decode cX0_classPlace 31 = .ok (.iload_n 1, 1) := by decide +kernel
theorem dX0_classPlace_32 : decode cX0_classPlace 32 = .ok (.imul, 1) := by decide +kernel
theorem dX0_classPlace_33 : decode cX0_classPlace 33 = .ok (.iadd, 1) := by decide +kernel
theorem dX0_classPlace_34 : decode cX0_classPlace 34 = .ok (.goto 8, 3) := by decide +kernel
theorem dX0_classPlace_37 : decode cX0_classPlace 37 = .ok (.iconst 4, 1) := by decide +kernel
theorem dX0_classPlace_38 : decode cX0_classPlace 38 = .ok (.iconst 2, 1) := by decide +kernel
theorem dX0_classPlace_39 : decode cX0_classPlace 39 = .ok (.iload_n 1, 1) := by decide +kernel
theorem dX0_classPlace_40 : decode cX0_classPlace 40 = .ok (.imul, 1) := by decide +kernel
theorem dX0_classPlace_41 : decode cX0_classPlace 41 = .ok (.iadd, 1) := by decide +kernel
theorem dX0_classPlace_42 : decode cX0_classPlace 42 = .ok (.iadd, 1) := by decide +kernel
theorem dX0_classPlace_43 : decode cX0_classPlace 43 = .ok (.invokevirtual 75, 3) := by decide +kernel
theorem dX0_classPlace_46 : decode cX0_classPlace 46 = .ok (.ireturn, 1) := by decide +kernel
set_option maxRecDepth 20000 in
theorem s_CF_classPlace (E : XE) : Cs E (yX0_classPlace, cX0_classPlace, 2, some .int) (k_CF_classPlace) := (Cs_nd (Cs_nd (Cs_nd (Cs_nd (Cs_lf (sg_iload_n dX0_classPlace_0 rfl)) (Cs_nd (Cs_lf (sg_iflt dX0_classPlace_1 (by decide))) (Cs_lf (sg_iload_n dX0_classPlace_4 rfl)))) (Cs_nd (Cs_nd (Cs_lf (sg_iconst dX0_classPlace_5 (by decide))) (Cs_lf (sg_isub dX0_classPlace_6))) (Cs_nd (Cs_lf (sg_aload_n dX0_classPlace_7 rfl)) (Cs_lf (sg_invV (mid := 10) (ci := 0) (by decide +kernel) dX0_classPlace_8 ok_10 rfl w_490 w_443 w_444))))) (Cs_nd (Cs_nd (Cs_nd (Cs_lf (sg_clt dX0_classPlace_11 (by decide))) (Cs_lf (sg_iconst dX0_classPlace_14 (by decide)))) (Cs_nd (Cs_lf (sg_iret dX0_classPlace_15 rfl)) (Cs_lf (sg_aload_n dX0_classPlace_16 rfl)))) (Cs_nd (Cs_nd (Cs_lf (sg_getf dX0_classPlace_17 rfl inX0 (by decide) w_126)) (Cs_lf (sg_aload_n dX0_classPlace_20 rfl))) (Cs_nd (Cs_lf (sg_getf dX0_classPlace_21 rfl inX0 (by decide) w_130)) (Cs_lf (sg_iload_n dX0_classPlace_24 rfl)))))) (Cs_nd (Cs_nd (Cs_nd (Cs_nd (Cs_lf (sg_iconst dX0_classPlace_25 (by decide))) (Cs_lf (sg_cge dX0_classPlace_26 (by decide)))) (Cs_nd (Cs_lf (sg_iconst dX0_classPlace_29 (by decide))) (Cs_lf (sg_iconst dX0_classPlace_30 (by decide))))) (Cs_nd (Cs_nd (Cs_lf (sg_iload_n dX0_classPlace_31 rfl)) (Cs_lf (sg_imul dX0_classPlace_32))) (Cs_nd (Cs_lf (sg_iadd dX0_classPlace_33)) (Cs_lf (sg_goto dX0_classPlace_34 (by decide)))))) (Cs_nd (Cs_nd (Cs_nd (Cs_lf (sg_iconst dX0_classPlace_37 (by decide))) (Cs_lf (sg_iconst dX0_classPlace_38 (by decide)))) (Cs_nd (Cs_lf (sg_iload_n dX0_classPlace_39 rfl)) (Cs_lf (sg_imul dX0_classPlace_40)))) (Cs_nd (Cs_nd (Cs_lf (sg_iadd dX0_classPlace_41)) (Cs_lf (sg_iadd dX0_classPlace_42))) (Cs_nd (Cs_lf (sg_invV (mid := 64) (ci := 4) (by decide +kernel) dX0_classPlace_43 ok_64 rfl w_446 w_291 w_292)) (Cs_lf (sg_iret dX0_classPlace_46 rfl)))))))
theorem dX0_attributesOf_0 : decode cX0_attributesOf 0 = .ok (.iload_n 1, 1) := by decide +kernel
theorem dX0_attributesOf_1 : decode cX0_attributesOf 1 = .ok (.iconst 2, 1) := by decide +kernel
theorem dX0_attributesOf_2 : decode cX0_attributesOf 2 = .ok (.if_icmp .ne 16, 3) := by decide +kernel
theorem dX0_attributesOf_5 : decode cX0_attributesOf 5 = .ok (.iload_n 2, 1) := by decide +kernel
theorem dX0_attributesOf_6 : decode cX0_attributesOf 6 = .ok (.ifCond .ne 10, 3) := by decide +kernel
theorem dX0_attributesOf_9 : decode cX0_attributesOf 9 = .ok (.aload_n 0, 1) := by decide +kernel
theorem dX0_attributesOf_10 : decode cX0_attributesOf 10 = .ok (.getfield 27, 3) := by decide +kernel
theorem dX0_attributesOf_13 : decode cX0_attributesOf 13 = .ok (.goto 4, 3) := by decide +kernel
theorem dX0_attributesOf_16 : decode cX0_attributesOf 16 = .ok (.iconst (-1), 1) := by decide +kernel
theorem dX0_attributesOf_17 : decode cX0_attributesOf 17 = .ok (.ireturn, 1) := by decide +kernel
theorem dX0_attributesOf_18 : decode cX0_attributesOf 18 = .ok (.aload_n 0, 1) := by decide +kernel
theorem dX0_attributesOf_19 : decode cX0_attributesOf 19 = .ok (.iload_n 1, 1) := by decide +kernel
theorem dX0_attributesOf_20 : decode cX0_attributesOf 20 = .ok (.iload_n 2, 1) := by decide +kernel
theorem dX0_attributesOf_21 : decode cX0_attributesOf 21 = .ok (.invokevirtual 81, 3) := by decide +kernel
theorem dX0_attributesOf_24 : decode cX0_attributesOf 24 = .ok (.istore_n 3, 1) := by decide +kernel
theorem dX0_attributesOf_25 : decode cX0_attributesOf 25 = .ok (.iload_n 3, 1) := by decide +kernel
theorem dX0_attributesOf_26 : decode cX0_attributesOf 26 = .ok (.iconst (-1), 1) := by decide +kernel
theorem dX0_attributesOf_27 : decode cX0_attributesOf 27 = .ok (.if_icmp .ne 7, 3) := by decide +kernel
theorem dX0_attributesOf_30 : decode cX0_attributesOf 30 = .ok (.iconst (-1), 1) := by decide +kernel
theorem dX0_attributesOf_31 : decode cX0_attributesOf 31 = .ok (.goto 7, 3) := by decide +kernel
theorem dX0_attributesOf_34 : decode cX0_attributesOf 34 = .ok (.iload_n 3, 1) := by decide +kernel
theorem dX0_attributesOf_35 : decode cX0_attributesOf 35 = .ok (.bipush 6, 2) := by decide +kernel
theorem dX0_attributesOf_37 : decode cX0_attributesOf 37 = .ok (.iadd, 1) := by decide +kernel
theorem dX0_attributesOf_38 : decode cX0_attributesOf 38 = .ok (.ireturn, 1) := by decide +kernel
set_option maxRecDepth 20000 in
theorem s_CF_attributesOf (E : XE) : Cs E (yX0_attributesOf, cX0_attributesOf, 4, some .int) (k_CF_attributesOf) := (Cs_nd (Cs_nd (Cs_nd (Cs_nd (Cs_lf (sg_iload_n dX0_attributesOf_0 rfl)) (Cs_nd (Cs_lf (sg_iconst dX0_attributesOf_1 (by decide))) (Cs_lf (sg_cne dX0_attributesOf_2 (by decide))))) (Cs_nd (Cs_lf (sg_iload_n dX0_attributesOf_5 rfl)) (Cs_nd (Cs_lf (sg_ifne dX0_attributesOf_6 (by decide))) (Cs_lf (sg_aload_n dX0_attributesOf_9 rfl))))) (Cs_nd (Cs_nd (Cs_lf (sg_getf dX0_attributesOf_10 rfl inX0 (by decide) w_134)) (Cs_nd (Cs_lf (sg_goto dX0_attributesOf_13 (by decide))) (Cs_lf (sg_iconst dX0_attributesOf_16 (by decide))))) (Cs_nd (Cs_lf (sg_iret dX0_attributesOf_17 rfl)) (Cs_nd (Cs_lf (sg_aload_n dX0_attributesOf_18 rfl)) (Cs_lf (sg_iload_n dX0_attributesOf_19 rfl)))))) (Cs_nd (Cs_nd (Cs_nd (Cs_lf (sg_iload_n dX0_attributesOf_20 rfl)) (Cs_nd (Cs_lf (sg_invV (mid := 9) (ci := 0) (by decide +kernel) dX0_attributesOf_21 ok_9 rfl w_515 w_388 w_389)) (Cs_lf (sg_istore_n dX0_attributesOf_24 rfl (by decide))))) (Cs_nd (Cs_lf (sg_iload_n dX0_attributesOf_25 rfl)) (Cs_nd (Cs_lf (sg_iconst dX0_attributesOf_26 (by decide))) (Cs_lf (sg_cne dX0_attributesOf_27 (by decide)))))) (Cs_nd (Cs_nd (Cs_lf (sg_iconst dX0_attributesOf_30 (by decide))) (Cs_nd (Cs_lf (sg_goto dX0_attributesOf_31 (by decide))) (Cs_lf (sg_iload_n dX0_attributesOf_34 rfl)))) (Cs_nd (Cs_lf (sg_bipush dX0_attributesOf_35 (by decide))) (Cs_nd (Cs_lf (sg_iadd dX0_attributesOf_37)) (Cs_lf (sg_iret dX0_attributesOf_38 rfl)))))))
theorem dX0_attributeAt_0 : decode cX0_attributeAt 0 = .ok (.aload_n 0, 1) := by decide +kernel
theorem dX0_attributeAt_1 : decode cX0_attributeAt 1 = .ok (.iload_n 1, 1) := by decide +kernel
theorem dX0_attributeAt_2 : decode cX0_attributeAt 2 = .ok (.iload_n 2, 1) := by decide +kernel
theorem dX0_attributeAt_3 : decode cX0_attributeAt 3 = .ok (.invokevirtual 85, 3) := by decide +kernel
theorem dX0_attributeAt_6 : decode cX0_attributeAt 6 = .ok (.istore 4, 2) := by decide +kernel
theorem dX0_attributeAt_8 : decode cX0_attributeAt 8 = .ok (.iload 4, 2) := by decide +kernel
theorem dX0_attributeAt_10 : decode cX0_attributeAt 10 = .ok (.iconst (-1), 1) := by decide +kernel
theorem dX0_attributeAt_11 : decode cX0_attributeAt 11 = .ok (.if_icmp .eq 20, 3) := by decide +kernel
theorem dX0_attributeAt_14 : decode cX0_attributeAt 14 = .ok (.iload_n 3, 1) := by decide +kernel
theorem dX0_attributeAt_15 : decode cX0_attributeAt 15 = .ok (.ifCond .lt 16, 3) := by decide +kernel
theorem dX0_attributeAt_18 : decode cX0_attributeAt 18 = .ok (.iload_n 3, 1) := by decide +kernel
theorem dX0_attributeAt_19 : decode cX0_attributeAt 19 = .ok (.aload_n 0, 1) := by decide +kernel
theorem dX0_attributeAt_20 : decode cX0_attributeAt 20 = .ok (.getfield 22, 3) := by decide +kernel
theorem dX0_attributeAt_23 : decode cX0_attributeAt 23 = .ok (.iload 4, 2) := by decide +kernel
theorem dX0_attributeAt_25 : decode cX0_attributeAt 25 = .ok (.invokevirtual 75, 3) := by decide +kernel
theorem dX0_attributeAt_28 : decode cX0_attributeAt 28 = .ok (.if_icmp .lt 5, 3) := by decide +kernel
theorem dX0_attributeAt_31 : decode cX0_attributeAt 31 = .ok (.iconst (-1), 1) := by decide +kernel
theorem dX0_attributeAt_32 : decode cX0_attributeAt 32 = .ok (.ireturn, 1) := by decide +kernel
theorem dX0_attributeAt_33 : decode cX0_attributeAt 33 = .ok (.iload 4, 2) := by decide +kernel
theorem dX0_attributeAt_35 : decode cX0_attributeAt 35 = .ok (.iconst 2, 1) := by decide +kernel
theorem dX0_attributeAt_36 : decode cX0_attributeAt 36 = .ok (.iadd, 1) := by decide +kernel
theorem dX0_attributeAt_37 : decode cX0_attributeAt 37 = .ok (.istore 5, 2) := by decide +kernel
theorem dX0_attributeAt_39 : decode cX0_attributeAt 39 = .ok (.iconst 0, 1) := by decide +kernel
theorem dX0_attributeAt_40 : decode cX0_attributeAt 40 = .ok (.istore 6, 2) := by decide +kernel
theorem dX0_attributeAt_42 : decode cX0_attributeAt 42 = .ok (.iload 6, 2) := by decide +kernel
theorem dX0_attributeAt_44 : decode cX0_attributeAt 44 = .ok (.iload_n 3, 1) := by decide +kernel
theorem dX0_attributeAt_45 : decode cX0_attributeAt 45 = .ok (.if_icmp .ge 28, 3) := by decide +kernel
theorem dX0_attributeAt_48 : decode cX0_attributeAt 48 = .ok (.iload 5, 2) := by decide +kernel
theorem dX0_attributeAt_50 : decode cX0_attributeAt 50 = .ok (.bipush 6, 2) := by decide +kernel
theorem dX0_attributeAt_52 : decode cX0_attributeAt 52 = .ok (.aload_n 0, 1) := by decide +kernel
theorem dX0_attributeAt_53 : decode cX0_attributeAt 53 = .ok (.getfield 22, 3) := by decide +kernel
theorem dX0_attributeAt_56 : decode cX0_attributeAt 56 = .ok (.iload 5, 2) := by decide +kernel
theorem dX0_attributeAt_58 : decode cX0_attributeAt 58 = .ok (.iconst 2, 1) := by decide +kernel
theorem dX0_attributeAt_59 : decode cX0_attributeAt 59 = .ok (.iadd, 1) := by decide +kernel
theorem dX0_attributeAt_60 : decode cX0_attributeAt 60 = .ok (.invokevirtual 88, 3) := by decide +kernel
theorem dX0_attributeAt_63 : decode cX0_attributeAt 63 = .ok (.iadd, 1) := by decide +kernel
theorem dX0_attributeAt_64 : decode cX0_attributeAt 64 = .ok (.iadd, 1) := by decide +kernel
theorem dX0_attributeAt_65 : decode cX0_attributeAt 65 = .ok (.istore 5, 2) := by decide +kernel
theorem dX0_attributeAt_67 : decode cX0_attributeAt 67 = .ok (.iinc 6 1, 3) := by decide +kernel
theorem dX0_attributeAt_70 : decode cX0_attributeAt 70 = .ok (.goto (-28), 3) := by decide +kernel
theorem dX0_attributeAt_73 : decode cX0_attributeAt 73 = .ok (.iload 5, 2) := by decide +kernel
theorem dX0_attributeAt_75 : decode cX0_attributeAt 75 = .ok (.ireturn, 1) := by decide +kernel
set_option maxRecDepth 20000 in
theorem s_CF_attributeAt (E : XE) : Cs E (yX0_attributeAt, cX0_attributeAt, 7, some .int) (k_CF_attributeAt) := (Cs_nd (Cs_nd (Cs_nd (Cs_nd (Cs_nd (Cs_lf (sg_aload_n dX0_attributeAt_0 rfl)) (Cs_lf (sg_iload_n dX0_attributeAt_1 rfl))) (Cs_nd (Cs_lf (sg_iload_n dX0_attributeAt_2 rfl)) (Cs_nd (Cs_lf (sg_invV (mid := 12) (ci := 0) (by decide +kernel) dX0_attributeAt_3 ok_12 rfl w_511 w_513 ws_15)) (Cs_lf (sg_istore dX0_attributeAt_6 (by decide)))))) (Cs_nd (Cs_nd (Cs_lf (sg_iload dX0_attributeAt_8)) (Cs_lf (sg_iconst dX0_attributeAt_10 (by decide)))) (Cs_nd (Cs_lf (sg_ceq dX0_attributeAt_11 (by decide))) (Cs_nd (Cs_lf (sg_iload_n dX0_attributeAt_14 rfl)) (Cs_lf (sg_iflt dX0_attributeAt_15 (by decide))))))) (Cs_nd (Cs_nd (Cs_nd (Cs_lf (sg_iload_n dX0_attributeAt_18 rfl)) (Cs_lf (sg_aload_n dX0_attributeAt_19 rfl))) (Cs_nd (Cs_lf (sg_getf dX0_attributeAt_20 rfl inX0 (by decide) w_126)) (Cs_nd (Cs_lf (sg_iload dX0_attributeAt_23)) (Cs_lf (sg_invV (mid := 64) (ci := 4) (by decide +kernel) dX0_attributeAt_25 ok_64 rfl w_446 w_291 w_292))))) (Cs_nd (Cs_nd (Cs_lf (sg_clt dX0_attributeAt_28 (by decide))) (Cs_nd (Cs_lf (sg_iconst dX0_attributeAt_31 (by decide))) (Cs_lf (sg_iret dX0_attributeAt_32 rfl)))) (Cs_nd (Cs_lf (sg_iload dX0_attributeAt_33)) (Cs_nd (Cs_lf (sg_iconst dX0_attributeAt_35 (by decide))) (Cs_lf (sg_iadd dX0_attributeAt_36))))))) (Cs_nd (Cs_nd (Cs_nd (Cs_nd (Cs_lf (sg_istore dX0_attributeAt_37 (by decide))) (Cs_lf (sg_iconst dX0_attributeAt_39 (by decide)))) (Cs_nd (Cs_lf (sg_istore dX0_attributeAt_40 (by decide))) (Cs_nd (Cs_lf (sg_iload dX0_attributeAt_42)) (Cs_lf (sg_iload_n dX0_attributeAt_44 rfl))))) (Cs_nd (Cs_nd (Cs_lf (sg_cge dX0_attributeAt_45 (by decide))) (Cs_lf (sg_iload dX0_attributeAt_48))) (Cs_nd (Cs_lf (sg_bipush dX0_attributeAt_50 (by decide))) (Cs_nd (Cs_lf (sg_aload_n dX0_attributeAt_52 rfl)) (Cs_lf (sg_getf dX0_attributeAt_53 rfl inX0 (by decide) w_126)))))) (Cs_nd (Cs_nd (Cs_nd (Cs_lf (sg_iload dX0_attributeAt_56)) (Cs_lf (sg_iconst dX0_attributeAt_58 (by decide)))) (Cs_nd (Cs_lf (sg_iadd dX0_attributeAt_59)) (Cs_nd (Cs_lf (sg_invV (mid := 65) (ci := 4) (by decide +kernel) dX0_attributeAt_60 ok_65 rfl w_516 w_349 w_350)) (Cs_lf (sg_iadd dX0_attributeAt_63))))) (Cs_nd (Cs_nd (Cs_lf (sg_iadd dX0_attributeAt_64)) (Cs_nd (Cs_lf (sg_istore dX0_attributeAt_65 (by decide))) (Cs_lf (sg_iinc dX0_attributeAt_67 (by decide) (by decide))))) (Cs_nd (Cs_lf (sg_goto dX0_attributeAt_70 (by decide))) (Cs_nd (Cs_lf (sg_iload dX0_attributeAt_73)) (Cs_lf (sg_iret dX0_attributeAt_75 rfl))))))))
theorem dX0_meansAs_0 : decode cX0_meansAs 0 = .ok (.aload_n 0, 1) := by decide +kernel
theorem dX0_meansAs_1 : decode cX0_meansAs 1 = .ok (.invokevirtual 91, 3) := by decide +kernel
theorem dX0_meansAs_4 : decode cX0_meansAs 4 = .ok (.istore_n 2, 1) := by decide +kernel
theorem dX0_meansAs_5 : decode cX0_meansAs 5 = .ok (.aload_n 1, 1) := by decide +kernel
theorem dX0_meansAs_6 : decode cX0_meansAs 6 = .ok (.invokevirtual 91, 3) := by decide +kernel
theorem dX0_meansAs_9 : decode cX0_meansAs 9 = .ok (.istore_n 3, 1) := by decide +kernel
theorem dX0_meansAs_10 : decode cX0_meansAs 10 = .ok (.aload_n 0, 1) := by decide +kernel
theorem dX0_meansAs_11 : decode cX0_meansAs 11 = .ok (.getfield 45, 3) := by decide +kernel
theorem dX0_meansAs_14 : decode cX0_meansAs 14 = .ok (.iload_n 2, 1) := by decide +kernel
theorem dX0_meansAs_15 : decode cX0_meansAs 15 = .ok (.isub, 1) := by decide +kernel
theorem dX0_meansAs_16 : decode cX0_meansAs 16 = .ok (.istore 4, 2) := by decide +kernel
theorem dX0_meansAs_18 : decode cX0_meansAs 18 = .ok (.iload 4, 2) := by decide +kernel
theorem dX0_meansAs_20 : decode cX0_meansAs 20 = .ok (.aload_n 1, 1) := by decide +kernel
theorem dX0_meansAs_21 : decode cX0_meansAs 21 = .ok (.getfield 45, 3) := by decide +kernel
theorem dX0_meansAs_24 : decode cX0_meansAs 24 = .ok (.iload_n 3, 1) := by decide +kernel
theorem dX0_meansAs_25 : decode cX0_meansAs 25 = .ok (.isub, 1) := by decide +kernel
theorem dX0_meansAs_26 : decode cX0_meansAs 26 = .ok (.if_icmp .ne 22, 3) := by decide +kernel
theorem dX0_meansAs_29 : decode cX0_meansAs 29 = .ok (.aload_n 0, 1) := by decide +kernel
theorem dX0_meansAs_30 : decode cX0_meansAs 30 = .ok (.getfield 22, 3) := by decide +kernel
theorem dX0_meansAs_33 : decode cX0_meansAs 33 = .ok (.iconst 4, 1) := by decide +kernel
theorem dX0_meansAs_34 : decode cX0_meansAs 34 = .ok (.invokevirtual 88, 3) := by decide +kernel
theorem dX0_meansAs_37 : decode cX0_meansAs 37 = .ok (.aload_n 1, 1) := by decide +kernel
theorem dX0_meansAs_38 : decode cX0_meansAs 38 = .ok (.getfield 22, 3) := by decide +kernel
theorem dX0_meansAs_41 : decode cX0_meansAs 41 = .ok (.iconst 4, 1) := by decide +kernel
theorem dX0_meansAs_42 : decode cX0_meansAs 42 = .ok (.invokevirtual 88, 3) := by decide +kernel
theorem dX0_meansAs_45 : decode cX0_meansAs 45 = .ok (.if_icmp .eq 5, 3) := by decide +kernel
theorem dX0_meansAs_48 : decode cX0_meansAs 48 = .ok (.iconst 0, 1) := by decide +kernel
theorem dX0_meansAs_49 : decode cX0_meansAs 49 = .ok (.ireturn, 1) := by decide +kernel
theorem dX0_meansAs_50 : decode cX0_meansAs 50 = .ok (.aload_n 0, 1) := by decide +kernel
theorem dX0_meansAs_51 : decode cX0_meansAs 51 = .ok (.getfield 23, 3) := by decide +kernel
theorem dX0_meansAs_54 : decode cX0_meansAs 54 = .ok (.istore 5, 2) := by decide +kernel
theorem dX0_meansAs_56 : decode cX0_meansAs 56 = .ok (.aload_n 1, 1) := by decide +kernel
theorem dX0_meansAs_57 : decode cX0_meansAs 57 = .ok (.getfield 23, 3) := by decide +kernel
theorem dX0_meansAs_60 : decode cX0_meansAs 60 = .ok (.istore 6, 2) := by decide +kernel
theorem dX0_meansAs_62 : decode cX0_meansAs 62 = .ok (.iconst 0, 1) := by decide +kernel
theorem dX0_meansAs_63 : decode cX0_meansAs 63 = .ok (.istore 7, 2) := by decide +kernel
theorem dX0_meansAs_65 : decode cX0_meansAs 65 = .ok (.iload 7, 2) := by decide +kernel
theorem dX0_meansAs_67 : decode cX0_meansAs 67 = .ok (.iload 4, 2) := by decide +kernel
theorem dX0_meansAs_69 : decode cX0_meansAs 69 = .ok (.if_icmp .ge 103, 3) := by decide +kernel
theorem dX0_meansAs_72 : decode cX0_meansAs 72 = .ok (.aload_n 0, 1) := by decide +kernel
theorem dX0_meansAs_73 : decode cX0_meansAs 73 = .ok (.iload_n 2, 1) := by decide +kernel
theorem dX0_meansAs_74 : decode cX0_meansAs 74 = .ok (.iload 7, 2) := by decide +kernel
theorem dX0_meansAs_76 : decode cX0_meansAs 76 = .ok (.iadd, 1) := by decide +kernel
theorem dX0_meansAs_77 : decode cX0_meansAs 77 = .ok (.invokevirtual 68, 3) := by decide +kernel
theorem dX0_meansAs_80 : decode cX0_meansAs 80 = .ok (.istore 8, 2) := by decide +kernel
theorem dX0_meansAs_82 : decode cX0_meansAs 82 = .ok (.aload_n 1, 1) := by decide +kernel
theorem dX0_meansAs_83 : decode cX0_meansAs 83 = .ok (.iload_n 3, 1) := by decide +kernel
theorem dX0_meansAs_84 : decode cX0_meansAs 84 = .ok (.iload 7, 2) := by decide +kernel
theorem dX0_meansAs_86 : decode cX0_meansAs 86 = .ok (.iadd, 1) := by decide +kernel
theorem dX0_meansAs_87 : decode cX0_meansAs 87 = .ok (.invokevirtual 68, 3) := by decide +kernel
theorem dX0_meansAs_90 : decode cX0_meansAs 90 = .ok (.istore 9, 2) := by decide +kernel
theorem dX0_meansAs_92 : decode cX0_meansAs 92 = .ok (.aload_n 0, 1) := by decide +kernel
theorem dX0_meansAs_93 : decode cX0_meansAs 93 = .ok (.getfield 22, 3) := by decide +kernel
theorem dX0_meansAs_96 : decode cX0_meansAs 96 = .ok (.iload 5, 2) := by decide +kernel
theorem dX0_meansAs_98 : decode cX0_meansAs 98 = .ok (.iload 8, 2) := by decide +kernel
theorem dX0_meansAs_100 : decode cX0_meansAs 100 = .ok (.iload 5, 2) := by decide +kernel
theorem dX0_meansAs_102 : decode cX0_meansAs 102 = .ok (.isub, 1) := by decide +kernel
theorem dX0_meansAs_103 : decode cX0_meansAs 103 = .ok (.aload_n 1, 1) := by decide +kernel
theorem dX0_meansAs_104 : decode cX0_meansAs 104 = .ok (.getfield 22, 3) := by decide +kernel
theorem dX0_meansAs_107 : decode cX0_meansAs 107 = .ok (.iload 6, 2) := by decide +kernel
theorem dX0_meansAs_109 : decode cX0_meansAs 109 = .ok (.iload 9, 2) := by decide +kernel
theorem dX0_meansAs_111 : decode cX0_meansAs 111 = .ok (.iload 6, 2) := by decide +kernel
theorem dX0_meansAs_113 : decode cX0_meansAs 113 = .ok (.isub, 1) := by decide +kernel
theorem dX0_meansAs_114 : decode cX0_meansAs 114 = .ok (.invokevirtual 94, 3) := by decide +kernel
theorem dX0_meansAs_117 : decode cX0_meansAs 117 = .ok (.ifCond .ne 35, 3) := by decide +kernel
theorem dX0_meansAs_120 : decode cX0_meansAs 120 = .ok (.aload_n 0, 1) := by decide +kernel
theorem dX0_meansAs_121 : decode cX0_meansAs 121 = .ok (.getfield 12, 3) := by decide +kernel
theorem dX0_meansAs_124 : decode cX0_meansAs 124 = .ok (.aload_n 0, 1) := by decide +kernel
theorem dX0_meansAs_125 : decode cX0_meansAs 125 = .ok (.getfield 22, 3) := by decide +kernel
theorem dX0_meansAs_128 : decode cX0_meansAs 128 = .ok (.iload 8, 2) := by decide +kernel
theorem dX0_meansAs_130 : decode cX0_meansAs 130 = .ok (.invokevirtual 75, 3) := by decide +kernel
theorem dX0_meansAs_133 : decode cX0_meansAs 133 = .ok (.aload_n 1, 1) := by decide +kernel
theorem dX0_meansAs_134 : decode cX0_meansAs 134 = .ok (.getfield 12, 3) := by decide +kernel
theorem dX0_meansAs_137 : decode cX0_meansAs 137 = .ok (.aload_n 1, 1) := by decide +kernel
theorem dX0_meansAs_138 : decode cX0_meansAs 138 = .ok (.getfield 22, 3) := by decide +kernel
theorem dX0_meansAs_141 : decode cX0_meansAs 141 = .ok (.iload 9, 2) := by decide +kernel
theorem dX0_meansAs_143 : decode cX0_meansAs 143 = .ok (.invokevirtual 75, 3) := by decide +kernel
theorem dX0_meansAs_146 : decode cX0_meansAs 146 = .ok (.invokevirtual 98, 3) := by decide +kernel
theorem dX0_meansAs_149 : decode cX0_meansAs 149 = .ok (.ifCond .eq 5, 3) := by decide +kernel
theorem dX0_meansAs_152 : decode cX0_meansAs 152 = .ok (.iconst 0, 1) := by decide +kernel
theorem dX0_meansAs_153 : decode cX0_meansAs 153 = .ok (.ireturn, 1) := by decide +kernel
theorem dX0_meansAs_154 : decode cX0_meansAs 154 = .ok (.iload 8, 2) := by decide +kernel
theorem dX0_meansAs_156 : decode cX0_meansAs 156 = .ok (.iconst 2, 1) := by decide +kernel
theorem dX0_meansAs_157 : decode cX0_meansAs 157 = .ok (.iadd, 1) := by decide +kernel
theorem dX0_meansAs_158 : decode cX0_meansAs 158 = .ok (.istore 5, 2) := by decide +kernel
theorem dX0_meansAs_160 : decode cX0_meansAs 160 = .ok (.iload 9, 2) := by decide +kernel
theorem dX0_meansAs_162 : decode cX0_meansAs 162 = .ok (.iconst 2, 1) := by decide +kernel
theorem dX0_meansAs_163 : decode cX0_meansAs 163 = .ok (.iadd, 1) := by decide +kernel
theorem dX0_meansAs_164 : decode cX0_meansAs 164 = .ok (.istore 6, 2) := by decide +kernel
theorem dX0_meansAs_166 : decode cX0_meansAs 166 = .ok (.iinc 7 1, 3) := by decide +kernel
theorem dX0_meansAs_169 : decode cX0_meansAs 169 = .ok (.goto (-104), 3) := by decide +kernel
theorem dX0_meansAs_172 : decode cX0_meansAs 172 = .ok (.aload_n 0, 1) := by decide +kernel
theorem dX0_meansAs_173 : decode cX0_meansAs 173 = .ok (.getfield 22, 3) := by decide +kernel
theorem dX0_meansAs_176 : decode cX0_meansAs 176 = .ok (.iload 5, 2) := by decide +kernel
theorem dX0_meansAs_178 : decode cX0_meansAs 178 = .ok (.aload_n 0, 1) := by decide +kernel
theorem dX0_meansAs_179 : decode cX0_meansAs 179 = .ok (.getfield 22, 3) := by decide +kernel
theorem dX0_meansAs_182 : decode cX0_meansAs 182 = .ok (.invokevirtual 48, 3) := by decide +kernel
theorem dX0_meansAs_185 : decode cX0_meansAs 185 = .ok (.iload 5, 2) := by decide +kernel
theorem dX0_meansAs_187 : decode cX0_meansAs 187 = .ok (.isub, 1) := by decide +kernel
theorem dX0_meansAs_188 : decode cX0_meansAs 188 = .ok (.aload_n 1, 1) := by decide +kernel
theorem dX0_meansAs_189 : decode cX0_meansAs 189 = .ok (.getfield 22, 3) := by decide +kernel
theorem dX0_meansAs_192 : decode cX0_meansAs 192 = .ok (.iload 6, 2) := by decide +kernel
theorem dX0_meansAs_194 : decode cX0_meansAs 194 = .ok (.aload_n 1, 1) := by decide +kernel
theorem dX0_meansAs_195 : decode cX0_meansAs 195 = .ok (.getfield 22, 3) := by decide +kernel
theorem dX0_meansAs_198 : decode cX0_meansAs 198 = .ok (.invokevirtual 48, 3) := by decide +kernel
theorem dX0_meansAs_201 : decode cX0_meansAs 201 = .ok (.iload 6, 2) := by decide +kernel
theorem dX0_meansAs_203 : decode cX0_meansAs 203 = .ok (.isub, 1) := by decide +kernel
theorem dX0_meansAs_204 : decode cX0_meansAs 204 = .ok (.invokevirtual 94, 3) := by decide +kernel
theorem dX0_meansAs_207 : decode cX0_meansAs 207 = .ok (.ifCond .ne 7, 3) := by decide +kernel
theorem dX0_meansAs_210 : decode cX0_meansAs 210 = .ok (.iconst 1, 1) := by decide +kernel
theorem dX0_meansAs_211 : decode cX0_meansAs 211 = .ok (.goto 4, 3) := by decide +kernel
theorem dX0_meansAs_214 : decode cX0_meansAs 214 = .ok (.iconst 0, 1) := by decide +kernel
theorem dX0_meansAs_215 : decode cX0_meansAs 215 = .ok (.ireturn, 1) := by decide +kernel
set_option maxRecDepth 20000 in
theorem s_CF_meansAs (E : XE) : Cs E (yX0_meansAs, cX0_meansAs, 10, some .boolean) (k_CF_meansAs) := (Cs_nd (Cs_nd (Cs_nd (Cs_nd (Cs_nd (Cs_nd (Cs_lf (sg_aload_n dX0_meansAs_0 rfl)) (Cs_nd (Cs_lf (sg_invV (mid := 6) (ci := 0) (by decide +kernel) dX0_meansAs_1 ok_6 rfl w_633 w_634 w_635)) (Cs_lf (sg_istore_n dX0_meansAs_4 rfl (by decide))))) (Cs_nd (Cs_nd (Cs_lf (sg_aload_n dX0_meansAs_5 rfl)) (Cs_lf (sg_invV (mid := 6) (ci := 0) (by decide +kernel) dX0_meansAs_6 ok_6 rfl w_633 w_634 w_635))) (Cs_nd (Cs_lf (sg_istore_n dX0_meansAs_9 rfl (by decide))) (Cs_lf (sg_aload_n dX0_meansAs_10 rfl))))) (Cs_nd (Cs_nd (Cs_lf (sg_getf dX0_meansAs_11 rfl inX0 (by decide) w_141)) (Cs_nd (Cs_lf (sg_iload_n dX0_meansAs_14 rfl)) (Cs_lf (sg_isub dX0_meansAs_15)))) (Cs_nd (Cs_nd (Cs_lf (sg_istore dX0_meansAs_16 (by decide))) (Cs_lf (sg_iload dX0_meansAs_18))) (Cs_nd (Cs_lf (sg_aload_n dX0_meansAs_20 rfl)) (Cs_lf (sg_getf dX0_meansAs_21 rfl inX0 (by decide) w_141)))))) (Cs_nd (Cs_nd (Cs_nd (Cs_lf (sg_iload_n dX0_meansAs_24 rfl)) (Cs_nd (Cs_lf (sg_isub dX0_meansAs_25)) (Cs_lf (sg_cne dX0_meansAs_26 (by decide))))) (Cs_nd (Cs_nd (Cs_lf (sg_aload_n dX0_meansAs_29 rfl)) (Cs_lf (sg_getf dX0_meansAs_30 rfl inX0 (by decide) w_126))) (Cs_nd (Cs_lf (sg_iconst dX0_meansAs_33 (by decide))) (Cs_lf (sg_invV (mid := 65) (ci := 4) (by decide +kernel) dX0_meansAs_34 ok_65 rfl w_516 w_349 w_350))))) (Cs_nd (Cs_nd (Cs_lf (sg_aload_n dX0_meansAs_37 rfl)) (Cs_nd (Cs_lf (sg_getf dX0_meansAs_38 rfl inX0 (by decide) w_126)) (Cs_lf (sg_iconst dX0_meansAs_41 (by decide))))) (Cs_nd (Cs_nd (Cs_lf (sg_invV (mid := 65) (ci := 4) (by decide +kernel) dX0_meansAs_42 ok_65 rfl w_516 w_349 w_350)) (Cs_lf (sg_ceq dX0_meansAs_45 (by decide)))) (Cs_nd (Cs_lf (sg_iconst dX0_meansAs_48 (by decide))) (Cs_lf (sg_zret dX0_meansAs_49 rfl ⟨by decide, by decide⟩))))))) (Cs_nd (Cs_nd (Cs_nd (Cs_nd (Cs_lf (sg_aload_n dX0_meansAs_50 rfl)) (Cs_nd (Cs_lf (sg_getf dX0_meansAs_51 rfl inX0 (by decide) w_130)) (Cs_lf (sg_istore dX0_meansAs_54 (by decide))))) (Cs_nd (Cs_nd (Cs_lf (sg_aload_n dX0_meansAs_56 rfl)) (Cs_lf (sg_getf dX0_meansAs_57 rfl inX0 (by decide) w_130))) (Cs_nd (Cs_lf (sg_istore dX0_meansAs_60 (by decide))) (Cs_lf (sg_iconst dX0_meansAs_62 (by decide)))))) (Cs_nd (Cs_nd (Cs_lf (sg_istore dX0_meansAs_63 (by decide))) (Cs_nd (Cs_lf (sg_iload dX0_meansAs_65)) (Cs_lf (sg_iload dX0_meansAs_67)))) (Cs_nd (Cs_nd (Cs_lf (sg_cge dX0_meansAs_69 (by decide))) (Cs_lf (sg_aload_n dX0_meansAs_72 rfl))) (Cs_nd (Cs_lf (sg_iload_n dX0_meansAs_73 rfl)) (Cs_lf (sg_iload dX0_meansAs_74)))))) (Cs_nd (Cs_nd (Cs_nd (Cs_lf (sg_iadd dX0_meansAs_76)) (Cs_nd (Cs_lf (sg_invV (mid := 4) (ci := 0) (by decide +kernel) dX0_meansAs_77 ok_4 rfl w_637 w_362 w_363)) (Cs_lf (sg_istore dX0_meansAs_80 (by decide))))) (Cs_nd (Cs_nd (Cs_lf (sg_aload_n dX0_meansAs_82 rfl)) (Cs_lf (sg_iload_n dX0_meansAs_83 rfl))) (Cs_nd (Cs_lf (sg_iload dX0_meansAs_84)) (Cs_lf (sg_iadd dX0_meansAs_86))))) (Cs_nd (Cs_nd (Cs_lf (sg_invV (mid := 4) (ci := 0) (by decide +kernel) dX0_meansAs_87 ok_4 rfl w_637 w_362 w_363)) (Cs_nd (Cs_lf (sg_istore dX0_meansAs_90 (by decide))) (Cs_lf (sg_aload_n dX0_meansAs_92 rfl)))) (Cs_nd (Cs_nd (Cs_lf (sg_getf dX0_meansAs_93 rfl inX0 (by decide) w_126)) (Cs_lf (sg_iload dX0_meansAs_96))) (Cs_nd (Cs_lf (sg_iload dX0_meansAs_98)) (Cs_lf (sg_iload dX0_meansAs_100)))))))) (Cs_nd (Cs_nd (Cs_nd (Cs_nd (Cs_nd (Cs_lf (sg_isub dX0_meansAs_102)) (Cs_nd (Cs_lf (sg_aload_n dX0_meansAs_103 rfl)) (Cs_lf (sg_getf dX0_meansAs_104 rfl inX0 (by decide) w_126)))) (Cs_nd (Cs_nd (Cs_lf (sg_iload dX0_meansAs_107)) (Cs_lf (sg_iload dX0_meansAs_109))) (Cs_nd (Cs_lf (sg_iload dX0_meansAs_111)) (Cs_lf (sg_isub dX0_meansAs_113))))) (Cs_nd (Cs_nd (Cs_lf (sg_invV (mid := 72) (ci := 4) (by decide +kernel) dX0_meansAs_114 ok_72 rfl w_638 w_579 w_580)) (Cs_nd (Cs_lf (sg_ifne dX0_meansAs_117 (by decide))) (Cs_lf (sg_aload_n dX0_meansAs_120 rfl)))) (Cs_nd (Cs_nd (Cs_lf (sg_getf dX0_meansAs_121 rfl inX0 (by decide) w_122)) (Cs_lf (sg_aload_n dX0_meansAs_124 rfl))) (Cs_nd (Cs_lf (sg_getf dX0_meansAs_125 rfl inX0 (by decide) w_126)) (Cs_lf (sg_iload dX0_meansAs_128)))))) (Cs_nd (Cs_nd (Cs_nd (Cs_lf (sg_invV (mid := 64) (ci := 4) (by decide +kernel) dX0_meansAs_130 ok_64 rfl w_446 w_291 w_292)) (Cs_nd (Cs_lf (sg_aload_n dX0_meansAs_133 rfl)) (Cs_lf (sg_getf dX0_meansAs_134 rfl inX0 (by decide) w_122)))) (Cs_nd (Cs_nd (Cs_lf (sg_aload_n dX0_meansAs_137 rfl)) (Cs_lf (sg_getf dX0_meansAs_138 rfl inX0 (by decide) w_126))) (Cs_nd (Cs_lf (sg_iload dX0_meansAs_141)) (Cs_lf (sg_invV (mid := 64) (ci := 4) (by decide +kernel) dX0_meansAs_143 ok_64 rfl w_446 w_291 w_292))))) (Cs_nd (Cs_nd (Cs_lf (sg_invV (mid := 32) (ci := 1) (by decide +kernel) dX0_meansAs_146 ok_32 rfl w_639 w_558 w_559)) (Cs_nd (Cs_lf (sg_ifeq dX0_meansAs_149 (by decide))) (Cs_lf (sg_iconst dX0_meansAs_152 (by decide))))) (Cs_nd (Cs_nd (Cs_lf (sg_zret dX0_meansAs_153 rfl ⟨by decide, by decide⟩)) (Cs_lf (sg_iload dX0_meansAs_154))) (Cs_nd (Cs_lf (sg_iconst dX0_meansAs_156 (by decide))) (Cs_lf (sg_iadd dX0_meansAs_157))))))) (Cs_nd (Cs_nd (Cs_nd (Cs_nd (Cs_lf (sg_istore dX0_meansAs_158 (by decide))) (Cs_nd (Cs_lf (sg_iload dX0_meansAs_160)) (Cs_lf (sg_iconst dX0_meansAs_162 (by decide))))) (Cs_nd (Cs_nd (Cs_lf (sg_iadd dX0_meansAs_163)) (Cs_lf (sg_istore dX0_meansAs_164 (by decide)))) (Cs_nd (Cs_lf (sg_iinc dX0_meansAs_166 (by decide) (by decide))) (Cs_lf (sg_goto dX0_meansAs_169 (by decide)))))) (Cs_nd (Cs_nd (Cs_lf (sg_aload_n dX0_meansAs_172 rfl)) (Cs_nd (Cs_lf (sg_getf dX0_meansAs_173 rfl inX0 (by decide) w_126)) (Cs_lf (sg_iload dX0_meansAs_176)))) (Cs_nd (Cs_nd (Cs_lf (sg_aload_n dX0_meansAs_178 rfl)) (Cs_lf (sg_getf dX0_meansAs_179 rfl inX0 (by decide) w_126))) (Cs_nd (Cs_lf (sg_invV (mid := 61) (ci := 4) (by decide +kernel) dX0_meansAs_182 ok_61 rfl w_206 w_191 w_192)) (Cs_lf (sg_iload dX0_meansAs_185)))))) (Cs_nd (Cs_nd (Cs_nd (Cs_lf (sg_isub dX0_meansAs_187)) (Cs_nd (Cs_lf (sg_aload_n dX0_meansAs_188 rfl)) (Cs_lf (sg_getf dX0_meansAs_189 rfl inX0 (by decide) w_126)))) (Cs_nd (Cs_nd (Cs_lf (sg_iload dX0_meansAs_192)) (Cs_lf (sg_aload_n dX0_meansAs_194 rfl))) (Cs_nd (Cs_lf (sg_getf dX0_meansAs_195 rfl inX0 (by decide) w_126)) (Cs_lf (sg_invV (mid := 61) (ci := 4) (by decide +kernel) dX0_meansAs_198 ok_61 rfl w_206 w_191 w_192))))) (Cs_nd (Cs_nd (Cs_nd (Cs_lf (sg_iload dX0_meansAs_201)) (Cs_lf (sg_isub dX0_meansAs_203))) (Cs_nd (Cs_lf (sg_invV (mid := 72) (ci := 4) (by decide +kernel) dX0_meansAs_204 ok_72 rfl w_638 w_579 w_580)) (Cs_lf (sg_ifne dX0_meansAs_207 (by decide))))) (Cs_nd (Cs_nd (Cs_lf (sg_iconst dX0_meansAs_210 (by decide))) (Cs_lf (sg_goto dX0_meansAs_211 (by decide)))) (Cs_nd (Cs_lf (sg_iconst dX0_meansAs_214 (by decide))) (Cs_lf (sg_zret dX0_meansAs_215 rfl ⟨by decide, by decide⟩)))))))))
theorem dX2_init_0 : decode cX2_init 0 = .ok (.aload_n 0, 1) := by decide +kernel
theorem dX2_init_1 : decode cX2_init 1 = .ok (.invokespecial 3, 3) := by decide +kernel
theorem dX2_init_4 : decode cX2_init 4 = .ok (.aload_n 0, 1) := by decide +kernel
theorem dX2_init_5 : decode cX2_init 5 = .ok (.bipush 6, 2) := by decide +kernel
theorem dX2_init_7 : decode cX2_init 7 = .ok (.anewarray 9, 3) := by decide +kernel
theorem dX2_init_10 : decode cX2_init 10 = .ok (.putfield 11, 3) := by decide +kernel
theorem dX2_init_13 : decode cX2_init 13 = .ok (.aload_n 0, 1) := by decide +kernel
theorem dX2_init_14 : decode cX2_init 14 = .ok (.iconst 0, 1) := by decide +kernel
theorem dX2_init_15 : decode cX2_init 15 = .ok (.putfield 17, 3) := by decide +kernel
theorem dX2_init_18 : decode cX2_init 18 = .ok (.aload_n 0, 1) := by decide +kernel
theorem dX2_init_19 : decode cX2_init 19 = .ok (.sipush 150, 3) := by decide +kernel
theorem dX2_init_22 : decode cX2_init 22 = .ok (.newarray .int, 2) := by decide +kernel
theorem dX2_init_24 : decode cX2_init 24 = .ok (.putfield 21, 3) := by decide +kernel
theorem dX2_init_27 : decode cX2_init 27 = .ok (.aload_n 0, 1) := by decide +kernel
theorem dX2_init_28 : decode cX2_init 28 = .ok (.sipush 150, 3) := by decide +kernel
theorem dX2_init_31 : decode cX2_init 31 = .ok (.newarray .int, 2) := by decide +kernel
theorem dX2_init_33 : decode cX2_init 33 = .ok (.putfield 25, 3) := by decide +kernel
theorem dX2_init_36 : decode cX2_init 36 = .ok (.aload_n 0, 1) := by decide +kernel
theorem dX2_init_37 : decode cX2_init 37 = .ok (.iconst 0, 1) := by decide +kernel
theorem dX2_init_38 : decode cX2_init 38 = .ok (.putfield 28, 3) := by decide +kernel
theorem dX2_init_41 : decode cX2_init 41 = .ok (.iconst 0, 1) := by decide +kernel
theorem dX2_init_42 : decode cX2_init 42 = .ok (.istore_n 1, 1) := by decide +kernel
theorem dX2_init_43 : decode cX2_init 43 = .ok (.iload_n 1, 1) := by decide +kernel
theorem dX2_init_44 : decode cX2_init 44 = .ok (.aload_n 0, 1) := by decide +kernel
theorem dX2_init_45 : decode cX2_init 45 = .ok (.getfield 11, 3) := by decide +kernel
theorem dX2_init_48 : decode cX2_init 48 = .ok (.arraylength, 1) := by decide +kernel
theorem dX2_init_49 : decode cX2_init 49 = .ok (.if_icmp .ge 22, 3) := by decide +kernel
theorem dX2_init_52 : decode cX2_init 52 = .ok (.aload_n 0, 1) := by decide +kernel
theorem dX2_init_53 : decode cX2_init 53 = .ok (.getfield 11, 3) := by decide +kernel
theorem dX2_init_56 : decode cX2_init 56 = .ok (.iload_n 1, 1) := by decide +kernel
theorem dX2_init_57 : decode cX2_init 57 = .ok (.new 9, 3) := by decide +kernel
theorem dX2_init_60 : decode cX2_init 60 = .ok (.dup, 1) := by decide +kernel
theorem dX2_init_61 : decode cX2_init 61 = .ok (.invokespecial 31, 3) := by decide +kernel
theorem dX2_init_64 : decode cX2_init 64 = .ok (.aastore, 1) := by decide +kernel
theorem dX2_init_65 : decode cX2_init 65 = .ok (.iinc 1 1, 3) := by decide +kernel
theorem dX2_init_68 : decode cX2_init 68 = .ok (.goto (-25), 3) := by decide +kernel
theorem dX2_init_71 : decode cX2_init 71 = .ok (.return_, 1) := by decide +kernel
set_option maxRecDepth 20000 in
theorem s_RK_init (E : XE) : Cs E (yX2_init, cX2_init, 2, none) (k_RK_init) := (Cs_nd (Cs_nd (Cs_nd (Cs_nd (Cs_nd (Cs_lf (sg_aload_n dX2_init_0 rfl)) (Cs_lf (sg_obj dX2_init_1 w_61 w_38 w_39))) (Cs_nd (Cs_lf (sg_aload_n dX2_init_4 rfl)) (Cs_lf (sg_bipush dX2_init_5 (by decide))))) (Cs_nd (Cs_nd (Cs_lf (sg_newQ dX2_init_7 (fun _ => rfl) w_62 (by decide))) (Cs_lf (sg_putF dX2_init_10 rfl inX2 tyX2_ok nmX2 (by decide) w_84 rfl rfl rfl (tyX2_ok 0 (by decide)) (ok_arr _)))) (Cs_nd (Cs_lf (sg_aload_n dX2_init_13 rfl)) (Cs_nd (Cs_lf (sg_iconst dX2_init_14 (by decide))) (Cs_lf (sg_putf dX2_init_15 rfl inX2 tyX2_ok nmX2 (by decide) w_85 rfl (tyX2_ok 1 (by decide)) ok_int)))))) (Cs_nd (Cs_nd (Cs_nd (Cs_lf (sg_aload_n dX2_init_18 rfl)) (Cs_lf (sg_sipush dX2_init_19 (by decide)))) (Cs_nd (Cs_lf (sg_newI dX2_init_22 w_83)) (Cs_lf (sg_putF dX2_init_24 rfl inX2 tyX2_ok nmX2 (by decide) w_86 rfl rfl rfl (tyX2_ok 2 (by decide)) (ok_arr _))))) (Cs_nd (Cs_nd (Cs_lf (sg_aload_n dX2_init_27 rfl)) (Cs_lf (sg_sipush dX2_init_28 (by decide)))) (Cs_nd (Cs_lf (sg_newI dX2_init_31 w_83)) (Cs_nd (Cs_lf (sg_putF dX2_init_33 rfl inX2 tyX2_ok nmX2 (by decide) w_87 rfl rfl rfl (tyX2_ok 3 (by decide)) (ok_arr _))) (Cs_lf (sg_aload_n dX2_init_36 rfl))))))) (Cs_nd (Cs_nd (Cs_nd (Cs_nd (Cs_lf (sg_iconst dX2_init_37 (by decide))) (Cs_lf (sg_putf dX2_init_38 rfl inX2 tyX2_ok nmX2 (by decide) w_88 rfl (tyX2_ok 4 (by decide)) ok_int))) (Cs_nd (Cs_lf (sg_iconst dX2_init_41 (by decide))) (Cs_lf (sg_istore_n dX2_init_42 rfl (by decide))))) (Cs_nd (Cs_nd (Cs_lf (sg_iload_n dX2_init_43 rfl)) (Cs_lf (sg_aload_n dX2_init_44 rfl))) (Cs_nd (Cs_lf (sg_getf dX2_init_45 rfl inX2 (by decide) w_84)) (Cs_nd (Cs_lf (sg_alen dX2_init_48)) (Cs_lf (sg_cge dX2_init_49 (by decide))))))) (Cs_nd (Cs_nd (Cs_nd (Cs_lf (sg_aload_n dX2_init_52 rfl)) (Cs_lf (sg_getf dX2_init_53 rfl inX2 (by decide) w_84))) (Cs_nd (Cs_lf (sg_iload_n dX2_init_56 rfl)) (Cs_nd (Cs_lf (sg_new dX2_init_57 rfl inX1 tyX1_ok (by decide) w_62 w_64 w_4)) (Cs_lf (sg_dup dX2_init_60))))) (Cs_nd (Cs_nd (Cs_lf (sg_invIN (mid := 15) (by decide +kernel) dX2_init_61 ok_15 rfl rfl (host := RX7) (by decide +kernel) w_66)) (Cs_lf (sg_aast (kd := 6) (ci := 1) (fun _ => rfl) rfl dX2_init_64))) (Cs_nd (Cs_lf (sg_iinc dX2_init_65 (by decide) (by decide))) (Cs_nd (Cs_lf (sg_goto dX2_init_68 (by decide))) (Cs_lf (sg_vret dX2_init_71 rfl))))))))
theorem dX2_clear_0 : decode cX2_clear 0 = .ok (.aload_n 0, 1) := by decide +kernel
theorem dX2_clear_1 : decode cX2_clear 1 = .ok (.iconst 0, 1) := by decide +kernel
theorem dX2_clear_2 : decode cX2_clear 2 = .ok (.putfield 17, 3) := by decide +kernel
theorem dX2_clear_5 : decode cX2_clear 5 = .ok (.aload_n 0, 1) := by decide +kernel
theorem dX2_clear_6 : decode cX2_clear 6 = .ok (.iconst 0, 1) := by decide +kernel
theorem dX2_clear_7 : decode cX2_clear 7 = .ok (.putfield 28, 3) := by decide +kernel
theorem dX2_clear_10 : decode cX2_clear 10 = .ok (.return_, 1) := by decide +kernel
set_option maxRecDepth 20000 in
theorem s_RK_clear (E : XE) : Cs E (yX2_clear, cX2_clear, 1, none) (k_RK_clear) := (Cs_nd (Cs_nd (Cs_lf (sg_aload_n dX2_clear_0 rfl)) (Cs_nd (Cs_lf (sg_iconst dX2_clear_1 (by decide))) (Cs_lf (sg_putf dX2_clear_2 rfl inX2 tyX2_ok nmX2 (by decide) w_85 rfl (tyX2_ok 1 (by decide)) ok_int)))) (Cs_nd (Cs_nd (Cs_lf (sg_aload_n dX2_clear_5 rfl)) (Cs_lf (sg_iconst dX2_clear_6 (by decide)))) (Cs_nd (Cs_lf (sg_putf dX2_clear_7 rfl inX2 tyX2_ok nmX2 (by decide) w_88 rfl (tyX2_ok 4 (by decide)) ok_int)) (Cs_lf (sg_vret dX2_clear_10 rfl)))))
theorem dX2_size_0 : decode cX2_size 0 = .ok (.aload_n 0, 1) := by decide +kernel
theorem dX2_size_1 : decode cX2_size 1 = .ok (.getfield 28, 3) := by decide +kernel
theorem dX2_size_4 : decode cX2_size 4 = .ok (.ireturn, 1) := by decide +kernel
set_option maxRecDepth 20000 in
theorem s_RK_size (E : XE) : Cs E (yX2_size, cX2_size, 1, some .int) (k_RK_size) := (Cs_nd (Cs_lf (sg_aload_n dX2_size_0 rfl)) (Cs_nd (Cs_lf (sg_getf dX2_size_1 rfl inX2 (by decide) w_88)) (Cs_lf (sg_iret dX2_size_4 rfl))))
theorem dX2_add_0 : decode cX2_add 0 = .ok (.aload_n 0, 1) := by decide +kernel
theorem dX2_add_1 : decode cX2_add 1 = .ok (.getfield 17, 3) := by decide +kernel
theorem dX2_add_4 : decode cX2_add 4 = .ok (.ifCond .lt 15, 3) := by decide +kernel
theorem dX2_add_7 : decode cX2_add 7 = .ok (.aload_n 0, 1) := by decide +kernel
theorem dX2_add_8 : decode cX2_add 8 = .ok (.getfield 17, 3) := by decide +kernel
theorem dX2_add_11 : decode cX2_add 11 = .ok (.aload_n 0, 1) := by decide +kernel
theorem dX2_add_12 : decode cX2_add 12 = .ok (.getfield 11, 3) := by decide +kernel
theorem dX2_add_15 : decode cX2_add 15 = .ok (.arraylength, 1) := by decide +kernel
theorem dX2_add_16 : decode cX2_add 16 = .ok (.if_icmp .lt 5, 3) := by decide +kernel
theorem dX2_add_19 : decode cX2_add 19 = .ok (.iconst 0, 1) := by decide +kernel
theorem dX2_add_20 : decode cX2_add 20 = .ok (.ireturn, 1) := by decide +kernel
theorem dX2_add_21 : decode cX2_add 21 = .ok (.aload_n 0, 1) := by decide +kernel
theorem dX2_add_22 : decode cX2_add 22 = .ok (.getfield 11, 3) := by decide +kernel
theorem dX2_add_25 : decode cX2_add 25 = .ok (.aload_n 0, 1) := by decide +kernel
theorem dX2_add_26 : decode cX2_add 26 = .ok (.getfield 17, 3) := by decide +kernel
theorem dX2_add_29 : decode cX2_add 29 = .ok (.aaload, 1) := by decide +kernel
theorem dX2_add_30 : decode cX2_add 30 = .ok (.astore_n 2, 1) := by decide +kernel
theorem dX2_add_31 : decode cX2_add 31 = .ok (.aload_n 2, 1) := by decide +kernel
theorem dX2_add_32 : decode cX2_add 32 = .ok (.aload_n 1, 1) := by decide +kernel
theorem dX2_add_33 : decode cX2_add 33 = .ok (.invokevirtual 32, 3) := by decide +kernel
theorem dX2_add_36 : decode cX2_add 36 = .ok (.aload_n 0, 1) := by decide +kernel
theorem dX2_add_37 : decode cX2_add 37 = .ok (.dup, 1) := by decide +kernel
theorem dX2_add_38 : decode cX2_add 38 = .ok (.getfield 17, 3) := by decide +kernel
theorem dX2_add_41 : decode cX2_add 41 = .ok (.iconst 1, 1) := by decide +kernel
theorem dX2_add_42 : decode cX2_add 42 = .ok (.iadd, 1) := by decide +kernel
theorem dX2_add_43 : decode cX2_add 43 = .ok (.putfield 17, 3) := by decide +kernel
theorem dX2_add_46 : decode cX2_add 46 = .ok (.iconst 1, 1) := by decide +kernel
theorem dX2_add_47 : decode cX2_add 47 = .ok (.istore_n 3, 1) := by decide +kernel
theorem dX2_add_48 : decode cX2_add 48 = .ok (.iload_n 3, 1) := by decide +kernel
theorem dX2_add_49 : decode cX2_add 49 = .ok (.aload_n 2, 1) := by decide +kernel
theorem dX2_add_50 : decode cX2_add 50 = .ok (.invokevirtual 36, 3) := by decide +kernel
theorem dX2_add_53 : decode cX2_add 53 = .ok (.if_icmp .ge 70, 3) := by decide +kernel
theorem dX2_add_56 : decode cX2_add 56 = .ok (.aload_n 2, 1) := by decide +kernel
theorem dX2_add_57 : decode cX2_add 57 = .ok (.iload_n 3, 1) := by decide +kernel
theorem dX2_add_58 : decode cX2_add 58 = .ok (.invokevirtual 39, 3) := by decide +kernel
theorem dX2_add_61 : decode cX2_add 61 = .ok (.ifCond .ne 7, 3) := by decide +kernel
theorem dX2_add_64 : decode cX2_add 64 = .ok (.iconst (-1), 1) := by decide +kernel
theorem dX2_add_65 : decode cX2_add 65 = .ok (.goto 9, 3) := by decide +kernel
theorem dX2_add_68 : decode cX2_add 68 = .ok (.aload_n 0, 1) := by decide +kernel
theorem dX2_add_69 : decode cX2_add 69 = .ok (.aload_n 2, 1) := by decide +kernel
theorem dX2_add_70 : decode cX2_add 70 = .ok (.iload_n 3, 1) := by decide +kernel
theorem dX2_add_71 : decode cX2_add 71 = .ok (.invokevirtual 43, 3) := by decide +kernel
theorem dX2_add_74 : decode cX2_add 74 = .ok (.istore 4, 2) := by decide +kernel
theorem dX2_add_76 : decode cX2_add 76 = .ok (.iload 4, 2) := by decide +kernel
theorem dX2_add_78 : decode cX2_add 78 = .ok (.iconst (-1), 1) := by decide +kernel
theorem dX2_add_79 : decode cX2_add 79 = .ok (.if_icmp .eq 18, 3) := by decide +kernel
theorem dX2_add_82 : decode cX2_add 82 = .ok (.aload_n 0, 1) := by decide +kernel
theorem dX2_add_83 : decode cX2_add 83 = .ok (.iload 4, 2) := by decide +kernel
theorem dX2_add_85 : decode cX2_add 85 = .ok (.aload_n 2, 1) := by decide +kernel
theorem dX2_add_86 : decode cX2_add 86 = .ok (.iload_n 3, 1) := by decide +kernel
theorem dX2_add_87 : decode cX2_add 87 = .ok (.invokevirtual 47, 3) := by decide +kernel
theorem dX2_add_90 : decode cX2_add 90 = .ok (.ifCond .eq 7, 3) := by decide +kernel
theorem dX2_add_93 : decode cX2_add 93 = .ok (.iconst 1, 1) := by decide +kernel
theorem dX2_add_94 : decode cX2_add 94 = .ok (.goto 4, 3) := by decide +kernel
theorem dX2_add_97 : decode cX2_add 97 = .ok (.iconst 0, 1) := by decide +kernel
theorem dX2_add_98 : decode cX2_add 98 = .ok (.istore 5, 2) := by decide +kernel
theorem dX2_add_100 : decode cX2_add 100 = .ok (.iload 5, 2) := by decide +kernel
theorem dX2_add_102 : decode cX2_add 102 = .ok (.ifCond .eq 15, 3) := by decide +kernel
theorem dX2_add_105 : decode cX2_add 105 = .ok (.aload_n 0, 1) := by decide +kernel
theorem dX2_add_106 : decode cX2_add 106 = .ok (.iload 4, 2) := by decide +kernel
theorem dX2_add_108 : decode cX2_add 108 = .ok (.iload_n 3, 1) := by decide +kernel
theorem dX2_add_109 : decode cX2_add 109 = .ok (.invokevirtual 51, 3) := by decide +kernel
theorem dX2_add_112 : decode cX2_add 112 = .ok (.ifCond .ne 5, 3) := by decide +kernel
theorem dX2_add_115 : decode cX2_add 115 = .ok (.iconst 0, 1) := by decide +kernel
theorem dX2_add_116 : decode cX2_add 116 = .ok (.ireturn, 1) := by decide +kernel
theorem dX2_add_117 : decode cX2_add 117 = .ok (.iinc 3 1, 3) := by decide +kernel
theorem dX2_add_120 : decode cX2_add 120 = .ok (.goto (-72), 3) := by decide +kernel
theorem dX2_add_123 : decode cX2_add 123 = .ok (.iconst 1, 1) := by decide +kernel
theorem dX2_add_124 : decode cX2_add 124 = .ok (.ireturn, 1) := by decide +kernel
set_option maxRecDepth 20000 in
theorem s_RK_add (E : XE) : Cs E (yX2_add, cX2_add, 6, some .boolean) (k_RK_add) := (Cs_nd (Cs_nd (Cs_nd (Cs_nd (Cs_nd (Cs_nd (Cs_lf (sg_aload_n dX2_add_0 rfl)) (Cs_lf (sg_getf dX2_add_1 rfl inX2 (by decide) w_85))) (Cs_nd (Cs_lf (sg_iflt dX2_add_4 (by decide))) (Cs_lf (sg_aload_n dX2_add_7 rfl)))) (Cs_nd (Cs_nd (Cs_lf (sg_getf dX2_add_8 rfl inX2 (by decide) w_85)) (Cs_lf (sg_aload_n dX2_add_11 rfl))) (Cs_nd (Cs_lf (sg_getf dX2_add_12 rfl inX2 (by decide) w_84)) (Cs_lf (sg_alen dX2_add_15))))) (Cs_nd (Cs_nd (Cs_nd (Cs_lf (sg_clt dX2_add_16 (by decide))) (Cs_lf (sg_iconst dX2_add_19 (by decide)))) (Cs_nd (Cs_lf (sg_zret dX2_add_20 rfl ⟨by decide, by decide⟩)) (Cs_lf (sg_aload_n dX2_add_21 rfl)))) (Cs_nd (Cs_nd (Cs_lf (sg_getf dX2_add_22 rfl inX2 (by decide) w_84)) (Cs_lf (sg_aload_n dX2_add_25 rfl))) (Cs_nd (Cs_lf (sg_getf dX2_add_26 rfl inX2 (by decide) w_85)) (Cs_nd (Cs_lf (sg_aald dX2_add_29)) (Cs_lf (sg_astore_n dX2_add_30 rfl (by decide)))))))) (Cs_nd (Cs_nd (Cs_nd (Cs_nd (Cs_lf (sg_aload_n dX2_add_31 rfl)) (Cs_lf (sg_aload_n dX2_add_32 rfl))) (Cs_nd (Cs_lf (sg_invV (mid := 20) (ci := 1) (by decide +kernel) dX2_add_33 ok_20 rfl w_536 w_537 w_538)) (Cs_lf (sg_aload_n dX2_add_36 rfl)))) (Cs_nd (Cs_nd (Cs_lf (sg_dup dX2_add_37)) (Cs_lf (sg_getf dX2_add_38 rfl inX2 (by decide) w_85))) (Cs_nd (Cs_lf (sg_iconst dX2_add_41 (by decide))) (Cs_lf (sg_iadd dX2_add_42))))) (Cs_nd (Cs_nd (Cs_nd (Cs_lf (sg_putf dX2_add_43 rfl inX2 tyX2_ok nmX2 (by decide) w_85 rfl (tyX2_ok 1 (by decide)) ok_int)) (Cs_lf (sg_iconst dX2_add_46 (by decide)))) (Cs_nd (Cs_lf (sg_istore_n dX2_add_47 rfl (by decide))) (Cs_lf (sg_iload_n dX2_add_48 rfl)))) (Cs_nd (Cs_nd (Cs_lf (sg_aload_n dX2_add_49 rfl)) (Cs_lf (sg_invV (mid := 16) (ci := 1) (by decide +kernel) dX2_add_50 ok_16 rfl w_543 w_439 w_440))) (Cs_nd (Cs_lf (sg_cge dX2_add_53 (by decide))) (Cs_nd (Cs_lf (sg_aload_n dX2_add_56 rfl)) (Cs_lf (sg_iload_n dX2_add_57 rfl)))))))) (Cs_nd (Cs_nd (Cs_nd (Cs_nd (Cs_nd (Cs_lf (sg_invV (mid := 22) (ci := 1) (by decide +kernel) dX2_add_58 ok_22 rfl w_544 w_374 w_375)) (Cs_lf (sg_ifne dX2_add_61 (by decide)))) (Cs_nd (Cs_lf (sg_iconst dX2_add_64 (by decide))) (Cs_lf (sg_goto dX2_add_65 (by decide))))) (Cs_nd (Cs_nd (Cs_lf (sg_aload_n dX2_add_68 rfl)) (Cs_lf (sg_aload_n dX2_add_69 rfl))) (Cs_nd (Cs_lf (sg_iload_n dX2_add_70 rfl)) (Cs_lf (sg_invV (mid := 39) (ci := 2) (by decide +kernel) dX2_add_71 ok_39 rfl w_545 w_547 ws_16))))) (Cs_nd (Cs_nd (Cs_nd (Cs_lf (sg_istore dX2_add_74 (by decide))) (Cs_lf (sg_iload dX2_add_76))) (Cs_nd (Cs_lf (sg_iconst dX2_add_78 (by decide))) (Cs_lf (sg_ceq dX2_add_79 (by decide))))) (Cs_nd (Cs_nd (Cs_lf (sg_aload_n dX2_add_82 rfl)) (Cs_lf (sg_iload dX2_add_83))) (Cs_nd (Cs_lf (sg_aload_n dX2_add_85 rfl)) (Cs_nd (Cs_lf (sg_iload_n dX2_add_86 rfl)) (Cs_lf (sg_invV (mid := 40) (ci := 2) (by decide +kernel) dX2_add_87 ok_40 rfl w_587 w_589 ws_18))))))) (Cs_nd (Cs_nd (Cs_nd (Cs_nd (Cs_lf (sg_ifeq dX2_add_90 (by decide))) (Cs_lf (sg_iconst dX2_add_93 (by decide)))) (Cs_nd (Cs_lf (sg_goto dX2_add_94 (by decide))) (Cs_lf (sg_iconst dX2_add_97 (by decide))))) (Cs_nd (Cs_nd (Cs_lf (sg_istore dX2_add_98 (by decide))) (Cs_lf (sg_iload dX2_add_100))) (Cs_nd (Cs_lf (sg_ifeq dX2_add_102 (by decide))) (Cs_nd (Cs_lf (sg_aload_n dX2_add_105 rfl)) (Cs_lf (sg_iload dX2_add_106)))))) (Cs_nd (Cs_nd (Cs_nd (Cs_lf (sg_iload_n dX2_add_108 rfl)) (Cs_lf (sg_invV (mid := 37) (ci := 2) (by decide +kernel) dX2_add_109 ok_37 rfl w_591 w_593 ws_19))) (Cs_nd (Cs_lf (sg_ifne dX2_add_112 (by decide))) (Cs_lf (sg_iconst dX2_add_115 (by decide))))) (Cs_nd (Cs_nd (Cs_lf (sg_zret dX2_add_116 rfl ⟨by decide, by decide⟩)) (Cs_lf (sg_iinc dX2_add_117 (by decide) (by decide)))) (Cs_nd (Cs_lf (sg_goto dX2_add_120 (by decide))) (Cs_nd (Cs_lf (sg_iconst dX2_add_123 (by decide))) (Cs_lf (sg_zret dX2_add_124 rfl ⟨by decide, by decide⟩)))))))))
theorem dX2_insert_0 : decode cX2_insert 0 = .ok (.iload_n 1, 1) := by decide +kernel
theorem dX2_insert_1 : decode cX2_insert 1 = .ok (.ifCond .lt 21, 3) := by decide +kernel
theorem dX2_insert_4 : decode cX2_insert 4 = .ok (.iload_n 1, 1) := by decide +kernel
theorem dX2_insert_5 : decode cX2_insert 5 = .ok (.aload_n 0, 1) := by decide +kernel
theorem dX2_insert_6 : decode cX2_insert 6 = .ok (.getfield 28, 3) := by decide +kernel
theorem dX2_insert_9 : decode cX2_insert 9 = .ok (.if_icmp .gt 13, 3) := by decide +kernel
theorem dX2_insert_12 : decode cX2_insert 12 = .ok (.aload_n 0, 1) := by decide +kernel
theorem dX2_insert_13 : decode cX2_insert 13 = .ok (.getfield 28, 3) := by decide +kernel
theorem dX2_insert_16 : decode cX2_insert 16 = .ok (.sipush 150, 3) := by decide +kernel
theorem dX2_insert_19 : decode cX2_insert 19 = .ok (.if_icmp .lt 5, 3) := by decide +kernel
theorem dX2_insert_22 : decode cX2_insert 22 = .ok (.iconst 0, 1) := by decide +kernel
theorem dX2_insert_23 : decode cX2_insert 23 = .ok (.ireturn, 1) := by decide +kernel
theorem dX2_insert_24 : decode cX2_insert 24 = .ok (.aload_n 0, 1) := by decide +kernel
theorem dX2_insert_25 : decode cX2_insert 25 = .ok (.getfield 21, 3) := by decide +kernel
theorem dX2_insert_28 : decode cX2_insert 28 = .ok (.iload_n 1, 1) := by decide +kernel
theorem dX2_insert_29 : decode cX2_insert 29 = .ok (.aload_n 0, 1) := by decide +kernel
theorem dX2_insert_30 : decode cX2_insert 30 = .ok (.getfield 21, 3) := by decide +kernel
theorem dX2_insert_33 : decode cX2_insert 33 = .ok (.iload_n 1, 1) := by decide +kernel
theorem dX2_insert_34 : decode cX2_insert 34 = .ok (.iconst 1, 1) := by decide +kernel
theorem dX2_insert_35 : decode cX2_insert 35 = .ok (.iadd, 1) := by decide +kernel
theorem dX2_insert_36 : decode cX2_insert 36 = .ok (.aload_n 0, 1) := by decide +kernel
theorem dX2_insert_37 : decode cX2_insert 37 = .ok (.getfield 28, 3) := by decide +kernel
theorem dX2_insert_40 : decode cX2_insert 40 = .ok (.iload_n 1, 1) := by decide +kernel
theorem dX2_insert_41 : decode cX2_insert 41 = .ok (.isub, 1) := by decide +kernel
theorem dX2_insert_42 : decode cX2_insert 42 = .ok (.invokestatic 55, 3) := by decide +kernel
theorem dX2_insert_45 : decode cX2_insert 45 = .ok (.aload_n 0, 1) := by decide +kernel
theorem dX2_insert_46 : decode cX2_insert 46 = .ok (.getfield 25, 3) := by decide +kernel
theorem dX2_insert_49 : decode cX2_insert 49 = .ok (.iload_n 1, 1) := by decide +kernel
theorem dX2_insert_50 : decode cX2_insert 50 = .ok (.aload_n 0, 1) := by decide +kernel
theorem dX2_insert_51 : decode cX2_insert 51 = .ok (.getfield 25, 3) := by decide +kernel
theorem dX2_insert_54 : decode cX2_insert 54 = .ok (.iload_n 1, 1) := by decide +kernel
theorem dX2_insert_55 : decode cX2_insert 55 = .ok (.iconst 1, 1) := by decide +kernel
theorem dX2_insert_56 : decode cX2_insert 56 = .ok (.iadd, 1) := by decide +kernel
theorem dX2_insert_57 : decode cX2_insert 57 = .ok (.aload_n 0, 1) := by decide +kernel
theorem dX2_insert_58 : decode cX2_insert 58 = .ok (.getfield 28, 3) := by decide +kernel
theorem dX2_insert_61 : decode cX2_insert 61 = .ok (.iload_n 1, 1) := by decide +kernel
theorem dX2_insert_62 : decode cX2_insert 62 = .ok (.isub, 1) := by decide +kernel
theorem dX2_insert_63 : decode cX2_insert 63 = .ok (.invokestatic 55, 3) := by decide +kernel
theorem dX2_insert_66 : decode cX2_insert 66 = .ok (.aload_n 0, 1) := by decide +kernel
theorem dX2_insert_67 : decode cX2_insert 67 = .ok (.getfield 21, 3) := by decide +kernel
theorem dX2_insert_70 : decode cX2_insert 70 = .ok (.iload_n 1, 1) := by decide +kernel
theorem dX2_insert_71 : decode cX2_insert 71 = .ok (.aload_n 0, 1) := by decide +kernel
theorem dX2_insert_72 : decode cX2_insert 72 = .ok (.getfield 17, 3) := by decide +kernel
theorem dX2_insert_75 : decode cX2_insert 75 = .ok (.iconst 1, 1) := by decide +kernel
theorem dX2_insert_76 : decode cX2_insert 76 = .ok (.isub, 1) := by decide +kernel
theorem dX2_insert_77 : decode cX2_insert 77 = .ok (.iastore, 1) := by decide +kernel
theorem dX2_insert_78 : decode cX2_insert 78 = .ok (.aload_n 0, 1) := by decide +kernel
theorem dX2_insert_79 : decode cX2_insert 79 = .ok (.getfield 25, 3) := by decide +kernel
theorem dX2_insert_82 : decode cX2_insert 82 = .ok (.iload_n 1, 1) := by decide +kernel
theorem dX2_insert_83 : decode cX2_insert 83 = .ok (.iload_n 2, 1) := by decide +kernel
theorem dX2_insert_84 : decode cX2_insert 84 = .ok (.iastore, 1) := by decide +kernel
theorem dX2_insert_85 : decode cX2_insert 85 = .ok (.aload_n 0, 1) := by decide +kernel
theorem dX2_insert_86 : decode cX2_insert 86 = .ok (.dup, 1) := by decide +kernel
theorem dX2_insert_87 : decode cX2_insert 87 = .ok (.getfield 28, 3) := by decide +kernel
theorem dX2_insert_90 : decode cX2_insert 90 = .ok (.iconst 1, 1) := by decide +kernel
theorem dX2_insert_91 : decode cX2_insert 91 = .ok (.iadd, 1) := by decide +kernel
theorem dX2_insert_92 : decode cX2_insert 92 = .ok (.putfield 28, 3) := by decide +kernel
theorem dX2_insert_95 : decode cX2_insert 95 = .ok (.iconst 1, 1) := by decide +kernel
theorem dX2_insert_96 : decode cX2_insert 96 = .ok (.ireturn, 1) := by decide +kernel
set_option maxRecDepth 20000 in
theorem s_RK_insert (E : XE) : Cs E (yX2_insert, cX2_insert, 3, some .boolean) (k_RK_insert) := (Cs_nd (Cs_nd (Cs_nd (Cs_nd (Cs_nd (Cs_lf (sg_iload_n dX2_insert_0 rfl)) (Cs_nd (Cs_lf (sg_iflt dX2_insert_1 (by decide))) (Cs_lf (sg_iload_n dX2_insert_4 rfl)))) (Cs_nd (Cs_nd (Cs_lf (sg_aload_n dX2_insert_5 rfl)) (Cs_lf (sg_getf dX2_insert_6 rfl inX2 (by decide) w_88))) (Cs_nd (Cs_lf (sg_cgt dX2_insert_9 (by decide))) (Cs_lf (sg_aload_n dX2_insert_12 rfl))))) (Cs_nd (Cs_nd (Cs_lf (sg_getf dX2_insert_13 rfl inX2 (by decide) w_88)) (Cs_nd (Cs_lf (sg_sipush dX2_insert_16 (by decide))) (Cs_lf (sg_clt dX2_insert_19 (by decide))))) (Cs_nd (Cs_nd (Cs_lf (sg_iconst dX2_insert_22 (by decide))) (Cs_lf (sg_zret dX2_insert_23 rfl ⟨by decide, by decide⟩))) (Cs_nd (Cs_lf (sg_aload_n dX2_insert_24 rfl)) (Cs_lf (sg_getf dX2_insert_25 rfl inX2 (by decide) w_86)))))) (Cs_nd (Cs_nd (Cs_nd (Cs_lf (sg_iload_n dX2_insert_28 rfl)) (Cs_nd (Cs_lf (sg_aload_n dX2_insert_29 rfl)) (Cs_lf (sg_getf dX2_insert_30 rfl inX2 (by decide) w_86)))) (Cs_nd (Cs_nd (Cs_lf (sg_iload_n dX2_insert_33 rfl)) (Cs_lf (sg_iconst dX2_insert_34 (by decide)))) (Cs_nd (Cs_lf (sg_iadd dX2_insert_35)) (Cs_lf (sg_aload_n dX2_insert_36 rfl))))) (Cs_nd (Cs_nd (Cs_nd (Cs_lf (sg_getf dX2_insert_37 rfl inX2 (by decide) w_88)) (Cs_lf (sg_iload_n dX2_insert_40 rfl))) (Cs_nd (Cs_lf (sg_isub dX2_insert_41)) (Cs_lf (sg_acp dX2_insert_42 w_595 w_225 w_224 w_8)))) (Cs_nd (Cs_nd (Cs_lf (sg_aload_n dX2_insert_45 rfl)) (Cs_lf (sg_getf dX2_insert_46 rfl inX2 (by decide) w_87))) (Cs_nd (Cs_lf (sg_iload_n dX2_insert_49 rfl)) (Cs_lf (sg_aload_n dX2_insert_50 rfl))))))) (Cs_nd (Cs_nd (Cs_nd (Cs_nd (Cs_lf (sg_getf dX2_insert_51 rfl inX2 (by decide) w_87)) (Cs_nd (Cs_lf (sg_iload_n dX2_insert_54 rfl)) (Cs_lf (sg_iconst dX2_insert_55 (by decide))))) (Cs_nd (Cs_nd (Cs_lf (sg_iadd dX2_insert_56)) (Cs_lf (sg_aload_n dX2_insert_57 rfl))) (Cs_nd (Cs_lf (sg_getf dX2_insert_58 rfl inX2 (by decide) w_88)) (Cs_lf (sg_iload_n dX2_insert_61 rfl))))) (Cs_nd (Cs_nd (Cs_nd (Cs_lf (sg_isub dX2_insert_62)) (Cs_lf (sg_acp dX2_insert_63 w_595 w_225 w_224 w_8))) (Cs_nd (Cs_lf (sg_aload_n dX2_insert_66 rfl)) (Cs_lf (sg_getf dX2_insert_67 rfl inX2 (by decide) w_86)))) (Cs_nd (Cs_nd (Cs_lf (sg_iload_n dX2_insert_70 rfl)) (Cs_lf (sg_aload_n dX2_insert_71 rfl))) (Cs_nd (Cs_lf (sg_getf dX2_insert_72 rfl inX2 (by decide) w_85)) (Cs_lf (sg_iconst dX2_insert_75 (by decide))))))) (Cs_nd (Cs_nd (Cs_nd (Cs_lf (sg_isub dX2_insert_76)) (Cs_nd (Cs_lf (sg_iast dX2_insert_77)) (Cs_lf (sg_aload_n dX2_insert_78 rfl)))) (Cs_nd (Cs_nd (Cs_lf (sg_getf dX2_insert_79 rfl inX2 (by decide) w_87)) (Cs_lf (sg_iload_n dX2_insert_82 rfl))) (Cs_nd (Cs_lf (sg_iload_n dX2_insert_83 rfl)) (Cs_lf (sg_iast dX2_insert_84))))) (Cs_nd (Cs_nd (Cs_nd (Cs_lf (sg_aload_n dX2_insert_85 rfl)) (Cs_lf (sg_dup dX2_insert_86))) (Cs_nd (Cs_lf (sg_getf dX2_insert_87 rfl inX2 (by decide) w_88)) (Cs_lf (sg_iconst dX2_insert_90 (by decide))))) (Cs_nd (Cs_nd (Cs_lf (sg_iadd dX2_insert_91)) (Cs_lf (sg_putf dX2_insert_92 rfl inX2 tyX2_ok nmX2 (by decide) w_88 rfl (tyX2_ok 4 (by decide)) ok_int))) (Cs_nd (Cs_lf (sg_iconst dX2_insert_95 (by decide))) (Cs_lf (sg_zret dX2_insert_96 rfl ⟨by decide, by decide⟩))))))))
theorem dX2_find_0 : decode cX2_find 0 = .ok (.aload_n 0, 1) := by decide +kernel
theorem dX2_find_1 : decode cX2_find 1 = .ok (.aload_n 1, 1) := by decide +kernel
theorem dX2_find_2 : decode cX2_find 2 = .ok (.iload_n 2, 1) := by decide +kernel
theorem dX2_find_3 : decode cX2_find 3 = .ok (.invokevirtual 43, 3) := by decide +kernel
theorem dX2_find_6 : decode cX2_find 6 = .ok (.istore_n 3, 1) := by decide +kernel
theorem dX2_find_7 : decode cX2_find 7 = .ok (.aload_n 0, 1) := by decide +kernel
theorem dX2_find_8 : decode cX2_find 8 = .ok (.iload_n 3, 1) := by decide +kernel
theorem dX2_find_9 : decode cX2_find 9 = .ok (.aload_n 1, 1) := by decide +kernel
theorem dX2_find_10 : decode cX2_find 10 = .ok (.iload_n 2, 1) := by decide +kernel
theorem dX2_find_11 : decode cX2_find 11 = .ok (.invokevirtual 47, 3) := by decide +kernel
theorem dX2_find_14 : decode cX2_find 14 = .ok (.ifCond .ne 7, 3) := by decide +kernel
theorem dX2_find_17 : decode cX2_find 17 = .ok (.iload_n 3, 1) := by decide +kernel
theorem dX2_find_18 : decode cX2_find 18 = .ok (.goto 4, 3) := by decide +kernel
theorem dX2_find_21 : decode cX2_find 21 = .ok (.iconst (-1), 1) := by decide +kernel
theorem dX2_find_22 : decode cX2_find 22 = .ok (.ireturn, 1) := by decide +kernel
set_option maxRecDepth 20000 in
theorem s_RK_find (E : XE) : Cs E (yX2_find, cX2_find, 4, some .int) (k_RK_find) := (Cs_nd (Cs_nd (Cs_nd (Cs_lf (sg_aload_n dX2_find_0 rfl)) (Cs_nd (Cs_lf (sg_aload_n dX2_find_1 rfl)) (Cs_lf (sg_iload_n dX2_find_2 rfl)))) (Cs_nd (Cs_nd (Cs_lf (sg_invV (mid := 39) (ci := 2) (by decide +kernel) dX2_find_3 ok_39 rfl w_545 w_547 ws_16)) (Cs_lf (sg_istore_n dX2_find_6 rfl (by decide)))) (Cs_nd (Cs_lf (sg_aload_n dX2_find_7 rfl)) (Cs_lf (sg_iload_n dX2_find_8 rfl))))) (Cs_nd (Cs_nd (Cs_nd (Cs_lf (sg_aload_n dX2_find_9 rfl)) (Cs_lf (sg_iload_n dX2_find_10 rfl))) (Cs_nd (Cs_lf (sg_invV (mid := 40) (ci := 2) (by decide +kernel) dX2_find_11 ok_40 rfl w_587 w_589 ws_18)) (Cs_lf (sg_ifne dX2_find_14 (by decide))))) (Cs_nd (Cs_nd (Cs_lf (sg_iload_n dX2_find_17 rfl)) (Cs_lf (sg_goto dX2_find_18 (by decide)))) (Cs_nd (Cs_lf (sg_iconst dX2_find_21 (by decide))) (Cs_lf (sg_iret dX2_find_22 rfl))))))
theorem dX2_firstNotBelow_0 : decode cX2_firstNotBelow 0 = .ok (.iconst 0, 1) := by decide +kernel
theorem dX2_firstNotBelow_1 : decode cX2_firstNotBelow 1 = .ok (.istore_n 3, 1) := by decide +kernel
theorem dX2_firstNotBelow_2 : decode cX2_firstNotBelow 2 = .ok (.aload_n 0, 1) := by decide +kernel
theorem dX2_firstNotBelow_3 : decode cX2_firstNotBelow 3 = .ok (.getfield 28, 3) := by decide +kernel
theorem dX2_firstNotBelow_6 : decode cX2_firstNotBelow 6 = .ok (.istore 4, 2) := by decide +kernel
theorem dX2_firstNotBelow_8 : decode cX2_firstNotBelow 8 = .ok (.iconst 0, 1) := by decide +kernel
theorem dX2_firstNotBelow_9 : decode cX2_firstNotBelow 9 = .ok (.istore 5, 2) := by decide +kernel
theorem dX2_firstNotBelow_11 : decode cX2_firstNotBelow 11 = .ok (.iload 5, 2) := by decide +kernel
theorem dX2_firstNotBelow_13 : decode cX2_firstNotBelow 13 = .ok (.sipush 150, 3) := by decide +kernel
theorem dX2_firstNotBelow_16 : decode cX2_firstNotBelow 16 = .ok (.if_icmp .gt 64, 3) := by decide +kernel
theorem dX2_firstNotBelow_19 : decode cX2_firstNotBelow 19 = .ok (.iload_n 3, 1) := by decide +kernel
theorem dX2_firstNotBelow_20 : decode cX2_firstNotBelow 20 = .ok (.iload 4, 2) := by decide +kernel
theorem dX2_firstNotBelow_22 : decode cX2_firstNotBelow 22 = .ok (.if_icmp .ge 58, 3) := by decide +kernel
theorem dX2_firstNotBelow_25 : decode cX2_firstNotBelow 25 = .ok (.iload_n 3, 1) := by decide +kernel
theorem dX2_firstNotBelow_26 : decode cX2_firstNotBelow 26 = .ok (.iload 4, 2) := by decide +kernel
theorem dX2_firstNotBelow_28 : decode cX2_firstNotBelow 28 = .ok (.iadd, 1) := by decide +kernel
theorem dX2_firstNotBelow_29 : decode cX2_firstNotBelow 29 = .ok (.iconst 1, 1) := by decide +kernel
theorem dX2_firstNotBelow_30 : decode cX2_firstNotBelow 30 = .ok (.ishr, 1) := by decide +kernel
theorem dX2_firstNotBelow_31 : decode cX2_firstNotBelow 31 = .ok (.istore 6, 2) := by decide +kernel
theorem dX2_firstNotBelow_33 : decode cX2_firstNotBelow 33 = .ok (.aload_n 0, 1) := by decide +kernel
theorem dX2_firstNotBelow_34 : decode cX2_firstNotBelow 34 = .ok (.iload 6, 2) := by decide +kernel
theorem dX2_firstNotBelow_36 : decode cX2_firstNotBelow 36 = .ok (.invokevirtual 61, 3) := by decide +kernel
theorem dX2_firstNotBelow_39 : decode cX2_firstNotBelow 39 = .ok (.astore 7, 2) := by decide +kernel
theorem dX2_firstNotBelow_41 : decode cX2_firstNotBelow 41 = .ok (.aload 7, 2) := by decide +kernel
theorem dX2_firstNotBelow_43 : decode cX2_firstNotBelow 43 = .ok (.ifnull 27, 3) := by decide +kernel
theorem dX2_firstNotBelow_46 : decode cX2_firstNotBelow 46 = .ok (.aload 7, 2) := by decide +kernel
theorem dX2_firstNotBelow_48 : decode cX2_firstNotBelow 48 = .ok (.aload_n 0, 1) := by decide +kernel
theorem dX2_firstNotBelow_49 : decode cX2_firstNotBelow 49 = .ok (.iload 6, 2) := by decide +kernel
theorem dX2_firstNotBelow_51 : decode cX2_firstNotBelow 51 = .ok (.invokevirtual 65, 3) := by decide +kernel
theorem dX2_firstNotBelow_54 : decode cX2_firstNotBelow 54 = .ok (.aload_n 1, 1) := by decide +kernel
theorem dX2_firstNotBelow_55 : decode cX2_firstNotBelow 55 = .ok (.iload_n 2, 1) := by decide +kernel
theorem dX2_firstNotBelow_56 : decode cX2_firstNotBelow 56 = .ok (.invokevirtual 68, 3) := by decide +kernel
theorem dX2_firstNotBelow_59 : decode cX2_firstNotBelow 59 = .ok (.ifCond .ge 11, 3) := by decide +kernel
theorem dX2_firstNotBelow_62 : decode cX2_firstNotBelow 62 = .ok (.iload 6, 2) := by decide +kernel
theorem dX2_firstNotBelow_64 : decode cX2_firstNotBelow 64 = .ok (.iconst 1, 1) := by decide +kernel
theorem dX2_firstNotBelow_65 : decode cX2_firstNotBelow 65 = .ok (.iadd, 1) := by decide +kernel
theorem dX2_firstNotBelow_66 : decode cX2_firstNotBelow 66 = .ok (.istore_n 3, 1) := by decide +kernel
theorem dX2_firstNotBelow_67 : decode cX2_firstNotBelow 67 = .ok (.goto 7, 3) := by decide +kernel
theorem dX2_firstNotBelow_70 : decode cX2_firstNotBelow 70 = .ok (.iload 6, 2) := by decide +kernel
theorem dX2_firstNotBelow_72 : decode cX2_firstNotBelow 72 = .ok (.istore 4, 2) := by decide +kernel
theorem dX2_firstNotBelow_74 : decode cX2_firstNotBelow 74 = .ok (.iinc 5 1, 3) := by decide +kernel
theorem dX2_firstNotBelow_77 : decode cX2_firstNotBelow 77 = .ok (.goto (-66), 3) := by decide +kernel
theorem dX2_firstNotBelow_80 : decode cX2_firstNotBelow 80 = .ok (.iload_n 3, 1) := by decide +kernel
theorem dX2_firstNotBelow_81 : decode cX2_firstNotBelow 81 = .ok (.ireturn, 1) := by decide +kernel
set_option maxRecDepth 20000 in
theorem s_RK_firstNotBelow (E : XE) : Cs E (yX2_firstNotBelow, cX2_firstNotBelow, 8, some .int) (k_RK_firstNotBelow) := (Cs_nd (Cs_nd (Cs_nd (Cs_nd (Cs_nd (Cs_lf (sg_iconst dX2_firstNotBelow_0 (by decide))) (Cs_lf (sg_istore_n dX2_firstNotBelow_1 rfl (by decide)))) (Cs_nd (Cs_lf (sg_aload_n dX2_firstNotBelow_2 rfl)) (Cs_nd (Cs_lf (sg_getf dX2_firstNotBelow_3 rfl inX2 (by decide) w_88)) (Cs_lf (sg_istore dX2_firstNotBelow_6 (by decide)))))) (Cs_nd (Cs_nd (Cs_lf (sg_iconst dX2_firstNotBelow_8 (by decide))) (Cs_nd (Cs_lf (sg_istore dX2_firstNotBelow_9 (by decide))) (Cs_lf (sg_iload dX2_firstNotBelow_11)))) (Cs_nd (Cs_lf (sg_sipush dX2_firstNotBelow_13 (by decide))) (Cs_nd (Cs_lf (sg_cgt dX2_firstNotBelow_16 (by decide))) (Cs_lf (sg_iload_n dX2_firstNotBelow_19 rfl)))))) (Cs_nd (Cs_nd (Cs_nd (Cs_lf (sg_iload dX2_firstNotBelow_20)) (Cs_lf (sg_cge dX2_firstNotBelow_22 (by decide)))) (Cs_nd (Cs_lf (sg_iload_n dX2_firstNotBelow_25 rfl)) (Cs_nd (Cs_lf (sg_iload dX2_firstNotBelow_26)) (Cs_lf (sg_iadd dX2_firstNotBelow_28))))) (Cs_nd (Cs_nd (Cs_lf (sg_iconst dX2_firstNotBelow_29 (by decide))) (Cs_nd (Cs_lf (sg_ishr dX2_firstNotBelow_30)) (Cs_lf (sg_istore dX2_firstNotBelow_31 (by decide))))) (Cs_nd (Cs_lf (sg_aload_n dX2_firstNotBelow_33 rfl)) (Cs_nd (Cs_lf (sg_iload dX2_firstNotBelow_34)) (Cs_lf (sg_invV (mid := 41) (ci := 2) (by decide +kernel) dX2_firstNotBelow_36 ok_41 rfl w_549 w_551 ws_17))))))) (Cs_nd (Cs_nd (Cs_nd (Cs_nd (Cs_lf (sg_astore dX2_firstNotBelow_39 (by decide))) (Cs_lf (sg_aload dX2_firstNotBelow_41))) (Cs_nd (Cs_lf (sg_ifnull dX2_firstNotBelow_43 (by decide))) (Cs_nd (Cs_lf (sg_aload dX2_firstNotBelow_46)) (Cs_lf (sg_aload_n dX2_firstNotBelow_48 rfl))))) (Cs_nd (Cs_nd (Cs_lf (sg_iload dX2_firstNotBelow_49)) (Cs_nd (Cs_lf (sg_invV (mid := 42) (ci := 2) (by decide +kernel) dX2_firstNotBelow_51 ok_42 rfl w_553 w_554 w_555)) (Cs_lf (sg_aload_n dX2_firstNotBelow_54 rfl)))) (Cs_nd (Cs_lf (sg_iload_n dX2_firstNotBelow_55 rfl)) (Cs_nd (Cs_lf (sg_invV (mid := 32) (ci := 1) (by decide +kernel) dX2_firstNotBelow_56 ok_32 rfl w_557 w_558 w_559)) (Cs_lf (sg_ifge dX2_firstNotBelow_59 (by decide))))))) (Cs_nd (Cs_nd (Cs_nd (Cs_lf (sg_iload dX2_firstNotBelow_62)) (Cs_lf (sg_iconst dX2_firstNotBelow_64 (by decide)))) (Cs_nd (Cs_lf (sg_iadd dX2_firstNotBelow_65)) (Cs_nd (Cs_lf (sg_istore_n dX2_firstNotBelow_66 rfl (by decide))) (Cs_lf (sg_goto dX2_firstNotBelow_67 (by decide)))))) (Cs_nd (Cs_nd (Cs_lf (sg_iload dX2_firstNotBelow_70)) (Cs_nd (Cs_lf (sg_istore dX2_firstNotBelow_72 (by decide))) (Cs_lf (sg_iinc dX2_firstNotBelow_74 (by decide) (by decide))))) (Cs_nd (Cs_lf (sg_goto dX2_firstNotBelow_77 (by decide))) (Cs_nd (Cs_lf (sg_iload_n dX2_firstNotBelow_80 rfl)) (Cs_lf (sg_iret dX2_firstNotBelow_81 rfl))))))))
theorem dX2_orderOf_0 : decode cX2_orderOf 0 = .ok (.aload_n 0, 1) := by decide +kernel
theorem dX2_orderOf_1 : decode cX2_orderOf 1 = .ok (.iload_n 1, 1) := by decide +kernel
theorem dX2_orderOf_2 : decode cX2_orderOf 2 = .ok (.invokevirtual 61, 3) := by decide +kernel
theorem dX2_orderOf_5 : decode cX2_orderOf 5 = .ok (.astore 4, 2) := by decide +kernel
theorem dX2_orderOf_7 : decode cX2_orderOf 7 = .ok (.aload 4, 2) := by decide +kernel
theorem dX2_orderOf_9 : decode cX2_orderOf 9 = .ok (.ifnonnull 7, 3) := by decide +kernel
theorem dX2_orderOf_12 : decode cX2_orderOf 12 = .ok (.iconst 1, 1) := by decide +kernel
theorem dX2_orderOf_13 : decode cX2_orderOf 13 = .ok (.goto 15, 3) := by decide +kernel
theorem dX2_orderOf_16 : decode cX2_orderOf 16 = .ok (.aload 4, 2) := by decide +kernel
theorem dX2_orderOf_18 : decode cX2_orderOf 18 = .ok (.aload_n 0, 1) := by decide +kernel
theorem dX2_orderOf_19 : decode cX2_orderOf 19 = .ok (.iload_n 1, 1) := by decide +kernel
theorem dX2_orderOf_20 : decode cX2_orderOf 20 = .ok (.invokevirtual 65, 3) := by decide +kernel
theorem dX2_orderOf_23 : decode cX2_orderOf 23 = .ok (.aload_n 2, 1) := by decide +kernel
theorem dX2_orderOf_24 : decode cX2_orderOf 24 = .ok (.iload_n 3, 1) := by decide +kernel
theorem dX2_orderOf_25 : decode cX2_orderOf 25 = .ok (.invokevirtual 68, 3) := by decide +kernel
theorem dX2_orderOf_28 : decode cX2_orderOf 28 = .ok (.ireturn, 1) := by decide +kernel
set_option maxRecDepth 20000 in
theorem s_RK_orderOf (E : XE) : Cs E (yX2_orderOf, cX2_orderOf, 5, some .int) (k_RK_orderOf) := (Cs_nd (Cs_nd (Cs_nd (Cs_nd (Cs_lf (sg_aload_n dX2_orderOf_0 rfl)) (Cs_lf (sg_iload_n dX2_orderOf_1 rfl))) (Cs_nd (Cs_lf (sg_invV (mid := 41) (ci := 2) (by decide +kernel) dX2_orderOf_2 ok_41 rfl w_549 w_551 ws_17)) (Cs_lf (sg_astore dX2_orderOf_5 (by decide))))) (Cs_nd (Cs_nd (Cs_lf (sg_aload dX2_orderOf_7)) (Cs_lf (sg_ifnonnull dX2_orderOf_9 (by decide)))) (Cs_nd (Cs_lf (sg_iconst dX2_orderOf_12 (by decide))) (Cs_lf (sg_goto dX2_orderOf_13 (by decide)))))) (Cs_nd (Cs_nd (Cs_nd (Cs_lf (sg_aload dX2_orderOf_16)) (Cs_lf (sg_aload_n dX2_orderOf_18 rfl))) (Cs_nd (Cs_lf (sg_iload_n dX2_orderOf_19 rfl)) (Cs_lf (sg_invV (mid := 42) (ci := 2) (by decide +kernel) dX2_orderOf_20 ok_42 rfl w_553 w_554 w_555)))) (Cs_nd (Cs_nd (Cs_lf (sg_aload_n dX2_orderOf_23 rfl)) (Cs_lf (sg_iload_n dX2_orderOf_24 rfl))) (Cs_nd (Cs_lf (sg_invV (mid := 32) (ci := 1) (by decide +kernel) dX2_orderOf_25 ok_32 rfl w_557 w_558 w_559)) (Cs_lf (sg_iret dX2_orderOf_28 rfl))))))
theorem dX2_poolOf_0 : decode cX2_poolOf 0 = .ok (.iload_n 1, 1) := by decide +kernel
theorem dX2_poolOf_1 : decode cX2_poolOf 1 = .ok (.ifCond .lt 18, 3) := by decide +kernel
theorem dX2_poolOf_4 : decode cX2_poolOf 4 = .ok (.iload_n 1, 1) := by decide +kernel
theorem dX2_poolOf_5 : decode cX2_poolOf 5 = .ok (.aload_n 0, 1) := by decide +kernel
theorem dX2_poolOf_6 : decode cX2_poolOf 6 = .ok (.getfield 28, 3) := by decide +kernel
theorem dX2_poolOf_9 : decode cX2_poolOf 9 = .ok (.if_icmp .ge 10, 3) := by decide +kernel
theorem dX2_poolOf_12 : decode cX2_poolOf 12 = .ok (.iload_n 1, 1) := by decide +kernel
theorem dX2_poolOf_13 : decode cX2_poolOf 13 = .ok (.sipush 150, 3) := by decide +kernel
theorem dX2_poolOf_16 : decode cX2_poolOf 16 = .ok (.if_icmp .lt 5, 3) := by decide +kernel
theorem dX2_poolOf_19 : decode cX2_poolOf 19 = .ok (.aconst_null, 1) := by decide +kernel
theorem dX2_poolOf_20 : decode cX2_poolOf 20 = .ok (.areturn, 1) := by decide +kernel
theorem dX2_poolOf_21 : decode cX2_poolOf 21 = .ok (.aload_n 0, 1) := by decide +kernel
theorem dX2_poolOf_22 : decode cX2_poolOf 22 = .ok (.getfield 21, 3) := by decide +kernel
theorem dX2_poolOf_25 : decode cX2_poolOf 25 = .ok (.iload_n 1, 1) := by decide +kernel
theorem dX2_poolOf_26 : decode cX2_poolOf 26 = .ok (.iaload, 1) := by decide +kernel
theorem dX2_poolOf_27 : decode cX2_poolOf 27 = .ok (.istore_n 2, 1) := by decide +kernel
theorem dX2_poolOf_28 : decode cX2_poolOf 28 = .ok (.iload_n 2, 1) := by decide +kernel
theorem dX2_poolOf_29 : decode cX2_poolOf 29 = .ok (.ifCond .lt 21, 3) := by decide +kernel
theorem dX2_poolOf_32 : decode cX2_poolOf 32 = .ok (.iload_n 2, 1) := by decide +kernel
theorem dX2_poolOf_33 : decode cX2_poolOf 33 = .ok (.aload_n 0, 1) := by decide +kernel
theorem dX2_poolOf_34 : decode cX2_poolOf 34 = .ok (.getfield 11, 3) := by decide +kernel
theorem dX2_poolOf_37 : decode cX2_poolOf 37 = .ok (.arraylength, 1) := by decide +kernel
theorem dX2_poolOf_38 : decode cX2_poolOf 38 = .ok (.if_icmp .ge 12, 3) := by decide +kernel
theorem dX2_poolOf_41 : decode cX2_poolOf 41 = .ok (.aload_n 0, 1) := by decide +kernel
theorem dX2_poolOf_42 : decode cX2_poolOf 42 = .ok (.getfield 11, 3) := by decide +kernel
theorem dX2_poolOf_45 : decode cX2_poolOf 45 = .ok (.iload_n 2, 1) := by decide +kernel
theorem dX2_poolOf_46 : decode cX2_poolOf 46 = .ok (.aaload, 1) := by decide +kernel
theorem dX2_poolOf_47 : decode cX2_poolOf 47 = .ok (.goto 4, 3) := by decide +kernel
theorem dX2_poolOf_50 : decode cX2_poolOf 50 = .ok (.aconst_null, 1) := by decide +kernel
theorem dX2_poolOf_51 : decode cX2_poolOf 51 = .ok (.areturn, 1) := by decide +kernel
set_option maxRecDepth 20000 in
theorem s_RK_poolOf (E : XE) : Cs E (yX2_poolOf, cX2_poolOf, 3, some (.object "ClassPools$Pool")) (k_RK_poolOf) := (Cs_nd (Cs_nd (Cs_nd (Cs_nd (Cs_lf (sg_iload_n dX2_poolOf_0 rfl)) (Cs_nd (Cs_lf (sg_iflt dX2_poolOf_1 (by decide))) (Cs_lf (sg_iload_n dX2_poolOf_4 rfl)))) (Cs_nd (Cs_nd (Cs_lf (sg_aload_n dX2_poolOf_5 rfl)) (Cs_lf (sg_getf dX2_poolOf_6 rfl inX2 (by decide) w_88))) (Cs_nd (Cs_lf (sg_cge dX2_poolOf_9 (by decide))) (Cs_lf (sg_iload_n dX2_poolOf_12 rfl))))) (Cs_nd (Cs_nd (Cs_nd (Cs_lf (sg_sipush dX2_poolOf_13 (by decide))) (Cs_lf (sg_clt dX2_poolOf_16 (by decide)))) (Cs_nd (Cs_lf (sg_null dX2_poolOf_19)) (Cs_lf (sg_aret dX2_poolOf_20 rfl (Or.inl ⟨_, rfl⟩))))) (Cs_nd (Cs_nd (Cs_lf (sg_aload_n dX2_poolOf_21 rfl)) (Cs_lf (sg_getf dX2_poolOf_22 rfl inX2 (by decide) w_86))) (Cs_nd (Cs_lf (sg_iload_n dX2_poolOf_25 rfl)) (Cs_lf (sg_iald dX2_poolOf_26)))))) (Cs_nd (Cs_nd (Cs_nd (Cs_lf (sg_istore_n dX2_poolOf_27 rfl (by decide))) (Cs_nd (Cs_lf (sg_iload_n dX2_poolOf_28 rfl)) (Cs_lf (sg_iflt dX2_poolOf_29 (by decide))))) (Cs_nd (Cs_nd (Cs_lf (sg_iload_n dX2_poolOf_32 rfl)) (Cs_lf (sg_aload_n dX2_poolOf_33 rfl))) (Cs_nd (Cs_lf (sg_getf dX2_poolOf_34 rfl inX2 (by decide) w_84)) (Cs_lf (sg_alen dX2_poolOf_37))))) (Cs_nd (Cs_nd (Cs_nd (Cs_lf (sg_cge dX2_poolOf_38 (by decide))) (Cs_lf (sg_aload_n dX2_poolOf_41 rfl))) (Cs_nd (Cs_lf (sg_getf dX2_poolOf_42 rfl inX2 (by decide) w_84)) (Cs_lf (sg_iload_n dX2_poolOf_45 rfl)))) (Cs_nd (Cs_nd (Cs_lf (sg_aald dX2_poolOf_46)) (Cs_lf (sg_goto dX2_poolOf_47 (by decide)))) (Cs_nd (Cs_lf (sg_null dX2_poolOf_50)) (Cs_lf (sg_aret dX2_poolOf_51 rfl (Or.inl ⟨_, rfl⟩))))))))
theorem dX2_placeOf_0 : decode cX2_placeOf 0 = .ok (.iload_n 1, 1) := by decide +kernel
theorem dX2_placeOf_1 : decode cX2_placeOf 1 = .ok (.ifCond .lt 27, 3) := by decide +kernel
theorem dX2_placeOf_4 : decode cX2_placeOf 4 = .ok (.iload_n 1, 1) := by decide +kernel
theorem dX2_placeOf_5 : decode cX2_placeOf 5 = .ok (.aload_n 0, 1) := by decide +kernel
theorem dX2_placeOf_6 : decode cX2_placeOf 6 = .ok (.getfield 28, 3) := by decide +kernel
theorem dX2_placeOf_9 : decode cX2_placeOf 9 = .ok (.if_icmp .ge 19, 3) := by decide +kernel
theorem dX2_placeOf_12 : decode cX2_placeOf 12 = .ok (.iload_n 1, 1) := by decide +kernel
theorem dX2_placeOf_13 : decode cX2_placeOf 13 = .ok (.sipush 150, 3) := by decide +kernel
theorem dX2_placeOf_16 : decode cX2_placeOf 16 = .ok (.if_icmp .ge 12, 3) := by decide +kernel
theorem dX2_placeOf_19 : decode cX2_placeOf 19 = .ok (.aload_n 0, 1) := by decide +kernel
theorem dX2_placeOf_20 : decode cX2_placeOf 20 = .ok (.getfield 25, 3) := by decide +kernel
theorem dX2_placeOf_23 : decode cX2_placeOf 23 = .ok (.iload_n 1, 1) := by decide +kernel
theorem dX2_placeOf_24 : decode cX2_placeOf 24 = .ok (.iaload, 1) := by decide +kernel
theorem dX2_placeOf_25 : decode cX2_placeOf 25 = .ok (.goto 4, 3) := by decide +kernel
theorem dX2_placeOf_28 : decode cX2_placeOf 28 = .ok (.iconst 0, 1) := by decide +kernel
theorem dX2_placeOf_29 : decode cX2_placeOf 29 = .ok (.ireturn, 1) := by decide +kernel
set_option maxRecDepth 20000 in
theorem s_RK_placeOf (E : XE) : Cs E (yX2_placeOf, cX2_placeOf, 2, some .int) (k_RK_placeOf) := (Cs_nd (Cs_nd (Cs_nd (Cs_nd (Cs_lf (sg_iload_n dX2_placeOf_0 rfl)) (Cs_lf (sg_iflt dX2_placeOf_1 (by decide)))) (Cs_nd (Cs_lf (sg_iload_n dX2_placeOf_4 rfl)) (Cs_lf (sg_aload_n dX2_placeOf_5 rfl)))) (Cs_nd (Cs_nd (Cs_lf (sg_getf dX2_placeOf_6 rfl inX2 (by decide) w_88)) (Cs_lf (sg_cge dX2_placeOf_9 (by decide)))) (Cs_nd (Cs_lf (sg_iload_n dX2_placeOf_12 rfl)) (Cs_lf (sg_sipush dX2_placeOf_13 (by decide)))))) (Cs_nd (Cs_nd (Cs_nd (Cs_lf (sg_cge dX2_placeOf_16 (by decide))) (Cs_lf (sg_aload_n dX2_placeOf_19 rfl))) (Cs_nd (Cs_lf (sg_getf dX2_placeOf_20 rfl inX2 (by decide) w_87)) (Cs_lf (sg_iload_n dX2_placeOf_23 rfl)))) (Cs_nd (Cs_nd (Cs_lf (sg_iald dX2_placeOf_24)) (Cs_lf (sg_goto dX2_placeOf_25 (by decide)))) (Cs_nd (Cs_lf (sg_iconst dX2_placeOf_28 (by decide))) (Cs_lf (sg_iret dX2_placeOf_29 rfl))))))
theorem dX2_tag_0 : decode cX2_tag 0 = .ok (.aload_n 0, 1) := by decide +kernel
theorem dX2_tag_1 : decode cX2_tag 1 = .ok (.iload_n 1, 1) := by decide +kernel
theorem dX2_tag_2 : decode cX2_tag 2 = .ok (.invokevirtual 61, 3) := by decide +kernel
theorem dX2_tag_5 : decode cX2_tag 5 = .ok (.astore_n 2, 1) := by decide +kernel
theorem dX2_tag_6 : decode cX2_tag 6 = .ok (.aload_n 2, 1) := by decide +kernel
theorem dX2_tag_7 : decode cX2_tag 7 = .ok (.ifnonnull 7, 3) := by decide +kernel
theorem dX2_tag_10 : decode cX2_tag 10 = .ok (.iconst 0, 1) := by decide +kernel
theorem dX2_tag_11 : decode cX2_tag 11 = .ok (.goto 12, 3) := by decide +kernel
theorem dX2_tag_14 : decode cX2_tag 14 = .ok (.aload_n 2, 1) := by decide +kernel
theorem dX2_tag_15 : decode cX2_tag 15 = .ok (.aload_n 0, 1) := by decide +kernel
theorem dX2_tag_16 : decode cX2_tag 16 = .ok (.iload_n 1, 1) := by decide +kernel
theorem dX2_tag_17 : decode cX2_tag 17 = .ok (.invokevirtual 65, 3) := by decide +kernel
theorem dX2_tag_20 : decode cX2_tag 20 = .ok (.invokevirtual 39, 3) := by decide +kernel
theorem dX2_tag_23 : decode cX2_tag 23 = .ok (.ireturn, 1) := by decide +kernel
set_option maxRecDepth 20000 in
theorem s_RK_tag (E : XE) : Cs E (yX2_tag, cX2_tag, 3, some .int) (k_RK_tag) := (Cs_nd (Cs_nd (Cs_nd (Cs_lf (sg_aload_n dX2_tag_0 rfl)) (Cs_nd (Cs_lf (sg_iload_n dX2_tag_1 rfl)) (Cs_lf (sg_invV (mid := 41) (ci := 2) (by decide +kernel) dX2_tag_2 ok_41 rfl w_549 w_551 ws_17)))) (Cs_nd (Cs_nd (Cs_lf (sg_astore_n dX2_tag_5 rfl (by decide))) (Cs_lf (sg_aload_n dX2_tag_6 rfl))) (Cs_nd (Cs_lf (sg_ifnonnull dX2_tag_7 (by decide))) (Cs_lf (sg_iconst dX2_tag_10 (by decide)))))) (Cs_nd (Cs_nd (Cs_lf (sg_goto dX2_tag_11 (by decide))) (Cs_nd (Cs_lf (sg_aload_n dX2_tag_14 rfl)) (Cs_lf (sg_aload_n dX2_tag_15 rfl)))) (Cs_nd (Cs_nd (Cs_lf (sg_iload_n dX2_tag_16 rfl)) (Cs_lf (sg_invV (mid := 42) (ci := 2) (by decide +kernel) dX2_tag_17 ok_42 rfl w_553 w_554 w_555))) (Cs_nd (Cs_lf (sg_invV (mid := 22) (ci := 1) (by decide +kernel) dX2_tag_20 ok_22 rfl w_544 w_374 w_375)) (Cs_lf (sg_iret dX2_tag_23 rfl))))))
theorem dX2_tally_0 : decode cX2_tally 0 = .ok (.iconst 0, 1) := by decide +kernel
theorem dX2_tally_1 : decode cX2_tally 1 = .ok (.istore_n 3, 1) := by decide +kernel
theorem dX2_tally_2 : decode cX2_tally 2 = .ok (.iconst 1, 1) := by decide +kernel
theorem dX2_tally_3 : decode cX2_tally 3 = .ok (.istore 4, 2) := by decide +kernel
theorem dX2_tally_5 : decode cX2_tally 5 = .ok (.iload 4, 2) := by decide +kernel
theorem dX2_tally_7 : decode cX2_tally 7 = .ok (.aload_n 2, 1) := by decide +kernel
theorem dX2_tally_8 : decode cX2_tally 8 = .ok (.invokevirtual 36, 3) := by decide +kernel
theorem dX2_tally_11 : decode cX2_tally 11 = .ok (.if_icmp .ge 23, 3) := by decide +kernel
theorem dX2_tally_14 : decode cX2_tally 14 = .ok (.aload_n 0, 1) := by decide +kernel
theorem dX2_tally_15 : decode cX2_tally 15 = .ok (.iload_n 1, 1) := by decide +kernel
theorem dX2_tally_16 : decode cX2_tally 16 = .ok (.aload_n 2, 1) := by decide +kernel
theorem dX2_tally_17 : decode cX2_tally 17 = .ok (.iload 4, 2) := by decide +kernel
theorem dX2_tally_19 : decode cX2_tally 19 = .ok (.invokevirtual 47, 3) := by decide +kernel
theorem dX2_tally_22 : decode cX2_tally 22 = .ok (.ifCond .ne 6, 3) := by decide +kernel
theorem dX2_tally_25 : decode cX2_tally 25 = .ok (.iinc 3 1, 3) := by decide +kernel
theorem dX2_tally_28 : decode cX2_tally 28 = .ok (.iinc 4 1, 3) := by decide +kernel
theorem dX2_tally_31 : decode cX2_tally 31 = .ok (.goto (-26), 3) := by decide +kernel
theorem dX2_tally_34 : decode cX2_tally 34 = .ok (.iload_n 3, 1) := by decide +kernel
theorem dX2_tally_35 : decode cX2_tally 35 = .ok (.ireturn, 1) := by decide +kernel
set_option maxRecDepth 20000 in
theorem s_RK_tally (E : XE) : Cs E (yX2_tally, cX2_tally, 5, some .int) (k_RK_tally) := (Cs_nd (Cs_nd (Cs_nd (Cs_nd (Cs_lf (sg_iconst dX2_tally_0 (by decide))) (Cs_lf (sg_istore_n dX2_tally_1 rfl (by decide)))) (Cs_nd (Cs_lf (sg_iconst dX2_tally_2 (by decide))) (Cs_lf (sg_istore dX2_tally_3 (by decide))))) (Cs_nd (Cs_nd (Cs_lf (sg_iload dX2_tally_5)) (Cs_lf (sg_aload_n dX2_tally_7 rfl))) (Cs_nd (Cs_lf (sg_invV (mid := 16) (ci := 1) (by decide +kernel) dX2_tally_8 ok_16 rfl w_543 w_439 w_440)) (Cs_nd (Cs_lf (sg_cge dX2_tally_11 (by decide))) (Cs_lf (sg_aload_n dX2_tally_14 rfl)))))) (Cs_nd (Cs_nd (Cs_nd (Cs_lf (sg_iload_n dX2_tally_15 rfl)) (Cs_lf (sg_aload_n dX2_tally_16 rfl))) (Cs_nd (Cs_lf (sg_iload dX2_tally_17)) (Cs_nd (Cs_lf (sg_invV (mid := 40) (ci := 2) (by decide +kernel) dX2_tally_19 ok_40 rfl w_587 w_589 ws_18)) (Cs_lf (sg_ifne dX2_tally_22 (by decide)))))) (Cs_nd (Cs_nd (Cs_lf (sg_iinc dX2_tally_25 (by decide) (by decide))) (Cs_lf (sg_iinc dX2_tally_28 (by decide) (by decide)))) (Cs_nd (Cs_lf (sg_goto dX2_tally_31 (by decide))) (Cs_nd (Cs_lf (sg_iload_n dX2_tally_34 rfl)) (Cs_lf (sg_iret dX2_tally_35 rfl)))))))
theorem dX3_init_0 : decode cX3_init 0 = .ok (.aload_n 0, 1) := by decide +kernel
theorem dX3_init_1 : decode cX3_init 1 = .ok (.invokespecial 3, 3) := by decide +kernel
theorem dX3_init_4 : decode cX3_init 4 = .ok (.aload_n 0, 1) := by decide +kernel
theorem dX3_init_5 : decode cX3_init 5 = .ok (.iconst 0, 1) := by decide +kernel
theorem dX3_init_6 : decode cX3_init 6 = .ok (.putfield 9, 3) := by decide +kernel
theorem dX3_init_9 : decode cX3_init 9 = .ok (.aload_n 0, 1) := by decide +kernel
theorem dX3_init_10 : decode cX3_init 10 = .ok (.iconst (-1), 1) := by decide +kernel
theorem dX3_init_11 : decode cX3_init 11 = .ok (.putfield 15, 3) := by decide +kernel
theorem dX3_init_14 : decode cX3_init 14 = .ok (.aload_n 0, 1) := by decide +kernel
theorem dX3_init_15 : decode cX3_init 15 = .ok (.iconst 0, 1) := by decide +kernel
theorem dX3_init_16 : decode cX3_init 16 = .ok (.putfield 18, 3) := by decide +kernel
theorem dX3_init_19 : decode cX3_init 19 = .ok (.aload_n 0, 1) := by decide +kernel
theorem dX3_init_20 : decode cX3_init 20 = .ok (.aload_n 1, 1) := by decide +kernel
theorem dX3_init_21 : decode cX3_init 21 = .ok (.putfield 21, 3) := by decide +kernel
theorem dX3_init_24 : decode cX3_init 24 = .ok (.aload_n 0, 1) := by decide +kernel
theorem dX3_init_25 : decode cX3_init 25 = .ok (.aload_n 1, 1) := by decide +kernel
theorem dX3_init_26 : decode cX3_init 26 = .ok (.getfield 25, 3) := by decide +kernel
theorem dX3_init_29 : decode cX3_init 29 = .ok (.putfield 31, 3) := by decide +kernel
theorem dX3_init_32 : decode cX3_init 32 = .ok (.return_, 1) := by decide +kernel
set_option maxRecDepth 20000 in
theorem s_RD_init (E : XE) : Cs E (yX3_init, cX3_init, 2, none) (k_RD_init) := (Cs_nd (Cs_nd (Cs_nd (Cs_nd (Cs_lf (sg_aload_n dX3_init_0 rfl)) (Cs_lf (sg_obj dX3_init_1 w_240 w_38 w_39))) (Cs_nd (Cs_lf (sg_aload_n dX3_init_4 rfl)) (Cs_lf (sg_iconst dX3_init_5 (by decide))))) (Cs_nd (Cs_nd (Cs_lf (sg_putf dX3_init_6 rfl inX3 tyX3_ok nmX3 (by decide) w_241 rfl (tyX3_ok 0 (by decide)) ok_int)) (Cs_lf (sg_aload_n dX3_init_9 rfl))) (Cs_nd (Cs_lf (sg_iconst dX3_init_10 (by decide))) (Cs_nd (Cs_lf (sg_putf dX3_init_11 rfl inX3 tyX3_ok nmX3 (by decide) w_243 rfl (tyX3_ok 1 (by decide)) ok_int)) (Cs_lf (sg_aload_n dX3_init_14 rfl)))))) (Cs_nd (Cs_nd (Cs_nd (Cs_lf (sg_iconst dX3_init_15 (by decide))) (Cs_lf (sg_putf dX3_init_16 rfl inX3 tyX3_ok nmX3 (by decide) w_247 rfl (tyX3_ok 4 (by decide)) ok_int))) (Cs_nd (Cs_lf (sg_aload_n dX3_init_19 rfl)) (Cs_nd (Cs_lf (sg_aload_n dX3_init_20 rfl)) (Cs_lf (sg_putF dX3_init_21 rfl inX3 tyX3_ok nmX3 (by decide) w_245 rfl rfl rfl (tyX3_ok 2 (by decide)) (ok_obj _)))))) (Cs_nd (Cs_nd (Cs_lf (sg_aload_n dX3_init_24 rfl)) (Cs_lf (sg_aload_n dX3_init_25 rfl))) (Cs_nd (Cs_lf (sg_getf dX3_init_26 rfl inX0 (by decide) w_127)) (Cs_nd (Cs_lf (sg_putF dX3_init_29 rfl inX3 tyX3_ok nmX3 (by decide) w_246 rfl rfl rfl (tyX3_ok 3 (by decide)) (ok_obj _))) (Cs_lf (sg_vret dX3_init_32 rfl)))))))
theorem dX3_fail_0 : decode cX3_fail 0 = .ok (.aload_n 0, 1) := by decide +kernel
theorem dX3_fail_1 : decode cX3_fail 1 = .ok (.getfield 9, 3) := by decide +kernel
theorem dX3_fail_4 : decode cX3_fail 4 = .ok (.ifCond .ne 13, 3) := by decide +kernel
theorem dX3_fail_7 : decode cX3_fail 7 = .ok (.aload_n 0, 1) := by decide +kernel
theorem dX3_fail_8 : decode cX3_fail 8 = .ok (.iload_n 1, 1) := by decide +kernel
theorem dX3_fail_9 : decode cX3_fail 9 = .ok (.putfield 9, 3) := by decide +kernel
theorem dX3_fail_12 : decode cX3_fail 12 = .ok (.aload_n 0, 1) := by decide +kernel
theorem dX3_fail_13 : decode cX3_fail 13 = .ok (.iload_n 2, 1) := by decide +kernel
theorem dX3_fail_14 : decode cX3_fail 14 = .ok (.putfield 15, 3) := by decide +kernel
theorem dX3_fail_17 : decode cX3_fail 17 = .ok (.return_, 1) := by decide +kernel
set_option maxRecDepth 20000 in
theorem s_RD_fail (E : XE) : Cs E (yX3_fail, cX3_fail, 3, none) (k_RD_fail) := (Cs_nd (Cs_nd (Cs_nd (Cs_lf (sg_aload_n dX3_fail_0 rfl)) (Cs_lf (sg_getf dX3_fail_1 rfl inX3 (by decide) w_241))) (Cs_nd (Cs_lf (sg_ifne dX3_fail_4 (by decide))) (Cs_nd (Cs_lf (sg_aload_n dX3_fail_7 rfl)) (Cs_lf (sg_iload_n dX3_fail_8 rfl))))) (Cs_nd (Cs_nd (Cs_lf (sg_putf dX3_fail_9 rfl inX3 tyX3_ok nmX3 (by decide) w_241 rfl (tyX3_ok 0 (by decide)) ok_int)) (Cs_lf (sg_aload_n dX3_fail_12 rfl))) (Cs_nd (Cs_lf (sg_iload_n dX3_fail_13 rfl)) (Cs_nd (Cs_lf (sg_putf dX3_fail_14 rfl inX3 tyX3_ok nmX3 (by decide) w_243 rfl (tyX3_ok 1 (by decide)) ok_int)) (Cs_lf (sg_vret dX3_fail_17 rfl))))))
theorem dX3_scan_0 : decode cX3_scan 0 = .ok (.aload_n 0, 1) := by decide +kernel
theorem dX3_scan_1 : decode cX3_scan 1 = .ok (.invokevirtual 32, 3) := by decide +kernel
theorem dX3_scan_4 : decode cX3_scan 4 = .ok (.aload_n 0, 1) := by decide +kernel
theorem dX3_scan_5 : decode cX3_scan 5 = .ok (.iconst 4, 1) := by decide +kernel
theorem dX3_scan_6 : decode cX3_scan 6 = .ok (.invokevirtual 35, 3) := by decide +kernel
theorem dX3_scan_9 : decode cX3_scan 9 = .ok (.aload_n 0, 1) := by decide +kernel
theorem dX3_scan_10 : decode cX3_scan 10 = .ok (.invokevirtual 39, 3) := by decide +kernel
theorem dX3_scan_13 : decode cX3_scan 13 = .ok (.aload_n 0, 1) := by decide +kernel
theorem dX3_scan_14 : decode cX3_scan 14 = .ok (.getfield 21, 3) := by decide +kernel
theorem dX3_scan_17 : decode cX3_scan 17 = .ok (.aload_n 0, 1) := by decide +kernel
theorem dX3_scan_18 : decode cX3_scan 18 = .ok (.getfield 18, 3) := by decide +kernel
theorem dX3_scan_21 : decode cX3_scan 21 = .ok (.putfield 42, 3) := by decide +kernel
theorem dX3_scan_24 : decode cX3_scan 24 = .ok (.aload_n 0, 1) := by decide +kernel
theorem dX3_scan_25 : decode cX3_scan 25 = .ok (.iconst 2, 1) := by decide +kernel
theorem dX3_scan_26 : decode cX3_scan 26 = .ok (.invokevirtual 35, 3) := by decide +kernel
theorem dX3_scan_29 : decode cX3_scan 29 = .ok (.aload_n 0, 1) := by decide +kernel
theorem dX3_scan_30 : decode cX3_scan 30 = .ok (.bipush 7, 2) := by decide +kernel
theorem dX3_scan_32 : decode cX3_scan 32 = .ok (.invokevirtual 45, 3) := by decide +kernel
theorem dX3_scan_35 : decode cX3_scan 35 = .ok (.aload_n 0, 1) := by decide +kernel
theorem dX3_scan_36 : decode cX3_scan 36 = .ok (.invokevirtual 48, 3) := by decide +kernel
theorem dX3_scan_39 : decode cX3_scan 39 = .ok (.aload_n 0, 1) := by decide +kernel
theorem dX3_scan_40 : decode cX3_scan 40 = .ok (.bipush 8, 2) := by decide +kernel
theorem dX3_scan_42 : decode cX3_scan 42 = .ok (.invokevirtual 51, 3) := by decide +kernel
theorem dX3_scan_45 : decode cX3_scan 45 = .ok (.istore_n 1, 1) := by decide +kernel
theorem dX3_scan_46 : decode cX3_scan 46 = .ok (.iconst 0, 1) := by decide +kernel
theorem dX3_scan_47 : decode cX3_scan 47 = .ok (.istore_n 2, 1) := by decide +kernel
theorem dX3_scan_48 : decode cX3_scan 48 = .ok (.iload_n 2, 1) := by decide +kernel
theorem dX3_scan_49 : decode cX3_scan 49 = .ok (.iload_n 1, 1) := by decide +kernel
theorem dX3_scan_50 : decode cX3_scan 50 = .ok (.if_icmp .ge 22, 3) := by decide +kernel
theorem dX3_scan_53 : decode cX3_scan 53 = .ok (.aload_n 0, 1) := by decide +kernel
theorem dX3_scan_54 : decode cX3_scan 54 = .ok (.getfield 9, 3) := by decide +kernel
theorem dX3_scan_57 : decode cX3_scan 57 = .ok (.ifCond .ne 15, 3) := by decide +kernel
theorem dX3_scan_60 : decode cX3_scan 60 = .ok (.aload_n 0, 1) := by decide +kernel
theorem dX3_scan_61 : decode cX3_scan 61 = .ok (.bipush 7, 2) := by decide +kernel
theorem dX3_scan_63 : decode cX3_scan 63 = .ok (.invokevirtual 45, 3) := by decide +kernel
theorem dX3_scan_66 : decode cX3_scan 66 = .ok (.iinc 2 1, 3) := by decide +kernel
theorem dX3_scan_69 : decode cX3_scan 69 = .ok (.goto (-21), 3) := by decide +kernel
theorem dX3_scan_72 : decode cX3_scan 72 = .ok (.aload_n 0, 1) := by decide +kernel
theorem dX3_scan_73 : decode cX3_scan 73 = .ok (.iconst 0, 1) := by decide +kernel
theorem dX3_scan_74 : decode cX3_scan 74 = .ok (.invokevirtual 55, 3) := by decide +kernel
theorem dX3_scan_77 : decode cX3_scan 77 = .ok (.aload_n 0, 1) := by decide +kernel
theorem dX3_scan_78 : decode cX3_scan 78 = .ok (.iconst 1, 1) := by decide +kernel
theorem dX3_scan_79 : decode cX3_scan 79 = .ok (.invokevirtual 55, 3) := by decide +kernel
theorem dX3_scan_82 : decode cX3_scan 82 = .ok (.aload_n 0, 1) := by decide +kernel
theorem dX3_scan_83 : decode cX3_scan 83 = .ok (.getfield 21, 3) := by decide +kernel
theorem dX3_scan_86 : decode cX3_scan 86 = .ok (.aload_n 0, 1) := by decide +kernel
theorem dX3_scan_87 : decode cX3_scan 87 = .ok (.getfield 18, 3) := by decide +kernel
theorem dX3_scan_90 : decode cX3_scan 90 = .ok (.putfield 58, 3) := by decide +kernel
theorem dX3_scan_93 : decode cX3_scan 93 = .ok (.aload_n 0, 1) := by decide +kernel
theorem dX3_scan_94 : decode cX3_scan 94 = .ok (.invokevirtual 61, 3) := by decide +kernel
theorem dX3_scan_97 : decode cX3_scan 97 = .ok (.aload_n 0, 1) := by decide +kernel
theorem dX3_scan_98 : decode cX3_scan 98 = .ok (.getfield 18, 3) := by decide +kernel
theorem dX3_scan_101 : decode cX3_scan 101 = .ok (.aload_n 0, 1) := by decide +kernel
theorem dX3_scan_102 : decode cX3_scan 102 = .ok (.getfield 31, 3) := by decide +kernel
theorem dX3_scan_105 : decode cX3_scan 105 = .ok (.invokevirtual 64, 3) := by decide +kernel
theorem dX3_scan_108 : decode cX3_scan 108 = .ok (.if_icmp .ge 13, 3) := by decide +kernel
theorem dX3_scan_111 : decode cX3_scan 111 = .ok (.aload_n 0, 1) := by decide +kernel
theorem dX3_scan_112 : decode cX3_scan 112 = .ok (.bipush 6, 2) := by decide +kernel
theorem dX3_scan_114 : decode cX3_scan 114 = .ok (.aload_n 0, 1) := by decide +kernel
theorem dX3_scan_115 : decode cX3_scan 115 = .ok (.getfield 18, 3) := by decide +kernel
theorem dX3_scan_118 : decode cX3_scan 118 = .ok (.invokevirtual 70, 3) := by decide +kernel
theorem dX3_scan_121 : decode cX3_scan 121 = .ok (.return_, 1) := by decide +kernel
set_option maxRecDepth 20000 in
theorem s_RD_scan (E : XE) : Cs E (yX3_scan, cX3_scan, 3, none) (k_RD_scan) := (Cs_nd (Cs_nd (Cs_nd (Cs_nd (Cs_nd (Cs_lf (sg_aload_n dX3_scan_0 rfl)) (Cs_nd (Cs_lf (sg_invV (mid := 52) (ci := 3) (by decide +kernel) dX3_scan_1 ok_52 rfl w_263 w_265 ws_0)) (Cs_lf (sg_aload_n dX3_scan_4 rfl)))) (Cs_nd (Cs_nd (Cs_lf (sg_iconst dX3_scan_5 (by decide))) (Cs_lf (sg_invV (mid := 48) (ci := 3) (by decide +kernel) dX3_scan_6 ok_48 rfl w_267 w_269 ws_1))) (Cs_nd (Cs_lf (sg_aload_n dX3_scan_9 rfl)) (Cs_lf (sg_invV (mid := 53) (ci := 3) (by decide +kernel) dX3_scan_10 ok_53 rfl w_282 w_284 ws_3))))) (Cs_nd (Cs_nd (Cs_nd (Cs_lf (sg_aload_n dX3_scan_13 rfl)) (Cs_lf (sg_getf dX3_scan_14 rfl inX3 (by decide) w_245))) (Cs_nd (Cs_lf (sg_aload_n dX3_scan_17 rfl)) (Cs_lf (sg_getf dX3_scan_18 rfl inX3 (by decide) w_247)))) (Cs_nd (Cs_nd (Cs_lf (sg_putf dX3_scan_21 rfl inX0 tyX0_ok nmX0 (by decide) w_131 rfl (tyX0_ok 2 (by decide)) ok_int)) (Cs_lf (sg_aload_n dX3_scan_24 rfl))) (Cs_nd (Cs_lf (sg_iconst dX3_scan_25 (by decide))) (Cs_lf (sg_invV (mid := 48) (ci := 3) (by decide +kernel) dX3_scan_26 ok_48 rfl w_267 w_269 ws_1)))))) (Cs_nd (Cs_nd (Cs_nd (Cs_nd (Cs_lf (sg_aload_n dX3_scan_29 rfl)) (Cs_lf (sg_bipush dX3_scan_30 (by decide)))) (Cs_nd (Cs_lf (sg_invV (mid := 49) (ci := 3) (by decide +kernel) dX3_scan_32 ok_49 rfl w_320 w_322 ws_7)) (Cs_lf (sg_aload_n dX3_scan_35 rfl)))) (Cs_nd (Cs_nd (Cs_lf (sg_invV (mid := 55) (ci := 3) (by decide +kernel) dX3_scan_36 ok_55 rfl w_328 w_330 ws_8)) (Cs_lf (sg_aload_n dX3_scan_39 rfl))) (Cs_nd (Cs_lf (sg_bipush dX3_scan_40 (by decide))) (Cs_lf (sg_invV (mid := 51) (ci := 3) (by decide +kernel) dX3_scan_42 ok_51 rfl w_286 w_288 ws_4))))) (Cs_nd (Cs_nd (Cs_nd (Cs_lf (sg_istore_n dX3_scan_45 rfl (by decide))) (Cs_lf (sg_iconst dX3_scan_46 (by decide)))) (Cs_nd (Cs_lf (sg_istore_n dX3_scan_47 rfl (by decide))) (Cs_lf (sg_iload_n dX3_scan_48 rfl)))) (Cs_nd (Cs_nd (Cs_lf (sg_iload_n dX3_scan_49 rfl)) (Cs_lf (sg_cge dX3_scan_50 (by decide)))) (Cs_nd (Cs_lf (sg_aload_n dX3_scan_53 rfl)) (Cs_lf (sg_getf dX3_scan_54 rfl inX3 (by decide) w_241))))))) (Cs_nd (Cs_nd (Cs_nd (Cs_nd (Cs_lf (sg_ifne dX3_scan_57 (by decide))) (Cs_nd (Cs_lf (sg_aload_n dX3_scan_60 rfl)) (Cs_lf (sg_bipush dX3_scan_61 (by decide))))) (Cs_nd (Cs_nd (Cs_lf (sg_invV (mid := 49) (ci := 3) (by decide +kernel) dX3_scan_63 ok_49 rfl w_320 w_322 ws_7)) (Cs_lf (sg_iinc dX3_scan_66 (by decide) (by decide)))) (Cs_nd (Cs_lf (sg_goto dX3_scan_69 (by decide))) (Cs_lf (sg_aload_n dX3_scan_72 rfl))))) (Cs_nd (Cs_nd (Cs_nd (Cs_lf (sg_iconst dX3_scan_73 (by decide))) (Cs_lf (sg_invV (mid := 56) (ci := 3) (by decide +kernel) dX3_scan_74 ok_56 rfl w_332 w_334 ws_9))) (Cs_nd (Cs_lf (sg_aload_n dX3_scan_77 rfl)) (Cs_lf (sg_iconst dX3_scan_78 (by decide))))) (Cs_nd (Cs_nd (Cs_lf (sg_invV (mid := 56) (ci := 3) (by decide +kernel) dX3_scan_79 ok_56 rfl w_332 w_334 ws_9)) (Cs_lf (sg_aload_n dX3_scan_82 rfl))) (Cs_nd (Cs_lf (sg_getf dX3_scan_83 rfl inX3 (by decide) w_245)) (Cs_lf (sg_aload_n dX3_scan_86 rfl)))))) (Cs_nd (Cs_nd (Cs_nd (Cs_nd (Cs_lf (sg_getf dX3_scan_87 rfl inX3 (by decide) w_247)) (Cs_lf (sg_putf dX3_scan_90 rfl inX0 tyX0_ok nmX0 (by decide) w_135 rfl (tyX0_ok 3 (by decide)) ok_int))) (Cs_nd (Cs_lf (sg_aload_n dX3_scan_93 rfl)) (Cs_lf (sg_invV (mid := 57) (ci := 3) (by decide +kernel) dX3_scan_94 ok_57 rfl w_344 w_346 ws_10)))) (Cs_nd (Cs_nd (Cs_lf (sg_aload_n dX3_scan_97 rfl)) (Cs_lf (sg_getf dX3_scan_98 rfl inX3 (by decide) w_247))) (Cs_nd (Cs_lf (sg_aload_n dX3_scan_101 rfl)) (Cs_lf (sg_getf dX3_scan_102 rfl inX3 (by decide) w_246))))) (Cs_nd (Cs_nd (Cs_nd (Cs_lf (sg_invV (mid := 61) (ci := 4) (by decide +kernel) dX3_scan_105 ok_61 rfl w_272 w_191 w_192)) (Cs_lf (sg_cge dX3_scan_108 (by decide)))) (Cs_nd (Cs_lf (sg_aload_n dX3_scan_111 rfl)) (Cs_lf (sg_bipush dX3_scan_112 (by decide))))) (Cs_nd (Cs_nd (Cs_lf (sg_aload_n dX3_scan_114 rfl)) (Cs_lf (sg_getf dX3_scan_115 rfl inX3 (by decide) w_247))) (Cs_nd (Cs_lf (sg_invV (mid := 46) (ci := 3) (by decide +kernel) dX3_scan_118 ok_46 rfl w_273 w_275 ws_2)) (Cs_lf (sg_vret dX3_scan_121 rfl))))))))
theorem dX3_skip_0 : decode cX3_skip 0 = .ok (.aload_n 0, 1) := by decide +kernel
theorem dX3_skip_1 : decode cX3_skip 1 = .ok (.getfield 9, 3) := by decide +kernel
theorem dX3_skip_4 : decode cX3_skip 4 = .ok (.ifCond .eq 4, 3) := by decide +kernel
theorem dX3_skip_7 : decode cX3_skip 7 = .ok (.return_, 1) := by decide +kernel
theorem dX3_skip_8 : decode cX3_skip 8 = .ok (.aload_n 0, 1) := by decide +kernel
theorem dX3_skip_9 : decode cX3_skip 9 = .ok (.getfield 31, 3) := by decide +kernel
theorem dX3_skip_12 : decode cX3_skip 12 = .ok (.aload_n 0, 1) := by decide +kernel
theorem dX3_skip_13 : decode cX3_skip 13 = .ok (.getfield 18, 3) := by decide +kernel
theorem dX3_skip_16 : decode cX3_skip 16 = .ok (.iload_n 1, 1) := by decide +kernel
theorem dX3_skip_17 : decode cX3_skip 17 = .ok (.invokevirtual 74, 3) := by decide +kernel
theorem dX3_skip_20 : decode cX3_skip 20 = .ok (.ifCond .eq 16, 3) := by decide +kernel
theorem dX3_skip_23 : decode cX3_skip 23 = .ok (.aload_n 0, 1) := by decide +kernel
theorem dX3_skip_24 : decode cX3_skip 24 = .ok (.dup, 1) := by decide +kernel
theorem dX3_skip_25 : decode cX3_skip 25 = .ok (.getfield 18, 3) := by decide +kernel
theorem dX3_skip_28 : decode cX3_skip 28 = .ok (.iload_n 1, 1) := by decide +kernel
theorem dX3_skip_29 : decode cX3_skip 29 = .ok (.iadd, 1) := by decide +kernel
theorem dX3_skip_30 : decode cX3_skip 30 = .ok (.putfield 18, 3) := by decide +kernel
theorem dX3_skip_33 : decode cX3_skip 33 = .ok (.goto 15, 3) := by decide +kernel
theorem dX3_skip_36 : decode cX3_skip 36 = .ok (.aload_n 0, 1) := by decide +kernel
theorem dX3_skip_37 : decode cX3_skip 37 = .ok (.iconst 1, 1) := by decide +kernel
theorem dX3_skip_38 : decode cX3_skip 38 = .ok (.aload_n 0, 1) := by decide +kernel
theorem dX3_skip_39 : decode cX3_skip 39 = .ok (.getfield 31, 3) := by decide +kernel
theorem dX3_skip_42 : decode cX3_skip 42 = .ok (.invokevirtual 64, 3) := by decide +kernel
theorem dX3_skip_45 : decode cX3_skip 45 = .ok (.invokevirtual 70, 3) := by decide +kernel
theorem dX3_skip_48 : decode cX3_skip 48 = .ok (.return_, 1) := by decide +kernel
set_option maxRecDepth 20000 in
theorem s_RD_skip (E : XE) : Cs E (yX3_skip, cX3_skip, 2, none) (k_RD_skip) := (Cs_nd (Cs_nd (Cs_nd (Cs_nd (Cs_lf (sg_aload_n dX3_skip_0 rfl)) (Cs_nd (Cs_lf (sg_getf dX3_skip_1 rfl inX3 (by decide) w_241)) (Cs_lf (sg_ifeq dX3_skip_4 (by decide))))) (Cs_nd (Cs_lf (sg_vret dX3_skip_7 rfl)) (Cs_nd (Cs_lf (sg_aload_n dX3_skip_8 rfl)) (Cs_lf (sg_getf dX3_skip_9 rfl inX3 (by decide) w_246))))) (Cs_nd (Cs_nd (Cs_lf (sg_aload_n dX3_skip_12 rfl)) (Cs_nd (Cs_lf (sg_getf dX3_skip_13 rfl inX3 (by decide) w_247)) (Cs_lf (sg_iload_n dX3_skip_16 rfl)))) (Cs_nd (Cs_lf (sg_invV (mid := 62) (ci := 4) (by decide +kernel) dX3_skip_17 ok_62 rfl w_271 w_220 w_221)) (Cs_nd (Cs_lf (sg_ifeq dX3_skip_20 (by decide))) (Cs_lf (sg_aload_n dX3_skip_23 rfl)))))) (Cs_nd (Cs_nd (Cs_nd (Cs_lf (sg_dup dX3_skip_24)) (Cs_nd (Cs_lf (sg_getf dX3_skip_25 rfl inX3 (by decide) w_247)) (Cs_lf (sg_iload_n dX3_skip_28 rfl)))) (Cs_nd (Cs_lf (sg_iadd dX3_skip_29)) (Cs_nd (Cs_lf (sg_putf dX3_skip_30 rfl inX3 tyX3_ok nmX3 (by decide) w_247 rfl (tyX3_ok 4 (by decide)) ok_int)) (Cs_lf (sg_goto dX3_skip_33 (by decide)))))) (Cs_nd (Cs_nd (Cs_lf (sg_aload_n dX3_skip_36 rfl)) (Cs_nd (Cs_lf (sg_iconst dX3_skip_37 (by decide))) (Cs_lf (sg_aload_n dX3_skip_38 rfl)))) (Cs_nd (Cs_nd (Cs_lf (sg_getf dX3_skip_39 rfl inX3 (by decide) w_246)) (Cs_lf (sg_invV (mid := 61) (ci := 4) (by decide +kernel) dX3_skip_42 ok_61 rfl w_272 w_191 w_192))) (Cs_nd (Cs_lf (sg_invV (mid := 46) (ci := 3) (by decide +kernel) dX3_skip_45 ok_46 rfl w_273 w_275 ws_2)) (Cs_lf (sg_vret dX3_skip_48 rfl)))))))
theorem dX3_tell_0 : decode cX3_tell 0 = .ok (.aload_n 0, 1) := by decide +kernel
theorem dX3_tell_1 : decode cX3_tell 1 = .ok (.getfield 18, 3) := by decide +kernel
theorem dX3_tell_4 : decode cX3_tell 4 = .ok (.istore_n 2, 1) := by decide +kernel
theorem dX3_tell_5 : decode cX3_tell 5 = .ok (.aload_n 0, 1) := by decide +kernel
theorem dX3_tell_6 : decode cX3_tell 6 = .ok (.iconst 2, 1) := by decide +kernel
theorem dX3_tell_7 : decode cX3_tell 7 = .ok (.invokevirtual 35, 3) := by decide +kernel
theorem dX3_tell_10 : decode cX3_tell 10 = .ok (.aload_n 0, 1) := by decide +kernel
theorem dX3_tell_11 : decode cX3_tell 11 = .ok (.getfield 9, 3) := by decide +kernel
theorem dX3_tell_14 : decode cX3_tell 14 = .ok (.ifCond .ne 12, 3) := by decide +kernel
theorem dX3_tell_17 : decode cX3_tell 17 = .ok (.aload_n 0, 1) := by decide +kernel
theorem dX3_tell_18 : decode cX3_tell 18 = .ok (.getfield 21, 3) := by decide +kernel
theorem dX3_tell_21 : decode cX3_tell 21 = .ok (.iload_n 2, 1) := by decide +kernel
theorem dX3_tell_22 : decode cX3_tell 22 = .ok (.iload_n 1, 1) := by decide +kernel
theorem dX3_tell_23 : decode cX3_tell 23 = .ok (.invokevirtual 78, 3) := by decide +kernel
theorem dX3_tell_26 : decode cX3_tell 26 = .ok (.return_, 1) := by decide +kernel
set_option maxRecDepth 20000 in
theorem s_RD_tell (E : XE) : Cs E (yX3_tell, cX3_tell, 3, none) (k_RD_tell) := (Cs_nd (Cs_nd (Cs_nd (Cs_lf (sg_aload_n dX3_tell_0 rfl)) (Cs_nd (Cs_lf (sg_getf dX3_tell_1 rfl inX3 (by decide) w_247)) (Cs_lf (sg_istore_n dX3_tell_4 rfl (by decide))))) (Cs_nd (Cs_nd (Cs_lf (sg_aload_n dX3_tell_5 rfl)) (Cs_lf (sg_iconst dX3_tell_6 (by decide)))) (Cs_nd (Cs_lf (sg_invV (mid := 48) (ci := 3) (by decide +kernel) dX3_tell_7 ok_48 rfl w_267 w_269 ws_1)) (Cs_lf (sg_aload_n dX3_tell_10 rfl))))) (Cs_nd (Cs_nd (Cs_nd (Cs_lf (sg_getf dX3_tell_11 rfl inX3 (by decide) w_241)) (Cs_lf (sg_ifne dX3_tell_14 (by decide)))) (Cs_nd (Cs_lf (sg_aload_n dX3_tell_17 rfl)) (Cs_lf (sg_getf dX3_tell_18 rfl inX3 (by decide) w_245)))) (Cs_nd (Cs_nd (Cs_lf (sg_iload_n dX3_tell_21 rfl)) (Cs_lf (sg_iload_n dX3_tell_22 rfl))) (Cs_nd (Cs_lf (sg_invV (mid := 2) (ci := 0) (by decide +kernel) dX3_tell_23 ok_2 rfl w_324 w_325 w_326)) (Cs_lf (sg_vret dX3_tell_26 rfl))))))
theorem dX3_two_0 : decode cX3_two 0 = .ok (.aload_n 0, 1) := by decide +kernel
theorem dX3_two_1 : decode cX3_two 1 = .ok (.getfield 18, 3) := by decide +kernel
theorem dX3_two_4 : decode cX3_two 4 = .ok (.istore_n 1, 1) := by decide +kernel
theorem dX3_two_5 : decode cX3_two 5 = .ok (.aload_n 0, 1) := by decide +kernel
theorem dX3_two_6 : decode cX3_two 6 = .ok (.iconst 2, 1) := by decide +kernel
theorem dX3_two_7 : decode cX3_two 7 = .ok (.invokevirtual 35, 3) := by decide +kernel
theorem dX3_two_10 : decode cX3_two 10 = .ok (.aload_n 0, 1) := by decide +kernel
theorem dX3_two_11 : decode cX3_two 11 = .ok (.getfield 9, 3) := by decide +kernel
theorem dX3_two_14 : decode cX3_two 14 = .ok (.ifCond .ne 14, 3) := by decide +kernel
theorem dX3_two_17 : decode cX3_two 17 = .ok (.aload_n 0, 1) := by decide +kernel
theorem dX3_two_18 : decode cX3_two 18 = .ok (.getfield 31, 3) := by decide +kernel
theorem dX3_two_21 : decode cX3_two 21 = .ok (.iload_n 1, 1) := by decide +kernel
theorem dX3_two_22 : decode cX3_two 22 = .ok (.invokevirtual 81, 3) := by decide +kernel
theorem dX3_two_25 : decode cX3_two 25 = .ok (.goto 4, 3) := by decide +kernel
theorem dX3_two_28 : decode cX3_two 28 = .ok (.iconst 0, 1) := by decide +kernel
theorem dX3_two_29 : decode cX3_two 29 = .ok (.ireturn, 1) := by decide +kernel
set_option maxRecDepth 20000 in
theorem s_RD_two (E : XE) : Cs E (yX3_two, cX3_two, 2, some .int) (k_RD_two) := (Cs_nd (Cs_nd (Cs_nd (Cs_nd (Cs_lf (sg_aload_n dX3_two_0 rfl)) (Cs_lf (sg_getf dX3_two_1 rfl inX3 (by decide) w_247))) (Cs_nd (Cs_lf (sg_istore_n dX3_two_4 rfl (by decide))) (Cs_lf (sg_aload_n dX3_two_5 rfl)))) (Cs_nd (Cs_nd (Cs_lf (sg_iconst dX3_two_6 (by decide))) (Cs_lf (sg_invV (mid := 48) (ci := 3) (by decide +kernel) dX3_two_7 ok_48 rfl w_267 w_269 ws_1))) (Cs_nd (Cs_lf (sg_aload_n dX3_two_10 rfl)) (Cs_lf (sg_getf dX3_two_11 rfl inX3 (by decide) w_241))))) (Cs_nd (Cs_nd (Cs_nd (Cs_lf (sg_ifne dX3_two_14 (by decide))) (Cs_lf (sg_aload_n dX3_two_17 rfl))) (Cs_nd (Cs_lf (sg_getf dX3_two_18 rfl inX3 (by decide) w_246)) (Cs_lf (sg_iload_n dX3_two_21 rfl)))) (Cs_nd (Cs_nd (Cs_lf (sg_invV (mid := 64) (ci := 4) (by decide +kernel) dX3_two_22 ok_64 rfl w_290 w_291 w_292)) (Cs_lf (sg_goto dX3_two_25 (by decide)))) (Cs_nd (Cs_lf (sg_iconst dX3_two_28 (by decide))) (Cs_lf (sg_iret dX3_two_29 rfl))))))
theorem dX3_many_0 : decode cX3_many 0 = .ok (.aload_n 0, 1) := by decide +kernel
theorem dX3_many_1 : decode cX3_many 1 = .ok (.getfield 18, 3) := by decide +kernel
theorem dX3_many_4 : decode cX3_many 4 = .ok (.istore_n 2, 1) := by decide +kernel
theorem dX3_many_5 : decode cX3_many 5 = .ok (.aload_n 0, 1) := by decide +kernel
theorem dX3_many_6 : decode cX3_many 6 = .ok (.iconst 2, 1) := by decide +kernel
theorem dX3_many_7 : decode cX3_many 7 = .ok (.invokevirtual 35, 3) := by decide +kernel
theorem dX3_many_10 : decode cX3_many 10 = .ok (.aload_n 0, 1) := by decide +kernel
theorem dX3_many_11 : decode cX3_many 11 = .ok (.getfield 31, 3) := by decide +kernel
theorem dX3_many_14 : decode cX3_many 14 = .ok (.iload_n 2, 1) := by decide +kernel
theorem dX3_many_15 : decode cX3_many 15 = .ok (.invokevirtual 81, 3) := by decide +kernel
theorem dX3_many_18 : decode cX3_many 18 = .ok (.istore_n 3, 1) := by decide +kernel
theorem dX3_many_19 : decode cX3_many 19 = .ok (.iload_n 3, 1) := by decide +kernel
theorem dX3_many_20 : decode cX3_many 20 = .ok (.iload_n 1, 1) := by decide +kernel
theorem dX3_many_21 : decode cX3_many 21 = .ok (.if_icmp .le 9, 3) := by decide +kernel
theorem dX3_many_24 : decode cX3_many 24 = .ok (.aload_n 0, 1) := by decide +kernel
theorem dX3_many_25 : decode cX3_many 25 = .ok (.iconst 3, 1) := by decide +kernel
theorem dX3_many_26 : decode cX3_many 26 = .ok (.iload_n 2, 1) := by decide +kernel
theorem dX3_many_27 : decode cX3_many 27 = .ok (.invokevirtual 70, 3) := by decide +kernel
theorem dX3_many_30 : decode cX3_many 30 = .ok (.aload_n 0, 1) := by decide +kernel
theorem dX3_many_31 : decode cX3_many 31 = .ok (.getfield 9, 3) := by decide +kernel
theorem dX3_many_34 : decode cX3_many 34 = .ok (.ifCond .ne 7, 3) := by decide +kernel
theorem dX3_many_37 : decode cX3_many 37 = .ok (.iload_n 3, 1) := by decide +kernel
theorem dX3_many_38 : decode cX3_many 38 = .ok (.goto 4, 3) := by decide +kernel
theorem dX3_many_41 : decode cX3_many 41 = .ok (.iconst 0, 1) := by decide +kernel
theorem dX3_many_42 : decode cX3_many 42 = .ok (.ireturn, 1) := by decide +kernel
set_option maxRecDepth 20000 in
theorem s_RD_many (E : XE) : Cs E (yX3_many, cX3_many, 4, some .int) (k_RD_many) := (Cs_nd (Cs_nd (Cs_nd (Cs_nd (Cs_lf (sg_aload_n dX3_many_0 rfl)) (Cs_nd (Cs_lf (sg_getf dX3_many_1 rfl inX3 (by decide) w_247)) (Cs_lf (sg_istore_n dX3_many_4 rfl (by decide))))) (Cs_nd (Cs_lf (sg_aload_n dX3_many_5 rfl)) (Cs_nd (Cs_lf (sg_iconst dX3_many_6 (by decide))) (Cs_lf (sg_invV (mid := 48) (ci := 3) (by decide +kernel) dX3_many_7 ok_48 rfl w_267 w_269 ws_1))))) (Cs_nd (Cs_nd (Cs_lf (sg_aload_n dX3_many_10 rfl)) (Cs_nd (Cs_lf (sg_getf dX3_many_11 rfl inX3 (by decide) w_246)) (Cs_lf (sg_iload_n dX3_many_14 rfl)))) (Cs_nd (Cs_lf (sg_invV (mid := 64) (ci := 4) (by decide +kernel) dX3_many_15 ok_64 rfl w_290 w_291 w_292)) (Cs_nd (Cs_lf (sg_istore_n dX3_many_18 rfl (by decide))) (Cs_lf (sg_iload_n dX3_many_19 rfl)))))) (Cs_nd (Cs_nd (Cs_nd (Cs_lf (sg_iload_n dX3_many_20 rfl)) (Cs_nd (Cs_lf (sg_cle dX3_many_21 (by decide))) (Cs_lf (sg_aload_n dX3_many_24 rfl)))) (Cs_nd (Cs_lf (sg_iconst dX3_many_25 (by decide))) (Cs_nd (Cs_lf (sg_iload_n dX3_many_26 rfl)) (Cs_lf (sg_invV (mid := 46) (ci := 3) (by decide +kernel) dX3_many_27 ok_46 rfl w_273 w_275 ws_2))))) (Cs_nd (Cs_nd (Cs_lf (sg_aload_n dX3_many_30 rfl)) (Cs_nd (Cs_lf (sg_getf dX3_many_31 rfl inX3 (by decide) w_241)) (Cs_lf (sg_ifne dX3_many_34 (by decide))))) (Cs_nd (Cs_nd (Cs_lf (sg_iload_n dX3_many_37 rfl)) (Cs_lf (sg_goto dX3_many_38 (by decide)))) (Cs_nd (Cs_lf (sg_iconst dX3_many_41 (by decide))) (Cs_lf (sg_iret dX3_many_42 rfl)))))))
theorem dX3_magic_0 : decode cX3_magic 0 = .ok (.iconst 0, 1) := by decide +kernel
theorem dX3_magic_1 : decode cX3_magic 1 = .ok (.istore_n 1, 1) := by decide +kernel
theorem dX3_magic_2 : decode cX3_magic 2 = .ok (.iload_n 1, 1) := by decide +kernel
theorem dX3_magic_3 : decode cX3_magic 3 = .ok (.iconst 4, 1) := by decide +kernel
theorem dX3_magic_4 : decode cX3_magic 4 = .ok (.if_icmp .ge 45, 3) := by decide +kernel
theorem dX3_magic_7 : decode cX3_magic 7 = .ok (.aload_n 0, 1) := by decide +kernel
theorem dX3_magic_8 : decode cX3_magic 8 = .ok (.iconst 1, 1) := by decide +kernel
theorem dX3_magic_9 : decode cX3_magic 9 = .ok (.invokevirtual 35, 3) := by decide +kernel
theorem dX3_magic_12 : decode cX3_magic 12 = .ok (.aload_n 0, 1) := by decide +kernel
theorem dX3_magic_13 : decode cX3_magic 13 = .ok (.getfield 31, 3) := by decide +kernel
theorem dX3_magic_16 : decode cX3_magic 16 = .ok (.iload_n 1, 1) := by decide +kernel
theorem dX3_magic_17 : decode cX3_magic 17 = .ok (.invokevirtual 84, 3) := by decide +kernel
theorem dX3_magic_20 : decode cX3_magic 20 = .ok (.ldc 87, 2) := by decide +kernel
theorem dX3_magic_22 : decode cX3_magic 22 = .ok (.bipush 24, 2) := by decide +kernel
theorem dX3_magic_24 : decode cX3_magic 24 = .ok (.bipush 8, 2) := by decide +kernel
theorem dX3_magic_26 : decode cX3_magic 26 = .ok (.iload_n 1, 1) := by decide +kernel
theorem dX3_magic_27 : decode cX3_magic 27 = .ok (.imul, 1) := by decide +kernel
theorem dX3_magic_28 : decode cX3_magic 28 = .ok (.isub, 1) := by decide +kernel
theorem dX3_magic_29 : decode cX3_magic 29 = .ok (.ishr, 1) := by decide +kernel
theorem dX3_magic_30 : decode cX3_magic 30 = .ok (.sipush 255, 3) := by decide +kernel
theorem dX3_magic_33 : decode cX3_magic 33 = .ok (.iand, 1) := by decide +kernel
theorem dX3_magic_34 : decode cX3_magic 34 = .ok (.if_icmp .eq 9, 3) := by decide +kernel
theorem dX3_magic_37 : decode cX3_magic 37 = .ok (.aload_n 0, 1) := by decide +kernel
theorem dX3_magic_38 : decode cX3_magic 38 = .ok (.iconst 2, 1) := by decide +kernel
theorem dX3_magic_39 : decode cX3_magic 39 = .ok (.iload_n 1, 1) := by decide +kernel
theorem dX3_magic_40 : decode cX3_magic 40 = .ok (.invokevirtual 70, 3) := by decide +kernel
theorem dX3_magic_43 : decode cX3_magic 43 = .ok (.iinc 1 1, 3) := by decide +kernel
theorem dX3_magic_46 : decode cX3_magic 46 = .ok (.goto (-44), 3) := by decide +kernel
theorem dX3_magic_49 : decode cX3_magic 49 = .ok (.return_, 1) := by decide +kernel
set_option maxRecDepth 20000 in
theorem s_RD_magic (E : XE) : Cs E (yX3_magic, cX3_magic, 2, none) (k_RD_magic) := (Cs_nd (Cs_nd (Cs_nd (Cs_nd (Cs_lf (sg_iconst dX3_magic_0 (by decide))) (Cs_nd (Cs_lf (sg_istore_n dX3_magic_1 rfl (by decide))) (Cs_lf (sg_iload_n dX3_magic_2 rfl)))) (Cs_nd (Cs_nd (Cs_lf (sg_iconst dX3_magic_3 (by decide))) (Cs_lf (sg_cge dX3_magic_4 (by decide)))) (Cs_nd (Cs_lf (sg_aload_n dX3_magic_7 rfl)) (Cs_lf (sg_iconst dX3_magic_8 (by decide)))))) (Cs_nd (Cs_nd (Cs_lf (sg_invV (mid := 48) (ci := 3) (by decide +kernel) dX3_magic_9 ok_48 rfl w_267 w_269 ws_1)) (Cs_nd (Cs_lf (sg_aload_n dX3_magic_12 rfl)) (Cs_lf (sg_getf dX3_magic_13 rfl inX3 (by decide) w_246)))) (Cs_nd (Cs_nd (Cs_lf (sg_iload_n dX3_magic_16 rfl)) (Cs_lf (sg_invV (mid := 63) (ci := 4) (by decide +kernel) dX3_magic_17 ok_63 rfl w_277 w_278 w_279))) (Cs_nd (Cs_lf (sg_ldc dX3_magic_20 w_281)) (Cs_lf (sg_bipush dX3_magic_22 (by decide))))))) (Cs_nd (Cs_nd (Cs_nd (Cs_lf (sg_bipush dX3_magic_24 (by decide))) (Cs_nd (Cs_lf (sg_iload_n dX3_magic_26 rfl)) (Cs_lf (sg_imul dX3_magic_27)))) (Cs_nd (Cs_nd (Cs_lf (sg_isub dX3_magic_28)) (Cs_lf (sg_ishr dX3_magic_29))) (Cs_nd (Cs_lf (sg_sipush dX3_magic_30 (by decide))) (Cs_lf (sg_iand dX3_magic_33))))) (Cs_nd (Cs_nd (Cs_nd (Cs_lf (sg_ceq dX3_magic_34 (by decide))) (Cs_lf (sg_aload_n dX3_magic_37 rfl))) (Cs_nd (Cs_lf (sg_iconst dX3_magic_38 (by decide))) (Cs_lf (sg_iload_n dX3_magic_39 rfl)))) (Cs_nd (Cs_nd (Cs_lf (sg_invV (mid := 46) (ci := 3) (by decide +kernel) dX3_magic_40 ok_46 rfl w_273 w_275 ws_2)) (Cs_lf (sg_iinc dX3_magic_43 (by decide) (by decide)))) (Cs_nd (Cs_lf (sg_goto dX3_magic_46 (by decide))) (Cs_lf (sg_vret dX3_magic_49 rfl)))))))
theorem dX3_entries_0 : decode cX3_entries 0 = .ok (.aload_n 0, 1) := by decide +kernel
theorem dX3_entries_1 : decode cX3_entries 1 = .ok (.getfield 18, 3) := by decide +kernel
theorem dX3_entries_4 : decode cX3_entries 4 = .ok (.istore_n 1, 1) := by decide +kernel
theorem dX3_entries_5 : decode cX3_entries 5 = .ok (.aload_n 0, 1) := by decide +kernel
theorem dX3_entries_6 : decode cX3_entries 6 = .ok (.bipush 61, 2) := by decide +kernel
theorem dX3_entries_8 : decode cX3_entries 8 = .ok (.invokevirtual 51, 3) := by decide +kernel
theorem dX3_entries_11 : decode cX3_entries 11 = .ok (.istore_n 2, 1) := by decide +kernel
theorem dX3_entries_12 : decode cX3_entries 12 = .ok (.iload_n 2, 1) := by decide +kernel
theorem dX3_entries_13 : decode cX3_entries 13 = .ok (.ifCond .ne 9, 3) := by decide +kernel
theorem dX3_entries_16 : decode cX3_entries 16 = .ok (.aload_n 0, 1) := by decide +kernel
theorem dX3_entries_17 : decode cX3_entries 17 = .ok (.iconst 3, 1) := by decide +kernel
theorem dX3_entries_18 : decode cX3_entries 18 = .ok (.iload_n 1, 1) := by decide +kernel
theorem dX3_entries_19 : decode cX3_entries 19 = .ok (.invokevirtual 70, 3) := by decide +kernel
theorem dX3_entries_22 : decode cX3_entries 22 = .ok (.aload_n 0, 1) := by decide +kernel
theorem dX3_entries_23 : decode cX3_entries 23 = .ok (.getfield 21, 3) := by decide +kernel
theorem dX3_entries_26 : decode cX3_entries 26 = .ok (.getfield 88, 3) := by decide +kernel
theorem dX3_entries_29 : decode cX3_entries 29 = .ok (.iload_n 2, 1) := by decide +kernel
theorem dX3_entries_30 : decode cX3_entries 30 = .ok (.invokevirtual 92, 3) := by decide +kernel
theorem dX3_entries_33 : decode cX3_entries 33 = .ok (.iconst 1, 1) := by decide +kernel
theorem dX3_entries_34 : decode cX3_entries 34 = .ok (.istore_n 3, 1) := by decide +kernel
theorem dX3_entries_35 : decode cX3_entries 35 = .ok (.iload_n 3, 1) := by decide +kernel
theorem dX3_entries_36 : decode cX3_entries 36 = .ok (.iload_n 2, 1) := by decide +kernel
theorem dX3_entries_37 : decode cX3_entries 37 = .ok (.if_icmp .ge 71, 3) := by decide +kernel
theorem dX3_entries_40 : decode cX3_entries 40 = .ok (.aload_n 0, 1) := by decide +kernel
theorem dX3_entries_41 : decode cX3_entries 41 = .ok (.getfield 9, 3) := by decide +kernel
theorem dX3_entries_44 : decode cX3_entries 44 = .ok (.ifCond .ne 64, 3) := by decide +kernel
theorem dX3_entries_47 : decode cX3_entries 47 = .ok (.aload_n 0, 1) := by decide +kernel
theorem dX3_entries_48 : decode cX3_entries 48 = .ok (.getfield 21, 3) := by decide +kernel
theorem dX3_entries_51 : decode cX3_entries 51 = .ok (.getfield 88, 3) := by decide +kernel
theorem dX3_entries_54 : decode cX3_entries 54 = .ok (.iload_n 3, 1) := by decide +kernel
theorem dX3_entries_55 : decode cX3_entries 55 = .ok (.aload_n 0, 1) := by decide +kernel
theorem dX3_entries_56 : decode cX3_entries 56 = .ok (.getfield 18, 3) := by decide +kernel
theorem dX3_entries_59 : decode cX3_entries 59 = .ok (.invokevirtual 97, 3) := by decide +kernel
theorem dX3_entries_62 : decode cX3_entries 62 = .ok (.aload_n 0, 1) := by decide +kernel
theorem dX3_entries_63 : decode cX3_entries 63 = .ok (.getfield 31, 3) := by decide +kernel
theorem dX3_entries_66 : decode cX3_entries 66 = .ok (.aload_n 0, 1) := by decide +kernel
theorem dX3_entries_67 : decode cX3_entries 67 = .ok (.getfield 18, 3) := by decide +kernel
theorem dX3_entries_70 : decode cX3_entries 70 = .ok (.invokevirtual 84, 3) := by decide +kernel
theorem dX3_entries_73 : decode cX3_entries 73 = .ok (.istore 4, 2) := by decide +kernel
theorem dX3_entries_75 : decode cX3_entries 75 = .ok (.aload_n 0, 1) := by decide +kernel
theorem dX3_entries_76 : decode cX3_entries 76 = .ok (.iload_n 3, 1) := by decide +kernel
theorem dX3_entries_77 : decode cX3_entries 77 = .ok (.iload_n 2, 1) := by decide +kernel
theorem dX3_entries_78 : decode cX3_entries 78 = .ok (.iconst 1, 1) := by decide +kernel
theorem dX3_entries_79 : decode cX3_entries 79 = .ok (.isub, 1) := by decide +kernel
theorem dX3_entries_80 : decode cX3_entries 80 = .ok (.if_icmp .ne 7, 3) := by decide +kernel
theorem dX3_entries_83 : decode cX3_entries 83 = .ok (.iconst 1, 1) := by decide +kernel
theorem dX3_entries_84 : decode cX3_entries 84 = .ok (.goto 4, 3) := by decide +kernel
theorem dX3_entries_87 : decode cX3_entries 87 = .ok (.iconst 0, 1) := by decide +kernel
theorem dX3_entries_88 : decode cX3_entries 88 = .ok (.invokevirtual 100, 3) := by decide +kernel
theorem dX3_entries_91 : decode cX3_entries 91 = .ok (.iload 4, 2) := by decide +kernel
theorem dX3_entries_93 : decode cX3_entries 93 = .ok (.invokestatic 104, 3) := by decide +kernel
theorem dX3_entries_96 : decode cX3_entries 96 = .ok (.ifCond .eq 6, 3) := by decide +kernel
theorem dX3_entries_99 : decode cX3_entries 99 = .ok (.iinc 3 1, 3) := by decide +kernel
theorem dX3_entries_102 : decode cX3_entries 102 = .ok (.iinc 3 1, 3) := by decide +kernel
theorem dX3_entries_105 : decode cX3_entries 105 = .ok (.goto (-70), 3) := by decide +kernel
theorem dX3_entries_108 : decode cX3_entries 108 = .ok (.return_, 1) := by decide +kernel
set_option maxRecDepth 20000 in
theorem s_RD_entries (E : XE) : Cs E (yX3_entries, cX3_entries, 5, none) (k_RD_entries) := (Cs_nd (Cs_nd (Cs_nd (Cs_nd (Cs_nd (Cs_lf (sg_aload_n dX3_entries_0 rfl)) (Cs_nd (Cs_lf (sg_getf dX3_entries_1 rfl inX3 (by decide) w_247)) (Cs_lf (sg_istore_n dX3_entries_4 rfl (by decide))))) (Cs_nd (Cs_nd (Cs_lf (sg_aload_n dX3_entries_5 rfl)) (Cs_lf (sg_bipush dX3_entries_6 (by decide)))) (Cs_nd (Cs_lf (sg_invV (mid := 51) (ci := 3) (by decide +kernel) dX3_entries_8 ok_51 rfl w_286 w_288 ws_4)) (Cs_lf (sg_istore_n dX3_entries_11 rfl (by decide)))))) (Cs_nd (Cs_nd (Cs_lf (sg_iload_n dX3_entries_12 rfl)) (Cs_nd (Cs_lf (sg_ifne dX3_entries_13 (by decide))) (Cs_lf (sg_aload_n dX3_entries_16 rfl)))) (Cs_nd (Cs_nd (Cs_lf (sg_iconst dX3_entries_17 (by decide))) (Cs_lf (sg_iload_n dX3_entries_18 rfl))) (Cs_nd (Cs_lf (sg_invV (mid := 46) (ci := 3) (by decide +kernel) dX3_entries_19 ok_46 rfl w_273 w_275 ws_2)) (Cs_lf (sg_aload_n dX3_entries_22 rfl)))))) (Cs_nd (Cs_nd (Cs_nd (Cs_lf (sg_getf dX3_entries_23 rfl inX3 (by decide) w_245)) (Cs_nd (Cs_lf (sg_getf dX3_entries_26 rfl inX0 (by decide) w_125)) (Cs_lf (sg_iload_n dX3_entries_29 rfl)))) (Cs_nd (Cs_nd (Cs_lf (sg_invV (mid := 18) (ci := 1) (by decide +kernel) dX3_entries_30 ok_18 rfl w_294 w_227 w_228)) (Cs_lf (sg_iconst dX3_entries_33 (by decide)))) (Cs_nd (Cs_lf (sg_istore_n dX3_entries_34 rfl (by decide))) (Cs_lf (sg_iload_n dX3_entries_35 rfl))))) (Cs_nd (Cs_nd (Cs_lf (sg_iload_n dX3_entries_36 rfl)) (Cs_nd (Cs_lf (sg_cge dX3_entries_37 (by decide))) (Cs_lf (sg_aload_n dX3_entries_40 rfl)))) (Cs_nd (Cs_nd (Cs_lf (sg_getf dX3_entries_41 rfl inX3 (by decide) w_241)) (Cs_lf (sg_ifne dX3_entries_44 (by decide)))) (Cs_nd (Cs_lf (sg_aload_n dX3_entries_47 rfl)) (Cs_lf (sg_getf dX3_entries_48 rfl inX3 (by decide) w_245))))))) (Cs_nd (Cs_nd (Cs_nd (Cs_nd (Cs_lf (sg_getf dX3_entries_51 rfl inX0 (by decide) w_125)) (Cs_nd (Cs_lf (sg_iload_n dX3_entries_54 rfl)) (Cs_lf (sg_aload_n dX3_entries_55 rfl)))) (Cs_nd (Cs_nd (Cs_lf (sg_getf dX3_entries_56 rfl inX3 (by decide) w_247)) (Cs_lf (sg_invV (mid := 19) (ci := 1) (by decide +kernel) dX3_entries_59 ok_19 rfl w_295 w_296 w_297))) (Cs_nd (Cs_lf (sg_aload_n dX3_entries_62 rfl)) (Cs_lf (sg_getf dX3_entries_63 rfl inX3 (by decide) w_246))))) (Cs_nd (Cs_nd (Cs_lf (sg_aload_n dX3_entries_66 rfl)) (Cs_nd (Cs_lf (sg_getf dX3_entries_67 rfl inX3 (by decide) w_247)) (Cs_lf (sg_invV (mid := 63) (ci := 4) (by decide +kernel) dX3_entries_70 ok_63 rfl w_277 w_278 w_279)))) (Cs_nd (Cs_nd (Cs_lf (sg_istore dX3_entries_73 (by decide))) (Cs_lf (sg_aload_n dX3_entries_75 rfl))) (Cs_nd (Cs_lf (sg_iload_n dX3_entries_76 rfl)) (Cs_lf (sg_iload_n dX3_entries_77 rfl)))))) (Cs_nd (Cs_nd (Cs_nd (Cs_lf (sg_iconst dX3_entries_78 (by decide))) (Cs_nd (Cs_lf (sg_isub dX3_entries_79)) (Cs_lf (sg_cne dX3_entries_80 (by decide))))) (Cs_nd (Cs_nd (Cs_lf (sg_iconst dX3_entries_83 (by decide))) (Cs_lf (sg_goto dX3_entries_84 (by decide)))) (Cs_nd (Cs_lf (sg_iconst dX3_entries_87 (by decide))) (Cs_lf (sg_invV (mid := 54) (ci := 3) (by decide +kernel) dX3_entries_88 ok_54 rfl w_303 w_305 ws_5))))) (Cs_nd (Cs_nd (Cs_lf (sg_iload dX3_entries_91)) (Cs_nd (Cs_lf (sg_invN (mid := 110) (by decide +kernel) dX3_entries_93 ok_110 (host := RX7) (by decide +kernel) w_311)) (Cs_lf (sg_ifeq dX3_entries_96 (by decide))))) (Cs_nd (Cs_nd (Cs_lf (sg_iinc dX3_entries_99 (by decide) (by decide))) (Cs_lf (sg_iinc dX3_entries_102 (by decide) (by decide)))) (Cs_nd (Cs_lf (sg_goto dX3_entries_105 (by decide))) (Cs_lf (sg_vret dX3_entries_108 rfl))))))))
theorem dX3_anEntry_0 : decode cX3_anEntry 0 = .ok (.aload_n 0, 1) := by decide +kernel
theorem dX3_anEntry_1 : decode cX3_anEntry 1 = .ok (.getfield 18, 3) := by decide +kernel
theorem dX3_anEntry_4 : decode cX3_anEntry 4 = .ok (.istore_n 2, 1) := by decide +kernel
theorem dX3_anEntry_5 : decode cX3_anEntry 5 = .ok (.aload_n 0, 1) := by decide +kernel
theorem dX3_anEntry_6 : decode cX3_anEntry 6 = .ok (.iconst 1, 1) := by decide +kernel
theorem dX3_anEntry_7 : decode cX3_anEntry 7 = .ok (.invokevirtual 35, 3) := by decide +kernel
theorem dX3_anEntry_10 : decode cX3_anEntry 10 = .ok (.aload_n 0, 1) := by decide +kernel
theorem dX3_anEntry_11 : decode cX3_anEntry 11 = .ok (.getfield 31, 3) := by decide +kernel
theorem dX3_anEntry_14 : decode cX3_anEntry 14 = .ok (.iload_n 2, 1) := by decide +kernel
theorem dX3_anEntry_15 : decode cX3_anEntry 15 = .ok (.invokevirtual 84, 3) := by decide +kernel
theorem dX3_anEntry_18 : decode cX3_anEntry 18 = .ok (.istore_n 3, 1) := by decide +kernel
theorem dX3_anEntry_19 : decode cX3_anEntry 19 = .ok (.iload_n 3, 1) := by decide +kernel
theorem dX3_anEntry_20 : decode cX3_anEntry 20 = .ok (.invokestatic 108, 3) := by decide +kernel
theorem dX3_anEntry_23 : decode cX3_anEntry 23 = .ok (.ifCond .eq 14, 3) := by decide +kernel
theorem dX3_anEntry_26 : decode cX3_anEntry 26 = .ok (.iload_n 1, 1) := by decide +kernel
theorem dX3_anEntry_27 : decode cX3_anEntry 27 = .ok (.ifCond .eq 19, 3) := by decide +kernel
theorem dX3_anEntry_30 : decode cX3_anEntry 30 = .ok (.iload_n 3, 1) := by decide +kernel
theorem dX3_anEntry_31 : decode cX3_anEntry 31 = .ok (.invokestatic 104, 3) := by decide +kernel
theorem dX3_anEntry_34 : decode cX3_anEntry 34 = .ok (.ifCond .eq 12, 3) := by decide +kernel
theorem dX3_anEntry_37 : decode cX3_anEntry 37 = .ok (.aload_n 0, 1) := by decide +kernel
theorem dX3_anEntry_38 : decode cX3_anEntry 38 = .ok (.iconst 4, 1) := by decide +kernel
theorem dX3_anEntry_39 : decode cX3_anEntry 39 = .ok (.iload_n 2, 1) := by decide +kernel
theorem dX3_anEntry_40 : decode cX3_anEntry 40 = .ok (.invokevirtual 70, 3) := by decide +kernel
theorem dX3_anEntry_43 : decode cX3_anEntry 43 = .ok (.goto 98, 3) := by decide +kernel
theorem dX3_anEntry_46 : decode cX3_anEntry 46 = .ok (.iload_n 3, 1) := by decide +kernel
theorem dX3_anEntry_47 : decode cX3_anEntry 47 = .ok (.iconst 1, 1) := by decide +kernel
theorem dX3_anEntry_48 : decode cX3_anEntry 48 = .ok (.if_icmp .ne 14, 3) := by decide +kernel
theorem dX3_anEntry_51 : decode cX3_anEntry 51 = .ok (.aload_n 0, 1) := by decide +kernel
theorem dX3_anEntry_52 : decode cX3_anEntry 52 = .ok (.aload_n 0, 1) := by decide +kernel
theorem dX3_anEntry_53 : decode cX3_anEntry 53 = .ok (.invokevirtual 111, 3) := by decide +kernel
theorem dX3_anEntry_56 : decode cX3_anEntry 56 = .ok (.invokevirtual 35, 3) := by decide +kernel
theorem dX3_anEntry_59 : decode cX3_anEntry 59 = .ok (.goto 82, 3) := by decide +kernel
theorem dX3_anEntry_62 : decode cX3_anEntry 62 = .ok (.iload_n 3, 1) := by decide +kernel
theorem dX3_anEntry_63 : decode cX3_anEntry 63 = .ok (.invokestatic 113, 3) := by decide +kernel
theorem dX3_anEntry_66 : decode cX3_anEntry 66 = .ok (.ifCond .eq 23, 3) := by decide +kernel
theorem dX3_anEntry_69 : decode cX3_anEntry 69 = .ok (.aload_n 0, 1) := by decide +kernel
theorem dX3_anEntry_70 : decode cX3_anEntry 70 = .ok (.iload_n 3, 1) := by decide +kernel
theorem dX3_anEntry_71 : decode cX3_anEntry 71 = .ok (.invokestatic 104, 3) := by decide +kernel
theorem dX3_anEntry_74 : decode cX3_anEntry 74 = .ok (.ifCond .eq 8, 3) := by decide +kernel
theorem dX3_anEntry_77 : decode cX3_anEntry 77 = .ok (.bipush 8, 2) := by decide +kernel
theorem dX3_anEntry_79 : decode cX3_anEntry 79 = .ok (.goto 4, 3) := by decide +kernel
theorem dX3_anEntry_82 : decode cX3_anEntry 82 = .ok (.iconst 4, 1) := by decide +kernel
theorem dX3_anEntry_83 : decode cX3_anEntry 83 = .ok (.invokevirtual 35, 3) := by decide +kernel
theorem dX3_anEntry_86 : decode cX3_anEntry 86 = .ok (.goto 55, 3) := by decide +kernel
theorem dX3_anEntry_89 : decode cX3_anEntry 89 = .ok (.iload_n 3, 1) := by decide +kernel
theorem dX3_anEntry_90 : decode cX3_anEntry 90 = .ok (.bipush 7, 2) := by decide +kernel
theorem dX3_anEntry_92 : decode cX3_anEntry 92 = .ok (.if_icmp .eq 9, 3) := by decide +kernel
theorem dX3_anEntry_95 : decode cX3_anEntry 95 = .ok (.iload_n 3, 1) := by decide +kernel
theorem dX3_anEntry_96 : decode cX3_anEntry 96 = .ok (.bipush 8, 2) := by decide +kernel
theorem dX3_anEntry_98 : decode cX3_anEntry 98 = .ok (.if_icmp .ne 11, 3) := by decide +kernel
theorem dX3_anEntry_101 : decode cX3_anEntry 101 = .ok (.aload_n 0, 1) := by decide +kernel
theorem dX3_anEntry_102 : decode cX3_anEntry 102 = .ok (.iconst 1, 1) := by decide +kernel
theorem dX3_anEntry_103 : decode cX3_anEntry 103 = .ok (.invokevirtual 45, 3) := by decide +kernel
theorem dX3_anEntry_106 : decode cX3_anEntry 106 = .ok (.goto 35, 3) := by decide +kernel
theorem dX3_anEntry_109 : decode cX3_anEntry 109 = .ok (.aload_n 0, 1) := by decide +kernel
theorem dX3_anEntry_110 : decode cX3_anEntry 110 = .ok (.iload_n 3, 1) := by decide +kernel
theorem dX3_anEntry_111 : decode cX3_anEntry 111 = .ok (.bipush 12, 2) := by decide +kernel
theorem dX3_anEntry_113 : decode cX3_anEntry 113 = .ok (.if_icmp .ne 7, 3) := by decide +kernel
theorem dX3_anEntry_116 : decode cX3_anEntry 116 = .ok (.iconst 1, 1) := by decide +kernel
theorem dX3_anEntry_117 : decode cX3_anEntry 117 = .ok (.goto 5, 3) := by decide +kernel
theorem dX3_anEntry_120 : decode cX3_anEntry 120 = .ok (.bipush 7, 2) := by decide +kernel
theorem dX3_anEntry_122 : decode cX3_anEntry 122 = .ok (.invokevirtual 45, 3) := by decide +kernel
theorem dX3_anEntry_125 : decode cX3_anEntry 125 = .ok (.aload_n 0, 1) := by decide +kernel
theorem dX3_anEntry_126 : decode cX3_anEntry 126 = .ok (.iload_n 3, 1) := by decide +kernel
theorem dX3_anEntry_127 : decode cX3_anEntry 127 = .ok (.bipush 12, 2) := by decide +kernel
theorem dX3_anEntry_129 : decode cX3_anEntry 129 = .ok (.if_icmp .ne 7, 3) := by decide +kernel
theorem dX3_anEntry_132 : decode cX3_anEntry 132 = .ok (.iconst 1, 1) := by decide +kernel
theorem dX3_anEntry_133 : decode cX3_anEntry 133 = .ok (.goto 5, 3) := by decide +kernel
theorem dX3_anEntry_136 : decode cX3_anEntry 136 = .ok (.bipush 12, 2) := by decide +kernel
theorem dX3_anEntry_138 : decode cX3_anEntry 138 = .ok (.invokevirtual 45, 3) := by decide +kernel
theorem dX3_anEntry_141 : decode cX3_anEntry 141 = .ok (.return_, 1) := by decide +kernel
set_option maxRecDepth 20000 in
theorem s_RD_anEntry (E : XE) : Cs E (yX3_anEntry, cX3_anEntry, 4, none) (k_RD_anEntry) := (Cs_nd (Cs_nd (Cs_nd (Cs_nd (Cs_nd (Cs_nd (Cs_lf (sg_aload_n dX3_anEntry_0 rfl)) (Cs_lf (sg_getf dX3_anEntry_1 rfl inX3 (by decide) w_247))) (Cs_nd (Cs_lf (sg_istore_n dX3_anEntry_4 rfl (by decide))) (Cs_lf (sg_aload_n dX3_anEntry_5 rfl)))) (Cs_nd (Cs_nd (Cs_lf (sg_iconst dX3_anEntry_6 (by decide))) (Cs_lf (sg_invV (mid := 48) (ci := 3) (by decide +kernel) dX3_anEntry_7 ok_48 rfl w_267 w_269 ws_1))) (Cs_nd (Cs_lf (sg_aload_n dX3_anEntry_10 rfl)) (Cs_lf (sg_getf dX3_anEntry_11 rfl inX3 (by decide) w_246))))) (Cs_nd (Cs_nd (Cs_nd (Cs_lf (sg_iload_n dX3_anEntry_14 rfl)) (Cs_lf (sg_invV (mid := 63) (ci := 4) (by decide +kernel) dX3_anEntry_15 ok_63 rfl w_277 w_278 w_279))) (Cs_nd (Cs_lf (sg_istore_n dX3_anEntry_18 rfl (by decide))) (Cs_lf (sg_iload_n dX3_anEntry_19 rfl)))) (Cs_nd (Cs_nd (Cs_lf (sg_invN (mid := 111) (by decide +kernel) dX3_anEntry_20 ok_111 (host := RX7) (by decide +kernel) w_308)) (Cs_lf (sg_ifeq dX3_anEntry_23 (by decide)))) (Cs_nd (Cs_lf (sg_iload_n dX3_anEntry_26 rfl)) (Cs_nd (Cs_lf (sg_ifeq dX3_anEntry_27 (by decide))) (Cs_lf (sg_iload_n dX3_anEntry_30 rfl))))))) (Cs_nd (Cs_nd (Cs_nd (Cs_nd (Cs_lf (sg_invN (mid := 110) (by decide +kernel) dX3_anEntry_31 ok_110 (host := RX7) (by decide +kernel) w_311)) (Cs_lf (sg_ifeq dX3_anEntry_34 (by decide)))) (Cs_nd (Cs_lf (sg_aload_n dX3_anEntry_37 rfl)) (Cs_lf (sg_iconst dX3_anEntry_38 (by decide))))) (Cs_nd (Cs_nd (Cs_lf (sg_iload_n dX3_anEntry_39 rfl)) (Cs_lf (sg_invV (mid := 46) (ci := 3) (by decide +kernel) dX3_anEntry_40 ok_46 rfl w_273 w_275 ws_2))) (Cs_nd (Cs_lf (sg_goto dX3_anEntry_43 (by decide))) (Cs_nd (Cs_lf (sg_iload_n dX3_anEntry_46 rfl)) (Cs_lf (sg_iconst dX3_anEntry_47 (by decide))))))) (Cs_nd (Cs_nd (Cs_nd (Cs_lf (sg_cne dX3_anEntry_48 (by decide))) (Cs_lf (sg_aload_n dX3_anEntry_51 rfl))) (Cs_nd (Cs_lf (sg_aload_n dX3_anEntry_52 rfl)) (Cs_lf (sg_invV (mid := 50) (ci := 3) (by decide +kernel) dX3_anEntry_53 ok_50 rfl w_313 w_315 ws_6)))) (Cs_nd (Cs_nd (Cs_lf (sg_invV (mid := 48) (ci := 3) (by decide +kernel) dX3_anEntry_56 ok_48 rfl w_267 w_269 ws_1)) (Cs_lf (sg_goto dX3_anEntry_59 (by decide)))) (Cs_nd (Cs_lf (sg_iload_n dX3_anEntry_62 rfl)) (Cs_nd (Cs_lf (sg_invN (mid := 109) (by decide +kernel) dX3_anEntry_63 ok_109 (host := RX7) (by decide +kernel) w_318)) (Cs_lf (sg_ifeq dX3_anEntry_66 (by decide))))))))) (Cs_nd (Cs_nd (Cs_nd (Cs_nd (Cs_nd (Cs_lf (sg_aload_n dX3_anEntry_69 rfl)) (Cs_lf (sg_iload_n dX3_anEntry_70 rfl))) (Cs_nd (Cs_lf (sg_invN (mid := 110) (by decide +kernel) dX3_anEntry_71 ok_110 (host := RX7) (by decide +kernel) w_311)) (Cs_lf (sg_ifeq dX3_anEntry_74 (by decide))))) (Cs_nd (Cs_nd (Cs_lf (sg_bipush dX3_anEntry_77 (by decide))) (Cs_lf (sg_goto dX3_anEntry_79 (by decide)))) (Cs_nd (Cs_lf (sg_iconst dX3_anEntry_82 (by decide))) (Cs_nd (Cs_lf (sg_invV (mid := 48) (ci := 3) (by decide +kernel) dX3_anEntry_83 ok_48 rfl w_267 w_269 ws_1)) (Cs_lf (sg_goto dX3_anEntry_86 (by decide))))))) (Cs_nd (Cs_nd (Cs_nd (Cs_lf (sg_iload_n dX3_anEntry_89 rfl)) (Cs_lf (sg_bipush dX3_anEntry_90 (by decide)))) (Cs_nd (Cs_lf (sg_ceq dX3_anEntry_92 (by decide))) (Cs_lf (sg_iload_n dX3_anEntry_95 rfl)))) (Cs_nd (Cs_nd (Cs_lf (sg_bipush dX3_anEntry_96 (by decide))) (Cs_lf (sg_cne dX3_anEntry_98 (by decide)))) (Cs_nd (Cs_lf (sg_aload_n dX3_anEntry_101 rfl)) (Cs_nd (Cs_lf (sg_iconst dX3_anEntry_102 (by decide))) (Cs_lf (sg_invV (mid := 49) (ci := 3) (by decide +kernel) dX3_anEntry_103 ok_49 rfl w_320 w_322 ws_7))))))) (Cs_nd (Cs_nd (Cs_nd (Cs_nd (Cs_lf (sg_goto dX3_anEntry_106 (by decide))) (Cs_lf (sg_aload_n dX3_anEntry_109 rfl))) (Cs_nd (Cs_lf (sg_iload_n dX3_anEntry_110 rfl)) (Cs_lf (sg_bipush dX3_anEntry_111 (by decide))))) (Cs_nd (Cs_nd (Cs_lf (sg_cne dX3_anEntry_113 (by decide))) (Cs_lf (sg_iconst dX3_anEntry_116 (by decide)))) (Cs_nd (Cs_lf (sg_goto dX3_anEntry_117 (by decide))) (Cs_nd (Cs_lf (sg_bipush dX3_anEntry_120 (by decide))) (Cs_lf (sg_invV (mid := 49) (ci := 3) (by decide +kernel) dX3_anEntry_122 ok_49 rfl w_320 w_322 ws_7)))))) (Cs_nd (Cs_nd (Cs_nd (Cs_lf (sg_aload_n dX3_anEntry_125 rfl)) (Cs_lf (sg_iload_n dX3_anEntry_126 rfl))) (Cs_nd (Cs_lf (sg_bipush dX3_anEntry_127 (by decide))) (Cs_lf (sg_cne dX3_anEntry_129 (by decide))))) (Cs_nd (Cs_nd (Cs_lf (sg_iconst dX3_anEntry_132 (by decide))) (Cs_lf (sg_goto dX3_anEntry_133 (by decide)))) (Cs_nd (Cs_lf (sg_bipush dX3_anEntry_136 (by decide))) (Cs_nd (Cs_lf (sg_invV (mid := 49) (ci := 3) (by decide +kernel) dX3_anEntry_138 ok_49 rfl w_320 w_322 ws_7)) (Cs_lf (sg_vret dX3_anEntry_141 rfl)))))))))
theorem dX3_classAbove_0 : decode cX3_classAbove 0 = .ok (.aload_n 0, 1) := by decide +kernel
theorem dX3_classAbove_1 : decode cX3_classAbove 1 = .ok (.getfield 31, 3) := by decide +kernel
theorem dX3_classAbove_4 : decode cX3_classAbove 4 = .ok (.aload_n 0, 1) := by decide +kernel
theorem dX3_classAbove_5 : decode cX3_classAbove 5 = .ok (.getfield 18, 3) := by decide +kernel
theorem dX3_classAbove_8 : decode cX3_classAbove 8 = .ok (.invokevirtual 81, 3) := by decide +kernel
theorem dX3_classAbove_11 : decode cX3_classAbove 11 = .ok (.ifCond .ne 11, 3) := by decide +kernel
theorem dX3_classAbove_14 : decode cX3_classAbove 14 = .ok (.aload_n 0, 1) := by decide +kernel
theorem dX3_classAbove_15 : decode cX3_classAbove 15 = .ok (.iconst 2, 1) := by decide +kernel
theorem dX3_classAbove_16 : decode cX3_classAbove 16 = .ok (.invokevirtual 35, 3) := by decide +kernel
theorem dX3_classAbove_19 : decode cX3_classAbove 19 = .ok (.goto 9, 3) := by decide +kernel
theorem dX3_classAbove_22 : decode cX3_classAbove 22 = .ok (.aload_n 0, 1) := by decide +kernel
theorem dX3_classAbove_23 : decode cX3_classAbove 23 = .ok (.bipush 7, 2) := by decide +kernel
theorem dX3_classAbove_25 : decode cX3_classAbove 25 = .ok (.invokevirtual 45, 3) := by decide +kernel
theorem dX3_classAbove_28 : decode cX3_classAbove 28 = .ok (.return_, 1) := by decide +kernel
set_option maxRecDepth 20000 in
theorem s_RD_classAbove (E : XE) : Cs E (yX3_classAbove, cX3_classAbove, 1, none) (k_RD_classAbove) := (Cs_nd (Cs_nd (Cs_nd (Cs_lf (sg_aload_n dX3_classAbove_0 rfl)) (Cs_nd (Cs_lf (sg_getf dX3_classAbove_1 rfl inX3 (by decide) w_246)) (Cs_lf (sg_aload_n dX3_classAbove_4 rfl)))) (Cs_nd (Cs_nd (Cs_lf (sg_getf dX3_classAbove_5 rfl inX3 (by decide) w_247)) (Cs_lf (sg_invV (mid := 64) (ci := 4) (by decide +kernel) dX3_classAbove_8 ok_64 rfl w_290 w_291 w_292))) (Cs_nd (Cs_lf (sg_ifne dX3_classAbove_11 (by decide))) (Cs_lf (sg_aload_n dX3_classAbove_14 rfl))))) (Cs_nd (Cs_nd (Cs_lf (sg_iconst dX3_classAbove_15 (by decide))) (Cs_nd (Cs_lf (sg_invV (mid := 48) (ci := 3) (by decide +kernel) dX3_classAbove_16 ok_48 rfl w_267 w_269 ws_1)) (Cs_lf (sg_goto dX3_classAbove_19 (by decide))))) (Cs_nd (Cs_nd (Cs_lf (sg_aload_n dX3_classAbove_22 rfl)) (Cs_lf (sg_bipush dX3_classAbove_23 (by decide)))) (Cs_nd (Cs_lf (sg_invV (mid := 49) (ci := 3) (by decide +kernel) dX3_classAbove_25 ok_49 rfl w_320 w_322 ws_7)) (Cs_lf (sg_vret dX3_classAbove_28 rfl))))))
theorem dX3_members_0 : decode cX3_members 0 = .ok (.aload_n 0, 1) := by decide +kernel
theorem dX3_members_1 : decode cX3_members 1 = .ok (.bipush 12, 2) := by decide +kernel
theorem dX3_members_3 : decode cX3_members 3 = .ok (.invokevirtual 51, 3) := by decide +kernel
theorem dX3_members_6 : decode cX3_members 6 = .ok (.istore_n 2, 1) := by decide +kernel
theorem dX3_members_7 : decode cX3_members 7 = .ok (.iconst 0, 1) := by decide +kernel
theorem dX3_members_8 : decode cX3_members 8 = .ok (.istore_n 3, 1) := by decide +kernel
theorem dX3_members_9 : decode cX3_members 9 = .ok (.iload_n 3, 1) := by decide +kernel
theorem dX3_members_10 : decode cX3_members 10 = .ok (.iload_n 2, 1) := by decide +kernel
theorem dX3_members_11 : decode cX3_members 11 = .ok (.if_icmp .ge 47, 3) := by decide +kernel
theorem dX3_members_14 : decode cX3_members 14 = .ok (.aload_n 0, 1) := by decide +kernel
theorem dX3_members_15 : decode cX3_members 15 = .ok (.getfield 9, 3) := by decide +kernel
theorem dX3_members_18 : decode cX3_members 18 = .ok (.ifCond .ne 40, 3) := by decide +kernel
theorem dX3_members_21 : decode cX3_members 21 = .ok (.aload_n 0, 1) := by decide +kernel
theorem dX3_members_22 : decode cX3_members 22 = .ok (.getfield 21, 3) := by decide +kernel
theorem dX3_members_25 : decode cX3_members 25 = .ok (.iload_n 1, 1) := by decide +kernel
theorem dX3_members_26 : decode cX3_members 26 = .ok (.aload_n 0, 1) := by decide +kernel
theorem dX3_members_27 : decode cX3_members 27 = .ok (.getfield 18, 3) := by decide +kernel
theorem dX3_members_30 : decode cX3_members 30 = .ok (.invokevirtual 116, 3) := by decide +kernel
theorem dX3_members_33 : decode cX3_members 33 = .ok (.aload_n 0, 1) := by decide +kernel
theorem dX3_members_34 : decode cX3_members 34 = .ok (.iconst 2, 1) := by decide +kernel
theorem dX3_members_35 : decode cX3_members 35 = .ok (.invokevirtual 35, 3) := by decide +kernel
theorem dX3_members_38 : decode cX3_members 38 = .ok (.aload_n 0, 1) := by decide +kernel
theorem dX3_members_39 : decode cX3_members 39 = .ok (.iconst 1, 1) := by decide +kernel
theorem dX3_members_40 : decode cX3_members 40 = .ok (.invokevirtual 45, 3) := by decide +kernel
theorem dX3_members_43 : decode cX3_members 43 = .ok (.aload_n 0, 1) := by decide +kernel
theorem dX3_members_44 : decode cX3_members 44 = .ok (.iconst 1, 1) := by decide +kernel
theorem dX3_members_45 : decode cX3_members 45 = .ok (.invokevirtual 45, 3) := by decide +kernel
theorem dX3_members_48 : decode cX3_members 48 = .ok (.aload_n 0, 1) := by decide +kernel
theorem dX3_members_49 : decode cX3_members 49 = .ok (.invokevirtual 61, 3) := by decide +kernel
theorem dX3_members_52 : decode cX3_members 52 = .ok (.iinc 3 1, 3) := by decide +kernel
theorem dX3_members_55 : decode cX3_members 55 = .ok (.goto (-46), 3) := by decide +kernel
theorem dX3_members_58 : decode cX3_members 58 = .ok (.return_, 1) := by decide +kernel
set_option maxRecDepth 20000 in
theorem s_RD_members (E : XE) : Cs E (yX3_members, cX3_members, 4, none) (k_RD_members) := (Cs_nd (Cs_nd (Cs_nd (Cs_nd (Cs_nd (Cs_lf (sg_aload_n dX3_members_0 rfl)) (Cs_lf (sg_bipush dX3_members_1 (by decide)))) (Cs_nd (Cs_lf (sg_invV (mid := 51) (ci := 3) (by decide +kernel) dX3_members_3 ok_51 rfl w_286 w_288 ws_4)) (Cs_lf (sg_istore_n dX3_members_6 rfl (by decide))))) (Cs_nd (Cs_nd (Cs_lf (sg_iconst dX3_members_7 (by decide))) (Cs_lf (sg_istore_n dX3_members_8 rfl (by decide)))) (Cs_nd (Cs_lf (sg_iload_n dX3_members_9 rfl)) (Cs_lf (sg_iload_n dX3_members_10 rfl))))) (Cs_nd (Cs_nd (Cs_nd (Cs_lf (sg_cge dX3_members_11 (by decide))) (Cs_lf (sg_aload_n dX3_members_14 rfl))) (Cs_nd (Cs_lf (sg_getf dX3_members_15 rfl inX3 (by decide) w_241)) (Cs_lf (sg_ifne dX3_members_18 (by decide))))) (Cs_nd (Cs_nd (Cs_lf (sg_aload_n dX3_members_21 rfl)) (Cs_lf (sg_getf dX3_members_22 rfl inX3 (by decide) w_245))) (Cs_nd (Cs_lf (sg_iload_n dX3_members_25 rfl)) (Cs_lf (sg_aload_n dX3_members_26 rfl)))))) (Cs_nd (Cs_nd (Cs_nd (Cs_nd (Cs_lf (sg_getf dX3_members_27 rfl inX3 (by decide) w_247)) (Cs_lf (sg_invV (mid := 7) (ci := 0) (by decide +kernel) dX3_members_30 ok_7 rfl w_336 w_337 w_338))) (Cs_nd (Cs_lf (sg_aload_n dX3_members_33 rfl)) (Cs_lf (sg_iconst dX3_members_34 (by decide))))) (Cs_nd (Cs_nd (Cs_lf (sg_invV (mid := 48) (ci := 3) (by decide +kernel) dX3_members_35 ok_48 rfl w_267 w_269 ws_1)) (Cs_lf (sg_aload_n dX3_members_38 rfl))) (Cs_nd (Cs_lf (sg_iconst dX3_members_39 (by decide))) (Cs_lf (sg_invV (mid := 49) (ci := 3) (by decide +kernel) dX3_members_40 ok_49 rfl w_320 w_322 ws_7))))) (Cs_nd (Cs_nd (Cs_nd (Cs_lf (sg_aload_n dX3_members_43 rfl)) (Cs_lf (sg_iconst dX3_members_44 (by decide)))) (Cs_nd (Cs_lf (sg_invV (mid := 49) (ci := 3) (by decide +kernel) dX3_members_45 ok_49 rfl w_320 w_322 ws_7)) (Cs_lf (sg_aload_n dX3_members_48 rfl)))) (Cs_nd (Cs_nd (Cs_lf (sg_invV (mid := 57) (ci := 3) (by decide +kernel) dX3_members_49 ok_57 rfl w_344 w_346 ws_10)) (Cs_lf (sg_iinc dX3_members_52 (by decide) (by decide)))) (Cs_nd (Cs_lf (sg_goto dX3_members_55 (by decide))) (Cs_lf (sg_vret dX3_members_58 rfl)))))))
theorem dX3_attributes_0 : decode cX3_attributes 0 = .ok (.aload_n 0, 1) := by decide +kernel
theorem dX3_attributes_1 : decode cX3_attributes 1 = .ok (.bipush 6, 2) := by decide +kernel
theorem dX3_attributes_3 : decode cX3_attributes 3 = .ok (.invokevirtual 51, 3) := by decide +kernel
theorem dX3_attributes_6 : decode cX3_attributes 6 = .ok (.istore_n 1, 1) := by decide +kernel
theorem dX3_attributes_7 : decode cX3_attributes 7 = .ok (.iconst 0, 1) := by decide +kernel
theorem dX3_attributes_8 : decode cX3_attributes 8 = .ok (.istore_n 2, 1) := by decide +kernel
theorem dX3_attributes_9 : decode cX3_attributes 9 = .ok (.iload_n 2, 1) := by decide +kernel
theorem dX3_attributes_10 : decode cX3_attributes 10 = .ok (.iload_n 1, 1) := by decide +kernel
theorem dX3_attributes_11 : decode cX3_attributes 11 = .ok (.if_icmp .ge 69, 3) := by decide +kernel
theorem dX3_attributes_14 : decode cX3_attributes 14 = .ok (.aload_n 0, 1) := by decide +kernel
theorem dX3_attributes_15 : decode cX3_attributes 15 = .ok (.getfield 9, 3) := by decide +kernel
theorem dX3_attributes_18 : decode cX3_attributes 18 = .ok (.ifCond .ne 62, 3) := by decide +kernel
theorem dX3_attributes_21 : decode cX3_attributes 21 = .ok (.aload_n 0, 1) := by decide +kernel
theorem dX3_attributes_22 : decode cX3_attributes 22 = .ok (.iconst 1, 1) := by decide +kernel
theorem dX3_attributes_23 : decode cX3_attributes 23 = .ok (.invokevirtual 45, 3) := by decide +kernel
theorem dX3_attributes_26 : decode cX3_attributes 26 = .ok (.aload_n 0, 1) := by decide +kernel
theorem dX3_attributes_27 : decode cX3_attributes 27 = .ok (.getfield 18, 3) := by decide +kernel
theorem dX3_attributes_30 : decode cX3_attributes 30 = .ok (.istore_n 3, 1) := by decide +kernel
theorem dX3_attributes_31 : decode cX3_attributes 31 = .ok (.aload_n 0, 1) := by decide +kernel
theorem dX3_attributes_32 : decode cX3_attributes 32 = .ok (.iconst 4, 1) := by decide +kernel
theorem dX3_attributes_33 : decode cX3_attributes 33 = .ok (.invokevirtual 35, 3) := by decide +kernel
theorem dX3_attributes_36 : decode cX3_attributes 36 = .ok (.aload_n 0, 1) := by decide +kernel
theorem dX3_attributes_37 : decode cX3_attributes 37 = .ok (.getfield 9, 3) := by decide +kernel
theorem dX3_attributes_40 : decode cX3_attributes 40 = .ok (.ifCond .ne 14, 3) := by decide +kernel
theorem dX3_attributes_43 : decode cX3_attributes 43 = .ok (.aload_n 0, 1) := by decide +kernel
theorem dX3_attributes_44 : decode cX3_attributes 44 = .ok (.getfield 31, 3) := by decide +kernel
theorem dX3_attributes_47 : decode cX3_attributes 47 = .ok (.iload_n 3, 1) := by decide +kernel
theorem dX3_attributes_48 : decode cX3_attributes 48 = .ok (.invokevirtual 119, 3) := by decide +kernel
theorem dX3_attributes_51 : decode cX3_attributes 51 = .ok (.goto 4, 3) := by decide +kernel
theorem dX3_attributes_54 : decode cX3_attributes 54 = .ok (.iconst 0, 1) := by decide +kernel
theorem dX3_attributes_55 : decode cX3_attributes 55 = .ok (.istore 4, 2) := by decide +kernel
theorem dX3_attributes_57 : decode cX3_attributes 57 = .ok (.iload 4, 2) := by decide +kernel
theorem dX3_attributes_59 : decode cX3_attributes 59 = .ok (.ifCond .ge 9, 3) := by decide +kernel
theorem dX3_attributes_62 : decode cX3_attributes 62 = .ok (.aload_n 0, 1) := by decide +kernel
theorem dX3_attributes_63 : decode cX3_attributes 63 = .ok (.iconst 5, 1) := by decide +kernel
theorem dX3_attributes_64 : decode cX3_attributes 64 = .ok (.iload_n 3, 1) := by decide +kernel
theorem dX3_attributes_65 : decode cX3_attributes 65 = .ok (.invokevirtual 70, 3) := by decide +kernel
theorem dX3_attributes_68 : decode cX3_attributes 68 = .ok (.aload_n 0, 1) := by decide +kernel
theorem dX3_attributes_69 : decode cX3_attributes 69 = .ok (.iload 4, 2) := by decide +kernel
theorem dX3_attributes_71 : decode cX3_attributes 71 = .ok (.invokevirtual 35, 3) := by decide +kernel
theorem dX3_attributes_74 : decode cX3_attributes 74 = .ok (.iinc 2 1, 3) := by decide +kernel
theorem dX3_attributes_77 : decode cX3_attributes 77 = .ok (.goto (-68), 3) := by decide +kernel
theorem dX3_attributes_80 : decode cX3_attributes 80 = .ok (.return_, 1) := by decide +kernel
set_option maxRecDepth 20000 in
theorem s_RD_attributes (E : XE) : Cs E (yX3_attributes, cX3_attributes, 5, none) (k_RD_attributes) := (Cs_nd (Cs_nd (Cs_nd (Cs_nd (Cs_nd (Cs_lf (sg_aload_n dX3_attributes_0 rfl)) (Cs_lf (sg_bipush dX3_attributes_1 (by decide)))) (Cs_nd (Cs_lf (sg_invV (mid := 51) (ci := 3) (by decide +kernel) dX3_attributes_3 ok_51 rfl w_286 w_288 ws_4)) (Cs_nd (Cs_lf (sg_istore_n dX3_attributes_6 rfl (by decide))) (Cs_lf (sg_iconst dX3_attributes_7 (by decide)))))) (Cs_nd (Cs_nd (Cs_lf (sg_istore_n dX3_attributes_8 rfl (by decide))) (Cs_lf (sg_iload_n dX3_attributes_9 rfl))) (Cs_nd (Cs_lf (sg_iload_n dX3_attributes_10 rfl)) (Cs_nd (Cs_lf (sg_cge dX3_attributes_11 (by decide))) (Cs_lf (sg_aload_n dX3_attributes_14 rfl)))))) (Cs_nd (Cs_nd (Cs_nd (Cs_lf (sg_getf dX3_attributes_15 rfl inX3 (by decide) w_241)) (Cs_lf (sg_ifne dX3_attributes_18 (by decide)))) (Cs_nd (Cs_lf (sg_aload_n dX3_attributes_21 rfl)) (Cs_nd (Cs_lf (sg_iconst dX3_attributes_22 (by decide))) (Cs_lf (sg_invV (mid := 49) (ci := 3) (by decide +kernel) dX3_attributes_23 ok_49 rfl w_320 w_322 ws_7))))) (Cs_nd (Cs_nd (Cs_lf (sg_aload_n dX3_attributes_26 rfl)) (Cs_nd (Cs_lf (sg_getf dX3_attributes_27 rfl inX3 (by decide) w_247)) (Cs_lf (sg_istore_n dX3_attributes_30 rfl (by decide))))) (Cs_nd (Cs_lf (sg_aload_n dX3_attributes_31 rfl)) (Cs_nd (Cs_lf (sg_iconst dX3_attributes_32 (by decide))) (Cs_lf (sg_invV (mid := 48) (ci := 3) (by decide +kernel) dX3_attributes_33 ok_48 rfl w_267 w_269 ws_1))))))) (Cs_nd (Cs_nd (Cs_nd (Cs_nd (Cs_lf (sg_aload_n dX3_attributes_36 rfl)) (Cs_lf (sg_getf dX3_attributes_37 rfl inX3 (by decide) w_241))) (Cs_nd (Cs_lf (sg_ifne dX3_attributes_40 (by decide))) (Cs_nd (Cs_lf (sg_aload_n dX3_attributes_43 rfl)) (Cs_lf (sg_getf dX3_attributes_44 rfl inX3 (by decide) w_246))))) (Cs_nd (Cs_nd (Cs_lf (sg_iload_n dX3_attributes_47 rfl)) (Cs_nd (Cs_lf (sg_invV (mid := 65) (ci := 4) (by decide +kernel) dX3_attributes_48 ok_65 rfl w_348 w_349 w_350)) (Cs_lf (sg_goto dX3_attributes_51 (by decide))))) (Cs_nd (Cs_lf (sg_iconst dX3_attributes_54 (by decide))) (Cs_nd (Cs_lf (sg_istore dX3_attributes_55 (by decide))) (Cs_lf (sg_iload dX3_attributes_57)))))) (Cs_nd (Cs_nd (Cs_nd (Cs_lf (sg_ifge dX3_attributes_59 (by decide))) (Cs_lf (sg_aload_n dX3_attributes_62 rfl))) (Cs_nd (Cs_lf (sg_iconst dX3_attributes_63 (by decide))) (Cs_nd (Cs_lf (sg_iload_n dX3_attributes_64 rfl)) (Cs_lf (sg_invV (mid := 46) (ci := 3) (by decide +kernel) dX3_attributes_65 ok_46 rfl w_273 w_275 ws_2))))) (Cs_nd (Cs_nd (Cs_lf (sg_aload_n dX3_attributes_68 rfl)) (Cs_nd (Cs_lf (sg_iload dX3_attributes_69)) (Cs_lf (sg_invV (mid := 48) (ci := 3) (by decide +kernel) dX3_attributes_71 ok_48 rfl w_267 w_269 ws_1)))) (Cs_nd (Cs_lf (sg_iinc dX3_attributes_74 (by decide) (by decide))) (Cs_nd (Cs_lf (sg_goto dX3_attributes_77 (by decide))) (Cs_lf (sg_vret dX3_attributes_80 rfl))))))))
theorem dX3_checkTells_0 : decode cX3_checkTells 0 = .ok (.iconst 0, 1) := by decide +kernel
theorem dX3_checkTells_1 : decode cX3_checkTells 1 = .ok (.istore_n 1, 1) := by decide +kernel
theorem dX3_checkTells_2 : decode cX3_checkTells 2 = .ok (.iload_n 1, 1) := by decide +kernel
theorem dX3_checkTells_3 : decode cX3_checkTells 3 = .ok (.aload_n 0, 1) := by decide +kernel
theorem dX3_checkTells_4 : decode cX3_checkTells 4 = .ok (.getfield 21, 3) := by decide +kernel
theorem dX3_checkTells_7 : decode cX3_checkTells 7 = .ok (.invokevirtual 122, 3) := by decide +kernel
theorem dX3_checkTells_10 : decode cX3_checkTells 10 = .ok (.if_icmp .ge 62, 3) := by decide +kernel
theorem dX3_checkTells_13 : decode cX3_checkTells 13 = .ok (.aload_n 0, 1) := by decide +kernel
theorem dX3_checkTells_14 : decode cX3_checkTells 14 = .ok (.getfield 9, 3) := by decide +kernel
theorem dX3_checkTells_17 : decode cX3_checkTells 17 = .ok (.ifCond .ne 55, 3) := by decide +kernel
theorem dX3_checkTells_20 : decode cX3_checkTells 20 = .ok (.aload_n 0, 1) := by decide +kernel
theorem dX3_checkTells_21 : decode cX3_checkTells 21 = .ok (.getfield 21, 3) := by decide +kernel
theorem dX3_checkTells_24 : decode cX3_checkTells 24 = .ok (.iload_n 1, 1) := by decide +kernel
theorem dX3_checkTells_25 : decode cX3_checkTells 25 = .ok (.invokevirtual 125, 3) := by decide +kernel
theorem dX3_checkTells_28 : decode cX3_checkTells 28 = .ok (.istore_n 2, 1) := by decide +kernel
theorem dX3_checkTells_29 : decode cX3_checkTells 29 = .ok (.aload_n 0, 1) := by decide +kernel
theorem dX3_checkTells_30 : decode cX3_checkTells 30 = .ok (.getfield 21, 3) := by decide +kernel
theorem dX3_checkTells_33 : decode cX3_checkTells 33 = .ok (.getfield 88, 3) := by decide +kernel
theorem dX3_checkTells_36 : decode cX3_checkTells 36 = .ok (.aload_n 0, 1) := by decide +kernel
theorem dX3_checkTells_37 : decode cX3_checkTells 37 = .ok (.getfield 31, 3) := by decide +kernel
theorem dX3_checkTells_40 : decode cX3_checkTells 40 = .ok (.iload_n 2, 1) := by decide +kernel
theorem dX3_checkTells_41 : decode cX3_checkTells 41 = .ok (.invokevirtual 81, 3) := by decide +kernel
theorem dX3_checkTells_44 : decode cX3_checkTells 44 = .ok (.aload_n 0, 1) := by decide +kernel
theorem dX3_checkTells_45 : decode cX3_checkTells 45 = .ok (.getfield 21, 3) := by decide +kernel
theorem dX3_checkTells_48 : decode cX3_checkTells 48 = .ok (.iload_n 1, 1) := by decide +kernel
theorem dX3_checkTells_49 : decode cX3_checkTells 49 = .ok (.invokevirtual 128, 3) := by decide +kernel
theorem dX3_checkTells_52 : decode cX3_checkTells 52 = .ok (.invokevirtual 131, 3) := by decide +kernel
theorem dX3_checkTells_55 : decode cX3_checkTells 55 = .ok (.istore_n 3, 1) := by decide +kernel
theorem dX3_checkTells_56 : decode cX3_checkTells 56 = .ok (.iload_n 3, 1) := by decide +kernel
theorem dX3_checkTells_57 : decode cX3_checkTells 57 = .ok (.ifCond .eq 9, 3) := by decide +kernel
theorem dX3_checkTells_60 : decode cX3_checkTells 60 = .ok (.aload_n 0, 1) := by decide +kernel
theorem dX3_checkTells_61 : decode cX3_checkTells 61 = .ok (.iload_n 3, 1) := by decide +kernel
theorem dX3_checkTells_62 : decode cX3_checkTells 62 = .ok (.iload_n 2, 1) := by decide +kernel
theorem dX3_checkTells_63 : decode cX3_checkTells 63 = .ok (.invokevirtual 70, 3) := by decide +kernel
theorem dX3_checkTells_66 : decode cX3_checkTells 66 = .ok (.iinc 1 1, 3) := by decide +kernel
theorem dX3_checkTells_69 : decode cX3_checkTells 69 = .ok (.goto (-67), 3) := by decide +kernel
theorem dX3_checkTells_72 : decode cX3_checkTells 72 = .ok (.return_, 1) := by decide +kernel
set_option maxRecDepth 20000 in
theorem s_RD_checkTells (E : XE) : Cs E (yX3_checkTells, cX3_checkTells, 4, none) (k_RD_checkTells) := (Cs_nd (Cs_nd (Cs_nd (Cs_nd (Cs_nd (Cs_lf (sg_iconst dX3_checkTells_0 (by decide))) (Cs_lf (sg_istore_n dX3_checkTells_1 rfl (by decide)))) (Cs_nd (Cs_lf (sg_iload_n dX3_checkTells_2 rfl)) (Cs_lf (sg_aload_n dX3_checkTells_3 rfl)))) (Cs_nd (Cs_nd (Cs_lf (sg_getf dX3_checkTells_4 rfl inX3 (by decide) w_245)) (Cs_lf (sg_invV (mid := 3) (ci := 0) (by decide +kernel) dX3_checkTells_7 ok_3 rfl w_357 w_358 w_359))) (Cs_nd (Cs_lf (sg_cge dX3_checkTells_10 (by decide))) (Cs_nd (Cs_lf (sg_aload_n dX3_checkTells_13 rfl)) (Cs_lf (sg_getf dX3_checkTells_14 rfl inX3 (by decide) w_241)))))) (Cs_nd (Cs_nd (Cs_nd (Cs_lf (sg_ifne dX3_checkTells_17 (by decide))) (Cs_lf (sg_aload_n dX3_checkTells_20 rfl))) (Cs_nd (Cs_lf (sg_getf dX3_checkTells_21 rfl inX3 (by decide) w_245)) (Cs_lf (sg_iload_n dX3_checkTells_24 rfl)))) (Cs_nd (Cs_nd (Cs_lf (sg_invV (mid := 4) (ci := 0) (by decide +kernel) dX3_checkTells_25 ok_4 rfl w_361 w_362 w_363)) (Cs_lf (sg_istore_n dX3_checkTells_28 rfl (by decide)))) (Cs_nd (Cs_lf (sg_aload_n dX3_checkTells_29 rfl)) (Cs_nd (Cs_lf (sg_getf dX3_checkTells_30 rfl inX3 (by decide) w_245)) (Cs_lf (sg_getf dX3_checkTells_33 rfl inX0 (by decide) w_125))))))) (Cs_nd (Cs_nd (Cs_nd (Cs_nd (Cs_lf (sg_aload_n dX3_checkTells_36 rfl)) (Cs_lf (sg_getf dX3_checkTells_37 rfl inX3 (by decide) w_246))) (Cs_nd (Cs_lf (sg_iload_n dX3_checkTells_40 rfl)) (Cs_lf (sg_invV (mid := 64) (ci := 4) (by decide +kernel) dX3_checkTells_41 ok_64 rfl w_290 w_291 w_292)))) (Cs_nd (Cs_nd (Cs_lf (sg_aload_n dX3_checkTells_44 rfl)) (Cs_lf (sg_getf dX3_checkTells_45 rfl inX3 (by decide) w_245))) (Cs_nd (Cs_lf (sg_iload_n dX3_checkTells_48 rfl)) (Cs_nd (Cs_lf (sg_invV (mid := 5) (ci := 0) (by decide +kernel) dX3_checkTells_49 ok_5 rfl w_365 w_366 w_367)) (Cs_lf (sg_invV (mid := 30) (ci := 1) (by decide +kernel) dX3_checkTells_52 ok_30 rfl w_369 w_370 w_371)))))) (Cs_nd (Cs_nd (Cs_nd (Cs_lf (sg_istore_n dX3_checkTells_55 rfl (by decide))) (Cs_lf (sg_iload_n dX3_checkTells_56 rfl))) (Cs_nd (Cs_lf (sg_ifeq dX3_checkTells_57 (by decide))) (Cs_nd (Cs_lf (sg_aload_n dX3_checkTells_60 rfl)) (Cs_lf (sg_iload_n dX3_checkTells_61 rfl))))) (Cs_nd (Cs_nd (Cs_lf (sg_iload_n dX3_checkTells_62 rfl)) (Cs_lf (sg_invV (mid := 46) (ci := 3) (by decide +kernel) dX3_checkTells_63 ok_46 rfl w_273 w_275 ws_2))) (Cs_nd (Cs_lf (sg_iinc dX3_checkTells_66 (by decide) (by decide))) (Cs_nd (Cs_lf (sg_goto dX3_checkTells_69 (by decide))) (Cs_lf (sg_vret dX3_checkTells_72 rfl))))))))
theorem dX3_checkSorts_0 : decode cX3_checkSorts 0 = .ok (.iconst 0, 1) := by decide +kernel
theorem dX3_checkSorts_1 : decode cX3_checkSorts 1 = .ok (.istore_n 2, 1) := by decide +kernel
theorem dX3_checkSorts_2 : decode cX3_checkSorts 2 = .ok (.iload_n 2, 1) := by decide +kernel
theorem dX3_checkSorts_3 : decode cX3_checkSorts 3 = .ok (.aload_n 0, 1) := by decide +kernel
theorem dX3_checkSorts_4 : decode cX3_checkSorts 4 = .ok (.getfield 21, 3) := by decide +kernel
theorem dX3_checkSorts_7 : decode cX3_checkSorts 7 = .ok (.iload_n 1, 1) := by decide +kernel
theorem dX3_checkSorts_8 : decode cX3_checkSorts 8 = .ok (.invokevirtual 135, 3) := by decide +kernel
theorem dX3_checkSorts_11 : decode cX3_checkSorts 11 = .ok (.if_icmp .ge 112, 3) := by decide +kernel
theorem dX3_checkSorts_14 : decode cX3_checkSorts 14 = .ok (.aload_n 0, 1) := by decide +kernel
theorem dX3_checkSorts_15 : decode cX3_checkSorts 15 = .ok (.getfield 9, 3) := by decide +kernel
theorem dX3_checkSorts_18 : decode cX3_checkSorts 18 = .ok (.ifCond .ne 105, 3) := by decide +kernel
theorem dX3_checkSorts_21 : decode cX3_checkSorts 21 = .ok (.aload_n 0, 1) := by decide +kernel
theorem dX3_checkSorts_22 : decode cX3_checkSorts 22 = .ok (.getfield 21, 3) := by decide +kernel
theorem dX3_checkSorts_25 : decode cX3_checkSorts 25 = .ok (.iload_n 1, 1) := by decide +kernel
theorem dX3_checkSorts_26 : decode cX3_checkSorts 26 = .ok (.iload_n 2, 1) := by decide +kernel
theorem dX3_checkSorts_27 : decode cX3_checkSorts 27 = .ok (.invokevirtual 137, 3) := by decide +kernel
theorem dX3_checkSorts_30 : decode cX3_checkSorts 30 = .ok (.iconst 4, 1) := by decide +kernel
theorem dX3_checkSorts_31 : decode cX3_checkSorts 31 = .ok (.iadd, 1) := by decide +kernel
theorem dX3_checkSorts_32 : decode cX3_checkSorts 32 = .ok (.istore_n 3, 1) := by decide +kernel
theorem dX3_checkSorts_33 : decode cX3_checkSorts 33 = .ok (.aload_n 0, 1) := by decide +kernel
theorem dX3_checkSorts_34 : decode cX3_checkSorts 34 = .ok (.getfield 31, 3) := by decide +kernel
theorem dX3_checkSorts_37 : decode cX3_checkSorts 37 = .ok (.iload_n 3, 1) := by decide +kernel
theorem dX3_checkSorts_38 : decode cX3_checkSorts 38 = .ok (.invokevirtual 81, 3) := by decide +kernel
theorem dX3_checkSorts_41 : decode cX3_checkSorts 41 = .ok (.istore 4, 2) := by decide +kernel
theorem dX3_checkSorts_43 : decode cX3_checkSorts 43 = .ok (.aload_n 0, 1) := by decide +kernel
theorem dX3_checkSorts_44 : decode cX3_checkSorts 44 = .ok (.getfield 21, 3) := by decide +kernel
theorem dX3_checkSorts_47 : decode cX3_checkSorts 47 = .ok (.getfield 88, 3) := by decide +kernel
theorem dX3_checkSorts_50 : decode cX3_checkSorts 50 = .ok (.iload 4, 2) := by decide +kernel
theorem dX3_checkSorts_52 : decode cX3_checkSorts 52 = .ok (.invokevirtual 140, 3) := by decide +kernel
theorem dX3_checkSorts_55 : decode cX3_checkSorts 55 = .ok (.istore 5, 2) := by decide +kernel
theorem dX3_checkSorts_57 : decode cX3_checkSorts 57 = .ok (.iload 5, 2) := by decide +kernel
theorem dX3_checkSorts_59 : decode cX3_checkSorts 59 = .ok (.aload_n 0, 1) := by decide +kernel
theorem dX3_checkSorts_60 : decode cX3_checkSorts 60 = .ok (.getfield 21, 3) := by decide +kernel
theorem dX3_checkSorts_63 : decode cX3_checkSorts 63 = .ok (.getfield 88, 3) := by decide +kernel
theorem dX3_checkSorts_66 : decode cX3_checkSorts 66 = .ok (.iload 4, 2) := by decide +kernel
theorem dX3_checkSorts_68 : decode cX3_checkSorts 68 = .ok (.invokevirtual 143, 3) := by decide +kernel
theorem dX3_checkSorts_71 : decode cX3_checkSorts 71 = .ok (.iadd, 1) := by decide +kernel
theorem dX3_checkSorts_72 : decode cX3_checkSorts 72 = .ok (.istore 6, 2) := by decide +kernel
theorem dX3_checkSorts_74 : decode cX3_checkSorts 74 = .ok (.iload_n 1, 1) := by decide +kernel
theorem dX3_checkSorts_75 : decode cX3_checkSorts 75 = .ok (.ifCond .ne 17, 3) := by decide +kernel
theorem dX3_checkSorts_78 : decode cX3_checkSorts 78 = .ok (.aload_n 0, 1) := by decide +kernel
theorem dX3_checkSorts_79 : decode cX3_checkSorts 79 = .ok (.getfield 31, 3) := by decide +kernel
theorem dX3_checkSorts_82 : decode cX3_checkSorts 82 = .ok (.iload 5, 2) := by decide +kernel
theorem dX3_checkSorts_84 : decode cX3_checkSorts 84 = .ok (.iload 6, 2) := by decide +kernel
theorem dX3_checkSorts_86 : decode cX3_checkSorts 86 = .ok (.invokestatic 146, 3) := by decide +kernel
theorem dX3_checkSorts_89 : decode cX3_checkSorts 89 = .ok (.goto 14, 3) := by decide +kernel
theorem dX3_checkSorts_92 : decode cX3_checkSorts 92 = .ok (.aload_n 0, 1) := by decide +kernel
theorem dX3_checkSorts_93 : decode cX3_checkSorts 93 = .ok (.getfield 31, 3) := by decide +kernel
theorem dX3_checkSorts_96 : decode cX3_checkSorts 96 = .ok (.iload 5, 2) := by decide +kernel
theorem dX3_checkSorts_98 : decode cX3_checkSorts 98 = .ok (.iload 6, 2) := by decide +kernel
theorem dX3_checkSorts_100 : decode cX3_checkSorts 100 = .ok (.invokestatic 152, 3) := by decide +kernel
theorem dX3_checkSorts_103 : decode cX3_checkSorts 103 = .ok (.istore 7, 2) := by decide +kernel
theorem dX3_checkSorts_105 : decode cX3_checkSorts 105 = .ok (.iload 7, 2) := by decide +kernel
theorem dX3_checkSorts_107 : decode cX3_checkSorts 107 = .ok (.ifCond .ne 10, 3) := by decide +kernel
theorem dX3_checkSorts_110 : decode cX3_checkSorts 110 = .ok (.aload_n 0, 1) := by decide +kernel
theorem dX3_checkSorts_111 : decode cX3_checkSorts 111 = .ok (.bipush 10, 2) := by decide +kernel
theorem dX3_checkSorts_113 : decode cX3_checkSorts 113 = .ok (.iload_n 3, 1) := by decide +kernel
theorem dX3_checkSorts_114 : decode cX3_checkSorts 114 = .ok (.invokevirtual 70, 3) := by decide +kernel
theorem dX3_checkSorts_117 : decode cX3_checkSorts 117 = .ok (.iinc 2 1, 3) := by decide +kernel
theorem dX3_checkSorts_120 : decode cX3_checkSorts 120 = .ok (.goto (-118), 3) := by decide +kernel
theorem dX3_checkSorts_123 : decode cX3_checkSorts 123 = .ok (.return_, 1) := by decide +kernel
set_option maxRecDepth 20000 in
theorem s_RD_checkSorts (E : XE) : Cs E (yX3_checkSorts, cX3_checkSorts, 8, none) (k_RD_checkSorts) := (Cs_nd (Cs_nd (Cs_nd (Cs_nd (Cs_nd (Cs_lf (sg_iconst dX3_checkSorts_0 (by decide))) (Cs_nd (Cs_lf (sg_istore_n dX3_checkSorts_1 rfl (by decide))) (Cs_lf (sg_iload_n dX3_checkSorts_2 rfl)))) (Cs_nd (Cs_nd (Cs_lf (sg_aload_n dX3_checkSorts_3 rfl)) (Cs_lf (sg_getf dX3_checkSorts_4 rfl inX3 (by decide) w_245))) (Cs_nd (Cs_lf (sg_iload_n dX3_checkSorts_7 rfl)) (Cs_lf (sg_invV (mid := 8) (ci := 0) (by decide +kernel) dX3_checkSorts_8 ok_8 rfl w_386 w_341 w_342))))) (Cs_nd (Cs_nd (Cs_nd (Cs_lf (sg_cge dX3_checkSorts_11 (by decide))) (Cs_lf (sg_aload_n dX3_checkSorts_14 rfl))) (Cs_nd (Cs_lf (sg_getf dX3_checkSorts_15 rfl inX3 (by decide) w_241)) (Cs_lf (sg_ifne dX3_checkSorts_18 (by decide))))) (Cs_nd (Cs_nd (Cs_lf (sg_aload_n dX3_checkSorts_21 rfl)) (Cs_lf (sg_getf dX3_checkSorts_22 rfl inX3 (by decide) w_245))) (Cs_nd (Cs_lf (sg_iload_n dX3_checkSorts_25 rfl)) (Cs_lf (sg_iload_n dX3_checkSorts_26 rfl)))))) (Cs_nd (Cs_nd (Cs_nd (Cs_lf (sg_invV (mid := 9) (ci := 0) (by decide +kernel) dX3_checkSorts_27 ok_9 rfl w_387 w_388 w_389)) (Cs_nd (Cs_lf (sg_iconst dX3_checkSorts_30 (by decide))) (Cs_lf (sg_iadd dX3_checkSorts_31)))) (Cs_nd (Cs_nd (Cs_lf (sg_istore_n dX3_checkSorts_32 rfl (by decide))) (Cs_lf (sg_aload_n dX3_checkSorts_33 rfl))) (Cs_nd (Cs_lf (sg_getf dX3_checkSorts_34 rfl inX3 (by decide) w_246)) (Cs_lf (sg_iload_n dX3_checkSorts_37 rfl))))) (Cs_nd (Cs_nd (Cs_nd (Cs_lf (sg_invV (mid := 64) (ci := 4) (by decide +kernel) dX3_checkSorts_38 ok_64 rfl w_290 w_291 w_292)) (Cs_lf (sg_istore dX3_checkSorts_41 (by decide)))) (Cs_nd (Cs_lf (sg_aload_n dX3_checkSorts_43 rfl)) (Cs_lf (sg_getf dX3_checkSorts_44 rfl inX3 (by decide) w_245)))) (Cs_nd (Cs_nd (Cs_lf (sg_getf dX3_checkSorts_47 rfl inX0 (by decide) w_125)) (Cs_lf (sg_iload dX3_checkSorts_50))) (Cs_nd (Cs_lf (sg_invV (mid := 26) (ci := 1) (by decide +kernel) dX3_checkSorts_52 ok_26 rfl w_391 w_392 w_393)) (Cs_lf (sg_istore dX3_checkSorts_55 (by decide)))))))) (Cs_nd (Cs_nd (Cs_nd (Cs_nd (Cs_lf (sg_iload dX3_checkSorts_57)) (Cs_nd (Cs_lf (sg_aload_n dX3_checkSorts_59 rfl)) (Cs_lf (sg_getf dX3_checkSorts_60 rfl inX3 (by decide) w_245)))) (Cs_nd (Cs_nd (Cs_lf (sg_getf dX3_checkSorts_63 rfl inX0 (by decide) w_125)) (Cs_lf (sg_iload dX3_checkSorts_66))) (Cs_nd (Cs_lf (sg_invV (mid := 27) (ci := 1) (by decide +kernel) dX3_checkSorts_68 ok_27 rfl w_395 w_396 w_397)) (Cs_lf (sg_iadd dX3_checkSorts_71))))) (Cs_nd (Cs_nd (Cs_nd (Cs_lf (sg_istore dX3_checkSorts_72 (by decide))) (Cs_lf (sg_iload_n dX3_checkSorts_74 rfl))) (Cs_nd (Cs_lf (sg_ifne dX3_checkSorts_75 (by decide))) (Cs_lf (sg_aload_n dX3_checkSorts_78 rfl)))) (Cs_nd (Cs_nd (Cs_lf (sg_getf dX3_checkSorts_79 rfl inX3 (by decide) w_246)) (Cs_lf (sg_iload dX3_checkSorts_82))) (Cs_nd (Cs_lf (sg_iload dX3_checkSorts_84)) (Cs_lf (sg_inv (mid := 73) (by decide +kernel) dX3_checkSorts_86 ok_73 w_404 w_405)))))) (Cs_nd (Cs_nd (Cs_nd (Cs_nd (Cs_lf (sg_goto dX3_checkSorts_89 (by decide))) (Cs_lf (sg_aload_n dX3_checkSorts_92 rfl))) (Cs_nd (Cs_lf (sg_getf dX3_checkSorts_93 rfl inX3 (by decide) w_246)) (Cs_lf (sg_iload dX3_checkSorts_96)))) (Cs_nd (Cs_nd (Cs_lf (sg_iload dX3_checkSorts_98)) (Cs_lf (sg_inv (mid := 74) (by decide +kernel) dX3_checkSorts_100 ok_74 w_414 w_415))) (Cs_nd (Cs_lf (sg_istore dX3_checkSorts_103 (by decide))) (Cs_lf (sg_iload dX3_checkSorts_105))))) (Cs_nd (Cs_nd (Cs_nd (Cs_lf (sg_ifne dX3_checkSorts_107 (by decide))) (Cs_lf (sg_aload_n dX3_checkSorts_110 rfl))) (Cs_nd (Cs_lf (sg_bipush dX3_checkSorts_111 (by decide))) (Cs_lf (sg_iload_n dX3_checkSorts_113 rfl)))) (Cs_nd (Cs_nd (Cs_lf (sg_invV (mid := 46) (ci := 3) (by decide +kernel) dX3_checkSorts_114 ok_46 rfl w_273 w_275 ws_2)) (Cs_lf (sg_iinc dX3_checkSorts_117 (by decide) (by decide)))) (Cs_nd (Cs_lf (sg_goto dX3_checkSorts_120 (by decide))) (Cs_lf (sg_vret dX3_checkSorts_123 rfl))))))))
theorem dX6_init_0 : decode cX6_init 0 = .ok (.aload_n 0, 1) := by decide +kernel
theorem dX6_init_1 : decode cX6_init 1 = .ok (.invokespecial 3, 3) := by decide +kernel
theorem dX6_init_4 : decode cX6_init 4 = .ok (.aload_n 0, 1) := by decide +kernel
theorem dX6_init_5 : decode cX6_init 5 = .ok (.bipush 61, 2) := by decide +kernel
theorem dX6_init_7 : decode cX6_init 7 = .ok (.newarray .int, 2) := by decide +kernel
theorem dX6_init_9 : decode cX6_init 9 = .ok (.putfield 9, 3) := by decide +kernel
theorem dX6_init_12 : decode cX6_init 12 = .ok (.aload_n 0, 1) := by decide +kernel
theorem dX6_init_13 : decode cX6_init 13 = .ok (.bipush 61, 2) := by decide +kernel
theorem dX6_init_15 : decode cX6_init 15 = .ok (.newarray .int, 2) := by decide +kernel
theorem dX6_init_17 : decode cX6_init 17 = .ok (.putfield 15, 3) := by decide +kernel
theorem dX6_init_20 : decode cX6_init 20 = .ok (.return_, 1) := by decide +kernel
set_option maxRecDepth 20000 in
theorem s_WR_init (E : XE) : Cs E (yX6_init, cX6_init, 1, none) (k_WR_init) := (Cs_nd (Cs_nd (Cs_nd (Cs_lf (sg_aload_n dX6_init_0 rfl)) (Cs_lf (sg_obj dX6_init_1 w_105 w_38 w_39))) (Cs_nd (Cs_lf (sg_aload_n dX6_init_4 rfl)) (Cs_nd (Cs_lf (sg_bipush dX6_init_5 (by decide))) (Cs_lf (sg_newI dX6_init_7 w_83))))) (Cs_nd (Cs_nd (Cs_lf (sg_putF dX6_init_9 rfl inX6 tyX6_ok nmX6 (by decide) w_106 rfl rfl rfl (tyX6_ok 0 (by decide)) (ok_arr _))) (Cs_nd (Cs_lf (sg_aload_n dX6_init_12 rfl)) (Cs_lf (sg_bipush dX6_init_13 (by decide))))) (Cs_nd (Cs_lf (sg_newI dX6_init_15 w_83)) (Cs_nd (Cs_lf (sg_putF dX6_init_17 rfl inX6 tyX6_ok nmX6 (by decide) w_107 rfl rfl rfl (tyX6_ok 1 (by decide)) (ok_arr _))) (Cs_lf (sg_vret dX6_init_20 rfl))))))
theorem dX6_movePlaces_0 : decode cX6_movePlaces 0 = .ok (.iconst 1, 1) := by decide +kernel
theorem dX6_movePlaces_1 : decode cX6_movePlaces 1 = .ok (.istore_n 3, 1) := by decide +kernel
theorem dX6_movePlaces_2 : decode cX6_movePlaces 2 = .ok (.iconst 0, 1) := by decide +kernel
theorem dX6_movePlaces_3 : decode cX6_movePlaces 3 = .ok (.istore 4, 2) := by decide +kernel
theorem dX6_movePlaces_5 : decode cX6_movePlaces 5 = .ok (.iload 4, 2) := by decide +kernel
theorem dX6_movePlaces_7 : decode cX6_movePlaces 7 = .ok (.aload_n 2, 1) := by decide +kernel
theorem dX6_movePlaces_8 : decode cX6_movePlaces 8 = .ok (.invokevirtual 18, 3) := by decide +kernel
theorem dX6_movePlaces_11 : decode cX6_movePlaces 11 = .ok (.if_icmp .ge 47, 3) := by decide +kernel
theorem dX6_movePlaces_14 : decode cX6_movePlaces 14 = .ok (.iload 4, 2) := by decide +kernel
theorem dX6_movePlaces_16 : decode cX6_movePlaces 16 = .ok (.aload_n 0, 1) := by decide +kernel
theorem dX6_movePlaces_17 : decode cX6_movePlaces 17 = .ok (.getfield 9, 3) := by decide +kernel
theorem dX6_movePlaces_20 : decode cX6_movePlaces 20 = .ok (.arraylength, 1) := by decide +kernel
theorem dX6_movePlaces_21 : decode cX6_movePlaces 21 = .ok (.if_icmp .ge 37, 3) := by decide +kernel
theorem dX6_movePlaces_24 : decode cX6_movePlaces 24 = .ok (.aload_n 0, 1) := by decide +kernel
theorem dX6_movePlaces_25 : decode cX6_movePlaces 25 = .ok (.getfield 9, 3) := by decide +kernel
theorem dX6_movePlaces_28 : decode cX6_movePlaces 28 = .ok (.iload 4, 2) := by decide +kernel
theorem dX6_movePlaces_30 : decode cX6_movePlaces 30 = .ok (.iload_n 3, 1) := by decide +kernel
theorem dX6_movePlaces_31 : decode cX6_movePlaces 31 = .ok (.iastore, 1) := by decide +kernel
theorem dX6_movePlaces_32 : decode cX6_movePlaces 32 = .ok (.iload_n 3, 1) := by decide +kernel
theorem dX6_movePlaces_33 : decode cX6_movePlaces 33 = .ok (.aload_n 2, 1) := by decide +kernel
theorem dX6_movePlaces_34 : decode cX6_movePlaces 34 = .ok (.iload 4, 2) := by decide +kernel
theorem dX6_movePlaces_36 : decode cX6_movePlaces 36 = .ok (.invokevirtual 24, 3) := by decide +kernel
theorem dX6_movePlaces_39 : decode cX6_movePlaces 39 = .ok (.invokestatic 28, 3) := by decide +kernel
theorem dX6_movePlaces_42 : decode cX6_movePlaces 42 = .ok (.ifCond .eq 7, 3) := by decide +kernel
theorem dX6_movePlaces_45 : decode cX6_movePlaces 45 = .ok (.iconst 2, 1) := by decide +kernel
theorem dX6_movePlaces_46 : decode cX6_movePlaces 46 = .ok (.goto 4, 3) := by decide +kernel
theorem dX6_movePlaces_49 : decode cX6_movePlaces 49 = .ok (.iconst 1, 1) := by decide +kernel
theorem dX6_movePlaces_50 : decode cX6_movePlaces 50 = .ok (.iadd, 1) := by decide +kernel
theorem dX6_movePlaces_51 : decode cX6_movePlaces 51 = .ok (.istore_n 3, 1) := by decide +kernel
theorem dX6_movePlaces_52 : decode cX6_movePlaces 52 = .ok (.iinc 4 1, 3) := by decide +kernel
theorem dX6_movePlaces_55 : decode cX6_movePlaces 55 = .ok (.goto (-50), 3) := by decide +kernel
theorem dX6_movePlaces_58 : decode cX6_movePlaces 58 = .ok (.iconst 1, 1) := by decide +kernel
theorem dX6_movePlaces_59 : decode cX6_movePlaces 59 = .ok (.istore 4, 2) := by decide +kernel
theorem dX6_movePlaces_61 : decode cX6_movePlaces 61 = .ok (.iload 4, 2) := by decide +kernel
theorem dX6_movePlaces_63 : decode cX6_movePlaces 63 = .ok (.aload_n 1, 1) := by decide +kernel
theorem dX6_movePlaces_64 : decode cX6_movePlaces 64 = .ok (.getfield 32, 3) := by decide +kernel
theorem dX6_movePlaces_67 : decode cX6_movePlaces 67 = .ok (.invokevirtual 38, 3) := by decide +kernel
theorem dX6_movePlaces_70 : decode cX6_movePlaces 70 = .ok (.if_icmp .ge 80, 3) := by decide +kernel
theorem dX6_movePlaces_73 : decode cX6_movePlaces 73 = .ok (.iload 4, 2) := by decide +kernel
theorem dX6_movePlaces_75 : decode cX6_movePlaces 75 = .ok (.aload_n 0, 1) := by decide +kernel
theorem dX6_movePlaces_76 : decode cX6_movePlaces 76 = .ok (.getfield 15, 3) := by decide +kernel
theorem dX6_movePlaces_79 : decode cX6_movePlaces 79 = .ok (.arraylength, 1) := by decide +kernel
theorem dX6_movePlaces_80 : decode cX6_movePlaces 80 = .ok (.if_icmp .ge 70, 3) := by decide +kernel
theorem dX6_movePlaces_83 : decode cX6_movePlaces 83 = .ok (.aload_n 1, 1) := by decide +kernel
theorem dX6_movePlaces_84 : decode cX6_movePlaces 84 = .ok (.getfield 32, 3) := by decide +kernel
theorem dX6_movePlaces_87 : decode cX6_movePlaces 87 = .ok (.iload 4, 2) := by decide +kernel
theorem dX6_movePlaces_89 : decode cX6_movePlaces 89 = .ok (.invokevirtual 43, 3) := by decide +kernel
theorem dX6_movePlaces_92 : decode cX6_movePlaces 92 = .ok (.ifCond .ne 7, 3) := by decide +kernel
theorem dX6_movePlaces_95 : decode cX6_movePlaces 95 = .ok (.iconst (-1), 1) := by decide +kernel
theorem dX6_movePlaces_96 : decode cX6_movePlaces 96 = .ok (.goto 13, 3) := by decide +kernel
theorem dX6_movePlaces_99 : decode cX6_movePlaces 99 = .ok (.aload_n 2, 1) := by decide +kernel
theorem dX6_movePlaces_100 : decode cX6_movePlaces 100 = .ok (.aload_n 1, 1) := by decide +kernel
theorem dX6_movePlaces_101 : decode cX6_movePlaces 101 = .ok (.getfield 32, 3) := by decide +kernel
theorem dX6_movePlaces_104 : decode cX6_movePlaces 104 = .ok (.iload 4, 2) := by decide +kernel
theorem dX6_movePlaces_106 : decode cX6_movePlaces 106 = .ok (.invokevirtual 44, 3) := by decide +kernel
theorem dX6_movePlaces_109 : decode cX6_movePlaces 109 = .ok (.istore 5, 2) := by decide +kernel
theorem dX6_movePlaces_111 : decode cX6_movePlaces 111 = .ok (.aload_n 0, 1) := by decide +kernel
theorem dX6_movePlaces_112 : decode cX6_movePlaces 112 = .ok (.getfield 15, 3) := by decide +kernel
theorem dX6_movePlaces_115 : decode cX6_movePlaces 115 = .ok (.iload 4, 2) := by decide +kernel
theorem dX6_movePlaces_117 : decode cX6_movePlaces 117 = .ok (.iload 5, 2) := by decide +kernel
theorem dX6_movePlaces_119 : decode cX6_movePlaces 119 = .ok (.ifCond .lt 23, 3) := by decide +kernel
theorem dX6_movePlaces_122 : decode cX6_movePlaces 122 = .ok (.iload 5, 2) := by decide +kernel
theorem dX6_movePlaces_124 : decode cX6_movePlaces 124 = .ok (.aload_n 0, 1) := by decide +kernel
theorem dX6_movePlaces_125 : decode cX6_movePlaces 125 = .ok (.getfield 9, 3) := by decide +kernel
theorem dX6_movePlaces_128 : decode cX6_movePlaces 128 = .ok (.arraylength, 1) := by decide +kernel
theorem dX6_movePlaces_129 : decode cX6_movePlaces 129 = .ok (.if_icmp .ge 13, 3) := by decide +kernel
theorem dX6_movePlaces_132 : decode cX6_movePlaces 132 = .ok (.aload_n 0, 1) := by decide +kernel
theorem dX6_movePlaces_133 : decode cX6_movePlaces 133 = .ok (.getfield 9, 3) := by decide +kernel
theorem dX6_movePlaces_136 : decode cX6_movePlaces 136 = .ok (.iload 5, 2) := by decide +kernel
theorem dX6_movePlaces_138 : decode cX6_movePlaces 138 = .ok (.iaload, 1) := by decide +kernel
theorem dX6_movePlaces_139 : decode cX6_movePlaces 139 = .ok (.goto 4, 3) := by decide +kernel
theorem dX6_movePlaces_142 : decode cX6_movePlaces 142 = .ok (.iconst 0, 1) := by decide +kernel
theorem dX6_movePlaces_143 : decode cX6_movePlaces 143 = .ok (.iastore, 1) := by decide +kernel
theorem dX6_movePlaces_144 : decode cX6_movePlaces 144 = .ok (.iinc 4 1, 3) := by decide +kernel
theorem dX6_movePlaces_147 : decode cX6_movePlaces 147 = .ok (.goto (-86), 3) := by decide +kernel
theorem dX6_movePlaces_150 : decode cX6_movePlaces 150 = .ok (.iload_n 3, 1) := by decide +kernel
theorem dX6_movePlaces_151 : decode cX6_movePlaces 151 = .ok (.ireturn, 1) := by decide +kernel
set_option maxRecDepth 20000 in
theorem s_WR_movePlaces (E : XE) : Cs E (yX6_movePlaces, cX6_movePlaces, 6, some .int) (k_WR_movePlaces) := (Cs_nd (Cs_nd (Cs_nd (Cs_nd (Cs_nd (Cs_nd (Cs_lf (sg_iconst dX6_movePlaces_0 (by decide))) (Cs_lf (sg_istore_n dX6_movePlaces_1 rfl (by decide)))) (Cs_nd (Cs_lf (sg_iconst dX6_movePlaces_2 (by decide))) (Cs_lf (sg_istore dX6_movePlaces_3 (by decide))))) (Cs_nd (Cs_nd (Cs_lf (sg_iload dX6_movePlaces_5)) (Cs_lf (sg_aload_n dX6_movePlaces_7 rfl))) (Cs_nd (Cs_lf (sg_invV (mid := 35) (ci := 2) (by decide +kernel) dX6_movePlaces_8 ok_35 rfl w_648 w_597 w_598)) (Cs_nd (Cs_lf (sg_cge dX6_movePlaces_11 (by decide))) (Cs_lf (sg_iload dX6_movePlaces_14)))))) (Cs_nd (Cs_nd (Cs_nd (Cs_lf (sg_aload_n dX6_movePlaces_16 rfl)) (Cs_lf (sg_getf dX6_movePlaces_17 rfl inX6 (by decide) w_106))) (Cs_nd (Cs_lf (sg_alen dX6_movePlaces_20)) (Cs_nd (Cs_lf (sg_cge dX6_movePlaces_21 (by decide))) (Cs_lf (sg_aload_n dX6_movePlaces_24 rfl))))) (Cs_nd (Cs_nd (Cs_lf (sg_getf dX6_movePlaces_25 rfl inX6 (by decide) w_106)) (Cs_lf (sg_iload dX6_movePlaces_28))) (Cs_nd (Cs_lf (sg_iload_n dX6_movePlaces_30 rfl)) (Cs_nd (Cs_lf (sg_iast dX6_movePlaces_31)) (Cs_lf (sg_iload_n dX6_movePlaces_32 rfl))))))) (Cs_nd (Cs_nd (Cs_nd (Cs_nd (Cs_lf (sg_aload_n dX6_movePlaces_33 rfl)) (Cs_lf (sg_iload dX6_movePlaces_34))) (Cs_nd (Cs_lf (sg_invV (mid := 43) (ci := 2) (by decide +kernel) dX6_movePlaces_36 ok_43 rfl w_649 w_613 w_614)) (Cs_lf (sg_invN (mid := 110) (by decide +kernel) dX6_movePlaces_39 ok_110 (host := RX7) (by decide +kernel) w_311)))) (Cs_nd (Cs_nd (Cs_lf (sg_ifeq dX6_movePlaces_42 (by decide))) (Cs_lf (sg_iconst dX6_movePlaces_45 (by decide)))) (Cs_nd (Cs_lf (sg_goto dX6_movePlaces_46 (by decide))) (Cs_nd (Cs_lf (sg_iconst dX6_movePlaces_49 (by decide))) (Cs_lf (sg_iadd dX6_movePlaces_50)))))) (Cs_nd (Cs_nd (Cs_nd (Cs_lf (sg_istore_n dX6_movePlaces_51 rfl (by decide))) (Cs_lf (sg_iinc dX6_movePlaces_52 (by decide) (by decide)))) (Cs_nd (Cs_lf (sg_goto dX6_movePlaces_55 (by decide))) (Cs_nd (Cs_lf (sg_iconst dX6_movePlaces_58 (by decide))) (Cs_lf (sg_istore dX6_movePlaces_59 (by decide)))))) (Cs_nd (Cs_nd (Cs_lf (sg_iload dX6_movePlaces_61)) (Cs_lf (sg_aload_n dX6_movePlaces_63 rfl))) (Cs_nd (Cs_lf (sg_getf dX6_movePlaces_64 rfl inX0 (by decide) w_123)) (Cs_nd (Cs_lf (sg_invV (mid := 16) (ci := 1) (by decide +kernel) dX6_movePlaces_67 ok_16 rfl w_651 w_439 w_440)) (Cs_lf (sg_cge dX6_movePlaces_70 (by decide))))))))) (Cs_nd (Cs_nd (Cs_nd (Cs_nd (Cs_nd (Cs_lf (sg_iload dX6_movePlaces_73)) (Cs_lf (sg_aload_n dX6_movePlaces_75 rfl))) (Cs_nd (Cs_lf (sg_getf dX6_movePlaces_76 rfl inX6 (by decide) w_107)) (Cs_lf (sg_alen dX6_movePlaces_79)))) (Cs_nd (Cs_nd (Cs_lf (sg_cge dX6_movePlaces_80 (by decide))) (Cs_lf (sg_aload_n dX6_movePlaces_83 rfl))) (Cs_nd (Cs_lf (sg_getf dX6_movePlaces_84 rfl inX0 (by decide) w_123)) (Cs_nd (Cs_lf (sg_iload dX6_movePlaces_87)) (Cs_lf (sg_invV (mid := 22) (ci := 1) (by decide +kernel) dX6_movePlaces_89 ok_22 rfl w_652 w_374 w_375)))))) (Cs_nd (Cs_nd (Cs_nd (Cs_lf (sg_ifne dX6_movePlaces_92 (by decide))) (Cs_lf (sg_iconst dX6_movePlaces_95 (by decide)))) (Cs_nd (Cs_lf (sg_goto dX6_movePlaces_96 (by decide))) (Cs_nd (Cs_lf (sg_aload_n dX6_movePlaces_99 rfl)) (Cs_lf (sg_aload_n dX6_movePlaces_100 rfl))))) (Cs_nd (Cs_nd (Cs_lf (sg_getf dX6_movePlaces_101 rfl inX0 (by decide) w_123)) (Cs_lf (sg_iload dX6_movePlaces_104))) (Cs_nd (Cs_lf (sg_invV (mid := 38) (ci := 2) (by decide +kernel) dX6_movePlaces_106 ok_38 rfl w_653 w_605 w_606)) (Cs_nd (Cs_lf (sg_istore dX6_movePlaces_109 (by decide))) (Cs_lf (sg_aload_n dX6_movePlaces_111 rfl))))))) (Cs_nd (Cs_nd (Cs_nd (Cs_nd (Cs_lf (sg_getf dX6_movePlaces_112 rfl inX6 (by decide) w_107)) (Cs_lf (sg_iload dX6_movePlaces_115))) (Cs_nd (Cs_lf (sg_iload dX6_movePlaces_117)) (Cs_nd (Cs_lf (sg_iflt dX6_movePlaces_119 (by decide))) (Cs_lf (sg_iload dX6_movePlaces_122))))) (Cs_nd (Cs_nd (Cs_lf (sg_aload_n dX6_movePlaces_124 rfl)) (Cs_lf (sg_getf dX6_movePlaces_125 rfl inX6 (by decide) w_106))) (Cs_nd (Cs_lf (sg_alen dX6_movePlaces_128)) (Cs_nd (Cs_lf (sg_cge dX6_movePlaces_129 (by decide))) (Cs_lf (sg_aload_n dX6_movePlaces_132 rfl)))))) (Cs_nd (Cs_nd (Cs_nd (Cs_lf (sg_getf dX6_movePlaces_133 rfl inX6 (by decide) w_106)) (Cs_lf (sg_iload dX6_movePlaces_136))) (Cs_nd (Cs_lf (sg_iald dX6_movePlaces_138)) (Cs_nd (Cs_lf (sg_goto dX6_movePlaces_139 (by decide))) (Cs_lf (sg_iconst dX6_movePlaces_142 (by decide)))))) (Cs_nd (Cs_nd (Cs_lf (sg_iast dX6_movePlaces_143)) (Cs_lf (sg_iinc dX6_movePlaces_144 (by decide) (by decide)))) (Cs_nd (Cs_lf (sg_goto dX6_movePlaces_147 (by decide))) (Cs_nd (Cs_lf (sg_iload_n dX6_movePlaces_150 rfl)) (Cs_lf (sg_iret dX6_movePlaces_151 rfl)))))))))
theorem dX6_push_0 : decode cX6_push 0 = .ok (.aload 4, 2) := by decide +kernel
theorem dX6_push_2 : decode cX6_push 2 = .ok (.aload_n 1, 1) := by decide +kernel
theorem dX6_push_3 : decode cX6_push 3 = .ok (.getfield 48, 3) := by decide +kernel
theorem dX6_push_6 : decode cX6_push 6 = .ok (.iconst 0, 1) := by decide +kernel
theorem dX6_push_7 : decode cX6_push 7 = .ok (.bipush 8, 2) := by decide +kernel
theorem dX6_push_9 : decode cX6_push 9 = .ok (.invokevirtual 52, 3) := by decide +kernel
theorem dX6_push_12 : decode cX6_push 12 = .ok (.pop, 1) := by decide +kernel
theorem dX6_push_13 : decode cX6_push 13 = .ok (.aload 4, 2) := by decide +kernel
theorem dX6_push_15 : decode cX6_push 15 = .ok (.iload_n 3, 1) := by decide +kernel
theorem dX6_push_16 : decode cX6_push 16 = .ok (.invokevirtual 58, 3) := by decide +kernel
theorem dX6_push_19 : decode cX6_push 19 = .ok (.iconst 0, 1) := by decide +kernel
theorem dX6_push_20 : decode cX6_push 20 = .ok (.istore 5, 2) := by decide +kernel
theorem dX6_push_22 : decode cX6_push 22 = .ok (.iload 5, 2) := by decide +kernel
theorem dX6_push_24 : decode cX6_push 24 = .ok (.aload_n 2, 1) := by decide +kernel
theorem dX6_push_25 : decode cX6_push 25 = .ok (.invokevirtual 18, 3) := by decide +kernel
theorem dX6_push_28 : decode cX6_push 28 = .ok (.if_icmp .ge 25, 3) := by decide +kernel
theorem dX6_push_31 : decode cX6_push 31 = .ok (.aload_n 0, 1) := by decide +kernel
theorem dX6_push_32 : decode cX6_push 32 = .ok (.aload_n 1, 1) := by decide +kernel
theorem dX6_push_33 : decode cX6_push 33 = .ok (.getfield 32, 3) := by decide +kernel
theorem dX6_push_36 : decode cX6_push 36 = .ok (.aload_n 2, 1) := by decide +kernel
theorem dX6_push_37 : decode cX6_push 37 = .ok (.iload 5, 2) := by decide +kernel
theorem dX6_push_39 : decode cX6_push 39 = .ok (.invokevirtual 62, 3) := by decide +kernel
theorem dX6_push_42 : decode cX6_push 42 = .ok (.aload 4, 2) := by decide +kernel
theorem dX6_push_44 : decode cX6_push 44 = .ok (.invokevirtual 65, 3) := by decide +kernel
theorem dX6_push_47 : decode cX6_push 47 = .ok (.iinc 5 1, 3) := by decide +kernel
theorem dX6_push_50 : decode cX6_push 50 = .ok (.goto (-28), 3) := by decide +kernel
theorem dX6_push_53 : decode cX6_push 53 = .ok (.aload_n 0, 1) := by decide +kernel
theorem dX6_push_54 : decode cX6_push 54 = .ok (.aload_n 1, 1) := by decide +kernel
theorem dX6_push_55 : decode cX6_push 55 = .ok (.aload 4, 2) := by decide +kernel
theorem dX6_push_57 : decode cX6_push 57 = .ok (.invokevirtual 69, 3) := by decide +kernel
theorem dX6_push_60 : decode cX6_push 60 = .ok (.aload 4, 2) := by decide +kernel
theorem dX6_push_62 : decode cX6_push 62 = .ok (.invokevirtual 73, 3) := by decide +kernel
theorem dX6_push_65 : decode cX6_push 65 = .ok (.ireturn, 1) := by decide +kernel
set_option maxRecDepth 20000 in
theorem s_WR_push (E : XE) : Cs E (yX6_push, cX6_push, 6, some .int) (k_WR_push) := (Cs_nd (Cs_nd (Cs_nd (Cs_nd (Cs_nd (Cs_lf (sg_aload dX6_push_0)) (Cs_lf (sg_aload_n dX6_push_2 rfl))) (Cs_nd (Cs_lf (sg_getf dX6_push_3 rfl inX0 (by decide) w_128)) (Cs_lf (sg_iconst dX6_push_6 (by decide))))) (Cs_nd (Cs_nd (Cs_lf (sg_bipush dX6_push_7 (by decide))) (Cs_lf (sg_invV (mid := 71) (ci := 4) (by decide +kernel) dX6_push_9 ok_71 rfl w_658 w_208 w_209))) (Cs_nd (Cs_lf (sg_pop dX6_push_12)) (Cs_lf (sg_aload dX6_push_13))))) (Cs_nd (Cs_nd (Cs_nd (Cs_lf (sg_iload_n dX6_push_15 rfl)) (Cs_lf (sg_invV (mid := 68) (ci := 4) (by decide +kernel) dX6_push_16 ok_68 rfl w_659 w_660 w_661))) (Cs_nd (Cs_lf (sg_iconst dX6_push_19 (by decide))) (Cs_lf (sg_istore dX6_push_20 (by decide))))) (Cs_nd (Cs_nd (Cs_lf (sg_iload dX6_push_22)) (Cs_lf (sg_aload_n dX6_push_24 rfl))) (Cs_nd (Cs_lf (sg_invV (mid := 35) (ci := 2) (by decide +kernel) dX6_push_25 ok_35 rfl w_648 w_597 w_598)) (Cs_lf (sg_cge dX6_push_28 (by decide))))))) (Cs_nd (Cs_nd (Cs_nd (Cs_nd (Cs_lf (sg_aload_n dX6_push_31 rfl)) (Cs_lf (sg_aload_n dX6_push_32 rfl))) (Cs_nd (Cs_lf (sg_getf dX6_push_33 rfl inX0 (by decide) w_123)) (Cs_lf (sg_aload_n dX6_push_36 rfl)))) (Cs_nd (Cs_nd (Cs_lf (sg_iload dX6_push_37)) (Cs_lf (sg_invV (mid := 42) (ci := 2) (by decide +kernel) dX6_push_39 ok_42 rfl w_664 w_554 w_555))) (Cs_nd (Cs_lf (sg_aload dX6_push_42)) (Cs_lf (sg_invV (mid := 84) (ci := 5) (by decide +kernel) dX6_push_44 ok_84 rfl w_665 w_667 ws_21))))) (Cs_nd (Cs_nd (Cs_nd (Cs_lf (sg_iinc dX6_push_47 (by decide) (by decide))) (Cs_lf (sg_goto dX6_push_50 (by decide)))) (Cs_nd (Cs_lf (sg_aload_n dX6_push_53 rfl)) (Cs_lf (sg_aload_n dX6_push_54 rfl)))) (Cs_nd (Cs_nd (Cs_lf (sg_aload dX6_push_55)) (Cs_lf (sg_invV (mid := 85) (ci := 5) (by decide +kernel) dX6_push_57 ok_85 rfl w_686 w_688 ws_23))) (Cs_nd (Cs_lf (sg_aload dX6_push_60)) (Cs_nd (Cs_lf (sg_invV (mid := 61) (ci := 4) (by decide +kernel) dX6_push_62 ok_61 rfl w_669 w_191 w_192)) (Cs_lf (sg_iret dX6_push_65 rfl))))))))
theorem dX6_movedTo_0 : decode cX6_movedTo 0 = .ok (.iload_n 1, 1) := by decide +kernel
theorem dX6_movedTo_1 : decode cX6_movedTo 1 = .ok (.ifCond .lt 21, 3) := by decide +kernel
theorem dX6_movedTo_4 : decode cX6_movedTo 4 = .ok (.iload_n 1, 1) := by decide +kernel
theorem dX6_movedTo_5 : decode cX6_movedTo 5 = .ok (.aload_n 0, 1) := by decide +kernel
theorem dX6_movedTo_6 : decode cX6_movedTo 6 = .ok (.getfield 15, 3) := by decide +kernel
theorem dX6_movedTo_9 : decode cX6_movedTo 9 = .ok (.arraylength, 1) := by decide +kernel
theorem dX6_movedTo_10 : decode cX6_movedTo 10 = .ok (.if_icmp .ge 12, 3) := by decide +kernel
theorem dX6_movedTo_13 : decode cX6_movedTo 13 = .ok (.aload_n 0, 1) := by decide +kernel
theorem dX6_movedTo_14 : decode cX6_movedTo 14 = .ok (.getfield 15, 3) := by decide +kernel
theorem dX6_movedTo_17 : decode cX6_movedTo 17 = .ok (.iload_n 1, 1) := by decide +kernel
theorem dX6_movedTo_18 : decode cX6_movedTo 18 = .ok (.iaload, 1) := by decide +kernel
theorem dX6_movedTo_19 : decode cX6_movedTo 19 = .ok (.goto 4, 3) := by decide +kernel
theorem dX6_movedTo_22 : decode cX6_movedTo 22 = .ok (.iconst 0, 1) := by decide +kernel
theorem dX6_movedTo_23 : decode cX6_movedTo 23 = .ok (.ireturn, 1) := by decide +kernel
set_option maxRecDepth 20000 in
theorem s_WR_movedTo (E : XE) : Cs E (yX6_movedTo, cX6_movedTo, 2, some .int) (k_WR_movedTo) := (Cs_nd (Cs_nd (Cs_nd (Cs_lf (sg_iload_n dX6_movedTo_0 rfl)) (Cs_nd (Cs_lf (sg_iflt dX6_movedTo_1 (by decide))) (Cs_lf (sg_iload_n dX6_movedTo_4 rfl)))) (Cs_nd (Cs_nd (Cs_lf (sg_aload_n dX6_movedTo_5 rfl)) (Cs_lf (sg_getf dX6_movedTo_6 rfl inX6 (by decide) w_107))) (Cs_nd (Cs_lf (sg_alen dX6_movedTo_9)) (Cs_lf (sg_cge dX6_movedTo_10 (by decide)))))) (Cs_nd (Cs_nd (Cs_lf (sg_aload_n dX6_movedTo_13 rfl)) (Cs_nd (Cs_lf (sg_getf dX6_movedTo_14 rfl inX6 (by decide) w_107)) (Cs_lf (sg_iload_n dX6_movedTo_17 rfl)))) (Cs_nd (Cs_nd (Cs_lf (sg_iald dX6_movedTo_18)) (Cs_lf (sg_goto dX6_movedTo_19 (by decide)))) (Cs_nd (Cs_lf (sg_iconst dX6_movedTo_22 (by decide))) (Cs_lf (sg_iret dX6_movedTo_23 rfl))))))
theorem dX6_pushEntry_0 : decode cX6_pushEntry 0 = .ok (.aload_n 3, 1) := by decide +kernel
theorem dX6_pushEntry_1 : decode cX6_pushEntry 1 = .ok (.invokevirtual 73, 3) := by decide +kernel
theorem dX6_pushEntry_4 : decode cX6_pushEntry 4 = .ok (.istore 4, 2) := by decide +kernel
theorem dX6_pushEntry_6 : decode cX6_pushEntry 6 = .ok (.aload_n 3, 1) := by decide +kernel
theorem dX6_pushEntry_7 : decode cX6_pushEntry 7 = .ok (.aload_n 1, 1) := by decide +kernel
theorem dX6_pushEntry_8 : decode cX6_pushEntry 8 = .ok (.getfield 74, 3) := by decide +kernel
theorem dX6_pushEntry_11 : decode cX6_pushEntry 11 = .ok (.aload_n 1, 1) := by decide +kernel
theorem dX6_pushEntry_12 : decode cX6_pushEntry 12 = .ok (.iload_n 2, 1) := by decide +kernel
theorem dX6_pushEntry_13 : decode cX6_pushEntry 13 = .ok (.invokevirtual 75, 3) := by decide +kernel
theorem dX6_pushEntry_16 : decode cX6_pushEntry 16 = .ok (.aload_n 1, 1) := by decide +kernel
theorem dX6_pushEntry_17 : decode cX6_pushEntry 17 = .ok (.iload_n 2, 1) := by decide +kernel
theorem dX6_pushEntry_18 : decode cX6_pushEntry 18 = .ok (.invokevirtual 78, 3) := by decide +kernel
theorem dX6_pushEntry_21 : decode cX6_pushEntry 21 = .ok (.invokevirtual 81, 3) := by decide +kernel
theorem dX6_pushEntry_24 : decode cX6_pushEntry 24 = .ok (.aload_n 1, 1) := by decide +kernel
theorem dX6_pushEntry_25 : decode cX6_pushEntry 25 = .ok (.iload_n 2, 1) := by decide +kernel
theorem dX6_pushEntry_26 : decode cX6_pushEntry 26 = .ok (.invokevirtual 43, 3) := by decide +kernel
theorem dX6_pushEntry_29 : decode cX6_pushEntry 29 = .ok (.istore 5, 2) := by decide +kernel
theorem dX6_pushEntry_31 : decode cX6_pushEntry 31 = .ok (.iload 5, 2) := by decide +kernel
theorem dX6_pushEntry_33 : decode cX6_pushEntry 33 = .ok (.bipush 7, 2) := by decide +kernel
theorem dX6_pushEntry_35 : decode cX6_pushEntry 35 = .ok (.if_icmp .lt 20, 3) := by decide +kernel
theorem dX6_pushEntry_38 : decode cX6_pushEntry 38 = .ok (.aload_n 3, 1) := by decide +kernel
theorem dX6_pushEntry_39 : decode cX6_pushEntry 39 = .ok (.iload 4, 2) := by decide +kernel
theorem dX6_pushEntry_41 : decode cX6_pushEntry 41 = .ok (.iconst 1, 1) := by decide +kernel
theorem dX6_pushEntry_42 : decode cX6_pushEntry 42 = .ok (.iadd, 1) := by decide +kernel
theorem dX6_pushEntry_43 : decode cX6_pushEntry 43 = .ok (.aload_n 0, 1) := by decide +kernel
theorem dX6_pushEntry_44 : decode cX6_pushEntry 44 = .ok (.aload_n 1, 1) := by decide +kernel
theorem dX6_pushEntry_45 : decode cX6_pushEntry 45 = .ok (.iload_n 2, 1) := by decide +kernel
theorem dX6_pushEntry_46 : decode cX6_pushEntry 46 = .ok (.invokevirtual 85, 3) := by decide +kernel
theorem dX6_pushEntry_49 : decode cX6_pushEntry 49 = .ok (.invokevirtual 88, 3) := by decide +kernel
theorem dX6_pushEntry_52 : decode cX6_pushEntry 52 = .ok (.invokevirtual 91, 3) := by decide +kernel
theorem dX6_pushEntry_55 : decode cX6_pushEntry 55 = .ok (.iload 5, 2) := by decide +kernel
theorem dX6_pushEntry_57 : decode cX6_pushEntry 57 = .ok (.bipush 9, 2) := by decide +kernel
theorem dX6_pushEntry_59 : decode cX6_pushEntry 59 = .ok (.if_icmp .lt 20, 3) := by decide +kernel
theorem dX6_pushEntry_62 : decode cX6_pushEntry 62 = .ok (.aload_n 3, 1) := by decide +kernel
theorem dX6_pushEntry_63 : decode cX6_pushEntry 63 = .ok (.iload 4, 2) := by decide +kernel
theorem dX6_pushEntry_65 : decode cX6_pushEntry 65 = .ok (.iconst 3, 1) := by decide +kernel
theorem dX6_pushEntry_66 : decode cX6_pushEntry 66 = .ok (.iadd, 1) := by decide +kernel
theorem dX6_pushEntry_67 : decode cX6_pushEntry 67 = .ok (.aload_n 0, 1) := by decide +kernel
theorem dX6_pushEntry_68 : decode cX6_pushEntry 68 = .ok (.aload_n 1, 1) := by decide +kernel
theorem dX6_pushEntry_69 : decode cX6_pushEntry 69 = .ok (.iload_n 2, 1) := by decide +kernel
theorem dX6_pushEntry_70 : decode cX6_pushEntry 70 = .ok (.invokevirtual 95, 3) := by decide +kernel
theorem dX6_pushEntry_73 : decode cX6_pushEntry 73 = .ok (.invokevirtual 88, 3) := by decide +kernel
theorem dX6_pushEntry_76 : decode cX6_pushEntry 76 = .ok (.invokevirtual 91, 3) := by decide +kernel
theorem dX6_pushEntry_79 : decode cX6_pushEntry 79 = .ok (.return_, 1) := by decide +kernel
set_option maxRecDepth 20000 in
theorem s_WR_pushEntry (E : XE) : Cs E (yX6_pushEntry, cX6_pushEntry, 6, none) (k_WR_pushEntry) := (Cs_nd (Cs_nd (Cs_nd (Cs_nd (Cs_nd (Cs_lf (sg_aload_n dX6_pushEntry_0 rfl)) (Cs_lf (sg_invV (mid := 61) (ci := 4) (by decide +kernel) dX6_pushEntry_1 ok_61 rfl w_669 w_191 w_192))) (Cs_nd (Cs_lf (sg_istore dX6_pushEntry_4 (by decide))) (Cs_nd (Cs_lf (sg_aload_n dX6_pushEntry_6 rfl)) (Cs_lf (sg_aload_n dX6_pushEntry_7 rfl))))) (Cs_nd (Cs_nd (Cs_lf (sg_getf dX6_pushEntry_8 rfl inX1 (by decide) w_73)) (Cs_nd (Cs_lf (sg_aload_n dX6_pushEntry_11 rfl)) (Cs_lf (sg_iload_n dX6_pushEntry_12 rfl)))) (Cs_nd (Cs_lf (sg_invV (mid := 21) (ci := 1) (by decide +kernel) dX6_pushEntry_13 ok_21 rfl w_670 w_378 w_379)) (Cs_nd (Cs_lf (sg_aload_n dX6_pushEntry_16 rfl)) (Cs_lf (sg_iload_n dX6_pushEntry_17 rfl)))))) (Cs_nd (Cs_nd (Cs_nd (Cs_lf (sg_invV (mid := 29) (ci := 1) (by decide +kernel) dX6_pushEntry_18 ok_29 rfl w_671 w_672 w_673)) (Cs_lf (sg_invV (mid := 70) (ci := 4) (by decide +kernel) dX6_pushEntry_21 ok_70 rfl w_675 w_216 w_217))) (Cs_nd (Cs_lf (sg_aload_n dX6_pushEntry_24 rfl)) (Cs_nd (Cs_lf (sg_iload_n dX6_pushEntry_25 rfl)) (Cs_lf (sg_invV (mid := 22) (ci := 1) (by decide +kernel) dX6_pushEntry_26 ok_22 rfl w_652 w_374 w_375))))) (Cs_nd (Cs_nd (Cs_lf (sg_istore dX6_pushEntry_29 (by decide))) (Cs_nd (Cs_lf (sg_iload dX6_pushEntry_31)) (Cs_lf (sg_bipush dX6_pushEntry_33 (by decide))))) (Cs_nd (Cs_lf (sg_clt dX6_pushEntry_35 (by decide))) (Cs_nd (Cs_lf (sg_aload_n dX6_pushEntry_38 rfl)) (Cs_lf (sg_iload dX6_pushEntry_39))))))) (Cs_nd (Cs_nd (Cs_nd (Cs_nd (Cs_lf (sg_iconst dX6_pushEntry_41 (by decide))) (Cs_lf (sg_iadd dX6_pushEntry_42))) (Cs_nd (Cs_lf (sg_aload_n dX6_pushEntry_43 rfl)) (Cs_nd (Cs_lf (sg_aload_n dX6_pushEntry_44 rfl)) (Cs_lf (sg_iload_n dX6_pushEntry_45 rfl))))) (Cs_nd (Cs_nd (Cs_lf (sg_invV (mid := 24) (ci := 1) (by decide +kernel) dX6_pushEntry_46 ok_24 rfl w_676 w_455 w_456)) (Cs_nd (Cs_lf (sg_invV (mid := 83) (ci := 5) (by decide +kernel) dX6_pushEntry_49 ok_83 rfl w_677 w_679 ws_22)) (Cs_lf (sg_invV (mid := 69) (ci := 4) (by decide +kernel) dX6_pushEntry_52 ok_69 rfl w_681 w_682 w_683)))) (Cs_nd (Cs_lf (sg_iload dX6_pushEntry_55)) (Cs_nd (Cs_lf (sg_bipush dX6_pushEntry_57 (by decide))) (Cs_lf (sg_clt dX6_pushEntry_59 (by decide))))))) (Cs_nd (Cs_nd (Cs_nd (Cs_lf (sg_aload_n dX6_pushEntry_62 rfl)) (Cs_lf (sg_iload dX6_pushEntry_63))) (Cs_nd (Cs_lf (sg_iconst dX6_pushEntry_65 (by decide))) (Cs_nd (Cs_lf (sg_iadd dX6_pushEntry_66)) (Cs_lf (sg_aload_n dX6_pushEntry_67 rfl))))) (Cs_nd (Cs_nd (Cs_lf (sg_aload_n dX6_pushEntry_68 rfl)) (Cs_nd (Cs_lf (sg_iload_n dX6_pushEntry_69 rfl)) (Cs_lf (sg_invV (mid := 25) (ci := 1) (by decide +kernel) dX6_pushEntry_70 ok_25 rfl w_685 w_459 w_460)))) (Cs_nd (Cs_lf (sg_invV (mid := 83) (ci := 5) (by decide +kernel) dX6_pushEntry_73 ok_83 rfl w_677 w_679 ws_22)) (Cs_nd (Cs_lf (sg_invV (mid := 69) (ci := 4) (by decide +kernel) dX6_pushEntry_76 ok_69 rfl w_681 w_682 w_683)) (Cs_lf (sg_vret dX6_pushEntry_79 rfl))))))))
theorem dX6_pushRest_0 : decode cX6_pushRest 0 = .ok (.aload_n 2, 1) := by decide +kernel
theorem dX6_pushRest_1 : decode cX6_pushRest 1 = .ok (.invokevirtual 73, 3) := by decide +kernel
theorem dX6_pushRest_4 : decode cX6_pushRest 4 = .ok (.aload_n 1, 1) := by decide +kernel
theorem dX6_pushRest_5 : decode cX6_pushRest 5 = .ok (.getfield 98, 3) := by decide +kernel
theorem dX6_pushRest_8 : decode cX6_pushRest 8 = .ok (.isub, 1) := by decide +kernel
theorem dX6_pushRest_9 : decode cX6_pushRest 9 = .ok (.istore_n 3, 1) := by decide +kernel
theorem dX6_pushRest_10 : decode cX6_pushRest 10 = .ok (.aload_n 2, 1) := by decide +kernel
theorem dX6_pushRest_11 : decode cX6_pushRest 11 = .ok (.aload_n 1, 1) := by decide +kernel
theorem dX6_pushRest_12 : decode cX6_pushRest 12 = .ok (.getfield 48, 3) := by decide +kernel
theorem dX6_pushRest_15 : decode cX6_pushRest 15 = .ok (.aload_n 1, 1) := by decide +kernel
theorem dX6_pushRest_16 : decode cX6_pushRest 16 = .ok (.getfield 98, 3) := by decide +kernel
theorem dX6_pushRest_19 : decode cX6_pushRest 19 = .ok (.aload_n 1, 1) := by decide +kernel
theorem dX6_pushRest_20 : decode cX6_pushRest 20 = .ok (.getfield 48, 3) := by decide +kernel
theorem dX6_pushRest_23 : decode cX6_pushRest 23 = .ok (.invokevirtual 73, 3) := by decide +kernel
theorem dX6_pushRest_26 : decode cX6_pushRest 26 = .ok (.aload_n 1, 1) := by decide +kernel
theorem dX6_pushRest_27 : decode cX6_pushRest 27 = .ok (.getfield 98, 3) := by decide +kernel
theorem dX6_pushRest_30 : decode cX6_pushRest 30 = .ok (.isub, 1) := by decide +kernel
theorem dX6_pushRest_31 : decode cX6_pushRest 31 = .ok (.invokevirtual 81, 3) := by decide +kernel
theorem dX6_pushRest_34 : decode cX6_pushRest 34 = .ok (.aload_n 1, 1) := by decide +kernel
theorem dX6_pushRest_35 : decode cX6_pushRest 35 = .ok (.invokevirtual 102, 3) := by decide +kernel
theorem dX6_pushRest_38 : decode cX6_pushRest 38 = .ok (.istore 4, 2) := by decide +kernel
theorem dX6_pushRest_40 : decode cX6_pushRest 40 = .ok (.iload 4, 2) := by decide +kernel
theorem dX6_pushRest_42 : decode cX6_pushRest 42 = .ok (.aload_n 1, 1) := by decide +kernel
theorem dX6_pushRest_43 : decode cX6_pushRest 43 = .ok (.invokevirtual 105, 3) := by decide +kernel
theorem dX6_pushRest_46 : decode cX6_pushRest 46 = .ok (.if_icmp .ge 38, 3) := by decide +kernel
theorem dX6_pushRest_49 : decode cX6_pushRest 49 = .ok (.aload_n 1, 1) := by decide +kernel
theorem dX6_pushRest_50 : decode cX6_pushRest 50 = .ok (.iload 4, 2) := by decide +kernel
theorem dX6_pushRest_52 : decode cX6_pushRest 52 = .ok (.invokevirtual 108, 3) := by decide +kernel
theorem dX6_pushRest_55 : decode cX6_pushRest 55 = .ok (.istore 5, 2) := by decide +kernel
theorem dX6_pushRest_57 : decode cX6_pushRest 57 = .ok (.aload_n 2, 1) := by decide +kernel
theorem dX6_pushRest_58 : decode cX6_pushRest 58 = .ok (.iload 5, 2) := by decide +kernel
theorem dX6_pushRest_60 : decode cX6_pushRest 60 = .ok (.iload_n 3, 1) := by decide +kernel
theorem dX6_pushRest_61 : decode cX6_pushRest 61 = .ok (.iadd, 1) := by decide +kernel
theorem dX6_pushRest_62 : decode cX6_pushRest 62 = .ok (.aload_n 0, 1) := by decide +kernel
theorem dX6_pushRest_63 : decode cX6_pushRest 63 = .ok (.aload_n 1, 1) := by decide +kernel
theorem dX6_pushRest_64 : decode cX6_pushRest 64 = .ok (.getfield 48, 3) := by decide +kernel
theorem dX6_pushRest_67 : decode cX6_pushRest 67 = .ok (.iload 5, 2) := by decide +kernel
theorem dX6_pushRest_69 : decode cX6_pushRest 69 = .ok (.invokevirtual 111, 3) := by decide +kernel
theorem dX6_pushRest_72 : decode cX6_pushRest 72 = .ok (.invokevirtual 88, 3) := by decide +kernel
theorem dX6_pushRest_75 : decode cX6_pushRest 75 = .ok (.invokevirtual 91, 3) := by decide +kernel
theorem dX6_pushRest_78 : decode cX6_pushRest 78 = .ok (.iinc 4 1, 3) := by decide +kernel
theorem dX6_pushRest_81 : decode cX6_pushRest 81 = .ok (.goto (-41), 3) := by decide +kernel
theorem dX6_pushRest_84 : decode cX6_pushRest 84 = .ok (.return_, 1) := by decide +kernel
set_option maxRecDepth 20000 in
theorem s_WR_pushRest (E : XE) : Cs E (yX6_pushRest, cX6_pushRest, 6, none) (k_WR_pushRest) := (Cs_nd (Cs_nd (Cs_nd (Cs_nd (Cs_nd (Cs_lf (sg_aload_n dX6_pushRest_0 rfl)) (Cs_lf (sg_invV (mid := 61) (ci := 4) (by decide +kernel) dX6_pushRest_1 ok_61 rfl w_669 w_191 w_192))) (Cs_nd (Cs_lf (sg_aload_n dX6_pushRest_4 rfl)) (Cs_nd (Cs_lf (sg_getf dX6_pushRest_5 rfl inX0 (by decide) w_132)) (Cs_lf (sg_isub dX6_pushRest_8))))) (Cs_nd (Cs_nd (Cs_lf (sg_istore_n dX6_pushRest_9 rfl (by decide))) (Cs_lf (sg_aload_n dX6_pushRest_10 rfl))) (Cs_nd (Cs_lf (sg_aload_n dX6_pushRest_11 rfl)) (Cs_nd (Cs_lf (sg_getf dX6_pushRest_12 rfl inX0 (by decide) w_128)) (Cs_lf (sg_aload_n dX6_pushRest_15 rfl)))))) (Cs_nd (Cs_nd (Cs_nd (Cs_lf (sg_getf dX6_pushRest_16 rfl inX0 (by decide) w_132)) (Cs_lf (sg_aload_n dX6_pushRest_19 rfl))) (Cs_nd (Cs_lf (sg_getf dX6_pushRest_20 rfl inX0 (by decide) w_128)) (Cs_nd (Cs_lf (sg_invV (mid := 61) (ci := 4) (by decide +kernel) dX6_pushRest_23 ok_61 rfl w_669 w_191 w_192)) (Cs_lf (sg_aload_n dX6_pushRest_26 rfl))))) (Cs_nd (Cs_nd (Cs_lf (sg_getf dX6_pushRest_27 rfl inX0 (by decide) w_132)) (Cs_nd (Cs_lf (sg_isub dX6_pushRest_30)) (Cs_lf (sg_invV (mid := 70) (ci := 4) (by decide +kernel) dX6_pushRest_31 ok_70 rfl w_675 w_216 w_217)))) (Cs_nd (Cs_lf (sg_aload_n dX6_pushRest_34 rfl)) (Cs_nd (Cs_lf (sg_invV (mid := 6) (ci := 0) (by decide +kernel) dX6_pushRest_35 ok_6 rfl w_690 w_634 w_635)) (Cs_lf (sg_istore dX6_pushRest_38 (by decide)))))))) (Cs_nd (Cs_nd (Cs_nd (Cs_nd (Cs_lf (sg_iload dX6_pushRest_40)) (Cs_lf (sg_aload_n dX6_pushRest_42 rfl))) (Cs_nd (Cs_lf (sg_invV (mid := 3) (ci := 0) (by decide +kernel) dX6_pushRest_43 ok_3 rfl w_691 w_358 w_359)) (Cs_nd (Cs_lf (sg_cge dX6_pushRest_46 (by decide))) (Cs_lf (sg_aload_n dX6_pushRest_49 rfl))))) (Cs_nd (Cs_nd (Cs_lf (sg_iload dX6_pushRest_50)) (Cs_nd (Cs_lf (sg_invV (mid := 4) (ci := 0) (by decide +kernel) dX6_pushRest_52 ok_4 rfl w_692 w_362 w_363)) (Cs_lf (sg_istore dX6_pushRest_55 (by decide))))) (Cs_nd (Cs_lf (sg_aload_n dX6_pushRest_57 rfl)) (Cs_nd (Cs_lf (sg_iload dX6_pushRest_58)) (Cs_lf (sg_iload_n dX6_pushRest_60 rfl)))))) (Cs_nd (Cs_nd (Cs_nd (Cs_lf (sg_iadd dX6_pushRest_61)) (Cs_lf (sg_aload_n dX6_pushRest_62 rfl))) (Cs_nd (Cs_lf (sg_aload_n dX6_pushRest_63 rfl)) (Cs_nd (Cs_lf (sg_getf dX6_pushRest_64 rfl inX0 (by decide) w_128)) (Cs_lf (sg_iload dX6_pushRest_67))))) (Cs_nd (Cs_nd (Cs_lf (sg_invV (mid := 64) (ci := 4) (by decide +kernel) dX6_pushRest_69 ok_64 rfl w_693 w_291 w_292)) (Cs_nd (Cs_lf (sg_invV (mid := 83) (ci := 5) (by decide +kernel) dX6_pushRest_72 ok_83 rfl w_677 w_679 ws_22)) (Cs_lf (sg_invV (mid := 69) (ci := 4) (by decide +kernel) dX6_pushRest_75 ok_69 rfl w_681 w_682 w_683)))) (Cs_nd (Cs_lf (sg_iinc dX6_pushRest_78 (by decide) (by decide))) (Cs_nd (Cs_lf (sg_goto dX6_pushRest_81 (by decide))) (Cs_lf (sg_vret dX6_pushRest_84 rfl))))))))
