/-! the code is sound: 91.csA -/
theorem dX1_init_0 : decode cX1_init 0 = .ok (.aload_n 0, 1) := by decide +kernel
theorem dX1_init_1 : decode cX1_init 1 = .ok (.invokespecial 3, 3) := by decide +kernel
theorem dX1_init_4 : decode cX1_init 4 = .ok (.aload_n 0, 1) := by decide +kernel
theorem dX1_init_5 : decode cX1_init 5 = .ok (.new 9, 3) := by decide +kernel
theorem dX1_init_8 : decode cX1_init 8 = .ok (.dup, 1) := by decide +kernel
theorem dX1_init_9 : decode cX1_init 9 = .ok (.invokespecial 11, 3) := by decide +kernel
theorem dX1_init_12 : decode cX1_init 12 = .ok (.putfield 12, 3) := by decide +kernel
theorem dX1_init_15 : decode cX1_init 15 = .ok (.aload_n 0, 1) := by decide +kernel
theorem dX1_init_16 : decode cX1_init 16 = .ok (.bipush 61, 2) := by decide +kernel
theorem dX1_init_18 : decode cX1_init 18 = .ok (.newarray .int, 2) := by decide +kernel
theorem dX1_init_20 : decode cX1_init 20 = .ok (.putfield 18, 3) := by decide +kernel
theorem dX1_init_23 : decode cX1_init 23 = .ok (.aload_n 0, 1) := by decide +kernel
theorem dX1_init_24 : decode cX1_init 24 = .ok (.iconst 0, 1) := by decide +kernel
theorem dX1_init_25 : decode cX1_init 25 = .ok (.putfield 22, 3) := by decide +kernel
theorem dX1_init_28 : decode cX1_init 28 = .ok (.return_, 1) := by decide +kernel
set_option maxRecDepth 20000 in
theorem s_PL_init (E : XE) : Cs E (yX1_init, cX1_init, 1, none) (k_PL_init) := (Cs_nd (Cs_nd (Cs_nd (Cs_lf (sg_aload_n dX1_init_0 rfl)) (Cs_nd (Cs_lf (sg_obj dX1_init_1 w_68 w_38 w_39)) (Cs_lf (sg_aload_n dX1_init_4 rfl)))) (Cs_nd (Cs_nd (Cs_lf (sg_new dX1_init_5 rfl inX4 tyX4_ok (by decide) w_69 w_41 w_2)) (Cs_lf (sg_dup dX1_init_8))) (Cs_nd (Cs_lf (sg_invIN (mid := 60) (by decide +kernel) dX1_init_9 ok_60 rfl rfl (host := RX7) (by decide +kernel) w_43)) (Cs_lf (sg_putF dX1_init_12 rfl inX1 tyX1_ok nmX1 (by decide) w_71 rfl rfl rfl (tyX1_ok 0 (by decide)) (ok_obj _)))))) (Cs_nd (Cs_nd (Cs_nd (Cs_lf (sg_aload_n dX1_init_15 rfl)) (Cs_lf (sg_bipush dX1_init_16 (by decide)))) (Cs_nd (Cs_lf (sg_newI dX1_init_18 w_83)) (Cs_lf (sg_putF dX1_init_20 rfl inX1 tyX1_ok nmX1 (by decide) w_74 rfl rfl rfl (tyX1_ok 1 (by decide)) (ok_arr _))))) (Cs_nd (Cs_nd (Cs_lf (sg_aload_n dX1_init_23 rfl)) (Cs_lf (sg_iconst dX1_init_24 (by decide)))) (Cs_nd (Cs_lf (sg_putf dX1_init_25 rfl inX1 tyX1_ok nmX1 (by decide) w_75 rfl (tyX1_ok 2 (by decide)) ok_int)) (Cs_lf (sg_vret dX1_init_28 rfl))))))
theorem dX1_places_0 : decode cX1_places 0 = .ok (.aload_n 0, 1) := by decide +kernel
theorem dX1_places_1 : decode cX1_places 1 = .ok (.getfield 22, 3) := by decide +kernel
theorem dX1_places_4 : decode cX1_places 4 = .ok (.ireturn, 1) := by decide +kernel
set_option maxRecDepth 20000 in
theorem s_PL_places (E : XE) : Cs E (yX1_places, cX1_places, 1, some .int) (k_PL_places) := (Cs_nd (Cs_lf (sg_aload_n dX1_places_0 rfl)) (Cs_nd (Cs_lf (sg_getf dX1_places_1 rfl inX1 (by decide) w_75)) (Cs_lf (sg_iret dX1_places_4 rfl))))
theorem dX1_has_0 : decode cX1_has 0 = .ok (.iload_n 1, 1) := by decide +kernel
theorem dX1_has_1 : decode cX1_has 1 = .ok (.ifCond .lt 24, 3) := by decide +kernel
theorem dX1_has_4 : decode cX1_has 4 = .ok (.iload_n 1, 1) := by decide +kernel
theorem dX1_has_5 : decode cX1_has 5 = .ok (.aload_n 0, 1) := by decide +kernel
theorem dX1_has_6 : decode cX1_has 6 = .ok (.getfield 22, 3) := by decide +kernel
theorem dX1_has_9 : decode cX1_has 9 = .ok (.if_icmp .ge 16, 3) := by decide +kernel
theorem dX1_has_12 : decode cX1_has 12 = .ok (.iload_n 1, 1) := by decide +kernel
theorem dX1_has_13 : decode cX1_has 13 = .ok (.aload_n 0, 1) := by decide +kernel
theorem dX1_has_14 : decode cX1_has 14 = .ok (.getfield 18, 3) := by decide +kernel
theorem dX1_has_17 : decode cX1_has 17 = .ok (.arraylength, 1) := by decide +kernel
theorem dX1_has_18 : decode cX1_has 18 = .ok (.if_icmp .ge 7, 3) := by decide +kernel
theorem dX1_has_21 : decode cX1_has 21 = .ok (.iconst 1, 1) := by decide +kernel
theorem dX1_has_22 : decode cX1_has 22 = .ok (.goto 4, 3) := by decide +kernel
theorem dX1_has_25 : decode cX1_has 25 = .ok (.iconst 0, 1) := by decide +kernel
theorem dX1_has_26 : decode cX1_has 26 = .ok (.ireturn, 1) := by decide +kernel
set_option maxRecDepth 20000 in
theorem s_PL_has (E : XE) : Cs E (yX1_has, cX1_has, 2, some .boolean) (k_PL_has) := (Cs_nd (Cs_nd (Cs_nd (Cs_lf (sg_iload_n dX1_has_0 rfl)) (Cs_nd (Cs_lf (sg_iflt dX1_has_1 (by decide))) (Cs_lf (sg_iload_n dX1_has_4 rfl)))) (Cs_nd (Cs_nd (Cs_lf (sg_aload_n dX1_has_5 rfl)) (Cs_lf (sg_getf dX1_has_6 rfl inX1 (by decide) w_75))) (Cs_nd (Cs_lf (sg_cge dX1_has_9 (by decide))) (Cs_lf (sg_iload_n dX1_has_12 rfl))))) (Cs_nd (Cs_nd (Cs_nd (Cs_lf (sg_aload_n dX1_has_13 rfl)) (Cs_lf (sg_getf dX1_has_14 rfl inX1 (by decide) w_74))) (Cs_nd (Cs_lf (sg_alen dX1_has_17)) (Cs_lf (sg_cge dX1_has_18 (by decide))))) (Cs_nd (Cs_nd (Cs_lf (sg_iconst dX1_has_21 (by decide))) (Cs_lf (sg_goto dX1_has_22 (by decide)))) (Cs_nd (Cs_lf (sg_iconst dX1_has_25 (by decide))) (Cs_lf (sg_zret dX1_has_26 rfl ⟨by decide, by decide⟩))))))
theorem dX1_begin_0 : decode cX1_begin 0 = .ok (.aload_n 0, 1) := by decide +kernel
theorem dX1_begin_1 : decode cX1_begin 1 = .ok (.getfield 18, 3) := by decide +kernel
theorem dX1_begin_4 : decode cX1_begin 4 = .ok (.iconst 0, 1) := by decide +kernel
theorem dX1_begin_5 : decode cX1_begin 5 = .ok (.invokestatic 26, 3) := by decide +kernel
theorem dX1_begin_8 : decode cX1_begin 8 = .ok (.aload_n 0, 1) := by decide +kernel
theorem dX1_begin_9 : decode cX1_begin 9 = .ok (.iload_n 1, 1) := by decide +kernel
theorem dX1_begin_10 : decode cX1_begin 10 = .ok (.putfield 22, 3) := by decide +kernel
theorem dX1_begin_13 : decode cX1_begin 13 = .ok (.return_, 1) := by decide +kernel
set_option maxRecDepth 20000 in
theorem s_PL_begin (E : XE) : Cs E (yX1_begin, cX1_begin, 2, none) (k_PL_begin) := (Cs_nd (Cs_nd (Cs_nd (Cs_lf (sg_aload_n dX1_begin_0 rfl)) (Cs_lf (sg_getf dX1_begin_1 rfl inX1 (by decide) w_74))) (Cs_nd (Cs_lf (sg_iconst dX1_begin_4 (by decide))) (Cs_lf (sg_inv (mid := 191) (by decide +kernel) dX1_begin_5 ok_191 w_230 w_231)))) (Cs_nd (Cs_nd (Cs_lf (sg_aload_n dX1_begin_8 rfl)) (Cs_lf (sg_iload_n dX1_begin_9 rfl))) (Cs_nd (Cs_lf (sg_putf dX1_begin_10 rfl inX1 tyX1_ok nmX1 (by decide) w_75 rfl (tyX1_ok 2 (by decide)) ok_int)) (Cs_lf (sg_vret dX1_begin_13 rfl)))))
theorem dX1_set_0 : decode cX1_set 0 = .ok (.aload_n 0, 1) := by decide +kernel
theorem dX1_set_1 : decode cX1_set 1 = .ok (.iload_n 1, 1) := by decide +kernel
theorem dX1_set_2 : decode cX1_set 2 = .ok (.invokevirtual 32, 3) := by decide +kernel
theorem dX1_set_5 : decode cX1_set 5 = .ok (.ifCond .eq 10, 3) := by decide +kernel
theorem dX1_set_8 : decode cX1_set 8 = .ok (.aload_n 0, 1) := by decide +kernel
theorem dX1_set_9 : decode cX1_set 9 = .ok (.getfield 18, 3) := by decide +kernel
theorem dX1_set_12 : decode cX1_set 12 = .ok (.iload_n 1, 1) := by decide +kernel
theorem dX1_set_13 : decode cX1_set 13 = .ok (.iload_n 2, 1) := by decide +kernel
theorem dX1_set_14 : decode cX1_set 14 = .ok (.iastore, 1) := by decide +kernel
theorem dX1_set_15 : decode cX1_set 15 = .ok (.return_, 1) := by decide +kernel
set_option maxRecDepth 20000 in
theorem s_PL_set (E : XE) : Cs E (yX1_set, cX1_set, 3, none) (k_PL_set) := (Cs_nd (Cs_nd (Cs_nd (Cs_lf (sg_aload_n dX1_set_0 rfl)) (Cs_lf (sg_iload_n dX1_set_1 rfl))) (Cs_nd (Cs_lf (sg_invV (mid := 17) (ci := 1) (by decide +kernel) dX1_set_2 ok_17 rfl w_299 w_300 w_301)) (Cs_nd (Cs_lf (sg_ifeq dX1_set_5 (by decide))) (Cs_lf (sg_aload_n dX1_set_8 rfl))))) (Cs_nd (Cs_nd (Cs_lf (sg_getf dX1_set_9 rfl inX1 (by decide) w_74)) (Cs_lf (sg_iload_n dX1_set_12 rfl))) (Cs_nd (Cs_lf (sg_iload_n dX1_set_13 rfl)) (Cs_nd (Cs_lf (sg_iast dX1_set_14)) (Cs_lf (sg_vret dX1_set_15 rfl))))))
theorem dX1_copy_0 : decode cX1_copy 0 = .ok (.aload_n 0, 1) := by decide +kernel
theorem dX1_copy_1 : decode cX1_copy 1 = .ok (.getfield 12, 3) := by decide +kernel
theorem dX1_copy_4 : decode cX1_copy 4 = .ok (.aload_n 1, 1) := by decide +kernel
theorem dX1_copy_5 : decode cX1_copy 5 = .ok (.getfield 12, 3) := by decide +kernel
theorem dX1_copy_8 : decode cX1_copy 8 = .ok (.iconst 0, 1) := by decide +kernel
theorem dX1_copy_9 : decode cX1_copy 9 = .ok (.aload_n 1, 1) := by decide +kernel
theorem dX1_copy_10 : decode cX1_copy 10 = .ok (.getfield 12, 3) := by decide +kernel
theorem dX1_copy_13 : decode cX1_copy 13 = .ok (.invokevirtual 36, 3) := by decide +kernel
theorem dX1_copy_16 : decode cX1_copy 16 = .ok (.invokevirtual 40, 3) := by decide +kernel
theorem dX1_copy_19 : decode cX1_copy 19 = .ok (.pop, 1) := by decide +kernel
theorem dX1_copy_20 : decode cX1_copy 20 = .ok (.aload_n 1, 1) := by decide +kernel
theorem dX1_copy_21 : decode cX1_copy 21 = .ok (.getfield 18, 3) := by decide +kernel
theorem dX1_copy_24 : decode cX1_copy 24 = .ok (.iconst 0, 1) := by decide +kernel
theorem dX1_copy_25 : decode cX1_copy 25 = .ok (.aload_n 0, 1) := by decide +kernel
theorem dX1_copy_26 : decode cX1_copy 26 = .ok (.getfield 18, 3) := by decide +kernel
theorem dX1_copy_29 : decode cX1_copy 29 = .ok (.iconst 0, 1) := by decide +kernel
theorem dX1_copy_30 : decode cX1_copy 30 = .ok (.bipush 61, 2) := by decide +kernel
theorem dX1_copy_32 : decode cX1_copy 32 = .ok (.invokestatic 44, 3) := by decide +kernel
theorem dX1_copy_35 : decode cX1_copy 35 = .ok (.aload_n 0, 1) := by decide +kernel
theorem dX1_copy_36 : decode cX1_copy 36 = .ok (.aload_n 1, 1) := by decide +kernel
theorem dX1_copy_37 : decode cX1_copy 37 = .ok (.getfield 22, 3) := by decide +kernel
theorem dX1_copy_40 : decode cX1_copy 40 = .ok (.putfield 22, 3) := by decide +kernel
theorem dX1_copy_43 : decode cX1_copy 43 = .ok (.return_, 1) := by decide +kernel
set_option maxRecDepth 20000 in
theorem s_PL_copy (E : XE) : Cs E (yX1_copy, cX1_copy, 2, none) (k_PL_copy) := (Cs_nd (Cs_nd (Cs_nd (Cs_nd (Cs_lf (sg_aload_n dX1_copy_0 rfl)) (Cs_lf (sg_getf dX1_copy_1 rfl inX1 (by decide) w_71))) (Cs_nd (Cs_lf (sg_aload_n dX1_copy_4 rfl)) (Cs_nd (Cs_lf (sg_getf dX1_copy_5 rfl inX1 (by decide) w_71)) (Cs_lf (sg_iconst dX1_copy_8 (by decide)))))) (Cs_nd (Cs_nd (Cs_lf (sg_aload_n dX1_copy_9 rfl)) (Cs_nd (Cs_lf (sg_getf dX1_copy_10 rfl inX1 (by decide) w_71)) (Cs_lf (sg_invV (mid := 61) (ci := 4) (by decide +kernel) dX1_copy_13 ok_61 rfl w_540 w_191 w_192)))) (Cs_nd (Cs_lf (sg_invV (mid := 71) (ci := 4) (by decide +kernel) dX1_copy_16 ok_71 rfl w_541 w_208 w_209)) (Cs_nd (Cs_lf (sg_pop dX1_copy_19)) (Cs_lf (sg_aload_n dX1_copy_20 rfl)))))) (Cs_nd (Cs_nd (Cs_nd (Cs_lf (sg_getf dX1_copy_21 rfl inX1 (by decide) w_74)) (Cs_nd (Cs_lf (sg_iconst dX1_copy_24 (by decide))) (Cs_lf (sg_aload_n dX1_copy_25 rfl)))) (Cs_nd (Cs_lf (sg_getf dX1_copy_26 rfl inX1 (by decide) w_74)) (Cs_nd (Cs_lf (sg_iconst dX1_copy_29 (by decide))) (Cs_lf (sg_bipush dX1_copy_30 (by decide)))))) (Cs_nd (Cs_nd (Cs_lf (sg_acp dX1_copy_32 w_542 w_225 w_224 w_8)) (Cs_nd (Cs_lf (sg_aload_n dX1_copy_35 rfl)) (Cs_lf (sg_aload_n dX1_copy_36 rfl)))) (Cs_nd (Cs_lf (sg_getf dX1_copy_37 rfl inX1 (by decide) w_75)) (Cs_nd (Cs_lf (sg_putf dX1_copy_40 rfl inX1 tyX1_ok nmX1 (by decide) w_75 rfl (tyX1_ok 2 (by decide)) ok_int)) (Cs_lf (sg_vret dX1_copy_43 rfl)))))))
theorem dX1_start_0 : decode cX1_start 0 = .ok (.iload_n 1, 1) := by decide +kernel
theorem dX1_start_1 : decode cX1_start 1 = .ok (.ifCond .lt 29, 3) := by decide +kernel
theorem dX1_start_4 : decode cX1_start 4 = .ok (.iload_n 1, 1) := by decide +kernel
theorem dX1_start_5 : decode cX1_start 5 = .ok (.aload_n 0, 1) := by decide +kernel
theorem dX1_start_6 : decode cX1_start 6 = .ok (.getfield 22, 3) := by decide +kernel
theorem dX1_start_9 : decode cX1_start 9 = .ok (.if_icmp .ge 21, 3) := by decide +kernel
theorem dX1_start_12 : decode cX1_start 12 = .ok (.iload_n 1, 1) := by decide +kernel
theorem dX1_start_13 : decode cX1_start 13 = .ok (.aload_n 0, 1) := by decide +kernel
theorem dX1_start_14 : decode cX1_start 14 = .ok (.getfield 18, 3) := by decide +kernel
theorem dX1_start_17 : decode cX1_start 17 = .ok (.arraylength, 1) := by decide +kernel
theorem dX1_start_18 : decode cX1_start 18 = .ok (.if_icmp .ge 12, 3) := by decide +kernel
theorem dX1_start_21 : decode cX1_start 21 = .ok (.aload_n 0, 1) := by decide +kernel
theorem dX1_start_22 : decode cX1_start 22 = .ok (.getfield 18, 3) := by decide +kernel
theorem dX1_start_25 : decode cX1_start 25 = .ok (.iload_n 1, 1) := by decide +kernel
theorem dX1_start_26 : decode cX1_start 26 = .ok (.iaload, 1) := by decide +kernel
theorem dX1_start_27 : decode cX1_start 27 = .ok (.goto 4, 3) := by decide +kernel
theorem dX1_start_30 : decode cX1_start 30 = .ok (.iconst 0, 1) := by decide +kernel
theorem dX1_start_31 : decode cX1_start 31 = .ok (.ireturn, 1) := by decide +kernel
set_option maxRecDepth 20000 in
theorem s_PL_start (E : XE) : Cs E (yX1_start, cX1_start, 2, some .int) (k_PL_start) := (Cs_nd (Cs_nd (Cs_nd (Cs_nd (Cs_lf (sg_iload_n dX1_start_0 rfl)) (Cs_lf (sg_iflt dX1_start_1 (by decide)))) (Cs_nd (Cs_lf (sg_iload_n dX1_start_4 rfl)) (Cs_lf (sg_aload_n dX1_start_5 rfl)))) (Cs_nd (Cs_nd (Cs_lf (sg_getf dX1_start_6 rfl inX1 (by decide) w_75)) (Cs_lf (sg_cge dX1_start_9 (by decide)))) (Cs_nd (Cs_lf (sg_iload_n dX1_start_12 rfl)) (Cs_nd (Cs_lf (sg_aload_n dX1_start_13 rfl)) (Cs_lf (sg_getf dX1_start_14 rfl inX1 (by decide) w_74)))))) (Cs_nd (Cs_nd (Cs_nd (Cs_lf (sg_alen dX1_start_17)) (Cs_lf (sg_cge dX1_start_18 (by decide)))) (Cs_nd (Cs_lf (sg_aload_n dX1_start_21 rfl)) (Cs_lf (sg_getf dX1_start_22 rfl inX1 (by decide) w_74)))) (Cs_nd (Cs_nd (Cs_lf (sg_iload_n dX1_start_25 rfl)) (Cs_lf (sg_iald dX1_start_26))) (Cs_nd (Cs_lf (sg_goto dX1_start_27 (by decide))) (Cs_nd (Cs_lf (sg_iconst dX1_start_30 (by decide))) (Cs_lf (sg_iret dX1_start_31 rfl)))))))
theorem dX1_tag_0 : decode cX1_tag 0 = .ok (.aload_n 0, 1) := by decide +kernel
theorem dX1_tag_1 : decode cX1_tag 1 = .ok (.iload_n 1, 1) := by decide +kernel
theorem dX1_tag_2 : decode cX1_tag 2 = .ok (.invokevirtual 50, 3) := by decide +kernel
theorem dX1_tag_5 : decode cX1_tag 5 = .ok (.istore_n 2, 1) := by decide +kernel
theorem dX1_tag_6 : decode cX1_tag 6 = .ok (.iload_n 2, 1) := by decide +kernel
theorem dX1_tag_7 : decode cX1_tag 7 = .ok (.ifCond .ne 7, 3) := by decide +kernel
theorem dX1_tag_10 : decode cX1_tag 10 = .ok (.iconst 0, 1) := by decide +kernel
theorem dX1_tag_11 : decode cX1_tag 11 = .ok (.goto 11, 3) := by decide +kernel
theorem dX1_tag_14 : decode cX1_tag 14 = .ok (.aload_n 0, 1) := by decide +kernel
theorem dX1_tag_15 : decode cX1_tag 15 = .ok (.getfield 12, 3) := by decide +kernel
theorem dX1_tag_18 : decode cX1_tag 18 = .ok (.iload_n 2, 1) := by decide +kernel
theorem dX1_tag_19 : decode cX1_tag 19 = .ok (.invokevirtual 54, 3) := by decide +kernel
theorem dX1_tag_22 : decode cX1_tag 22 = .ok (.ireturn, 1) := by decide +kernel
set_option maxRecDepth 20000 in
theorem s_PL_tag (E : XE) : Cs E (yX1_tag, cX1_tag, 3, some .int) (k_PL_tag) := (Cs_nd (Cs_nd (Cs_nd (Cs_lf (sg_aload_n dX1_tag_0 rfl)) (Cs_nd (Cs_lf (sg_iload_n dX1_tag_1 rfl)) (Cs_lf (sg_invV (mid := 21) (ci := 1) (by decide +kernel) dX1_tag_2 ok_21 rfl w_377 w_378 w_379)))) (Cs_nd (Cs_lf (sg_istore_n dX1_tag_5 rfl (by decide))) (Cs_nd (Cs_lf (sg_iload_n dX1_tag_6 rfl)) (Cs_lf (sg_ifne dX1_tag_7 (by decide)))))) (Cs_nd (Cs_nd (Cs_lf (sg_iconst dX1_tag_10 (by decide))) (Cs_nd (Cs_lf (sg_goto dX1_tag_11 (by decide))) (Cs_lf (sg_aload_n dX1_tag_14 rfl)))) (Cs_nd (Cs_nd (Cs_lf (sg_getf dX1_tag_15 rfl inX1 (by decide) w_71)) (Cs_lf (sg_iload_n dX1_tag_18 rfl))) (Cs_nd (Cs_lf (sg_invV (mid := 63) (ci := 4) (by decide +kernel) dX1_tag_19 ok_63 rfl w_381 w_278 w_279)) (Cs_lf (sg_iret dX1_tag_22 rfl))))))
theorem dX1_twoOf_0 : decode cX1_twoOf 0 = .ok (.aload_n 0, 1) := by decide +kernel
theorem dX1_twoOf_1 : decode cX1_twoOf 1 = .ok (.iload_n 1, 1) := by decide +kernel
theorem dX1_twoOf_2 : decode cX1_twoOf 2 = .ok (.invokevirtual 50, 3) := by decide +kernel
theorem dX1_twoOf_5 : decode cX1_twoOf 5 = .ok (.istore_n 3, 1) := by decide +kernel
theorem dX1_twoOf_6 : decode cX1_twoOf 6 = .ok (.iload_n 3, 1) := by decide +kernel
theorem dX1_twoOf_7 : decode cX1_twoOf 7 = .ok (.ifCond .ne 7, 3) := by decide +kernel
theorem dX1_twoOf_10 : decode cX1_twoOf 10 = .ok (.iconst 0, 1) := by decide +kernel
theorem dX1_twoOf_11 : decode cX1_twoOf 11 = .ok (.goto 13, 3) := by decide +kernel
theorem dX1_twoOf_14 : decode cX1_twoOf 14 = .ok (.aload_n 0, 1) := by decide +kernel
theorem dX1_twoOf_15 : decode cX1_twoOf 15 = .ok (.getfield 12, 3) := by decide +kernel
theorem dX1_twoOf_18 : decode cX1_twoOf 18 = .ok (.iload_n 3, 1) := by decide +kernel
theorem dX1_twoOf_19 : decode cX1_twoOf 19 = .ok (.iload_n 2, 1) := by decide +kernel
theorem dX1_twoOf_20 : decode cX1_twoOf 20 = .ok (.iadd, 1) := by decide +kernel
theorem dX1_twoOf_21 : decode cX1_twoOf 21 = .ok (.invokevirtual 57, 3) := by decide +kernel
theorem dX1_twoOf_24 : decode cX1_twoOf 24 = .ok (.ireturn, 1) := by decide +kernel
set_option maxRecDepth 20000 in
theorem s_PL_twoOf (E : XE) : Cs E (yX1_twoOf, cX1_twoOf, 4, some .int) (k_PL_twoOf) := (Cs_nd (Cs_nd (Cs_nd (Cs_lf (sg_aload_n dX1_twoOf_0 rfl)) (Cs_nd (Cs_lf (sg_iload_n dX1_twoOf_1 rfl)) (Cs_lf (sg_invV (mid := 21) (ci := 1) (by decide +kernel) dX1_twoOf_2 ok_21 rfl w_377 w_378 w_379)))) (Cs_nd (Cs_nd (Cs_lf (sg_istore_n dX1_twoOf_5 rfl (by decide))) (Cs_lf (sg_iload_n dX1_twoOf_6 rfl))) (Cs_nd (Cs_lf (sg_ifne dX1_twoOf_7 (by decide))) (Cs_lf (sg_iconst dX1_twoOf_10 (by decide)))))) (Cs_nd (Cs_nd (Cs_nd (Cs_lf (sg_goto dX1_twoOf_11 (by decide))) (Cs_lf (sg_aload_n dX1_twoOf_14 rfl))) (Cs_nd (Cs_lf (sg_getf dX1_twoOf_15 rfl inX1 (by decide) w_71)) (Cs_lf (sg_iload_n dX1_twoOf_18 rfl)))) (Cs_nd (Cs_nd (Cs_lf (sg_iload_n dX1_twoOf_19 rfl)) (Cs_lf (sg_iadd dX1_twoOf_20))) (Cs_nd (Cs_lf (sg_invV (mid := 64) (ci := 4) (by decide +kernel) dX1_twoOf_21 ok_64 rfl w_403 w_291 w_292)) (Cs_lf (sg_iret dX1_twoOf_24 rfl))))))
theorem dX1_first_0 : decode cX1_first 0 = .ok (.aload_n 0, 1) := by decide +kernel
theorem dX1_first_1 : decode cX1_first 1 = .ok (.iload_n 1, 1) := by decide +kernel
theorem dX1_first_2 : decode cX1_first 2 = .ok (.invokevirtual 60, 3) := by decide +kernel
theorem dX1_first_5 : decode cX1_first 5 = .ok (.bipush 7, 2) := by decide +kernel
theorem dX1_first_7 : decode cX1_first 7 = .ok (.if_icmp .lt 12, 3) := by decide +kernel
theorem dX1_first_10 : decode cX1_first 10 = .ok (.aload_n 0, 1) := by decide +kernel
theorem dX1_first_11 : decode cX1_first 11 = .ok (.iload_n 1, 1) := by decide +kernel
theorem dX1_first_12 : decode cX1_first 12 = .ok (.iconst 1, 1) := by decide +kernel
theorem dX1_first_13 : decode cX1_first 13 = .ok (.invokevirtual 63, 3) := by decide +kernel
theorem dX1_first_16 : decode cX1_first 16 = .ok (.goto 4, 3) := by decide +kernel
theorem dX1_first_19 : decode cX1_first 19 = .ok (.iconst 0, 1) := by decide +kernel
theorem dX1_first_20 : decode cX1_first 20 = .ok (.ireturn, 1) := by decide +kernel
set_option maxRecDepth 20000 in
theorem s_PL_first (E : XE) : Cs E (yX1_first, cX1_first, 2, some .int) (k_PL_first) := (Cs_nd (Cs_nd (Cs_nd (Cs_lf (sg_aload_n dX1_first_0 rfl)) (Cs_nd (Cs_lf (sg_iload_n dX1_first_1 rfl)) (Cs_lf (sg_invV (mid := 22) (ci := 1) (by decide +kernel) dX1_first_2 ok_22 rfl w_373 w_374 w_375)))) (Cs_nd (Cs_lf (sg_bipush dX1_first_5 (by decide))) (Cs_nd (Cs_lf (sg_clt dX1_first_7 (by decide))) (Cs_lf (sg_aload_n dX1_first_10 rfl))))) (Cs_nd (Cs_nd (Cs_lf (sg_iload_n dX1_first_11 rfl)) (Cs_nd (Cs_lf (sg_iconst dX1_first_12 (by decide))) (Cs_lf (sg_invV (mid := 23) (ci := 1) (by decide +kernel) dX1_first_13 ok_23 rfl w_399 w_401 ws_11)))) (Cs_nd (Cs_lf (sg_goto dX1_first_16 (by decide))) (Cs_nd (Cs_lf (sg_iconst dX1_first_19 (by decide))) (Cs_lf (sg_iret dX1_first_20 rfl))))))
theorem dX1_second_0 : decode cX1_second 0 = .ok (.aload_n 0, 1) := by decide +kernel
theorem dX1_second_1 : decode cX1_second 1 = .ok (.iload_n 1, 1) := by decide +kernel
theorem dX1_second_2 : decode cX1_second 2 = .ok (.invokevirtual 60, 3) := by decide +kernel
theorem dX1_second_5 : decode cX1_second 5 = .ok (.bipush 9, 2) := by decide +kernel
theorem dX1_second_7 : decode cX1_second 7 = .ok (.if_icmp .lt 12, 3) := by decide +kernel
theorem dX1_second_10 : decode cX1_second 10 = .ok (.aload_n 0, 1) := by decide +kernel
theorem dX1_second_11 : decode cX1_second 11 = .ok (.iload_n 1, 1) := by decide +kernel
theorem dX1_second_12 : decode cX1_second 12 = .ok (.iconst 3, 1) := by decide +kernel
theorem dX1_second_13 : decode cX1_second 13 = .ok (.invokevirtual 63, 3) := by decide +kernel
theorem dX1_second_16 : decode cX1_second 16 = .ok (.goto 4, 3) := by decide +kernel
theorem dX1_second_19 : decode cX1_second 19 = .ok (.iconst 0, 1) := by decide +kernel
theorem dX1_second_20 : decode cX1_second 20 = .ok (.ireturn, 1) := by decide +kernel
set_option maxRecDepth 20000 in
theorem s_PL_second (E : XE) : Cs E (yX1_second, cX1_second, 2, some .int) (k_PL_second) := (Cs_nd (Cs_nd (Cs_nd (Cs_lf (sg_aload_n dX1_second_0 rfl)) (Cs_nd (Cs_lf (sg_iload_n dX1_second_1 rfl)) (Cs_lf (sg_invV (mid := 22) (ci := 1) (by decide +kernel) dX1_second_2 ok_22 rfl w_373 w_374 w_375)))) (Cs_nd (Cs_lf (sg_bipush dX1_second_5 (by decide))) (Cs_nd (Cs_lf (sg_clt dX1_second_7 (by decide))) (Cs_lf (sg_aload_n dX1_second_10 rfl))))) (Cs_nd (Cs_nd (Cs_lf (sg_iload_n dX1_second_11 rfl)) (Cs_nd (Cs_lf (sg_iconst dX1_second_12 (by decide))) (Cs_lf (sg_invV (mid := 23) (ci := 1) (by decide +kernel) dX1_second_13 ok_23 rfl w_399 w_401 ws_11)))) (Cs_nd (Cs_lf (sg_goto dX1_second_16 (by decide))) (Cs_nd (Cs_lf (sg_iconst dX1_second_19 (by decide))) (Cs_lf (sg_iret dX1_second_20 rfl))))))
theorem dX1_textAt_0 : decode cX1_textAt 0 = .ok (.aload_n 0, 1) := by decide +kernel
theorem dX1_textAt_1 : decode cX1_textAt 1 = .ok (.iload_n 1, 1) := by decide +kernel
theorem dX1_textAt_2 : decode cX1_textAt 2 = .ok (.invokevirtual 50, 3) := by decide +kernel
theorem dX1_textAt_5 : decode cX1_textAt 5 = .ok (.iconst 3, 1) := by decide +kernel
theorem dX1_textAt_6 : decode cX1_textAt 6 = .ok (.iadd, 1) := by decide +kernel
theorem dX1_textAt_7 : decode cX1_textAt 7 = .ok (.ireturn, 1) := by decide +kernel
set_option maxRecDepth 20000 in
theorem s_PL_textAt (E : XE) : Cs E (yX1_textAt, cX1_textAt, 2, some .int) (k_PL_textAt) := (Cs_nd (Cs_nd (Cs_lf (sg_aload_n dX1_textAt_0 rfl)) (Cs_nd (Cs_lf (sg_iload_n dX1_textAt_1 rfl)) (Cs_lf (sg_invV (mid := 21) (ci := 1) (by decide +kernel) dX1_textAt_2 ok_21 rfl w_377 w_378 w_379)))) (Cs_nd (Cs_lf (sg_iconst dX1_textAt_5 (by decide))) (Cs_nd (Cs_lf (sg_iadd dX1_textAt_6)) (Cs_lf (sg_iret dX1_textAt_7 rfl)))))
theorem dX1_textSize_0 : decode cX1_textSize 0 = .ok (.aload_n 0, 1) := by decide +kernel
theorem dX1_textSize_1 : decode cX1_textSize 1 = .ok (.iload_n 1, 1) := by decide +kernel
theorem dX1_textSize_2 : decode cX1_textSize 2 = .ok (.invokevirtual 60, 3) := by decide +kernel
theorem dX1_textSize_5 : decode cX1_textSize 5 = .ok (.iconst 1, 1) := by decide +kernel
theorem dX1_textSize_6 : decode cX1_textSize 6 = .ok (.if_icmp .ne 12, 3) := by decide +kernel
theorem dX1_textSize_9 : decode cX1_textSize 9 = .ok (.aload_n 0, 1) := by decide +kernel
theorem dX1_textSize_10 : decode cX1_textSize 10 = .ok (.iload_n 1, 1) := by decide +kernel
theorem dX1_textSize_11 : decode cX1_textSize 11 = .ok (.iconst 1, 1) := by decide +kernel
theorem dX1_textSize_12 : decode cX1_textSize 12 = .ok (.invokevirtual 63, 3) := by decide +kernel
theorem dX1_textSize_15 : decode cX1_textSize 15 = .ok (.goto 4, 3) := by decide +kernel
theorem dX1_textSize_18 : decode cX1_textSize 18 = .ok (.iconst 0, 1) := by decide +kernel
theorem dX1_textSize_19 : decode cX1_textSize 19 = .ok (.ireturn, 1) := by decide +kernel
set_option maxRecDepth 20000 in
theorem s_PL_textSize (E : XE) : Cs E (yX1_textSize, cX1_textSize, 2, some .int) (k_PL_textSize) := (Cs_nd (Cs_nd (Cs_nd (Cs_lf (sg_aload_n dX1_textSize_0 rfl)) (Cs_nd (Cs_lf (sg_iload_n dX1_textSize_1 rfl)) (Cs_lf (sg_invV (mid := 22) (ci := 1) (by decide +kernel) dX1_textSize_2 ok_22 rfl w_373 w_374 w_375)))) (Cs_nd (Cs_lf (sg_iconst dX1_textSize_5 (by decide))) (Cs_nd (Cs_lf (sg_cne dX1_textSize_6 (by decide))) (Cs_lf (sg_aload_n dX1_textSize_9 rfl))))) (Cs_nd (Cs_nd (Cs_lf (sg_iload_n dX1_textSize_10 rfl)) (Cs_nd (Cs_lf (sg_iconst dX1_textSize_11 (by decide))) (Cs_lf (sg_invV (mid := 23) (ci := 1) (by decide +kernel) dX1_textSize_12 ok_23 rfl w_399 w_401 ws_11)))) (Cs_nd (Cs_lf (sg_goto dX1_textSize_15 (by decide))) (Cs_nd (Cs_lf (sg_iconst dX1_textSize_18 (by decide))) (Cs_lf (sg_iret dX1_textSize_19 rfl))))))
theorem dX1_bits_0 : decode cX1_bits 0 = .ok (.aload_n 0, 1) := by decide +kernel
theorem dX1_bits_1 : decode cX1_bits 1 = .ok (.iload_n 1, 1) := by decide +kernel
theorem dX1_bits_2 : decode cX1_bits 2 = .ok (.invokevirtual 50, 3) := by decide +kernel
theorem dX1_bits_5 : decode cX1_bits 5 = .ok (.istore_n 2, 1) := by decide +kernel
theorem dX1_bits_6 : decode cX1_bits 6 = .ok (.aload_n 0, 1) := by decide +kernel
theorem dX1_bits_7 : decode cX1_bits 7 = .ok (.iload_n 1, 1) := by decide +kernel
theorem dX1_bits_8 : decode cX1_bits 8 = .ok (.invokevirtual 60, 3) := by decide +kernel
theorem dX1_bits_11 : decode cX1_bits 11 = .ok (.istore_n 3, 1) := by decide +kernel
theorem dX1_bits_12 : decode cX1_bits 12 = .ok (.iload_n 3, 1) := by decide +kernel
theorem dX1_bits_13 : decode cX1_bits 13 = .ok (.invokestatic 67, 3) := by decide +kernel
theorem dX1_bits_16 : decode cX1_bits 16 = .ok (.ifCond .ne 5, 3) := by decide +kernel
theorem dX1_bits_19 : decode cX1_bits 19 = .ok (.lconst 0, 1) := by decide +kernel
theorem dX1_bits_20 : decode cX1_bits 20 = .ok (.lreturn, 1) := by decide +kernel
theorem dX1_bits_21 : decode cX1_bits 21 = .ok (.aload_n 0, 1) := by decide +kernel
theorem dX1_bits_22 : decode cX1_bits 22 = .ok (.getfield 12, 3) := by decide +kernel
theorem dX1_bits_25 : decode cX1_bits 25 = .ok (.iload_n 2, 1) := by decide +kernel
theorem dX1_bits_26 : decode cX1_bits 26 = .ok (.iconst 1, 1) := by decide +kernel
theorem dX1_bits_27 : decode cX1_bits 27 = .ok (.iadd, 1) := by decide +kernel
theorem dX1_bits_28 : decode cX1_bits 28 = .ok (.invokevirtual 70, 3) := by decide +kernel
theorem dX1_bits_31 : decode cX1_bits 31 = .ok (.istore 4, 2) := by decide +kernel
theorem dX1_bits_33 : decode cX1_bits 33 = .ok (.iload_n 3, 1) := by decide +kernel
theorem dX1_bits_34 : decode cX1_bits 34 = .ok (.invokestatic 73, 3) := by decide +kernel
theorem dX1_bits_37 : decode cX1_bits 37 = .ok (.ifCond .eq 28, 3) := by decide +kernel
theorem dX1_bits_40 : decode cX1_bits 40 = .ok (.iload 4, 2) := by decide +kernel
theorem dX1_bits_42 : decode cX1_bits 42 = .ok (.i2l, 1) := by decide +kernel
theorem dX1_bits_43 : decode cX1_bits 43 = .ok (.bipush 32, 2) := by decide +kernel
theorem dX1_bits_45 : decode cX1_bits 45 = .ok (.lshl, 1) := by decide +kernel
theorem dX1_bits_46 : decode cX1_bits 46 = .ok (.aload_n 0, 1) := by decide +kernel
theorem dX1_bits_47 : decode cX1_bits 47 = .ok (.getfield 12, 3) := by decide +kernel
theorem dX1_bits_50 : decode cX1_bits 50 = .ok (.iload_n 2, 1) := by decide +kernel
theorem dX1_bits_51 : decode cX1_bits 51 = .ok (.iconst 5, 1) := by decide +kernel
theorem dX1_bits_52 : decode cX1_bits 52 = .ok (.iadd, 1) := by decide +kernel
theorem dX1_bits_53 : decode cX1_bits 53 = .ok (.invokevirtual 70, 3) := by decide +kernel
theorem dX1_bits_56 : decode cX1_bits 56 = .ok (.i2l, 1) := by decide +kernel
theorem dX1_bits_57 : decode cX1_bits 57 = .ok (.ldc2_w 76, 3) := by decide +kernel
theorem dX1_bits_60 : decode cX1_bits 60 = .ok (.land, 1) := by decide +kernel
theorem dX1_bits_61 : decode cX1_bits 61 = .ok (.lor, 1) := by decide +kernel
theorem dX1_bits_62 : decode cX1_bits 62 = .ok (.goto 6, 3) := by decide +kernel
theorem dX1_bits_65 : decode cX1_bits 65 = .ok (.iload 4, 2) := by decide +kernel
theorem dX1_bits_67 : decode cX1_bits 67 = .ok (.i2l, 1) := by decide +kernel
theorem dX1_bits_68 : decode cX1_bits 68 = .ok (.lreturn, 1) := by decide +kernel
set_option maxRecDepth 20000 in
theorem s_PL_bits (E : XE) : Cs E (yX1_bits, cX1_bits, 5, some .long) (k_PL_bits) := (Cs_nd (Cs_nd (Cs_nd (Cs_nd (Cs_nd (Cs_lf (sg_aload_n dX1_bits_0 rfl)) (Cs_lf (sg_iload_n dX1_bits_1 rfl))) (Cs_nd (Cs_lf (sg_invV (mid := 21) (ci := 1) (by decide +kernel) dX1_bits_2 ok_21 rfl w_377 w_378 w_379)) (Cs_nd (Cs_lf (sg_istore_n dX1_bits_5 rfl (by decide))) (Cs_lf (sg_aload_n dX1_bits_6 rfl))))) (Cs_nd (Cs_nd (Cs_lf (sg_iload_n dX1_bits_7 rfl)) (Cs_lf (sg_invV (mid := 22) (ci := 1) (by decide +kernel) dX1_bits_8 ok_22 rfl w_373 w_374 w_375))) (Cs_nd (Cs_lf (sg_istore_n dX1_bits_11 rfl (by decide))) (Cs_nd (Cs_lf (sg_iload_n dX1_bits_12 rfl)) (Cs_lf (sg_invN (mid := 109) (by decide +kernel) dX1_bits_13 ok_109 (host := RX7) (by decide +kernel) w_318)))))) (Cs_nd (Cs_nd (Cs_nd (Cs_lf (sg_ifne dX1_bits_16 (by decide))) (Cs_lf (sg_lconst dX1_bits_19 (by decide)))) (Cs_nd (Cs_lf (sg_lret dX1_bits_20 rfl)) (Cs_nd (Cs_lf (sg_aload_n dX1_bits_21 rfl)) (Cs_lf (sg_getf dX1_bits_22 rfl inX1 (by decide) w_71))))) (Cs_nd (Cs_nd (Cs_lf (sg_iload_n dX1_bits_25 rfl)) (Cs_lf (sg_iconst dX1_bits_26 (by decide)))) (Cs_nd (Cs_lf (sg_iadd dX1_bits_27)) (Cs_nd (Cs_lf (sg_invV (mid := 65) (ci := 4) (by decide +kernel) dX1_bits_28 ok_65 rfl w_569 w_349 w_350)) (Cs_lf (sg_istore dX1_bits_31 (by decide)))))))) (Cs_nd (Cs_nd (Cs_nd (Cs_nd (Cs_lf (sg_iload_n dX1_bits_33 rfl)) (Cs_lf (sg_invN (mid := 110) (by decide +kernel) dX1_bits_34 ok_110 (host := RX7) (by decide +kernel) w_311))) (Cs_nd (Cs_lf (sg_ifeq dX1_bits_37 (by decide))) (Cs_nd (Cs_lf (sg_iload dX1_bits_40)) (Cs_lf (sg_i2l dX1_bits_42))))) (Cs_nd (Cs_nd (Cs_lf (sg_bipush dX1_bits_43 (by decide))) (Cs_lf (sg_lshl dX1_bits_45))) (Cs_nd (Cs_lf (sg_aload_n dX1_bits_46 rfl)) (Cs_nd (Cs_lf (sg_getf dX1_bits_47 rfl inX1 (by decide) w_71)) (Cs_lf (sg_iload_n dX1_bits_50 rfl)))))) (Cs_nd (Cs_nd (Cs_nd (Cs_lf (sg_iconst dX1_bits_51 (by decide))) (Cs_lf (sg_iadd dX1_bits_52))) (Cs_nd (Cs_lf (sg_invV (mid := 65) (ci := 4) (by decide +kernel) dX1_bits_53 ok_65 rfl w_569 w_349 w_350)) (Cs_nd (Cs_lf (sg_i2l dX1_bits_56)) (Cs_lf (sg_ldc2 dX1_bits_57 w_571))))) (Cs_nd (Cs_nd (Cs_lf (sg_land dX1_bits_60)) (Cs_nd (Cs_lf (sg_lor dX1_bits_61)) (Cs_lf (sg_goto dX1_bits_62 (by decide))))) (Cs_nd (Cs_lf (sg_iload dX1_bits_65)) (Cs_nd (Cs_lf (sg_i2l dX1_bits_67)) (Cs_lf (sg_lret dX1_bits_68 rfl))))))))
theorem dX1_bytesOf_0 : decode cX1_bytesOf 0 = .ok (.aload_n 0, 1) := by decide +kernel
theorem dX1_bytesOf_1 : decode cX1_bytesOf 1 = .ok (.iload_n 1, 1) := by decide +kernel
theorem dX1_bytesOf_2 : decode cX1_bytesOf 2 = .ok (.invokevirtual 60, 3) := by decide +kernel
theorem dX1_bytesOf_5 : decode cX1_bytesOf 5 = .ok (.tableswitch 60 1 8 #[47, 60, 60, 60, 55, 55, 58, 58], 47) := by decide +kernel
theorem dX1_bytesOf_52 : decode cX1_bytesOf 52 = .ok (.iconst 3, 1) := by decide +kernel
theorem dX1_bytesOf_53 : decode cX1_bytesOf 53 = .ok (.aload_n 0, 1) := by decide +kernel
theorem dX1_bytesOf_54 : decode cX1_bytesOf 54 = .ok (.iload_n 1, 1) := by decide +kernel
theorem dX1_bytesOf_55 : decode cX1_bytesOf 55 = .ok (.invokevirtual 78, 3) := by decide +kernel
theorem dX1_bytesOf_58 : decode cX1_bytesOf 58 = .ok (.iadd, 1) := by decide +kernel
theorem dX1_bytesOf_59 : decode cX1_bytesOf 59 = .ok (.ireturn, 1) := by decide +kernel
theorem dX1_bytesOf_60 : decode cX1_bytesOf 60 = .ok (.bipush 9, 2) := by decide +kernel
theorem dX1_bytesOf_62 : decode cX1_bytesOf 62 = .ok (.ireturn, 1) := by decide +kernel
theorem dX1_bytesOf_63 : decode cX1_bytesOf 63 = .ok (.iconst 3, 1) := by decide +kernel
theorem dX1_bytesOf_64 : decode cX1_bytesOf 64 = .ok (.ireturn, 1) := by decide +kernel
theorem dX1_bytesOf_65 : decode cX1_bytesOf 65 = .ok (.iconst 5, 1) := by decide +kernel
theorem dX1_bytesOf_66 : decode cX1_bytesOf 66 = .ok (.ireturn, 1) := by decide +kernel
set_option maxRecDepth 20000 in
theorem s_PL_bytesOf (E : XE) : Cs E (yX1_bytesOf, cX1_bytesOf, 2, some .int) (k_PL_bytesOf) := (Cs_nd (Cs_nd (Cs_nd (Cs_nd (Cs_lf (sg_aload_n dX1_bytesOf_0 rfl)) (Cs_lf (sg_iload_n dX1_bytesOf_1 rfl))) (Cs_nd (Cs_lf (sg_invV (mid := 22) (ci := 1) (by decide +kernel) dX1_bytesOf_2 ok_22 rfl w_373 w_374 w_375)) (Cs_lf (sg_table dX1_bytesOf_5 rfl (by decide) (by decide +kernel) (by decide))))) (Cs_nd (Cs_nd (Cs_lf (sg_iconst dX1_bytesOf_52 (by decide))) (Cs_lf (sg_aload_n dX1_bytesOf_53 rfl))) (Cs_nd (Cs_lf (sg_iload_n dX1_bytesOf_54 rfl)) (Cs_lf (sg_invV (mid := 27) (ci := 1) (by decide +kernel) dX1_bytesOf_55 ok_27 rfl w_577 w_396 w_397))))) (Cs_nd (Cs_nd (Cs_nd (Cs_lf (sg_iadd dX1_bytesOf_58)) (Cs_lf (sg_iret dX1_bytesOf_59 rfl))) (Cs_nd (Cs_lf (sg_bipush dX1_bytesOf_60 (by decide))) (Cs_lf (sg_iret dX1_bytesOf_62 rfl)))) (Cs_nd (Cs_nd (Cs_lf (sg_iconst dX1_bytesOf_63 (by decide))) (Cs_lf (sg_iret dX1_bytesOf_64 rfl))) (Cs_nd (Cs_lf (sg_iconst dX1_bytesOf_65 (by decide))) (Cs_lf (sg_iret dX1_bytesOf_66 rfl))))))
theorem dX1_wrong_0 : decode cX1_wrong 0 = .ok (.aload_n 0, 1) := by decide +kernel
theorem dX1_wrong_1 : decode cX1_wrong 1 = .ok (.iload_n 1, 1) := by decide +kernel
theorem dX1_wrong_2 : decode cX1_wrong 2 = .ok (.invokevirtual 32, 3) := by decide +kernel
theorem dX1_wrong_5 : decode cX1_wrong 5 = .ok (.ifCond .ne 6, 3) := by decide +kernel
theorem dX1_wrong_8 : decode cX1_wrong 8 = .ok (.bipush 8, 2) := by decide +kernel
theorem dX1_wrong_10 : decode cX1_wrong 10 = .ok (.ireturn, 1) := by decide +kernel
theorem dX1_wrong_11 : decode cX1_wrong 11 = .ok (.aload_n 0, 1) := by decide +kernel
theorem dX1_wrong_12 : decode cX1_wrong 12 = .ok (.iload_n 1, 1) := by decide +kernel
theorem dX1_wrong_13 : decode cX1_wrong 13 = .ok (.invokevirtual 60, 3) := by decide +kernel
theorem dX1_wrong_16 : decode cX1_wrong 16 = .ok (.istore_n 3, 1) := by decide +kernel
theorem dX1_wrong_17 : decode cX1_wrong 17 = .ok (.iload_n 3, 1) := by decide +kernel
theorem dX1_wrong_18 : decode cX1_wrong 18 = .ok (.ifCond .ne 6, 3) := by decide +kernel
theorem dX1_wrong_21 : decode cX1_wrong 21 = .ok (.bipush 7, 2) := by decide +kernel
theorem dX1_wrong_23 : decode cX1_wrong 23 = .ok (.ireturn, 1) := by decide +kernel
theorem dX1_wrong_24 : decode cX1_wrong 24 = .ok (.iload_n 3, 1) := by decide +kernel
theorem dX1_wrong_25 : decode cX1_wrong 25 = .ok (.iload_n 2, 1) := by decide +kernel
theorem dX1_wrong_26 : decode cX1_wrong 26 = .ok (.if_icmp .ne 7, 3) := by decide +kernel
theorem dX1_wrong_29 : decode cX1_wrong 29 = .ok (.iconst 0, 1) := by decide +kernel
theorem dX1_wrong_30 : decode cX1_wrong 30 = .ok (.goto 5, 3) := by decide +kernel
theorem dX1_wrong_33 : decode cX1_wrong 33 = .ok (.bipush 9, 2) := by decide +kernel
theorem dX1_wrong_35 : decode cX1_wrong 35 = .ok (.ireturn, 1) := by decide +kernel
set_option maxRecDepth 20000 in
theorem s_PL_wrong (E : XE) : Cs E (yX1_wrong, cX1_wrong, 4, some .int) (k_PL_wrong) := (Cs_nd (Cs_nd (Cs_nd (Cs_nd (Cs_lf (sg_aload_n dX1_wrong_0 rfl)) (Cs_lf (sg_iload_n dX1_wrong_1 rfl))) (Cs_nd (Cs_lf (sg_invV (mid := 17) (ci := 1) (by decide +kernel) dX1_wrong_2 ok_17 rfl w_299 w_300 w_301)) (Cs_nd (Cs_lf (sg_ifne dX1_wrong_5 (by decide))) (Cs_lf (sg_bipush dX1_wrong_8 (by decide)))))) (Cs_nd (Cs_nd (Cs_lf (sg_iret dX1_wrong_10 rfl)) (Cs_lf (sg_aload_n dX1_wrong_11 rfl))) (Cs_nd (Cs_lf (sg_iload_n dX1_wrong_12 rfl)) (Cs_nd (Cs_lf (sg_invV (mid := 22) (ci := 1) (by decide +kernel) dX1_wrong_13 ok_22 rfl w_373 w_374 w_375)) (Cs_lf (sg_istore_n dX1_wrong_16 rfl (by decide))))))) (Cs_nd (Cs_nd (Cs_nd (Cs_lf (sg_iload_n dX1_wrong_17 rfl)) (Cs_lf (sg_ifne dX1_wrong_18 (by decide)))) (Cs_nd (Cs_lf (sg_bipush dX1_wrong_21 (by decide))) (Cs_nd (Cs_lf (sg_iret dX1_wrong_23 rfl)) (Cs_lf (sg_iload_n dX1_wrong_24 rfl))))) (Cs_nd (Cs_nd (Cs_lf (sg_iload_n dX1_wrong_25 rfl)) (Cs_nd (Cs_lf (sg_cne dX1_wrong_26 (by decide))) (Cs_lf (sg_iconst dX1_wrong_29 (by decide))))) (Cs_nd (Cs_lf (sg_goto dX1_wrong_30 (by decide))) (Cs_nd (Cs_lf (sg_bipush dX1_wrong_33 (by decide))) (Cs_lf (sg_iret dX1_wrong_35 rfl)))))))
theorem dX1_textOf_0 : decode cX1_textOf 0 = .ok (.aload_n 0, 1) := by decide +kernel
theorem dX1_textOf_1 : decode cX1_textOf 1 = .ok (.iload_n 1, 1) := by decide +kernel
theorem dX1_textOf_2 : decode cX1_textOf 2 = .ok (.invokevirtual 60, 3) := by decide +kernel
theorem dX1_textOf_5 : decode cX1_textOf 5 = .ok (.tableswitch 126 1 12 #[63, 126, 126, 126, 126, 126, 65, 65, 87, 87, 87, 72], 63) := by decide +kernel
theorem dX1_textOf_68 : decode cX1_textOf 68 = .ok (.iload_n 1, 1) := by decide +kernel
theorem dX1_textOf_69 : decode cX1_textOf 69 = .ok (.ireturn, 1) := by decide +kernel
theorem dX1_textOf_70 : decode cX1_textOf 70 = .ok (.aload_n 0, 1) := by decide +kernel
theorem dX1_textOf_71 : decode cX1_textOf 71 = .ok (.iload_n 1, 1) := by decide +kernel
theorem dX1_textOf_72 : decode cX1_textOf 72 = .ok (.iconst 1, 1) := by decide +kernel
theorem dX1_textOf_73 : decode cX1_textOf 73 = .ok (.invokevirtual 63, 3) := by decide +kernel
theorem dX1_textOf_76 : decode cX1_textOf 76 = .ok (.ireturn, 1) := by decide +kernel
theorem dX1_textOf_77 : decode cX1_textOf 77 = .ok (.aload_n 0, 1) := by decide +kernel
theorem dX1_textOf_78 : decode cX1_textOf 78 = .ok (.iload_n 1, 1) := by decide +kernel
theorem dX1_textOf_79 : decode cX1_textOf 79 = .ok (.iload_n 2, 1) := by decide +kernel
theorem dX1_textOf_80 : decode cX1_textOf 80 = .ok (.ifCond .ne 7, 3) := by decide +kernel
theorem dX1_textOf_83 : decode cX1_textOf 83 = .ok (.iconst 1, 1) := by decide +kernel
theorem dX1_textOf_84 : decode cX1_textOf 84 = .ok (.goto 4, 3) := by decide +kernel
theorem dX1_textOf_87 : decode cX1_textOf 87 = .ok (.iconst 3, 1) := by decide +kernel
theorem dX1_textOf_88 : decode cX1_textOf 88 = .ok (.invokevirtual 63, 3) := by decide +kernel
theorem dX1_textOf_91 : decode cX1_textOf 91 = .ok (.ireturn, 1) := by decide +kernel
theorem dX1_textOf_92 : decode cX1_textOf 92 = .ok (.iload_n 2, 1) := by decide +kernel
theorem dX1_textOf_93 : decode cX1_textOf 93 = .ok (.ifCond .ne 17, 3) := by decide +kernel
theorem dX1_textOf_96 : decode cX1_textOf 96 = .ok (.aload_n 0, 1) := by decide +kernel
theorem dX1_textOf_97 : decode cX1_textOf 97 = .ok (.aload_n 0, 1) := by decide +kernel
theorem dX1_textOf_98 : decode cX1_textOf 98 = .ok (.iload_n 1, 1) := by decide +kernel
theorem dX1_textOf_99 : decode cX1_textOf 99 = .ok (.iconst 1, 1) := by decide +kernel
theorem dX1_textOf_100 : decode cX1_textOf 100 = .ok (.invokevirtual 63, 3) := by decide +kernel
theorem dX1_textOf_103 : decode cX1_textOf 103 = .ok (.iconst 1, 1) := by decide +kernel
theorem dX1_textOf_104 : decode cX1_textOf 104 = .ok (.invokevirtual 63, 3) := by decide +kernel
theorem dX1_textOf_107 : decode cX1_textOf 107 = .ok (.goto 23, 3) := by decide +kernel
theorem dX1_textOf_110 : decode cX1_textOf 110 = .ok (.aload_n 0, 1) := by decide +kernel
theorem dX1_textOf_111 : decode cX1_textOf 111 = .ok (.aload_n 0, 1) := by decide +kernel
theorem dX1_textOf_112 : decode cX1_textOf 112 = .ok (.iload_n 1, 1) := by decide +kernel
theorem dX1_textOf_113 : decode cX1_textOf 113 = .ok (.iconst 3, 1) := by decide +kernel
theorem dX1_textOf_114 : decode cX1_textOf 114 = .ok (.invokevirtual 63, 3) := by decide +kernel
theorem dX1_textOf_117 : decode cX1_textOf 117 = .ok (.iload_n 2, 1) := by decide +kernel
theorem dX1_textOf_118 : decode cX1_textOf 118 = .ok (.iconst 1, 1) := by decide +kernel
theorem dX1_textOf_119 : decode cX1_textOf 119 = .ok (.if_icmp .ne 7, 3) := by decide +kernel
theorem dX1_textOf_122 : decode cX1_textOf 122 = .ok (.iconst 1, 1) := by decide +kernel
theorem dX1_textOf_123 : decode cX1_textOf 123 = .ok (.goto 4, 3) := by decide +kernel
theorem dX1_textOf_126 : decode cX1_textOf 126 = .ok (.iconst 3, 1) := by decide +kernel
theorem dX1_textOf_127 : decode cX1_textOf 127 = .ok (.invokevirtual 63, 3) := by decide +kernel
theorem dX1_textOf_130 : decode cX1_textOf 130 = .ok (.ireturn, 1) := by decide +kernel
theorem dX1_textOf_131 : decode cX1_textOf 131 = .ok (.iconst 0, 1) := by decide +kernel
theorem dX1_textOf_132 : decode cX1_textOf 132 = .ok (.ireturn, 1) := by decide +kernel
set_option maxRecDepth 20000 in
theorem s_PL_textOf (E : XE) : Cs E (yX1_textOf, cX1_textOf, 3, some .int) (k_PL_textOf) := (Cs_nd (Cs_nd (Cs_nd (Cs_nd (Cs_nd (Cs_lf (sg_aload_n dX1_textOf_0 rfl)) (Cs_lf (sg_iload_n dX1_textOf_1 rfl))) (Cs_nd (Cs_lf (sg_invV (mid := 22) (ci := 1) (by decide +kernel) dX1_textOf_2 ok_22 rfl w_373 w_374 w_375)) (Cs_nd (Cs_lf (sg_table dX1_textOf_5 rfl (by decide) (by decide +kernel) (by decide))) (Cs_lf (sg_iload_n dX1_textOf_68 rfl))))) (Cs_nd (Cs_nd (Cs_lf (sg_iret dX1_textOf_69 rfl)) (Cs_nd (Cs_lf (sg_aload_n dX1_textOf_70 rfl)) (Cs_lf (sg_iload_n dX1_textOf_71 rfl)))) (Cs_nd (Cs_lf (sg_iconst dX1_textOf_72 (by decide))) (Cs_nd (Cs_lf (sg_invV (mid := 23) (ci := 1) (by decide +kernel) dX1_textOf_73 ok_23 rfl w_399 w_401 ws_11)) (Cs_lf (sg_iret dX1_textOf_76 rfl)))))) (Cs_nd (Cs_nd (Cs_nd (Cs_lf (sg_aload_n dX1_textOf_77 rfl)) (Cs_lf (sg_iload_n dX1_textOf_78 rfl))) (Cs_nd (Cs_lf (sg_iload_n dX1_textOf_79 rfl)) (Cs_nd (Cs_lf (sg_ifne dX1_textOf_80 (by decide))) (Cs_lf (sg_iconst dX1_textOf_83 (by decide)))))) (Cs_nd (Cs_nd (Cs_lf (sg_goto dX1_textOf_84 (by decide))) (Cs_nd (Cs_lf (sg_iconst dX1_textOf_87 (by decide))) (Cs_lf (sg_invV (mid := 23) (ci := 1) (by decide +kernel) dX1_textOf_88 ok_23 rfl w_399 w_401 ws_11)))) (Cs_nd (Cs_lf (sg_iret dX1_textOf_91 rfl)) (Cs_nd (Cs_lf (sg_iload_n dX1_textOf_92 rfl)) (Cs_lf (sg_ifne dX1_textOf_93 (by decide)))))))) (Cs_nd (Cs_nd (Cs_nd (Cs_nd (Cs_lf (sg_aload_n dX1_textOf_96 rfl)) (Cs_lf (sg_aload_n dX1_textOf_97 rfl))) (Cs_nd (Cs_lf (sg_iload_n dX1_textOf_98 rfl)) (Cs_nd (Cs_lf (sg_iconst dX1_textOf_99 (by decide))) (Cs_lf (sg_invV (mid := 23) (ci := 1) (by decide +kernel) dX1_textOf_100 ok_23 rfl w_399 w_401 ws_11))))) (Cs_nd (Cs_nd (Cs_lf (sg_iconst dX1_textOf_103 (by decide))) (Cs_nd (Cs_lf (sg_invV (mid := 23) (ci := 1) (by decide +kernel) dX1_textOf_104 ok_23 rfl w_399 w_401 ws_11)) (Cs_lf (sg_goto dX1_textOf_107 (by decide))))) (Cs_nd (Cs_lf (sg_aload_n dX1_textOf_110 rfl)) (Cs_nd (Cs_lf (sg_aload_n dX1_textOf_111 rfl)) (Cs_lf (sg_iload_n dX1_textOf_112 rfl)))))) (Cs_nd (Cs_nd (Cs_nd (Cs_lf (sg_iconst dX1_textOf_113 (by decide))) (Cs_nd (Cs_lf (sg_invV (mid := 23) (ci := 1) (by decide +kernel) dX1_textOf_114 ok_23 rfl w_399 w_401 ws_11)) (Cs_lf (sg_iload_n dX1_textOf_117 rfl)))) (Cs_nd (Cs_lf (sg_iconst dX1_textOf_118 (by decide))) (Cs_nd (Cs_lf (sg_cne dX1_textOf_119 (by decide))) (Cs_lf (sg_iconst dX1_textOf_122 (by decide)))))) (Cs_nd (Cs_nd (Cs_lf (sg_goto dX1_textOf_123 (by decide))) (Cs_nd (Cs_lf (sg_iconst dX1_textOf_126 (by decide))) (Cs_lf (sg_invV (mid := 23) (ci := 1) (by decide +kernel) dX1_textOf_127 ok_23 rfl w_399 w_401 ws_11)))) (Cs_nd (Cs_lf (sg_iret dX1_textOf_130 rfl)) (Cs_nd (Cs_lf (sg_iconst dX1_textOf_131 (by decide))) (Cs_lf (sg_iret dX1_textOf_132 rfl))))))))
theorem dX1_order_0 : decode cX1_order 0 = .ok (.aload_n 0, 1) := by decide +kernel
theorem dX1_order_1 : decode cX1_order 1 = .ok (.iload_n 1, 1) := by decide +kernel
theorem dX1_order_2 : decode cX1_order 2 = .ok (.invokevirtual 60, 3) := by decide +kernel
theorem dX1_order_5 : decode cX1_order 5 = .ok (.istore 4, 2) := by decide +kernel
theorem dX1_order_7 : decode cX1_order 7 = .ok (.iload 4, 2) := by decide +kernel
theorem dX1_order_9 : decode cX1_order 9 = .ok (.aload_n 2, 1) := by decide +kernel
theorem dX1_order_10 : decode cX1_order 10 = .ok (.iload_n 3, 1) := by decide +kernel
theorem dX1_order_11 : decode cX1_order 11 = .ok (.invokevirtual 60, 3) := by decide +kernel
theorem dX1_order_14 : decode cX1_order 14 = .ok (.invokestatic 81, 3) := by decide +kernel
theorem dX1_order_17 : decode cX1_order 17 = .ok (.istore 5, 2) := by decide +kernel
theorem dX1_order_19 : decode cX1_order 19 = .ok (.iload 5, 2) := by decide +kernel
theorem dX1_order_21 : decode cX1_order 21 = .ok (.ifCond .eq 6, 3) := by decide +kernel
theorem dX1_order_24 : decode cX1_order 24 = .ok (.iload 5, 2) := by decide +kernel
theorem dX1_order_26 : decode cX1_order 26 = .ok (.ireturn, 1) := by decide +kernel
theorem dX1_order_27 : decode cX1_order 27 = .ok (.iload 4, 2) := by decide +kernel
theorem dX1_order_29 : decode cX1_order 29 = .ok (.invokestatic 67, 3) := by decide +kernel
theorem dX1_order_32 : decode cX1_order 32 = .ok (.ifCond .eq 17, 3) := by decide +kernel
theorem dX1_order_35 : decode cX1_order 35 = .ok (.aload_n 0, 1) := by decide +kernel
theorem dX1_order_36 : decode cX1_order 36 = .ok (.iload_n 1, 1) := by decide +kernel
theorem dX1_order_37 : decode cX1_order 37 = .ok (.invokevirtual 86, 3) := by decide +kernel
theorem dX1_order_40 : decode cX1_order 40 = .ok (.aload_n 2, 1) := by decide +kernel
theorem dX1_order_41 : decode cX1_order 41 = .ok (.iload_n 3, 1) := by decide +kernel
theorem dX1_order_42 : decode cX1_order 42 = .ok (.invokevirtual 86, 3) := by decide +kernel
theorem dX1_order_45 : decode cX1_order 45 = .ok (.invokestatic 90, 3) := by decide +kernel
theorem dX1_order_48 : decode cX1_order 48 = .ok (.ireturn, 1) := by decide +kernel
theorem dX1_order_49 : decode cX1_order 49 = .ok (.iload 4, 2) := by decide +kernel
theorem dX1_order_51 : decode cX1_order 51 = .ok (.bipush 12, 2) := by decide +kernel
theorem dX1_order_53 : decode cX1_order 53 = .ok (.if_icmp .ne 7, 3) := by decide +kernel
theorem dX1_order_56 : decode cX1_order 56 = .ok (.iconst 2, 1) := by decide +kernel
theorem dX1_order_57 : decode cX1_order 57 = .ok (.goto 15, 3) := by decide +kernel
theorem dX1_order_60 : decode cX1_order 60 = .ok (.iload 4, 2) := by decide +kernel
theorem dX1_order_62 : decode cX1_order 62 = .ok (.bipush 9, 2) := by decide +kernel
theorem dX1_order_64 : decode cX1_order 64 = .ok (.if_icmp .lt 7, 3) := by decide +kernel
theorem dX1_order_67 : decode cX1_order 67 = .ok (.iconst 3, 1) := by decide +kernel
theorem dX1_order_68 : decode cX1_order 68 = .ok (.goto 4, 3) := by decide +kernel
theorem dX1_order_71 : decode cX1_order 71 = .ok (.iconst 1, 1) := by decide +kernel
theorem dX1_order_72 : decode cX1_order 72 = .ok (.istore 6, 2) := by decide +kernel
theorem dX1_order_74 : decode cX1_order 74 = .ok (.iconst 0, 1) := by decide +kernel
theorem dX1_order_75 : decode cX1_order 75 = .ok (.istore 7, 2) := by decide +kernel
theorem dX1_order_77 : decode cX1_order 77 = .ok (.iload 7, 2) := by decide +kernel
theorem dX1_order_79 : decode cX1_order 79 = .ok (.iload 6, 2) := by decide +kernel
theorem dX1_order_81 : decode cX1_order 81 = .ok (.if_icmp .ge 69, 3) := by decide +kernel
theorem dX1_order_84 : decode cX1_order 84 = .ok (.iload 5, 2) := by decide +kernel
theorem dX1_order_86 : decode cX1_order 86 = .ok (.ifCond .ne 64, 3) := by decide +kernel
theorem dX1_order_89 : decode cX1_order 89 = .ok (.aload_n 0, 1) := by decide +kernel
theorem dX1_order_90 : decode cX1_order 90 = .ok (.iload_n 1, 1) := by decide +kernel
theorem dX1_order_91 : decode cX1_order 91 = .ok (.iload 7, 2) := by decide +kernel
theorem dX1_order_93 : decode cX1_order 93 = .ok (.invokevirtual 95, 3) := by decide +kernel
theorem dX1_order_96 : decode cX1_order 96 = .ok (.istore 8, 2) := by decide +kernel
theorem dX1_order_98 : decode cX1_order 98 = .ok (.aload_n 2, 1) := by decide +kernel
theorem dX1_order_99 : decode cX1_order 99 = .ok (.iload_n 3, 1) := by decide +kernel
theorem dX1_order_100 : decode cX1_order 100 = .ok (.iload 7, 2) := by decide +kernel
theorem dX1_order_102 : decode cX1_order 102 = .ok (.invokevirtual 95, 3) := by decide +kernel
theorem dX1_order_105 : decode cX1_order 105 = .ok (.istore 9, 2) := by decide +kernel
theorem dX1_order_107 : decode cX1_order 107 = .ok (.aload_n 0, 1) := by decide +kernel
theorem dX1_order_108 : decode cX1_order 108 = .ok (.getfield 12, 3) := by decide +kernel
theorem dX1_order_111 : decode cX1_order 111 = .ok (.aload_n 0, 1) := by decide +kernel
theorem dX1_order_112 : decode cX1_order 112 = .ok (.iload 8, 2) := by decide +kernel
theorem dX1_order_114 : decode cX1_order 114 = .ok (.invokevirtual 98, 3) := by decide +kernel
theorem dX1_order_117 : decode cX1_order 117 = .ok (.aload_n 0, 1) := by decide +kernel
theorem dX1_order_118 : decode cX1_order 118 = .ok (.iload 8, 2) := by decide +kernel
theorem dX1_order_120 : decode cX1_order 120 = .ok (.invokevirtual 78, 3) := by decide +kernel
theorem dX1_order_123 : decode cX1_order 123 = .ok (.aload_n 2, 1) := by decide +kernel
theorem dX1_order_124 : decode cX1_order 124 = .ok (.getfield 12, 3) := by decide +kernel
theorem dX1_order_127 : decode cX1_order 127 = .ok (.aload_n 2, 1) := by decide +kernel
theorem dX1_order_128 : decode cX1_order 128 = .ok (.iload 9, 2) := by decide +kernel
theorem dX1_order_130 : decode cX1_order 130 = .ok (.invokevirtual 98, 3) := by decide +kernel
theorem dX1_order_133 : decode cX1_order 133 = .ok (.aload_n 2, 1) := by decide +kernel
theorem dX1_order_134 : decode cX1_order 134 = .ok (.iload 9, 2) := by decide +kernel
theorem dX1_order_136 : decode cX1_order 136 = .ok (.invokevirtual 78, 3) := by decide +kernel
theorem dX1_order_139 : decode cX1_order 139 = .ok (.invokevirtual 101, 3) := by decide +kernel
theorem dX1_order_142 : decode cX1_order 142 = .ok (.istore 5, 2) := by decide +kernel
theorem dX1_order_144 : decode cX1_order 144 = .ok (.iinc 7 1, 3) := by decide +kernel
theorem dX1_order_147 : decode cX1_order 147 = .ok (.goto (-70), 3) := by decide +kernel
theorem dX1_order_150 : decode cX1_order 150 = .ok (.iload 5, 2) := by decide +kernel
theorem dX1_order_152 : decode cX1_order 152 = .ok (.ireturn, 1) := by decide +kernel
set_option maxRecDepth 20000 in
theorem s_PL_order (E : XE) : Cs E (yX1_order, cX1_order, 10, some .int) (k_PL_order) := (Cs_nd (Cs_nd (Cs_nd (Cs_nd (Cs_nd (Cs_nd (Cs_lf (sg_aload_n dX1_order_0 rfl)) (Cs_lf (sg_iload_n dX1_order_1 rfl))) (Cs_nd (Cs_lf (sg_invV (mid := 22) (ci := 1) (by decide +kernel) dX1_order_2 ok_22 rfl w_373 w_374 w_375)) (Cs_lf (sg_istore dX1_order_5 (by decide))))) (Cs_nd (Cs_nd (Cs_lf (sg_iload dX1_order_7)) (Cs_lf (sg_aload_n dX1_order_9 rfl))) (Cs_nd (Cs_lf (sg_iload_n dX1_order_10 rfl)) (Cs_nd (Cs_lf (sg_invV (mid := 22) (ci := 1) (by decide +kernel) dX1_order_11 ok_22 rfl w_373 w_374 w_375)) (Cs_lf (sg_inv (mid := 179) (by decide +kernel) dX1_order_14 ok_179 w_561 w_562)))))) (Cs_nd (Cs_nd (Cs_nd (Cs_lf (sg_istore dX1_order_17 (by decide))) (Cs_lf (sg_iload dX1_order_19))) (Cs_nd (Cs_lf (sg_ifeq dX1_order_21 (by decide))) (Cs_nd (Cs_lf (sg_iload dX1_order_24)) (Cs_lf (sg_iret dX1_order_26 rfl))))) (Cs_nd (Cs_nd (Cs_lf (sg_iload dX1_order_27)) (Cs_lf (sg_invN (mid := 109) (by decide +kernel) dX1_order_29 ok_109 (host := RX7) (by decide +kernel) w_318))) (Cs_nd (Cs_lf (sg_ifeq dX1_order_32 (by decide))) (Cs_nd (Cs_lf (sg_aload_n dX1_order_35 rfl)) (Cs_lf (sg_iload_n dX1_order_36 rfl))))))) (Cs_nd (Cs_nd (Cs_nd (Cs_nd (Cs_lf (sg_invV (mid := 28) (ci := 1) (by decide +kernel) dX1_order_37 ok_28 rfl w_565 w_566 w_567)) (Cs_lf (sg_aload_n dX1_order_40 rfl))) (Cs_nd (Cs_lf (sg_iload_n dX1_order_41 rfl)) (Cs_lf (sg_invV (mid := 28) (ci := 1) (by decide +kernel) dX1_order_42 ok_28 rfl w_565 w_566 w_567)))) (Cs_nd (Cs_nd (Cs_lf (sg_inv (mid := 180) (by decide +kernel) dX1_order_45 ok_180 w_572 w_573)) (Cs_lf (sg_iret dX1_order_48 rfl))) (Cs_nd (Cs_lf (sg_iload dX1_order_49)) (Cs_nd (Cs_lf (sg_bipush dX1_order_51 (by decide))) (Cs_lf (sg_cne dX1_order_53 (by decide))))))) (Cs_nd (Cs_nd (Cs_nd (Cs_lf (sg_iconst dX1_order_56 (by decide))) (Cs_lf (sg_goto dX1_order_57 (by decide)))) (Cs_nd (Cs_lf (sg_iload dX1_order_60)) (Cs_nd (Cs_lf (sg_bipush dX1_order_62 (by decide))) (Cs_lf (sg_clt dX1_order_64 (by decide)))))) (Cs_nd (Cs_nd (Cs_lf (sg_iconst dX1_order_67 (by decide))) (Cs_lf (sg_goto dX1_order_68 (by decide)))) (Cs_nd (Cs_lf (sg_iconst dX1_order_71 (by decide))) (Cs_nd (Cs_lf (sg_istore dX1_order_72 (by decide))) (Cs_lf (sg_iconst dX1_order_74 (by decide))))))))) (Cs_nd (Cs_nd (Cs_nd (Cs_nd (Cs_nd (Cs_lf (sg_istore dX1_order_75 (by decide))) (Cs_lf (sg_iload dX1_order_77))) (Cs_nd (Cs_lf (sg_iload dX1_order_79)) (Cs_lf (sg_cge dX1_order_81 (by decide))))) (Cs_nd (Cs_nd (Cs_lf (sg_iload dX1_order_84)) (Cs_lf (sg_ifne dX1_order_86 (by decide)))) (Cs_nd (Cs_lf (sg_aload_n dX1_order_89 rfl)) (Cs_nd (Cs_lf (sg_iload_n dX1_order_90 rfl)) (Cs_lf (sg_iload dX1_order_91)))))) (Cs_nd (Cs_nd (Cs_nd (Cs_lf (sg_invV (mid := 31) (ci := 1) (by decide +kernel) dX1_order_93 ok_31 rfl w_575 w_469 w_470)) (Cs_lf (sg_istore dX1_order_96 (by decide)))) (Cs_nd (Cs_lf (sg_aload_n dX1_order_98 rfl)) (Cs_nd (Cs_lf (sg_iload_n dX1_order_99 rfl)) (Cs_lf (sg_iload dX1_order_100))))) (Cs_nd (Cs_nd (Cs_lf (sg_invV (mid := 31) (ci := 1) (by decide +kernel) dX1_order_102 ok_31 rfl w_575 w_469 w_470)) (Cs_lf (sg_istore dX1_order_105 (by decide)))) (Cs_nd (Cs_lf (sg_aload_n dX1_order_107 rfl)) (Cs_nd (Cs_lf (sg_getf dX1_order_108 rfl inX1 (by decide) w_71)) (Cs_lf (sg_aload_n dX1_order_111 rfl))))))) (Cs_nd (Cs_nd (Cs_nd (Cs_nd (Cs_lf (sg_iload dX1_order_112)) (Cs_lf (sg_invV (mid := 26) (ci := 1) (by decide +kernel) dX1_order_114 ok_26 rfl w_576 w_392 w_393))) (Cs_nd (Cs_lf (sg_aload_n dX1_order_117 rfl)) (Cs_lf (sg_iload dX1_order_118)))) (Cs_nd (Cs_nd (Cs_lf (sg_invV (mid := 27) (ci := 1) (by decide +kernel) dX1_order_120 ok_27 rfl w_577 w_396 w_397)) (Cs_lf (sg_aload_n dX1_order_123 rfl))) (Cs_nd (Cs_lf (sg_getf dX1_order_124 rfl inX1 (by decide) w_71)) (Cs_nd (Cs_lf (sg_aload_n dX1_order_127 rfl)) (Cs_lf (sg_iload dX1_order_128)))))) (Cs_nd (Cs_nd (Cs_nd (Cs_lf (sg_invV (mid := 26) (ci := 1) (by decide +kernel) dX1_order_130 ok_26 rfl w_576 w_392 w_393)) (Cs_lf (sg_aload_n dX1_order_133 rfl))) (Cs_nd (Cs_lf (sg_iload dX1_order_134)) (Cs_nd (Cs_lf (sg_invV (mid := 27) (ci := 1) (by decide +kernel) dX1_order_136 ok_27 rfl w_577 w_396 w_397)) (Cs_lf (sg_invV (mid := 72) (ci := 4) (by decide +kernel) dX1_order_139 ok_72 rfl w_578 w_579 w_580))))) (Cs_nd (Cs_nd (Cs_lf (sg_istore dX1_order_142 (by decide))) (Cs_lf (sg_iinc dX1_order_144 (by decide) (by decide)))) (Cs_nd (Cs_lf (sg_goto dX1_order_147 (by decide))) (Cs_nd (Cs_lf (sg_iload dX1_order_150)) (Cs_lf (sg_iret dX1_order_152 rfl)))))))))
theorem dX4_init_0 : decode cX4_init 0 = .ok (.aload_n 0, 1) := by decide +kernel
theorem dX4_init_1 : decode cX4_init 1 = .ok (.invokespecial 3, 3) := by decide +kernel
theorem dX4_init_4 : decode cX4_init 4 = .ok (.aload_n 0, 1) := by decide +kernel
theorem dX4_init_5 : decode cX4_init 5 = .ok (.sipush 400, 3) := by decide +kernel
theorem dX4_init_8 : decode cX4_init 8 = .ok (.newarray .byte, 2) := by decide +kernel
theorem dX4_init_10 : decode cX4_init 10 = .ok (.putfield 9, 3) := by decide +kernel
theorem dX4_init_13 : decode cX4_init 13 = .ok (.aload_n 0, 1) := by decide +kernel
theorem dX4_init_14 : decode cX4_init 14 = .ok (.iconst 0, 1) := by decide +kernel
theorem dX4_init_15 : decode cX4_init 15 = .ok (.putfield 15, 3) := by decide +kernel
theorem dX4_init_18 : decode cX4_init 18 = .ok (.return_, 1) := by decide +kernel
set_option maxRecDepth 20000 in
theorem s_RW_init (E : XE) : Cs E (yX4_init, cX4_init, 1, none) (k_RW_init) := (Cs_nd (Cs_nd (Cs_nd (Cs_lf (sg_aload_n dX4_init_0 rfl)) (Cs_lf (sg_obj dX4_init_1 w_45 w_38 w_39))) (Cs_nd (Cs_lf (sg_aload_n dX4_init_4 rfl)) (Cs_nd (Cs_lf (sg_sipush dX4_init_5 (by decide))) (Cs_lf (sg_newB dX4_init_8 w_53))))) (Cs_nd (Cs_nd (Cs_lf (sg_putF dX4_init_10 rfl inX4 tyX4_ok nmX4 (by decide) w_46 rfl rfl rfl (tyX4_ok 0 (by decide)) (ok_arr _))) (Cs_lf (sg_aload_n dX4_init_13 rfl))) (Cs_nd (Cs_lf (sg_iconst dX4_init_14 (by decide))) (Cs_nd (Cs_lf (sg_putf dX4_init_15 rfl inX4 tyX4_ok nmX4 (by decide) w_47 rfl (tyX4_ok 1 (by decide)) ok_int)) (Cs_lf (sg_vret dX4_init_18 rfl))))))
theorem dX4_size_0 : decode cX4_size 0 = .ok (.aload_n 0, 1) := by decide +kernel
theorem dX4_size_1 : decode cX4_size 1 = .ok (.getfield 15, 3) := by decide +kernel
theorem dX4_size_4 : decode cX4_size 4 = .ok (.ireturn, 1) := by decide +kernel
set_option maxRecDepth 20000 in
theorem s_RW_size (E : XE) : Cs E (yX4_size, cX4_size, 1, some .int) (k_RW_size) := (Cs_nd (Cs_lf (sg_aload_n dX4_size_0 rfl)) (Cs_nd (Cs_lf (sg_getf dX4_size_1 rfl inX4 (by decide) w_47)) (Cs_lf (sg_iret dX4_size_4 rfl))))
theorem dX4_has_0 : decode cX4_has 0 = .ok (.iload_n 1, 1) := by decide +kernel
theorem dX4_has_1 : decode cX4_has 1 = .ok (.ifCond .lt 29, 3) := by decide +kernel
theorem dX4_has_4 : decode cX4_has 4 = .ok (.iload_n 2, 1) := by decide +kernel
theorem dX4_has_5 : decode cX4_has 5 = .ok (.ifCond .lt 25, 3) := by decide +kernel
theorem dX4_has_8 : decode cX4_has 8 = .ok (.iload_n 1, 1) := by decide +kernel
theorem dX4_has_9 : decode cX4_has 9 = .ok (.aload_n 0, 1) := by decide +kernel
theorem dX4_has_10 : decode cX4_has 10 = .ok (.getfield 15, 3) := by decide +kernel
theorem dX4_has_13 : decode cX4_has 13 = .ok (.if_icmp .gt 17, 3) := by decide +kernel
theorem dX4_has_16 : decode cX4_has 16 = .ok (.iload_n 2, 1) := by decide +kernel
theorem dX4_has_17 : decode cX4_has 17 = .ok (.aload_n 0, 1) := by decide +kernel
theorem dX4_has_18 : decode cX4_has 18 = .ok (.getfield 15, 3) := by decide +kernel
theorem dX4_has_21 : decode cX4_has 21 = .ok (.iload_n 1, 1) := by decide +kernel
theorem dX4_has_22 : decode cX4_has 22 = .ok (.isub, 1) := by decide +kernel
theorem dX4_has_23 : decode cX4_has 23 = .ok (.if_icmp .gt 7, 3) := by decide +kernel
theorem dX4_has_26 : decode cX4_has 26 = .ok (.iconst 1, 1) := by decide +kernel
theorem dX4_has_27 : decode cX4_has 27 = .ok (.goto 4, 3) := by decide +kernel
theorem dX4_has_30 : decode cX4_has 30 = .ok (.iconst 0, 1) := by decide +kernel
theorem dX4_has_31 : decode cX4_has 31 = .ok (.ireturn, 1) := by decide +kernel
set_option maxRecDepth 20000 in
theorem s_RW_has (E : XE) : Cs E (yX4_has, cX4_has, 3, some .boolean) (k_RW_has) := (Cs_nd (Cs_nd (Cs_nd (Cs_nd (Cs_lf (sg_iload_n dX4_has_0 rfl)) (Cs_lf (sg_iflt dX4_has_1 (by decide)))) (Cs_nd (Cs_lf (sg_iload_n dX4_has_4 rfl)) (Cs_lf (sg_iflt dX4_has_5 (by decide))))) (Cs_nd (Cs_nd (Cs_lf (sg_iload_n dX4_has_8 rfl)) (Cs_lf (sg_aload_n dX4_has_9 rfl))) (Cs_nd (Cs_lf (sg_getf dX4_has_10 rfl inX4 (by decide) w_47)) (Cs_nd (Cs_lf (sg_cgt dX4_has_13 (by decide))) (Cs_lf (sg_iload_n dX4_has_16 rfl)))))) (Cs_nd (Cs_nd (Cs_nd (Cs_lf (sg_aload_n dX4_has_17 rfl)) (Cs_lf (sg_getf dX4_has_18 rfl inX4 (by decide) w_47))) (Cs_nd (Cs_lf (sg_iload_n dX4_has_21 rfl)) (Cs_lf (sg_isub dX4_has_22)))) (Cs_nd (Cs_nd (Cs_lf (sg_cgt dX4_has_23 (by decide))) (Cs_lf (sg_iconst dX4_has_26 (by decide)))) (Cs_nd (Cs_lf (sg_goto dX4_has_27 (by decide))) (Cs_nd (Cs_lf (sg_iconst dX4_has_30 (by decide))) (Cs_lf (sg_zret dX4_has_31 rfl ⟨by decide, by decide⟩)))))))
theorem dX4_one_0 : decode cX4_one 0 = .ok (.iload_n 1, 1) := by decide +kernel
theorem dX4_one_1 : decode cX4_one 1 = .ok (.ifCond .lt 33, 3) := by decide +kernel
theorem dX4_one_4 : decode cX4_one 4 = .ok (.iload_n 1, 1) := by decide +kernel
theorem dX4_one_5 : decode cX4_one 5 = .ok (.aload_n 0, 1) := by decide +kernel
theorem dX4_one_6 : decode cX4_one 6 = .ok (.getfield 15, 3) := by decide +kernel
theorem dX4_one_9 : decode cX4_one 9 = .ok (.if_icmp .ge 25, 3) := by decide +kernel
theorem dX4_one_12 : decode cX4_one 12 = .ok (.iload_n 1, 1) := by decide +kernel
theorem dX4_one_13 : decode cX4_one 13 = .ok (.aload_n 0, 1) := by decide +kernel
theorem dX4_one_14 : decode cX4_one 14 = .ok (.getfield 9, 3) := by decide +kernel
theorem dX4_one_17 : decode cX4_one 17 = .ok (.arraylength, 1) := by decide +kernel
theorem dX4_one_18 : decode cX4_one 18 = .ok (.if_icmp .ge 16, 3) := by decide +kernel
theorem dX4_one_21 : decode cX4_one 21 = .ok (.aload_n 0, 1) := by decide +kernel
theorem dX4_one_22 : decode cX4_one 22 = .ok (.getfield 9, 3) := by decide +kernel
theorem dX4_one_25 : decode cX4_one 25 = .ok (.iload_n 1, 1) := by decide +kernel
theorem dX4_one_26 : decode cX4_one 26 = .ok (.baload, 1) := by decide +kernel
theorem dX4_one_27 : decode cX4_one 27 = .ok (.sipush 255, 3) := by decide +kernel
theorem dX4_one_30 : decode cX4_one 30 = .ok (.iand, 1) := by decide +kernel
theorem dX4_one_31 : decode cX4_one 31 = .ok (.goto 4, 3) := by decide +kernel
theorem dX4_one_34 : decode cX4_one 34 = .ok (.iconst 0, 1) := by decide +kernel
theorem dX4_one_35 : decode cX4_one 35 = .ok (.ireturn, 1) := by decide +kernel
set_option maxRecDepth 20000 in
theorem s_RW_one (E : XE) : Cs E (yX4_one, cX4_one, 2, some .int) (k_RW_one) := (Cs_nd (Cs_nd (Cs_nd (Cs_nd (Cs_lf (sg_iload_n dX4_one_0 rfl)) (Cs_lf (sg_iflt dX4_one_1 (by decide)))) (Cs_nd (Cs_lf (sg_iload_n dX4_one_4 rfl)) (Cs_nd (Cs_lf (sg_aload_n dX4_one_5 rfl)) (Cs_lf (sg_getf dX4_one_6 rfl inX4 (by decide) w_47))))) (Cs_nd (Cs_nd (Cs_lf (sg_cge dX4_one_9 (by decide))) (Cs_lf (sg_iload_n dX4_one_12 rfl))) (Cs_nd (Cs_lf (sg_aload_n dX4_one_13 rfl)) (Cs_nd (Cs_lf (sg_getf dX4_one_14 rfl inX4 (by decide) w_46)) (Cs_lf (sg_alen dX4_one_17)))))) (Cs_nd (Cs_nd (Cs_nd (Cs_lf (sg_cge dX4_one_18 (by decide))) (Cs_lf (sg_aload_n dX4_one_21 rfl))) (Cs_nd (Cs_lf (sg_getf dX4_one_22 rfl inX4 (by decide) w_46)) (Cs_nd (Cs_lf (sg_iload_n dX4_one_25 rfl)) (Cs_lf (sg_bald dX4_one_26))))) (Cs_nd (Cs_nd (Cs_lf (sg_sipush dX4_one_27 (by decide))) (Cs_lf (sg_iand dX4_one_30))) (Cs_nd (Cs_lf (sg_goto dX4_one_31 (by decide))) (Cs_nd (Cs_lf (sg_iconst dX4_one_34 (by decide))) (Cs_lf (sg_iret dX4_one_35 rfl)))))))
theorem dX4_two_0 : decode cX4_two 0 = .ok (.iload_n 1, 1) := by decide +kernel
theorem dX4_two_1 : decode cX4_two 1 = .ok (.ifCond .lt 24, 3) := by decide +kernel
theorem dX4_two_4 : decode cX4_two 4 = .ok (.iload_n 1, 1) := by decide +kernel
theorem dX4_two_5 : decode cX4_two 5 = .ok (.aload_n 0, 1) := by decide +kernel
theorem dX4_two_6 : decode cX4_two 6 = .ok (.getfield 15, 3) := by decide +kernel
theorem dX4_two_9 : decode cX4_two 9 = .ok (.iconst 1, 1) := by decide +kernel
theorem dX4_two_10 : decode cX4_two 10 = .ok (.isub, 1) := by decide +kernel
theorem dX4_two_11 : decode cX4_two 11 = .ok (.if_icmp .ge 14, 3) := by decide +kernel
theorem dX4_two_14 : decode cX4_two 14 = .ok (.iload_n 1, 1) := by decide +kernel
theorem dX4_two_15 : decode cX4_two 15 = .ok (.aload_n 0, 1) := by decide +kernel
theorem dX4_two_16 : decode cX4_two 16 = .ok (.getfield 9, 3) := by decide +kernel
theorem dX4_two_19 : decode cX4_two 19 = .ok (.arraylength, 1) := by decide +kernel
theorem dX4_two_20 : decode cX4_two 20 = .ok (.iconst 1, 1) := by decide +kernel
theorem dX4_two_21 : decode cX4_two 21 = .ok (.isub, 1) := by decide +kernel
theorem dX4_two_22 : decode cX4_two 22 = .ok (.if_icmp .lt 5, 3) := by decide +kernel
theorem dX4_two_25 : decode cX4_two 25 = .ok (.iconst 0, 1) := by decide +kernel
theorem dX4_two_26 : decode cX4_two 26 = .ok (.ireturn, 1) := by decide +kernel
theorem dX4_two_27 : decode cX4_two 27 = .ok (.aload_n 0, 1) := by decide +kernel
theorem dX4_two_28 : decode cX4_two 28 = .ok (.getfield 9, 3) := by decide +kernel
theorem dX4_two_31 : decode cX4_two 31 = .ok (.iload_n 1, 1) := by decide +kernel
theorem dX4_two_32 : decode cX4_two 32 = .ok (.baload, 1) := by decide +kernel
theorem dX4_two_33 : decode cX4_two 33 = .ok (.sipush 255, 3) := by decide +kernel
theorem dX4_two_36 : decode cX4_two 36 = .ok (.iand, 1) := by decide +kernel
theorem dX4_two_37 : decode cX4_two 37 = .ok (.bipush 8, 2) := by decide +kernel
theorem dX4_two_39 : decode cX4_two 39 = .ok (.ishl, 1) := by decide +kernel
theorem dX4_two_40 : decode cX4_two 40 = .ok (.aload_n 0, 1) := by decide +kernel
theorem dX4_two_41 : decode cX4_two 41 = .ok (.getfield 9, 3) := by decide +kernel
theorem dX4_two_44 : decode cX4_two 44 = .ok (.iload_n 1, 1) := by decide +kernel
theorem dX4_two_45 : decode cX4_two 45 = .ok (.iconst 1, 1) := by decide +kernel
theorem dX4_two_46 : decode cX4_two 46 = .ok (.iadd, 1) := by decide +kernel
theorem dX4_two_47 : decode cX4_two 47 = .ok (.baload, 1) := by decide +kernel
theorem dX4_two_48 : decode cX4_two 48 = .ok (.sipush 255, 3) := by decide +kernel
theorem dX4_two_51 : decode cX4_two 51 = .ok (.iand, 1) := by decide +kernel
theorem dX4_two_52 : decode cX4_two 52 = .ok (.ior, 1) := by decide +kernel
theorem dX4_two_53 : decode cX4_two 53 = .ok (.ireturn, 1) := by decide +kernel
set_option maxRecDepth 20000 in
theorem s_RW_two (E : XE) : Cs E (yX4_two, cX4_two, 2, some .int) (k_RW_two) := (Cs_nd (Cs_nd (Cs_nd (Cs_nd (Cs_nd (Cs_lf (sg_iload_n dX4_two_0 rfl)) (Cs_lf (sg_iflt dX4_two_1 (by decide)))) (Cs_nd (Cs_lf (sg_iload_n dX4_two_4 rfl)) (Cs_lf (sg_aload_n dX4_two_5 rfl)))) (Cs_nd (Cs_nd (Cs_lf (sg_getf dX4_two_6 rfl inX4 (by decide) w_47)) (Cs_lf (sg_iconst dX4_two_9 (by decide)))) (Cs_nd (Cs_lf (sg_isub dX4_two_10)) (Cs_lf (sg_cge dX4_two_11 (by decide)))))) (Cs_nd (Cs_nd (Cs_nd (Cs_lf (sg_iload_n dX4_two_14 rfl)) (Cs_lf (sg_aload_n dX4_two_15 rfl))) (Cs_nd (Cs_lf (sg_getf dX4_two_16 rfl inX4 (by decide) w_46)) (Cs_lf (sg_alen dX4_two_19)))) (Cs_nd (Cs_nd (Cs_lf (sg_iconst dX4_two_20 (by decide))) (Cs_lf (sg_isub dX4_two_21))) (Cs_nd (Cs_lf (sg_clt dX4_two_22 (by decide))) (Cs_nd (Cs_lf (sg_iconst dX4_two_25 (by decide))) (Cs_lf (sg_iret dX4_two_26 rfl))))))) (Cs_nd (Cs_nd (Cs_nd (Cs_nd (Cs_lf (sg_aload_n dX4_two_27 rfl)) (Cs_lf (sg_getf dX4_two_28 rfl inX4 (by decide) w_46))) (Cs_nd (Cs_lf (sg_iload_n dX4_two_31 rfl)) (Cs_lf (sg_bald dX4_two_32)))) (Cs_nd (Cs_nd (Cs_lf (sg_sipush dX4_two_33 (by decide))) (Cs_lf (sg_iand dX4_two_36))) (Cs_nd (Cs_lf (sg_bipush dX4_two_37 (by decide))) (Cs_nd (Cs_lf (sg_ishl dX4_two_39)) (Cs_lf (sg_aload_n dX4_two_40 rfl)))))) (Cs_nd (Cs_nd (Cs_nd (Cs_lf (sg_getf dX4_two_41 rfl inX4 (by decide) w_46)) (Cs_lf (sg_iload_n dX4_two_44 rfl))) (Cs_nd (Cs_lf (sg_iconst dX4_two_45 (by decide))) (Cs_lf (sg_iadd dX4_two_46)))) (Cs_nd (Cs_nd (Cs_lf (sg_bald dX4_two_47)) (Cs_lf (sg_sipush dX4_two_48 (by decide)))) (Cs_nd (Cs_lf (sg_iand dX4_two_51)) (Cs_nd (Cs_lf (sg_ior dX4_two_52)) (Cs_lf (sg_iret dX4_two_53 rfl))))))))
theorem dX4_four_0 : decode cX4_four 0 = .ok (.aload_n 0, 1) := by decide +kernel
theorem dX4_four_1 : decode cX4_four 1 = .ok (.iload_n 1, 1) := by decide +kernel
theorem dX4_four_2 : decode cX4_four 2 = .ok (.invokevirtual 19, 3) := by decide +kernel
theorem dX4_four_5 : decode cX4_four 5 = .ok (.bipush 16, 2) := by decide +kernel
theorem dX4_four_7 : decode cX4_four 7 = .ok (.ishl, 1) := by decide +kernel
theorem dX4_four_8 : decode cX4_four 8 = .ok (.aload_n 0, 1) := by decide +kernel
theorem dX4_four_9 : decode cX4_four 9 = .ok (.iload_n 1, 1) := by decide +kernel
theorem dX4_four_10 : decode cX4_four 10 = .ok (.iconst 2, 1) := by decide +kernel
theorem dX4_four_11 : decode cX4_four 11 = .ok (.iadd, 1) := by decide +kernel
theorem dX4_four_12 : decode cX4_four 12 = .ok (.invokevirtual 19, 3) := by decide +kernel
theorem dX4_four_15 : decode cX4_four 15 = .ok (.ior, 1) := by decide +kernel
theorem dX4_four_16 : decode cX4_four 16 = .ok (.ireturn, 1) := by decide +kernel
set_option maxRecDepth 20000 in
theorem s_RW_four (E : XE) : Cs E (yX4_four, cX4_four, 2, some .int) (k_RW_four) := (Cs_nd (Cs_nd (Cs_nd (Cs_lf (sg_aload_n dX4_four_0 rfl)) (Cs_nd (Cs_lf (sg_iload_n dX4_four_1 rfl)) (Cs_lf (sg_invV (mid := 64) (ci := 4) (by decide +kernel) dX4_four_2 ok_64 rfl w_352 w_291 w_292)))) (Cs_nd (Cs_lf (sg_bipush dX4_four_5 (by decide))) (Cs_nd (Cs_lf (sg_ishl dX4_four_7)) (Cs_lf (sg_aload_n dX4_four_8 rfl))))) (Cs_nd (Cs_nd (Cs_lf (sg_iload_n dX4_four_9 rfl)) (Cs_nd (Cs_lf (sg_iconst dX4_four_10 (by decide))) (Cs_lf (sg_iadd dX4_four_11)))) (Cs_nd (Cs_lf (sg_invV (mid := 64) (ci := 4) (by decide +kernel) dX4_four_12 ok_64 rfl w_352 w_291 w_292)) (Cs_nd (Cs_lf (sg_ior dX4_four_15)) (Cs_lf (sg_iret dX4_four_16 rfl))))))
theorem dX4_clear_0 : decode cX4_clear 0 = .ok (.aload_n 0, 1) := by decide +kernel
theorem dX4_clear_1 : decode cX4_clear 1 = .ok (.iconst 0, 1) := by decide +kernel
theorem dX4_clear_2 : decode cX4_clear 2 = .ok (.putfield 15, 3) := by decide +kernel
theorem dX4_clear_5 : decode cX4_clear 5 = .ok (.return_, 1) := by decide +kernel
set_option maxRecDepth 20000 in
theorem s_RW_clear (E : XE) : Cs E (yX4_clear, cX4_clear, 1, none) (k_RW_clear) := (Cs_nd (Cs_nd (Cs_lf (sg_aload_n dX4_clear_0 rfl)) (Cs_lf (sg_iconst dX4_clear_1 (by decide)))) (Cs_nd (Cs_lf (sg_putf dX4_clear_2 rfl inX4 tyX4_ok nmX4 (by decide) w_47 rfl (tyX4_ok 1 (by decide)) ok_int)) (Cs_lf (sg_vret dX4_clear_5 rfl))))
theorem dX4_push_0 : decode cX4_push 0 = .ok (.aload_n 0, 1) := by decide +kernel
theorem dX4_push_1 : decode cX4_push 1 = .ok (.getfield 15, 3) := by decide +kernel
theorem dX4_push_4 : decode cX4_push 4 = .ok (.ifCond .lt 36, 3) := by decide +kernel
theorem dX4_push_7 : decode cX4_push 7 = .ok (.aload_n 0, 1) := by decide +kernel
theorem dX4_push_8 : decode cX4_push 8 = .ok (.getfield 15, 3) := by decide +kernel
theorem dX4_push_11 : decode cX4_push 11 = .ok (.aload_n 0, 1) := by decide +kernel
theorem dX4_push_12 : decode cX4_push 12 = .ok (.getfield 9, 3) := by decide +kernel
theorem dX4_push_15 : decode cX4_push 15 = .ok (.arraylength, 1) := by decide +kernel
theorem dX4_push_16 : decode cX4_push 16 = .ok (.if_icmp .ge 24, 3) := by decide +kernel
theorem dX4_push_19 : decode cX4_push 19 = .ok (.aload_n 0, 1) := by decide +kernel
theorem dX4_push_20 : decode cX4_push 20 = .ok (.getfield 9, 3) := by decide +kernel
theorem dX4_push_23 : decode cX4_push 23 = .ok (.aload_n 0, 1) := by decide +kernel
theorem dX4_push_24 : decode cX4_push 24 = .ok (.getfield 15, 3) := by decide +kernel
theorem dX4_push_27 : decode cX4_push 27 = .ok (.iload_n 1, 1) := by decide +kernel
theorem dX4_push_28 : decode cX4_push 28 = .ok (.i2b, 1) := by decide +kernel
theorem dX4_push_29 : decode cX4_push 29 = .ok (.bastore, 1) := by decide +kernel
theorem dX4_push_30 : decode cX4_push 30 = .ok (.aload_n 0, 1) := by decide +kernel
theorem dX4_push_31 : decode cX4_push 31 = .ok (.dup, 1) := by decide +kernel
theorem dX4_push_32 : decode cX4_push 32 = .ok (.getfield 15, 3) := by decide +kernel
theorem dX4_push_35 : decode cX4_push 35 = .ok (.iconst 1, 1) := by decide +kernel
theorem dX4_push_36 : decode cX4_push 36 = .ok (.iadd, 1) := by decide +kernel
theorem dX4_push_37 : decode cX4_push 37 = .ok (.putfield 15, 3) := by decide +kernel
theorem dX4_push_40 : decode cX4_push 40 = .ok (.return_, 1) := by decide +kernel
set_option maxRecDepth 20000 in
theorem s_RW_push (E : XE) : Cs E (yX4_push, cX4_push, 2, none) (k_RW_push) := (Cs_nd (Cs_nd (Cs_nd (Cs_nd (Cs_lf (sg_aload_n dX4_push_0 rfl)) (Cs_lf (sg_getf dX4_push_1 rfl inX4 (by decide) w_47))) (Cs_nd (Cs_lf (sg_iflt dX4_push_4 (by decide))) (Cs_nd (Cs_lf (sg_aload_n dX4_push_7 rfl)) (Cs_lf (sg_getf dX4_push_8 rfl inX4 (by decide) w_47))))) (Cs_nd (Cs_nd (Cs_lf (sg_aload_n dX4_push_11 rfl)) (Cs_nd (Cs_lf (sg_getf dX4_push_12 rfl inX4 (by decide) w_46)) (Cs_lf (sg_alen dX4_push_15)))) (Cs_nd (Cs_lf (sg_cge dX4_push_16 (by decide))) (Cs_nd (Cs_lf (sg_aload_n dX4_push_19 rfl)) (Cs_lf (sg_getf dX4_push_20 rfl inX4 (by decide) w_46)))))) (Cs_nd (Cs_nd (Cs_nd (Cs_lf (sg_aload_n dX4_push_23 rfl)) (Cs_nd (Cs_lf (sg_getf dX4_push_24 rfl inX4 (by decide) w_47)) (Cs_lf (sg_iload_n dX4_push_27 rfl)))) (Cs_nd (Cs_lf (sg_i2b dX4_push_28)) (Cs_nd (Cs_lf (sg_bast dX4_push_29)) (Cs_lf (sg_aload_n dX4_push_30 rfl))))) (Cs_nd (Cs_nd (Cs_lf (sg_dup dX4_push_31)) (Cs_nd (Cs_lf (sg_getf dX4_push_32 rfl inX4 (by decide) w_47)) (Cs_lf (sg_iconst dX4_push_35 (by decide))))) (Cs_nd (Cs_lf (sg_iadd dX4_push_36)) (Cs_nd (Cs_lf (sg_putf dX4_push_37 rfl inX4 tyX4_ok nmX4 (by decide) w_47 rfl (tyX4_ok 1 (by decide)) ok_int)) (Cs_lf (sg_vret dX4_push_40 rfl)))))))
theorem dX4_pushTwo_0 : decode cX4_pushTwo 0 = .ok (.aload_n 0, 1) := by decide +kernel
theorem dX4_pushTwo_1 : decode cX4_pushTwo 1 = .ok (.iload_n 1, 1) := by decide +kernel
theorem dX4_pushTwo_2 : decode cX4_pushTwo 2 = .ok (.bipush 8, 2) := by decide +kernel
theorem dX4_pushTwo_4 : decode cX4_pushTwo 4 = .ok (.ishr, 1) := by decide +kernel
theorem dX4_pushTwo_5 : decode cX4_pushTwo 5 = .ok (.invokevirtual 23, 3) := by decide +kernel
theorem dX4_pushTwo_8 : decode cX4_pushTwo 8 = .ok (.aload_n 0, 1) := by decide +kernel
theorem dX4_pushTwo_9 : decode cX4_pushTwo 9 = .ok (.iload_n 1, 1) := by decide +kernel
theorem dX4_pushTwo_10 : decode cX4_pushTwo 10 = .ok (.invokevirtual 23, 3) := by decide +kernel
theorem dX4_pushTwo_13 : decode cX4_pushTwo 13 = .ok (.return_, 1) := by decide +kernel
set_option maxRecDepth 20000 in
theorem s_RW_pushTwo (E : XE) : Cs E (yX4_pushTwo, cX4_pushTwo, 2, none) (k_RW_pushTwo) := (Cs_nd (Cs_nd (Cs_nd (Cs_lf (sg_aload_n dX4_pushTwo_0 rfl)) (Cs_lf (sg_iload_n dX4_pushTwo_1 rfl))) (Cs_nd (Cs_lf (sg_bipush dX4_pushTwo_2 (by decide))) (Cs_lf (sg_ishr dX4_pushTwo_4)))) (Cs_nd (Cs_nd (Cs_lf (sg_invV (mid := 67) (ci := 4) (by decide +kernel) dX4_pushTwo_5 ok_67 rfl w_663 w_195 w_196)) (Cs_lf (sg_aload_n dX4_pushTwo_8 rfl))) (Cs_nd (Cs_lf (sg_iload_n dX4_pushTwo_9 rfl)) (Cs_nd (Cs_lf (sg_invV (mid := 67) (ci := 4) (by decide +kernel) dX4_pushTwo_10 ok_67 rfl w_663 w_195 w_196)) (Cs_lf (sg_vret dX4_pushTwo_13 rfl))))))
theorem dX4_putTwo_0 : decode cX4_putTwo 0 = .ok (.aload_n 0, 1) := by decide +kernel
theorem dX4_putTwo_1 : decode cX4_putTwo 1 = .ok (.iload_n 1, 1) := by decide +kernel
theorem dX4_putTwo_2 : decode cX4_putTwo 2 = .ok (.iconst 2, 1) := by decide +kernel
theorem dX4_putTwo_3 : decode cX4_putTwo 3 = .ok (.invokevirtual 27, 3) := by decide +kernel
theorem dX4_putTwo_6 : decode cX4_putTwo 6 = .ok (.ifCond .eq 35, 3) := by decide +kernel
theorem dX4_putTwo_9 : decode cX4_putTwo 9 = .ok (.iload_n 1, 1) := by decide +kernel
theorem dX4_putTwo_10 : decode cX4_putTwo 10 = .ok (.iconst 1, 1) := by decide +kernel
theorem dX4_putTwo_11 : decode cX4_putTwo 11 = .ok (.iadd, 1) := by decide +kernel
theorem dX4_putTwo_12 : decode cX4_putTwo 12 = .ok (.aload_n 0, 1) := by decide +kernel
theorem dX4_putTwo_13 : decode cX4_putTwo 13 = .ok (.getfield 9, 3) := by decide +kernel
theorem dX4_putTwo_16 : decode cX4_putTwo 16 = .ok (.arraylength, 1) := by decide +kernel
theorem dX4_putTwo_17 : decode cX4_putTwo 17 = .ok (.if_icmp .ge 24, 3) := by decide +kernel
theorem dX4_putTwo_20 : decode cX4_putTwo 20 = .ok (.aload_n 0, 1) := by decide +kernel
theorem dX4_putTwo_21 : decode cX4_putTwo 21 = .ok (.getfield 9, 3) := by decide +kernel
theorem dX4_putTwo_24 : decode cX4_putTwo 24 = .ok (.iload_n 1, 1) := by decide +kernel
theorem dX4_putTwo_25 : decode cX4_putTwo 25 = .ok (.iload_n 2, 1) := by decide +kernel
theorem dX4_putTwo_26 : decode cX4_putTwo 26 = .ok (.bipush 8, 2) := by decide +kernel
theorem dX4_putTwo_28 : decode cX4_putTwo 28 = .ok (.ishr, 1) := by decide +kernel
theorem dX4_putTwo_29 : decode cX4_putTwo 29 = .ok (.i2b, 1) := by decide +kernel
theorem dX4_putTwo_30 : decode cX4_putTwo 30 = .ok (.bastore, 1) := by decide +kernel
theorem dX4_putTwo_31 : decode cX4_putTwo 31 = .ok (.aload_n 0, 1) := by decide +kernel
theorem dX4_putTwo_32 : decode cX4_putTwo 32 = .ok (.getfield 9, 3) := by decide +kernel
theorem dX4_putTwo_35 : decode cX4_putTwo 35 = .ok (.iload_n 1, 1) := by decide +kernel
theorem dX4_putTwo_36 : decode cX4_putTwo 36 = .ok (.iconst 1, 1) := by decide +kernel
theorem dX4_putTwo_37 : decode cX4_putTwo 37 = .ok (.iadd, 1) := by decide +kernel
theorem dX4_putTwo_38 : decode cX4_putTwo 38 = .ok (.iload_n 2, 1) := by decide +kernel
theorem dX4_putTwo_39 : decode cX4_putTwo 39 = .ok (.i2b, 1) := by decide +kernel
theorem dX4_putTwo_40 : decode cX4_putTwo 40 = .ok (.bastore, 1) := by decide +kernel
theorem dX4_putTwo_41 : decode cX4_putTwo 41 = .ok (.return_, 1) := by decide +kernel
set_option maxRecDepth 20000 in
theorem s_RW_putTwo (E : XE) : Cs E (yX4_putTwo, cX4_putTwo, 3, none) (k_RW_putTwo) := (Cs_nd (Cs_nd (Cs_nd (Cs_nd (Cs_lf (sg_aload_n dX4_putTwo_0 rfl)) (Cs_nd (Cs_lf (sg_iload_n dX4_putTwo_1 rfl)) (Cs_lf (sg_iconst dX4_putTwo_2 (by decide))))) (Cs_nd (Cs_nd (Cs_lf (sg_invV (mid := 62) (ci := 4) (by decide +kernel) dX4_putTwo_3 ok_62 rfl w_219 w_220 w_221)) (Cs_lf (sg_ifeq dX4_putTwo_6 (by decide)))) (Cs_nd (Cs_lf (sg_iload_n dX4_putTwo_9 rfl)) (Cs_lf (sg_iconst dX4_putTwo_10 (by decide)))))) (Cs_nd (Cs_nd (Cs_lf (sg_iadd dX4_putTwo_11)) (Cs_nd (Cs_lf (sg_aload_n dX4_putTwo_12 rfl)) (Cs_lf (sg_getf dX4_putTwo_13 rfl inX4 (by decide) w_46)))) (Cs_nd (Cs_nd (Cs_lf (sg_alen dX4_putTwo_16)) (Cs_lf (sg_cge dX4_putTwo_17 (by decide)))) (Cs_nd (Cs_lf (sg_aload_n dX4_putTwo_20 rfl)) (Cs_lf (sg_getf dX4_putTwo_21 rfl inX4 (by decide) w_46)))))) (Cs_nd (Cs_nd (Cs_nd (Cs_lf (sg_iload_n dX4_putTwo_24 rfl)) (Cs_nd (Cs_lf (sg_iload_n dX4_putTwo_25 rfl)) (Cs_lf (sg_bipush dX4_putTwo_26 (by decide))))) (Cs_nd (Cs_nd (Cs_lf (sg_ishr dX4_putTwo_28)) (Cs_lf (sg_i2b dX4_putTwo_29))) (Cs_nd (Cs_lf (sg_bast dX4_putTwo_30)) (Cs_lf (sg_aload_n dX4_putTwo_31 rfl))))) (Cs_nd (Cs_nd (Cs_nd (Cs_lf (sg_getf dX4_putTwo_32 rfl inX4 (by decide) w_46)) (Cs_lf (sg_iload_n dX4_putTwo_35 rfl))) (Cs_nd (Cs_lf (sg_iconst dX4_putTwo_36 (by decide))) (Cs_lf (sg_iadd dX4_putTwo_37)))) (Cs_nd (Cs_nd (Cs_lf (sg_iload_n dX4_putTwo_38 rfl)) (Cs_lf (sg_i2b dX4_putTwo_39))) (Cs_nd (Cs_lf (sg_bast dX4_putTwo_40)) (Cs_lf (sg_vret dX4_putTwo_41 rfl)))))))
theorem dX4_append_0 : decode cX4_append 0 = .ok (.aload_n 1, 1) := by decide +kernel
theorem dX4_append_1 : decode cX4_append 1 = .ok (.iload_n 2, 1) := by decide +kernel
theorem dX4_append_2 : decode cX4_append 2 = .ok (.iload_n 3, 1) := by decide +kernel
theorem dX4_append_3 : decode cX4_append 3 = .ok (.invokevirtual 27, 3) := by decide +kernel
theorem dX4_append_6 : decode cX4_append 6 = .ok (.ifCond .eq 44, 3) := by decide +kernel
theorem dX4_append_9 : decode cX4_append 9 = .ok (.iload_n 3, 1) := by decide +kernel
theorem dX4_append_10 : decode cX4_append 10 = .ok (.aload_n 0, 1) := by decide +kernel
theorem dX4_append_11 : decode cX4_append 11 = .ok (.getfield 9, 3) := by decide +kernel
theorem dX4_append_14 : decode cX4_append 14 = .ok (.arraylength, 1) := by decide +kernel
theorem dX4_append_15 : decode cX4_append 15 = .ok (.aload_n 0, 1) := by decide +kernel
theorem dX4_append_16 : decode cX4_append 16 = .ok (.getfield 15, 3) := by decide +kernel
theorem dX4_append_19 : decode cX4_append 19 = .ok (.isub, 1) := by decide +kernel
theorem dX4_append_20 : decode cX4_append 20 = .ok (.if_icmp .gt 30, 3) := by decide +kernel
theorem dX4_append_23 : decode cX4_append 23 = .ok (.aload_n 1, 1) := by decide +kernel
theorem dX4_append_24 : decode cX4_append 24 = .ok (.getfield 9, 3) := by decide +kernel
theorem dX4_append_27 : decode cX4_append 27 = .ok (.iload_n 2, 1) := by decide +kernel
theorem dX4_append_28 : decode cX4_append 28 = .ok (.aload_n 0, 1) := by decide +kernel
theorem dX4_append_29 : decode cX4_append 29 = .ok (.getfield 9, 3) := by decide +kernel
theorem dX4_append_32 : decode cX4_append 32 = .ok (.aload_n 0, 1) := by decide +kernel
theorem dX4_append_33 : decode cX4_append 33 = .ok (.getfield 15, 3) := by decide +kernel
theorem dX4_append_36 : decode cX4_append 36 = .ok (.iload_n 3, 1) := by decide +kernel
theorem dX4_append_37 : decode cX4_append 37 = .ok (.invokestatic 31, 3) := by decide +kernel
theorem dX4_append_40 : decode cX4_append 40 = .ok (.aload_n 0, 1) := by decide +kernel
theorem dX4_append_41 : decode cX4_append 41 = .ok (.dup, 1) := by decide +kernel
theorem dX4_append_42 : decode cX4_append 42 = .ok (.getfield 15, 3) := by decide +kernel
theorem dX4_append_45 : decode cX4_append 45 = .ok (.iload_n 3, 1) := by decide +kernel
theorem dX4_append_46 : decode cX4_append 46 = .ok (.iadd, 1) := by decide +kernel
theorem dX4_append_47 : decode cX4_append 47 = .ok (.putfield 15, 3) := by decide +kernel
theorem dX4_append_50 : decode cX4_append 50 = .ok (.return_, 1) := by decide +kernel
set_option maxRecDepth 20000 in
theorem s_RW_append (E : XE) : Cs E (yX4_append, cX4_append, 4, none) (k_RW_append) := (Cs_nd (Cs_nd (Cs_nd (Cs_nd (Cs_lf (sg_aload_n dX4_append_0 rfl)) (Cs_nd (Cs_lf (sg_iload_n dX4_append_1 rfl)) (Cs_lf (sg_iload_n dX4_append_2 rfl)))) (Cs_nd (Cs_nd (Cs_lf (sg_invV (mid := 62) (ci := 4) (by decide +kernel) dX4_append_3 ok_62 rfl w_219 w_220 w_221)) (Cs_lf (sg_ifeq dX4_append_6 (by decide)))) (Cs_nd (Cs_lf (sg_iload_n dX4_append_9 rfl)) (Cs_lf (sg_aload_n dX4_append_10 rfl))))) (Cs_nd (Cs_nd (Cs_lf (sg_getf dX4_append_11 rfl inX4 (by decide) w_46)) (Cs_nd (Cs_lf (sg_alen dX4_append_14)) (Cs_lf (sg_aload_n dX4_append_15 rfl)))) (Cs_nd (Cs_nd (Cs_lf (sg_getf dX4_append_16 rfl inX4 (by decide) w_47)) (Cs_lf (sg_isub dX4_append_19))) (Cs_nd (Cs_lf (sg_cgt dX4_append_20 (by decide))) (Cs_lf (sg_aload_n dX4_append_23 rfl)))))) (Cs_nd (Cs_nd (Cs_nd (Cs_lf (sg_getf dX4_append_24 rfl inX4 (by decide) w_46)) (Cs_nd (Cs_lf (sg_iload_n dX4_append_27 rfl)) (Cs_lf (sg_aload_n dX4_append_28 rfl)))) (Cs_nd (Cs_nd (Cs_lf (sg_getf dX4_append_29 rfl inX4 (by decide) w_46)) (Cs_lf (sg_aload_n dX4_append_32 rfl))) (Cs_nd (Cs_lf (sg_getf dX4_append_33 rfl inX4 (by decide) w_47)) (Cs_lf (sg_iload_n dX4_append_36 rfl))))) (Cs_nd (Cs_nd (Cs_nd (Cs_lf (sg_acp dX4_append_37 w_223 w_225 w_224 w_8)) (Cs_lf (sg_aload_n dX4_append_40 rfl))) (Cs_nd (Cs_lf (sg_dup dX4_append_41)) (Cs_lf (sg_getf dX4_append_42 rfl inX4 (by decide) w_47)))) (Cs_nd (Cs_nd (Cs_lf (sg_iload_n dX4_append_45 rfl)) (Cs_lf (sg_iadd dX4_append_46))) (Cs_nd (Cs_lf (sg_putf dX4_append_47 rfl inX4 tyX4_ok nmX4 (by decide) w_47 rfl (tyX4_ok 1 (by decide)) ok_int)) (Cs_lf (sg_vret dX4_append_50 rfl)))))))
theorem dX4_take_0 : decode cX4_take 0 = .ok (.aload_n 0, 1) := by decide +kernel
theorem dX4_take_1 : decode cX4_take 1 = .ok (.invokevirtual 37, 3) := by decide +kernel
theorem dX4_take_4 : decode cX4_take 4 = .ok (.aload_n 0, 1) := by decide +kernel
theorem dX4_take_5 : decode cX4_take 5 = .ok (.aload_n 1, 1) := by decide +kernel
theorem dX4_take_6 : decode cX4_take 6 = .ok (.iload_n 2, 1) := by decide +kernel
theorem dX4_take_7 : decode cX4_take 7 = .ok (.iload_n 3, 1) := by decide +kernel
theorem dX4_take_8 : decode cX4_take 8 = .ok (.invokevirtual 40, 3) := by decide +kernel
theorem dX4_take_11 : decode cX4_take 11 = .ok (.aload_n 0, 1) := by decide +kernel
theorem dX4_take_12 : decode cX4_take 12 = .ok (.getfield 15, 3) := by decide +kernel
theorem dX4_take_15 : decode cX4_take 15 = .ok (.ireturn, 1) := by decide +kernel
set_option maxRecDepth 20000 in
theorem s_RW_take (E : XE) : Cs E (yX4_take, cX4_take, 4, some .int) (k_RW_take) := (Cs_nd (Cs_nd (Cs_nd (Cs_lf (sg_aload_n dX4_take_0 rfl)) (Cs_lf (sg_invV (mid := 66) (ci := 4) (by decide +kernel) dX4_take_1 ok_66 rfl w_211 w_212 w_213))) (Cs_nd (Cs_lf (sg_aload_n dX4_take_4 rfl)) (Cs_nd (Cs_lf (sg_aload_n dX4_take_5 rfl)) (Cs_lf (sg_iload_n dX4_take_6 rfl))))) (Cs_nd (Cs_nd (Cs_lf (sg_iload_n dX4_take_7 rfl)) (Cs_lf (sg_invV (mid := 70) (ci := 4) (by decide +kernel) dX4_take_8 ok_70 rfl w_215 w_216 w_217))) (Cs_nd (Cs_lf (sg_aload_n dX4_take_11 rfl)) (Cs_nd (Cs_lf (sg_getf dX4_take_12 rfl inX4 (by decide) w_47)) (Cs_lf (sg_iret dX4_take_15 rfl))))))
theorem dX4_order_0 : decode cX4_order 0 = .ok (.iload_n 2, 1) := by decide +kernel
theorem dX4_order_1 : decode cX4_order 1 = .ok (.iload 5, 2) := by decide +kernel
theorem dX4_order_3 : decode cX4_order 3 = .ok (.invokestatic 44, 3) := by decide +kernel
theorem dX4_order_6 : decode cX4_order 6 = .ok (.istore 6, 2) := by decide +kernel
theorem dX4_order_8 : decode cX4_order 8 = .ok (.iconst 0, 1) := by decide +kernel
theorem dX4_order_9 : decode cX4_order 9 = .ok (.istore 7, 2) := by decide +kernel
theorem dX4_order_11 : decode cX4_order 11 = .ok (.iload 7, 2) := by decide +kernel
theorem dX4_order_13 : decode cX4_order 13 = .ok (.iload 6, 2) := by decide +kernel
theorem dX4_order_15 : decode cX4_order 15 = .ok (.if_icmp .ge 39, 3) := by decide +kernel
theorem dX4_order_18 : decode cX4_order 18 = .ok (.aload_n 0, 1) := by decide +kernel
theorem dX4_order_19 : decode cX4_order 19 = .ok (.iload_n 1, 1) := by decide +kernel
theorem dX4_order_20 : decode cX4_order 20 = .ok (.iload 7, 2) := by decide +kernel
theorem dX4_order_22 : decode cX4_order 22 = .ok (.iadd, 1) := by decide +kernel
theorem dX4_order_23 : decode cX4_order 23 = .ok (.invokevirtual 50, 3) := by decide +kernel
theorem dX4_order_26 : decode cX4_order 26 = .ok (.aload_n 3, 1) := by decide +kernel
theorem dX4_order_27 : decode cX4_order 27 = .ok (.iload 4, 2) := by decide +kernel
theorem dX4_order_29 : decode cX4_order 29 = .ok (.iload 7, 2) := by decide +kernel
theorem dX4_order_31 : decode cX4_order 31 = .ok (.iadd, 1) := by decide +kernel
theorem dX4_order_32 : decode cX4_order 32 = .ok (.invokevirtual 50, 3) := by decide +kernel
theorem dX4_order_35 : decode cX4_order 35 = .ok (.invokestatic 53, 3) := by decide +kernel
theorem dX4_order_38 : decode cX4_order 38 = .ok (.istore 8, 2) := by decide +kernel
theorem dX4_order_40 : decode cX4_order 40 = .ok (.iload 8, 2) := by decide +kernel
theorem dX4_order_42 : decode cX4_order 42 = .ok (.ifCond .eq 6, 3) := by decide +kernel
theorem dX4_order_45 : decode cX4_order 45 = .ok (.iload 8, 2) := by decide +kernel
theorem dX4_order_47 : decode cX4_order 47 = .ok (.ireturn, 1) := by decide +kernel
theorem dX4_order_48 : decode cX4_order 48 = .ok (.iinc 7 1, 3) := by decide +kernel
theorem dX4_order_51 : decode cX4_order 51 = .ok (.goto (-40), 3) := by decide +kernel
theorem dX4_order_54 : decode cX4_order 54 = .ok (.iload_n 2, 1) := by decide +kernel
theorem dX4_order_55 : decode cX4_order 55 = .ok (.iload 5, 2) := by decide +kernel
theorem dX4_order_57 : decode cX4_order 57 = .ok (.invokestatic 53, 3) := by decide +kernel
theorem dX4_order_60 : decode cX4_order 60 = .ok (.ireturn, 1) := by decide +kernel
set_option maxRecDepth 20000 in
theorem s_RW_order (E : XE) : Cs E (yX4_order, cX4_order, 9, some .int) (k_RW_order) := (Cs_nd (Cs_nd (Cs_nd (Cs_nd (Cs_lf (sg_iload_n dX4_order_0 rfl)) (Cs_nd (Cs_lf (sg_iload dX4_order_1)) (Cs_lf (sg_inv (mid := 182) (by decide +kernel) dX4_order_3 ok_182 w_582 w_583)))) (Cs_nd (Cs_nd (Cs_lf (sg_istore dX4_order_6 (by decide))) (Cs_lf (sg_iconst dX4_order_8 (by decide)))) (Cs_nd (Cs_lf (sg_istore dX4_order_9 (by decide))) (Cs_lf (sg_iload dX4_order_11))))) (Cs_nd (Cs_nd (Cs_nd (Cs_lf (sg_iload dX4_order_13)) (Cs_lf (sg_cge dX4_order_15 (by decide)))) (Cs_nd (Cs_lf (sg_aload_n dX4_order_18 rfl)) (Cs_lf (sg_iload_n dX4_order_19 rfl)))) (Cs_nd (Cs_nd (Cs_lf (sg_iload dX4_order_20)) (Cs_lf (sg_iadd dX4_order_22))) (Cs_nd (Cs_lf (sg_invV (mid := 63) (ci := 4) (by decide +kernel) dX4_order_23 ok_63 rfl w_585 w_278 w_279)) (Cs_lf (sg_aload_n dX4_order_26 rfl)))))) (Cs_nd (Cs_nd (Cs_nd (Cs_nd (Cs_lf (sg_iload dX4_order_27)) (Cs_lf (sg_iload dX4_order_29))) (Cs_nd (Cs_lf (sg_iadd dX4_order_31)) (Cs_lf (sg_invV (mid := 63) (ci := 4) (by decide +kernel) dX4_order_32 ok_63 rfl w_585 w_278 w_279)))) (Cs_nd (Cs_nd (Cs_lf (sg_inv (mid := 179) (by decide +kernel) dX4_order_35 ok_179 w_586 w_562)) (Cs_lf (sg_istore dX4_order_38 (by decide)))) (Cs_nd (Cs_lf (sg_iload dX4_order_40)) (Cs_lf (sg_ifeq dX4_order_42 (by decide)))))) (Cs_nd (Cs_nd (Cs_nd (Cs_lf (sg_iload dX4_order_45)) (Cs_lf (sg_iret dX4_order_47 rfl))) (Cs_nd (Cs_lf (sg_iinc dX4_order_48 (by decide) (by decide))) (Cs_lf (sg_goto dX4_order_51 (by decide))))) (Cs_nd (Cs_nd (Cs_lf (sg_iload_n dX4_order_54 rfl)) (Cs_lf (sg_iload dX4_order_55))) (Cs_nd (Cs_lf (sg_inv (mid := 179) (by decide +kernel) dX4_order_57 ok_179 w_586 w_562)) (Cs_lf (sg_iret dX4_order_60 rfl)))))))
theorem dX5_isType_0 : decode cX5_isType 0 = .ok (.aload_n 0, 1) := by decide +kernel
theorem dX5_isType_1 : decode cX5_isType 1 = .ok (.iload_n 1, 1) := by decide +kernel
theorem dX5_isType_2 : decode cX5_isType 2 = .ok (.iload_n 2, 1) := by decide +kernel
theorem dX5_isType_3 : decode cX5_isType 3 = .ok (.invokestatic 9, 3) := by decide +kernel
theorem dX5_isType_6 : decode cX5_isType 6 = .ok (.iload_n 2, 1) := by decide +kernel
theorem dX5_isType_7 : decode cX5_isType 7 = .ok (.if_icmp .ne 7, 3) := by decide +kernel
theorem dX5_isType_10 : decode cX5_isType 10 = .ok (.iconst 1, 1) := by decide +kernel
theorem dX5_isType_11 : decode cX5_isType 11 = .ok (.goto 4, 3) := by decide +kernel
theorem dX5_isType_14 : decode cX5_isType 14 = .ok (.iconst 0, 1) := by decide +kernel
theorem dX5_isType_15 : decode cX5_isType 15 = .ok (.ireturn, 1) := by decide +kernel
set_option maxRecDepth 20000 in
theorem s_SO_isType (E : XE) : Cs E (yX5_isType, cX5_isType, 3, some .boolean) (k_SO_isType) := (Cs_nd (Cs_nd (Cs_nd (Cs_lf (sg_aload_n dX5_isType_0 rfl)) (Cs_lf (sg_iload_n dX5_isType_1 rfl))) (Cs_nd (Cs_lf (sg_iload_n dX5_isType_2 rfl)) (Cs_nd (Cs_lf (sg_inv (mid := 78) (by decide +kernel) dX5_isType_3 ok_78 w_407 w_408)) (Cs_lf (sg_iload_n dX5_isType_6 rfl))))) (Cs_nd (Cs_nd (Cs_lf (sg_cne dX5_isType_7 (by decide))) (Cs_lf (sg_iconst dX5_isType_10 (by decide)))) (Cs_nd (Cs_lf (sg_goto dX5_isType_11 (by decide))) (Cs_nd (Cs_lf (sg_iconst dX5_isType_14 (by decide))) (Cs_lf (sg_zret dX5_isType_15 rfl ⟨by decide, by decide⟩))))))
theorem dX5_isMethod_0 : decode cX5_isMethod 0 = .ok (.aload_n 0, 1) := by decide +kernel
theorem dX5_isMethod_1 : decode cX5_isMethod 1 = .ok (.iload_n 1, 1) := by decide +kernel
theorem dX5_isMethod_2 : decode cX5_isMethod 2 = .ok (.iload_n 2, 1) := by decide +kernel
theorem dX5_isMethod_3 : decode cX5_isMethod 3 = .ok (.invokestatic 15, 3) := by decide +kernel
theorem dX5_isMethod_6 : decode cX5_isMethod 6 = .ok (.istore_n 3, 1) := by decide +kernel
theorem dX5_isMethod_7 : decode cX5_isMethod 7 = .ok (.iload_n 3, 1) := by decide +kernel
theorem dX5_isMethod_8 : decode cX5_isMethod 8 = .ok (.iconst (-1), 1) := by decide +kernel
theorem dX5_isMethod_9 : decode cX5_isMethod 9 = .ok (.if_icmp .ne 5, 3) := by decide +kernel
theorem dX5_isMethod_12 : decode cX5_isMethod 12 = .ok (.iconst 0, 1) := by decide +kernel
theorem dX5_isMethod_13 : decode cX5_isMethod 13 = .ok (.ireturn, 1) := by decide +kernel
theorem dX5_isMethod_14 : decode cX5_isMethod 14 = .ok (.iload_n 3, 1) := by decide +kernel
theorem dX5_isMethod_15 : decode cX5_isMethod 15 = .ok (.iconst 2, 1) := by decide +kernel
theorem dX5_isMethod_16 : decode cX5_isMethod 16 = .ok (.iadd, 1) := by decide +kernel
theorem dX5_isMethod_17 : decode cX5_isMethod 17 = .ok (.iload_n 2, 1) := by decide +kernel
theorem dX5_isMethod_18 : decode cX5_isMethod 18 = .ok (.if_icmp .ne 19, 3) := by decide +kernel
theorem dX5_isMethod_21 : decode cX5_isMethod 21 = .ok (.aload_n 0, 1) := by decide +kernel
theorem dX5_isMethod_22 : decode cX5_isMethod 22 = .ok (.iload_n 3, 1) := by decide +kernel
theorem dX5_isMethod_23 : decode cX5_isMethod 23 = .ok (.iconst 1, 1) := by decide +kernel
theorem dX5_isMethod_24 : decode cX5_isMethod 24 = .ok (.iadd, 1) := by decide +kernel
theorem dX5_isMethod_25 : decode cX5_isMethod 25 = .ok (.invokevirtual 18, 3) := by decide +kernel
theorem dX5_isMethod_28 : decode cX5_isMethod 28 = .ok (.bipush 86, 2) := by decide +kernel
theorem dX5_isMethod_30 : decode cX5_isMethod 30 = .ok (.if_icmp .ne 7, 3) := by decide +kernel
theorem dX5_isMethod_33 : decode cX5_isMethod 33 = .ok (.iconst 1, 1) := by decide +kernel
theorem dX5_isMethod_34 : decode cX5_isMethod 34 = .ok (.goto 4, 3) := by decide +kernel
theorem dX5_isMethod_37 : decode cX5_isMethod 37 = .ok (.iconst 0, 1) := by decide +kernel
theorem dX5_isMethod_38 : decode cX5_isMethod 38 = .ok (.istore 4, 2) := by decide +kernel
theorem dX5_isMethod_40 : decode cX5_isMethod 40 = .ok (.iload 4, 2) := by decide +kernel
theorem dX5_isMethod_42 : decode cX5_isMethod 42 = .ok (.ifCond .ne 14, 3) := by decide +kernel
theorem dX5_isMethod_45 : decode cX5_isMethod 45 = .ok (.aload_n 0, 1) := by decide +kernel
theorem dX5_isMethod_46 : decode cX5_isMethod 46 = .ok (.iload_n 3, 1) := by decide +kernel
theorem dX5_isMethod_47 : decode cX5_isMethod 47 = .ok (.iconst 1, 1) := by decide +kernel
theorem dX5_isMethod_48 : decode cX5_isMethod 48 = .ok (.iadd, 1) := by decide +kernel
theorem dX5_isMethod_49 : decode cX5_isMethod 49 = .ok (.iload_n 2, 1) := by decide +kernel
theorem dX5_isMethod_50 : decode cX5_isMethod 50 = .ok (.invokestatic 24, 3) := by decide +kernel
theorem dX5_isMethod_53 : decode cX5_isMethod 53 = .ok (.ifCond .eq 7, 3) := by decide +kernel
theorem dX5_isMethod_56 : decode cX5_isMethod 56 = .ok (.iconst 1, 1) := by decide +kernel
theorem dX5_isMethod_57 : decode cX5_isMethod 57 = .ok (.goto 4, 3) := by decide +kernel
theorem dX5_isMethod_60 : decode cX5_isMethod 60 = .ok (.iconst 0, 1) := by decide +kernel
theorem dX5_isMethod_61 : decode cX5_isMethod 61 = .ok (.ireturn, 1) := by decide +kernel
set_option maxRecDepth 20000 in
theorem s_SO_isMethod (E : XE) : Cs E (yX5_isMethod, cX5_isMethod, 5, some .boolean) (k_SO_isMethod) := (Cs_nd (Cs_nd (Cs_nd (Cs_nd (Cs_nd (Cs_lf (sg_aload_n dX5_isMethod_0 rfl)) (Cs_lf (sg_iload_n dX5_isMethod_1 rfl))) (Cs_nd (Cs_lf (sg_iload_n dX5_isMethod_2 rfl)) (Cs_lf (sg_inv (mid := 77) (by decide +kernel) dX5_isMethod_3 ok_77 w_417 w_418)))) (Cs_nd (Cs_nd (Cs_lf (sg_istore_n dX5_isMethod_6 rfl (by decide))) (Cs_lf (sg_iload_n dX5_isMethod_7 rfl))) (Cs_nd (Cs_lf (sg_iconst dX5_isMethod_8 (by decide))) (Cs_nd (Cs_lf (sg_cne dX5_isMethod_9 (by decide))) (Cs_lf (sg_iconst dX5_isMethod_12 (by decide))))))) (Cs_nd (Cs_nd (Cs_nd (Cs_lf (sg_zret dX5_isMethod_13 rfl ⟨by decide, by decide⟩)) (Cs_lf (sg_iload_n dX5_isMethod_14 rfl))) (Cs_nd (Cs_lf (sg_iconst dX5_isMethod_15 (by decide))) (Cs_nd (Cs_lf (sg_iadd dX5_isMethod_16)) (Cs_lf (sg_iload_n dX5_isMethod_17 rfl))))) (Cs_nd (Cs_nd (Cs_lf (sg_cne dX5_isMethod_18 (by decide))) (Cs_lf (sg_aload_n dX5_isMethod_21 rfl))) (Cs_nd (Cs_lf (sg_iload_n dX5_isMethod_22 rfl)) (Cs_nd (Cs_lf (sg_iconst dX5_isMethod_23 (by decide))) (Cs_lf (sg_iadd dX5_isMethod_24))))))) (Cs_nd (Cs_nd (Cs_nd (Cs_nd (Cs_lf (sg_invV (mid := 63) (ci := 4) (by decide +kernel) dX5_isMethod_25 ok_63 rfl w_410 w_278 w_279)) (Cs_lf (sg_bipush dX5_isMethod_28 (by decide)))) (Cs_nd (Cs_lf (sg_cne dX5_isMethod_30 (by decide))) (Cs_nd (Cs_lf (sg_iconst dX5_isMethod_33 (by decide))) (Cs_lf (sg_goto dX5_isMethod_34 (by decide)))))) (Cs_nd (Cs_nd (Cs_lf (sg_iconst dX5_isMethod_37 (by decide))) (Cs_lf (sg_istore dX5_isMethod_38 (by decide)))) (Cs_nd (Cs_lf (sg_iload dX5_isMethod_40)) (Cs_nd (Cs_lf (sg_ifne dX5_isMethod_42 (by decide))) (Cs_lf (sg_aload_n dX5_isMethod_45 rfl)))))) (Cs_nd (Cs_nd (Cs_nd (Cs_lf (sg_iload_n dX5_isMethod_46 rfl)) (Cs_lf (sg_iconst dX5_isMethod_47 (by decide)))) (Cs_nd (Cs_lf (sg_iadd dX5_isMethod_48)) (Cs_nd (Cs_lf (sg_iload_n dX5_isMethod_49 rfl)) (Cs_lf (sg_inv (mid := 73) (by decide +kernel) dX5_isMethod_50 ok_73 w_420 w_405))))) (Cs_nd (Cs_nd (Cs_lf (sg_ifeq dX5_isMethod_53 (by decide))) (Cs_lf (sg_iconst dX5_isMethod_56 (by decide)))) (Cs_nd (Cs_lf (sg_goto dX5_isMethod_57 (by decide))) (Cs_nd (Cs_lf (sg_iconst dX5_isMethod_60 (by decide))) (Cs_lf (sg_zret dX5_isMethod_61 rfl ⟨by decide, by decide⟩))))))))
theorem dX5_width_0 : decode cX5_width 0 = .ok (.aload_n 0, 1) := by decide +kernel
theorem dX5_width_1 : decode cX5_width 1 = .ok (.iload_n 1, 1) := by decide +kernel
theorem dX5_width_2 : decode cX5_width 2 = .ok (.invokevirtual 18, 3) := by decide +kernel
theorem dX5_width_5 : decode cX5_width 5 = .ok (.istore_n 2, 1) := by decide +kernel
theorem dX5_width_6 : decode cX5_width 6 = .ok (.iload_n 2, 1) := by decide +kernel
theorem dX5_width_7 : decode cX5_width 7 = .ok (.bipush 74, 2) := by decide +kernel
theorem dX5_width_9 : decode cX5_width 9 = .ok (.if_icmp .eq 9, 3) := by decide +kernel
theorem dX5_width_12 : decode cX5_width 12 = .ok (.iload_n 2, 1) := by decide +kernel
theorem dX5_width_13 : decode cX5_width 13 = .ok (.bipush 68, 2) := by decide +kernel
theorem dX5_width_15 : decode cX5_width 15 = .ok (.if_icmp .ne 7, 3) := by decide +kernel
theorem dX5_width_18 : decode cX5_width 18 = .ok (.iconst 2, 1) := by decide +kernel
theorem dX5_width_19 : decode cX5_width 19 = .ok (.goto 4, 3) := by decide +kernel
theorem dX5_width_22 : decode cX5_width 22 = .ok (.iconst 1, 1) := by decide +kernel
theorem dX5_width_23 : decode cX5_width 23 = .ok (.ireturn, 1) := by decide +kernel
set_option maxRecDepth 20000 in
theorem s_SO_width (E : XE) : Cs E (yX5_width, cX5_width, 3, some .int) (k_SO_width) := (Cs_nd (Cs_nd (Cs_nd (Cs_lf (sg_aload_n dX5_width_0 rfl)) (Cs_nd (Cs_lf (sg_iload_n dX5_width_1 rfl)) (Cs_lf (sg_invV (mid := 63) (ci := 4) (by decide +kernel) dX5_width_2 ok_63 rfl w_410 w_278 w_279)))) (Cs_nd (Cs_nd (Cs_lf (sg_istore_n dX5_width_5 rfl (by decide))) (Cs_lf (sg_iload_n dX5_width_6 rfl))) (Cs_nd (Cs_lf (sg_bipush dX5_width_7 (by decide))) (Cs_lf (sg_ceq dX5_width_9 (by decide)))))) (Cs_nd (Cs_nd (Cs_lf (sg_iload_n dX5_width_12 rfl)) (Cs_nd (Cs_lf (sg_bipush dX5_width_13 (by decide))) (Cs_lf (sg_cne dX5_width_15 (by decide))))) (Cs_nd (Cs_nd (Cs_lf (sg_iconst dX5_width_18 (by decide))) (Cs_lf (sg_goto dX5_width_19 (by decide)))) (Cs_nd (Cs_lf (sg_iconst dX5_width_22 (by decide))) (Cs_lf (sg_iret dX5_width_23 rfl))))))
theorem dX5_sum_0 : decode cX5_sum 0 = .ok (.iconst 0, 1) := by decide +kernel
theorem dX5_sum_1 : decode cX5_sum 1 = .ok (.istore 4, 2) := by decide +kernel
theorem dX5_sum_3 : decode cX5_sum 3 = .ok (.iload_n 1, 1) := by decide +kernel
theorem dX5_sum_4 : decode cX5_sum 4 = .ok (.iconst 1, 1) := by decide +kernel
theorem dX5_sum_5 : decode cX5_sum 5 = .ok (.iadd, 1) := by decide +kernel
theorem dX5_sum_6 : decode cX5_sum 6 = .ok (.istore 5, 2) := by decide +kernel
theorem dX5_sum_8 : decode cX5_sum 8 = .ok (.iconst 0, 1) := by decide +kernel
theorem dX5_sum_9 : decode cX5_sum 9 = .ok (.istore 6, 2) := by decide +kernel
theorem dX5_sum_11 : decode cX5_sum 11 = .ok (.iload 6, 2) := by decide +kernel
theorem dX5_sum_13 : decode cX5_sum 13 = .ok (.sipush 400, 3) := by decide +kernel
theorem dX5_sum_16 : decode cX5_sum 16 = .ok (.if_icmp .ge 54, 3) := by decide +kernel
theorem dX5_sum_19 : decode cX5_sum 19 = .ok (.iload 5, 2) := by decide +kernel
theorem dX5_sum_21 : decode cX5_sum 21 = .ok (.iconst (-1), 1) := by decide +kernel
theorem dX5_sum_22 : decode cX5_sum 22 = .ok (.if_icmp .eq 48, 3) := by decide +kernel
theorem dX5_sum_25 : decode cX5_sum 25 = .ok (.aload_n 0, 1) := by decide +kernel
theorem dX5_sum_26 : decode cX5_sum 26 = .ok (.iload 5, 2) := by decide +kernel
theorem dX5_sum_28 : decode cX5_sum 28 = .ok (.invokevirtual 18, 3) := by decide +kernel
theorem dX5_sum_31 : decode cX5_sum 31 = .ok (.bipush 41, 2) := by decide +kernel
theorem dX5_sum_33 : decode cX5_sum 33 = .ok (.if_icmp .eq 37, 3) := by decide +kernel
theorem dX5_sum_36 : decode cX5_sum 36 = .ok (.iload 4, 2) := by decide +kernel
theorem dX5_sum_38 : decode cX5_sum 38 = .ok (.iload_n 3, 1) := by decide +kernel
theorem dX5_sum_39 : decode cX5_sum 39 = .ok (.ifCond .eq 12, 3) := by decide +kernel
theorem dX5_sum_42 : decode cX5_sum 42 = .ok (.aload_n 0, 1) := by decide +kernel
theorem dX5_sum_43 : decode cX5_sum 43 = .ok (.iload 5, 2) := by decide +kernel
theorem dX5_sum_45 : decode cX5_sum 45 = .ok (.invokestatic 28, 3) := by decide +kernel
theorem dX5_sum_48 : decode cX5_sum 48 = .ok (.goto 4, 3) := by decide +kernel
theorem dX5_sum_51 : decode cX5_sum 51 = .ok (.iconst 1, 1) := by decide +kernel
theorem dX5_sum_52 : decode cX5_sum 52 = .ok (.iadd, 1) := by decide +kernel
theorem dX5_sum_53 : decode cX5_sum 53 = .ok (.istore 4, 2) := by decide +kernel
theorem dX5_sum_55 : decode cX5_sum 55 = .ok (.aload_n 0, 1) := by decide +kernel
theorem dX5_sum_56 : decode cX5_sum 56 = .ok (.iload 5, 2) := by decide +kernel
theorem dX5_sum_58 : decode cX5_sum 58 = .ok (.iload_n 2, 1) := by decide +kernel
theorem dX5_sum_59 : decode cX5_sum 59 = .ok (.invokestatic 9, 3) := by decide +kernel
theorem dX5_sum_62 : decode cX5_sum 62 = .ok (.istore 5, 2) := by decide +kernel
theorem dX5_sum_64 : decode cX5_sum 64 = .ok (.iinc 6 1, 3) := by decide +kernel
theorem dX5_sum_67 : decode cX5_sum 67 = .ok (.goto (-56), 3) := by decide +kernel
theorem dX5_sum_70 : decode cX5_sum 70 = .ok (.iload 4, 2) := by decide +kernel
theorem dX5_sum_72 : decode cX5_sum 72 = .ok (.ireturn, 1) := by decide +kernel
set_option maxRecDepth 20000 in
theorem s_SO_sum (E : XE) : Cs E (yX5_sum, cX5_sum, 7, some .int) (k_SO_sum) := (Cs_nd (Cs_nd (Cs_nd (Cs_nd (Cs_nd (Cs_lf (sg_iconst dX5_sum_0 (by decide))) (Cs_lf (sg_istore dX5_sum_1 (by decide)))) (Cs_nd (Cs_lf (sg_iload_n dX5_sum_3 rfl)) (Cs_lf (sg_iconst dX5_sum_4 (by decide))))) (Cs_nd (Cs_nd (Cs_lf (sg_iadd dX5_sum_5)) (Cs_lf (sg_istore dX5_sum_6 (by decide)))) (Cs_nd (Cs_lf (sg_iconst dX5_sum_8 (by decide))) (Cs_nd (Cs_lf (sg_istore dX5_sum_9 (by decide))) (Cs_lf (sg_iload dX5_sum_11)))))) (Cs_nd (Cs_nd (Cs_nd (Cs_lf (sg_sipush dX5_sum_13 (by decide))) (Cs_lf (sg_cge dX5_sum_16 (by decide)))) (Cs_nd (Cs_lf (sg_iload dX5_sum_19)) (Cs_nd (Cs_lf (sg_iconst dX5_sum_21 (by decide))) (Cs_lf (sg_ceq dX5_sum_22 (by decide)))))) (Cs_nd (Cs_nd (Cs_lf (sg_aload_n dX5_sum_25 rfl)) (Cs_lf (sg_iload dX5_sum_26))) (Cs_nd (Cs_lf (sg_invV (mid := 63) (ci := 4) (by decide +kernel) dX5_sum_28 ok_63 rfl w_410 w_278 w_279)) (Cs_nd (Cs_lf (sg_bipush dX5_sum_31 (by decide))) (Cs_lf (sg_ceq dX5_sum_33 (by decide)))))))) (Cs_nd (Cs_nd (Cs_nd (Cs_nd (Cs_lf (sg_iload dX5_sum_36)) (Cs_lf (sg_iload_n dX5_sum_38 rfl))) (Cs_nd (Cs_lf (sg_ifeq dX5_sum_39 (by decide))) (Cs_lf (sg_aload_n dX5_sum_42 rfl)))) (Cs_nd (Cs_nd (Cs_lf (sg_iload dX5_sum_43)) (Cs_lf (sg_inv (mid := 75) (by decide +kernel) dX5_sum_45 ok_75 w_502 w_497))) (Cs_nd (Cs_lf (sg_goto dX5_sum_48 (by decide))) (Cs_nd (Cs_lf (sg_iconst dX5_sum_51 (by decide))) (Cs_lf (sg_iadd dX5_sum_52)))))) (Cs_nd (Cs_nd (Cs_nd (Cs_lf (sg_istore dX5_sum_53 (by decide))) (Cs_lf (sg_aload_n dX5_sum_55 rfl))) (Cs_nd (Cs_lf (sg_iload dX5_sum_56)) (Cs_nd (Cs_lf (sg_iload_n dX5_sum_58 rfl)) (Cs_lf (sg_inv (mid := 78) (by decide +kernel) dX5_sum_59 ok_78 w_407 w_408))))) (Cs_nd (Cs_nd (Cs_lf (sg_istore dX5_sum_62 (by decide))) (Cs_lf (sg_iinc dX5_sum_64 (by decide) (by decide)))) (Cs_nd (Cs_lf (sg_goto dX5_sum_67 (by decide))) (Cs_nd (Cs_lf (sg_iload dX5_sum_70)) (Cs_lf (sg_iret dX5_sum_72 rfl))))))))
theorem dX5_closing_0 : decode cX5_closing 0 = .ok (.iload_n 1, 1) := by decide +kernel
theorem dX5_closing_1 : decode cX5_closing 1 = .ok (.iload_n 2, 1) := by decide +kernel
theorem dX5_closing_2 : decode cX5_closing 2 = .ok (.if_icmp .ge 19, 3) := by decide +kernel
theorem dX5_closing_5 : decode cX5_closing 5 = .ok (.aload_n 0, 1) := by decide +kernel
theorem dX5_closing_6 : decode cX5_closing 6 = .ok (.iload_n 1, 1) := by decide +kernel
theorem dX5_closing_7 : decode cX5_closing 7 = .ok (.invokevirtual 18, 3) := by decide +kernel
theorem dX5_closing_10 : decode cX5_closing 10 = .ok (.bipush 40, 2) := by decide +kernel
theorem dX5_closing_12 : decode cX5_closing 12 = .ok (.if_icmp .ne 9, 3) := by decide +kernel
theorem dX5_closing_15 : decode cX5_closing 15 = .ok (.iload_n 1, 1) := by decide +kernel
theorem dX5_closing_16 : decode cX5_closing 16 = .ok (.iconst 1, 1) := by decide +kernel
theorem dX5_closing_17 : decode cX5_closing 17 = .ok (.iadd, 1) := by decide +kernel
theorem dX5_closing_18 : decode cX5_closing 18 = .ok (.goto 4, 3) := by decide +kernel
theorem dX5_closing_21 : decode cX5_closing 21 = .ok (.iconst (-1), 1) := by decide +kernel
theorem dX5_closing_22 : decode cX5_closing 22 = .ok (.istore_n 3, 1) := by decide +kernel
theorem dX5_closing_23 : decode cX5_closing 23 = .ok (.iconst 0, 1) := by decide +kernel
theorem dX5_closing_24 : decode cX5_closing 24 = .ok (.istore 4, 2) := by decide +kernel
theorem dX5_closing_26 : decode cX5_closing 26 = .ok (.iload 4, 2) := by decide +kernel
theorem dX5_closing_28 : decode cX5_closing 28 = .ok (.sipush 400, 3) := by decide +kernel
theorem dX5_closing_31 : decode cX5_closing 31 = .ok (.if_icmp .ge 36, 3) := by decide +kernel
theorem dX5_closing_34 : decode cX5_closing 34 = .ok (.iload_n 3, 1) := by decide +kernel
theorem dX5_closing_35 : decode cX5_closing 35 = .ok (.iconst (-1), 1) := by decide +kernel
theorem dX5_closing_36 : decode cX5_closing 36 = .ok (.if_icmp .eq 31, 3) := by decide +kernel
theorem dX5_closing_39 : decode cX5_closing 39 = .ok (.iload_n 3, 1) := by decide +kernel
theorem dX5_closing_40 : decode cX5_closing 40 = .ok (.iload_n 2, 1) := by decide +kernel
theorem dX5_closing_41 : decode cX5_closing 41 = .ok (.if_icmp .ge 26, 3) := by decide +kernel
theorem dX5_closing_44 : decode cX5_closing 44 = .ok (.aload_n 0, 1) := by decide +kernel
theorem dX5_closing_45 : decode cX5_closing 45 = .ok (.iload_n 3, 1) := by decide +kernel
theorem dX5_closing_46 : decode cX5_closing 46 = .ok (.invokevirtual 18, 3) := by decide +kernel
theorem dX5_closing_49 : decode cX5_closing 49 = .ok (.bipush 41, 2) := by decide +kernel
theorem dX5_closing_51 : decode cX5_closing 51 = .ok (.if_icmp .eq 16, 3) := by decide +kernel
theorem dX5_closing_54 : decode cX5_closing 54 = .ok (.aload_n 0, 1) := by decide +kernel
theorem dX5_closing_55 : decode cX5_closing 55 = .ok (.iload_n 3, 1) := by decide +kernel
theorem dX5_closing_56 : decode cX5_closing 56 = .ok (.iload_n 2, 1) := by decide +kernel
theorem dX5_closing_57 : decode cX5_closing 57 = .ok (.invokestatic 9, 3) := by decide +kernel
theorem dX5_closing_60 : decode cX5_closing 60 = .ok (.istore_n 3, 1) := by decide +kernel
theorem dX5_closing_61 : decode cX5_closing 61 = .ok (.iinc 4 1, 3) := by decide +kernel
theorem dX5_closing_64 : decode cX5_closing 64 = .ok (.goto (-38), 3) := by decide +kernel
theorem dX5_closing_67 : decode cX5_closing 67 = .ok (.iload_n 3, 1) := by decide +kernel
theorem dX5_closing_68 : decode cX5_closing 68 = .ok (.iload_n 2, 1) := by decide +kernel
theorem dX5_closing_69 : decode cX5_closing 69 = .ok (.if_icmp .ge 7, 3) := by decide +kernel
theorem dX5_closing_72 : decode cX5_closing 72 = .ok (.iload_n 3, 1) := by decide +kernel
theorem dX5_closing_73 : decode cX5_closing 73 = .ok (.goto 4, 3) := by decide +kernel
theorem dX5_closing_76 : decode cX5_closing 76 = .ok (.iconst (-1), 1) := by decide +kernel
theorem dX5_closing_77 : decode cX5_closing 77 = .ok (.ireturn, 1) := by decide +kernel
set_option maxRecDepth 20000 in
theorem s_SO_closing (E : XE) : Cs E (yX5_closing, cX5_closing, 5, some .int) (k_SO_closing) := (Cs_nd (Cs_nd (Cs_nd (Cs_nd (Cs_nd (Cs_lf (sg_iload_n dX5_closing_0 rfl)) (Cs_lf (sg_iload_n dX5_closing_1 rfl))) (Cs_nd (Cs_lf (sg_cge dX5_closing_2 (by decide))) (Cs_nd (Cs_lf (sg_aload_n dX5_closing_5 rfl)) (Cs_lf (sg_iload_n dX5_closing_6 rfl))))) (Cs_nd (Cs_nd (Cs_lf (sg_invV (mid := 63) (ci := 4) (by decide +kernel) dX5_closing_7 ok_63 rfl w_410 w_278 w_279)) (Cs_nd (Cs_lf (sg_bipush dX5_closing_10 (by decide))) (Cs_lf (sg_cne dX5_closing_12 (by decide))))) (Cs_nd (Cs_lf (sg_iload_n dX5_closing_15 rfl)) (Cs_nd (Cs_lf (sg_iconst dX5_closing_16 (by decide))) (Cs_lf (sg_iadd dX5_closing_17)))))) (Cs_nd (Cs_nd (Cs_nd (Cs_lf (sg_goto dX5_closing_18 (by decide))) (Cs_lf (sg_iconst dX5_closing_21 (by decide)))) (Cs_nd (Cs_lf (sg_istore_n dX5_closing_22 rfl (by decide))) (Cs_nd (Cs_lf (sg_iconst dX5_closing_23 (by decide))) (Cs_lf (sg_istore dX5_closing_24 (by decide)))))) (Cs_nd (Cs_nd (Cs_lf (sg_iload dX5_closing_26)) (Cs_nd (Cs_lf (sg_sipush dX5_closing_28 (by decide))) (Cs_lf (sg_cge dX5_closing_31 (by decide))))) (Cs_nd (Cs_lf (sg_iload_n dX5_closing_34 rfl)) (Cs_nd (Cs_lf (sg_iconst dX5_closing_35 (by decide))) (Cs_lf (sg_ceq dX5_closing_36 (by decide)))))))) (Cs_nd (Cs_nd (Cs_nd (Cs_nd (Cs_lf (sg_iload_n dX5_closing_39 rfl)) (Cs_lf (sg_iload_n dX5_closing_40 rfl))) (Cs_nd (Cs_lf (sg_cge dX5_closing_41 (by decide))) (Cs_nd (Cs_lf (sg_aload_n dX5_closing_44 rfl)) (Cs_lf (sg_iload_n dX5_closing_45 rfl))))) (Cs_nd (Cs_nd (Cs_lf (sg_invV (mid := 63) (ci := 4) (by decide +kernel) dX5_closing_46 ok_63 rfl w_410 w_278 w_279)) (Cs_nd (Cs_lf (sg_bipush dX5_closing_49 (by decide))) (Cs_lf (sg_ceq dX5_closing_51 (by decide))))) (Cs_nd (Cs_lf (sg_aload_n dX5_closing_54 rfl)) (Cs_nd (Cs_lf (sg_iload_n dX5_closing_55 rfl)) (Cs_lf (sg_iload_n dX5_closing_56 rfl)))))) (Cs_nd (Cs_nd (Cs_nd (Cs_lf (sg_inv (mid := 78) (by decide +kernel) dX5_closing_57 ok_78 w_407 w_408)) (Cs_lf (sg_istore_n dX5_closing_60 rfl (by decide)))) (Cs_nd (Cs_lf (sg_iinc dX5_closing_61 (by decide) (by decide))) (Cs_nd (Cs_lf (sg_goto dX5_closing_64 (by decide))) (Cs_lf (sg_iload_n dX5_closing_67 rfl))))) (Cs_nd (Cs_nd (Cs_lf (sg_iload_n dX5_closing_68 rfl)) (Cs_nd (Cs_lf (sg_cge dX5_closing_69 (by decide))) (Cs_lf (sg_iload_n dX5_closing_72 rfl)))) (Cs_nd (Cs_lf (sg_goto dX5_closing_73 (by decide))) (Cs_nd (Cs_lf (sg_iconst dX5_closing_76 (by decide))) (Cs_lf (sg_iret dX5_closing_77 rfl))))))))
theorem dX5_typeEnd_0 : decode cX5_typeEnd 0 = .ok (.iload_n 1, 1) := by decide +kernel
theorem dX5_typeEnd_1 : decode cX5_typeEnd 1 = .ok (.istore_n 3, 1) := by decide +kernel
theorem dX5_typeEnd_2 : decode cX5_typeEnd 2 = .ok (.iload_n 3, 1) := by decide +kernel
theorem dX5_typeEnd_3 : decode cX5_typeEnd 3 = .ok (.iload_n 2, 1) := by decide +kernel
theorem dX5_typeEnd_4 : decode cX5_typeEnd 4 = .ok (.if_icmp .ge 19, 3) := by decide +kernel
theorem dX5_typeEnd_7 : decode cX5_typeEnd 7 = .ok (.aload_n 0, 1) := by decide +kernel
theorem dX5_typeEnd_8 : decode cX5_typeEnd 8 = .ok (.iload_n 3, 1) := by decide +kernel
theorem dX5_typeEnd_9 : decode cX5_typeEnd 9 = .ok (.invokevirtual 18, 3) := by decide +kernel
theorem dX5_typeEnd_12 : decode cX5_typeEnd 12 = .ok (.bipush 91, 2) := by decide +kernel
theorem dX5_typeEnd_14 : decode cX5_typeEnd 14 = .ok (.if_icmp .ne 9, 3) := by decide +kernel
theorem dX5_typeEnd_17 : decode cX5_typeEnd 17 = .ok (.iinc 3 1, 3) := by decide +kernel
theorem dX5_typeEnd_20 : decode cX5_typeEnd 20 = .ok (.goto (-18), 3) := by decide +kernel
theorem dX5_typeEnd_23 : decode cX5_typeEnd 23 = .ok (.iload_n 3, 1) := by decide +kernel
theorem dX5_typeEnd_24 : decode cX5_typeEnd 24 = .ok (.iload_n 2, 1) := by decide +kernel
theorem dX5_typeEnd_25 : decode cX5_typeEnd 25 = .ok (.if_icmp .ge 12, 3) := by decide +kernel
theorem dX5_typeEnd_28 : decode cX5_typeEnd 28 = .ok (.iload_n 3, 1) := by decide +kernel
theorem dX5_typeEnd_29 : decode cX5_typeEnd 29 = .ok (.iload_n 1, 1) := by decide +kernel
theorem dX5_typeEnd_30 : decode cX5_typeEnd 30 = .ok (.isub, 1) := by decide +kernel
theorem dX5_typeEnd_31 : decode cX5_typeEnd 31 = .ok (.sipush 255, 3) := by decide +kernel
theorem dX5_typeEnd_34 : decode cX5_typeEnd 34 = .ok (.if_icmp .le 5, 3) := by decide +kernel
theorem dX5_typeEnd_37 : decode cX5_typeEnd 37 = .ok (.iconst (-1), 1) := by decide +kernel
theorem dX5_typeEnd_38 : decode cX5_typeEnd 38 = .ok (.ireturn, 1) := by decide +kernel
theorem dX5_typeEnd_39 : decode cX5_typeEnd 39 = .ok (.aload_n 0, 1) := by decide +kernel
theorem dX5_typeEnd_40 : decode cX5_typeEnd 40 = .ok (.iload_n 3, 1) := by decide +kernel
theorem dX5_typeEnd_41 : decode cX5_typeEnd 41 = .ok (.invokevirtual 18, 3) := by decide +kernel
theorem dX5_typeEnd_44 : decode cX5_typeEnd 44 = .ok (.tableswitch 129 66 90 #[116, 116, 116, 129, 116, 129, 129, 116, 116, 129, 120, 129, 129, 129, 129, 129, 129, 116, 129, 129, 129, 129, 129, 129, 116], 116) := by decide +kernel
theorem dX5_typeEnd_160 : decode cX5_typeEnd 160 = .ok (.iload_n 3, 1) := by decide +kernel
theorem dX5_typeEnd_161 : decode cX5_typeEnd 161 = .ok (.iconst 1, 1) := by decide +kernel
theorem dX5_typeEnd_162 : decode cX5_typeEnd 162 = .ok (.iadd, 1) := by decide +kernel
theorem dX5_typeEnd_163 : decode cX5_typeEnd 163 = .ok (.ireturn, 1) := by decide +kernel
theorem dX5_typeEnd_164 : decode cX5_typeEnd 164 = .ok (.aload_n 0, 1) := by decide +kernel
theorem dX5_typeEnd_165 : decode cX5_typeEnd 165 = .ok (.iload_n 3, 1) := by decide +kernel
theorem dX5_typeEnd_166 : decode cX5_typeEnd 166 = .ok (.iconst 1, 1) := by decide +kernel
theorem dX5_typeEnd_167 : decode cX5_typeEnd 167 = .ok (.iadd, 1) := by decide +kernel
theorem dX5_typeEnd_168 : decode cX5_typeEnd 168 = .ok (.iload_n 2, 1) := by decide +kernel
theorem dX5_typeEnd_169 : decode cX5_typeEnd 169 = .ok (.invokestatic 32, 3) := by decide +kernel
theorem dX5_typeEnd_172 : decode cX5_typeEnd 172 = .ok (.ireturn, 1) := by decide +kernel
theorem dX5_typeEnd_173 : decode cX5_typeEnd 173 = .ok (.iconst (-1), 1) := by decide +kernel
theorem dX5_typeEnd_174 : decode cX5_typeEnd 174 = .ok (.ireturn, 1) := by decide +kernel
set_option maxRecDepth 20000 in
theorem s_SO_typeEnd (E : XE) : Cs E (yX5_typeEnd, cX5_typeEnd, 4, some .int) (k_SO_typeEnd) := (Cs_nd (Cs_nd (Cs_nd (Cs_nd (Cs_nd (Cs_lf (sg_iload_n dX5_typeEnd_0 rfl)) (Cs_lf (sg_istore_n dX5_typeEnd_1 rfl (by decide)))) (Cs_nd (Cs_lf (sg_iload_n dX5_typeEnd_2 rfl)) (Cs_lf (sg_iload_n dX5_typeEnd_3 rfl)))) (Cs_nd (Cs_nd (Cs_lf (sg_cge dX5_typeEnd_4 (by decide))) (Cs_lf (sg_aload_n dX5_typeEnd_7 rfl))) (Cs_nd (Cs_lf (sg_iload_n dX5_typeEnd_8 rfl)) (Cs_nd (Cs_lf (sg_invV (mid := 63) (ci := 4) (by decide +kernel) dX5_typeEnd_9 ok_63 rfl w_410 w_278 w_279)) (Cs_lf (sg_bipush dX5_typeEnd_12 (by decide))))))) (Cs_nd (Cs_nd (Cs_nd (Cs_lf (sg_cne dX5_typeEnd_14 (by decide))) (Cs_lf (sg_iinc dX5_typeEnd_17 (by decide) (by decide)))) (Cs_nd (Cs_lf (sg_goto dX5_typeEnd_20 (by decide))) (Cs_nd (Cs_lf (sg_iload_n dX5_typeEnd_23 rfl)) (Cs_lf (sg_iload_n dX5_typeEnd_24 rfl))))) (Cs_nd (Cs_nd (Cs_lf (sg_cge dX5_typeEnd_25 (by decide))) (Cs_lf (sg_iload_n dX5_typeEnd_28 rfl))) (Cs_nd (Cs_lf (sg_iload_n dX5_typeEnd_29 rfl)) (Cs_nd (Cs_lf (sg_isub dX5_typeEnd_30)) (Cs_lf (sg_sipush dX5_typeEnd_31 (by decide)))))))) (Cs_nd (Cs_nd (Cs_nd (Cs_nd (Cs_lf (sg_cle dX5_typeEnd_34 (by decide))) (Cs_lf (sg_iconst dX5_typeEnd_37 (by decide)))) (Cs_nd (Cs_lf (sg_iret dX5_typeEnd_38 rfl)) (Cs_nd (Cs_lf (sg_aload_n dX5_typeEnd_39 rfl)) (Cs_lf (sg_iload_n dX5_typeEnd_40 rfl))))) (Cs_nd (Cs_nd (Cs_lf (sg_invV (mid := 63) (ci := 4) (by decide +kernel) dX5_typeEnd_41 ok_63 rfl w_410 w_278 w_279)) (Cs_lf (sg_table dX5_typeEnd_44 rfl (by decide) (by decide +kernel) (by decide)))) (Cs_nd (Cs_lf (sg_iload_n dX5_typeEnd_160 rfl)) (Cs_nd (Cs_lf (sg_iconst dX5_typeEnd_161 (by decide))) (Cs_lf (sg_iadd dX5_typeEnd_162)))))) (Cs_nd (Cs_nd (Cs_nd (Cs_lf (sg_iret dX5_typeEnd_163 rfl)) (Cs_lf (sg_aload_n dX5_typeEnd_164 rfl))) (Cs_nd (Cs_lf (sg_iload_n dX5_typeEnd_165 rfl)) (Cs_nd (Cs_lf (sg_iconst dX5_typeEnd_166 (by decide))) (Cs_lf (sg_iadd dX5_typeEnd_167))))) (Cs_nd (Cs_nd (Cs_lf (sg_iload_n dX5_typeEnd_168 rfl)) (Cs_lf (sg_inv (mid := 79) (by decide +kernel) dX5_typeEnd_169 ok_79 w_411 w_412))) (Cs_nd (Cs_lf (sg_iret dX5_typeEnd_172 rfl)) (Cs_nd (Cs_lf (sg_iconst dX5_typeEnd_173 (by decide))) (Cs_lf (sg_iret dX5_typeEnd_174 rfl))))))))
theorem dX5_nameEnd_0 : decode cX5_nameEnd 0 = .ok (.iload_n 1, 1) := by decide +kernel
theorem dX5_nameEnd_1 : decode cX5_nameEnd 1 = .ok (.istore_n 3, 1) := by decide +kernel
theorem dX5_nameEnd_2 : decode cX5_nameEnd 2 = .ok (.iload_n 3, 1) := by decide +kernel
theorem dX5_nameEnd_3 : decode cX5_nameEnd 3 = .ok (.iload_n 2, 1) := by decide +kernel
theorem dX5_nameEnd_4 : decode cX5_nameEnd 4 = .ok (.if_icmp .ge 32, 3) := by decide +kernel
theorem dX5_nameEnd_7 : decode cX5_nameEnd 7 = .ok (.aload_n 0, 1) := by decide +kernel
theorem dX5_nameEnd_8 : decode cX5_nameEnd 8 = .ok (.iload_n 3, 1) := by decide +kernel
theorem dX5_nameEnd_9 : decode cX5_nameEnd 9 = .ok (.invokevirtual 18, 3) := by decide +kernel
theorem dX5_nameEnd_12 : decode cX5_nameEnd 12 = .ok (.bipush 59, 2) := by decide +kernel
theorem dX5_nameEnd_14 : decode cX5_nameEnd 14 = .ok (.if_icmp .ne 16, 3) := by decide +kernel
theorem dX5_nameEnd_17 : decode cX5_nameEnd 17 = .ok (.iload_n 3, 1) := by decide +kernel
theorem dX5_nameEnd_18 : decode cX5_nameEnd 18 = .ok (.iload_n 1, 1) := by decide +kernel
theorem dX5_nameEnd_19 : decode cX5_nameEnd 19 = .ok (.if_icmp .ne 7, 3) := by decide +kernel
theorem dX5_nameEnd_22 : decode cX5_nameEnd 22 = .ok (.iconst (-1), 1) := by decide +kernel
theorem dX5_nameEnd_23 : decode cX5_nameEnd 23 = .ok (.goto 6, 3) := by decide +kernel
theorem dX5_nameEnd_26 : decode cX5_nameEnd 26 = .ok (.iload_n 3, 1) := by decide +kernel
theorem dX5_nameEnd_27 : decode cX5_nameEnd 27 = .ok (.iconst 1, 1) := by decide +kernel
theorem dX5_nameEnd_28 : decode cX5_nameEnd 28 = .ok (.iadd, 1) := by decide +kernel
theorem dX5_nameEnd_29 : decode cX5_nameEnd 29 = .ok (.ireturn, 1) := by decide +kernel
theorem dX5_nameEnd_30 : decode cX5_nameEnd 30 = .ok (.iinc 3 1, 3) := by decide +kernel
theorem dX5_nameEnd_33 : decode cX5_nameEnd 33 = .ok (.goto (-31), 3) := by decide +kernel
theorem dX5_nameEnd_36 : decode cX5_nameEnd 36 = .ok (.iconst (-1), 1) := by decide +kernel
theorem dX5_nameEnd_37 : decode cX5_nameEnd 37 = .ok (.ireturn, 1) := by decide +kernel
set_option maxRecDepth 20000 in
theorem s_SO_nameEnd (E : XE) : Cs E (yX5_nameEnd, cX5_nameEnd, 4, some .int) (k_SO_nameEnd) := (Cs_nd (Cs_nd (Cs_nd (Cs_nd (Cs_lf (sg_iload_n dX5_nameEnd_0 rfl)) (Cs_lf (sg_istore_n dX5_nameEnd_1 rfl (by decide)))) (Cs_nd (Cs_lf (sg_iload_n dX5_nameEnd_2 rfl)) (Cs_nd (Cs_lf (sg_iload_n dX5_nameEnd_3 rfl)) (Cs_lf (sg_cge dX5_nameEnd_4 (by decide)))))) (Cs_nd (Cs_nd (Cs_lf (sg_aload_n dX5_nameEnd_7 rfl)) (Cs_nd (Cs_lf (sg_iload_n dX5_nameEnd_8 rfl)) (Cs_lf (sg_invV (mid := 63) (ci := 4) (by decide +kernel) dX5_nameEnd_9 ok_63 rfl w_410 w_278 w_279)))) (Cs_nd (Cs_lf (sg_bipush dX5_nameEnd_12 (by decide))) (Cs_nd (Cs_lf (sg_cne dX5_nameEnd_14 (by decide))) (Cs_lf (sg_iload_n dX5_nameEnd_17 rfl)))))) (Cs_nd (Cs_nd (Cs_nd (Cs_lf (sg_iload_n dX5_nameEnd_18 rfl)) (Cs_nd (Cs_lf (sg_cne dX5_nameEnd_19 (by decide))) (Cs_lf (sg_iconst dX5_nameEnd_22 (by decide))))) (Cs_nd (Cs_lf (sg_goto dX5_nameEnd_23 (by decide))) (Cs_nd (Cs_lf (sg_iload_n dX5_nameEnd_26 rfl)) (Cs_lf (sg_iconst dX5_nameEnd_27 (by decide)))))) (Cs_nd (Cs_nd (Cs_lf (sg_iadd dX5_nameEnd_28)) (Cs_nd (Cs_lf (sg_iret dX5_nameEnd_29 rfl)) (Cs_lf (sg_iinc dX5_nameEnd_30 (by decide) (by decide))))) (Cs_nd (Cs_lf (sg_goto dX5_nameEnd_33 (by decide))) (Cs_nd (Cs_lf (sg_iconst dX5_nameEnd_36 (by decide))) (Cs_lf (sg_iret dX5_nameEnd_37 rfl)))))))
theorem dJ6_compare_7cf53_0 : decode cJ6_compare_7cf53 0 = .ok (.iload_n 0, 1) := by decide +kernel
theorem dJ6_compare_7cf53_1 : decode cJ6_compare_7cf53 1 = .ok (.iload_n 1, 1) := by decide +kernel
theorem dJ6_compare_7cf53_2 : decode cJ6_compare_7cf53 2 = .ok (.if_icmp .ge 7, 3) := by decide +kernel
theorem dJ6_compare_7cf53_5 : decode cJ6_compare_7cf53 5 = .ok (.iconst (-1), 1) := by decide +kernel
theorem dJ6_compare_7cf53_6 : decode cJ6_compare_7cf53 6 = .ok (.goto 13, 3) := by decide +kernel
theorem dJ6_compare_7cf53_9 : decode cJ6_compare_7cf53 9 = .ok (.iload_n 0, 1) := by decide +kernel
theorem dJ6_compare_7cf53_10 : decode cJ6_compare_7cf53 10 = .ok (.iload_n 1, 1) := by decide +kernel
theorem dJ6_compare_7cf53_11 : decode cJ6_compare_7cf53 11 = .ok (.if_icmp .ne 7, 3) := by decide +kernel
theorem dJ6_compare_7cf53_14 : decode cJ6_compare_7cf53 14 = .ok (.iconst 0, 1) := by decide +kernel
theorem dJ6_compare_7cf53_15 : decode cJ6_compare_7cf53 15 = .ok (.goto 4, 3) := by decide +kernel
theorem dJ6_compare_7cf53_18 : decode cJ6_compare_7cf53 18 = .ok (.iconst 1, 1) := by decide +kernel
theorem dJ6_compare_7cf53_19 : decode cJ6_compare_7cf53 19 = .ok (.ireturn, 1) := by decide +kernel
set_option maxRecDepth 20000 in
theorem s_JI_compare (E : XE) : Cs E (yJ6_compare_7cf53, cJ6_compare_7cf53, 2, some .int) (k_JI_compare) := (Cs_nd (Cs_nd (Cs_nd (Cs_lf (sg_iload_n dJ6_compare_7cf53_0 rfl)) (Cs_nd (Cs_lf (sg_iload_n dJ6_compare_7cf53_1 rfl)) (Cs_lf (sg_cge dJ6_compare_7cf53_2 (by decide))))) (Cs_nd (Cs_lf (sg_iconst dJ6_compare_7cf53_5 (by decide))) (Cs_nd (Cs_lf (sg_goto dJ6_compare_7cf53_6 (by decide))) (Cs_lf (sg_iload_n dJ6_compare_7cf53_9 rfl))))) (Cs_nd (Cs_nd (Cs_lf (sg_iload_n dJ6_compare_7cf53_10 rfl)) (Cs_nd (Cs_lf (sg_cne dJ6_compare_7cf53_11 (by decide))) (Cs_lf (sg_iconst dJ6_compare_7cf53_14 (by decide))))) (Cs_nd (Cs_lf (sg_goto dJ6_compare_7cf53_15 (by decide))) (Cs_nd (Cs_lf (sg_iconst dJ6_compare_7cf53_18 (by decide))) (Cs_lf (sg_iret dJ6_compare_7cf53_19 rfl))))))
theorem dJ13_compare_74951_0 : decode cJ13_compare_74951 0 = .ok (.lload_n 0, 1) := by decide +kernel
theorem dJ13_compare_74951_1 : decode cJ13_compare_74951 1 = .ok (.lload_n 2, 1) := by decide +kernel
theorem dJ13_compare_74951_2 : decode cJ13_compare_74951 2 = .ok (.lcmp, 1) := by decide +kernel
theorem dJ13_compare_74951_3 : decode cJ13_compare_74951 3 = .ok (.ifCond .ge 7, 3) := by decide +kernel
theorem dJ13_compare_74951_6 : decode cJ13_compare_74951 6 = .ok (.iconst (-1), 1) := by decide +kernel
theorem dJ13_compare_74951_7 : decode cJ13_compare_74951 7 = .ok (.goto 14, 3) := by decide +kernel
theorem dJ13_compare_74951_10 : decode cJ13_compare_74951 10 = .ok (.lload_n 0, 1) := by decide +kernel
theorem dJ13_compare_74951_11 : decode cJ13_compare_74951 11 = .ok (.lload_n 2, 1) := by decide +kernel
theorem dJ13_compare_74951_12 : decode cJ13_compare_74951 12 = .ok (.lcmp, 1) := by decide +kernel
theorem dJ13_compare_74951_13 : decode cJ13_compare_74951 13 = .ok (.ifCond .ne 7, 3) := by decide +kernel
theorem dJ13_compare_74951_16 : decode cJ13_compare_74951 16 = .ok (.iconst 0, 1) := by decide +kernel
theorem dJ13_compare_74951_17 : decode cJ13_compare_74951 17 = .ok (.goto 4, 3) := by decide +kernel
theorem dJ13_compare_74951_20 : decode cJ13_compare_74951 20 = .ok (.iconst 1, 1) := by decide +kernel
theorem dJ13_compare_74951_21 : decode cJ13_compare_74951 21 = .ok (.ireturn, 1) := by decide +kernel
set_option maxRecDepth 20000 in
theorem s_JL_compare (E : XE) : Cs E (yJ13_compare_74951, cJ13_compare_74951, 4, some .int) (k_JL_compare) := (Cs_nd (Cs_nd (Cs_nd (Cs_lf (sg_lload_n dJ13_compare_74951_0 rfl)) (Cs_nd (Cs_lf (sg_lload_n dJ13_compare_74951_1 rfl)) (Cs_lf (sg_lcmp dJ13_compare_74951_2)))) (Cs_nd (Cs_nd (Cs_lf (sg_ifge dJ13_compare_74951_3 (by decide))) (Cs_lf (sg_iconst dJ13_compare_74951_6 (by decide)))) (Cs_nd (Cs_lf (sg_goto dJ13_compare_74951_7 (by decide))) (Cs_lf (sg_lload_n dJ13_compare_74951_10 rfl))))) (Cs_nd (Cs_nd (Cs_lf (sg_lload_n dJ13_compare_74951_11 rfl)) (Cs_nd (Cs_lf (sg_lcmp dJ13_compare_74951_12)) (Cs_lf (sg_ifne dJ13_compare_74951_13 (by decide))))) (Cs_nd (Cs_nd (Cs_lf (sg_iconst dJ13_compare_74951_16 (by decide))) (Cs_lf (sg_goto dJ13_compare_74951_17 (by decide)))) (Cs_nd (Cs_lf (sg_iconst dJ13_compare_74951_20 (by decide))) (Cs_lf (sg_iret dJ13_compare_74951_21 rfl))))))
theorem dJ9_max_7cf53_0 : decode cJ9_max_7cf53 0 = .ok (.iload_n 0, 1) := by decide +kernel
theorem dJ9_max_7cf53_1 : decode cJ9_max_7cf53 1 = .ok (.iload_n 1, 1) := by decide +kernel
theorem dJ9_max_7cf53_2 : decode cJ9_max_7cf53 2 = .ok (.if_icmp .lt 7, 3) := by decide +kernel
theorem dJ9_max_7cf53_5 : decode cJ9_max_7cf53 5 = .ok (.iload_n 0, 1) := by decide +kernel
theorem dJ9_max_7cf53_6 : decode cJ9_max_7cf53 6 = .ok (.goto 4, 3) := by decide +kernel
theorem dJ9_max_7cf53_9 : decode cJ9_max_7cf53 9 = .ok (.iload_n 1, 1) := by decide +kernel
theorem dJ9_max_7cf53_10 : decode cJ9_max_7cf53 10 = .ok (.ireturn, 1) := by decide +kernel
set_option maxRecDepth 20000 in
theorem s_JM_max (E : XE) : Cs E (yJ9_max_7cf53, cJ9_max_7cf53, 2, some .int) (k_JM_max) := (Cs_nd (Cs_nd (Cs_lf (sg_iload_n dJ9_max_7cf53_0 rfl)) (Cs_nd (Cs_lf (sg_iload_n dJ9_max_7cf53_1 rfl)) (Cs_lf (sg_clt dJ9_max_7cf53_2 (by decide))))) (Cs_nd (Cs_nd (Cs_lf (sg_iload_n dJ9_max_7cf53_5 rfl)) (Cs_lf (sg_goto dJ9_max_7cf53_6 (by decide)))) (Cs_nd (Cs_lf (sg_iload_n dJ9_max_7cf53_9 rfl)) (Cs_lf (sg_iret dJ9_max_7cf53_10 rfl)))))
theorem dJ9_min_7cf53_0 : decode cJ9_min_7cf53 0 = .ok (.iload_n 0, 1) := by decide +kernel
theorem dJ9_min_7cf53_1 : decode cJ9_min_7cf53 1 = .ok (.iload_n 1, 1) := by decide +kernel
theorem dJ9_min_7cf53_2 : decode cJ9_min_7cf53 2 = .ok (.if_icmp .gt 7, 3) := by decide +kernel
theorem dJ9_min_7cf53_5 : decode cJ9_min_7cf53 5 = .ok (.iload_n 0, 1) := by decide +kernel
theorem dJ9_min_7cf53_6 : decode cJ9_min_7cf53 6 = .ok (.goto 4, 3) := by decide +kernel
theorem dJ9_min_7cf53_9 : decode cJ9_min_7cf53 9 = .ok (.iload_n 1, 1) := by decide +kernel
theorem dJ9_min_7cf53_10 : decode cJ9_min_7cf53 10 = .ok (.ireturn, 1) := by decide +kernel
set_option maxRecDepth 20000 in
theorem s_JM_min (E : XE) : Cs E (yJ9_min_7cf53, cJ9_min_7cf53, 2, some .int) (k_JM_min) := (Cs_nd (Cs_nd (Cs_lf (sg_iload_n dJ9_min_7cf53_0 rfl)) (Cs_nd (Cs_lf (sg_iload_n dJ9_min_7cf53_1 rfl)) (Cs_lf (sg_cgt dJ9_min_7cf53_2 (by decide))))) (Cs_nd (Cs_nd (Cs_lf (sg_iload_n dJ9_min_7cf53_5 rfl)) (Cs_lf (sg_goto dJ9_min_7cf53_6 (by decide)))) (Cs_nd (Cs_lf (sg_iload_n dJ9_min_7cf53_9 rfl)) (Cs_lf (sg_iret dJ9_min_7cf53_10 rfl)))))
theorem dJ0_length_8abf5_0 : decode cJ0_length_8abf5 0 = .ok (.aload_n 0, 1) := by decide +kernel
theorem dJ0_length_8abf5_1 : decode cJ0_length_8abf5 1 = .ok (.getfield 9, 3) := by decide +kernel
theorem dJ0_length_8abf5_4 : decode cJ0_length_8abf5 4 = .ok (.arraylength, 1) := by decide +kernel
theorem dJ0_length_8abf5_5 : decode cJ0_length_8abf5 5 = .ok (.aload_n 0, 1) := by decide +kernel
theorem dJ0_length_8abf5_6 : decode cJ0_length_8abf5 6 = .ok (.invokevirtual 335, 3) := by decide +kernel
theorem dJ0_length_8abf5_9 : decode cJ0_length_8abf5 9 = .ok (.ishr, 1) := by decide +kernel
theorem dJ0_length_8abf5_10 : decode cJ0_length_8abf5 10 = .ok (.ireturn, 1) := by decide +kernel
set_option maxRecDepth 20000 in
theorem s_JS_length (E : XE) : Cs E (yJ0_length_8abf5, cJ0_length_8abf5, 1, some .int) (k_JS_length) := (Cs_nd (Cs_nd (Cs_lf (sg_aload_n dJ0_length_8abf5_0 rfl)) (Cs_nd (Cs_lf (sg_getf dJ0_length_8abf5_1 rfl inJ0 (by decide) w_1372)) (Cs_lf (sg_alen dJ0_length_8abf5_4)))) (Cs_nd (Cs_nd (Cs_lf (sg_aload_n dJ0_length_8abf5_5 rfl)) (Cs_lf (sg_invV (mid := 186) (ci := 12) (by decide +kernel) dJ0_length_8abf5_6 ok_186 rfl w_1110 w_1111 w_1112))) (Cs_nd (Cs_lf (sg_ishr dJ0_length_8abf5_9)) (Cs_lf (sg_iret dJ0_length_8abf5_10 rfl)))))
theorem dJ0_indexOf_0f7a4_0 : decode cJ0_indexOf_0f7a4 0 = .ok (.aload_n 0, 1) := by decide +kernel
theorem dJ0_indexOf_0f7a4_1 : decode cJ0_indexOf_0f7a4 1 = .ok (.iload_n 1, 1) := by decide +kernel
theorem dJ0_indexOf_0f7a4_2 : decode cJ0_indexOf_0f7a4 2 = .ok (.iconst 0, 1) := by decide +kernel
theorem dJ0_indexOf_0f7a4_3 : decode cJ0_indexOf_0f7a4 3 = .ok (.invokevirtual 633, 3) := by decide +kernel
theorem dJ0_indexOf_0f7a4_6 : decode cJ0_indexOf_0f7a4 6 = .ok (.ireturn, 1) := by decide +kernel
set_option maxRecDepth 20000 in
theorem s_JS_indexOf (E : XE) : Cs E (yJ0_indexOf_0f7a4, cJ0_indexOf_0f7a4, 2, some .int) (k_JS_indexOf) := (Cs_nd (Cs_nd (Cs_lf (sg_aload_n dJ0_indexOf_0f7a4_0 rfl)) (Cs_lf (sg_iload_n dJ0_indexOf_0f7a4_1 rfl))) (Cs_nd (Cs_lf (sg_iconst dJ0_indexOf_0f7a4_2 (by decide))) (Cs_nd (Cs_lf (sg_invV (mid := 185) (ci := 12) (by decide +kernel) dJ0_indexOf_0f7a4_3 ok_185 rfl w_1096 w_1097 w_1098)) (Cs_lf (sg_iret dJ0_indexOf_0f7a4_6 rfl)))))
theorem dJ0_indexOf_7cf53_0 : decode cJ0_indexOf_7cf53 0 = .ok (.aload_n 0, 1) := by decide +kernel
theorem dJ0_indexOf_7cf53_1 : decode cJ0_indexOf_7cf53 1 = .ok (.invokevirtual 492, 3) := by decide +kernel
theorem dJ0_indexOf_7cf53_4 : decode cJ0_indexOf_7cf53 4 = .ok (.ifCond .eq 19, 3) := by decide +kernel
theorem dJ0_indexOf_7cf53_7 : decode cJ0_indexOf_7cf53 7 = .ok (.aload_n 0, 1) := by decide +kernel
theorem dJ0_indexOf_7cf53_8 : decode cJ0_indexOf_7cf53 8 = .ok (.getfield 9, 3) := by decide +kernel
theorem dJ0_indexOf_7cf53_11 : decode cJ0_indexOf_7cf53 11 = .ok (.iload_n 1, 1) := by decide +kernel
theorem dJ0_indexOf_7cf53_12 : decode cJ0_indexOf_7cf53 12 = .ok (.iload_n 2, 1) := by decide +kernel
theorem dJ0_indexOf_7cf53_13 : decode cJ0_indexOf_7cf53 13 = .ok (.aload_n 0, 1) := by decide +kernel
theorem dJ0_indexOf_7cf53_14 : decode cJ0_indexOf_7cf53 14 = .ok (.invokevirtual 505, 3) := by decide +kernel
theorem dJ0_indexOf_7cf53_17 : decode cJ0_indexOf_7cf53 17 = .ok (.invokestatic 637, 3) := by decide +kernel
theorem dJ0_indexOf_7cf53_20 : decode cJ0_indexOf_7cf53 20 = .ok (.goto 16, 3) := by decide +kernel
theorem dJ0_indexOf_7cf53_23 : decode cJ0_indexOf_7cf53 23 = .ok (.aload_n 0, 1) := by decide +kernel
theorem dJ0_indexOf_7cf53_24 : decode cJ0_indexOf_7cf53 24 = .ok (.getfield 9, 3) := by decide +kernel
theorem dJ0_indexOf_7cf53_27 : decode cJ0_indexOf_7cf53 27 = .ok (.iload_n 1, 1) := by decide +kernel
theorem dJ0_indexOf_7cf53_28 : decode cJ0_indexOf_7cf53 28 = .ok (.iload_n 2, 1) := by decide +kernel
theorem dJ0_indexOf_7cf53_29 : decode cJ0_indexOf_7cf53 29 = .ok (.aload_n 0, 1) := by decide +kernel
theorem dJ0_indexOf_7cf53_30 : decode cJ0_indexOf_7cf53 30 = .ok (.invokevirtual 505, 3) := by decide +kernel
theorem dJ0_indexOf_7cf53_36 : decode cJ0_indexOf_7cf53 36 = .ok (.ireturn, 1) := by decide +kernel
set_option maxRecDepth 20000 in
theorem s_JS_indexOf_ (E : XE) : Cs E (yJ0_indexOf_7cf53, cJ0_indexOf_7cf53, 3, some .int) (k_JS_indexOf_) := (Cs_nd (Cs_nd (Cs_nd (Cs_nd (Cs_lf (sg_aload_n dJ0_indexOf_7cf53_0 rfl)) (Cs_lf (sg_invV (mid := 187) (ci := 12) (by decide +kernel) dJ0_indexOf_7cf53_1 ok_187 rfl w_1100 w_1101 w_1102))) (Cs_nd (Cs_lf (sg_ifeq dJ0_indexOf_7cf53_4 (by decide))) (Cs_lf (sg_aload_n dJ0_indexOf_7cf53_7 rfl)))) (Cs_nd (Cs_nd (Cs_lf (sg_getf dJ0_indexOf_7cf53_8 rfl inJ0 (by decide) w_1372)) (Cs_lf (sg_iload_n dJ0_indexOf_7cf53_11 rfl))) (Cs_nd (Cs_lf (sg_iload_n dJ0_indexOf_7cf53_12 rfl)) (Cs_nd (Cs_lf (sg_aload_n dJ0_indexOf_7cf53_13 rfl)) (Cs_lf (sg_invV (mid := 183) (ci := 12) (by decide +kernel) dJ0_indexOf_7cf53_14 ok_183 rfl w_1106 w_1107 w_1108)))))) (Cs_nd (Cs_nd (Cs_nd (Cs_lf (sg_inv (mid := 189) (by decide +kernel) dJ0_indexOf_7cf53_17 ok_189 w_1114 w_1115)) (Cs_lf (sg_goto dJ0_indexOf_7cf53_20 (by decide)))) (Cs_nd (Cs_lf (sg_aload_n dJ0_indexOf_7cf53_23 rfl)) (Cs_lf (sg_getf dJ0_indexOf_7cf53_24 rfl inJ0 (by decide) w_1372)))) (Cs_nd (Cs_nd (Cs_lf (sg_iload_n dJ0_indexOf_7cf53_27 rfl)) (Cs_lf (sg_iload_n dJ0_indexOf_7cf53_28 rfl))) (Cs_nd (Cs_lf (sg_aload_n dJ0_indexOf_7cf53_29 rfl)) (Cs_nd (Cs_lf (sg_invV (mid := 183) (ci := 12) (by decide +kernel) dJ0_indexOf_7cf53_30 ok_183 rfl w_1106 w_1107 w_1108)) (Cs_lf (sg_iret dJ0_indexOf_7cf53_36 rfl)))))))
theorem dJ0_coder_7d493_0 : decode cJ0_coder_7d493 0 = .ok (.getstatic 38, 3) := by decide +kernel
theorem dJ0_coder_7d493_3 : decode cJ0_coder_7d493 3 = .ok (.ifCond .eq 10, 3) := by decide +kernel
theorem dJ0_coder_7d493_6 : decode cJ0_coder_7d493 6 = .ok (.aload_n 0, 1) := by decide +kernel
theorem dJ0_coder_7d493_7 : decode cJ0_coder_7d493 7 = .ok (.getfield 15, 3) := by decide +kernel
theorem dJ0_coder_7d493_10 : decode cJ0_coder_7d493 10 = .ok (.goto 4, 3) := by decide +kernel
theorem dJ0_coder_7d493_13 : decode cJ0_coder_7d493 13 = .ok (.iconst 1, 1) := by decide +kernel
theorem dJ0_coder_7d493_14 : decode cJ0_coder_7d493 14 = .ok (.ireturn, 1) := by decide +kernel
set_option maxRecDepth 20000 in
theorem s_JS_coder (E : XE) : Cs E (yJ0_coder_7d493, cJ0_coder_7d493, 1, some .byte) (k_JS_coder) := (Cs_nd (Cs_nd (Cs_lf (sg_getsC dJ0_coder_7d493_0 w_1104)) (Cs_nd (Cs_lf (sg_ifeq dJ0_coder_7d493_3 (by decide))) (Cs_lf (sg_aload_n dJ0_coder_7d493_6 rfl)))) (Cs_nd (Cs_nd (Cs_lf (sg_getf dJ0_coder_7d493_7 rfl inJ0 (by decide) w_1371)) (Cs_lf (sg_goto dJ0_coder_7d493_10 (by decide)))) (Cs_nd (Cs_lf (sg_iconst dJ0_coder_7d493_13 (by decide))) (Cs_lf (sg_zret dJ0_coder_7d493_14 rfl ⟨by decide, by decide⟩)))))
theorem dJ0_isLatin1_aae02_0 : decode cJ0_isLatin1_aae02 0 = .ok (.getstatic 38, 3) := by decide +kernel
theorem dJ0_isLatin1_aae02_3 : decode cJ0_isLatin1_aae02 3 = .ok (.ifCond .eq 14, 3) := by decide +kernel
theorem dJ0_isLatin1_aae02_6 : decode cJ0_isLatin1_aae02 6 = .ok (.aload_n 0, 1) := by decide +kernel
theorem dJ0_isLatin1_aae02_7 : decode cJ0_isLatin1_aae02 7 = .ok (.getfield 15, 3) := by decide +kernel
theorem dJ0_isLatin1_aae02_10 : decode cJ0_isLatin1_aae02 10 = .ok (.ifCond .ne 7, 3) := by decide +kernel
theorem dJ0_isLatin1_aae02_13 : decode cJ0_isLatin1_aae02 13 = .ok (.iconst 1, 1) := by decide +kernel
theorem dJ0_isLatin1_aae02_14 : decode cJ0_isLatin1_aae02 14 = .ok (.goto 4, 3) := by decide +kernel
theorem dJ0_isLatin1_aae02_17 : decode cJ0_isLatin1_aae02 17 = .ok (.iconst 0, 1) := by decide +kernel
theorem dJ0_isLatin1_aae02_18 : decode cJ0_isLatin1_aae02 18 = .ok (.ireturn, 1) := by decide +kernel
set_option maxRecDepth 20000 in
theorem s_JS_isLatin1 (E : XE) : Cs E (yJ0_isLatin1_aae02, cJ0_isLatin1_aae02, 1, some .boolean) (k_JS_isLatin1) := (Cs_nd (Cs_nd (Cs_nd (Cs_lf (sg_getsC dJ0_isLatin1_aae02_0 w_1104)) (Cs_lf (sg_ifeq dJ0_isLatin1_aae02_3 (by decide)))) (Cs_nd (Cs_lf (sg_aload_n dJ0_isLatin1_aae02_6 rfl)) (Cs_lf (sg_getf dJ0_isLatin1_aae02_7 rfl inJ0 (by decide) w_1371)))) (Cs_nd (Cs_nd (Cs_lf (sg_ifne dJ0_isLatin1_aae02_10 (by decide))) (Cs_lf (sg_iconst dJ0_isLatin1_aae02_13 (by decide)))) (Cs_nd (Cs_lf (sg_goto dJ0_isLatin1_aae02_14 (by decide))) (Cs_nd (Cs_lf (sg_iconst dJ0_isLatin1_aae02_17 (by decide))) (Cs_lf (sg_zret dJ0_isLatin1_aae02_18 rfl ⟨by decide, by decide⟩))))))
theorem dJ1_canEncode_9a6ad_0 : decode cJ1_canEncode_9a6ad 0 = .ok (.iload_n 0, 1) := by decide +kernel
theorem dJ1_canEncode_9a6ad_1 : decode cJ1_canEncode_9a6ad 1 = .ok (.ifCond .lt 14, 3) := by decide +kernel
theorem dJ1_canEncode_9a6ad_4 : decode cJ1_canEncode_9a6ad 4 = .ok (.iload_n 0, 1) := by decide +kernel
theorem dJ1_canEncode_9a6ad_5 : decode cJ1_canEncode_9a6ad 5 = .ok (.sipush 255, 3) := by decide +kernel
theorem dJ1_canEncode_9a6ad_8 : decode cJ1_canEncode_9a6ad 8 = .ok (.if_icmp .gt 7, 3) := by decide +kernel
theorem dJ1_canEncode_9a6ad_11 : decode cJ1_canEncode_9a6ad 11 = .ok (.iconst 1, 1) := by decide +kernel
theorem dJ1_canEncode_9a6ad_12 : decode cJ1_canEncode_9a6ad 12 = .ok (.goto 4, 3) := by decide +kernel
theorem dJ1_canEncode_9a6ad_15 : decode cJ1_canEncode_9a6ad 15 = .ok (.iconst 0, 1) := by decide +kernel
theorem dJ1_canEncode_9a6ad_16 : decode cJ1_canEncode_9a6ad 16 = .ok (.ireturn, 1) := by decide +kernel
set_option maxRecDepth 20000 in
theorem s_JT_canEncode (E : XE) : Cs E (yJ1_canEncode_9a6ad, cJ1_canEncode_9a6ad, 1, some .boolean) (k_JT_canEncode) := (Cs_nd (Cs_nd (Cs_nd (Cs_lf (sg_iload_n dJ1_canEncode_9a6ad_0 rfl)) (Cs_lf (sg_iflt dJ1_canEncode_9a6ad_1 (by decide)))) (Cs_nd (Cs_lf (sg_iload_n dJ1_canEncode_9a6ad_4 rfl)) (Cs_lf (sg_sipush dJ1_canEncode_9a6ad_5 (by decide))))) (Cs_nd (Cs_nd (Cs_lf (sg_cgt dJ1_canEncode_9a6ad_8 (by decide))) (Cs_lf (sg_iconst dJ1_canEncode_9a6ad_11 (by decide)))) (Cs_nd (Cs_lf (sg_goto dJ1_canEncode_9a6ad_12 (by decide))) (Cs_nd (Cs_lf (sg_iconst dJ1_canEncode_9a6ad_15 (by decide))) (Cs_lf (sg_zret dJ1_canEncode_9a6ad_16 rfl ⟨by decide, by decide⟩))))))
theorem dJ1_indexOf_4cfef_0 : decode cJ1_indexOf_4cfef 0 = .ok (.iload_n 1, 1) := by decide +kernel
theorem dJ1_indexOf_4cfef_1 : decode cJ1_indexOf_4cfef 1 = .ok (.invokestatic 88, 3) := by decide +kernel
theorem dJ1_indexOf_4cfef_4 : decode cJ1_indexOf_4cfef 4 = .ok (.ifCond .ne 5, 3) := by decide +kernel
theorem dJ1_indexOf_4cfef_7 : decode cJ1_indexOf_4cfef 7 = .ok (.iconst (-1), 1) := by decide +kernel
theorem dJ1_indexOf_4cfef_8 : decode cJ1_indexOf_4cfef 8 = .ok (.ireturn, 1) := by decide +kernel
theorem dJ1_indexOf_4cfef_9 : decode cJ1_indexOf_4cfef 9 = .ok (.iload_n 2, 1) := by decide +kernel
theorem dJ1_indexOf_4cfef_10 : decode cJ1_indexOf_4cfef 10 = .ok (.iconst 0, 1) := by decide +kernel
theorem dJ1_indexOf_4cfef_11 : decode cJ1_indexOf_4cfef 11 = .ok (.invokestatic 92, 3) := by decide +kernel
theorem dJ1_indexOf_4cfef_14 : decode cJ1_indexOf_4cfef 14 = .ok (.istore_n 2, 1) := by decide +kernel
theorem dJ1_indexOf_4cfef_15 : decode cJ1_indexOf_4cfef 15 = .ok (.iload_n 3, 1) := by decide +kernel
theorem dJ1_indexOf_4cfef_16 : decode cJ1_indexOf_4cfef 16 = .ok (.aload_n 0, 1) := by decide +kernel
theorem dJ1_indexOf_4cfef_17 : decode cJ1_indexOf_4cfef 17 = .ok (.arraylength, 1) := by decide +kernel
theorem dJ1_indexOf_4cfef_18 : decode cJ1_indexOf_4cfef 18 = .ok (.invokestatic 38, 3) := by decide +kernel
theorem dJ1_indexOf_4cfef_21 : decode cJ1_indexOf_4cfef 21 = .ok (.istore_n 3, 1) := by decide +kernel
theorem dJ1_indexOf_4cfef_22 : decode cJ1_indexOf_4cfef 22 = .ok (.iload_n 2, 1) := by decide +kernel
theorem dJ1_indexOf_4cfef_23 : decode cJ1_indexOf_4cfef 23 = .ok (.iload_n 3, 1) := by decide +kernel
theorem dJ1_indexOf_4cfef_24 : decode cJ1_indexOf_4cfef 24 = .ok (.if_icmp .lt 5, 3) := by decide +kernel
theorem dJ1_indexOf_4cfef_27 : decode cJ1_indexOf_4cfef 27 = .ok (.iconst (-1), 1) := by decide +kernel
theorem dJ1_indexOf_4cfef_28 : decode cJ1_indexOf_4cfef 28 = .ok (.ireturn, 1) := by decide +kernel
theorem dJ1_indexOf_4cfef_29 : decode cJ1_indexOf_4cfef 29 = .ok (.aload_n 0, 1) := by decide +kernel
theorem dJ1_indexOf_4cfef_30 : decode cJ1_indexOf_4cfef 30 = .ok (.iload_n 1, 1) := by decide +kernel
theorem dJ1_indexOf_4cfef_31 : decode cJ1_indexOf_4cfef 31 = .ok (.iload_n 2, 1) := by decide +kernel
theorem dJ1_indexOf_4cfef_32 : decode cJ1_indexOf_4cfef 32 = .ok (.iload_n 3, 1) := by decide +kernel
theorem dJ1_indexOf_4cfef_33 : decode cJ1_indexOf_4cfef 33 = .ok (.invokestatic 95, 3) := by decide +kernel
theorem dJ1_indexOf_4cfef_36 : decode cJ1_indexOf_4cfef 36 = .ok (.ireturn, 1) := by decide +kernel
set_option maxRecDepth 20000 in
theorem s_JT_indexOf (E : XE) : Cs E (yJ1_indexOf_4cfef, cJ1_indexOf_4cfef, 4, some .int) (k_JT_indexOf) := (Cs_nd (Cs_nd (Cs_nd (Cs_nd (Cs_lf (sg_iload_n dJ1_indexOf_4cfef_0 rfl)) (Cs_nd (Cs_lf (sg_inv (mid := 188) (by decide +kernel) dJ1_indexOf_4cfef_1 ok_188 w_1117 w_1118)) (Cs_lf (sg_ifne dJ1_indexOf_4cfef_4 (by decide))))) (Cs_nd (Cs_lf (sg_iconst dJ1_indexOf_4cfef_7 (by decide))) (Cs_nd (Cs_lf (sg_iret dJ1_indexOf_4cfef_8 rfl)) (Cs_lf (sg_iload_n dJ1_indexOf_4cfef_9 rfl))))) (Cs_nd (Cs_nd (Cs_lf (sg_iconst dJ1_indexOf_4cfef_10 (by decide))) (Cs_nd (Cs_lf (sg_inv (mid := 181) (by decide +kernel) dJ1_indexOf_4cfef_11 ok_181 w_1120 w_1121)) (Cs_lf (sg_istore_n dJ1_indexOf_4cfef_14 rfl (by decide))))) (Cs_nd (Cs_lf (sg_iload_n dJ1_indexOf_4cfef_15 rfl)) (Cs_nd (Cs_lf (sg_aload_n dJ1_indexOf_4cfef_16 rfl)) (Cs_lf (sg_alen dJ1_indexOf_4cfef_17)))))) (Cs_nd (Cs_nd (Cs_nd (Cs_lf (sg_inv (mid := 182) (by decide +kernel) dJ1_indexOf_4cfef_18 ok_182 w_1123 w_583)) (Cs_nd (Cs_lf (sg_istore_n dJ1_indexOf_4cfef_21 rfl (by decide))) (Cs_lf (sg_iload_n dJ1_indexOf_4cfef_22 rfl)))) (Cs_nd (Cs_lf (sg_iload_n dJ1_indexOf_4cfef_23 rfl)) (Cs_nd (Cs_lf (sg_clt dJ1_indexOf_4cfef_24 (by decide))) (Cs_lf (sg_iconst dJ1_indexOf_4cfef_27 (by decide)))))) (Cs_nd (Cs_nd (Cs_lf (sg_iret dJ1_indexOf_4cfef_28 rfl)) (Cs_nd (Cs_lf (sg_aload_n dJ1_indexOf_4cfef_29 rfl)) (Cs_lf (sg_iload_n dJ1_indexOf_4cfef_30 rfl)))) (Cs_nd (Cs_nd (Cs_lf (sg_iload_n dJ1_indexOf_4cfef_31 rfl)) (Cs_lf (sg_iload_n dJ1_indexOf_4cfef_32 rfl))) (Cs_nd (Cs_lf (sg_inv (mid := 190) (by decide +kernel) dJ1_indexOf_4cfef_33 ok_190 w_1124 w_1125)) (Cs_lf (sg_iret dJ1_indexOf_4cfef_36 rfl)))))))
theorem dJ1_indexOfChar_4cfef_0 : decode cJ1_indexOfChar_4cfef 0 = .ok (.iload_n 1, 1) := by decide +kernel
theorem dJ1_indexOfChar_4cfef_1 : decode cJ1_indexOfChar_4cfef 1 = .ok (.i2b, 1) := by decide +kernel
theorem dJ1_indexOfChar_4cfef_2 : decode cJ1_indexOfChar_4cfef 2 = .ok (.istore 4, 2) := by decide +kernel
theorem dJ1_indexOfChar_4cfef_4 : decode cJ1_indexOfChar_4cfef 4 = .ok (.iload_n 2, 1) := by decide +kernel
theorem dJ1_indexOfChar_4cfef_5 : decode cJ1_indexOfChar_4cfef 5 = .ok (.istore 5, 2) := by decide +kernel
theorem dJ1_indexOfChar_4cfef_7 : decode cJ1_indexOfChar_4cfef 7 = .ok (.iload 5, 2) := by decide +kernel
theorem dJ1_indexOfChar_4cfef_9 : decode cJ1_indexOfChar_4cfef 9 = .ok (.iload_n 3, 1) := by decide +kernel
theorem dJ1_indexOfChar_4cfef_10 : decode cJ1_indexOfChar_4cfef 10 = .ok (.if_icmp .ge 21, 3) := by decide +kernel
theorem dJ1_indexOfChar_4cfef_13 : decode cJ1_indexOfChar_4cfef 13 = .ok (.aload_n 0, 1) := by decide +kernel
theorem dJ1_indexOfChar_4cfef_14 : decode cJ1_indexOfChar_4cfef 14 = .ok (.iload 5, 2) := by decide +kernel
theorem dJ1_indexOfChar_4cfef_16 : decode cJ1_indexOfChar_4cfef 16 = .ok (.baload, 1) := by decide +kernel
theorem dJ1_indexOfChar_4cfef_17 : decode cJ1_indexOfChar_4cfef 17 = .ok (.iload 4, 2) := by decide +kernel
theorem dJ1_indexOfChar_4cfef_19 : decode cJ1_indexOfChar_4cfef 19 = .ok (.if_icmp .ne 6, 3) := by decide +kernel
theorem dJ1_indexOfChar_4cfef_22 : decode cJ1_indexOfChar_4cfef 22 = .ok (.iload 5, 2) := by decide +kernel
theorem dJ1_indexOfChar_4cfef_24 : decode cJ1_indexOfChar_4cfef 24 = .ok (.ireturn, 1) := by decide +kernel
theorem dJ1_indexOfChar_4cfef_25 : decode cJ1_indexOfChar_4cfef 25 = .ok (.iinc 5 1, 3) := by decide +kernel
theorem dJ1_indexOfChar_4cfef_28 : decode cJ1_indexOfChar_4cfef 28 = .ok (.goto (-21), 3) := by decide +kernel
theorem dJ1_indexOfChar_4cfef_31 : decode cJ1_indexOfChar_4cfef 31 = .ok (.iconst (-1), 1) := by decide +kernel
theorem dJ1_indexOfChar_4cfef_32 : decode cJ1_indexOfChar_4cfef 32 = .ok (.ireturn, 1) := by decide +kernel
set_option maxRecDepth 20000 in
theorem s_JT_indexOfChar (E : XE) : Cs E (yJ1_indexOfChar_4cfef, cJ1_indexOfChar_4cfef, 6, some .int) (k_JT_indexOfChar) := (Cs_nd (Cs_nd (Cs_nd (Cs_nd (Cs_lf (sg_iload_n dJ1_indexOfChar_4cfef_0 rfl)) (Cs_lf (sg_i2b dJ1_indexOfChar_4cfef_1))) (Cs_nd (Cs_lf (sg_istore dJ1_indexOfChar_4cfef_2 (by decide))) (Cs_lf (sg_iload_n dJ1_indexOfChar_4cfef_4 rfl)))) (Cs_nd (Cs_nd (Cs_lf (sg_istore dJ1_indexOfChar_4cfef_5 (by decide))) (Cs_lf (sg_iload dJ1_indexOfChar_4cfef_7))) (Cs_nd (Cs_lf (sg_iload_n dJ1_indexOfChar_4cfef_9 rfl)) (Cs_nd (Cs_lf (sg_cge dJ1_indexOfChar_4cfef_10 (by decide))) (Cs_lf (sg_aload_n dJ1_indexOfChar_4cfef_13 rfl)))))) (Cs_nd (Cs_nd (Cs_nd (Cs_lf (sg_iload dJ1_indexOfChar_4cfef_14)) (Cs_lf (sg_bald dJ1_indexOfChar_4cfef_16))) (Cs_nd (Cs_lf (sg_iload dJ1_indexOfChar_4cfef_17)) (Cs_nd (Cs_lf (sg_cne dJ1_indexOfChar_4cfef_19 (by decide))) (Cs_lf (sg_iload dJ1_indexOfChar_4cfef_22))))) (Cs_nd (Cs_nd (Cs_lf (sg_iret dJ1_indexOfChar_4cfef_24 rfl)) (Cs_lf (sg_iinc dJ1_indexOfChar_4cfef_25 (by decide) (by decide)))) (Cs_nd (Cs_lf (sg_goto dJ1_indexOfChar_4cfef_28 (by decide))) (Cs_nd (Cs_lf (sg_iconst dJ1_indexOfChar_4cfef_31 (by decide))) (Cs_lf (sg_iret dJ1_indexOfChar_4cfef_32 rfl)))))))
theorem dJ7_fill_53178_0 : decode cJ7_fill_53178 0 = .ok (.iconst 0, 1) := by decide +kernel
theorem dJ7_fill_53178_1 : decode cJ7_fill_53178 1 = .ok (.istore_n 2, 1) := by decide +kernel
theorem dJ7_fill_53178_2 : decode cJ7_fill_53178 2 = .ok (.aload_n 0, 1) := by decide +kernel
theorem dJ7_fill_53178_3 : decode cJ7_fill_53178 3 = .ok (.arraylength, 1) := by decide +kernel
theorem dJ7_fill_53178_4 : decode cJ7_fill_53178 4 = .ok (.istore_n 3, 1) := by decide +kernel
theorem dJ7_fill_53178_5 : decode cJ7_fill_53178 5 = .ok (.iload_n 2, 1) := by decide +kernel
theorem dJ7_fill_53178_6 : decode cJ7_fill_53178 6 = .ok (.iload_n 3, 1) := by decide +kernel
theorem dJ7_fill_53178_7 : decode cJ7_fill_53178 7 = .ok (.if_icmp .ge 13, 3) := by decide +kernel
theorem dJ7_fill_53178_10 : decode cJ7_fill_53178 10 = .ok (.aload_n 0, 1) := by decide +kernel
theorem dJ7_fill_53178_11 : decode cJ7_fill_53178 11 = .ok (.iload_n 2, 1) := by decide +kernel
theorem dJ7_fill_53178_12 : decode cJ7_fill_53178 12 = .ok (.iload_n 1, 1) := by decide +kernel
theorem dJ7_fill_53178_13 : decode cJ7_fill_53178 13 = .ok (.iastore, 1) := by decide +kernel
theorem dJ7_fill_53178_14 : decode cJ7_fill_53178 14 = .ok (.iinc 2 1, 3) := by decide +kernel
theorem dJ7_fill_53178_17 : decode cJ7_fill_53178 17 = .ok (.goto (-12), 3) := by decide +kernel
theorem dJ7_fill_53178_20 : decode cJ7_fill_53178 20 = .ok (.return_, 1) := by decide +kernel
set_option maxRecDepth 20000 in
theorem s_JA_fill (E : XE) : Cs E (yJ7_fill_53178, cJ7_fill_53178, 4, none) (k_JA_fill) := (Cs_nd (Cs_nd (Cs_nd (Cs_lf (sg_iconst dJ7_fill_53178_0 (by decide))) (Cs_nd (Cs_lf (sg_istore_n dJ7_fill_53178_1 rfl (by decide))) (Cs_lf (sg_aload_n dJ7_fill_53178_2 rfl)))) (Cs_nd (Cs_nd (Cs_lf (sg_alen dJ7_fill_53178_3)) (Cs_lf (sg_istore_n dJ7_fill_53178_4 rfl (by decide)))) (Cs_nd (Cs_lf (sg_iload_n dJ7_fill_53178_5 rfl)) (Cs_lf (sg_iload_n dJ7_fill_53178_6 rfl))))) (Cs_nd (Cs_nd (Cs_nd (Cs_lf (sg_cge dJ7_fill_53178_7 (by decide))) (Cs_lf (sg_aload_n dJ7_fill_53178_10 rfl))) (Cs_nd (Cs_lf (sg_iload_n dJ7_fill_53178_11 rfl)) (Cs_lf (sg_iload_n dJ7_fill_53178_12 rfl)))) (Cs_nd (Cs_nd (Cs_lf (sg_iast dJ7_fill_53178_13)) (Cs_lf (sg_iinc dJ7_fill_53178_14 (by decide) (by decide)))) (Cs_nd (Cs_lf (sg_goto dJ7_fill_53178_17 (by decide))) (Cs_lf (sg_vret dJ7_fill_53178_20 rfl))))))
