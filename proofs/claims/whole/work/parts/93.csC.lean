/-! the code is sound: 93.csC -/
theorem dX7_init_0 : decode cX7_init 0 = .ok (.aload_n 0, 1) := by decide +kernel
theorem dX7_init_1 : decode cX7_init 1 = .ok (.invokespecial 3, 3) := by decide +kernel
theorem dX7_init_4 : decode cX7_init 4 = .ok (.aload_n 0, 1) := by decide +kernel
theorem dX7_init_5 : decode cX7_init 5 = .ok (.new 9, 3) := by decide +kernel
theorem dX7_init_8 : decode cX7_init 8 = .ok (.dup, 1) := by decide +kernel
theorem dX7_init_9 : decode cX7_init 9 = .ok (.invokespecial 11, 3) := by decide +kernel
theorem dX7_init_12 : decode cX7_init 12 = .ok (.putfield 12, 3) := by decide +kernel
theorem dX7_init_15 : decode cX7_init 15 = .ok (.aload_n 0, 1) := by decide +kernel
theorem dX7_init_16 : decode cX7_init 16 = .ok (.new 9, 3) := by decide +kernel
theorem dX7_init_19 : decode cX7_init 19 = .ok (.dup, 1) := by decide +kernel
theorem dX7_init_20 : decode cX7_init 20 = .ok (.invokespecial 11, 3) := by decide +kernel
theorem dX7_init_23 : decode cX7_init 23 = .ok (.putfield 16, 3) := by decide +kernel
theorem dX7_init_26 : decode cX7_init 26 = .ok (.aload_n 0, 1) := by decide +kernel
theorem dX7_init_27 : decode cX7_init 27 = .ok (.bipush 6, 2) := by decide +kernel
theorem dX7_init_29 : decode cX7_init 29 = .ok (.anewarray 19, 3) := by decide +kernel
theorem dX7_init_32 : decode cX7_init 32 = .ok (.putfield 21, 3) := by decide +kernel
theorem dX7_init_35 : decode cX7_init 35 = .ok (.aload_n 0, 1) := by decide +kernel
theorem dX7_init_36 : decode cX7_init 36 = .ok (.iconst 0, 1) := by decide +kernel
theorem dX7_init_37 : decode cX7_init 37 = .ok (.putfield 25, 3) := by decide +kernel
theorem dX7_init_40 : decode cX7_init 40 = .ok (.aload_n 0, 1) := by decide +kernel
theorem dX7_init_41 : decode cX7_init 41 = .ok (.iconst (-1), 1) := by decide +kernel
theorem dX7_init_42 : decode cX7_init 42 = .ok (.putfield 29, 3) := by decide +kernel
theorem dX7_init_45 : decode cX7_init 45 = .ok (.aload_n 0, 1) := by decide +kernel
theorem dX7_init_46 : decode cX7_init 46 = .ok (.new 32, 3) := by decide +kernel
theorem dX7_init_49 : decode cX7_init 49 = .ok (.dup, 1) := by decide +kernel
theorem dX7_init_50 : decode cX7_init 50 = .ok (.invokespecial 34, 3) := by decide +kernel
theorem dX7_init_53 : decode cX7_init 53 = .ok (.putfield 35, 3) := by decide +kernel
theorem dX7_init_56 : decode cX7_init 56 = .ok (.aload_n 0, 1) := by decide +kernel
theorem dX7_init_57 : decode cX7_init 57 = .ok (.new 32, 3) := by decide +kernel
theorem dX7_init_60 : decode cX7_init 60 = .ok (.dup, 1) := by decide +kernel
theorem dX7_init_61 : decode cX7_init 61 = .ok (.invokespecial 34, 3) := by decide +kernel
theorem dX7_init_64 : decode cX7_init 64 = .ok (.putfield 39, 3) := by decide +kernel
theorem dX7_init_67 : decode cX7_init 67 = .ok (.aload_n 0, 1) := by decide +kernel
theorem dX7_init_68 : decode cX7_init 68 = .ok (.new 42, 3) := by decide +kernel
theorem dX7_init_71 : decode cX7_init 71 = .ok (.dup, 1) := by decide +kernel
theorem dX7_init_72 : decode cX7_init 72 = .ok (.invokespecial 44, 3) := by decide +kernel
theorem dX7_init_75 : decode cX7_init 75 = .ok (.putfield 45, 3) := by decide +kernel
theorem dX7_init_78 : decode cX7_init 78 = .ok (.iconst 0, 1) := by decide +kernel
theorem dX7_init_79 : decode cX7_init 79 = .ok (.istore_n 1, 1) := by decide +kernel
theorem dX7_init_80 : decode cX7_init 80 = .ok (.iload_n 1, 1) := by decide +kernel
theorem dX7_init_81 : decode cX7_init 81 = .ok (.aload_n 0, 1) := by decide +kernel
theorem dX7_init_82 : decode cX7_init 82 = .ok (.getfield 21, 3) := by decide +kernel
theorem dX7_init_85 : decode cX7_init 85 = .ok (.arraylength, 1) := by decide +kernel
theorem dX7_init_86 : decode cX7_init 86 = .ok (.if_icmp .ge 22, 3) := by decide +kernel
theorem dX7_init_89 : decode cX7_init 89 = .ok (.aload_n 0, 1) := by decide +kernel
theorem dX7_init_90 : decode cX7_init 90 = .ok (.getfield 21, 3) := by decide +kernel
theorem dX7_init_93 : decode cX7_init 93 = .ok (.iload_n 1, 1) := by decide +kernel
theorem dX7_init_94 : decode cX7_init 94 = .ok (.new 19, 3) := by decide +kernel
theorem dX7_init_97 : decode cX7_init 97 = .ok (.dup, 1) := by decide +kernel
theorem dX7_init_98 : decode cX7_init 98 = .ok (.invokespecial 49, 3) := by decide +kernel
theorem dX7_init_101 : decode cX7_init 101 = .ok (.aastore, 1) := by decide +kernel
theorem dX7_init_102 : decode cX7_init 102 = .ok (.iinc 1 1, 3) := by decide +kernel
theorem dX7_init_105 : decode cX7_init 105 = .ok (.goto (-25), 3) := by decide +kernel
theorem dX7_init_108 : decode cX7_init 108 = .ok (.return_, 1) := by decide +kernel
set_option maxRecDepth 20000 in
theorem s_CP_init (E : XE) : Cs E (yX7_init, cX7_init, 2, none) (k_CP_init) := (Cs_nd (Cs_nd (Cs_nd (Cs_nd (Cs_nd (Cs_lf (sg_aload_n dX7_init_0 rfl)) (Cs_nd (Cs_lf (sg_obj dX7_init_1 w_37 w_38 w_39)) (Cs_lf (sg_aload_n dX7_init_4 rfl)))) (Cs_nd (Cs_lf (sg_new dX7_init_5 rfl inX4 tyX4_ok (by decide) w_40 w_41 w_2)) (Cs_nd (Cs_lf (sg_dup dX7_init_8)) (Cs_lf (sg_invIN (mid := 60) (by decide +kernel) dX7_init_9 ok_60 rfl rfl (host := RX7) (by decide +kernel) w_43))))) (Cs_nd (Cs_nd (Cs_lf (sg_putF dX7_init_12 rfl inX7 tyX7_ok nmX7 (by decide) w_161 rfl rfl rfl (tyX7_ok 0 (by decide)) (ok_obj _))) (Cs_nd (Cs_lf (sg_aload_n dX7_init_15 rfl)) (Cs_lf (sg_new dX7_init_16 rfl inX4 tyX4_ok (by decide) w_40 w_41 w_2)))) (Cs_nd (Cs_nd (Cs_lf (sg_dup dX7_init_19)) (Cs_lf (sg_invIN (mid := 60) (by decide +kernel) dX7_init_20 ok_60 rfl rfl (host := RX7) (by decide +kernel) w_43))) (Cs_nd (Cs_lf (sg_putF dX7_init_23 rfl inX7 tyX7_ok nmX7 (by decide) w_162 rfl rfl rfl (tyX7_ok 1 (by decide)) (ok_obj _))) (Cs_lf (sg_aload_n dX7_init_26 rfl)))))) (Cs_nd (Cs_nd (Cs_nd (Cs_lf (sg_bipush dX7_init_27 (by decide))) (Cs_nd (Cs_lf (sg_newQ dX7_init_29 (fun _ => rfl) w_54 (by decide))) (Cs_lf (sg_putF dX7_init_32 rfl inX7 tyX7_ok nmX7 (by decide) w_163 rfl rfl rfl (tyX7_ok 2 (by decide)) (ok_arr _))))) (Cs_nd (Cs_nd (Cs_lf (sg_aload_n dX7_init_35 rfl)) (Cs_lf (sg_iconst dX7_init_36 (by decide)))) (Cs_nd (Cs_lf (sg_putf dX7_init_37 rfl inX7 tyX7_ok nmX7 (by decide) w_164 rfl (tyX7_ok 3 (by decide)) ok_int)) (Cs_lf (sg_aload_n dX7_init_40 rfl))))) (Cs_nd (Cs_nd (Cs_lf (sg_iconst dX7_init_41 (by decide))) (Cs_nd (Cs_lf (sg_putf dX7_init_42 rfl inX7 tyX7_ok nmX7 (by decide) w_165 rfl (tyX7_ok 4 (by decide)) ok_int)) (Cs_lf (sg_aload_n dX7_init_45 rfl)))) (Cs_nd (Cs_nd (Cs_lf (sg_new dX7_init_46 rfl inX2 tyX2_ok (by decide) w_56 w_57 w_3)) (Cs_lf (sg_dup dX7_init_49))) (Cs_nd (Cs_lf (sg_invI (mid := 33) (by decide +kernel) dX7_init_50 ok_33 rfl rfl w_58 w_59)) (Cs_lf (sg_putf dX7_init_53 rfl inX7 tyX7_ok nmX7 (by decide) w_166 rfl (tyX7_ok 5 (by decide)) (ok_obj _)))))))) (Cs_nd (Cs_nd (Cs_nd (Cs_nd (Cs_lf (sg_aload_n dX7_init_56 rfl)) (Cs_nd (Cs_lf (sg_new dX7_init_57 rfl inX2 tyX2_ok (by decide) w_56 w_57 w_3)) (Cs_lf (sg_dup dX7_init_60)))) (Cs_nd (Cs_lf (sg_invI (mid := 33) (by decide +kernel) dX7_init_61 ok_33 rfl rfl w_58 w_59)) (Cs_nd (Cs_lf (sg_putf dX7_init_64 rfl inX7 tyX7_ok nmX7 (by decide) w_167 rfl (tyX7_ok 6 (by decide)) (ok_obj _))) (Cs_lf (sg_aload_n dX7_init_67 rfl))))) (Cs_nd (Cs_nd (Cs_lf (sg_new dX7_init_68 rfl inX6 tyX6_ok (by decide) w_100 w_101 w_5)) (Cs_nd (Cs_lf (sg_dup dX7_init_71)) (Cs_lf (sg_invIN (mid := 80) (by decide +kernel) dX7_init_72 ok_80 rfl rfl (host := RX7) (by decide +kernel) w_103)))) (Cs_nd (Cs_nd (Cs_lf (sg_putF dX7_init_75 rfl inX7 tyX7_ok nmX7 (by decide) w_168 rfl rfl rfl (tyX7_ok 7 (by decide)) (ok_obj _))) (Cs_lf (sg_iconst dX7_init_78 (by decide)))) (Cs_nd (Cs_lf (sg_istore_n dX7_init_79 rfl (by decide))) (Cs_lf (sg_iload_n dX7_init_80 rfl)))))) (Cs_nd (Cs_nd (Cs_nd (Cs_lf (sg_aload_n dX7_init_81 rfl)) (Cs_nd (Cs_lf (sg_getf dX7_init_82 rfl inX7 (by decide) w_163)) (Cs_lf (sg_alen dX7_init_85)))) (Cs_nd (Cs_nd (Cs_lf (sg_cge dX7_init_86 (by decide))) (Cs_lf (sg_aload_n dX7_init_89 rfl))) (Cs_nd (Cs_lf (sg_getf dX7_init_90 rfl inX7 (by decide) w_163)) (Cs_lf (sg_iload_n dX7_init_93 rfl))))) (Cs_nd (Cs_nd (Cs_lf (sg_new dX7_init_94 rfl inX0 tyX0_ok (by decide) w_54 w_113 w_6)) (Cs_nd (Cs_lf (sg_dup dX7_init_97)) (Cs_lf (sg_invIN (mid := 0) (by decide +kernel) dX7_init_98 ok_0 rfl rfl (host := RX7) (by decide +kernel) w_115)))) (Cs_nd (Cs_nd (Cs_lf (sg_aast (kd := 5) (ci := 0) (fun _ => rfl) rfl dX7_init_101)) (Cs_lf (sg_iinc dX7_init_102 (by decide) (by decide)))) (Cs_nd (Cs_lf (sg_goto dX7_init_105 (by decide))) (Cs_lf (sg_vret dX7_init_108 rfl))))))))
theorem dX7_feed_0 : decode cX7_feed 0 = .ok (.iload_n 3, 1) := by decide +kernel
theorem dX7_feed_1 : decode cX7_feed 1 = .ok (.iconst 1, 1) := by decide +kernel
theorem dX7_feed_2 : decode cX7_feed 2 = .ok (.if_icmp .lt 9, 3) := by decide +kernel
theorem dX7_feed_5 : decode cX7_feed 5 = .ok (.iload_n 3, 1) := by decide +kernel
theorem dX7_feed_6 : decode cX7_feed 6 = .ok (.bipush 8, 2) := by decide +kernel
theorem dX7_feed_8 : decode cX7_feed 8 = .ok (.if_icmp .le 6, 3) := by decide +kernel
theorem dX7_feed_11 : decode cX7_feed 11 = .ok (.bipush (-2), 2) := by decide +kernel
theorem dX7_feed_13 : decode cX7_feed 13 = .ok (.ireturn, 1) := by decide +kernel
theorem dX7_feed_14 : decode cX7_feed 14 = .ok (.iload_n 3, 1) := by decide +kernel
theorem dX7_feed_15 : decode cX7_feed 15 = .ok (.sipush 400, 3) := by decide +kernel
theorem dX7_feed_18 : decode cX7_feed 18 = .ok (.aload_n 0, 1) := by decide +kernel
theorem dX7_feed_19 : decode cX7_feed 19 = .ok (.getfield 12, 3) := by decide +kernel
theorem dX7_feed_22 : decode cX7_feed 22 = .ok (.invokevirtual 50, 3) := by decide +kernel
theorem dX7_feed_25 : decode cX7_feed 25 = .ok (.isub, 1) := by decide +kernel
theorem dX7_feed_26 : decode cX7_feed 26 = .ok (.if_icmp .le 6, 3) := by decide +kernel
theorem dX7_feed_29 : decode cX7_feed 29 = .ok (.bipush (-3), 2) := by decide +kernel
theorem dX7_feed_31 : decode cX7_feed 31 = .ok (.ireturn, 1) := by decide +kernel
theorem dX7_feed_32 : decode cX7_feed 32 = .ok (.iload_n 3, 1) := by decide +kernel
theorem dX7_feed_33 : decode cX7_feed 33 = .ok (.iconst 1, 1) := by decide +kernel
theorem dX7_feed_34 : decode cX7_feed 34 = .ok (.isub, 1) := by decide +kernel
theorem dX7_feed_35 : decode cX7_feed 35 = .ok (.istore 4, 2) := by decide +kernel
theorem dX7_feed_37 : decode cX7_feed 37 = .ok (.iload 4, 2) := by decide +kernel
theorem dX7_feed_39 : decode cX7_feed 39 = .ok (.ifCond .lt 24, 3) := by decide +kernel
theorem dX7_feed_42 : decode cX7_feed 42 = .ok (.aload_n 0, 1) := by decide +kernel
theorem dX7_feed_43 : decode cX7_feed 43 = .ok (.getfield 12, 3) := by decide +kernel
theorem dX7_feed_46 : decode cX7_feed 46 = .ok (.lload_n 1, 1) := by decide +kernel
theorem dX7_feed_47 : decode cX7_feed 47 = .ok (.bipush 8, 2) := by decide +kernel
theorem dX7_feed_49 : decode cX7_feed 49 = .ok (.iload 4, 2) := by decide +kernel
theorem dX7_feed_51 : decode cX7_feed 51 = .ok (.imul, 1) := by decide +kernel
theorem dX7_feed_52 : decode cX7_feed 52 = .ok (.lshr, 1) := by decide +kernel
theorem dX7_feed_53 : decode cX7_feed 53 = .ok (.l2i, 1) := by decide +kernel
theorem dX7_feed_54 : decode cX7_feed 54 = .ok (.invokevirtual 54, 3) := by decide +kernel
theorem dX7_feed_57 : decode cX7_feed 57 = .ok (.iinc 4 (-1), 3) := by decide +kernel
theorem dX7_feed_60 : decode cX7_feed 60 = .ok (.goto (-23), 3) := by decide +kernel
theorem dX7_feed_63 : decode cX7_feed 63 = .ok (.aload_n 0, 1) := by decide +kernel
theorem dX7_feed_64 : decode cX7_feed 64 = .ok (.getfield 12, 3) := by decide +kernel
theorem dX7_feed_67 : decode cX7_feed 67 = .ok (.invokevirtual 50, 3) := by decide +kernel
theorem dX7_feed_70 : decode cX7_feed 70 = .ok (.ireturn, 1) := by decide +kernel
set_option maxRecDepth 20000 in
theorem s_CP_feed (E : XE) : Cs E (yX7_feed, cX7_feed, 5, some .int) (k_CP_feed) := (Cs_nd (Cs_nd (Cs_nd (Cs_nd (Cs_nd (Cs_lf (sg_iload_n dX7_feed_0 rfl)) (Cs_lf (sg_iconst dX7_feed_1 (by decide)))) (Cs_nd (Cs_lf (sg_clt dX7_feed_2 (by decide))) (Cs_lf (sg_iload_n dX7_feed_5 rfl)))) (Cs_nd (Cs_nd (Cs_lf (sg_bipush dX7_feed_6 (by decide))) (Cs_lf (sg_cle dX7_feed_8 (by decide)))) (Cs_nd (Cs_lf (sg_bipush dX7_feed_11 (by decide))) (Cs_nd (Cs_lf (sg_iret dX7_feed_13 rfl)) (Cs_lf (sg_iload_n dX7_feed_14 rfl)))))) (Cs_nd (Cs_nd (Cs_nd (Cs_lf (sg_sipush dX7_feed_15 (by decide))) (Cs_lf (sg_aload_n dX7_feed_18 rfl))) (Cs_nd (Cs_lf (sg_getf dX7_feed_19 rfl inX7 (by decide) w_161)) (Cs_nd (Cs_lf (sg_invV (mid := 61) (ci := 4) (by decide +kernel) dX7_feed_22 ok_61 rfl w_190 w_191 w_192)) (Cs_lf (sg_isub dX7_feed_25))))) (Cs_nd (Cs_nd (Cs_lf (sg_cle dX7_feed_26 (by decide))) (Cs_lf (sg_bipush dX7_feed_29 (by decide)))) (Cs_nd (Cs_lf (sg_iret dX7_feed_31 rfl)) (Cs_nd (Cs_lf (sg_iload_n dX7_feed_32 rfl)) (Cs_lf (sg_iconst dX7_feed_33 (by decide)))))))) (Cs_nd (Cs_nd (Cs_nd (Cs_nd (Cs_lf (sg_isub dX7_feed_34)) (Cs_lf (sg_istore dX7_feed_35 (by decide)))) (Cs_nd (Cs_lf (sg_iload dX7_feed_37)) (Cs_lf (sg_iflt dX7_feed_39 (by decide))))) (Cs_nd (Cs_nd (Cs_lf (sg_aload_n dX7_feed_42 rfl)) (Cs_lf (sg_getf dX7_feed_43 rfl inX7 (by decide) w_161))) (Cs_nd (Cs_lf (sg_lload_n dX7_feed_46 rfl)) (Cs_nd (Cs_lf (sg_bipush dX7_feed_47 (by decide))) (Cs_lf (sg_iload dX7_feed_49)))))) (Cs_nd (Cs_nd (Cs_nd (Cs_lf (sg_imul dX7_feed_51)) (Cs_lf (sg_lshr dX7_feed_52))) (Cs_nd (Cs_lf (sg_l2i dX7_feed_53)) (Cs_nd (Cs_lf (sg_invV (mid := 67) (ci := 4) (by decide +kernel) dX7_feed_54 ok_67 rfl w_194 w_195 w_196)) (Cs_lf (sg_iinc dX7_feed_57 (by decide) (by decide)))))) (Cs_nd (Cs_nd (Cs_lf (sg_goto dX7_feed_60 (by decide))) (Cs_lf (sg_aload_n dX7_feed_63 rfl))) (Cs_nd (Cs_lf (sg_getf dX7_feed_64 rfl inX7 (by decide) w_161)) (Cs_nd (Cs_lf (sg_invV (mid := 61) (ci := 4) (by decide +kernel) dX7_feed_67 ok_61 rfl w_190 w_191 w_192)) (Cs_lf (sg_iret dX7_feed_70 rfl))))))))
theorem dX7_read_0 : decode cX7_read 0 = .ok (.aload_n 0, 1) := by decide +kernel
theorem dX7_read_1 : decode cX7_read 1 = .ok (.getfield 25, 3) := by decide +kernel
theorem dX7_read_4 : decode cX7_read 4 = .ok (.ifCond .lt 15, 3) := by decide +kernel
theorem dX7_read_7 : decode cX7_read 7 = .ok (.aload_n 0, 1) := by decide +kernel
theorem dX7_read_8 : decode cX7_read 8 = .ok (.getfield 25, 3) := by decide +kernel
theorem dX7_read_11 : decode cX7_read 11 = .ok (.aload_n 0, 1) := by decide +kernel
theorem dX7_read_12 : decode cX7_read 12 = .ok (.getfield 21, 3) := by decide +kernel
theorem dX7_read_15 : decode cX7_read 15 = .ok (.arraylength, 1) := by decide +kernel
theorem dX7_read_16 : decode cX7_read 16 = .ok (.if_icmp .lt 6, 3) := by decide +kernel
theorem dX7_read_19 : decode cX7_read 19 = .ok (.bipush (-3), 2) := by decide +kernel
theorem dX7_read_21 : decode cX7_read 21 = .ok (.ireturn, 1) := by decide +kernel
theorem dX7_read_22 : decode cX7_read 22 = .ok (.aload_n 0, 1) := by decide +kernel
theorem dX7_read_23 : decode cX7_read 23 = .ok (.getfield 21, 3) := by decide +kernel
theorem dX7_read_26 : decode cX7_read 26 = .ok (.aload_n 0, 1) := by decide +kernel
theorem dX7_read_27 : decode cX7_read 27 = .ok (.getfield 25, 3) := by decide +kernel
theorem dX7_read_30 : decode cX7_read 30 = .ok (.aaload, 1) := by decide +kernel
theorem dX7_read_31 : decode cX7_read 31 = .ok (.astore_n 1, 1) := by decide +kernel
theorem dX7_read_32 : decode cX7_read 32 = .ok (.aload_n 1, 1) := by decide +kernel
theorem dX7_read_33 : decode cX7_read 33 = .ok (.aload_n 0, 1) := by decide +kernel
theorem dX7_read_34 : decode cX7_read 34 = .ok (.getfield 12, 3) := by decide +kernel
theorem dX7_read_37 : decode cX7_read 37 = .ok (.invokevirtual 58, 3) := by decide +kernel
theorem dX7_read_40 : decode cX7_read 40 = .ok (.aload_n 0, 1) := by decide +kernel
theorem dX7_read_41 : decode cX7_read 41 = .ok (.getfield 12, 3) := by decide +kernel
theorem dX7_read_44 : decode cX7_read 44 = .ok (.invokevirtual 62, 3) := by decide +kernel
theorem dX7_read_47 : decode cX7_read 47 = .ok (.new 65, 3) := by decide +kernel
theorem dX7_read_50 : decode cX7_read 50 = .ok (.dup, 1) := by decide +kernel
theorem dX7_read_51 : decode cX7_read 51 = .ok (.aload_n 1, 1) := by decide +kernel
theorem dX7_read_52 : decode cX7_read 52 = .ok (.invokespecial 67, 3) := by decide +kernel
theorem dX7_read_55 : decode cX7_read 55 = .ok (.astore_n 2, 1) := by decide +kernel
theorem dX7_read_56 : decode cX7_read 56 = .ok (.aload_n 2, 1) := by decide +kernel
theorem dX7_read_57 : decode cX7_read 57 = .ok (.invokevirtual 70, 3) := by decide +kernel
theorem dX7_read_60 : decode cX7_read 60 = .ok (.aload_n 2, 1) := by decide +kernel
theorem dX7_read_61 : decode cX7_read 61 = .ok (.invokevirtual 73, 3) := by decide +kernel
theorem dX7_read_64 : decode cX7_read 64 = .ok (.aload_n 2, 1) := by decide +kernel
theorem dX7_read_65 : decode cX7_read 65 = .ok (.iconst 0, 1) := by decide +kernel
theorem dX7_read_66 : decode cX7_read 66 = .ok (.invokevirtual 76, 3) := by decide +kernel
theorem dX7_read_69 : decode cX7_read 69 = .ok (.aload_n 2, 1) := by decide +kernel
theorem dX7_read_70 : decode cX7_read 70 = .ok (.iconst 1, 1) := by decide +kernel
theorem dX7_read_71 : decode cX7_read 71 = .ok (.invokevirtual 76, 3) := by decide +kernel
theorem dX7_read_74 : decode cX7_read 74 = .ok (.aload_n 0, 1) := by decide +kernel
theorem dX7_read_75 : decode cX7_read 75 = .ok (.aload_n 2, 1) := by decide +kernel
theorem dX7_read_76 : decode cX7_read 76 = .ok (.getfield 79, 3) := by decide +kernel
theorem dX7_read_79 : decode cX7_read 79 = .ok (.putfield 29, 3) := by decide +kernel
theorem dX7_read_82 : decode cX7_read 82 = .ok (.aload_n 2, 1) := by decide +kernel
theorem dX7_read_83 : decode cX7_read 83 = .ok (.getfield 82, 3) := by decide +kernel
theorem dX7_read_86 : decode cX7_read 86 = .ok (.ifCond .eq 11, 3) := by decide +kernel
theorem dX7_read_89 : decode cX7_read 89 = .ok (.bipush (-20), 2) := by decide +kernel
theorem dX7_read_91 : decode cX7_read 91 = .ok (.aload_n 2, 1) := by decide +kernel
theorem dX7_read_92 : decode cX7_read 92 = .ok (.getfield 82, 3) := by decide +kernel
theorem dX7_read_95 : decode cX7_read 95 = .ok (.isub, 1) := by decide +kernel
theorem dX7_read_96 : decode cX7_read 96 = .ok (.ireturn, 1) := by decide +kernel
theorem dX7_read_97 : decode cX7_read 97 = .ok (.aload_n 0, 1) := by decide +kernel
theorem dX7_read_98 : decode cX7_read 98 = .ok (.dup, 1) := by decide +kernel
theorem dX7_read_99 : decode cX7_read 99 = .ok (.getfield 25, 3) := by decide +kernel
theorem dX7_read_102 : decode cX7_read 102 = .ok (.iconst 1, 1) := by decide +kernel
theorem dX7_read_103 : decode cX7_read 103 = .ok (.iadd, 1) := by decide +kernel
theorem dX7_read_104 : decode cX7_read 104 = .ok (.putfield 25, 3) := by decide +kernel
theorem dX7_read_107 : decode cX7_read 107 = .ok (.aload_n 0, 1) := by decide +kernel
theorem dX7_read_108 : decode cX7_read 108 = .ok (.getfield 25, 3) := by decide +kernel
theorem dX7_read_111 : decode cX7_read 111 = .ok (.iconst 1, 1) := by decide +kernel
theorem dX7_read_112 : decode cX7_read 112 = .ok (.isub, 1) := by decide +kernel
theorem dX7_read_113 : decode cX7_read 113 = .ok (.ireturn, 1) := by decide +kernel
set_option maxRecDepth 20000 in
theorem s_CP_read (E : XE) : Cs E (yX7_read, cX7_read, 3, some .int) (k_CP_read) := (Cs_nd (Cs_nd (Cs_nd (Cs_nd (Cs_nd (Cs_lf (sg_aload_n dX7_read_0 rfl)) (Cs_nd (Cs_lf (sg_getf dX7_read_1 rfl inX7 (by decide) w_164)) (Cs_lf (sg_iflt dX7_read_4 (by decide))))) (Cs_nd (Cs_nd (Cs_lf (sg_aload_n dX7_read_7 rfl)) (Cs_lf (sg_getf dX7_read_8 rfl inX7 (by decide) w_164))) (Cs_nd (Cs_lf (sg_aload_n dX7_read_11 rfl)) (Cs_lf (sg_getf dX7_read_12 rfl inX7 (by decide) w_163))))) (Cs_nd (Cs_nd (Cs_nd (Cs_lf (sg_alen dX7_read_15)) (Cs_lf (sg_clt dX7_read_16 (by decide)))) (Cs_nd (Cs_lf (sg_bipush dX7_read_19 (by decide))) (Cs_lf (sg_iret dX7_read_21 rfl)))) (Cs_nd (Cs_nd (Cs_lf (sg_aload_n dX7_read_22 rfl)) (Cs_lf (sg_getf dX7_read_23 rfl inX7 (by decide) w_163))) (Cs_nd (Cs_lf (sg_aload_n dX7_read_26 rfl)) (Cs_lf (sg_getf dX7_read_27 rfl inX7 (by decide) w_164)))))) (Cs_nd (Cs_nd (Cs_nd (Cs_nd (Cs_lf (sg_aald dX7_read_30)) (Cs_lf (sg_astore_n dX7_read_31 rfl (by decide)))) (Cs_nd (Cs_lf (sg_aload_n dX7_read_32 rfl)) (Cs_lf (sg_aload_n dX7_read_33 rfl)))) (Cs_nd (Cs_nd (Cs_lf (sg_getf dX7_read_34 rfl inX7 (by decide) w_161)) (Cs_lf (sg_invV (mid := 1) (ci := 0) (by decide +kernel) dX7_read_37 ok_1 rfl w_202 w_203 w_204))) (Cs_nd (Cs_lf (sg_aload_n dX7_read_40 rfl)) (Cs_lf (sg_getf dX7_read_41 rfl inX7 (by decide) w_161))))) (Cs_nd (Cs_nd (Cs_nd (Cs_lf (sg_invV (mid := 66) (ci := 4) (by decide +kernel) dX7_read_44 ok_66 rfl w_234 w_212 w_213)) (Cs_lf (sg_new dX7_read_47 rfl inX3 tyX3_ok (by decide) w_235 w_236 w_10))) (Cs_nd (Cs_lf (sg_dup dX7_read_50)) (Cs_lf (sg_aload_n dX7_read_51 rfl)))) (Cs_nd (Cs_nd (Cs_lf (sg_invI (mid := 45) (by decide +kernel) dX7_read_52 ok_45 rfl rfl w_237 w_238)) (Cs_lf (sg_astore_n dX7_read_55 rfl (by decide)))) (Cs_nd (Cs_lf (sg_aload_n dX7_read_56 rfl)) (Cs_lf (sg_invV (mid := 47) (ci := 3) (by decide +kernel) dX7_read_57 ok_47 rfl w_259 w_260 w_261))))))) (Cs_nd (Cs_nd (Cs_nd (Cs_nd (Cs_lf (sg_aload_n dX7_read_60 rfl)) (Cs_nd (Cs_lf (sg_invV (mid := 58) (ci := 3) (by decide +kernel) dX7_read_61 ok_58 rfl w_353 w_354 w_355)) (Cs_lf (sg_aload_n dX7_read_64 rfl)))) (Cs_nd (Cs_nd (Cs_lf (sg_iconst dX7_read_65 (by decide))) (Cs_lf (sg_invV (mid := 59) (ci := 3) (by decide +kernel) dX7_read_66 ok_59 rfl w_382 w_383 w_384))) (Cs_nd (Cs_lf (sg_aload_n dX7_read_69 rfl)) (Cs_lf (sg_iconst dX7_read_70 (by decide)))))) (Cs_nd (Cs_nd (Cs_nd (Cs_lf (sg_invV (mid := 59) (ci := 3) (by decide +kernel) dX7_read_71 ok_59 rfl w_382 w_383 w_384)) (Cs_lf (sg_aload_n dX7_read_74 rfl))) (Cs_nd (Cs_lf (sg_aload_n dX7_read_75 rfl)) (Cs_lf (sg_getf dX7_read_76 rfl inX3 (by decide) w_244)))) (Cs_nd (Cs_nd (Cs_lf (sg_putf dX7_read_79 rfl inX7 tyX7_ok nmX7 (by decide) w_165 rfl (tyX7_ok 4 (by decide)) ok_int)) (Cs_lf (sg_aload_n dX7_read_82 rfl))) (Cs_nd (Cs_lf (sg_getf dX7_read_83 rfl inX3 (by decide) w_242)) (Cs_lf (sg_ifeq dX7_read_86 (by decide))))))) (Cs_nd (Cs_nd (Cs_nd (Cs_nd (Cs_lf (sg_bipush dX7_read_89 (by decide))) (Cs_lf (sg_aload_n dX7_read_91 rfl))) (Cs_nd (Cs_lf (sg_getf dX7_read_92 rfl inX3 (by decide) w_242)) (Cs_lf (sg_isub dX7_read_95)))) (Cs_nd (Cs_nd (Cs_lf (sg_iret dX7_read_96 rfl)) (Cs_lf (sg_aload_n dX7_read_97 rfl))) (Cs_nd (Cs_lf (sg_dup dX7_read_98)) (Cs_lf (sg_getf dX7_read_99 rfl inX7 (by decide) w_164))))) (Cs_nd (Cs_nd (Cs_nd (Cs_lf (sg_iconst dX7_read_102 (by decide))) (Cs_lf (sg_iadd dX7_read_103))) (Cs_nd (Cs_lf (sg_putf dX7_read_104 rfl inX7 tyX7_ok nmX7 (by decide) w_164 rfl (tyX7_ok 3 (by decide)) ok_int)) (Cs_lf (sg_aload_n dX7_read_107 rfl)))) (Cs_nd (Cs_nd (Cs_lf (sg_getf dX7_read_108 rfl inX7 (by decide) w_164)) (Cs_lf (sg_iconst dX7_read_111 (by decide)))) (Cs_nd (Cs_lf (sg_isub dX7_read_112)) (Cs_lf (sg_iret dX7_read_113 rfl))))))))
theorem dX7_place_0 : decode cX7_place 0 = .ok (.aload_n 0, 1) := by decide +kernel
theorem dX7_place_1 : decode cX7_place 1 = .ok (.getfield 29, 3) := by decide +kernel
theorem dX7_place_4 : decode cX7_place 4 = .ok (.ireturn, 1) := by decide +kernel
set_option maxRecDepth 20000 in
theorem s_CP_place (E : XE) : Cs E (yX7_place, cX7_place, 1, some .int) (k_CP_place) := (Cs_nd (Cs_lf (sg_aload_n dX7_place_0 rfl)) (Cs_nd (Cs_lf (sg_getf dX7_place_1 rfl inX7 (by decide) w_165)) (Cs_lf (sg_iret dX7_place_4 rfl))))
theorem dX7_drop_0 : decode cX7_drop 0 = .ok (.aload_n 0, 1) := by decide +kernel
theorem dX7_drop_1 : decode cX7_drop 1 = .ok (.iload_n 1, 1) := by decide +kernel
theorem dX7_drop_2 : decode cX7_drop 2 = .ok (.invokevirtual 85, 3) := by decide +kernel
theorem dX7_drop_5 : decode cX7_drop 5 = .ok (.astore_n 2, 1) := by decide +kernel
theorem dX7_drop_6 : decode cX7_drop 6 = .ok (.aload_n 2, 1) := by decide +kernel
theorem dX7_drop_7 : decode cX7_drop 7 = .ok (.ifnonnull 5, 3) := by decide +kernel
theorem dX7_drop_10 : decode cX7_drop 10 = .ok (.iconst (-1), 1) := by decide +kernel
theorem dX7_drop_11 : decode cX7_drop 11 = .ok (.ireturn, 1) := by decide +kernel
theorem dX7_drop_12 : decode cX7_drop 12 = .ok (.iload_n 1, 1) := by decide +kernel
theorem dX7_drop_13 : decode cX7_drop 13 = .ok (.istore_n 3, 1) := by decide +kernel
theorem dX7_drop_14 : decode cX7_drop 14 = .ok (.iload_n 3, 1) := by decide +kernel
theorem dX7_drop_15 : decode cX7_drop 15 = .ok (.ifCond .lt 34, 3) := by decide +kernel
theorem dX7_drop_18 : decode cX7_drop 18 = .ok (.iload_n 3, 1) := by decide +kernel
theorem dX7_drop_19 : decode cX7_drop 19 = .ok (.iconst 1, 1) := by decide +kernel
theorem dX7_drop_20 : decode cX7_drop 20 = .ok (.iadd, 1) := by decide +kernel
theorem dX7_drop_21 : decode cX7_drop 21 = .ok (.aload_n 0, 1) := by decide +kernel
theorem dX7_drop_22 : decode cX7_drop 22 = .ok (.getfield 21, 3) := by decide +kernel
theorem dX7_drop_25 : decode cX7_drop 25 = .ok (.arraylength, 1) := by decide +kernel
theorem dX7_drop_26 : decode cX7_drop 26 = .ok (.if_icmp .ge 23, 3) := by decide +kernel
theorem dX7_drop_29 : decode cX7_drop 29 = .ok (.aload_n 0, 1) := by decide +kernel
theorem dX7_drop_30 : decode cX7_drop 30 = .ok (.getfield 21, 3) := by decide +kernel
theorem dX7_drop_33 : decode cX7_drop 33 = .ok (.iload_n 3, 1) := by decide +kernel
theorem dX7_drop_34 : decode cX7_drop 34 = .ok (.aload_n 0, 1) := by decide +kernel
theorem dX7_drop_35 : decode cX7_drop 35 = .ok (.getfield 21, 3) := by decide +kernel
theorem dX7_drop_38 : decode cX7_drop 38 = .ok (.iload_n 3, 1) := by decide +kernel
theorem dX7_drop_39 : decode cX7_drop 39 = .ok (.iconst 1, 1) := by decide +kernel
theorem dX7_drop_40 : decode cX7_drop 40 = .ok (.iadd, 1) := by decide +kernel
theorem dX7_drop_41 : decode cX7_drop 41 = .ok (.aaload, 1) := by decide +kernel
theorem dX7_drop_42 : decode cX7_drop 42 = .ok (.aastore, 1) := by decide +kernel
theorem dX7_drop_43 : decode cX7_drop 43 = .ok (.iinc 3 1, 3) := by decide +kernel
theorem dX7_drop_46 : decode cX7_drop 46 = .ok (.goto (-32), 3) := by decide +kernel
theorem dX7_drop_49 : decode cX7_drop 49 = .ok (.aload_n 0, 1) := by decide +kernel
theorem dX7_drop_50 : decode cX7_drop 50 = .ok (.getfield 21, 3) := by decide +kernel
theorem dX7_drop_53 : decode cX7_drop 53 = .ok (.aload_n 0, 1) := by decide +kernel
theorem dX7_drop_54 : decode cX7_drop 54 = .ok (.getfield 21, 3) := by decide +kernel
theorem dX7_drop_57 : decode cX7_drop 57 = .ok (.arraylength, 1) := by decide +kernel
theorem dX7_drop_58 : decode cX7_drop 58 = .ok (.iconst 1, 1) := by decide +kernel
theorem dX7_drop_59 : decode cX7_drop 59 = .ok (.isub, 1) := by decide +kernel
theorem dX7_drop_60 : decode cX7_drop 60 = .ok (.aload_n 2, 1) := by decide +kernel
theorem dX7_drop_61 : decode cX7_drop 61 = .ok (.aastore, 1) := by decide +kernel
theorem dX7_drop_62 : decode cX7_drop 62 = .ok (.aload_n 0, 1) := by decide +kernel
theorem dX7_drop_63 : decode cX7_drop 63 = .ok (.dup, 1) := by decide +kernel
theorem dX7_drop_64 : decode cX7_drop 64 = .ok (.getfield 25, 3) := by decide +kernel
theorem dX7_drop_67 : decode cX7_drop 67 = .ok (.iconst 1, 1) := by decide +kernel
theorem dX7_drop_68 : decode cX7_drop 68 = .ok (.isub, 1) := by decide +kernel
theorem dX7_drop_69 : decode cX7_drop 69 = .ok (.putfield 25, 3) := by decide +kernel
theorem dX7_drop_72 : decode cX7_drop 72 = .ok (.aload_n 0, 1) := by decide +kernel
theorem dX7_drop_73 : decode cX7_drop 73 = .ok (.getfield 25, 3) := by decide +kernel
theorem dX7_drop_76 : decode cX7_drop 76 = .ok (.ireturn, 1) := by decide +kernel
set_option maxRecDepth 20000 in
theorem s_CP_drop (E : XE) : Cs E (yX7_drop, cX7_drop, 4, some .int) (k_CP_drop) := (Cs_nd (Cs_nd (Cs_nd (Cs_nd (Cs_nd (Cs_lf (sg_aload_n dX7_drop_0 rfl)) (Cs_nd (Cs_lf (sg_iload_n dX7_drop_1 rfl)) (Cs_lf (sg_invV (mid := 105) (ci := 6) (by decide +kernel) dX7_drop_2 ok_105 rfl w_429 w_431 ws_12)))) (Cs_nd (Cs_lf (sg_astore_n dX7_drop_5 rfl (by decide))) (Cs_nd (Cs_lf (sg_aload_n dX7_drop_6 rfl)) (Cs_lf (sg_ifnonnull dX7_drop_7 (by decide)))))) (Cs_nd (Cs_nd (Cs_lf (sg_iconst dX7_drop_10 (by decide))) (Cs_nd (Cs_lf (sg_iret dX7_drop_11 rfl)) (Cs_lf (sg_iload_n dX7_drop_12 rfl)))) (Cs_nd (Cs_lf (sg_istore_n dX7_drop_13 rfl (by decide))) (Cs_nd (Cs_lf (sg_iload_n dX7_drop_14 rfl)) (Cs_lf (sg_iflt dX7_drop_15 (by decide))))))) (Cs_nd (Cs_nd (Cs_nd (Cs_lf (sg_iload_n dX7_drop_18 rfl)) (Cs_nd (Cs_lf (sg_iconst dX7_drop_19 (by decide))) (Cs_lf (sg_iadd dX7_drop_20)))) (Cs_nd (Cs_lf (sg_aload_n dX7_drop_21 rfl)) (Cs_nd (Cs_lf (sg_getf dX7_drop_22 rfl inX7 (by decide) w_163)) (Cs_lf (sg_alen dX7_drop_25))))) (Cs_nd (Cs_nd (Cs_lf (sg_cge dX7_drop_26 (by decide))) (Cs_nd (Cs_lf (sg_aload_n dX7_drop_29 rfl)) (Cs_lf (sg_getf dX7_drop_30 rfl inX7 (by decide) w_163)))) (Cs_nd (Cs_lf (sg_iload_n dX7_drop_33 rfl)) (Cs_nd (Cs_lf (sg_aload_n dX7_drop_34 rfl)) (Cs_lf (sg_getf dX7_drop_35 rfl inX7 (by decide) w_163))))))) (Cs_nd (Cs_nd (Cs_nd (Cs_nd (Cs_lf (sg_iload_n dX7_drop_38 rfl)) (Cs_nd (Cs_lf (sg_iconst dX7_drop_39 (by decide))) (Cs_lf (sg_iadd dX7_drop_40)))) (Cs_nd (Cs_lf (sg_aald dX7_drop_41)) (Cs_nd (Cs_lf (sg_aast (kd := 5) (ci := 0) (fun _ => rfl) rfl dX7_drop_42)) (Cs_lf (sg_iinc dX7_drop_43 (by decide) (by decide)))))) (Cs_nd (Cs_nd (Cs_lf (sg_goto dX7_drop_46 (by decide))) (Cs_nd (Cs_lf (sg_aload_n dX7_drop_49 rfl)) (Cs_lf (sg_getf dX7_drop_50 rfl inX7 (by decide) w_163)))) (Cs_nd (Cs_lf (sg_aload_n dX7_drop_53 rfl)) (Cs_nd (Cs_lf (sg_getf dX7_drop_54 rfl inX7 (by decide) w_163)) (Cs_lf (sg_alen dX7_drop_57)))))) (Cs_nd (Cs_nd (Cs_nd (Cs_lf (sg_iconst dX7_drop_58 (by decide))) (Cs_nd (Cs_lf (sg_isub dX7_drop_59)) (Cs_lf (sg_aload_n dX7_drop_60 rfl)))) (Cs_nd (Cs_lf (sg_aast (kd := 5) (ci := 0) (fun _ => rfl) rfl dX7_drop_61)) (Cs_nd (Cs_lf (sg_aload_n dX7_drop_62 rfl)) (Cs_lf (sg_dup dX7_drop_63))))) (Cs_nd (Cs_nd (Cs_lf (sg_getf dX7_drop_64 rfl inX7 (by decide) w_164)) (Cs_nd (Cs_lf (sg_iconst dX7_drop_67 (by decide))) (Cs_lf (sg_isub dX7_drop_68)))) (Cs_nd (Cs_nd (Cs_lf (sg_putf dX7_drop_69 rfl inX7 tyX7_ok nmX7 (by decide) w_164 rfl (tyX7_ok 3 (by decide)) ok_int)) (Cs_lf (sg_aload_n dX7_drop_72 rfl))) (Cs_nd (Cs_lf (sg_getf dX7_drop_73 rfl inX7 (by decide) w_164)) (Cs_lf (sg_iret dX7_drop_76 rfl))))))))
theorem dX7_file_0 : decode cX7_file 0 = .ok (.aload_n 0, 1) := by decide +kernel
theorem dX7_file_1 : decode cX7_file 1 = .ok (.iload_n 1, 1) := by decide +kernel
theorem dX7_file_2 : decode cX7_file 2 = .ok (.invokevirtual 85, 3) := by decide +kernel
theorem dX7_file_5 : decode cX7_file 5 = .ok (.astore_n 3, 1) := by decide +kernel
theorem dX7_file_6 : decode cX7_file 6 = .ok (.aload_n 3, 1) := by decide +kernel
theorem dX7_file_7 : decode cX7_file 7 = .ok (.ifnonnull 5, 3) := by decide +kernel
theorem dX7_file_10 : decode cX7_file 10 = .ok (.iconst (-1), 1) := by decide +kernel
theorem dX7_file_11 : decode cX7_file 11 = .ok (.ireturn, 1) := by decide +kernel
theorem dX7_file_12 : decode cX7_file 12 = .ok (.iload_n 2, 1) := by decide +kernel
theorem dX7_file_13 : decode cX7_file 13 = .ok (.tableswitch 126 0 7 #[47, 55, 77, 85, 97, 102, 108, 114], 47) := by decide +kernel
theorem dX7_file_60 : decode cX7_file 60 = .ok (.aload_n 3, 1) := by decide +kernel
theorem dX7_file_61 : decode cX7_file 61 = .ok (.getfield 89, 3) := by decide +kernel
theorem dX7_file_64 : decode cX7_file 64 = .ok (.invokevirtual 50, 3) := by decide +kernel
theorem dX7_file_67 : decode cX7_file 67 = .ok (.ireturn, 1) := by decide +kernel
theorem dX7_file_68 : decode cX7_file 68 = .ok (.aload_n 3, 1) := by decide +kernel
theorem dX7_file_69 : decode cX7_file 69 = .ok (.getfield 89, 3) := by decide +kernel
theorem dX7_file_72 : decode cX7_file 72 = .ok (.bipush 6, 2) := by decide +kernel
theorem dX7_file_74 : decode cX7_file 74 = .ok (.invokevirtual 92, 3) := by decide +kernel
theorem dX7_file_77 : decode cX7_file 77 = .ok (.bipush 16, 2) := by decide +kernel
theorem dX7_file_79 : decode cX7_file 79 = .ok (.ishl, 1) := by decide +kernel
theorem dX7_file_80 : decode cX7_file 80 = .ok (.aload_n 3, 1) := by decide +kernel
theorem dX7_file_81 : decode cX7_file 81 = .ok (.getfield 89, 3) := by decide +kernel
theorem dX7_file_84 : decode cX7_file 84 = .ok (.iconst 4, 1) := by decide +kernel
theorem dX7_file_85 : decode cX7_file 85 = .ok (.invokevirtual 92, 3) := by decide +kernel
theorem dX7_file_88 : decode cX7_file 88 = .ok (.iadd, 1) := by decide +kernel
theorem dX7_file_89 : decode cX7_file 89 = .ok (.ireturn, 1) := by decide +kernel
theorem dX7_file_90 : decode cX7_file 90 = .ok (.aload_n 3, 1) := by decide +kernel
theorem dX7_file_91 : decode cX7_file 91 = .ok (.getfield 96, 3) := by decide +kernel
theorem dX7_file_94 : decode cX7_file 94 = .ok (.invokevirtual 100, 3) := by decide +kernel
theorem dX7_file_97 : decode cX7_file 97 = .ok (.ireturn, 1) := by decide +kernel
theorem dX7_file_98 : decode cX7_file 98 = .ok (.aload_n 3, 1) := by decide +kernel
theorem dX7_file_99 : decode cX7_file 99 = .ok (.getfield 89, 3) := by decide +kernel
theorem dX7_file_102 : decode cX7_file 102 = .ok (.aload_n 3, 1) := by decide +kernel
theorem dX7_file_103 : decode cX7_file 103 = .ok (.getfield 105, 3) := by decide +kernel
theorem dX7_file_106 : decode cX7_file 106 = .ok (.invokevirtual 92, 3) := by decide +kernel
theorem dX7_file_109 : decode cX7_file 109 = .ok (.ireturn, 1) := by decide +kernel
theorem dX7_file_110 : decode cX7_file 110 = .ok (.aload_n 3, 1) := by decide +kernel
theorem dX7_file_111 : decode cX7_file 111 = .ok (.invokevirtual 108, 3) := by decide +kernel
theorem dX7_file_114 : decode cX7_file 114 = .ok (.ireturn, 1) := by decide +kernel
theorem dX7_file_115 : decode cX7_file 115 = .ok (.aload_n 3, 1) := by decide +kernel
theorem dX7_file_116 : decode cX7_file 116 = .ok (.iconst 0, 1) := by decide +kernel
theorem dX7_file_117 : decode cX7_file 117 = .ok (.invokevirtual 111, 3) := by decide +kernel
theorem dX7_file_120 : decode cX7_file 120 = .ok (.ireturn, 1) := by decide +kernel
theorem dX7_file_121 : decode cX7_file 121 = .ok (.aload_n 3, 1) := by decide +kernel
theorem dX7_file_122 : decode cX7_file 122 = .ok (.iconst 1, 1) := by decide +kernel
theorem dX7_file_123 : decode cX7_file 123 = .ok (.invokevirtual 111, 3) := by decide +kernel
theorem dX7_file_126 : decode cX7_file 126 = .ok (.ireturn, 1) := by decide +kernel
theorem dX7_file_127 : decode cX7_file 127 = .ok (.aload_n 3, 1) := by decide +kernel
theorem dX7_file_128 : decode cX7_file 128 = .ok (.getfield 89, 3) := by decide +kernel
theorem dX7_file_131 : decode cX7_file 131 = .ok (.aload_n 3, 1) := by decide +kernel
theorem dX7_file_132 : decode cX7_file 132 = .ok (.getfield 114, 3) := by decide +kernel
theorem dX7_file_135 : decode cX7_file 135 = .ok (.invokevirtual 92, 3) := by decide +kernel
theorem dX7_file_138 : decode cX7_file 138 = .ok (.ireturn, 1) := by decide +kernel
theorem dX7_file_139 : decode cX7_file 139 = .ok (.bipush (-2), 2) := by decide +kernel
theorem dX7_file_141 : decode cX7_file 141 = .ok (.ireturn, 1) := by decide +kernel
set_option maxRecDepth 20000 in
theorem s_CP_file (E : XE) : Cs E (yX7_file, cX7_file, 4, some .int) (k_CP_file) := (Cs_nd (Cs_nd (Cs_nd (Cs_nd (Cs_nd (Cs_lf (sg_aload_n dX7_file_0 rfl)) (Cs_nd (Cs_lf (sg_iload_n dX7_file_1 rfl)) (Cs_lf (sg_invV (mid := 105) (ci := 6) (by decide +kernel) dX7_file_2 ok_105 rfl w_429 w_431 ws_12)))) (Cs_nd (Cs_lf (sg_astore_n dX7_file_5 rfl (by decide))) (Cs_nd (Cs_lf (sg_aload_n dX7_file_6 rfl)) (Cs_lf (sg_ifnonnull dX7_file_7 (by decide)))))) (Cs_nd (Cs_nd (Cs_lf (sg_iconst dX7_file_10 (by decide))) (Cs_nd (Cs_lf (sg_iret dX7_file_11 rfl)) (Cs_lf (sg_iload_n dX7_file_12 rfl)))) (Cs_nd (Cs_nd (Cs_lf (sg_table dX7_file_13 rfl (by decide) (by decide +kernel) (by decide))) (Cs_lf (sg_aload_n dX7_file_60 rfl))) (Cs_nd (Cs_lf (sg_getf dX7_file_61 rfl inX0 (by decide) w_129)) (Cs_lf (sg_invV (mid := 61) (ci := 4) (by decide +kernel) dX7_file_64 ok_61 rfl w_190 w_191 w_192)))))) (Cs_nd (Cs_nd (Cs_nd (Cs_lf (sg_iret dX7_file_67 rfl)) (Cs_nd (Cs_lf (sg_aload_n dX7_file_68 rfl)) (Cs_lf (sg_getf dX7_file_69 rfl inX0 (by decide) w_129)))) (Cs_nd (Cs_nd (Cs_lf (sg_bipush dX7_file_72 (by decide))) (Cs_lf (sg_invV (mid := 64) (ci := 4) (by decide +kernel) dX7_file_74 ok_64 rfl w_437 w_291 w_292))) (Cs_nd (Cs_lf (sg_bipush dX7_file_77 (by decide))) (Cs_lf (sg_ishl dX7_file_79))))) (Cs_nd (Cs_nd (Cs_lf (sg_aload_n dX7_file_80 rfl)) (Cs_nd (Cs_lf (sg_getf dX7_file_81 rfl inX0 (by decide) w_129)) (Cs_lf (sg_iconst dX7_file_84 (by decide))))) (Cs_nd (Cs_nd (Cs_lf (sg_invV (mid := 64) (ci := 4) (by decide +kernel) dX7_file_85 ok_64 rfl w_437 w_291 w_292)) (Cs_lf (sg_iadd dX7_file_88))) (Cs_nd (Cs_lf (sg_iret dX7_file_89 rfl)) (Cs_lf (sg_aload_n dX7_file_90 rfl))))))) (Cs_nd (Cs_nd (Cs_nd (Cs_nd (Cs_lf (sg_getf dX7_file_91 rfl inX0 (by decide) w_124)) (Cs_nd (Cs_lf (sg_invV (mid := 16) (ci := 1) (by decide +kernel) dX7_file_94 ok_16 rfl w_438 w_439 w_440)) (Cs_lf (sg_iret dX7_file_97 rfl)))) (Cs_nd (Cs_nd (Cs_lf (sg_aload_n dX7_file_98 rfl)) (Cs_lf (sg_getf dX7_file_99 rfl inX0 (by decide) w_129))) (Cs_nd (Cs_lf (sg_aload_n dX7_file_102 rfl)) (Cs_lf (sg_getf dX7_file_103 rfl inX0 (by decide) w_133))))) (Cs_nd (Cs_nd (Cs_lf (sg_invV (mid := 64) (ci := 4) (by decide +kernel) dX7_file_106 ok_64 rfl w_437 w_291 w_292)) (Cs_nd (Cs_lf (sg_iret dX7_file_109 rfl)) (Cs_lf (sg_aload_n dX7_file_110 rfl)))) (Cs_nd (Cs_nd (Cs_lf (sg_invV (mid := 10) (ci := 0) (by decide +kernel) dX7_file_111 ok_10 rfl w_442 w_443 w_444)) (Cs_lf (sg_iret dX7_file_114 rfl))) (Cs_nd (Cs_lf (sg_aload_n dX7_file_115 rfl)) (Cs_lf (sg_iconst dX7_file_116 (by decide))))))) (Cs_nd (Cs_nd (Cs_nd (Cs_lf (sg_invV (mid := 8) (ci := 0) (by decide +kernel) dX7_file_117 ok_8 rfl w_447 w_341 w_342)) (Cs_nd (Cs_lf (sg_iret dX7_file_120 rfl)) (Cs_lf (sg_aload_n dX7_file_121 rfl)))) (Cs_nd (Cs_nd (Cs_lf (sg_iconst dX7_file_122 (by decide))) (Cs_lf (sg_invV (mid := 8) (ci := 0) (by decide +kernel) dX7_file_123 ok_8 rfl w_447 w_341 w_342))) (Cs_nd (Cs_lf (sg_iret dX7_file_126 rfl)) (Cs_lf (sg_aload_n dX7_file_127 rfl))))) (Cs_nd (Cs_nd (Cs_lf (sg_getf dX7_file_128 rfl inX0 (by decide) w_129)) (Cs_nd (Cs_lf (sg_aload_n dX7_file_131 rfl)) (Cs_lf (sg_getf dX7_file_132 rfl inX0 (by decide) w_136)))) (Cs_nd (Cs_nd (Cs_lf (sg_invV (mid := 64) (ci := 4) (by decide +kernel) dX7_file_135 ok_64 rfl w_437 w_291 w_292)) (Cs_lf (sg_iret dX7_file_138 rfl))) (Cs_nd (Cs_lf (sg_bipush dX7_file_139 (by decide))) (Cs_lf (sg_iret dX7_file_141 rfl))))))))
theorem dX7_entry_0 : decode cX7_entry 0 = .ok (.aload_n 0, 1) := by decide +kernel
theorem dX7_entry_1 : decode cX7_entry 1 = .ok (.iload_n 1, 1) := by decide +kernel
theorem dX7_entry_2 : decode cX7_entry 2 = .ok (.invokevirtual 85, 3) := by decide +kernel
theorem dX7_entry_5 : decode cX7_entry 5 = .ok (.astore 4, 2) := by decide +kernel
theorem dX7_entry_7 : decode cX7_entry 7 = .ok (.aload 4, 2) := by decide +kernel
theorem dX7_entry_9 : decode cX7_entry 9 = .ok (.ifnull 15, 3) := by decide +kernel
theorem dX7_entry_12 : decode cX7_entry 12 = .ok (.aload 4, 2) := by decide +kernel
theorem dX7_entry_14 : decode cX7_entry 14 = .ok (.getfield 96, 3) := by decide +kernel
theorem dX7_entry_17 : decode cX7_entry 17 = .ok (.iload_n 2, 1) := by decide +kernel
theorem dX7_entry_18 : decode cX7_entry 18 = .ok (.invokevirtual 117, 3) := by decide +kernel
theorem dX7_entry_21 : decode cX7_entry 21 = .ok (.ifCond .ne 5, 3) := by decide +kernel
theorem dX7_entry_24 : decode cX7_entry 24 = .ok (.iconst (-1), 1) := by decide +kernel
theorem dX7_entry_25 : decode cX7_entry 25 = .ok (.ireturn, 1) := by decide +kernel
theorem dX7_entry_26 : decode cX7_entry 26 = .ok (.iload_n 3, 1) := by decide +kernel
theorem dX7_entry_27 : decode cX7_entry 27 = .ok (.tableswitch 69 0 3 #[29, 39, 49, 59], 29) := by decide +kernel
theorem dX7_entry_56 : decode cX7_entry 56 = .ok (.aload 4, 2) := by decide +kernel
theorem dX7_entry_58 : decode cX7_entry 58 = .ok (.getfield 96, 3) := by decide +kernel
theorem dX7_entry_61 : decode cX7_entry 61 = .ok (.iload_n 2, 1) := by decide +kernel
theorem dX7_entry_62 : decode cX7_entry 62 = .ok (.invokevirtual 121, 3) := by decide +kernel
theorem dX7_entry_65 : decode cX7_entry 65 = .ok (.ireturn, 1) := by decide +kernel
theorem dX7_entry_66 : decode cX7_entry 66 = .ok (.aload 4, 2) := by decide +kernel
theorem dX7_entry_68 : decode cX7_entry 68 = .ok (.getfield 96, 3) := by decide +kernel
theorem dX7_entry_71 : decode cX7_entry 71 = .ok (.iload_n 2, 1) := by decide +kernel
theorem dX7_entry_72 : decode cX7_entry 72 = .ok (.invokevirtual 124, 3) := by decide +kernel
theorem dX7_entry_75 : decode cX7_entry 75 = .ok (.ireturn, 1) := by decide +kernel
theorem dX7_entry_76 : decode cX7_entry 76 = .ok (.aload 4, 2) := by decide +kernel
theorem dX7_entry_78 : decode cX7_entry 78 = .ok (.getfield 96, 3) := by decide +kernel
theorem dX7_entry_81 : decode cX7_entry 81 = .ok (.iload_n 2, 1) := by decide +kernel
theorem dX7_entry_82 : decode cX7_entry 82 = .ok (.invokevirtual 127, 3) := by decide +kernel
theorem dX7_entry_85 : decode cX7_entry 85 = .ok (.ireturn, 1) := by decide +kernel
theorem dX7_entry_86 : decode cX7_entry 86 = .ok (.aload 4, 2) := by decide +kernel
theorem dX7_entry_88 : decode cX7_entry 88 = .ok (.getfield 96, 3) := by decide +kernel
theorem dX7_entry_91 : decode cX7_entry 91 = .ok (.iload_n 2, 1) := by decide +kernel
theorem dX7_entry_92 : decode cX7_entry 92 = .ok (.invokevirtual 130, 3) := by decide +kernel
theorem dX7_entry_95 : decode cX7_entry 95 = .ok (.ireturn, 1) := by decide +kernel
theorem dX7_entry_96 : decode cX7_entry 96 = .ok (.bipush (-2), 2) := by decide +kernel
theorem dX7_entry_98 : decode cX7_entry 98 = .ok (.ireturn, 1) := by decide +kernel
set_option maxRecDepth 20000 in
theorem s_CP_entry (E : XE) : Cs E (yX7_entry, cX7_entry, 5, some .int) (k_CP_entry) := (Cs_nd (Cs_nd (Cs_nd (Cs_nd (Cs_nd (Cs_lf (sg_aload_n dX7_entry_0 rfl)) (Cs_lf (sg_iload_n dX7_entry_1 rfl))) (Cs_nd (Cs_lf (sg_invV (mid := 105) (ci := 6) (by decide +kernel) dX7_entry_2 ok_105 rfl w_429 w_431 ws_12)) (Cs_lf (sg_astore dX7_entry_5 (by decide))))) (Cs_nd (Cs_nd (Cs_lf (sg_aload dX7_entry_7)) (Cs_lf (sg_ifnull dX7_entry_9 (by decide)))) (Cs_nd (Cs_lf (sg_aload dX7_entry_12)) (Cs_nd (Cs_lf (sg_getf dX7_entry_14 rfl inX0 (by decide) w_124)) (Cs_lf (sg_iload_n dX7_entry_17 rfl)))))) (Cs_nd (Cs_nd (Cs_nd (Cs_lf (sg_invV (mid := 17) (ci := 1) (by decide +kernel) dX7_entry_18 ok_17 rfl w_452 w_300 w_301)) (Cs_lf (sg_ifne dX7_entry_21 (by decide)))) (Cs_nd (Cs_lf (sg_iconst dX7_entry_24 (by decide))) (Cs_lf (sg_iret dX7_entry_25 rfl)))) (Cs_nd (Cs_nd (Cs_lf (sg_iload_n dX7_entry_26 rfl)) (Cs_lf (sg_table dX7_entry_27 rfl (by decide) (by decide +kernel) (by decide)))) (Cs_nd (Cs_lf (sg_aload dX7_entry_56)) (Cs_nd (Cs_lf (sg_getf dX7_entry_58 rfl inX0 (by decide) w_124)) (Cs_lf (sg_iload_n dX7_entry_61 rfl))))))) (Cs_nd (Cs_nd (Cs_nd (Cs_nd (Cs_lf (sg_invV (mid := 22) (ci := 1) (by decide +kernel) dX7_entry_62 ok_22 rfl w_453 w_374 w_375)) (Cs_lf (sg_iret dX7_entry_65 rfl))) (Cs_nd (Cs_lf (sg_aload dX7_entry_66)) (Cs_lf (sg_getf dX7_entry_68 rfl inX0 (by decide) w_124)))) (Cs_nd (Cs_nd (Cs_lf (sg_iload_n dX7_entry_71 rfl)) (Cs_lf (sg_invV (mid := 24) (ci := 1) (by decide +kernel) dX7_entry_72 ok_24 rfl w_454 w_455 w_456))) (Cs_nd (Cs_lf (sg_iret dX7_entry_75 rfl)) (Cs_nd (Cs_lf (sg_aload dX7_entry_76)) (Cs_lf (sg_getf dX7_entry_78 rfl inX0 (by decide) w_124)))))) (Cs_nd (Cs_nd (Cs_nd (Cs_lf (sg_iload_n dX7_entry_81 rfl)) (Cs_lf (sg_invV (mid := 25) (ci := 1) (by decide +kernel) dX7_entry_82 ok_25 rfl w_458 w_459 w_460))) (Cs_nd (Cs_lf (sg_iret dX7_entry_85 rfl)) (Cs_nd (Cs_lf (sg_aload dX7_entry_86)) (Cs_lf (sg_getf dX7_entry_88 rfl inX0 (by decide) w_124))))) (Cs_nd (Cs_nd (Cs_lf (sg_iload_n dX7_entry_91 rfl)) (Cs_lf (sg_invV (mid := 27) (ci := 1) (by decide +kernel) dX7_entry_92 ok_27 rfl w_462 w_396 w_397))) (Cs_nd (Cs_lf (sg_iret dX7_entry_95 rfl)) (Cs_nd (Cs_lf (sg_bipush dX7_entry_96 (by decide))) (Cs_lf (sg_iret dX7_entry_98 rfl))))))))
theorem dX7_text_0 : decode cX7_text 0 = .ok (.aload_n 0, 1) := by decide +kernel
theorem dX7_text_1 : decode cX7_text 1 = .ok (.iload_n 1, 1) := by decide +kernel
theorem dX7_text_2 : decode cX7_text 2 = .ok (.invokevirtual 85, 3) := by decide +kernel
theorem dX7_text_5 : decode cX7_text 5 = .ok (.astore 4, 2) := by decide +kernel
theorem dX7_text_7 : decode cX7_text 7 = .ok (.aload 4, 2) := by decide +kernel
theorem dX7_text_9 : decode cX7_text 9 = .ok (.ifnonnull 5, 3) := by decide +kernel
theorem dX7_text_12 : decode cX7_text 12 = .ok (.iconst (-1), 1) := by decide +kernel
theorem dX7_text_13 : decode cX7_text 13 = .ok (.ireturn, 1) := by decide +kernel
theorem dX7_text_14 : decode cX7_text 14 = .ok (.iload_n 3, 1) := by decide +kernel
theorem dX7_text_15 : decode cX7_text 15 = .ok (.ifCond .lt 8, 3) := by decide +kernel
theorem dX7_text_18 : decode cX7_text 18 = .ok (.iload_n 3, 1) := by decide +kernel
theorem dX7_text_19 : decode cX7_text 19 = .ok (.iconst 2, 1) := by decide +kernel
theorem dX7_text_20 : decode cX7_text 20 = .ok (.if_icmp .le 6, 3) := by decide +kernel
theorem dX7_text_23 : decode cX7_text 23 = .ok (.bipush (-2), 2) := by decide +kernel
theorem dX7_text_25 : decode cX7_text 25 = .ok (.ireturn, 1) := by decide +kernel
theorem dX7_text_26 : decode cX7_text 26 = .ok (.iload_n 3, 1) := by decide +kernel
theorem dX7_text_27 : decode cX7_text 27 = .ok (.ifCond .ne 7, 3) := by decide +kernel
theorem dX7_text_30 : decode cX7_text 30 = .ok (.iconst 1, 1) := by decide +kernel
theorem dX7_text_31 : decode cX7_text 31 = .ok (.goto 15, 3) := by decide +kernel
theorem dX7_text_34 : decode cX7_text 34 = .ok (.iload_n 3, 1) := by decide +kernel
theorem dX7_text_35 : decode cX7_text 35 = .ok (.iconst 1, 1) := by decide +kernel
theorem dX7_text_36 : decode cX7_text 36 = .ok (.if_icmp .ne 8, 3) := by decide +kernel
theorem dX7_text_39 : decode cX7_text 39 = .ok (.bipush 7, 2) := by decide +kernel
theorem dX7_text_41 : decode cX7_text 41 = .ok (.goto 5, 3) := by decide +kernel
theorem dX7_text_44 : decode cX7_text 44 = .ok (.bipush 8, 2) := by decide +kernel
theorem dX7_text_46 : decode cX7_text 46 = .ok (.istore 5, 2) := by decide +kernel
theorem dX7_text_48 : decode cX7_text 48 = .ok (.aload 4, 2) := by decide +kernel
theorem dX7_text_50 : decode cX7_text 50 = .ok (.getfield 96, 3) := by decide +kernel
theorem dX7_text_53 : decode cX7_text 53 = .ok (.iload_n 2, 1) := by decide +kernel
theorem dX7_text_54 : decode cX7_text 54 = .ok (.iload 5, 2) := by decide +kernel
theorem dX7_text_56 : decode cX7_text 56 = .ok (.invokevirtual 162, 3) := by decide +kernel
theorem dX7_text_59 : decode cX7_text 59 = .ok (.istore 6, 2) := by decide +kernel
theorem dX7_text_61 : decode cX7_text 61 = .ok (.iload 6, 2) := by decide +kernel
theorem dX7_text_63 : decode cX7_text 63 = .ok (.ifCond .eq 9, 3) := by decide +kernel
theorem dX7_text_66 : decode cX7_text 66 = .ok (.bipush (-30), 2) := by decide +kernel
theorem dX7_text_68 : decode cX7_text 68 = .ok (.iload 6, 2) := by decide +kernel
theorem dX7_text_70 : decode cX7_text 70 = .ok (.isub, 1) := by decide +kernel
theorem dX7_text_71 : decode cX7_text 71 = .ok (.ireturn, 1) := by decide +kernel
theorem dX7_text_72 : decode cX7_text 72 = .ok (.aload_n 0, 1) := by decide +kernel
theorem dX7_text_73 : decode cX7_text 73 = .ok (.aload 4, 2) := by decide +kernel
theorem dX7_text_75 : decode cX7_text 75 = .ok (.aload 4, 2) := by decide +kernel
theorem dX7_text_77 : decode cX7_text 77 = .ok (.getfield 96, 3) := by decide +kernel
theorem dX7_text_80 : decode cX7_text 80 = .ok (.iload_n 2, 1) := by decide +kernel
theorem dX7_text_81 : decode cX7_text 81 = .ok (.iconst 0, 1) := by decide +kernel
theorem dX7_text_82 : decode cX7_text 82 = .ok (.invokevirtual 166, 3) := by decide +kernel
theorem dX7_text_85 : decode cX7_text 85 = .ok (.invokevirtual 169, 3) := by decide +kernel
theorem dX7_text_88 : decode cX7_text 88 = .ok (.ireturn, 1) := by decide +kernel
set_option maxRecDepth 20000 in
theorem s_CP_text (E : XE) : Cs E (yX7_text, cX7_text, 7, some .int) (k_CP_text) := (Cs_nd (Cs_nd (Cs_nd (Cs_nd (Cs_nd (Cs_lf (sg_aload_n dX7_text_0 rfl)) (Cs_lf (sg_iload_n dX7_text_1 rfl))) (Cs_nd (Cs_lf (sg_invV (mid := 105) (ci := 6) (by decide +kernel) dX7_text_2 ok_105 rfl w_429 w_431 ws_12)) (Cs_nd (Cs_lf (sg_astore dX7_text_5 (by decide))) (Cs_lf (sg_aload dX7_text_7))))) (Cs_nd (Cs_nd (Cs_lf (sg_ifnonnull dX7_text_9 (by decide))) (Cs_nd (Cs_lf (sg_iconst dX7_text_12 (by decide))) (Cs_lf (sg_iret dX7_text_13 rfl)))) (Cs_nd (Cs_lf (sg_iload_n dX7_text_14 rfl)) (Cs_nd (Cs_lf (sg_iflt dX7_text_15 (by decide))) (Cs_lf (sg_iload_n dX7_text_18 rfl)))))) (Cs_nd (Cs_nd (Cs_nd (Cs_lf (sg_iconst dX7_text_19 (by decide))) (Cs_nd (Cs_lf (sg_cle dX7_text_20 (by decide))) (Cs_lf (sg_bipush dX7_text_23 (by decide))))) (Cs_nd (Cs_lf (sg_iret dX7_text_25 rfl)) (Cs_nd (Cs_lf (sg_iload_n dX7_text_26 rfl)) (Cs_lf (sg_ifne dX7_text_27 (by decide)))))) (Cs_nd (Cs_nd (Cs_lf (sg_iconst dX7_text_30 (by decide))) (Cs_nd (Cs_lf (sg_goto dX7_text_31 (by decide))) (Cs_lf (sg_iload_n dX7_text_34 rfl)))) (Cs_nd (Cs_lf (sg_iconst dX7_text_35 (by decide))) (Cs_nd (Cs_lf (sg_cne dX7_text_36 (by decide))) (Cs_lf (sg_bipush dX7_text_39 (by decide)))))))) (Cs_nd (Cs_nd (Cs_nd (Cs_nd (Cs_lf (sg_goto dX7_text_41 (by decide))) (Cs_nd (Cs_lf (sg_bipush dX7_text_44 (by decide))) (Cs_lf (sg_istore dX7_text_46 (by decide))))) (Cs_nd (Cs_lf (sg_aload dX7_text_48)) (Cs_nd (Cs_lf (sg_getf dX7_text_50 rfl inX0 (by decide) w_124)) (Cs_lf (sg_iload_n dX7_text_53 rfl))))) (Cs_nd (Cs_nd (Cs_lf (sg_iload dX7_text_54)) (Cs_nd (Cs_lf (sg_invV (mid := 30) (ci := 1) (by decide +kernel) dX7_text_56 ok_30 rfl w_467 w_370 w_371)) (Cs_lf (sg_istore dX7_text_59 (by decide))))) (Cs_nd (Cs_lf (sg_iload dX7_text_61)) (Cs_nd (Cs_lf (sg_ifeq dX7_text_63 (by decide))) (Cs_lf (sg_bipush dX7_text_66 (by decide))))))) (Cs_nd (Cs_nd (Cs_nd (Cs_lf (sg_iload dX7_text_68)) (Cs_nd (Cs_lf (sg_isub dX7_text_70)) (Cs_lf (sg_iret dX7_text_71 rfl)))) (Cs_nd (Cs_lf (sg_aload_n dX7_text_72 rfl)) (Cs_nd (Cs_lf (sg_aload dX7_text_73)) (Cs_lf (sg_aload dX7_text_75))))) (Cs_nd (Cs_nd (Cs_lf (sg_getf dX7_text_77 rfl inX0 (by decide) w_124)) (Cs_nd (Cs_lf (sg_iload_n dX7_text_80 rfl)) (Cs_lf (sg_iconst dX7_text_81 (by decide))))) (Cs_nd (Cs_lf (sg_invV (mid := 31) (ci := 1) (by decide +kernel) dX7_text_82 ok_31 rfl w_468 w_469 w_470)) (Cs_nd (Cs_lf (sg_invV (mid := 106) (ci := 6) (by decide +kernel) dX7_text_85 ok_106 rfl w_472 w_474 ws_13)) (Cs_lf (sg_iret dX7_text_88 rfl))))))))
theorem dX7_member_0 : decode cX7_member 0 = .ok (.aload_n 0, 1) := by decide +kernel
theorem dX7_member_1 : decode cX7_member 1 = .ok (.iload_n 1, 1) := by decide +kernel
theorem dX7_member_2 : decode cX7_member 2 = .ok (.invokevirtual 85, 3) := by decide +kernel
theorem dX7_member_5 : decode cX7_member 5 = .ok (.astore 5, 2) := by decide +kernel
theorem dX7_member_7 : decode cX7_member 7 = .ok (.aload 5, 2) := by decide +kernel
theorem dX7_member_9 : decode cX7_member 9 = .ok (.ifnonnull 5, 3) := by decide +kernel
theorem dX7_member_12 : decode cX7_member 12 = .ok (.iconst (-1), 1) := by decide +kernel
theorem dX7_member_13 : decode cX7_member 13 = .ok (.ireturn, 1) := by decide +kernel
theorem dX7_member_14 : decode cX7_member 14 = .ok (.iload_n 2, 1) := by decide +kernel
theorem dX7_member_15 : decode cX7_member 15 = .ok (.iconst 2, 1) := by decide +kernel
theorem dX7_member_16 : decode cX7_member 16 = .ok (.if_icmp .ne 13, 3) := by decide +kernel
theorem dX7_member_19 : decode cX7_member 19 = .ok (.aload_n 0, 1) := by decide +kernel
theorem dX7_member_20 : decode cX7_member 20 = .ok (.aload 5, 2) := by decide +kernel
theorem dX7_member_22 : decode cX7_member 22 = .ok (.iload_n 3, 1) := by decide +kernel
theorem dX7_member_23 : decode cX7_member 23 = .ok (.iload 4, 2) := by decide +kernel
theorem dX7_member_25 : decode cX7_member 25 = .ok (.invokevirtual 173, 3) := by decide +kernel
theorem dX7_member_28 : decode cX7_member 28 = .ok (.ireturn, 1) := by decide +kernel
theorem dX7_member_29 : decode cX7_member 29 = .ok (.iload_n 2, 1) := by decide +kernel
theorem dX7_member_30 : decode cX7_member 30 = .ok (.ifCond .eq 11, 3) := by decide +kernel
theorem dX7_member_33 : decode cX7_member 33 = .ok (.iload_n 2, 1) := by decide +kernel
theorem dX7_member_34 : decode cX7_member 34 = .ok (.iconst 1, 1) := by decide +kernel
theorem dX7_member_35 : decode cX7_member 35 = .ok (.if_icmp .eq 6, 3) := by decide +kernel
theorem dX7_member_38 : decode cX7_member 38 = .ok (.bipush (-2), 2) := by decide +kernel
theorem dX7_member_40 : decode cX7_member 40 = .ok (.ireturn, 1) := by decide +kernel
theorem dX7_member_41 : decode cX7_member 41 = .ok (.aload 5, 2) := by decide +kernel
theorem dX7_member_43 : decode cX7_member 43 = .ok (.iload_n 2, 1) := by decide +kernel
theorem dX7_member_44 : decode cX7_member 44 = .ok (.iload_n 3, 1) := by decide +kernel
theorem dX7_member_45 : decode cX7_member 45 = .ok (.invokevirtual 177, 3) := by decide +kernel
theorem dX7_member_48 : decode cX7_member 48 = .ok (.istore 6, 2) := by decide +kernel
theorem dX7_member_50 : decode cX7_member 50 = .ok (.iload 6, 2) := by decide +kernel
theorem dX7_member_52 : decode cX7_member 52 = .ok (.iconst (-1), 1) := by decide +kernel
theorem dX7_member_53 : decode cX7_member 53 = .ok (.if_icmp .ne 5, 3) := by decide +kernel
theorem dX7_member_56 : decode cX7_member 56 = .ok (.iconst (-1), 1) := by decide +kernel
theorem dX7_member_57 : decode cX7_member 57 = .ok (.ireturn, 1) := by decide +kernel
theorem dX7_member_58 : decode cX7_member 58 = .ok (.iload 4, 2) := by decide +kernel
theorem dX7_member_60 : decode cX7_member 60 = .ok (.ifCond .eq 12, 3) := by decide +kernel
theorem dX7_member_63 : decode cX7_member 63 = .ok (.iload 4, 2) := by decide +kernel
theorem dX7_member_65 : decode cX7_member 65 = .ok (.iconst 1, 1) := by decide +kernel
theorem dX7_member_66 : decode cX7_member 66 = .ok (.if_icmp .eq 6, 3) := by decide +kernel
theorem dX7_member_69 : decode cX7_member 69 = .ok (.bipush (-2), 2) := by decide +kernel
theorem dX7_member_71 : decode cX7_member 71 = .ok (.ireturn, 1) := by decide +kernel
theorem dX7_member_72 : decode cX7_member 72 = .ok (.aload_n 0, 1) := by decide +kernel
theorem dX7_member_73 : decode cX7_member 73 = .ok (.aload 5, 2) := by decide +kernel
theorem dX7_member_75 : decode cX7_member 75 = .ok (.aload 5, 2) := by decide +kernel
theorem dX7_member_77 : decode cX7_member 77 = .ok (.getfield 89, 3) := by decide +kernel
theorem dX7_member_80 : decode cX7_member 80 = .ok (.iload 6, 2) := by decide +kernel
theorem dX7_member_82 : decode cX7_member 82 = .ok (.iconst 2, 1) := by decide +kernel
theorem dX7_member_83 : decode cX7_member 83 = .ok (.iadd, 1) := by decide +kernel
theorem dX7_member_84 : decode cX7_member 84 = .ok (.iconst 2, 1) := by decide +kernel
theorem dX7_member_85 : decode cX7_member 85 = .ok (.iload 4, 2) := by decide +kernel
theorem dX7_member_87 : decode cX7_member 87 = .ok (.imul, 1) := by decide +kernel
theorem dX7_member_88 : decode cX7_member 88 = .ok (.iadd, 1) := by decide +kernel
theorem dX7_member_89 : decode cX7_member 89 = .ok (.invokevirtual 92, 3) := by decide +kernel
theorem dX7_member_92 : decode cX7_member 92 = .ok (.invokevirtual 169, 3) := by decide +kernel
theorem dX7_member_95 : decode cX7_member 95 = .ok (.ireturn, 1) := by decide +kernel
set_option maxRecDepth 20000 in
theorem s_CP_member (E : XE) : Cs E (yX7_member, cX7_member, 7, some .int) (k_CP_member) := (Cs_nd (Cs_nd (Cs_nd (Cs_nd (Cs_nd (Cs_lf (sg_aload_n dX7_member_0 rfl)) (Cs_nd (Cs_lf (sg_iload_n dX7_member_1 rfl)) (Cs_lf (sg_invV (mid := 105) (ci := 6) (by decide +kernel) dX7_member_2 ok_105 rfl w_429 w_431 ws_12)))) (Cs_nd (Cs_lf (sg_astore dX7_member_5 (by decide))) (Cs_nd (Cs_lf (sg_aload dX7_member_7)) (Cs_lf (sg_ifnonnull dX7_member_9 (by decide)))))) (Cs_nd (Cs_nd (Cs_lf (sg_iconst dX7_member_12 (by decide))) (Cs_nd (Cs_lf (sg_iret dX7_member_13 rfl)) (Cs_lf (sg_iload_n dX7_member_14 rfl)))) (Cs_nd (Cs_nd (Cs_lf (sg_iconst dX7_member_15 (by decide))) (Cs_lf (sg_cne dX7_member_16 (by decide)))) (Cs_nd (Cs_lf (sg_aload_n dX7_member_19 rfl)) (Cs_lf (sg_aload dX7_member_20)))))) (Cs_nd (Cs_nd (Cs_nd (Cs_lf (sg_iload_n dX7_member_22 rfl)) (Cs_nd (Cs_lf (sg_iload dX7_member_23)) (Cs_lf (sg_invV (mid := 107) (ci := 6) (by decide +kernel) dX7_member_25 ok_107 rfl w_482 w_484 ws_14)))) (Cs_nd (Cs_nd (Cs_lf (sg_iret dX7_member_28 rfl)) (Cs_lf (sg_iload_n dX7_member_29 rfl))) (Cs_nd (Cs_lf (sg_ifeq dX7_member_30 (by decide))) (Cs_lf (sg_iload_n dX7_member_33 rfl))))) (Cs_nd (Cs_nd (Cs_lf (sg_iconst dX7_member_34 (by decide))) (Cs_nd (Cs_lf (sg_ceq dX7_member_35 (by decide))) (Cs_lf (sg_bipush dX7_member_38 (by decide))))) (Cs_nd (Cs_nd (Cs_lf (sg_iret dX7_member_40 rfl)) (Cs_lf (sg_aload dX7_member_41))) (Cs_nd (Cs_lf (sg_iload_n dX7_member_43 rfl)) (Cs_lf (sg_iload_n dX7_member_44 rfl))))))) (Cs_nd (Cs_nd (Cs_nd (Cs_nd (Cs_lf (sg_invV (mid := 9) (ci := 0) (by decide +kernel) dX7_member_45 ok_9 rfl w_491 w_388 w_389)) (Cs_nd (Cs_lf (sg_istore dX7_member_48 (by decide))) (Cs_lf (sg_iload dX7_member_50)))) (Cs_nd (Cs_nd (Cs_lf (sg_iconst dX7_member_52 (by decide))) (Cs_lf (sg_cne dX7_member_53 (by decide)))) (Cs_nd (Cs_lf (sg_iconst dX7_member_56 (by decide))) (Cs_lf (sg_iret dX7_member_57 rfl))))) (Cs_nd (Cs_nd (Cs_lf (sg_iload dX7_member_58)) (Cs_nd (Cs_lf (sg_ifeq dX7_member_60 (by decide))) (Cs_lf (sg_iload dX7_member_63)))) (Cs_nd (Cs_nd (Cs_lf (sg_iconst dX7_member_65 (by decide))) (Cs_lf (sg_ceq dX7_member_66 (by decide)))) (Cs_nd (Cs_lf (sg_bipush dX7_member_69 (by decide))) (Cs_lf (sg_iret dX7_member_71 rfl)))))) (Cs_nd (Cs_nd (Cs_nd (Cs_lf (sg_aload_n dX7_member_72 rfl)) (Cs_nd (Cs_lf (sg_aload dX7_member_73)) (Cs_lf (sg_aload dX7_member_75)))) (Cs_nd (Cs_nd (Cs_lf (sg_getf dX7_member_77 rfl inX0 (by decide) w_129)) (Cs_lf (sg_iload dX7_member_80))) (Cs_nd (Cs_lf (sg_iconst dX7_member_82 (by decide))) (Cs_lf (sg_iadd dX7_member_83))))) (Cs_nd (Cs_nd (Cs_lf (sg_iconst dX7_member_84 (by decide))) (Cs_nd (Cs_lf (sg_iload dX7_member_85)) (Cs_lf (sg_imul dX7_member_87)))) (Cs_nd (Cs_nd (Cs_lf (sg_iadd dX7_member_88)) (Cs_lf (sg_invV (mid := 64) (ci := 4) (by decide +kernel) dX7_member_89 ok_64 rfl w_437 w_291 w_292))) (Cs_nd (Cs_lf (sg_invV (mid := 106) (ci := 6) (by decide +kernel) dX7_member_92 ok_106 rfl w_472 w_474 ws_13)) (Cs_lf (sg_iret dX7_member_95 rfl))))))))
theorem dX7_told_0 : decode cX7_told 0 = .ok (.aload_n 0, 1) := by decide +kernel
theorem dX7_told_1 : decode cX7_told 1 = .ok (.iload_n 1, 1) := by decide +kernel
theorem dX7_told_2 : decode cX7_told 2 = .ok (.invokevirtual 85, 3) := by decide +kernel
theorem dX7_told_5 : decode cX7_told 5 = .ok (.astore 5, 2) := by decide +kernel
theorem dX7_told_7 : decode cX7_told 7 = .ok (.aload 5, 2) := by decide +kernel
theorem dX7_told_9 : decode cX7_told 9 = .ok (.ifnonnull 5, 3) := by decide +kernel
theorem dX7_told_12 : decode cX7_told 12 = .ok (.iconst (-1), 1) := by decide +kernel
theorem dX7_told_13 : decode cX7_told 13 = .ok (.ireturn, 1) := by decide +kernel
theorem dX7_told_14 : decode cX7_told 14 = .ok (.iload_n 2, 1) := by decide +kernel
theorem dX7_told_15 : decode cX7_told 15 = .ok (.ifCond .eq 11, 3) := by decide +kernel
theorem dX7_told_18 : decode cX7_told 18 = .ok (.iload_n 2, 1) := by decide +kernel
theorem dX7_told_19 : decode cX7_told 19 = .ok (.iconst 1, 1) := by decide +kernel
theorem dX7_told_20 : decode cX7_told 20 = .ok (.if_icmp .eq 6, 3) := by decide +kernel
theorem dX7_told_23 : decode cX7_told 23 = .ok (.bipush (-2), 2) := by decide +kernel
theorem dX7_told_25 : decode cX7_told 25 = .ok (.ireturn, 1) := by decide +kernel
theorem dX7_told_26 : decode cX7_told 26 = .ok (.aload 5, 2) := by decide +kernel
theorem dX7_told_28 : decode cX7_told 28 = .ok (.iload_n 2, 1) := by decide +kernel
theorem dX7_told_29 : decode cX7_told 29 = .ok (.iload_n 3, 1) := by decide +kernel
theorem dX7_told_30 : decode cX7_told 30 = .ok (.invokevirtual 177, 3) := by decide +kernel
theorem dX7_told_33 : decode cX7_told 33 = .ok (.istore 6, 2) := by decide +kernel
theorem dX7_told_35 : decode cX7_told 35 = .ok (.iload 6, 2) := by decide +kernel
theorem dX7_told_37 : decode cX7_told 37 = .ok (.iconst (-1), 1) := by decide +kernel
theorem dX7_told_38 : decode cX7_told 38 = .ok (.if_icmp .ne 5, 3) := by decide +kernel
theorem dX7_told_41 : decode cX7_told 41 = .ok (.iconst (-1), 1) := by decide +kernel
theorem dX7_told_42 : decode cX7_told 42 = .ok (.ireturn, 1) := by decide +kernel
theorem dX7_told_43 : decode cX7_told 43 = .ok (.aload 5, 2) := by decide +kernel
theorem dX7_told_45 : decode cX7_told 45 = .ok (.getfield 89, 3) := by decide +kernel
theorem dX7_told_48 : decode cX7_told 48 = .ok (.iload 6, 2) := by decide +kernel
theorem dX7_told_50 : decode cX7_told 50 = .ok (.iconst 4, 1) := by decide +kernel
theorem dX7_told_51 : decode cX7_told 51 = .ok (.iadd, 1) := by decide +kernel
theorem dX7_told_52 : decode cX7_told 52 = .ok (.invokevirtual 92, 3) := by decide +kernel
theorem dX7_told_55 : decode cX7_told 55 = .ok (.istore 7, 2) := by decide +kernel
theorem dX7_told_57 : decode cX7_told 57 = .ok (.aload 5, 2) := by decide +kernel
theorem dX7_told_59 : decode cX7_told 59 = .ok (.getfield 96, 3) := by decide +kernel
theorem dX7_told_62 : decode cX7_told 62 = .ok (.iload 7, 2) := by decide +kernel
theorem dX7_told_64 : decode cX7_told 64 = .ok (.invokevirtual 180, 3) := by decide +kernel
theorem dX7_told_67 : decode cX7_told 67 = .ok (.istore 8, 2) := by decide +kernel
theorem dX7_told_69 : decode cX7_told 69 = .ok (.iload 8, 2) := by decide +kernel
theorem dX7_told_71 : decode cX7_told 71 = .ok (.aload 5, 2) := by decide +kernel
theorem dX7_told_73 : decode cX7_told 73 = .ok (.getfield 96, 3) := by decide +kernel
theorem dX7_told_76 : decode cX7_told 76 = .ok (.iload 7, 2) := by decide +kernel
theorem dX7_told_78 : decode cX7_told 78 = .ok (.invokevirtual 130, 3) := by decide +kernel
theorem dX7_told_81 : decode cX7_told 81 = .ok (.iadd, 1) := by decide +kernel
theorem dX7_told_82 : decode cX7_told 82 = .ok (.istore 9, 2) := by decide +kernel
theorem dX7_told_84 : decode cX7_told 84 = .ok (.iload 4, 2) := by decide +kernel
theorem dX7_told_86 : decode cX7_told 86 = .ok (.tableswitch 108 0 3 #[30, 41, 55, 86], 30) := by decide +kernel
theorem dX7_told_116 : decode cX7_told 116 = .ok (.aload 5, 2) := by decide +kernel
theorem dX7_told_118 : decode cX7_told 118 = .ok (.getfield 89, 3) := by decide +kernel
theorem dX7_told_121 : decode cX7_told 121 = .ok (.iload 6, 2) := by decide +kernel
theorem dX7_told_123 : decode cX7_told 123 = .ok (.invokevirtual 92, 3) := by decide +kernel
theorem dX7_told_126 : decode cX7_told 126 = .ok (.ireturn, 1) := by decide +kernel
theorem dX7_told_127 : decode cX7_told 127 = .ok (.aload 5, 2) := by decide +kernel
theorem dX7_told_129 : decode cX7_told 129 = .ok (.getfield 89, 3) := by decide +kernel
theorem dX7_told_132 : decode cX7_told 132 = .ok (.iload 6, 2) := by decide +kernel
theorem dX7_told_134 : decode cX7_told 134 = .ok (.bipush 6, 2) := by decide +kernel
theorem dX7_told_136 : decode cX7_told 136 = .ok (.iadd, 1) := by decide +kernel
theorem dX7_told_137 : decode cX7_told 137 = .ok (.invokevirtual 92, 3) := by decide +kernel
theorem dX7_told_140 : decode cX7_told 140 = .ok (.ireturn, 1) := by decide +kernel
theorem dX7_told_141 : decode cX7_told 141 = .ok (.iload_n 2, 1) := by decide +kernel
theorem dX7_told_142 : decode cX7_told 142 = .ok (.ifCond .ne 16, 3) := by decide +kernel
theorem dX7_told_145 : decode cX7_told 145 = .ok (.aload 5, 2) := by decide +kernel
theorem dX7_told_147 : decode cX7_told 147 = .ok (.getfield 89, 3) := by decide +kernel
theorem dX7_told_150 : decode cX7_told 150 = .ok (.iload 8, 2) := by decide +kernel
theorem dX7_told_152 : decode cX7_told 152 = .ok (.invokestatic 183, 3) := by decide +kernel
theorem dX7_told_155 : decode cX7_told 155 = .ok (.goto 16, 3) := by decide +kernel
theorem dX7_told_158 : decode cX7_told 158 = .ok (.aload 5, 2) := by decide +kernel
theorem dX7_told_160 : decode cX7_told 160 = .ok (.getfield 89, 3) := by decide +kernel
theorem dX7_told_163 : decode cX7_told 163 = .ok (.iload 8, 2) := by decide +kernel
theorem dX7_told_165 : decode cX7_told 165 = .ok (.iload 9, 2) := by decide +kernel
theorem dX7_told_167 : decode cX7_told 167 = .ok (.iconst 1, 1) := by decide +kernel
theorem dX7_told_168 : decode cX7_told 168 = .ok (.invokestatic 189, 3) := by decide +kernel
theorem dX7_told_171 : decode cX7_told 171 = .ok (.ireturn, 1) := by decide +kernel
theorem dX7_told_172 : decode cX7_told 172 = .ok (.iload_n 2, 1) := by decide +kernel
theorem dX7_told_173 : decode cX7_told 173 = .ok (.ifCond .ne 7, 3) := by decide +kernel
theorem dX7_told_176 : decode cX7_told 176 = .ok (.iconst 0, 1) := by decide +kernel
theorem dX7_told_177 : decode cX7_told 177 = .ok (.goto 16, 3) := by decide +kernel
theorem dX7_told_180 : decode cX7_told 180 = .ok (.aload 5, 2) := by decide +kernel
theorem dX7_told_182 : decode cX7_told 182 = .ok (.getfield 89, 3) := by decide +kernel
theorem dX7_told_185 : decode cX7_told 185 = .ok (.iload 8, 2) := by decide +kernel
theorem dX7_told_187 : decode cX7_told 187 = .ok (.iload 9, 2) := by decide +kernel
theorem dX7_told_189 : decode cX7_told 189 = .ok (.iconst 0, 1) := by decide +kernel
theorem dX7_told_190 : decode cX7_told 190 = .ok (.invokestatic 189, 3) := by decide +kernel
theorem dX7_told_193 : decode cX7_told 193 = .ok (.ireturn, 1) := by decide +kernel
theorem dX7_told_194 : decode cX7_told 194 = .ok (.bipush (-2), 2) := by decide +kernel
theorem dX7_told_196 : decode cX7_told 196 = .ok (.ireturn, 1) := by decide +kernel
set_option maxRecDepth 20000 in
theorem s_CP_told (E : XE) : Cs E (yX7_told, cX7_told, 10, some .int) (k_CP_told) := (Cs_nd (Cs_nd (Cs_nd (Cs_nd (Cs_nd (Cs_nd (Cs_lf (sg_aload_n dX7_told_0 rfl)) (Cs_lf (sg_iload_n dX7_told_1 rfl))) (Cs_nd (Cs_lf (sg_invV (mid := 105) (ci := 6) (by decide +kernel) dX7_told_2 ok_105 rfl w_429 w_431 ws_12)) (Cs_nd (Cs_lf (sg_astore dX7_told_5 (by decide))) (Cs_lf (sg_aload dX7_told_7))))) (Cs_nd (Cs_nd (Cs_lf (sg_ifnonnull dX7_told_9 (by decide))) (Cs_lf (sg_iconst dX7_told_12 (by decide)))) (Cs_nd (Cs_lf (sg_iret dX7_told_13 rfl)) (Cs_nd (Cs_lf (sg_iload_n dX7_told_14 rfl)) (Cs_lf (sg_ifeq dX7_told_15 (by decide))))))) (Cs_nd (Cs_nd (Cs_nd (Cs_lf (sg_iload_n dX7_told_18 rfl)) (Cs_lf (sg_iconst dX7_told_19 (by decide)))) (Cs_nd (Cs_lf (sg_ceq dX7_told_20 (by decide))) (Cs_nd (Cs_lf (sg_bipush dX7_told_23 (by decide))) (Cs_lf (sg_iret dX7_told_25 rfl))))) (Cs_nd (Cs_nd (Cs_lf (sg_aload dX7_told_26)) (Cs_nd (Cs_lf (sg_iload_n dX7_told_28 rfl)) (Cs_lf (sg_iload_n dX7_told_29 rfl)))) (Cs_nd (Cs_lf (sg_invV (mid := 9) (ci := 0) (by decide +kernel) dX7_told_30 ok_9 rfl w_491 w_388 w_389)) (Cs_nd (Cs_lf (sg_istore dX7_told_33 (by decide))) (Cs_lf (sg_iload dX7_told_35))))))) (Cs_nd (Cs_nd (Cs_nd (Cs_nd (Cs_lf (sg_iconst dX7_told_37 (by decide))) (Cs_lf (sg_cne dX7_told_38 (by decide)))) (Cs_nd (Cs_lf (sg_iconst dX7_told_41 (by decide))) (Cs_nd (Cs_lf (sg_iret dX7_told_42 rfl)) (Cs_lf (sg_aload dX7_told_43))))) (Cs_nd (Cs_nd (Cs_lf (sg_getf dX7_told_45 rfl inX0 (by decide) w_129)) (Cs_lf (sg_iload dX7_told_48))) (Cs_nd (Cs_lf (sg_iconst dX7_told_50 (by decide))) (Cs_nd (Cs_lf (sg_iadd dX7_told_51)) (Cs_lf (sg_invV (mid := 64) (ci := 4) (by decide +kernel) dX7_told_52 ok_64 rfl w_437 w_291 w_292)))))) (Cs_nd (Cs_nd (Cs_nd (Cs_lf (sg_istore dX7_told_55 (by decide))) (Cs_lf (sg_aload dX7_told_57))) (Cs_nd (Cs_lf (sg_getf dX7_told_59 rfl inX0 (by decide) w_124)) (Cs_nd (Cs_lf (sg_iload dX7_told_62)) (Cs_lf (sg_invV (mid := 26) (ci := 1) (by decide +kernel) dX7_told_64 ok_26 rfl w_476 w_392 w_393))))) (Cs_nd (Cs_nd (Cs_lf (sg_istore dX7_told_67 (by decide))) (Cs_nd (Cs_lf (sg_iload dX7_told_69)) (Cs_lf (sg_aload dX7_told_71)))) (Cs_nd (Cs_lf (sg_getf dX7_told_73 rfl inX0 (by decide) w_124)) (Cs_nd (Cs_lf (sg_iload dX7_told_76)) (Cs_lf (sg_invV (mid := 27) (ci := 1) (by decide +kernel) dX7_told_78 ok_27 rfl w_462 w_396 w_397)))))))) (Cs_nd (Cs_nd (Cs_nd (Cs_nd (Cs_nd (Cs_lf (sg_iadd dX7_told_81)) (Cs_lf (sg_istore dX7_told_82 (by decide)))) (Cs_nd (Cs_lf (sg_iload dX7_told_84)) (Cs_nd (Cs_lf (sg_table dX7_told_86 rfl (by decide) (by decide +kernel) (by decide))) (Cs_lf (sg_aload dX7_told_116))))) (Cs_nd (Cs_nd (Cs_lf (sg_getf dX7_told_118 rfl inX0 (by decide) w_129)) (Cs_lf (sg_iload dX7_told_121))) (Cs_nd (Cs_lf (sg_invV (mid := 64) (ci := 4) (by decide +kernel) dX7_told_123 ok_64 rfl w_437 w_291 w_292)) (Cs_nd (Cs_lf (sg_iret dX7_told_126 rfl)) (Cs_lf (sg_aload dX7_told_127)))))) (Cs_nd (Cs_nd (Cs_nd (Cs_lf (sg_getf dX7_told_129 rfl inX0 (by decide) w_129)) (Cs_lf (sg_iload dX7_told_132))) (Cs_nd (Cs_lf (sg_bipush dX7_told_134 (by decide))) (Cs_nd (Cs_lf (sg_iadd dX7_told_136)) (Cs_lf (sg_invV (mid := 64) (ci := 4) (by decide +kernel) dX7_told_137 ok_64 rfl w_437 w_291 w_292))))) (Cs_nd (Cs_nd (Cs_lf (sg_iret dX7_told_140 rfl)) (Cs_nd (Cs_lf (sg_iload_n dX7_told_141 rfl)) (Cs_lf (sg_ifne dX7_told_142 (by decide))))) (Cs_nd (Cs_lf (sg_aload dX7_told_145)) (Cs_nd (Cs_lf (sg_getf dX7_told_147 rfl inX0 (by decide) w_129)) (Cs_lf (sg_iload dX7_told_150))))))) (Cs_nd (Cs_nd (Cs_nd (Cs_nd (Cs_lf (sg_inv (mid := 75) (by decide +kernel) dX7_told_152 ok_75 w_496 w_497)) (Cs_lf (sg_goto dX7_told_155 (by decide)))) (Cs_nd (Cs_lf (sg_aload dX7_told_158)) (Cs_nd (Cs_lf (sg_getf dX7_told_160 rfl inX0 (by decide) w_129)) (Cs_lf (sg_iload dX7_told_163))))) (Cs_nd (Cs_nd (Cs_lf (sg_iload dX7_told_165)) (Cs_nd (Cs_lf (sg_iconst dX7_told_167 (by decide))) (Cs_lf (sg_inv (mid := 76) (by decide +kernel) dX7_told_168 ok_76 w_499 w_500)))) (Cs_nd (Cs_lf (sg_iret dX7_told_171 rfl)) (Cs_nd (Cs_lf (sg_iload_n dX7_told_172 rfl)) (Cs_lf (sg_ifne dX7_told_173 (by decide))))))) (Cs_nd (Cs_nd (Cs_nd (Cs_lf (sg_iconst dX7_told_176 (by decide))) (Cs_lf (sg_goto dX7_told_177 (by decide)))) (Cs_nd (Cs_lf (sg_aload dX7_told_180)) (Cs_nd (Cs_lf (sg_getf dX7_told_182 rfl inX0 (by decide) w_129)) (Cs_lf (sg_iload dX7_told_185))))) (Cs_nd (Cs_nd (Cs_lf (sg_iload dX7_told_187)) (Cs_nd (Cs_lf (sg_iconst dX7_told_189 (by decide))) (Cs_lf (sg_inv (mid := 76) (by decide +kernel) dX7_told_190 ok_76 w_499 w_500)))) (Cs_nd (Cs_lf (sg_iret dX7_told_193 rfl)) (Cs_nd (Cs_lf (sg_bipush dX7_told_194 (by decide))) (Cs_lf (sg_iret dX7_told_196 rfl)))))))))
theorem dX7_attribute_0 : decode cX7_attribute 0 = .ok (.aload_n 0, 1) := by decide +kernel
theorem dX7_attribute_1 : decode cX7_attribute 1 = .ok (.iload_n 1, 1) := by decide +kernel
theorem dX7_attribute_2 : decode cX7_attribute 2 = .ok (.invokevirtual 85, 3) := by decide +kernel
theorem dX7_attribute_5 : decode cX7_attribute 5 = .ok (.astore 6, 2) := by decide +kernel
theorem dX7_attribute_7 : decode cX7_attribute 7 = .ok (.aload 6, 2) := by decide +kernel
theorem dX7_attribute_9 : decode cX7_attribute 9 = .ok (.ifnonnull 5, 3) := by decide +kernel
theorem dX7_attribute_12 : decode cX7_attribute 12 = .ok (.iconst (-1), 1) := by decide +kernel
theorem dX7_attribute_13 : decode cX7_attribute 13 = .ok (.ireturn, 1) := by decide +kernel
theorem dX7_attribute_14 : decode cX7_attribute 14 = .ok (.iload_n 2, 1) := by decide +kernel
theorem dX7_attribute_15 : decode cX7_attribute 15 = .ok (.ifCond .eq 16, 3) := by decide +kernel
theorem dX7_attribute_18 : decode cX7_attribute 18 = .ok (.iload_n 2, 1) := by decide +kernel
theorem dX7_attribute_19 : decode cX7_attribute 19 = .ok (.iconst 1, 1) := by decide +kernel
theorem dX7_attribute_20 : decode cX7_attribute 20 = .ok (.if_icmp .eq 11, 3) := by decide +kernel
theorem dX7_attribute_23 : decode cX7_attribute 23 = .ok (.iload_n 2, 1) := by decide +kernel
theorem dX7_attribute_24 : decode cX7_attribute 24 = .ok (.iconst 2, 1) := by decide +kernel
theorem dX7_attribute_25 : decode cX7_attribute 25 = .ok (.if_icmp .eq 6, 3) := by decide +kernel
theorem dX7_attribute_28 : decode cX7_attribute 28 = .ok (.bipush (-2), 2) := by decide +kernel
theorem dX7_attribute_30 : decode cX7_attribute 30 = .ok (.ireturn, 1) := by decide +kernel
theorem dX7_attribute_31 : decode cX7_attribute 31 = .ok (.aload 6, 2) := by decide +kernel
theorem dX7_attribute_33 : decode cX7_attribute 33 = .ok (.iload_n 2, 1) := by decide +kernel
theorem dX7_attribute_34 : decode cX7_attribute 34 = .ok (.iload_n 3, 1) := by decide +kernel
theorem dX7_attribute_35 : decode cX7_attribute 35 = .ok (.iload 4, 2) := by decide +kernel
theorem dX7_attribute_37 : decode cX7_attribute 37 = .ok (.invokevirtual 193, 3) := by decide +kernel
theorem dX7_attribute_40 : decode cX7_attribute 40 = .ok (.istore 7, 2) := by decide +kernel
theorem dX7_attribute_42 : decode cX7_attribute 42 = .ok (.iload 7, 2) := by decide +kernel
theorem dX7_attribute_44 : decode cX7_attribute 44 = .ok (.iconst (-1), 1) := by decide +kernel
theorem dX7_attribute_45 : decode cX7_attribute 45 = .ok (.if_icmp .ne 5, 3) := by decide +kernel
theorem dX7_attribute_48 : decode cX7_attribute 48 = .ok (.iconst (-1), 1) := by decide +kernel
theorem dX7_attribute_49 : decode cX7_attribute 49 = .ok (.ireturn, 1) := by decide +kernel
theorem dX7_attribute_50 : decode cX7_attribute 50 = .ok (.iload 5, 2) := by decide +kernel
theorem dX7_attribute_52 : decode cX7_attribute 52 = .ok (.lookupswitch 75 #[(0, 28), (1, 45)], 28) := by decide +kernel
theorem dX7_attribute_80 : decode cX7_attribute 80 = .ok (.aload_n 0, 1) := by decide +kernel
theorem dX7_attribute_81 : decode cX7_attribute 81 = .ok (.aload 6, 2) := by decide +kernel
theorem dX7_attribute_83 : decode cX7_attribute 83 = .ok (.aload 6, 2) := by decide +kernel
theorem dX7_attribute_85 : decode cX7_attribute 85 = .ok (.getfield 89, 3) := by decide +kernel
theorem dX7_attribute_88 : decode cX7_attribute 88 = .ok (.iload 7, 2) := by decide +kernel
theorem dX7_attribute_90 : decode cX7_attribute 90 = .ok (.invokevirtual 92, 3) := by decide +kernel
theorem dX7_attribute_93 : decode cX7_attribute 93 = .ok (.invokevirtual 169, 3) := by decide +kernel
theorem dX7_attribute_96 : decode cX7_attribute 96 = .ok (.ireturn, 1) := by decide +kernel
theorem dX7_attribute_97 : decode cX7_attribute 97 = .ok (.aload_n 0, 1) := by decide +kernel
theorem dX7_attribute_98 : decode cX7_attribute 98 = .ok (.getfield 16, 3) := by decide +kernel
theorem dX7_attribute_101 : decode cX7_attribute 101 = .ok (.aload 6, 2) := by decide +kernel
theorem dX7_attribute_103 : decode cX7_attribute 103 = .ok (.getfield 89, 3) := by decide +kernel
theorem dX7_attribute_106 : decode cX7_attribute 106 = .ok (.iload 7, 2) := by decide +kernel
theorem dX7_attribute_108 : decode cX7_attribute 108 = .ok (.bipush 6, 2) := by decide +kernel
theorem dX7_attribute_110 : decode cX7_attribute 110 = .ok (.iadd, 1) := by decide +kernel
theorem dX7_attribute_111 : decode cX7_attribute 111 = .ok (.aload 6, 2) := by decide +kernel
theorem dX7_attribute_113 : decode cX7_attribute 113 = .ok (.getfield 89, 3) := by decide +kernel
theorem dX7_attribute_116 : decode cX7_attribute 116 = .ok (.iload 7, 2) := by decide +kernel
theorem dX7_attribute_118 : decode cX7_attribute 118 = .ok (.iconst 2, 1) := by decide +kernel
theorem dX7_attribute_119 : decode cX7_attribute 119 = .ok (.iadd, 1) := by decide +kernel
theorem dX7_attribute_120 : decode cX7_attribute 120 = .ok (.invokevirtual 197, 3) := by decide +kernel
theorem dX7_attribute_123 : decode cX7_attribute 123 = .ok (.invokevirtual 200, 3) := by decide +kernel
theorem dX7_attribute_126 : decode cX7_attribute 126 = .ok (.ireturn, 1) := by decide +kernel
theorem dX7_attribute_127 : decode cX7_attribute 127 = .ok (.bipush (-2), 2) := by decide +kernel
theorem dX7_attribute_129 : decode cX7_attribute 129 = .ok (.ireturn, 1) := by decide +kernel
set_option maxRecDepth 20000 in
theorem s_CP_attribute (E : XE) : Cs E (yX7_attribute, cX7_attribute, 8, some .int) (k_CP_attribute) := (Cs_nd (Cs_nd (Cs_nd (Cs_nd (Cs_nd (Cs_lf (sg_aload_n dX7_attribute_0 rfl)) (Cs_nd (Cs_lf (sg_iload_n dX7_attribute_1 rfl)) (Cs_lf (sg_invV (mid := 105) (ci := 6) (by decide +kernel) dX7_attribute_2 ok_105 rfl w_429 w_431 ws_12)))) (Cs_nd (Cs_nd (Cs_lf (sg_astore dX7_attribute_5 (by decide))) (Cs_lf (sg_aload dX7_attribute_7))) (Cs_nd (Cs_lf (sg_ifnonnull dX7_attribute_9 (by decide))) (Cs_lf (sg_iconst dX7_attribute_12 (by decide)))))) (Cs_nd (Cs_nd (Cs_lf (sg_iret dX7_attribute_13 rfl)) (Cs_nd (Cs_lf (sg_iload_n dX7_attribute_14 rfl)) (Cs_lf (sg_ifeq dX7_attribute_15 (by decide))))) (Cs_nd (Cs_nd (Cs_lf (sg_iload_n dX7_attribute_18 rfl)) (Cs_lf (sg_iconst dX7_attribute_19 (by decide)))) (Cs_nd (Cs_lf (sg_ceq dX7_attribute_20 (by decide))) (Cs_lf (sg_iload_n dX7_attribute_23 rfl)))))) (Cs_nd (Cs_nd (Cs_nd (Cs_lf (sg_iconst dX7_attribute_24 (by decide))) (Cs_nd (Cs_lf (sg_ceq dX7_attribute_25 (by decide))) (Cs_lf (sg_bipush dX7_attribute_28 (by decide))))) (Cs_nd (Cs_nd (Cs_lf (sg_iret dX7_attribute_30 rfl)) (Cs_lf (sg_aload dX7_attribute_31))) (Cs_nd (Cs_lf (sg_iload_n dX7_attribute_33 rfl)) (Cs_lf (sg_iload_n dX7_attribute_34 rfl))))) (Cs_nd (Cs_nd (Cs_lf (sg_iload dX7_attribute_35)) (Cs_nd (Cs_lf (sg_invV (mid := 13) (ci := 0) (by decide +kernel) dX7_attribute_37 ok_13 rfl w_507 w_508 w_509)) (Cs_lf (sg_istore dX7_attribute_40 (by decide))))) (Cs_nd (Cs_nd (Cs_lf (sg_iload dX7_attribute_42)) (Cs_lf (sg_iconst dX7_attribute_44 (by decide)))) (Cs_nd (Cs_lf (sg_cne dX7_attribute_45 (by decide))) (Cs_lf (sg_iconst dX7_attribute_48 (by decide)))))))) (Cs_nd (Cs_nd (Cs_nd (Cs_nd (Cs_lf (sg_iret dX7_attribute_49 rfl)) (Cs_nd (Cs_lf (sg_iload dX7_attribute_50)) (Cs_lf (sg_lookup dX7_attribute_52 (by decide) rfl (by decide +kernel) (by decide))))) (Cs_nd (Cs_nd (Cs_lf (sg_aload_n dX7_attribute_80 rfl)) (Cs_lf (sg_aload dX7_attribute_81))) (Cs_nd (Cs_lf (sg_aload dX7_attribute_83)) (Cs_lf (sg_getf dX7_attribute_85 rfl inX0 (by decide) w_129))))) (Cs_nd (Cs_nd (Cs_lf (sg_iload dX7_attribute_88)) (Cs_nd (Cs_lf (sg_invV (mid := 64) (ci := 4) (by decide +kernel) dX7_attribute_90 ok_64 rfl w_437 w_291 w_292)) (Cs_lf (sg_invV (mid := 106) (ci := 6) (by decide +kernel) dX7_attribute_93 ok_106 rfl w_472 w_474 ws_13)))) (Cs_nd (Cs_nd (Cs_lf (sg_iret dX7_attribute_96 rfl)) (Cs_lf (sg_aload_n dX7_attribute_97 rfl))) (Cs_nd (Cs_lf (sg_getf dX7_attribute_98 rfl inX7 (by decide) w_162)) (Cs_lf (sg_aload dX7_attribute_101)))))) (Cs_nd (Cs_nd (Cs_nd (Cs_lf (sg_getf dX7_attribute_103 rfl inX0 (by decide) w_129)) (Cs_nd (Cs_lf (sg_iload dX7_attribute_106)) (Cs_lf (sg_bipush dX7_attribute_108 (by decide))))) (Cs_nd (Cs_nd (Cs_lf (sg_iadd dX7_attribute_110)) (Cs_lf (sg_aload dX7_attribute_111))) (Cs_nd (Cs_lf (sg_getf dX7_attribute_113 rfl inX0 (by decide) w_129)) (Cs_lf (sg_iload dX7_attribute_116))))) (Cs_nd (Cs_nd (Cs_lf (sg_iconst dX7_attribute_118 (by decide))) (Cs_nd (Cs_lf (sg_iadd dX7_attribute_119)) (Cs_lf (sg_invV (mid := 65) (ci := 4) (by decide +kernel) dX7_attribute_120 ok_65 rfl w_517 w_349 w_350)))) (Cs_nd (Cs_nd (Cs_lf (sg_invV (mid := 71) (ci := 4) (by decide +kernel) dX7_attribute_123 ok_71 rfl w_477 w_208 w_209)) (Cs_lf (sg_iret dX7_attribute_126 rfl))) (Cs_nd (Cs_lf (sg_bipush dX7_attribute_127 (by decide))) (Cs_lf (sg_iret dX7_attribute_129 rfl))))))))
theorem dX7_out_0 : decode cX7_out 0 = .ok (.aload_n 0, 1) := by decide +kernel
theorem dX7_out_1 : decode cX7_out 1 = .ok (.getfield 16, 3) := by decide +kernel
theorem dX7_out_4 : decode cX7_out 4 = .ok (.iload_n 1, 1) := by decide +kernel
theorem dX7_out_5 : decode cX7_out 5 = .ok (.iconst 1, 1) := by decide +kernel
theorem dX7_out_6 : decode cX7_out 6 = .ok (.invokevirtual 204, 3) := by decide +kernel
theorem dX7_out_9 : decode cX7_out 9 = .ok (.ifCond .eq 14, 3) := by decide +kernel
theorem dX7_out_12 : decode cX7_out 12 = .ok (.aload_n 0, 1) := by decide +kernel
theorem dX7_out_13 : decode cX7_out 13 = .ok (.getfield 16, 3) := by decide +kernel
theorem dX7_out_16 : decode cX7_out 16 = .ok (.iload_n 1, 1) := by decide +kernel
theorem dX7_out_17 : decode cX7_out 17 = .ok (.invokevirtual 207, 3) := by decide +kernel
theorem dX7_out_20 : decode cX7_out 20 = .ok (.goto 4, 3) := by decide +kernel
theorem dX7_out_23 : decode cX7_out 23 = .ok (.iconst (-1), 1) := by decide +kernel
theorem dX7_out_24 : decode cX7_out 24 = .ok (.ireturn, 1) := by decide +kernel
set_option maxRecDepth 20000 in
theorem s_CP_out (E : XE) : Cs E (yX7_out, cX7_out, 2, some .int) (k_CP_out) := (Cs_nd (Cs_nd (Cs_nd (Cs_lf (sg_aload_n dX7_out_0 rfl)) (Cs_nd (Cs_lf (sg_getf dX7_out_1 rfl inX7 (by decide) w_162)) (Cs_lf (sg_iload_n dX7_out_4 rfl)))) (Cs_nd (Cs_lf (sg_iconst dX7_out_5 (by decide))) (Cs_nd (Cs_lf (sg_invV (mid := 62) (ci := 4) (by decide +kernel) dX7_out_6 ok_62 rfl w_522 w_220 w_221)) (Cs_lf (sg_ifeq dX7_out_9 (by decide)))))) (Cs_nd (Cs_nd (Cs_lf (sg_aload_n dX7_out_12 rfl)) (Cs_nd (Cs_lf (sg_getf dX7_out_13 rfl inX7 (by decide) w_162)) (Cs_lf (sg_iload_n dX7_out_16 rfl)))) (Cs_nd (Cs_nd (Cs_lf (sg_invV (mid := 63) (ci := 4) (by decide +kernel) dX7_out_17 ok_63 rfl w_523 w_278 w_279)) (Cs_lf (sg_goto dX7_out_20 (by decide)))) (Cs_nd (Cs_lf (sg_iconst dX7_out_23 (by decide))) (Cs_lf (sg_iret dX7_out_24 rfl))))))
theorem dX7_join_0 : decode cX7_join 0 = .ok (.aload_n 0, 1) := by decide +kernel
theorem dX7_join_1 : decode cX7_join 1 = .ok (.getfield 39, 3) := by decide +kernel
theorem dX7_join_4 : decode cX7_join 4 = .ok (.invokevirtual 210, 3) := by decide +kernel
theorem dX7_join_7 : decode cX7_join 7 = .ok (.iconst 1, 1) := by decide +kernel
theorem dX7_join_8 : decode cX7_join 8 = .ok (.istore_n 1, 1) := by decide +kernel
theorem dX7_join_9 : decode cX7_join 9 = .ok (.iconst 0, 1) := by decide +kernel
theorem dX7_join_10 : decode cX7_join 10 = .ok (.istore_n 2, 1) := by decide +kernel
theorem dX7_join_11 : decode cX7_join 11 = .ok (.iload_n 2, 1) := by decide +kernel
theorem dX7_join_12 : decode cX7_join 12 = .ok (.aload_n 0, 1) := by decide +kernel
theorem dX7_join_13 : decode cX7_join 13 = .ok (.getfield 25, 3) := by decide +kernel
theorem dX7_join_16 : decode cX7_join 16 = .ok (.if_icmp .ge 43, 3) := by decide +kernel
theorem dX7_join_19 : decode cX7_join 19 = .ok (.iload_n 1, 1) := by decide +kernel
theorem dX7_join_20 : decode cX7_join 20 = .ok (.ifCond .eq 39, 3) := by decide +kernel
theorem dX7_join_23 : decode cX7_join 23 = .ok (.aload_n 0, 1) := by decide +kernel
theorem dX7_join_24 : decode cX7_join 24 = .ok (.iload_n 2, 1) := by decide +kernel
theorem dX7_join_25 : decode cX7_join 25 = .ok (.invokevirtual 85, 3) := by decide +kernel
theorem dX7_join_28 : decode cX7_join 28 = .ok (.astore_n 3, 1) := by decide +kernel
theorem dX7_join_29 : decode cX7_join 29 = .ok (.aload_n 3, 1) := by decide +kernel
theorem dX7_join_30 : decode cX7_join 30 = .ok (.ifnull 21, 3) := by decide +kernel
theorem dX7_join_33 : decode cX7_join 33 = .ok (.aload_n 0, 1) := by decide +kernel
theorem dX7_join_34 : decode cX7_join 34 = .ok (.getfield 39, 3) := by decide +kernel
theorem dX7_join_37 : decode cX7_join 37 = .ok (.aload_n 3, 1) := by decide +kernel
theorem dX7_join_38 : decode cX7_join 38 = .ok (.getfield 96, 3) := by decide +kernel
theorem dX7_join_41 : decode cX7_join 41 = .ok (.invokevirtual 211, 3) := by decide +kernel
theorem dX7_join_44 : decode cX7_join 44 = .ok (.ifCond .eq 7, 3) := by decide +kernel
theorem dX7_join_47 : decode cX7_join 47 = .ok (.iconst 1, 1) := by decide +kernel
theorem dX7_join_48 : decode cX7_join 48 = .ok (.goto 4, 3) := by decide +kernel
theorem dX7_join_51 : decode cX7_join 51 = .ok (.iconst 0, 1) := by decide +kernel
theorem dX7_join_52 : decode cX7_join 52 = .ok (.istore_n 1, 1) := by decide +kernel
theorem dX7_join_53 : decode cX7_join 53 = .ok (.iinc 2 1, 3) := by decide +kernel
theorem dX7_join_56 : decode cX7_join 56 = .ok (.goto (-45), 3) := by decide +kernel
theorem dX7_join_59 : decode cX7_join 59 = .ok (.iload_n 1, 1) := by decide +kernel
theorem dX7_join_60 : decode cX7_join 60 = .ok (.ifCond .ne 6, 3) := by decide +kernel
theorem dX7_join_63 : decode cX7_join 63 = .ok (.bipush (-3), 2) := by decide +kernel
theorem dX7_join_65 : decode cX7_join 65 = .ok (.ireturn, 1) := by decide +kernel
theorem dX7_join_66 : decode cX7_join 66 = .ok (.aload_n 0, 1) := by decide +kernel
theorem dX7_join_67 : decode cX7_join 67 = .ok (.getfield 35, 3) := by decide +kernel
theorem dX7_join_70 : decode cX7_join 70 = .ok (.astore_n 2, 1) := by decide +kernel
theorem dX7_join_71 : decode cX7_join 71 = .ok (.aload_n 0, 1) := by decide +kernel
theorem dX7_join_72 : decode cX7_join 72 = .ok (.aload_n 0, 1) := by decide +kernel
theorem dX7_join_73 : decode cX7_join 73 = .ok (.getfield 39, 3) := by decide +kernel
theorem dX7_join_76 : decode cX7_join 76 = .ok (.putfield 35, 3) := by decide +kernel
theorem dX7_join_79 : decode cX7_join 79 = .ok (.aload_n 0, 1) := by decide +kernel
theorem dX7_join_80 : decode cX7_join 80 = .ok (.aload_n 2, 1) := by decide +kernel
theorem dX7_join_81 : decode cX7_join 81 = .ok (.putfield 39, 3) := by decide +kernel
theorem dX7_join_84 : decode cX7_join 84 = .ok (.aload_n 0, 1) := by decide +kernel
theorem dX7_join_85 : decode cX7_join 85 = .ok (.getfield 35, 3) := by decide +kernel
theorem dX7_join_88 : decode cX7_join 88 = .ok (.invokevirtual 215, 3) := by decide +kernel
theorem dX7_join_91 : decode cX7_join 91 = .ok (.ireturn, 1) := by decide +kernel
set_option maxRecDepth 20000 in
theorem s_CP_join (E : XE) : Cs E (yX7_join, cX7_join, 4, some .int) (k_CP_join) := (Cs_nd (Cs_nd (Cs_nd (Cs_nd (Cs_nd (Cs_lf (sg_aload_n dX7_join_0 rfl)) (Cs_nd (Cs_lf (sg_getf dX7_join_1 rfl inX7 (by decide) w_167)) (Cs_lf (sg_invV (mid := 34) (ci := 2) (by decide +kernel) dX7_join_4 ok_34 rfl w_528 w_529 w_530)))) (Cs_nd (Cs_lf (sg_iconst dX7_join_7 (by decide))) (Cs_nd (Cs_lf (sg_istore_n dX7_join_8 rfl (by decide))) (Cs_lf (sg_iconst dX7_join_9 (by decide)))))) (Cs_nd (Cs_nd (Cs_lf (sg_istore_n dX7_join_10 rfl (by decide))) (Cs_nd (Cs_lf (sg_iload_n dX7_join_11 rfl)) (Cs_lf (sg_aload_n dX7_join_12 rfl)))) (Cs_nd (Cs_lf (sg_getf dX7_join_13 rfl inX7 (by decide) w_164)) (Cs_nd (Cs_lf (sg_cge dX7_join_16 (by decide))) (Cs_lf (sg_iload_n dX7_join_19 rfl)))))) (Cs_nd (Cs_nd (Cs_nd (Cs_lf (sg_ifeq dX7_join_20 (by decide))) (Cs_nd (Cs_lf (sg_aload_n dX7_join_23 rfl)) (Cs_lf (sg_iload_n dX7_join_24 rfl)))) (Cs_nd (Cs_lf (sg_invV (mid := 105) (ci := 6) (by decide +kernel) dX7_join_25 ok_105 rfl w_429 w_431 ws_12)) (Cs_nd (Cs_lf (sg_astore_n dX7_join_28 rfl (by decide))) (Cs_lf (sg_aload_n dX7_join_29 rfl))))) (Cs_nd (Cs_nd (Cs_lf (sg_ifnull dX7_join_30 (by decide))) (Cs_nd (Cs_lf (sg_aload_n dX7_join_33 rfl)) (Cs_lf (sg_getf dX7_join_34 rfl inX7 (by decide) w_167)))) (Cs_nd (Cs_lf (sg_aload_n dX7_join_37 rfl)) (Cs_nd (Cs_lf (sg_getf dX7_join_38 rfl inX0 (by decide) w_124)) (Cs_lf (sg_invV (mid := 36) (ci := 2) (by decide +kernel) dX7_join_41 ok_36 rfl w_532 w_533 w_534))))))) (Cs_nd (Cs_nd (Cs_nd (Cs_nd (Cs_lf (sg_ifeq dX7_join_44 (by decide))) (Cs_nd (Cs_lf (sg_iconst dX7_join_47 (by decide))) (Cs_lf (sg_goto dX7_join_48 (by decide))))) (Cs_nd (Cs_lf (sg_iconst dX7_join_51 (by decide))) (Cs_nd (Cs_lf (sg_istore_n dX7_join_52 rfl (by decide))) (Cs_lf (sg_iinc dX7_join_53 (by decide) (by decide)))))) (Cs_nd (Cs_nd (Cs_lf (sg_goto dX7_join_56 (by decide))) (Cs_nd (Cs_lf (sg_iload_n dX7_join_59 rfl)) (Cs_lf (sg_ifne dX7_join_60 (by decide))))) (Cs_nd (Cs_lf (sg_bipush dX7_join_63 (by decide))) (Cs_nd (Cs_lf (sg_iret dX7_join_65 rfl)) (Cs_lf (sg_aload_n dX7_join_66 rfl)))))) (Cs_nd (Cs_nd (Cs_nd (Cs_lf (sg_getf dX7_join_67 rfl inX7 (by decide) w_166)) (Cs_nd (Cs_lf (sg_astore_n dX7_join_70 rfl (by decide))) (Cs_lf (sg_aload_n dX7_join_71 rfl)))) (Cs_nd (Cs_lf (sg_aload_n dX7_join_72 rfl)) (Cs_nd (Cs_lf (sg_getf dX7_join_73 rfl inX7 (by decide) w_167)) (Cs_lf (sg_putf dX7_join_76 rfl inX7 tyX7_ok nmX7 (by decide) w_166 rfl (tyX7_ok 5 (by decide)) (ok_obj _)))))) (Cs_nd (Cs_nd (Cs_lf (sg_aload_n dX7_join_79 rfl)) (Cs_nd (Cs_lf (sg_aload_n dX7_join_80 rfl)) (Cs_lf (sg_putf dX7_join_81 rfl inX7 tyX7_ok nmX7 (by decide) w_167 rfl (tyX7_ok 6 (by decide)) (ok_obj _))))) (Cs_nd (Cs_nd (Cs_lf (sg_aload_n dX7_join_84 rfl)) (Cs_lf (sg_getf dX7_join_85 rfl inX7 (by decide) w_166))) (Cs_nd (Cs_lf (sg_invV (mid := 35) (ci := 2) (by decide +kernel) dX7_join_88 ok_35 rfl w_596 w_597 w_598)) (Cs_lf (sg_iret dX7_join_91 rfl))))))))
theorem dX7_joined_0 : decode cX7_joined 0 = .ok (.aload_n 0, 1) := by decide +kernel
theorem dX7_joined_1 : decode cX7_joined 1 = .ok (.iload_n 1, 1) := by decide +kernel
theorem dX7_joined_2 : decode cX7_joined 2 = .ok (.invokevirtual 85, 3) := by decide +kernel
theorem dX7_joined_5 : decode cX7_joined 5 = .ok (.astore_n 3, 1) := by decide +kernel
theorem dX7_joined_6 : decode cX7_joined 6 = .ok (.aload_n 3, 1) := by decide +kernel
theorem dX7_joined_7 : decode cX7_joined 7 = .ok (.ifnull 14, 3) := by decide +kernel
theorem dX7_joined_10 : decode cX7_joined 10 = .ok (.aload_n 3, 1) := by decide +kernel
theorem dX7_joined_11 : decode cX7_joined 11 = .ok (.getfield 96, 3) := by decide +kernel
theorem dX7_joined_14 : decode cX7_joined 14 = .ok (.iload_n 2, 1) := by decide +kernel
theorem dX7_joined_15 : decode cX7_joined 15 = .ok (.invokevirtual 121, 3) := by decide +kernel
theorem dX7_joined_18 : decode cX7_joined 18 = .ok (.ifCond .ne 5, 3) := by decide +kernel
theorem dX7_joined_21 : decode cX7_joined 21 = .ok (.iconst (-1), 1) := by decide +kernel
theorem dX7_joined_22 : decode cX7_joined 22 = .ok (.ireturn, 1) := by decide +kernel
theorem dX7_joined_23 : decode cX7_joined 23 = .ok (.aload_n 0, 1) := by decide +kernel
theorem dX7_joined_24 : decode cX7_joined 24 = .ok (.getfield 35, 3) := by decide +kernel
theorem dX7_joined_27 : decode cX7_joined 27 = .ok (.aload_n 3, 1) := by decide +kernel
theorem dX7_joined_28 : decode cX7_joined 28 = .ok (.getfield 96, 3) := by decide +kernel
theorem dX7_joined_31 : decode cX7_joined 31 = .ok (.iload_n 2, 1) := by decide +kernel
theorem dX7_joined_32 : decode cX7_joined 32 = .ok (.invokevirtual 216, 3) := by decide +kernel
theorem dX7_joined_35 : decode cX7_joined 35 = .ok (.ireturn, 1) := by decide +kernel
set_option maxRecDepth 20000 in
theorem s_CP_joined (E : XE) : Cs E (yX7_joined, cX7_joined, 4, some .int) (k_CP_joined) := (Cs_nd (Cs_nd (Cs_nd (Cs_nd (Cs_lf (sg_aload_n dX7_joined_0 rfl)) (Cs_lf (sg_iload_n dX7_joined_1 rfl))) (Cs_nd (Cs_lf (sg_invV (mid := 105) (ci := 6) (by decide +kernel) dX7_joined_2 ok_105 rfl w_429 w_431 ws_12)) (Cs_nd (Cs_lf (sg_astore_n dX7_joined_5 rfl (by decide))) (Cs_lf (sg_aload_n dX7_joined_6 rfl))))) (Cs_nd (Cs_nd (Cs_lf (sg_ifnull dX7_joined_7 (by decide))) (Cs_lf (sg_aload_n dX7_joined_10 rfl))) (Cs_nd (Cs_lf (sg_getf dX7_joined_11 rfl inX0 (by decide) w_124)) (Cs_nd (Cs_lf (sg_iload_n dX7_joined_14 rfl)) (Cs_lf (sg_invV (mid := 22) (ci := 1) (by decide +kernel) dX7_joined_15 ok_22 rfl w_453 w_374 w_375)))))) (Cs_nd (Cs_nd (Cs_nd (Cs_lf (sg_ifne dX7_joined_18 (by decide))) (Cs_lf (sg_iconst dX7_joined_21 (by decide)))) (Cs_nd (Cs_lf (sg_iret dX7_joined_22 rfl)) (Cs_nd (Cs_lf (sg_aload_n dX7_joined_23 rfl)) (Cs_lf (sg_getf dX7_joined_24 rfl inX7 (by decide) w_166))))) (Cs_nd (Cs_nd (Cs_lf (sg_aload_n dX7_joined_27 rfl)) (Cs_lf (sg_getf dX7_joined_28 rfl inX0 (by decide) w_124))) (Cs_nd (Cs_lf (sg_iload_n dX7_joined_31 rfl)) (Cs_nd (Cs_lf (sg_invV (mid := 38) (ci := 2) (by decide +kernel) dX7_joined_32 ok_38 rfl w_604 w_605 w_606)) (Cs_lf (sg_iret dX7_joined_35 rfl)))))))
theorem dX7_meaning_0 : decode cX7_meaning 0 = .ok (.iload_n 1, 1) := by decide +kernel
theorem dX7_meaning_1 : decode cX7_meaning 1 = .ok (.ifCond .lt 14, 3) := by decide +kernel
theorem dX7_meaning_4 : decode cX7_meaning 4 = .ok (.iload_n 1, 1) := by decide +kernel
theorem dX7_meaning_5 : decode cX7_meaning 5 = .ok (.aload_n 0, 1) := by decide +kernel
theorem dX7_meaning_6 : decode cX7_meaning 6 = .ok (.getfield 35, 3) := by decide +kernel
theorem dX7_meaning_9 : decode cX7_meaning 9 = .ok (.invokevirtual 215, 3) := by decide +kernel
theorem dX7_meaning_12 : decode cX7_meaning 12 = .ok (.if_icmp .lt 5, 3) := by decide +kernel
theorem dX7_meaning_15 : decode cX7_meaning 15 = .ok (.iconst (-1), 1) := by decide +kernel
theorem dX7_meaning_16 : decode cX7_meaning 16 = .ok (.ireturn, 1) := by decide +kernel
theorem dX7_meaning_17 : decode cX7_meaning 17 = .ok (.iload_n 2, 1) := by decide +kernel
theorem dX7_meaning_18 : decode cX7_meaning 18 = .ok (.lookupswitch 41 #[(0, 26), (1, 35)], 26) := by decide +kernel
theorem dX7_meaning_44 : decode cX7_meaning 44 = .ok (.aload_n 0, 1) := by decide +kernel
theorem dX7_meaning_45 : decode cX7_meaning 45 = .ok (.getfield 35, 3) := by decide +kernel
theorem dX7_meaning_48 : decode cX7_meaning 48 = .ok (.iload_n 1, 1) := by decide +kernel
theorem dX7_meaning_49 : decode cX7_meaning 49 = .ok (.invokevirtual 220, 3) := by decide +kernel
theorem dX7_meaning_52 : decode cX7_meaning 52 = .ok (.ireturn, 1) := by decide +kernel
theorem dX7_meaning_53 : decode cX7_meaning 53 = .ok (.aload_n 0, 1) := by decide +kernel
theorem dX7_meaning_54 : decode cX7_meaning 54 = .ok (.iload_n 1, 1) := by decide +kernel
theorem dX7_meaning_55 : decode cX7_meaning 55 = .ok (.invokevirtual 221, 3) := by decide +kernel
theorem dX7_meaning_58 : decode cX7_meaning 58 = .ok (.ireturn, 1) := by decide +kernel
theorem dX7_meaning_59 : decode cX7_meaning 59 = .ok (.bipush (-2), 2) := by decide +kernel
theorem dX7_meaning_61 : decode cX7_meaning 61 = .ok (.ireturn, 1) := by decide +kernel
set_option maxRecDepth 20000 in
theorem s_CP_meaning (E : XE) : Cs E (yX7_meaning, cX7_meaning, 3, some .int) (k_CP_meaning) := (Cs_nd (Cs_nd (Cs_nd (Cs_nd (Cs_lf (sg_iload_n dX7_meaning_0 rfl)) (Cs_lf (sg_iflt dX7_meaning_1 (by decide)))) (Cs_nd (Cs_lf (sg_iload_n dX7_meaning_4 rfl)) (Cs_nd (Cs_lf (sg_aload_n dX7_meaning_5 rfl)) (Cs_lf (sg_getf dX7_meaning_6 rfl inX7 (by decide) w_166))))) (Cs_nd (Cs_nd (Cs_lf (sg_invV (mid := 35) (ci := 2) (by decide +kernel) dX7_meaning_9 ok_35 rfl w_596 w_597 w_598)) (Cs_nd (Cs_lf (sg_clt dX7_meaning_12 (by decide))) (Cs_lf (sg_iconst dX7_meaning_15 (by decide))))) (Cs_nd (Cs_lf (sg_iret dX7_meaning_16 rfl)) (Cs_nd (Cs_lf (sg_iload_n dX7_meaning_17 rfl)) (Cs_lf (sg_lookup dX7_meaning_18 (by decide) rfl (by decide +kernel) (by decide))))))) (Cs_nd (Cs_nd (Cs_nd (Cs_lf (sg_aload_n dX7_meaning_44 rfl)) (Cs_lf (sg_getf dX7_meaning_45 rfl inX7 (by decide) w_166))) (Cs_nd (Cs_lf (sg_iload_n dX7_meaning_48 rfl)) (Cs_nd (Cs_lf (sg_invV (mid := 43) (ci := 2) (by decide +kernel) dX7_meaning_49 ok_43 rfl w_612 w_613 w_614)) (Cs_lf (sg_iret dX7_meaning_52 rfl))))) (Cs_nd (Cs_nd (Cs_lf (sg_aload_n dX7_meaning_53 rfl)) (Cs_nd (Cs_lf (sg_iload_n dX7_meaning_54 rfl)) (Cs_lf (sg_invV (mid := 108) (ci := 6) (by decide +kernel) dX7_meaning_55 ok_108 rfl w_616 w_618 ws_20)))) (Cs_nd (Cs_lf (sg_iret dX7_meaning_58 rfl)) (Cs_nd (Cs_lf (sg_bipush dX7_meaning_59 (by decide))) (Cs_lf (sg_iret dX7_meaning_61 rfl)))))))
theorem dX7_alike_0 : decode cX7_alike 0 = .ok (.aload_n 0, 1) := by decide +kernel
theorem dX7_alike_1 : decode cX7_alike 1 = .ok (.iload_n 1, 1) := by decide +kernel
theorem dX7_alike_2 : decode cX7_alike 2 = .ok (.invokevirtual 85, 3) := by decide +kernel
theorem dX7_alike_5 : decode cX7_alike 5 = .ok (.astore_n 3, 1) := by decide +kernel
theorem dX7_alike_6 : decode cX7_alike 6 = .ok (.aload_n 0, 1) := by decide +kernel
theorem dX7_alike_7 : decode cX7_alike 7 = .ok (.iload_n 2, 1) := by decide +kernel
theorem dX7_alike_8 : decode cX7_alike 8 = .ok (.invokevirtual 85, 3) := by decide +kernel
theorem dX7_alike_11 : decode cX7_alike 11 = .ok (.astore 4, 2) := by decide +kernel
theorem dX7_alike_13 : decode cX7_alike 13 = .ok (.aload_n 3, 1) := by decide +kernel
theorem dX7_alike_14 : decode cX7_alike 14 = .ok (.ifnull 8, 3) := by decide +kernel
theorem dX7_alike_17 : decode cX7_alike 17 = .ok (.aload 4, 2) := by decide +kernel
theorem dX7_alike_19 : decode cX7_alike 19 = .ok (.ifnonnull 5, 3) := by decide +kernel
theorem dX7_alike_22 : decode cX7_alike 22 = .ok (.iconst (-1), 1) := by decide +kernel
theorem dX7_alike_23 : decode cX7_alike 23 = .ok (.ireturn, 1) := by decide +kernel
theorem dX7_alike_24 : decode cX7_alike 24 = .ok (.aload_n 3, 1) := by decide +kernel
theorem dX7_alike_25 : decode cX7_alike 25 = .ok (.getfield 89, 3) := by decide +kernel
theorem dX7_alike_28 : decode cX7_alike 28 = .ok (.iconst 0, 1) := by decide +kernel
theorem dX7_alike_29 : decode cX7_alike 29 = .ok (.aload_n 3, 1) := by decide +kernel
theorem dX7_alike_30 : decode cX7_alike 30 = .ok (.getfield 89, 3) := by decide +kernel
theorem dX7_alike_33 : decode cX7_alike 33 = .ok (.invokevirtual 50, 3) := by decide +kernel
theorem dX7_alike_36 : decode cX7_alike 36 = .ok (.aload 4, 2) := by decide +kernel
theorem dX7_alike_38 : decode cX7_alike 38 = .ok (.getfield 89, 3) := by decide +kernel
theorem dX7_alike_41 : decode cX7_alike 41 = .ok (.iconst 0, 1) := by decide +kernel
theorem dX7_alike_42 : decode cX7_alike 42 = .ok (.aload 4, 2) := by decide +kernel
theorem dX7_alike_44 : decode cX7_alike 44 = .ok (.getfield 89, 3) := by decide +kernel
theorem dX7_alike_47 : decode cX7_alike 47 = .ok (.invokevirtual 50, 3) := by decide +kernel
theorem dX7_alike_50 : decode cX7_alike 50 = .ok (.invokevirtual 224, 3) := by decide +kernel
theorem dX7_alike_53 : decode cX7_alike 53 = .ok (.ifCond .ne 5, 3) := by decide +kernel
theorem dX7_alike_56 : decode cX7_alike 56 = .ok (.iconst 2, 1) := by decide +kernel
theorem dX7_alike_57 : decode cX7_alike 57 = .ok (.ireturn, 1) := by decide +kernel
theorem dX7_alike_58 : decode cX7_alike 58 = .ok (.aload_n 3, 1) := by decide +kernel
theorem dX7_alike_59 : decode cX7_alike 59 = .ok (.aload 4, 2) := by decide +kernel
theorem dX7_alike_61 : decode cX7_alike 61 = .ok (.invokevirtual 228, 3) := by decide +kernel
theorem dX7_alike_64 : decode cX7_alike 64 = .ok (.ifCond .eq 7, 3) := by decide +kernel
theorem dX7_alike_67 : decode cX7_alike 67 = .ok (.iconst 1, 1) := by decide +kernel
theorem dX7_alike_68 : decode cX7_alike 68 = .ok (.goto 4, 3) := by decide +kernel
theorem dX7_alike_71 : decode cX7_alike 71 = .ok (.iconst 0, 1) := by decide +kernel
theorem dX7_alike_72 : decode cX7_alike 72 = .ok (.ireturn, 1) := by decide +kernel
set_option maxRecDepth 20000 in
theorem s_CP_alike (E : XE) : Cs E (yX7_alike, cX7_alike, 5, some .int) (k_CP_alike) := (Cs_nd (Cs_nd (Cs_nd (Cs_nd (Cs_nd (Cs_lf (sg_aload_n dX7_alike_0 rfl)) (Cs_lf (sg_iload_n dX7_alike_1 rfl))) (Cs_nd (Cs_lf (sg_invV (mid := 105) (ci := 6) (by decide +kernel) dX7_alike_2 ok_105 rfl w_429 w_431 ws_12)) (Cs_lf (sg_astore_n dX7_alike_5 rfl (by decide))))) (Cs_nd (Cs_nd (Cs_lf (sg_aload_n dX7_alike_6 rfl)) (Cs_lf (sg_iload_n dX7_alike_7 rfl))) (Cs_nd (Cs_lf (sg_invV (mid := 105) (ci := 6) (by decide +kernel) dX7_alike_8 ok_105 rfl w_429 w_431 ws_12)) (Cs_nd (Cs_lf (sg_astore dX7_alike_11 (by decide))) (Cs_lf (sg_aload_n dX7_alike_13 rfl)))))) (Cs_nd (Cs_nd (Cs_nd (Cs_lf (sg_ifnull dX7_alike_14 (by decide))) (Cs_lf (sg_aload dX7_alike_17))) (Cs_nd (Cs_lf (sg_ifnonnull dX7_alike_19 (by decide))) (Cs_nd (Cs_lf (sg_iconst dX7_alike_22 (by decide))) (Cs_lf (sg_iret dX7_alike_23 rfl))))) (Cs_nd (Cs_nd (Cs_lf (sg_aload_n dX7_alike_24 rfl)) (Cs_lf (sg_getf dX7_alike_25 rfl inX0 (by decide) w_129))) (Cs_nd (Cs_lf (sg_iconst dX7_alike_28 (by decide))) (Cs_nd (Cs_lf (sg_aload_n dX7_alike_29 rfl)) (Cs_lf (sg_getf dX7_alike_30 rfl inX0 (by decide) w_129))))))) (Cs_nd (Cs_nd (Cs_nd (Cs_nd (Cs_lf (sg_invV (mid := 61) (ci := 4) (by decide +kernel) dX7_alike_33 ok_61 rfl w_190 w_191 w_192)) (Cs_lf (sg_aload dX7_alike_36))) (Cs_nd (Cs_lf (sg_getf dX7_alike_38 rfl inX0 (by decide) w_129)) (Cs_lf (sg_iconst dX7_alike_41 (by decide))))) (Cs_nd (Cs_nd (Cs_lf (sg_aload dX7_alike_42)) (Cs_lf (sg_getf dX7_alike_44 rfl inX0 (by decide) w_129))) (Cs_nd (Cs_lf (sg_invV (mid := 61) (ci := 4) (by decide +kernel) dX7_alike_47 ok_61 rfl w_190 w_191 w_192)) (Cs_nd (Cs_lf (sg_invV (mid := 72) (ci := 4) (by decide +kernel) dX7_alike_50 ok_72 rfl w_628 w_579 w_580)) (Cs_lf (sg_ifne dX7_alike_53 (by decide))))))) (Cs_nd (Cs_nd (Cs_nd (Cs_lf (sg_iconst dX7_alike_56 (by decide))) (Cs_lf (sg_iret dX7_alike_57 rfl))) (Cs_nd (Cs_lf (sg_aload_n dX7_alike_58 rfl)) (Cs_nd (Cs_lf (sg_aload dX7_alike_59)) (Cs_lf (sg_invV (mid := 14) (ci := 0) (by decide +kernel) dX7_alike_61 ok_14 rfl w_629 w_630 w_631))))) (Cs_nd (Cs_nd (Cs_lf (sg_ifeq dX7_alike_64 (by decide))) (Cs_lf (sg_iconst dX7_alike_67 (by decide)))) (Cs_nd (Cs_lf (sg_goto dX7_alike_68 (by decide))) (Cs_nd (Cs_lf (sg_iconst dX7_alike_71 (by decide))) (Cs_lf (sg_iret dX7_alike_72 rfl))))))))
theorem dX7_write_0 : decode cX7_write 0 = .ok (.aload_n 0, 1) := by decide +kernel
theorem dX7_write_1 : decode cX7_write 1 = .ok (.iload_n 1, 1) := by decide +kernel
theorem dX7_write_2 : decode cX7_write 2 = .ok (.invokevirtual 85, 3) := by decide +kernel
theorem dX7_write_5 : decode cX7_write 5 = .ok (.astore_n 3, 1) := by decide +kernel
theorem dX7_write_6 : decode cX7_write 6 = .ok (.aload_n 3, 1) := by decide +kernel
theorem dX7_write_7 : decode cX7_write 7 = .ok (.ifnonnull 5, 3) := by decide +kernel
theorem dX7_write_10 : decode cX7_write 10 = .ok (.iconst (-1), 1) := by decide +kernel
theorem dX7_write_11 : decode cX7_write 11 = .ok (.ireturn, 1) := by decide +kernel
theorem dX7_write_12 : decode cX7_write 12 = .ok (.iload_n 2, 1) := by decide +kernel
theorem dX7_write_13 : decode cX7_write 13 = .ok (.ifCond .ne 23, 3) := by decide +kernel
theorem dX7_write_16 : decode cX7_write 16 = .ok (.aload_n 0, 1) := by decide +kernel
theorem dX7_write_17 : decode cX7_write 17 = .ok (.getfield 16, 3) := by decide +kernel
theorem dX7_write_20 : decode cX7_write 20 = .ok (.aload_n 3, 1) := by decide +kernel
theorem dX7_write_21 : decode cX7_write 21 = .ok (.getfield 89, 3) := by decide +kernel
theorem dX7_write_24 : decode cX7_write 24 = .ok (.iconst 0, 1) := by decide +kernel
theorem dX7_write_25 : decode cX7_write 25 = .ok (.aload_n 3, 1) := by decide +kernel
theorem dX7_write_26 : decode cX7_write 26 = .ok (.getfield 89, 3) := by decide +kernel
theorem dX7_write_29 : decode cX7_write 29 = .ok (.invokevirtual 50, 3) := by decide +kernel
theorem dX7_write_32 : decode cX7_write 32 = .ok (.invokevirtual 200, 3) := by decide +kernel
theorem dX7_write_35 : decode cX7_write 35 = .ok (.ireturn, 1) := by decide +kernel
theorem dX7_write_36 : decode cX7_write 36 = .ok (.iload_n 2, 1) := by decide +kernel
theorem dX7_write_37 : decode cX7_write 37 = .ok (.iconst 1, 1) := by decide +kernel
theorem dX7_write_38 : decode cX7_write 38 = .ok (.if_icmp .eq 6, 3) := by decide +kernel
theorem dX7_write_41 : decode cX7_write 41 = .ok (.bipush (-2), 2) := by decide +kernel
theorem dX7_write_43 : decode cX7_write 43 = .ok (.ireturn, 1) := by decide +kernel
theorem dX7_write_44 : decode cX7_write 44 = .ok (.aload_n 0, 1) := by decide +kernel
theorem dX7_write_45 : decode cX7_write 45 = .ok (.getfield 39, 3) := by decide +kernel
theorem dX7_write_48 : decode cX7_write 48 = .ok (.invokevirtual 210, 3) := by decide +kernel
theorem dX7_write_51 : decode cX7_write 51 = .ok (.aload_n 0, 1) := by decide +kernel
theorem dX7_write_52 : decode cX7_write 52 = .ok (.getfield 39, 3) := by decide +kernel
theorem dX7_write_55 : decode cX7_write 55 = .ok (.aload_n 3, 1) := by decide +kernel
theorem dX7_write_56 : decode cX7_write 56 = .ok (.getfield 96, 3) := by decide +kernel
theorem dX7_write_59 : decode cX7_write 59 = .ok (.invokevirtual 211, 3) := by decide +kernel
theorem dX7_write_62 : decode cX7_write 62 = .ok (.pop, 1) := by decide +kernel
theorem dX7_write_63 : decode cX7_write 63 = .ok (.aload_n 0, 1) := by decide +kernel
theorem dX7_write_64 : decode cX7_write 64 = .ok (.getfield 45, 3) := by decide +kernel
theorem dX7_write_67 : decode cX7_write 67 = .ok (.aload_n 3, 1) := by decide +kernel
theorem dX7_write_68 : decode cX7_write 68 = .ok (.aload_n 0, 1) := by decide +kernel
theorem dX7_write_69 : decode cX7_write 69 = .ok (.getfield 39, 3) := by decide +kernel
theorem dX7_write_72 : decode cX7_write 72 = .ok (.invokevirtual 232, 3) := by decide +kernel
theorem dX7_write_75 : decode cX7_write 75 = .ok (.istore 4, 2) := by decide +kernel
theorem dX7_write_77 : decode cX7_write 77 = .ok (.aload_n 0, 1) := by decide +kernel
theorem dX7_write_78 : decode cX7_write 78 = .ok (.getfield 45, 3) := by decide +kernel
theorem dX7_write_81 : decode cX7_write 81 = .ok (.aload_n 3, 1) := by decide +kernel
theorem dX7_write_82 : decode cX7_write 82 = .ok (.aload_n 0, 1) := by decide +kernel
theorem dX7_write_83 : decode cX7_write 83 = .ok (.getfield 39, 3) := by decide +kernel
theorem dX7_write_86 : decode cX7_write 86 = .ok (.iload 4, 2) := by decide +kernel
theorem dX7_write_88 : decode cX7_write 88 = .ok (.aload_n 0, 1) := by decide +kernel
theorem dX7_write_89 : decode cX7_write 89 = .ok (.getfield 16, 3) := by decide +kernel
theorem dX7_write_92 : decode cX7_write 92 = .ok (.invokevirtual 236, 3) := by decide +kernel
theorem dX7_write_95 : decode cX7_write 95 = .ok (.ireturn, 1) := by decide +kernel
set_option maxRecDepth 20000 in
theorem s_CP_write (E : XE) : Cs E (yX7_write, cX7_write, 5, some .int) (k_CP_write) := (Cs_nd (Cs_nd (Cs_nd (Cs_nd (Cs_nd (Cs_lf (sg_aload_n dX7_write_0 rfl)) (Cs_nd (Cs_lf (sg_iload_n dX7_write_1 rfl)) (Cs_lf (sg_invV (mid := 105) (ci := 6) (by decide +kernel) dX7_write_2 ok_105 rfl w_429 w_431 ws_12)))) (Cs_nd (Cs_lf (sg_astore_n dX7_write_5 rfl (by decide))) (Cs_nd (Cs_lf (sg_aload_n dX7_write_6 rfl)) (Cs_lf (sg_ifnonnull dX7_write_7 (by decide)))))) (Cs_nd (Cs_nd (Cs_lf (sg_iconst dX7_write_10 (by decide))) (Cs_nd (Cs_lf (sg_iret dX7_write_11 rfl)) (Cs_lf (sg_iload_n dX7_write_12 rfl)))) (Cs_nd (Cs_lf (sg_ifne dX7_write_13 (by decide))) (Cs_nd (Cs_lf (sg_aload_n dX7_write_16 rfl)) (Cs_lf (sg_getf dX7_write_17 rfl inX7 (by decide) w_162)))))) (Cs_nd (Cs_nd (Cs_nd (Cs_lf (sg_aload_n dX7_write_20 rfl)) (Cs_nd (Cs_lf (sg_getf dX7_write_21 rfl inX0 (by decide) w_129)) (Cs_lf (sg_iconst dX7_write_24 (by decide))))) (Cs_nd (Cs_lf (sg_aload_n dX7_write_25 rfl)) (Cs_nd (Cs_lf (sg_getf dX7_write_26 rfl inX0 (by decide) w_129)) (Cs_lf (sg_invV (mid := 61) (ci := 4) (by decide +kernel) dX7_write_29 ok_61 rfl w_190 w_191 w_192))))) (Cs_nd (Cs_nd (Cs_lf (sg_invV (mid := 71) (ci := 4) (by decide +kernel) dX7_write_32 ok_71 rfl w_477 w_208 w_209)) (Cs_nd (Cs_lf (sg_iret dX7_write_35 rfl)) (Cs_lf (sg_iload_n dX7_write_36 rfl)))) (Cs_nd (Cs_nd (Cs_lf (sg_iconst dX7_write_37 (by decide))) (Cs_lf (sg_ceq dX7_write_38 (by decide)))) (Cs_nd (Cs_lf (sg_bipush dX7_write_41 (by decide))) (Cs_lf (sg_iret dX7_write_43 rfl))))))) (Cs_nd (Cs_nd (Cs_nd (Cs_nd (Cs_lf (sg_aload_n dX7_write_44 rfl)) (Cs_nd (Cs_lf (sg_getf dX7_write_45 rfl inX7 (by decide) w_167)) (Cs_lf (sg_invV (mid := 34) (ci := 2) (by decide +kernel) dX7_write_48 ok_34 rfl w_528 w_529 w_530)))) (Cs_nd (Cs_lf (sg_aload_n dX7_write_51 rfl)) (Cs_nd (Cs_lf (sg_getf dX7_write_52 rfl inX7 (by decide) w_167)) (Cs_lf (sg_aload_n dX7_write_55 rfl))))) (Cs_nd (Cs_nd (Cs_lf (sg_getf dX7_write_56 rfl inX0 (by decide) w_124)) (Cs_nd (Cs_lf (sg_invV (mid := 36) (ci := 2) (by decide +kernel) dX7_write_59 ok_36 rfl w_532 w_533 w_534)) (Cs_lf (sg_pop dX7_write_62)))) (Cs_nd (Cs_nd (Cs_lf (sg_aload_n dX7_write_63 rfl)) (Cs_lf (sg_getf dX7_write_64 rfl inX7 (by decide) w_168))) (Cs_nd (Cs_lf (sg_aload_n dX7_write_67 rfl)) (Cs_lf (sg_aload_n dX7_write_68 rfl)))))) (Cs_nd (Cs_nd (Cs_nd (Cs_lf (sg_getf dX7_write_69 rfl inX7 (by decide) w_167)) (Cs_nd (Cs_lf (sg_invV (mid := 81) (ci := 5) (by decide +kernel) dX7_write_72 ok_81 rfl w_644 w_645 w_646)) (Cs_lf (sg_istore dX7_write_75 (by decide))))) (Cs_nd (Cs_lf (sg_aload_n dX7_write_77 rfl)) (Cs_nd (Cs_lf (sg_getf dX7_write_78 rfl inX7 (by decide) w_168)) (Cs_lf (sg_aload_n dX7_write_81 rfl))))) (Cs_nd (Cs_nd (Cs_lf (sg_aload_n dX7_write_82 rfl)) (Cs_nd (Cs_lf (sg_getf dX7_write_83 rfl inX7 (by decide) w_167)) (Cs_lf (sg_iload dX7_write_86)))) (Cs_nd (Cs_nd (Cs_lf (sg_aload_n dX7_write_88 rfl)) (Cs_lf (sg_getf dX7_write_89 rfl inX7 (by decide) w_162))) (Cs_nd (Cs_lf (sg_invV (mid := 82) (ci := 5) (by decide +kernel) dX7_write_92 ok_82 rfl w_654 w_655 w_656)) (Cs_lf (sg_iret dX7_write_95 rfl))))))))
theorem dX7_back_0 : decode cX7_back 0 = .ok (.aload_n 0, 1) := by decide +kernel
theorem dX7_back_1 : decode cX7_back 1 = .ok (.getfield 12, 3) := by decide +kernel
theorem dX7_back_4 : decode cX7_back 4 = .ok (.aload_n 0, 1) := by decide +kernel
theorem dX7_back_5 : decode cX7_back 5 = .ok (.getfield 16, 3) := by decide +kernel
theorem dX7_back_8 : decode cX7_back 8 = .ok (.iconst 0, 1) := by decide +kernel
theorem dX7_back_9 : decode cX7_back 9 = .ok (.aload_n 0, 1) := by decide +kernel
theorem dX7_back_10 : decode cX7_back 10 = .ok (.getfield 16, 3) := by decide +kernel
theorem dX7_back_13 : decode cX7_back 13 = .ok (.invokevirtual 50, 3) := by decide +kernel
theorem dX7_back_16 : decode cX7_back 16 = .ok (.invokevirtual 200, 3) := by decide +kernel
theorem dX7_back_19 : decode cX7_back 19 = .ok (.ireturn, 1) := by decide +kernel
set_option maxRecDepth 20000 in
theorem s_CP_back (E : XE) : Cs E (yX7_back, cX7_back, 1, some .int) (k_CP_back) := (Cs_nd (Cs_nd (Cs_nd (Cs_lf (sg_aload_n dX7_back_0 rfl)) (Cs_lf (sg_getf dX7_back_1 rfl inX7 (by decide) w_161))) (Cs_nd (Cs_lf (sg_aload_n dX7_back_4 rfl)) (Cs_nd (Cs_lf (sg_getf dX7_back_5 rfl inX7 (by decide) w_162)) (Cs_lf (sg_iconst dX7_back_8 (by decide)))))) (Cs_nd (Cs_nd (Cs_lf (sg_aload_n dX7_back_9 rfl)) (Cs_lf (sg_getf dX7_back_10 rfl inX7 (by decide) w_162))) (Cs_nd (Cs_lf (sg_invV (mid := 61) (ci := 4) (by decide +kernel) dX7_back_13 ok_61 rfl w_190 w_191 w_192)) (Cs_nd (Cs_lf (sg_invV (mid := 71) (ci := 4) (by decide +kernel) dX7_back_16 ok_71 rfl w_477 w_208 w_209)) (Cs_lf (sg_iret dX7_back_19 rfl))))))
theorem dX7_fileAt_0 : decode cX7_fileAt 0 = .ok (.iload_n 1, 1) := by decide +kernel
theorem dX7_fileAt_1 : decode cX7_fileAt 1 = .ok (.ifCond .lt 29, 3) := by decide +kernel
theorem dX7_fileAt_4 : decode cX7_fileAt 4 = .ok (.iload_n 1, 1) := by decide +kernel
theorem dX7_fileAt_5 : decode cX7_fileAt 5 = .ok (.aload_n 0, 1) := by decide +kernel
theorem dX7_fileAt_6 : decode cX7_fileAt 6 = .ok (.getfield 25, 3) := by decide +kernel
theorem dX7_fileAt_9 : decode cX7_fileAt 9 = .ok (.if_icmp .ge 21, 3) := by decide +kernel
theorem dX7_fileAt_12 : decode cX7_fileAt 12 = .ok (.iload_n 1, 1) := by decide +kernel
theorem dX7_fileAt_13 : decode cX7_fileAt 13 = .ok (.aload_n 0, 1) := by decide +kernel
theorem dX7_fileAt_14 : decode cX7_fileAt 14 = .ok (.getfield 21, 3) := by decide +kernel
theorem dX7_fileAt_17 : decode cX7_fileAt 17 = .ok (.arraylength, 1) := by decide +kernel
theorem dX7_fileAt_18 : decode cX7_fileAt 18 = .ok (.if_icmp .ge 12, 3) := by decide +kernel
theorem dX7_fileAt_21 : decode cX7_fileAt 21 = .ok (.aload_n 0, 1) := by decide +kernel
theorem dX7_fileAt_22 : decode cX7_fileAt 22 = .ok (.getfield 21, 3) := by decide +kernel
theorem dX7_fileAt_25 : decode cX7_fileAt 25 = .ok (.iload_n 1, 1) := by decide +kernel
theorem dX7_fileAt_26 : decode cX7_fileAt 26 = .ok (.aaload, 1) := by decide +kernel
theorem dX7_fileAt_27 : decode cX7_fileAt 27 = .ok (.goto 4, 3) := by decide +kernel
theorem dX7_fileAt_30 : decode cX7_fileAt 30 = .ok (.aconst_null, 1) := by decide +kernel
theorem dX7_fileAt_31 : decode cX7_fileAt 31 = .ok (.areturn, 1) := by decide +kernel
set_option maxRecDepth 20000 in
theorem s_CP_fileAt (E : XE) : Cs E (yX7_fileAt, cX7_fileAt, 2, some (.object "ClassPools$ClassFile")) (k_CP_fileAt) := (Cs_nd (Cs_nd (Cs_nd (Cs_nd (Cs_lf (sg_iload_n dX7_fileAt_0 rfl)) (Cs_lf (sg_iflt dX7_fileAt_1 (by decide)))) (Cs_nd (Cs_lf (sg_iload_n dX7_fileAt_4 rfl)) (Cs_lf (sg_aload_n dX7_fileAt_5 rfl)))) (Cs_nd (Cs_nd (Cs_lf (sg_getf dX7_fileAt_6 rfl inX7 (by decide) w_164)) (Cs_lf (sg_cge dX7_fileAt_9 (by decide)))) (Cs_nd (Cs_lf (sg_iload_n dX7_fileAt_12 rfl)) (Cs_nd (Cs_lf (sg_aload_n dX7_fileAt_13 rfl)) (Cs_lf (sg_getf dX7_fileAt_14 rfl inX7 (by decide) w_163)))))) (Cs_nd (Cs_nd (Cs_nd (Cs_lf (sg_alen dX7_fileAt_17)) (Cs_lf (sg_cge dX7_fileAt_18 (by decide)))) (Cs_nd (Cs_lf (sg_aload_n dX7_fileAt_21 rfl)) (Cs_lf (sg_getf dX7_fileAt_22 rfl inX7 (by decide) w_163)))) (Cs_nd (Cs_nd (Cs_lf (sg_iload_n dX7_fileAt_25 rfl)) (Cs_lf (sg_aald dX7_fileAt_26))) (Cs_nd (Cs_lf (sg_goto dX7_fileAt_27 (by decide))) (Cs_nd (Cs_lf (sg_null dX7_fileAt_30)) (Cs_lf (sg_aret dX7_fileAt_31 rfl (Or.inl ⟨_, rfl⟩))))))))
theorem dX7_showText_0 : decode cX7_showText 0 = .ok (.aload_n 0, 1) := by decide +kernel
theorem dX7_showText_1 : decode cX7_showText 1 = .ok (.getfield 16, 3) := by decide +kernel
theorem dX7_showText_4 : decode cX7_showText 4 = .ok (.aload_n 1, 1) := by decide +kernel
theorem dX7_showText_5 : decode cX7_showText 5 = .ok (.getfield 89, 3) := by decide +kernel
theorem dX7_showText_8 : decode cX7_showText 8 = .ok (.aload_n 1, 1) := by decide +kernel
theorem dX7_showText_9 : decode cX7_showText 9 = .ok (.getfield 96, 3) := by decide +kernel
theorem dX7_showText_12 : decode cX7_showText 12 = .ok (.iload_n 2, 1) := by decide +kernel
theorem dX7_showText_13 : decode cX7_showText 13 = .ok (.invokevirtual 180, 3) := by decide +kernel
theorem dX7_showText_16 : decode cX7_showText 16 = .ok (.aload_n 1, 1) := by decide +kernel
theorem dX7_showText_17 : decode cX7_showText 17 = .ok (.getfield 96, 3) := by decide +kernel
theorem dX7_showText_20 : decode cX7_showText 20 = .ok (.iload_n 2, 1) := by decide +kernel
theorem dX7_showText_21 : decode cX7_showText 21 = .ok (.invokevirtual 130, 3) := by decide +kernel
theorem dX7_showText_24 : decode cX7_showText 24 = .ok (.invokevirtual 200, 3) := by decide +kernel
theorem dX7_showText_27 : decode cX7_showText 27 = .ok (.ireturn, 1) := by decide +kernel
set_option maxRecDepth 20000 in
theorem s_CP_showText (E : XE) : Cs E (yX7_showText, cX7_showText, 3, some .int) (k_CP_showText) := (Cs_nd (Cs_nd (Cs_nd (Cs_lf (sg_aload_n dX7_showText_0 rfl)) (Cs_nd (Cs_lf (sg_getf dX7_showText_1 rfl inX7 (by decide) w_162)) (Cs_lf (sg_aload_n dX7_showText_4 rfl)))) (Cs_nd (Cs_nd (Cs_lf (sg_getf dX7_showText_5 rfl inX0 (by decide) w_129)) (Cs_lf (sg_aload_n dX7_showText_8 rfl))) (Cs_nd (Cs_lf (sg_getf dX7_showText_9 rfl inX0 (by decide) w_124)) (Cs_lf (sg_iload_n dX7_showText_12 rfl))))) (Cs_nd (Cs_nd (Cs_lf (sg_invV (mid := 26) (ci := 1) (by decide +kernel) dX7_showText_13 ok_26 rfl w_476 w_392 w_393)) (Cs_nd (Cs_lf (sg_aload_n dX7_showText_16 rfl)) (Cs_lf (sg_getf dX7_showText_17 rfl inX0 (by decide) w_124)))) (Cs_nd (Cs_nd (Cs_lf (sg_iload_n dX7_showText_20 rfl)) (Cs_lf (sg_invV (mid := 27) (ci := 1) (by decide +kernel) dX7_showText_21 ok_27 rfl w_462 w_396 w_397))) (Cs_nd (Cs_lf (sg_invV (mid := 71) (ci := 4) (by decide +kernel) dX7_showText_24 ok_71 rfl w_477 w_208 w_209)) (Cs_lf (sg_iret dX7_showText_27 rfl))))))
theorem dX7_showClass_0 : decode cX7_showClass 0 = .ok (.aload_n 1, 1) := by decide +kernel
theorem dX7_showClass_1 : decode cX7_showClass 1 = .ok (.iload_n 2, 1) := by decide +kernel
theorem dX7_showClass_2 : decode cX7_showClass 2 = .ok (.invokevirtual 239, 3) := by decide +kernel
theorem dX7_showClass_5 : decode cX7_showClass 5 = .ok (.istore 4, 2) := by decide +kernel
theorem dX7_showClass_7 : decode cX7_showClass 7 = .ok (.iload 4, 2) := by decide +kernel
theorem dX7_showClass_9 : decode cX7_showClass 9 = .ok (.ifCond .ne 5, 3) := by decide +kernel
theorem dX7_showClass_12 : decode cX7_showClass 12 = .ok (.iconst (-1), 1) := by decide +kernel
theorem dX7_showClass_13 : decode cX7_showClass 13 = .ok (.ireturn, 1) := by decide +kernel
theorem dX7_showClass_14 : decode cX7_showClass 14 = .ok (.iload_n 3, 1) := by decide +kernel
theorem dX7_showClass_15 : decode cX7_showClass 15 = .ok (.ifCond .ne 21, 3) := by decide +kernel
theorem dX7_showClass_18 : decode cX7_showClass 18 = .ok (.aload_n 0, 1) := by decide +kernel
theorem dX7_showClass_19 : decode cX7_showClass 19 = .ok (.aload_n 1, 1) := by decide +kernel
theorem dX7_showClass_20 : decode cX7_showClass 20 = .ok (.aload_n 1, 1) := by decide +kernel
theorem dX7_showClass_21 : decode cX7_showClass 21 = .ok (.getfield 96, 3) := by decide +kernel
theorem dX7_showClass_24 : decode cX7_showClass 24 = .ok (.iload 4, 2) := by decide +kernel
theorem dX7_showClass_26 : decode cX7_showClass 26 = .ok (.iconst 0, 1) := by decide +kernel
theorem dX7_showClass_27 : decode cX7_showClass 27 = .ok (.invokevirtual 166, 3) := by decide +kernel
theorem dX7_showClass_30 : decode cX7_showClass 30 = .ok (.invokevirtual 169, 3) := by decide +kernel
theorem dX7_showClass_33 : decode cX7_showClass 33 = .ok (.goto 5, 3) := by decide +kernel
theorem dX7_showClass_36 : decode cX7_showClass 36 = .ok (.bipush (-2), 2) := by decide +kernel
theorem dX7_showClass_38 : decode cX7_showClass 38 = .ok (.ireturn, 1) := by decide +kernel
set_option maxRecDepth 20000 in
theorem s_CP_showClass (E : XE) : Cs E (yX7_showClass, cX7_showClass, 5, some .int) (k_CP_showClass) := (Cs_nd (Cs_nd (Cs_nd (Cs_nd (Cs_lf (sg_aload_n dX7_showClass_0 rfl)) (Cs_lf (sg_iload_n dX7_showClass_1 rfl))) (Cs_nd (Cs_lf (sg_invV (mid := 11) (ci := 0) (by decide +kernel) dX7_showClass_2 ok_11 rfl w_486 w_487 w_488)) (Cs_nd (Cs_lf (sg_istore dX7_showClass_5 (by decide))) (Cs_lf (sg_iload dX7_showClass_7))))) (Cs_nd (Cs_nd (Cs_lf (sg_ifne dX7_showClass_9 (by decide))) (Cs_lf (sg_iconst dX7_showClass_12 (by decide)))) (Cs_nd (Cs_lf (sg_iret dX7_showClass_13 rfl)) (Cs_nd (Cs_lf (sg_iload_n dX7_showClass_14 rfl)) (Cs_lf (sg_ifne dX7_showClass_15 (by decide))))))) (Cs_nd (Cs_nd (Cs_nd (Cs_lf (sg_aload_n dX7_showClass_18 rfl)) (Cs_lf (sg_aload_n dX7_showClass_19 rfl))) (Cs_nd (Cs_lf (sg_aload_n dX7_showClass_20 rfl)) (Cs_nd (Cs_lf (sg_getf dX7_showClass_21 rfl inX0 (by decide) w_124)) (Cs_lf (sg_iload dX7_showClass_24))))) (Cs_nd (Cs_nd (Cs_lf (sg_iconst dX7_showClass_26 (by decide))) (Cs_nd (Cs_lf (sg_invV (mid := 31) (ci := 1) (by decide +kernel) dX7_showClass_27 ok_31 rfl w_468 w_469 w_470)) (Cs_lf (sg_invV (mid := 106) (ci := 6) (by decide +kernel) dX7_showClass_30 ok_106 rfl w_472 w_474 ws_13)))) (Cs_nd (Cs_lf (sg_goto dX7_showClass_33 (by decide))) (Cs_nd (Cs_lf (sg_bipush dX7_showClass_36 (by decide))) (Cs_lf (sg_iret dX7_showClass_38 rfl)))))))
theorem dX7_placesOf_0 : decode cX7_placesOf 0 = .ok (.iconst 0, 1) := by decide +kernel
theorem dX7_placesOf_1 : decode cX7_placesOf 1 = .ok (.istore_n 2, 1) := by decide +kernel
theorem dX7_placesOf_2 : decode cX7_placesOf 2 = .ok (.iconst 0, 1) := by decide +kernel
theorem dX7_placesOf_3 : decode cX7_placesOf 3 = .ok (.istore_n 3, 1) := by decide +kernel
theorem dX7_placesOf_4 : decode cX7_placesOf 4 = .ok (.iload_n 3, 1) := by decide +kernel
theorem dX7_placesOf_5 : decode cX7_placesOf 5 = .ok (.aload_n 0, 1) := by decide +kernel
theorem dX7_placesOf_6 : decode cX7_placesOf 6 = .ok (.getfield 25, 3) := by decide +kernel
theorem dX7_placesOf_9 : decode cX7_placesOf 9 = .ok (.if_icmp .ge 37, 3) := by decide +kernel
theorem dX7_placesOf_12 : decode cX7_placesOf 12 = .ok (.aload_n 0, 1) := by decide +kernel
theorem dX7_placesOf_13 : decode cX7_placesOf 13 = .ok (.iload_n 3, 1) := by decide +kernel
theorem dX7_placesOf_14 : decode cX7_placesOf 14 = .ok (.invokevirtual 85, 3) := by decide +kernel
theorem dX7_placesOf_17 : decode cX7_placesOf 17 = .ok (.astore 4, 2) := by decide +kernel
theorem dX7_placesOf_19 : decode cX7_placesOf 19 = .ok (.aload 4, 2) := by decide +kernel
theorem dX7_placesOf_21 : decode cX7_placesOf 21 = .ok (.ifnull 19, 3) := by decide +kernel
theorem dX7_placesOf_24 : decode cX7_placesOf 24 = .ok (.iload_n 2, 1) := by decide +kernel
theorem dX7_placesOf_25 : decode cX7_placesOf 25 = .ok (.aload_n 0, 1) := by decide +kernel
theorem dX7_placesOf_26 : decode cX7_placesOf 26 = .ok (.getfield 35, 3) := by decide +kernel
theorem dX7_placesOf_29 : decode cX7_placesOf 29 = .ok (.iload_n 1, 1) := by decide +kernel
theorem dX7_placesOf_30 : decode cX7_placesOf 30 = .ok (.aload 4, 2) := by decide +kernel
theorem dX7_placesOf_32 : decode cX7_placesOf 32 = .ok (.getfield 96, 3) := by decide +kernel
theorem dX7_placesOf_35 : decode cX7_placesOf 35 = .ok (.invokevirtual 242, 3) := by decide +kernel
theorem dX7_placesOf_38 : decode cX7_placesOf 38 = .ok (.iadd, 1) := by decide +kernel
theorem dX7_placesOf_39 : decode cX7_placesOf 39 = .ok (.istore_n 2, 1) := by decide +kernel
theorem dX7_placesOf_40 : decode cX7_placesOf 40 = .ok (.iinc 3 1, 3) := by decide +kernel
theorem dX7_placesOf_43 : decode cX7_placesOf 43 = .ok (.goto (-39), 3) := by decide +kernel
theorem dX7_placesOf_46 : decode cX7_placesOf 46 = .ok (.iload_n 2, 1) := by decide +kernel
theorem dX7_placesOf_47 : decode cX7_placesOf 47 = .ok (.ireturn, 1) := by decide +kernel
set_option maxRecDepth 20000 in
theorem s_CP_placesOf (E : XE) : Cs E (yX7_placesOf, cX7_placesOf, 5, some .int) (k_CP_placesOf) := (Cs_nd (Cs_nd (Cs_nd (Cs_nd (Cs_lf (sg_iconst dX7_placesOf_0 (by decide))) (Cs_nd (Cs_lf (sg_istore_n dX7_placesOf_1 rfl (by decide))) (Cs_lf (sg_iconst dX7_placesOf_2 (by decide))))) (Cs_nd (Cs_lf (sg_istore_n dX7_placesOf_3 rfl (by decide))) (Cs_nd (Cs_lf (sg_iload_n dX7_placesOf_4 rfl)) (Cs_lf (sg_aload_n dX7_placesOf_5 rfl))))) (Cs_nd (Cs_nd (Cs_lf (sg_getf dX7_placesOf_6 rfl inX7 (by decide) w_164)) (Cs_nd (Cs_lf (sg_cge dX7_placesOf_9 (by decide))) (Cs_lf (sg_aload_n dX7_placesOf_12 rfl)))) (Cs_nd (Cs_nd (Cs_lf (sg_iload_n dX7_placesOf_13 rfl)) (Cs_lf (sg_invV (mid := 105) (ci := 6) (by decide +kernel) dX7_placesOf_14 ok_105 rfl w_429 w_431 ws_12))) (Cs_nd (Cs_lf (sg_astore dX7_placesOf_17 (by decide))) (Cs_lf (sg_aload dX7_placesOf_19)))))) (Cs_nd (Cs_nd (Cs_nd (Cs_lf (sg_ifnull dX7_placesOf_21 (by decide))) (Cs_nd (Cs_lf (sg_iload_n dX7_placesOf_24 rfl)) (Cs_lf (sg_aload_n dX7_placesOf_25 rfl)))) (Cs_nd (Cs_nd (Cs_lf (sg_getf dX7_placesOf_26 rfl inX7 (by decide) w_166)) (Cs_lf (sg_iload_n dX7_placesOf_29 rfl))) (Cs_nd (Cs_lf (sg_aload dX7_placesOf_30)) (Cs_lf (sg_getf dX7_placesOf_32 rfl inX0 (by decide) w_124))))) (Cs_nd (Cs_nd (Cs_lf (sg_invV (mid := 44) (ci := 2) (by decide +kernel) dX7_placesOf_35 ok_44 rfl w_620 w_621 w_622)) (Cs_nd (Cs_lf (sg_iadd dX7_placesOf_38)) (Cs_lf (sg_istore_n dX7_placesOf_39 rfl (by decide))))) (Cs_nd (Cs_nd (Cs_lf (sg_iinc dX7_placesOf_40 (by decide) (by decide))) (Cs_lf (sg_goto dX7_placesOf_43 (by decide)))) (Cs_nd (Cs_lf (sg_iload_n dX7_placesOf_46 rfl)) (Cs_lf (sg_iret dX7_placesOf_47 rfl)))))))
theorem dX7_isNumber_0 : decode cX7_isNumber 0 = .ok (.iload_n 0, 1) := by decide +kernel
theorem dX7_isNumber_1 : decode cX7_isNumber 1 = .ok (.iconst 3, 1) := by decide +kernel
theorem dX7_isNumber_2 : decode cX7_isNumber 2 = .ok (.if_icmp .lt 13, 3) := by decide +kernel
theorem dX7_isNumber_5 : decode cX7_isNumber 5 = .ok (.iload_n 0, 1) := by decide +kernel
theorem dX7_isNumber_6 : decode cX7_isNumber 6 = .ok (.bipush 6, 2) := by decide +kernel
theorem dX7_isNumber_8 : decode cX7_isNumber 8 = .ok (.if_icmp .gt 7, 3) := by decide +kernel
theorem dX7_isNumber_11 : decode cX7_isNumber 11 = .ok (.iconst 1, 1) := by decide +kernel
theorem dX7_isNumber_12 : decode cX7_isNumber 12 = .ok (.goto 4, 3) := by decide +kernel
theorem dX7_isNumber_15 : decode cX7_isNumber 15 = .ok (.iconst 0, 1) := by decide +kernel
theorem dX7_isNumber_16 : decode cX7_isNumber 16 = .ok (.ireturn, 1) := by decide +kernel
set_option maxRecDepth 20000 in
theorem s_CP_isNumber (E : XE) : Cs E (yX7_isNumber, cX7_isNumber, 1, some .boolean) (k_CP_isNumber) := (Cs_nd (Cs_nd (Cs_nd (Cs_lf (sg_iload_n dX7_isNumber_0 rfl)) (Cs_lf (sg_iconst dX7_isNumber_1 (by decide)))) (Cs_nd (Cs_lf (sg_clt dX7_isNumber_2 (by decide))) (Cs_nd (Cs_lf (sg_iload_n dX7_isNumber_5 rfl)) (Cs_lf (sg_bipush dX7_isNumber_6 (by decide)))))) (Cs_nd (Cs_nd (Cs_lf (sg_cgt dX7_isNumber_8 (by decide))) (Cs_lf (sg_iconst dX7_isNumber_11 (by decide)))) (Cs_nd (Cs_lf (sg_goto dX7_isNumber_12 (by decide))) (Cs_nd (Cs_lf (sg_iconst dX7_isNumber_15 (by decide))) (Cs_lf (sg_zret dX7_isNumber_16 rfl ⟨by decide, by decide⟩))))))
theorem dX7_isWide_0 : decode cX7_isWide 0 = .ok (.iload_n 0, 1) := by decide +kernel
theorem dX7_isWide_1 : decode cX7_isWide 1 = .ok (.iconst 5, 1) := by decide +kernel
theorem dX7_isWide_2 : decode cX7_isWide 2 = .ok (.if_icmp .eq 9, 3) := by decide +kernel
theorem dX7_isWide_5 : decode cX7_isWide 5 = .ok (.iload_n 0, 1) := by decide +kernel
theorem dX7_isWide_6 : decode cX7_isWide 6 = .ok (.bipush 6, 2) := by decide +kernel
theorem dX7_isWide_8 : decode cX7_isWide 8 = .ok (.if_icmp .ne 7, 3) := by decide +kernel
theorem dX7_isWide_11 : decode cX7_isWide 11 = .ok (.iconst 1, 1) := by decide +kernel
theorem dX7_isWide_12 : decode cX7_isWide 12 = .ok (.goto 4, 3) := by decide +kernel
theorem dX7_isWide_15 : decode cX7_isWide 15 = .ok (.iconst 0, 1) := by decide +kernel
theorem dX7_isWide_16 : decode cX7_isWide 16 = .ok (.ireturn, 1) := by decide +kernel
set_option maxRecDepth 20000 in
theorem s_CP_isWide (E : XE) : Cs E (yX7_isWide, cX7_isWide, 1, some .boolean) (k_CP_isWide) := (Cs_nd (Cs_nd (Cs_nd (Cs_lf (sg_iload_n dX7_isWide_0 rfl)) (Cs_lf (sg_iconst dX7_isWide_1 (by decide)))) (Cs_nd (Cs_lf (sg_ceq dX7_isWide_2 (by decide))) (Cs_nd (Cs_lf (sg_iload_n dX7_isWide_5 rfl)) (Cs_lf (sg_bipush dX7_isWide_6 (by decide)))))) (Cs_nd (Cs_nd (Cs_lf (sg_cne dX7_isWide_8 (by decide))) (Cs_lf (sg_iconst dX7_isWide_11 (by decide)))) (Cs_nd (Cs_lf (sg_goto dX7_isWide_12 (by decide))) (Cs_nd (Cs_lf (sg_iconst dX7_isWide_15 (by decide))) (Cs_lf (sg_zret dX7_isWide_16 rfl ⟨by decide, by decide⟩))))))
theorem dX7_isTag_0 : decode cX7_isTag 0 = .ok (.iload_n 0, 1) := by decide +kernel
theorem dX7_isTag_1 : decode cX7_isTag 1 = .ok (.iconst 1, 1) := by decide +kernel
theorem dX7_isTag_2 : decode cX7_isTag 2 = .ok (.if_icmp .eq 14, 3) := by decide +kernel
theorem dX7_isTag_5 : decode cX7_isTag 5 = .ok (.iload_n 0, 1) := by decide +kernel
theorem dX7_isTag_6 : decode cX7_isTag 6 = .ok (.iconst 3, 1) := by decide +kernel
theorem dX7_isTag_7 : decode cX7_isTag 7 = .ok (.if_icmp .lt 13, 3) := by decide +kernel
theorem dX7_isTag_10 : decode cX7_isTag 10 = .ok (.iload_n 0, 1) := by decide +kernel
theorem dX7_isTag_11 : decode cX7_isTag 11 = .ok (.bipush 12, 2) := by decide +kernel
theorem dX7_isTag_13 : decode cX7_isTag 13 = .ok (.if_icmp .gt 7, 3) := by decide +kernel
theorem dX7_isTag_16 : decode cX7_isTag 16 = .ok (.iconst 1, 1) := by decide +kernel
theorem dX7_isTag_17 : decode cX7_isTag 17 = .ok (.goto 4, 3) := by decide +kernel
theorem dX7_isTag_20 : decode cX7_isTag 20 = .ok (.iconst 0, 1) := by decide +kernel
theorem dX7_isTag_21 : decode cX7_isTag 21 = .ok (.ireturn, 1) := by decide +kernel
set_option maxRecDepth 20000 in
theorem s_CP_isTag (E : XE) : Cs E (yX7_isTag, cX7_isTag, 1, some .boolean) (k_CP_isTag) := (Cs_nd (Cs_nd (Cs_nd (Cs_lf (sg_iload_n dX7_isTag_0 rfl)) (Cs_nd (Cs_lf (sg_iconst dX7_isTag_1 (by decide))) (Cs_lf (sg_ceq dX7_isTag_2 (by decide))))) (Cs_nd (Cs_lf (sg_iload_n dX7_isTag_5 rfl)) (Cs_nd (Cs_lf (sg_iconst dX7_isTag_6 (by decide))) (Cs_lf (sg_clt dX7_isTag_7 (by decide)))))) (Cs_nd (Cs_nd (Cs_lf (sg_iload_n dX7_isTag_10 rfl)) (Cs_nd (Cs_lf (sg_bipush dX7_isTag_11 (by decide))) (Cs_lf (sg_cgt dX7_isTag_13 (by decide))))) (Cs_nd (Cs_nd (Cs_lf (sg_iconst dX7_isTag_16 (by decide))) (Cs_lf (sg_goto dX7_isTag_17 (by decide)))) (Cs_nd (Cs_lf (sg_iconst dX7_isTag_20 (by decide))) (Cs_lf (sg_zret dX7_isTag_21 rfl ⟨by decide, by decide⟩))))))
theorem dX8_init_0 : decode cX8_init 0 = .ok (.aload_n 0, 1) := by decide +kernel
theorem dX8_init_1 : decode cX8_init 1 = .ok (.invokespecial 3, 3) := by decide +kernel
theorem dX8_init_4 : decode cX8_init 4 = .ok (.aload_n 0, 1) := by decide +kernel
theorem dX8_init_5 : decode cX8_init 5 = .ok (.bipush 6, 2) := by decide +kernel
theorem dX8_init_7 : decode cX8_init 7 = .ok (.newarray .int, 2) := by decide +kernel
theorem dX8_init_9 : decode cX8_init 9 = .ok (.putfield 9, 3) := by decide +kernel
theorem dX8_init_12 : decode cX8_init 12 = .ok (.return_, 1) := by decide +kernel
set_option maxRecDepth 20000 in
theorem s_MA_init (E : XE) : Cs E (yX8_init, cX8_init, 1, none) (k_MA_init) := (Cs_nd (Cs_nd (Cs_lf (sg_aload_n dX8_init_0 rfl)) (Cs_nd (Cs_lf (sg_obj dX8_init_1 w_1052 w_38 w_39)) (Cs_lf (sg_aload_n dX8_init_4 rfl)))) (Cs_nd (Cs_nd (Cs_lf (sg_bipush dX8_init_5 (by decide))) (Cs_lf (sg_newI dX8_init_7 w_83))) (Cs_nd (Cs_lf (sg_putF dX8_init_9 rfl inX8 tyX8_ok nmX8 (by decide) w_1054 rfl rfl rfl (tyX8_ok 1 (by decide)) (ok_arr _))) (Cs_lf (sg_vret dX8_init_12 rfl)))))
theorem dX9_init_0 : decode cX9_init 0 = .ok (.aload_n 0, 1) := by decide +kernel
theorem dX9_init_1 : decode cX9_init 1 = .ok (.invokespecial 3, 3) := by decide +kernel
theorem dX9_init_4 : decode cX9_init 4 = .ok (.aload_n 0, 1) := by decide +kernel
theorem dX9_init_5 : decode cX9_init 5 = .ok (.bipush 61, 2) := by decide +kernel
theorem dX9_init_7 : decode cX9_init 7 = .ok (.newarray .int, 2) := by decide +kernel
theorem dX9_init_9 : decode cX9_init 9 = .ok (.putfield 9, 3) := by decide +kernel
theorem dX9_init_12 : decode cX9_init 12 = .ok (.aload_n 0, 1) := by decide +kernel
theorem dX9_init_13 : decode cX9_init 13 = .ok (.bipush 61, 2) := by decide +kernel
theorem dX9_init_15 : decode cX9_init 15 = .ok (.newarray .int, 2) := by decide +kernel
theorem dX9_init_17 : decode cX9_init 17 = .ok (.putfield 15, 3) := by decide +kernel
theorem dX9_init_20 : decode cX9_init 20 = .ok (.aload_n 0, 1) := by decide +kernel
theorem dX9_init_21 : decode cX9_init 21 = .ok (.bipush 61, 2) := by decide +kernel
theorem dX9_init_23 : decode cX9_init 23 = .ok (.anewarray 18, 3) := by decide +kernel
theorem dX9_init_26 : decode cX9_init 26 = .ok (.putfield 20, 3) := by decide +kernel
theorem dX9_init_29 : decode cX9_init 29 = .ok (.aload_n 0, 1) := by decide +kernel
theorem dX9_init_30 : decode cX9_init 30 = .ok (.iconst 2, 1) := by decide +kernel
theorem dX9_init_31 : decode cX9_init 31 = .ok (.anewarray 24, 3) := by decide +kernel
theorem dX9_init_34 : decode cX9_init 34 = .ok (.dup, 1) := by decide +kernel
theorem dX9_init_35 : decode cX9_init 35 = .ok (.iconst 0, 1) := by decide +kernel
theorem dX9_init_36 : decode cX9_init 36 = .ok (.bipush 12, 2) := by decide +kernel
theorem dX9_init_38 : decode cX9_init 38 = .ok (.anewarray 26, 3) := by decide +kernel
theorem dX9_init_41 : decode cX9_init 41 = .ok (.aastore, 1) := by decide +kernel
theorem dX9_init_42 : decode cX9_init 42 = .ok (.dup, 1) := by decide +kernel
theorem dX9_init_43 : decode cX9_init 43 = .ok (.iconst 1, 1) := by decide +kernel
theorem dX9_init_44 : decode cX9_init 44 = .ok (.bipush 12, 2) := by decide +kernel
theorem dX9_init_46 : decode cX9_init 46 = .ok (.anewarray 26, 3) := by decide +kernel
theorem dX9_init_49 : decode cX9_init 49 = .ok (.aastore, 1) := by decide +kernel
theorem dX9_init_50 : decode cX9_init 50 = .ok (.putfield 28, 3) := by decide +kernel
theorem dX9_init_53 : decode cX9_init 53 = .ok (.aload_n 0, 1) := by decide +kernel
theorem dX9_init_54 : decode cX9_init 54 = .ok (.iconst 2, 1) := by decide +kernel
theorem dX9_init_55 : decode cX9_init 55 = .ok (.newarray .int, 2) := by decide +kernel
theorem dX9_init_57 : decode cX9_init 57 = .ok (.putfield 32, 3) := by decide +kernel
theorem dX9_init_60 : decode cX9_init 60 = .ok (.return_, 1) := by decide +kernel
set_option maxRecDepth 20000 in
theorem s_MH_init (E : XE) : Cs E (yX9_init, cX9_init, 1, none) (k_MH_init) := (Cs_nd (Cs_nd (Cs_nd (Cs_nd (Cs_nd (Cs_lf (sg_aload_n dX9_init_0 rfl)) (Cs_lf (sg_obj dX9_init_1 w_954 w_38 w_39))) (Cs_nd (Cs_lf (sg_aload_n dX9_init_4 rfl)) (Cs_lf (sg_bipush dX9_init_5 (by decide))))) (Cs_nd (Cs_nd (Cs_lf (sg_newI dX9_init_7 w_83)) (Cs_lf (sg_putF dX9_init_9 rfl inX9 tyX9_ok nmX9 (by decide) w_964 rfl rfl rfl (tyX9_ok 2 (by decide)) (ok_arr _)))) (Cs_nd (Cs_lf (sg_aload_n dX9_init_12 rfl)) (Cs_lf (sg_bipush dX9_init_13 (by decide)))))) (Cs_nd (Cs_nd (Cs_nd (Cs_lf (sg_newI dX9_init_15 w_83)) (Cs_lf (sg_putF dX9_init_17 rfl inX9 tyX9_ok nmX9 (by decide) w_966 rfl rfl rfl (tyX9_ok 3 (by decide)) (ok_arr _)))) (Cs_nd (Cs_lf (sg_aload_n dX9_init_20 rfl)) (Cs_lf (sg_bipush dX9_init_21 (by decide))))) (Cs_nd (Cs_nd (Cs_lf (sg_newA (t := .byte) dX9_init_23 (fun _ => rfl) w_955 (by decide))) (Cs_lf (sg_putF dX9_init_26 rfl inX9 tyX9_ok nmX9 (by decide) w_968 rfl rfl rfl (tyX9_ok 4 (by decide)) (ok_arr _)))) (Cs_nd (Cs_lf (sg_aload_n dX9_init_29 rfl)) (Cs_lf (sg_iconst dX9_init_30 (by decide))))))) (Cs_nd (Cs_nd (Cs_nd (Cs_nd (Cs_lf (sg_newA (t := .object RX11) dX9_init_31 (fun _ => rfl) w_957 (by decide))) (Cs_lf (sg_dup dX9_init_34))) (Cs_nd (Cs_lf (sg_iconst dX9_init_35 (by decide))) (Cs_lf (sg_bipush dX9_init_36 (by decide))))) (Cs_nd (Cs_nd (Cs_lf (sg_newQ dX9_init_38 (fun _ => rfl) w_959 (by decide))) (Cs_lf (sg_aastA (t := (.object RX11)) (k1 := 8) (fun _ => rfl) (fun _ => rfl) ra_M (by decide) dX9_init_41))) (Cs_nd (Cs_lf (sg_dup dX9_init_42)) (Cs_lf (sg_iconst dX9_init_43 (by decide)))))) (Cs_nd (Cs_nd (Cs_nd (Cs_lf (sg_bipush dX9_init_44 (by decide))) (Cs_lf (sg_newQ dX9_init_46 (fun _ => rfl) w_959 (by decide)))) (Cs_nd (Cs_lf (sg_aastA (t := (.object RX11)) (k1 := 8) (fun _ => rfl) (fun _ => rfl) ra_M (by decide) dX9_init_49)) (Cs_lf (sg_putF dX9_init_50 rfl inX9 tyX9_ok nmX9 (by decide) w_972 rfl rfl rfl (tyX9_ok 7 (by decide)) (ok_arr _))))) (Cs_nd (Cs_nd (Cs_lf (sg_aload_n dX9_init_53 rfl)) (Cs_lf (sg_iconst dX9_init_54 (by decide)))) (Cs_nd (Cs_lf (sg_newI dX9_init_55 w_83)) (Cs_nd (Cs_lf (sg_putF dX9_init_57 rfl inX9 tyX9_ok nmX9 (by decide) w_974 rfl rfl rfl (tyX9_ok 8 (by decide)) (ok_arr _))) (Cs_lf (sg_vret dX9_init_60 rfl))))))))
theorem dX9_two_0 : decode cX9_two 0 = .ok (.aload_n 0, 1) := by decide +kernel
theorem dX9_two_1 : decode cX9_two 1 = .ok (.getfield 35, 3) := by decide +kernel
theorem dX9_two_4 : decode cX9_two 4 = .ok (.iload_n 1, 1) := by decide +kernel
theorem dX9_two_5 : decode cX9_two 5 = .ok (.baload, 1) := by decide +kernel
theorem dX9_two_6 : decode cX9_two 6 = .ok (.sipush 255, 3) := by decide +kernel
theorem dX9_two_9 : decode cX9_two 9 = .ok (.iand, 1) := by decide +kernel
theorem dX9_two_10 : decode cX9_two 10 = .ok (.bipush 8, 2) := by decide +kernel
theorem dX9_two_12 : decode cX9_two 12 = .ok (.ishl, 1) := by decide +kernel
theorem dX9_two_13 : decode cX9_two 13 = .ok (.aload_n 0, 1) := by decide +kernel
theorem dX9_two_14 : decode cX9_two 14 = .ok (.getfield 35, 3) := by decide +kernel
theorem dX9_two_17 : decode cX9_two 17 = .ok (.iload_n 1, 1) := by decide +kernel
theorem dX9_two_18 : decode cX9_two 18 = .ok (.iconst 1, 1) := by decide +kernel
theorem dX9_two_19 : decode cX9_two 19 = .ok (.iadd, 1) := by decide +kernel
theorem dX9_two_20 : decode cX9_two 20 = .ok (.baload, 1) := by decide +kernel
theorem dX9_two_21 : decode cX9_two 21 = .ok (.sipush 255, 3) := by decide +kernel
theorem dX9_two_24 : decode cX9_two 24 = .ok (.iand, 1) := by decide +kernel
theorem dX9_two_25 : decode cX9_two 25 = .ok (.ior, 1) := by decide +kernel
theorem dX9_two_26 : decode cX9_two 26 = .ok (.ireturn, 1) := by decide +kernel
set_option maxRecDepth 20000 in
theorem s_MH_two (E : XE) : Cs E (yX9_two, cX9_two, 2, some .int) (k_MH_two) := (Cs_nd (Cs_nd (Cs_nd (Cs_nd (Cs_lf (sg_aload_n dX9_two_0 rfl)) (Cs_lf (sg_getf dX9_two_1 rfl inX9 (by decide) w_961))) (Cs_nd (Cs_lf (sg_iload_n dX9_two_4 rfl)) (Cs_lf (sg_bald dX9_two_5)))) (Cs_nd (Cs_nd (Cs_lf (sg_sipush dX9_two_6 (by decide))) (Cs_lf (sg_iand dX9_two_9))) (Cs_nd (Cs_lf (sg_bipush dX9_two_10 (by decide))) (Cs_nd (Cs_lf (sg_ishl dX9_two_12)) (Cs_lf (sg_aload_n dX9_two_13 rfl)))))) (Cs_nd (Cs_nd (Cs_nd (Cs_lf (sg_getf dX9_two_14 rfl inX9 (by decide) w_961)) (Cs_lf (sg_iload_n dX9_two_17 rfl))) (Cs_nd (Cs_lf (sg_iconst dX9_two_18 (by decide))) (Cs_lf (sg_iadd dX9_two_19)))) (Cs_nd (Cs_nd (Cs_lf (sg_bald dX9_two_20)) (Cs_lf (sg_sipush dX9_two_21 (by decide)))) (Cs_nd (Cs_lf (sg_iand dX9_two_24)) (Cs_nd (Cs_lf (sg_ior dX9_two_25)) (Cs_lf (sg_iret dX9_two_26 rfl)))))))
theorem dX9_four_0 : decode cX9_four 0 = .ok (.aload_n 0, 1) := by decide +kernel
theorem dX9_four_1 : decode cX9_four 1 = .ok (.iload_n 1, 1) := by decide +kernel
theorem dX9_four_2 : decode cX9_four 2 = .ok (.invokevirtual 38, 3) := by decide +kernel
theorem dX9_four_5 : decode cX9_four 5 = .ok (.bipush 16, 2) := by decide +kernel
theorem dX9_four_7 : decode cX9_four 7 = .ok (.ishl, 1) := by decide +kernel
theorem dX9_four_8 : decode cX9_four 8 = .ok (.aload_n 0, 1) := by decide +kernel
theorem dX9_four_9 : decode cX9_four 9 = .ok (.iload_n 1, 1) := by decide +kernel
theorem dX9_four_10 : decode cX9_four 10 = .ok (.iconst 2, 1) := by decide +kernel
theorem dX9_four_11 : decode cX9_four 11 = .ok (.iadd, 1) := by decide +kernel
theorem dX9_four_12 : decode cX9_four 12 = .ok (.invokevirtual 38, 3) := by decide +kernel
theorem dX9_four_15 : decode cX9_four 15 = .ok (.ior, 1) := by decide +kernel
theorem dX9_four_16 : decode cX9_four 16 = .ok (.ireturn, 1) := by decide +kernel
set_option maxRecDepth 20000 in
theorem s_MH_four (E : XE) : Cs E (yX9_four, cX9_four, 2, some .int) (k_MH_four) := (Cs_nd (Cs_nd (Cs_nd (Cs_lf (sg_aload_n dX9_four_0 rfl)) (Cs_nd (Cs_lf (sg_iload_n dX9_four_1 rfl)) (Cs_lf (sg_invV (mid := 114) (ci := 8) (by decide +kernel) dX9_four_2 ok_114 rfl w_1065 w_1019 w_1020)))) (Cs_nd (Cs_lf (sg_bipush dX9_four_5 (by decide))) (Cs_nd (Cs_lf (sg_ishl dX9_four_7)) (Cs_lf (sg_aload_n dX9_four_8 rfl))))) (Cs_nd (Cs_nd (Cs_lf (sg_iload_n dX9_four_9 rfl)) (Cs_nd (Cs_lf (sg_iconst dX9_four_10 (by decide))) (Cs_lf (sg_iadd dX9_four_11)))) (Cs_nd (Cs_lf (sg_invV (mid := 114) (ci := 8) (by decide +kernel) dX9_four_12 ok_114 rfl w_1065 w_1019 w_1020)) (Cs_nd (Cs_lf (sg_ior dX9_four_15)) (Cs_lf (sg_iret dX9_four_16 rfl))))))
theorem dX9_bits_0 : decode cX9_bits 0 = .ok (.aload_n 0, 1) := by decide +kernel
theorem dX9_bits_1 : decode cX9_bits 1 = .ok (.getfield 15, 3) := by decide +kernel
theorem dX9_bits_4 : decode cX9_bits 4 = .ok (.iload_n 1, 1) := by decide +kernel
theorem dX9_bits_5 : decode cX9_bits 5 = .ok (.iaload, 1) := by decide +kernel
theorem dX9_bits_6 : decode cX9_bits 6 = .ok (.iconst 1, 1) := by decide +kernel
theorem dX9_bits_7 : decode cX9_bits 7 = .ok (.iadd, 1) := by decide +kernel
theorem dX9_bits_8 : decode cX9_bits 8 = .ok (.istore_n 2, 1) := by decide +kernel
theorem dX9_bits_9 : decode cX9_bits 9 = .ok (.aload_n 0, 1) := by decide +kernel
theorem dX9_bits_10 : decode cX9_bits 10 = .ok (.getfield 9, 3) := by decide +kernel
theorem dX9_bits_13 : decode cX9_bits 13 = .ok (.iload_n 1, 1) := by decide +kernel
theorem dX9_bits_14 : decode cX9_bits 14 = .ok (.iaload, 1) := by decide +kernel
theorem dX9_bits_15 : decode cX9_bits 15 = .ok (.iconst 3, 1) := by decide +kernel
theorem dX9_bits_16 : decode cX9_bits 16 = .ok (.if_icmp .eq 13, 3) := by decide +kernel
theorem dX9_bits_19 : decode cX9_bits 19 = .ok (.aload_n 0, 1) := by decide +kernel
theorem dX9_bits_20 : decode cX9_bits 20 = .ok (.getfield 9, 3) := by decide +kernel
theorem dX9_bits_23 : decode cX9_bits 23 = .ok (.iload_n 1, 1) := by decide +kernel
theorem dX9_bits_24 : decode cX9_bits 24 = .ok (.iaload, 1) := by decide +kernel
theorem dX9_bits_25 : decode cX9_bits 25 = .ok (.iconst 4, 1) := by decide +kernel
theorem dX9_bits_26 : decode cX9_bits 26 = .ok (.if_icmp .ne 12, 3) := by decide +kernel
theorem dX9_bits_29 : decode cX9_bits 29 = .ok (.aload_n 0, 1) := by decide +kernel
theorem dX9_bits_30 : decode cX9_bits 30 = .ok (.iload_n 2, 1) := by decide +kernel
theorem dX9_bits_31 : decode cX9_bits 31 = .ok (.invokevirtual 42, 3) := by decide +kernel
theorem dX9_bits_34 : decode cX9_bits 34 = .ok (.i2l, 1) := by decide +kernel
theorem dX9_bits_35 : decode cX9_bits 35 = .ok (.goto 25, 3) := by decide +kernel
theorem dX9_bits_38 : decode cX9_bits 38 = .ok (.aload_n 0, 1) := by decide +kernel
theorem dX9_bits_39 : decode cX9_bits 39 = .ok (.iload_n 2, 1) := by decide +kernel
theorem dX9_bits_40 : decode cX9_bits 40 = .ok (.invokevirtual 42, 3) := by decide +kernel
theorem dX9_bits_43 : decode cX9_bits 43 = .ok (.i2l, 1) := by decide +kernel
theorem dX9_bits_44 : decode cX9_bits 44 = .ok (.bipush 32, 2) := by decide +kernel
theorem dX9_bits_46 : decode cX9_bits 46 = .ok (.lshl, 1) := by decide +kernel
theorem dX9_bits_47 : decode cX9_bits 47 = .ok (.aload_n 0, 1) := by decide +kernel
theorem dX9_bits_48 : decode cX9_bits 48 = .ok (.iload_n 2, 1) := by decide +kernel
theorem dX9_bits_49 : decode cX9_bits 49 = .ok (.iconst 4, 1) := by decide +kernel
theorem dX9_bits_50 : decode cX9_bits 50 = .ok (.iadd, 1) := by decide +kernel
theorem dX9_bits_51 : decode cX9_bits 51 = .ok (.invokevirtual 42, 3) := by decide +kernel
theorem dX9_bits_54 : decode cX9_bits 54 = .ok (.i2l, 1) := by decide +kernel
theorem dX9_bits_55 : decode cX9_bits 55 = .ok (.ldc2_w 45, 3) := by decide +kernel
theorem dX9_bits_58 : decode cX9_bits 58 = .ok (.land, 1) := by decide +kernel
theorem dX9_bits_59 : decode cX9_bits 59 = .ok (.lor, 1) := by decide +kernel
theorem dX9_bits_60 : decode cX9_bits 60 = .ok (.lreturn, 1) := by decide +kernel
set_option maxRecDepth 20000 in
theorem s_MH_bits (E : XE) : Cs E (yX9_bits, cX9_bits, 3, some .long) (k_MH_bits) := (Cs_nd (Cs_nd (Cs_nd (Cs_nd (Cs_nd (Cs_lf (sg_aload_n dX9_bits_0 rfl)) (Cs_lf (sg_getf dX9_bits_1 rfl inX9 (by decide) w_966))) (Cs_nd (Cs_lf (sg_iload_n dX9_bits_4 rfl)) (Cs_nd (Cs_lf (sg_iald dX9_bits_5)) (Cs_lf (sg_iconst dX9_bits_6 (by decide)))))) (Cs_nd (Cs_nd (Cs_lf (sg_iadd dX9_bits_7)) (Cs_lf (sg_istore_n dX9_bits_8 rfl (by decide)))) (Cs_nd (Cs_lf (sg_aload_n dX9_bits_9 rfl)) (Cs_nd (Cs_lf (sg_getf dX9_bits_10 rfl inX9 (by decide) w_964)) (Cs_lf (sg_iload_n dX9_bits_13 rfl)))))) (Cs_nd (Cs_nd (Cs_nd (Cs_lf (sg_iald dX9_bits_14)) (Cs_lf (sg_iconst dX9_bits_15 (by decide)))) (Cs_nd (Cs_lf (sg_ceq dX9_bits_16 (by decide))) (Cs_nd (Cs_lf (sg_aload_n dX9_bits_19 rfl)) (Cs_lf (sg_getf dX9_bits_20 rfl inX9 (by decide) w_964))))) (Cs_nd (Cs_nd (Cs_lf (sg_iload_n dX9_bits_23 rfl)) (Cs_lf (sg_iald dX9_bits_24))) (Cs_nd (Cs_lf (sg_iconst dX9_bits_25 (by decide))) (Cs_nd (Cs_lf (sg_cne dX9_bits_26 (by decide))) (Cs_lf (sg_aload_n dX9_bits_29 rfl))))))) (Cs_nd (Cs_nd (Cs_nd (Cs_nd (Cs_lf (sg_iload_n dX9_bits_30 rfl)) (Cs_lf (sg_invV (mid := 115) (ci := 8) (by decide +kernel) dX9_bits_31 ok_115 rfl w_1212 w_1062 w_1063))) (Cs_nd (Cs_lf (sg_i2l dX9_bits_34)) (Cs_nd (Cs_lf (sg_goto dX9_bits_35 (by decide))) (Cs_lf (sg_aload_n dX9_bits_38 rfl))))) (Cs_nd (Cs_nd (Cs_lf (sg_iload_n dX9_bits_39 rfl)) (Cs_lf (sg_invV (mid := 115) (ci := 8) (by decide +kernel) dX9_bits_40 ok_115 rfl w_1212 w_1062 w_1063))) (Cs_nd (Cs_lf (sg_i2l dX9_bits_43)) (Cs_nd (Cs_lf (sg_bipush dX9_bits_44 (by decide))) (Cs_lf (sg_lshl dX9_bits_46)))))) (Cs_nd (Cs_nd (Cs_nd (Cs_lf (sg_aload_n dX9_bits_47 rfl)) (Cs_lf (sg_iload_n dX9_bits_48 rfl))) (Cs_nd (Cs_lf (sg_iconst dX9_bits_49 (by decide))) (Cs_nd (Cs_lf (sg_iadd dX9_bits_50)) (Cs_lf (sg_invV (mid := 115) (ci := 8) (by decide +kernel) dX9_bits_51 ok_115 rfl w_1212 w_1062 w_1063))))) (Cs_nd (Cs_nd (Cs_lf (sg_i2l dX9_bits_54)) (Cs_lf (sg_ldc2 dX9_bits_55 w_1213))) (Cs_nd (Cs_lf (sg_land dX9_bits_58)) (Cs_nd (Cs_lf (sg_lor dX9_bits_59)) (Cs_lf (sg_lret dX9_bits_60 rfl))))))))
theorem dX9_first_0 : decode cX9_first 0 = .ok (.aload_n 0, 1) := by decide +kernel
theorem dX9_first_1 : decode cX9_first 1 = .ok (.aload_n 0, 1) := by decide +kernel
theorem dX9_first_2 : decode cX9_first 2 = .ok (.getfield 15, 3) := by decide +kernel
theorem dX9_first_5 : decode cX9_first 5 = .ok (.iload_n 1, 1) := by decide +kernel
theorem dX9_first_6 : decode cX9_first 6 = .ok (.iaload, 1) := by decide +kernel
theorem dX9_first_7 : decode cX9_first 7 = .ok (.iconst 1, 1) := by decide +kernel
theorem dX9_first_8 : decode cX9_first 8 = .ok (.iadd, 1) := by decide +kernel
theorem dX9_first_9 : decode cX9_first 9 = .ok (.invokevirtual 38, 3) := by decide +kernel
theorem dX9_first_12 : decode cX9_first 12 = .ok (.ireturn, 1) := by decide +kernel
set_option maxRecDepth 20000 in
theorem s_MH_first (E : XE) : Cs E (yX9_first, cX9_first, 2, some .int) (k_MH_first) := (Cs_nd (Cs_nd (Cs_nd (Cs_lf (sg_aload_n dX9_first_0 rfl)) (Cs_lf (sg_aload_n dX9_first_1 rfl))) (Cs_nd (Cs_lf (sg_getf dX9_first_2 rfl inX9 (by decide) w_966)) (Cs_lf (sg_iload_n dX9_first_5 rfl)))) (Cs_nd (Cs_nd (Cs_lf (sg_iald dX9_first_6)) (Cs_lf (sg_iconst dX9_first_7 (by decide)))) (Cs_nd (Cs_lf (sg_iadd dX9_first_8)) (Cs_nd (Cs_lf (sg_invV (mid := 114) (ci := 8) (by decide +kernel) dX9_first_9 ok_114 rfl w_1065 w_1019 w_1020)) (Cs_lf (sg_iret dX9_first_12 rfl))))))
theorem dX9_second_0 : decode cX9_second 0 = .ok (.aload_n 0, 1) := by decide +kernel
theorem dX9_second_1 : decode cX9_second 1 = .ok (.aload_n 0, 1) := by decide +kernel
theorem dX9_second_2 : decode cX9_second 2 = .ok (.getfield 15, 3) := by decide +kernel
theorem dX9_second_5 : decode cX9_second 5 = .ok (.iload_n 1, 1) := by decide +kernel
theorem dX9_second_6 : decode cX9_second 6 = .ok (.iaload, 1) := by decide +kernel
theorem dX9_second_7 : decode cX9_second 7 = .ok (.iconst 3, 1) := by decide +kernel
theorem dX9_second_8 : decode cX9_second 8 = .ok (.iadd, 1) := by decide +kernel
theorem dX9_second_9 : decode cX9_second 9 = .ok (.invokevirtual 38, 3) := by decide +kernel
theorem dX9_second_12 : decode cX9_second 12 = .ok (.ireturn, 1) := by decide +kernel
set_option maxRecDepth 20000 in
theorem s_MH_second (E : XE) : Cs E (yX9_second, cX9_second, 2, some .int) (k_MH_second) := (Cs_nd (Cs_nd (Cs_nd (Cs_lf (sg_aload_n dX9_second_0 rfl)) (Cs_lf (sg_aload_n dX9_second_1 rfl))) (Cs_nd (Cs_lf (sg_getf dX9_second_2 rfl inX9 (by decide) w_966)) (Cs_lf (sg_iload_n dX9_second_5 rfl)))) (Cs_nd (Cs_nd (Cs_lf (sg_iald dX9_second_6)) (Cs_lf (sg_iconst dX9_second_7 (by decide)))) (Cs_nd (Cs_lf (sg_iadd dX9_second_8)) (Cs_nd (Cs_lf (sg_invV (mid := 114) (ci := 8) (by decide +kernel) dX9_second_9 ok_114 rfl w_1065 w_1019 w_1020)) (Cs_lf (sg_iret dX9_second_12 rfl))))))
theorem dX10_init_0 : decode cX10_init 0 = .ok (.aload_n 0, 1) := by decide +kernel
theorem dX10_init_1 : decode cX10_init 1 = .ok (.invokespecial 1, 3) := by decide +kernel
theorem dX10_init_4 : decode cX10_init 4 = .ok (.aload_n 0, 1) := by decide +kernel
theorem dX10_init_5 : decode cX10_init 5 = .ok (.getstatic 7, 3) := by decide +kernel
theorem dX10_init_8 : decode cX10_init 8 = .ok (.putfield 13, 3) := by decide +kernel
theorem dX10_init_11 : decode cX10_init 11 = .ok (.aload_n 0, 1) := by decide +kernel
theorem dX10_init_12 : decode cX10_init 12 = .ok (.getstatic 7, 3) := by decide +kernel
theorem dX10_init_15 : decode cX10_init 15 = .ok (.putfield 18, 3) := by decide +kernel
theorem dX10_init_18 : decode cX10_init 18 = .ok (.aload_n 0, 1) := by decide +kernel
theorem dX10_init_19 : decode cX10_init 19 = .ok (.getstatic 7, 3) := by decide +kernel
theorem dX10_init_22 : decode cX10_init 22 = .ok (.putfield 21, 3) := by decide +kernel
theorem dX10_init_25 : decode cX10_init 25 = .ok (.return_, 1) := by decide +kernel
set_option maxRecDepth 20000 in
theorem s_MM_init (E : XE) : Cs E (yX10_init, cX10_init, 1, none) (k_MM_init E.2.1 E.2.2.1) := (Cs_nd (Cs_nd (Cs_nd (Cs_lf (sg_aload_n dX10_init_0 rfl)) (Cs_nd (Cs_lf (sg_obj dX10_init_1 w_1257 w_38 w_39)) (Cs_lf (sg_aload_n dX10_init_4 rfl)))) (Cs_nd (Cs_lf (sg_getsBN dX10_init_5 ⟨rfl, rfl⟩)) (Cs_nd (Cs_lf (sg_putf dX10_init_8 rfl inX10 tyX10_ok nmX10 (by decide) w_1262 rfl (tyX10_ok 2 (by decide)) (ok_arr _))) (Cs_lf (sg_aload_n dX10_init_11 rfl))))) (Cs_nd (Cs_nd (Cs_lf (sg_getsBN dX10_init_12 ⟨rfl, rfl⟩)) (Cs_nd (Cs_lf (sg_putf dX10_init_15 rfl inX10 tyX10_ok nmX10 (by decide) w_1264 rfl (tyX10_ok 3 (by decide)) (ok_arr _))) (Cs_lf (sg_aload_n dX10_init_18 rfl)))) (Cs_nd (Cs_lf (sg_getsBN dX10_init_19 ⟨rfl, rfl⟩)) (Cs_nd (Cs_lf (sg_putf dX10_init_22 rfl inX10 tyX10_ok nmX10 (by decide) w_1266 rfl (tyX10_ok 4 (by decide)) (ok_arr _))) (Cs_lf (sg_vret dX10_init_25 rfl))))))
theorem dX11_init_0 : decode cX11_init 0 = .ok (.aload_n 0, 1) := by decide +kernel
theorem dX11_init_1 : decode cX11_init 1 = .ok (.invokespecial 1, 3) := by decide +kernel
theorem dX11_init_4 : decode cX11_init 4 = .ok (.return_, 1) := by decide +kernel
set_option maxRecDepth 20000 in
theorem s_MB_init (E : XE) : Cs E (yX11_init, cX11_init, 1, none) (k_MB_init) := (Cs_nd (Cs_lf (sg_aload_n dX11_init_0 rfl)) (Cs_nd (Cs_lf (sg_obj dX11_init_1 w_1035 w_38 w_39)) (Cs_lf (sg_vret dX11_init_4 rfl))))
