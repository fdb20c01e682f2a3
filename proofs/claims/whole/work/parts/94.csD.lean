/-! the code is sound: 94.csD -/
theorem dX12_init_0 : decode cX12_init 0 = .ok (.aload_n 0, 1) := by decide +kernel
theorem dX12_init_1 : decode cX12_init 1 = .ok (.invokespecial 1, 3) := by decide +kernel
theorem dX12_init_4 : decode cX12_init 4 = .ok (.aload_n 0, 1) := by decide +kernel
theorem dX12_init_5 : decode cX12_init 5 = .ok (.bipush 6, 2) := by decide +kernel
theorem dX12_init_7 : decode cX12_init 7 = .ok (.anewarray 9, 3) := by decide +kernel
theorem dX12_init_10 : decode cX12_init 10 = .ok (.putfield 11, 3) := by decide +kernel
theorem dX12_init_13 : decode cX12_init 13 = .ok (.aload_n 0, 1) := by decide +kernel
theorem dX12_init_14 : decode cX12_init 14 = .ok (.sipush 400, 3) := by decide +kernel
theorem dX12_init_17 : decode cX12_init 17 = .ok (.newarray .byte, 2) := by decide +kernel
theorem dX12_init_19 : decode cX12_init 19 = .ok (.putfield 15, 3) := by decide +kernel
theorem dX12_init_22 : decode cX12_init 22 = .ok (.aload_n 0, 1) := by decide +kernel
theorem dX12_init_23 : decode cX12_init 23 = .ok (.iconst 0, 1) := by decide +kernel
theorem dX12_init_24 : decode cX12_init 24 = .ok (.newarray .byte, 2) := by decide +kernel
theorem dX12_init_26 : decode cX12_init 26 = .ok (.putfield 19, 3) := by decide +kernel
theorem dX12_init_29 : decode cX12_init 29 = .ok (.aload_n 0, 1) := by decide +kernel
theorem dX12_init_30 : decode cX12_init 30 = .ok (.iconst (-1), 1) := by decide +kernel
theorem dX12_init_31 : decode cX12_init 31 = .ok (.putfield 22, 3) := by decide +kernel
theorem dX12_init_34 : decode cX12_init 34 = .ok (.aload_n 0, 1) := by decide +kernel
theorem dX12_init_35 : decode cX12_init 35 = .ok (.iconst 0, 1) := by decide +kernel
theorem dX12_init_36 : decode cX12_init 36 = .ok (.anewarray 26, 3) := by decide +kernel
theorem dX12_init_39 : decode cX12_init 39 = .ok (.putfield 28, 3) := by decide +kernel
theorem dX12_init_42 : decode cX12_init 42 = .ok (.aload_n 0, 1) := by decide +kernel
theorem dX12_init_43 : decode cX12_init 43 = .ok (.sipush 408, 3) := by decide +kernel
theorem dX12_init_46 : decode cX12_init 46 = .ok (.newarray .byte, 2) := by decide +kernel
theorem dX12_init_48 : decode cX12_init 48 = .ok (.putfield 32, 3) := by decide +kernel
theorem dX12_init_51 : decode cX12_init 51 = .ok (.aload_n 0, 1) := by decide +kernel
theorem dX12_init_52 : decode cX12_init 52 = .ok (.sipush 152, 3) := by decide +kernel
theorem dX12_init_55 : decode cX12_init 55 = .ok (.newarray .int, 2) := by decide +kernel
theorem dX12_init_57 : decode cX12_init 57 = .ok (.putfield 35, 3) := by decide +kernel
theorem dX12_init_60 : decode cX12_init 60 = .ok (.return_, 1) := by decide +kernel
set_option maxRecDepth 20000 in
theorem s_MO_init (E : XE) : Cs E (yX12_init, cX12_init, 1, none) (k_MO_init) := (Cs_nd (Cs_nd (Cs_nd (Cs_nd (Cs_lf (sg_aload_n dX12_init_0 rfl)) (Cs_nd (Cs_lf (sg_obj dX12_init_1 w_878 w_38 w_39)) (Cs_lf (sg_aload_n dX12_init_4 rfl)))) (Cs_nd (Cs_nd (Cs_lf (sg_bipush dX12_init_5 (by decide))) (Cs_lf (sg_newQ dX12_init_7 (fun _ => rfl) w_879 (by decide)))) (Cs_nd (Cs_lf (sg_putF dX12_init_10 rfl inX12 tyX12_ok nmX12 (by decide) w_884 rfl rfl rfl (tyX12_ok 1 (by decide)) (ok_arr _))) (Cs_lf (sg_aload_n dX12_init_13 rfl))))) (Cs_nd (Cs_nd (Cs_nd (Cs_lf (sg_sipush dX12_init_14 (by decide))) (Cs_lf (sg_newB dX12_init_17 w_53))) (Cs_nd (Cs_lf (sg_putF dX12_init_19 rfl inX12 tyX12_ok nmX12 (by decide) w_886 rfl rfl rfl (tyX12_ok 3 (by decide)) (ok_arr _))) (Cs_lf (sg_aload_n dX12_init_22 rfl)))) (Cs_nd (Cs_nd (Cs_lf (sg_iconst dX12_init_23 (by decide))) (Cs_lf (sg_newB dX12_init_24 w_53))) (Cs_nd (Cs_lf (sg_putf dX12_init_26 rfl inX12 tyX12_ok nmX12 (by decide) w_888 rfl (tyX12_ok 5 (by decide)) (ok_arr _))) (Cs_lf (sg_aload_n dX12_init_29 rfl)))))) (Cs_nd (Cs_nd (Cs_nd (Cs_lf (sg_iconst dX12_init_30 (by decide))) (Cs_nd (Cs_lf (sg_putf dX12_init_31 rfl inX12 tyX12_ok nmX12 (by decide) w_892 rfl (tyX12_ok 9 (by decide)) ok_int)) (Cs_lf (sg_aload_n dX12_init_34 rfl)))) (Cs_nd (Cs_nd (Cs_lf (sg_iconst dX12_init_35 (by decide))) (Cs_lf (sg_newQ dX12_init_36 (fun _ => rfl) w_881 (by decide)))) (Cs_nd (Cs_lf (sg_putf dX12_init_39 rfl inX12 tyX12_ok nmX12 (by decide) w_893 rfl (tyX12_ok 10 (by decide)) (ok_arr _))) (Cs_lf (sg_aload_n dX12_init_42 rfl))))) (Cs_nd (Cs_nd (Cs_nd (Cs_lf (sg_sipush dX12_init_43 (by decide))) (Cs_lf (sg_newB dX12_init_46 w_53))) (Cs_nd (Cs_lf (sg_putF dX12_init_48 rfl inX12 tyX12_ok nmX12 (by decide) w_895 rfl rfl rfl (tyX12_ok 12 (by decide)) (ok_arr _))) (Cs_lf (sg_aload_n dX12_init_51 rfl)))) (Cs_nd (Cs_nd (Cs_lf (sg_sipush dX12_init_52 (by decide))) (Cs_lf (sg_newI dX12_init_55 w_83))) (Cs_nd (Cs_lf (sg_putF dX12_init_57 rfl inX12 tyX12_ok nmX12 (by decide) w_899 rfl rfl rfl (tyX12_ok 16 (by decide)) (ok_arr _))) (Cs_lf (sg_vret dX12_init_60 rfl)))))))
theorem dX12_thrown_0 : decode cX12_thrown 0 = .ok (.aload_n 0, 1) := by decide +kernel
theorem dX12_thrown_1 : decode cX12_thrown 1 = .ok (.getfield 39, 3) := by decide +kernel
theorem dX12_thrown_4 : decode cX12_thrown 4 = .ok (.ireturn, 1) := by decide +kernel
set_option maxRecDepth 20000 in
theorem s_MO_thrown (E : XE) : Cs E (yX12_thrown, cX12_thrown, 1, some .int) (k_MO_thrown) := (Cs_nd (Cs_lf (sg_aload_n dX12_thrown_0 rfl)) (Cs_nd (Cs_lf (sg_getf dX12_thrown_1 rfl inX12 (by decide) w_883)) (Cs_lf (sg_iret dX12_thrown_4 rfl))))
theorem dX12_isIn_0 : decode cX12_isIn 0 = .ok (.iload_n 0, 1) := by decide +kernel
theorem dX12_isIn_1 : decode cX12_isIn 1 = .ok (.iload_n 1, 1) := by decide +kernel
theorem dX12_isIn_2 : decode cX12_isIn 2 = .ok (.if_icmp .lt 12, 3) := by decide +kernel
theorem dX12_isIn_5 : decode cX12_isIn 5 = .ok (.iload_n 0, 1) := by decide +kernel
theorem dX12_isIn_6 : decode cX12_isIn 6 = .ok (.iload_n 2, 1) := by decide +kernel
theorem dX12_isIn_7 : decode cX12_isIn 7 = .ok (.if_icmp .gt 7, 3) := by decide +kernel
theorem dX12_isIn_10 : decode cX12_isIn 10 = .ok (.iconst 1, 1) := by decide +kernel
theorem dX12_isIn_11 : decode cX12_isIn 11 = .ok (.goto 4, 3) := by decide +kernel
theorem dX12_isIn_14 : decode cX12_isIn 14 = .ok (.iconst 0, 1) := by decide +kernel
theorem dX12_isIn_15 : decode cX12_isIn 15 = .ok (.ireturn, 1) := by decide +kernel
set_option maxRecDepth 20000 in
theorem s_MO_isIn (E : XE) : Cs E (yX12_isIn, cX12_isIn, 3, some .boolean) (k_MO_isIn) := (Cs_nd (Cs_nd (Cs_nd (Cs_lf (sg_iload_n dX12_isIn_0 rfl)) (Cs_lf (sg_iload_n dX12_isIn_1 rfl))) (Cs_nd (Cs_lf (sg_clt dX12_isIn_2 (by decide))) (Cs_nd (Cs_lf (sg_iload_n dX12_isIn_5 rfl)) (Cs_lf (sg_iload_n dX12_isIn_6 rfl))))) (Cs_nd (Cs_nd (Cs_lf (sg_cgt dX12_isIn_7 (by decide))) (Cs_lf (sg_iconst dX12_isIn_10 (by decide)))) (Cs_nd (Cs_lf (sg_goto dX12_isIn_11 (by decide))) (Cs_nd (Cs_lf (sg_iconst dX12_isIn_14 (by decide))) (Cs_lf (sg_zret dX12_isIn_15 rfl ⟨by decide, by decide⟩))))))
theorem dX12_isFile_0 : decode cX12_isFile 0 = .ok (.aload_n 0, 1) := by decide +kernel
theorem dX12_isFile_1 : decode cX12_isFile 1 = .ok (.iconst 0, 1) := by decide +kernel
theorem dX12_isFile_2 : decode cX12_isFile 2 = .ok (.putfield 39, 3) := by decide +kernel
theorem dX12_isFile_5 : decode cX12_isFile 5 = .ok (.iload_n 1, 1) := by decide +kernel
theorem dX12_isFile_6 : decode cX12_isFile 6 = .ok (.iconst 0, 1) := by decide +kernel
theorem dX12_isFile_7 : decode cX12_isFile 7 = .ok (.aload_n 0, 1) := by decide +kernel
theorem dX12_isFile_8 : decode cX12_isFile 8 = .ok (.getfield 42, 3) := by decide +kernel
theorem dX12_isFile_11 : decode cX12_isFile 11 = .ok (.iconst 1, 1) := by decide +kernel
theorem dX12_isFile_12 : decode cX12_isFile 12 = .ok (.isub, 1) := by decide +kernel
theorem dX12_isFile_13 : decode cX12_isFile 13 = .ok (.invokestatic 45, 3) := by decide +kernel
theorem dX12_isFile_16 : decode cX12_isFile 16 = .ok (.ireturn, 1) := by decide +kernel
set_option maxRecDepth 20000 in
theorem s_MO_isFile (E : XE) : Cs E (yX12_isFile, cX12_isFile, 2, some .boolean) (k_MO_isFile) := (Cs_nd (Cs_nd (Cs_nd (Cs_lf (sg_aload_n dX12_isFile_0 rfl)) (Cs_lf (sg_iconst dX12_isFile_1 (by decide)))) (Cs_nd (Cs_lf (sg_putf dX12_isFile_2 rfl inX12 tyX12_ok nmX12 (by decide) w_883 rfl (tyX12_ok 0 (by decide)) ok_int)) (Cs_nd (Cs_lf (sg_iload_n dX12_isFile_5 rfl)) (Cs_lf (sg_iconst dX12_isFile_6 (by decide)))))) (Cs_nd (Cs_nd (Cs_lf (sg_aload_n dX12_isFile_7 rfl)) (Cs_nd (Cs_lf (sg_getf dX12_isFile_8 rfl inX12 (by decide) w_885)) (Cs_lf (sg_iconst dX12_isFile_11 (by decide))))) (Cs_nd (Cs_lf (sg_isub dX12_isFile_12)) (Cs_nd (Cs_lf (sg_inv (mid := 123) (by decide +kernel) dX12_isFile_13 ok_123 w_943 w_944)) (Cs_lf (sg_zret dX12_isFile_16 rfl ⟨by decide, by decide⟩))))))
theorem dX12_feed_0 : decode cX12_feed 0 = .ok (.aload_n 0, 1) := by decide +kernel
theorem dX12_feed_1 : decode cX12_feed 1 = .ok (.iconst 0, 1) := by decide +kernel
theorem dX12_feed_2 : decode cX12_feed 2 = .ok (.putfield 39, 3) := by decide +kernel
theorem dX12_feed_5 : decode cX12_feed 5 = .ok (.iload_n 3, 1) := by decide +kernel
theorem dX12_feed_6 : decode cX12_feed 6 = .ok (.iconst 1, 1) := by decide +kernel
theorem dX12_feed_7 : decode cX12_feed 7 = .ok (.bipush 8, 2) := by decide +kernel
theorem dX12_feed_9 : decode cX12_feed 9 = .ok (.invokestatic 45, 3) := by decide +kernel
theorem dX12_feed_12 : decode cX12_feed 12 = .ok (.ifCond .ne 6, 3) := by decide +kernel
theorem dX12_feed_15 : decode cX12_feed 15 = .ok (.bipush (-2), 2) := by decide +kernel
theorem dX12_feed_17 : decode cX12_feed 17 = .ok (.ireturn, 1) := by decide +kernel
theorem dX12_feed_18 : decode cX12_feed 18 = .ok (.aload_n 0, 1) := by decide +kernel
theorem dX12_feed_19 : decode cX12_feed 19 = .ok (.getfield 49, 3) := by decide +kernel
theorem dX12_feed_22 : decode cX12_feed 22 = .ok (.iload_n 3, 1) := by decide +kernel
theorem dX12_feed_23 : decode cX12_feed 23 = .ok (.iadd, 1) := by decide +kernel
theorem dX12_feed_24 : decode cX12_feed 24 = .ok (.sipush 400, 3) := by decide +kernel
theorem dX12_feed_27 : decode cX12_feed 27 = .ok (.if_icmp .le 6, 3) := by decide +kernel
theorem dX12_feed_30 : decode cX12_feed 30 = .ok (.bipush (-3), 2) := by decide +kernel
theorem dX12_feed_32 : decode cX12_feed 32 = .ok (.ireturn, 1) := by decide +kernel
theorem dX12_feed_33 : decode cX12_feed 33 = .ok (.iload_n 3, 1) := by decide +kernel
theorem dX12_feed_34 : decode cX12_feed 34 = .ok (.iconst 1, 1) := by decide +kernel
theorem dX12_feed_35 : decode cX12_feed 35 = .ok (.isub, 1) := by decide +kernel
theorem dX12_feed_36 : decode cX12_feed 36 = .ok (.istore 4, 2) := by decide +kernel
theorem dX12_feed_38 : decode cX12_feed 38 = .ok (.iload 4, 2) := by decide +kernel
theorem dX12_feed_40 : decode cX12_feed 40 = .ok (.ifCond .lt 37, 3) := by decide +kernel
theorem dX12_feed_43 : decode cX12_feed 43 = .ok (.aload_n 0, 1) := by decide +kernel
theorem dX12_feed_44 : decode cX12_feed 44 = .ok (.getfield 15, 3) := by decide +kernel
theorem dX12_feed_47 : decode cX12_feed 47 = .ok (.aload_n 0, 1) := by decide +kernel
theorem dX12_feed_48 : decode cX12_feed 48 = .ok (.getfield 49, 3) := by decide +kernel
theorem dX12_feed_51 : decode cX12_feed 51 = .ok (.lload_n 1, 1) := by decide +kernel
theorem dX12_feed_52 : decode cX12_feed 52 = .ok (.bipush 8, 2) := by decide +kernel
theorem dX12_feed_54 : decode cX12_feed 54 = .ok (.iload 4, 2) := by decide +kernel
theorem dX12_feed_56 : decode cX12_feed 56 = .ok (.imul, 1) := by decide +kernel
theorem dX12_feed_57 : decode cX12_feed 57 = .ok (.lshr, 1) := by decide +kernel
theorem dX12_feed_58 : decode cX12_feed 58 = .ok (.l2i, 1) := by decide +kernel
theorem dX12_feed_59 : decode cX12_feed 59 = .ok (.i2b, 1) := by decide +kernel
theorem dX12_feed_60 : decode cX12_feed 60 = .ok (.bastore, 1) := by decide +kernel
theorem dX12_feed_61 : decode cX12_feed 61 = .ok (.aload_n 0, 1) := by decide +kernel
theorem dX12_feed_62 : decode cX12_feed 62 = .ok (.dup, 1) := by decide +kernel
theorem dX12_feed_63 : decode cX12_feed 63 = .ok (.getfield 49, 3) := by decide +kernel
theorem dX12_feed_66 : decode cX12_feed 66 = .ok (.iconst 1, 1) := by decide +kernel
theorem dX12_feed_67 : decode cX12_feed 67 = .ok (.iadd, 1) := by decide +kernel
theorem dX12_feed_68 : decode cX12_feed 68 = .ok (.putfield 49, 3) := by decide +kernel
theorem dX12_feed_71 : decode cX12_feed 71 = .ok (.iinc 4 (-1), 3) := by decide +kernel
theorem dX12_feed_74 : decode cX12_feed 74 = .ok (.goto (-36), 3) := by decide +kernel
theorem dX12_feed_77 : decode cX12_feed 77 = .ok (.aload_n 0, 1) := by decide +kernel
theorem dX12_feed_78 : decode cX12_feed 78 = .ok (.getfield 49, 3) := by decide +kernel
theorem dX12_feed_81 : decode cX12_feed 81 = .ok (.ireturn, 1) := by decide +kernel
set_option maxRecDepth 20000 in
theorem s_MO_feed (E : XE) : Cs E (yX12_feed, cX12_feed, 5, some .int) (k_MO_feed) := (Cs_nd (Cs_nd (Cs_nd (Cs_nd (Cs_nd (Cs_lf (sg_aload_n dX12_feed_0 rfl)) (Cs_lf (sg_iconst dX12_feed_1 (by decide)))) (Cs_nd (Cs_lf (sg_putf dX12_feed_2 rfl inX12 tyX12_ok nmX12 (by decide) w_883 rfl (tyX12_ok 0 (by decide)) ok_int)) (Cs_nd (Cs_lf (sg_iload_n dX12_feed_5 rfl)) (Cs_lf (sg_iconst dX12_feed_6 (by decide)))))) (Cs_nd (Cs_nd (Cs_lf (sg_bipush dX12_feed_7 (by decide))) (Cs_nd (Cs_lf (sg_inv (mid := 123) (by decide +kernel) dX12_feed_9 ok_123 w_943 w_944)) (Cs_lf (sg_ifne dX12_feed_12 (by decide))))) (Cs_nd (Cs_lf (sg_bipush dX12_feed_15 (by decide))) (Cs_nd (Cs_lf (sg_iret dX12_feed_17 rfl)) (Cs_lf (sg_aload_n dX12_feed_18 rfl)))))) (Cs_nd (Cs_nd (Cs_nd (Cs_lf (sg_getf dX12_feed_19 rfl inX12 (by decide) w_887)) (Cs_nd (Cs_lf (sg_iload_n dX12_feed_22 rfl)) (Cs_lf (sg_iadd dX12_feed_23)))) (Cs_nd (Cs_lf (sg_sipush dX12_feed_24 (by decide))) (Cs_nd (Cs_lf (sg_cle dX12_feed_27 (by decide))) (Cs_lf (sg_bipush dX12_feed_30 (by decide)))))) (Cs_nd (Cs_nd (Cs_lf (sg_iret dX12_feed_32 rfl)) (Cs_nd (Cs_lf (sg_iload_n dX12_feed_33 rfl)) (Cs_lf (sg_iconst dX12_feed_34 (by decide))))) (Cs_nd (Cs_lf (sg_isub dX12_feed_35)) (Cs_nd (Cs_lf (sg_istore dX12_feed_36 (by decide))) (Cs_lf (sg_iload dX12_feed_38))))))) (Cs_nd (Cs_nd (Cs_nd (Cs_nd (Cs_lf (sg_iflt dX12_feed_40 (by decide))) (Cs_nd (Cs_lf (sg_aload_n dX12_feed_43 rfl)) (Cs_lf (sg_getf dX12_feed_44 rfl inX12 (by decide) w_886)))) (Cs_nd (Cs_lf (sg_aload_n dX12_feed_47 rfl)) (Cs_nd (Cs_lf (sg_getf dX12_feed_48 rfl inX12 (by decide) w_887)) (Cs_lf (sg_lload_n dX12_feed_51 rfl))))) (Cs_nd (Cs_nd (Cs_lf (sg_bipush dX12_feed_52 (by decide))) (Cs_nd (Cs_lf (sg_iload dX12_feed_54)) (Cs_lf (sg_imul dX12_feed_56)))) (Cs_nd (Cs_lf (sg_lshr dX12_feed_57)) (Cs_nd (Cs_lf (sg_l2i dX12_feed_58)) (Cs_lf (sg_i2b dX12_feed_59)))))) (Cs_nd (Cs_nd (Cs_nd (Cs_lf (sg_bast dX12_feed_60)) (Cs_nd (Cs_lf (sg_aload_n dX12_feed_61 rfl)) (Cs_lf (sg_dup dX12_feed_62)))) (Cs_nd (Cs_lf (sg_getf dX12_feed_63 rfl inX12 (by decide) w_887)) (Cs_nd (Cs_lf (sg_iconst dX12_feed_66 (by decide))) (Cs_lf (sg_iadd dX12_feed_67))))) (Cs_nd (Cs_nd (Cs_lf (sg_putf dX12_feed_68 rfl inX12 tyX12_ok nmX12 (by decide) w_887 rfl (tyX12_ok 4 (by decide)) ok_int)) (Cs_nd (Cs_lf (sg_iinc dX12_feed_71 (by decide) (by decide))) (Cs_lf (sg_goto dX12_feed_74 (by decide))))) (Cs_nd (Cs_lf (sg_aload_n dX12_feed_77 rfl)) (Cs_nd (Cs_lf (sg_getf dX12_feed_78 rfl inX12 (by decide) w_887)) (Cs_lf (sg_iret dX12_feed_81 rfl))))))))
theorem dX12_fails_0 : decode cX12_fails 0 = .ok (.aload_n 0, 1) := by decide +kernel
theorem dX12_fails_1 : decode cX12_fails 1 = .ok (.getfield 52, 3) := by decide +kernel
theorem dX12_fails_4 : decode cX12_fails 4 = .ok (.ifCond .ne 13, 3) := by decide +kernel
theorem dX12_fails_7 : decode cX12_fails 7 = .ok (.aload_n 0, 1) := by decide +kernel
theorem dX12_fails_8 : decode cX12_fails 8 = .ok (.iload_n 1, 1) := by decide +kernel
theorem dX12_fails_9 : decode cX12_fails 9 = .ok (.putfield 52, 3) := by decide +kernel
theorem dX12_fails_12 : decode cX12_fails 12 = .ok (.aload_n 0, 1) := by decide +kernel
theorem dX12_fails_13 : decode cX12_fails 13 = .ok (.iload_n 2, 1) := by decide +kernel
theorem dX12_fails_14 : decode cX12_fails 14 = .ok (.putfield 22, 3) := by decide +kernel
theorem dX12_fails_17 : decode cX12_fails 17 = .ok (.return_, 1) := by decide +kernel
set_option maxRecDepth 20000 in
theorem s_MO_fails (E : XE) : Cs E (yX12_fails, cX12_fails, 3, none) (k_MO_fails) := (Cs_nd (Cs_nd (Cs_nd (Cs_lf (sg_aload_n dX12_fails_0 rfl)) (Cs_lf (sg_getf dX12_fails_1 rfl inX12 (by decide) w_891))) (Cs_nd (Cs_lf (sg_ifne dX12_fails_4 (by decide))) (Cs_nd (Cs_lf (sg_aload_n dX12_fails_7 rfl)) (Cs_lf (sg_iload_n dX12_fails_8 rfl))))) (Cs_nd (Cs_nd (Cs_lf (sg_putf dX12_fails_9 rfl inX12 tyX12_ok nmX12 (by decide) w_891 rfl (tyX12_ok 8 (by decide)) ok_int)) (Cs_lf (sg_aload_n dX12_fails_12 rfl))) (Cs_nd (Cs_lf (sg_iload_n dX12_fails_13 rfl)) (Cs_nd (Cs_lf (sg_putf dX12_fails_14 rfl inX12 tyX12_ok nmX12 (by decide) w_892 rfl (tyX12_ok 9 (by decide)) ok_int)) (Cs_lf (sg_vret dX12_fails_17 rfl))))))
theorem dX12_goes_0 : decode cX12_goes 0 = .ok (.aload_n 0, 1) := by decide +kernel
theorem dX12_goes_1 : decode cX12_goes 1 = .ok (.getfield 52, 3) := by decide +kernel
theorem dX12_goes_4 : decode cX12_goes 4 = .ok (.ifCond .ne 33, 3) := by decide +kernel
theorem dX12_goes_7 : decode cX12_goes 7 = .ok (.iload_n 1, 1) := by decide +kernel
theorem dX12_goes_8 : decode cX12_goes 8 = .ok (.aload_n 0, 1) := by decide +kernel
theorem dX12_goes_9 : decode cX12_goes 9 = .ok (.getfield 55, 3) := by decide +kernel
theorem dX12_goes_12 : decode cX12_goes 12 = .ok (.getfield 59, 3) := by decide +kernel
theorem dX12_goes_15 : decode cX12_goes 15 = .ok (.arraylength, 1) := by decide +kernel
theorem dX12_goes_16 : decode cX12_goes 16 = .ok (.aload_n 0, 1) := by decide +kernel
theorem dX12_goes_17 : decode cX12_goes 17 = .ok (.getfield 62, 3) := by decide +kernel
theorem dX12_goes_20 : decode cX12_goes 20 = .ok (.isub, 1) := by decide +kernel
theorem dX12_goes_21 : decode cX12_goes 21 = .ok (.if_icmp .le 16, 3) := by decide +kernel
theorem dX12_goes_24 : decode cX12_goes 24 = .ok (.aload_n 0, 1) := by decide +kernel
theorem dX12_goes_25 : decode cX12_goes 25 = .ok (.iconst 1, 1) := by decide +kernel
theorem dX12_goes_26 : decode cX12_goes 26 = .ok (.aload_n 0, 1) := by decide +kernel
theorem dX12_goes_27 : decode cX12_goes 27 = .ok (.getfield 55, 3) := by decide +kernel
theorem dX12_goes_30 : decode cX12_goes 30 = .ok (.getfield 59, 3) := by decide +kernel
theorem dX12_goes_33 : decode cX12_goes 33 = .ok (.arraylength, 1) := by decide +kernel
theorem dX12_goes_34 : decode cX12_goes 34 = .ok (.invokevirtual 65, 3) := by decide +kernel
theorem dX12_goes_37 : decode cX12_goes 37 = .ok (.aload_n 0, 1) := by decide +kernel
theorem dX12_goes_38 : decode cX12_goes 38 = .ok (.dup, 1) := by decide +kernel
theorem dX12_goes_39 : decode cX12_goes 39 = .ok (.getfield 62, 3) := by decide +kernel
theorem dX12_goes_42 : decode cX12_goes 42 = .ok (.aload_n 0, 1) := by decide +kernel
theorem dX12_goes_43 : decode cX12_goes 43 = .ok (.getfield 52, 3) := by decide +kernel
theorem dX12_goes_46 : decode cX12_goes 46 = .ok (.ifCond .ne 7, 3) := by decide +kernel
theorem dX12_goes_49 : decode cX12_goes 49 = .ok (.iload_n 1, 1) := by decide +kernel
theorem dX12_goes_50 : decode cX12_goes 50 = .ok (.goto 4, 3) := by decide +kernel
theorem dX12_goes_53 : decode cX12_goes 53 = .ok (.iconst 0, 1) := by decide +kernel
theorem dX12_goes_54 : decode cX12_goes 54 = .ok (.iadd, 1) := by decide +kernel
theorem dX12_goes_55 : decode cX12_goes 55 = .ok (.putfield 62, 3) := by decide +kernel
theorem dX12_goes_58 : decode cX12_goes 58 = .ok (.aload_n 0, 1) := by decide +kernel
theorem dX12_goes_59 : decode cX12_goes 59 = .ok (.getfield 52, 3) := by decide +kernel
theorem dX12_goes_62 : decode cX12_goes 62 = .ok (.ifCond .ne 7, 3) := by decide +kernel
theorem dX12_goes_65 : decode cX12_goes 65 = .ok (.iconst 1, 1) := by decide +kernel
theorem dX12_goes_66 : decode cX12_goes 66 = .ok (.goto 4, 3) := by decide +kernel
theorem dX12_goes_69 : decode cX12_goes 69 = .ok (.iconst 0, 1) := by decide +kernel
theorem dX12_goes_70 : decode cX12_goes 70 = .ok (.ireturn, 1) := by decide +kernel
set_option maxRecDepth 20000 in
theorem s_MO_goes (E : XE) : Cs E (yX12_goes, cX12_goes, 2, some .boolean) (k_MO_goes) := (Cs_nd (Cs_nd (Cs_nd (Cs_nd (Cs_nd (Cs_lf (sg_aload_n dX12_goes_0 rfl)) (Cs_lf (sg_getf dX12_goes_1 rfl inX12 (by decide) w_891))) (Cs_nd (Cs_lf (sg_ifne dX12_goes_4 (by decide))) (Cs_lf (sg_iload_n dX12_goes_7 rfl)))) (Cs_nd (Cs_nd (Cs_lf (sg_aload_n dX12_goes_8 rfl)) (Cs_lf (sg_getf dX12_goes_9 rfl inX12 (by decide) w_889))) (Cs_nd (Cs_lf (sg_getf dX12_goes_12 rfl inX9 (by decide) w_962)) (Cs_nd (Cs_lf (sg_alen dX12_goes_15)) (Cs_lf (sg_aload_n dX12_goes_16 rfl)))))) (Cs_nd (Cs_nd (Cs_nd (Cs_lf (sg_getf dX12_goes_17 rfl inX12 (by decide) w_890)) (Cs_lf (sg_isub dX12_goes_20))) (Cs_nd (Cs_lf (sg_cle dX12_goes_21 (by decide))) (Cs_lf (sg_aload_n dX12_goes_24 rfl)))) (Cs_nd (Cs_nd (Cs_lf (sg_iconst dX12_goes_25 (by decide))) (Cs_lf (sg_aload_n dX12_goes_26 rfl))) (Cs_nd (Cs_lf (sg_getf dX12_goes_27 rfl inX12 (by decide) w_889)) (Cs_nd (Cs_lf (sg_getf dX12_goes_30 rfl inX9 (by decide) w_962)) (Cs_lf (sg_alen dX12_goes_33))))))) (Cs_nd (Cs_nd (Cs_nd (Cs_nd (Cs_lf (sg_invV (mid := 126) (ci := 11) (by decide +kernel) dX12_goes_34 ok_126 rfl w_1010 w_1012 ws_28)) (Cs_lf (sg_aload_n dX12_goes_37 rfl))) (Cs_nd (Cs_lf (sg_dup dX12_goes_38)) (Cs_lf (sg_getf dX12_goes_39 rfl inX12 (by decide) w_890)))) (Cs_nd (Cs_nd (Cs_lf (sg_aload_n dX12_goes_42 rfl)) (Cs_lf (sg_getf dX12_goes_43 rfl inX12 (by decide) w_891))) (Cs_nd (Cs_lf (sg_ifne dX12_goes_46 (by decide))) (Cs_nd (Cs_lf (sg_iload_n dX12_goes_49 rfl)) (Cs_lf (sg_goto dX12_goes_50 (by decide))))))) (Cs_nd (Cs_nd (Cs_nd (Cs_lf (sg_iconst dX12_goes_53 (by decide))) (Cs_lf (sg_iadd dX12_goes_54))) (Cs_nd (Cs_lf (sg_putf dX12_goes_55 rfl inX12 tyX12_ok nmX12 (by decide) w_890 rfl (tyX12_ok 7 (by decide)) ok_int)) (Cs_nd (Cs_lf (sg_aload_n dX12_goes_58 rfl)) (Cs_lf (sg_getf dX12_goes_59 rfl inX12 (by decide) w_891))))) (Cs_nd (Cs_nd (Cs_lf (sg_ifne dX12_goes_62 (by decide))) (Cs_lf (sg_iconst dX12_goes_65 (by decide)))) (Cs_nd (Cs_lf (sg_goto dX12_goes_66 (by decide))) (Cs_nd (Cs_lf (sg_iconst dX12_goes_69 (by decide))) (Cs_lf (sg_zret dX12_goes_70 rfl ⟨by decide, by decide⟩))))))))
theorem dX12_nextTwo_0 : decode cX12_nextTwo 0 = .ok (.aload_n 0, 1) := by decide +kernel
theorem dX12_nextTwo_1 : decode cX12_nextTwo 1 = .ok (.iconst 2, 1) := by decide +kernel
theorem dX12_nextTwo_2 : decode cX12_nextTwo 2 = .ok (.invokevirtual 69, 3) := by decide +kernel
theorem dX12_nextTwo_5 : decode cX12_nextTwo 5 = .ok (.ifCond .eq 19, 3) := by decide +kernel
theorem dX12_nextTwo_8 : decode cX12_nextTwo 8 = .ok (.aload_n 0, 1) := by decide +kernel
theorem dX12_nextTwo_9 : decode cX12_nextTwo 9 = .ok (.getfield 55, 3) := by decide +kernel
theorem dX12_nextTwo_12 : decode cX12_nextTwo 12 = .ok (.aload_n 0, 1) := by decide +kernel
theorem dX12_nextTwo_13 : decode cX12_nextTwo 13 = .ok (.getfield 62, 3) := by decide +kernel
theorem dX12_nextTwo_16 : decode cX12_nextTwo 16 = .ok (.iconst 2, 1) := by decide +kernel
theorem dX12_nextTwo_17 : decode cX12_nextTwo 17 = .ok (.isub, 1) := by decide +kernel
theorem dX12_nextTwo_18 : decode cX12_nextTwo 18 = .ok (.invokevirtual 73, 3) := by decide +kernel
theorem dX12_nextTwo_21 : decode cX12_nextTwo 21 = .ok (.goto 4, 3) := by decide +kernel
theorem dX12_nextTwo_24 : decode cX12_nextTwo 24 = .ok (.iconst 0, 1) := by decide +kernel
theorem dX12_nextTwo_25 : decode cX12_nextTwo 25 = .ok (.ireturn, 1) := by decide +kernel
set_option maxRecDepth 20000 in
theorem s_MO_nextTwo (E : XE) : Cs E (yX12_nextTwo, cX12_nextTwo, 1, some .int) (k_MO_nextTwo) := (Cs_nd (Cs_nd (Cs_nd (Cs_lf (sg_aload_n dX12_nextTwo_0 rfl)) (Cs_nd (Cs_lf (sg_iconst dX12_nextTwo_1 (by decide))) (Cs_lf (sg_invV (mid := 127) (ci := 11) (by decide +kernel) dX12_nextTwo_2 ok_127 rfl w_1006 w_1008 ws_27)))) (Cs_nd (Cs_nd (Cs_lf (sg_ifeq dX12_nextTwo_5 (by decide))) (Cs_lf (sg_aload_n dX12_nextTwo_8 rfl))) (Cs_nd (Cs_lf (sg_getf dX12_nextTwo_9 rfl inX12 (by decide) w_889)) (Cs_lf (sg_aload_n dX12_nextTwo_12 rfl))))) (Cs_nd (Cs_nd (Cs_lf (sg_getf dX12_nextTwo_13 rfl inX12 (by decide) w_890)) (Cs_nd (Cs_lf (sg_iconst dX12_nextTwo_16 (by decide))) (Cs_lf (sg_isub dX12_nextTwo_17)))) (Cs_nd (Cs_nd (Cs_lf (sg_invV (mid := 114) (ci := 8) (by decide +kernel) dX12_nextTwo_18 ok_114 rfl w_1018 w_1019 w_1020)) (Cs_lf (sg_goto dX12_nextTwo_21 (by decide)))) (Cs_nd (Cs_lf (sg_iconst dX12_nextTwo_24 (by decide))) (Cs_lf (sg_iret dX12_nextTwo_25 rfl))))))
theorem dX12_many_0 : decode cX12_many 0 = .ok (.aload_n 0, 1) := by decide +kernel
theorem dX12_many_1 : decode cX12_many 1 = .ok (.invokevirtual 77, 3) := by decide +kernel
theorem dX12_many_4 : decode cX12_many 4 = .ok (.istore_n 2, 1) := by decide +kernel
theorem dX12_many_5 : decode cX12_many 5 = .ok (.iload_n 2, 1) := by decide +kernel
theorem dX12_many_6 : decode cX12_many 6 = .ok (.iload_n 1, 1) := by decide +kernel
theorem dX12_many_7 : decode cX12_many 7 = .ok (.if_icmp .le 14, 3) := by decide +kernel
theorem dX12_many_10 : decode cX12_many 10 = .ok (.aload_n 0, 1) := by decide +kernel
theorem dX12_many_11 : decode cX12_many 11 = .ok (.iconst 3, 1) := by decide +kernel
theorem dX12_many_12 : decode cX12_many 12 = .ok (.aload_n 0, 1) := by decide +kernel
theorem dX12_many_13 : decode cX12_many 13 = .ok (.getfield 62, 3) := by decide +kernel
theorem dX12_many_16 : decode cX12_many 16 = .ok (.iconst 2, 1) := by decide +kernel
theorem dX12_many_17 : decode cX12_many 17 = .ok (.isub, 1) := by decide +kernel
theorem dX12_many_18 : decode cX12_many 18 = .ok (.invokevirtual 65, 3) := by decide +kernel
theorem dX12_many_21 : decode cX12_many 21 = .ok (.aload_n 0, 1) := by decide +kernel
theorem dX12_many_22 : decode cX12_many 22 = .ok (.getfield 52, 3) := by decide +kernel
theorem dX12_many_25 : decode cX12_many 25 = .ok (.ifCond .ne 7, 3) := by decide +kernel
theorem dX12_many_28 : decode cX12_many 28 = .ok (.iload_n 2, 1) := by decide +kernel
theorem dX12_many_29 : decode cX12_many 29 = .ok (.goto 4, 3) := by decide +kernel
theorem dX12_many_32 : decode cX12_many 32 = .ok (.iconst 0, 1) := by decide +kernel
theorem dX12_many_33 : decode cX12_many 33 = .ok (.ireturn, 1) := by decide +kernel
set_option maxRecDepth 20000 in
theorem s_MO_many (E : XE) : Cs E (yX12_many, cX12_many, 3, some .int) (k_MO_many) := (Cs_nd (Cs_nd (Cs_nd (Cs_nd (Cs_lf (sg_aload_n dX12_many_0 rfl)) (Cs_lf (sg_invV (mid := 128) (ci := 11) (by decide +kernel) dX12_many_1 ok_128 rfl w_1014 w_1016 ws_29))) (Cs_nd (Cs_lf (sg_istore_n dX12_many_4 rfl (by decide))) (Cs_nd (Cs_lf (sg_iload_n dX12_many_5 rfl)) (Cs_lf (sg_iload_n dX12_many_6 rfl))))) (Cs_nd (Cs_nd (Cs_lf (sg_cle dX12_many_7 (by decide))) (Cs_lf (sg_aload_n dX12_many_10 rfl))) (Cs_nd (Cs_lf (sg_iconst dX12_many_11 (by decide))) (Cs_nd (Cs_lf (sg_aload_n dX12_many_12 rfl)) (Cs_lf (sg_getf dX12_many_13 rfl inX12 (by decide) w_890)))))) (Cs_nd (Cs_nd (Cs_nd (Cs_lf (sg_iconst dX12_many_16 (by decide))) (Cs_lf (sg_isub dX12_many_17))) (Cs_nd (Cs_lf (sg_invV (mid := 126) (ci := 11) (by decide +kernel) dX12_many_18 ok_126 rfl w_1010 w_1012 ws_28)) (Cs_nd (Cs_lf (sg_aload_n dX12_many_21 rfl)) (Cs_lf (sg_getf dX12_many_22 rfl inX12 (by decide) w_891))))) (Cs_nd (Cs_nd (Cs_lf (sg_ifne dX12_many_25 (by decide))) (Cs_lf (sg_iload_n dX12_many_28 rfl))) (Cs_nd (Cs_lf (sg_goto dX12_many_29 (by decide))) (Cs_nd (Cs_lf (sg_iconst dX12_many_32 (by decide))) (Cs_lf (sg_iret dX12_many_33 rfl)))))))
theorem dX12_parse_0 : decode cX12_parse 0 = .ok (.iconst 4, 1) := by decide +kernel
theorem dX12_parse_1 : decode cX12_parse 1 = .ok (.newarray .int, 2) := by decide +kernel
theorem dX12_parse_3 : decode cX12_parse 3 = .ok (.dup, 1) := by decide +kernel
theorem dX12_parse_4 : decode cX12_parse 4 = .ok (.iconst 0, 1) := by decide +kernel
theorem dX12_parse_5 : decode cX12_parse 5 = .ok (.sipush 202, 3) := by decide +kernel
theorem dX12_parse_8 : decode cX12_parse 8 = .ok (.iastore, 1) := by decide +kernel
theorem dX12_parse_9 : decode cX12_parse 9 = .ok (.dup, 1) := by decide +kernel
theorem dX12_parse_10 : decode cX12_parse 10 = .ok (.iconst 1, 1) := by decide +kernel
theorem dX12_parse_11 : decode cX12_parse 11 = .ok (.sipush 254, 3) := by decide +kernel
theorem dX12_parse_14 : decode cX12_parse 14 = .ok (.iastore, 1) := by decide +kernel
theorem dX12_parse_15 : decode cX12_parse 15 = .ok (.dup, 1) := by decide +kernel
theorem dX12_parse_16 : decode cX12_parse 16 = .ok (.iconst 2, 1) := by decide +kernel
theorem dX12_parse_17 : decode cX12_parse 17 = .ok (.sipush 186, 3) := by decide +kernel
theorem dX12_parse_20 : decode cX12_parse 20 = .ok (.iastore, 1) := by decide +kernel
theorem dX12_parse_21 : decode cX12_parse 21 = .ok (.dup, 1) := by decide +kernel
theorem dX12_parse_22 : decode cX12_parse 22 = .ok (.iconst 3, 1) := by decide +kernel
theorem dX12_parse_23 : decode cX12_parse 23 = .ok (.sipush 190, 3) := by decide +kernel
theorem dX12_parse_26 : decode cX12_parse 26 = .ok (.iastore, 1) := by decide +kernel
theorem dX12_parse_27 : decode cX12_parse 27 = .ok (.astore_n 1, 1) := by decide +kernel
theorem dX12_parse_28 : decode cX12_parse 28 = .ok (.iconst 0, 1) := by decide +kernel
theorem dX12_parse_29 : decode cX12_parse 29 = .ok (.istore_n 2, 1) := by decide +kernel
theorem dX12_parse_30 : decode cX12_parse 30 = .ok (.iload_n 2, 1) := by decide +kernel
theorem dX12_parse_31 : decode cX12_parse 31 = .ok (.iconst 4, 1) := by decide +kernel
theorem dX12_parse_32 : decode cX12_parse 32 = .ok (.if_icmp .ge 49, 3) := by decide +kernel
theorem dX12_parse_35 : decode cX12_parse 35 = .ok (.aload_n 0, 1) := by decide +kernel
theorem dX12_parse_36 : decode cX12_parse 36 = .ok (.getfield 52, 3) := by decide +kernel
theorem dX12_parse_39 : decode cX12_parse 39 = .ok (.ifCond .ne 42, 3) := by decide +kernel
theorem dX12_parse_42 : decode cX12_parse 42 = .ok (.aload_n 0, 1) := by decide +kernel
theorem dX12_parse_43 : decode cX12_parse 43 = .ok (.iconst 1, 1) := by decide +kernel
theorem dX12_parse_44 : decode cX12_parse 44 = .ok (.invokevirtual 69, 3) := by decide +kernel
theorem dX12_parse_47 : decode cX12_parse 47 = .ok (.ifCond .eq 28, 3) := by decide +kernel
theorem dX12_parse_50 : decode cX12_parse 50 = .ok (.aload_n 0, 1) := by decide +kernel
theorem dX12_parse_51 : decode cX12_parse 51 = .ok (.getfield 55, 3) := by decide +kernel
theorem dX12_parse_54 : decode cX12_parse 54 = .ok (.getfield 59, 3) := by decide +kernel
theorem dX12_parse_57 : decode cX12_parse 57 = .ok (.iload_n 2, 1) := by decide +kernel
theorem dX12_parse_58 : decode cX12_parse 58 = .ok (.baload, 1) := by decide +kernel
theorem dX12_parse_59 : decode cX12_parse 59 = .ok (.sipush 255, 3) := by decide +kernel
theorem dX12_parse_62 : decode cX12_parse 62 = .ok (.iand, 1) := by decide +kernel
theorem dX12_parse_63 : decode cX12_parse 63 = .ok (.aload_n 1, 1) := by decide +kernel
theorem dX12_parse_64 : decode cX12_parse 64 = .ok (.iload_n 2, 1) := by decide +kernel
theorem dX12_parse_65 : decode cX12_parse 65 = .ok (.iaload, 1) := by decide +kernel
theorem dX12_parse_66 : decode cX12_parse 66 = .ok (.if_icmp .eq 9, 3) := by decide +kernel
theorem dX12_parse_69 : decode cX12_parse 69 = .ok (.aload_n 0, 1) := by decide +kernel
theorem dX12_parse_70 : decode cX12_parse 70 = .ok (.iconst 2, 1) := by decide +kernel
theorem dX12_parse_71 : decode cX12_parse 71 = .ok (.iload_n 2, 1) := by decide +kernel
theorem dX12_parse_72 : decode cX12_parse 72 = .ok (.invokevirtual 65, 3) := by decide +kernel
theorem dX12_parse_75 : decode cX12_parse 75 = .ok (.iinc 2 1, 3) := by decide +kernel
theorem dX12_parse_78 : decode cX12_parse 78 = .ok (.goto (-48), 3) := by decide +kernel
theorem dX12_parse_81 : decode cX12_parse 81 = .ok (.aload_n 0, 1) := by decide +kernel
theorem dX12_parse_82 : decode cX12_parse 82 = .ok (.iconst 4, 1) := by decide +kernel
theorem dX12_parse_83 : decode cX12_parse 83 = .ok (.invokevirtual 69, 3) := by decide +kernel
theorem dX12_parse_86 : decode cX12_parse 86 = .ok (.istore_n 2, 1) := by decide +kernel
theorem dX12_parse_87 : decode cX12_parse 87 = .ok (.aload_n 0, 1) := by decide +kernel
theorem dX12_parse_88 : decode cX12_parse 88 = .ok (.getfield 55, 3) := by decide +kernel
theorem dX12_parse_91 : decode cX12_parse 91 = .ok (.aload_n 0, 1) := by decide +kernel
theorem dX12_parse_92 : decode cX12_parse 92 = .ok (.invokevirtual 77, 3) := by decide +kernel
theorem dX12_parse_95 : decode cX12_parse 95 = .ok (.putfield 81, 3) := by decide +kernel
theorem dX12_parse_98 : decode cX12_parse 98 = .ok (.aload_n 0, 1) := by decide +kernel
theorem dX12_parse_99 : decode cX12_parse 99 = .ok (.getfield 52, 3) := by decide +kernel
theorem dX12_parse_102 : decode cX12_parse 102 = .ok (.ifCond .ne 30, 3) := by decide +kernel
theorem dX12_parse_105 : decode cX12_parse 105 = .ok (.aload_n 0, 1) := by decide +kernel
theorem dX12_parse_106 : decode cX12_parse 106 = .ok (.getfield 55, 3) := by decide +kernel
theorem dX12_parse_109 : decode cX12_parse 109 = .ok (.getfield 81, 3) := by decide +kernel
theorem dX12_parse_112 : decode cX12_parse 112 = .ok (.iconst 1, 1) := by decide +kernel
theorem dX12_parse_113 : decode cX12_parse 113 = .ok (.bipush 61, 2) := by decide +kernel
theorem dX12_parse_115 : decode cX12_parse 115 = .ok (.invokestatic 45, 3) := by decide +kernel
theorem dX12_parse_118 : decode cX12_parse 118 = .ok (.ifCond .ne 14, 3) := by decide +kernel
theorem dX12_parse_121 : decode cX12_parse 121 = .ok (.aload_n 0, 1) := by decide +kernel
theorem dX12_parse_122 : decode cX12_parse 122 = .ok (.iconst 3, 1) := by decide +kernel
theorem dX12_parse_123 : decode cX12_parse 123 = .ok (.aload_n 0, 1) := by decide +kernel
theorem dX12_parse_124 : decode cX12_parse 124 = .ok (.getfield 62, 3) := by decide +kernel
theorem dX12_parse_127 : decode cX12_parse 127 = .ok (.iconst 2, 1) := by decide +kernel
theorem dX12_parse_128 : decode cX12_parse 128 = .ok (.isub, 1) := by decide +kernel
theorem dX12_parse_129 : decode cX12_parse 129 = .ok (.invokevirtual 65, 3) := by decide +kernel
theorem dX12_parse_132 : decode cX12_parse 132 = .ok (.iconst 1, 1) := by decide +kernel
theorem dX12_parse_133 : decode cX12_parse 133 = .ok (.istore_n 3, 1) := by decide +kernel
theorem dX12_parse_134 : decode cX12_parse 134 = .ok (.iload_n 3, 1) := by decide +kernel
theorem dX12_parse_135 : decode cX12_parse 135 = .ok (.aload_n 0, 1) := by decide +kernel
theorem dX12_parse_136 : decode cX12_parse 136 = .ok (.getfield 55, 3) := by decide +kernel
theorem dX12_parse_139 : decode cX12_parse 139 = .ok (.getfield 81, 3) := by decide +kernel
theorem dX12_parse_142 : decode cX12_parse 142 = .ok (.if_icmp .ge 21, 3) := by decide +kernel
theorem dX12_parse_145 : decode cX12_parse 145 = .ok (.aload_n 0, 1) := by decide +kernel
theorem dX12_parse_146 : decode cX12_parse 146 = .ok (.getfield 52, 3) := by decide +kernel
theorem dX12_parse_149 : decode cX12_parse 149 = .ok (.ifCond .ne 14, 3) := by decide +kernel
theorem dX12_parse_152 : decode cX12_parse 152 = .ok (.iload_n 3, 1) := by decide +kernel
theorem dX12_parse_153 : decode cX12_parse 153 = .ok (.aload_n 0, 1) := by decide +kernel
theorem dX12_parse_154 : decode cX12_parse 154 = .ok (.iload_n 3, 1) := by decide +kernel
theorem dX12_parse_155 : decode cX12_parse 155 = .ok (.invokevirtual 84, 3) := by decide +kernel
theorem dX12_parse_158 : decode cX12_parse 158 = .ok (.iadd, 1) := by decide +kernel
theorem dX12_parse_159 : decode cX12_parse 159 = .ok (.istore_n 3, 1) := by decide +kernel
theorem dX12_parse_160 : decode cX12_parse 160 = .ok (.goto (-26), 3) := by decide +kernel
theorem dX12_parse_163 : decode cX12_parse 163 = .ok (.aload_n 0, 1) := by decide +kernel
theorem dX12_parse_164 : decode cX12_parse 164 = .ok (.getfield 55, 3) := by decide +kernel
theorem dX12_parse_167 : decode cX12_parse 167 = .ok (.aload_n 0, 1) := by decide +kernel
theorem dX12_parse_168 : decode cX12_parse 168 = .ok (.getfield 62, 3) := by decide +kernel
theorem dX12_parse_171 : decode cX12_parse 171 = .ok (.putfield 87, 3) := by decide +kernel
theorem dX12_parse_174 : decode cX12_parse 174 = .ok (.aload_n 0, 1) := by decide +kernel
theorem dX12_parse_175 : decode cX12_parse 175 = .ok (.bipush 6, 2) := by decide +kernel
theorem dX12_parse_177 : decode cX12_parse 177 = .ok (.invokevirtual 69, 3) := by decide +kernel
theorem dX12_parse_180 : decode cX12_parse 180 = .ok (.istore_n 3, 1) := by decide +kernel
theorem dX12_parse_181 : decode cX12_parse 181 = .ok (.aload_n 0, 1) := by decide +kernel
theorem dX12_parse_182 : decode cX12_parse 182 = .ok (.getfield 55, 3) := by decide +kernel
theorem dX12_parse_185 : decode cX12_parse 185 = .ok (.aload_n 0, 1) := by decide +kernel
theorem dX12_parse_186 : decode cX12_parse 186 = .ok (.bipush 8, 2) := by decide +kernel
theorem dX12_parse_188 : decode cX12_parse 188 = .ok (.invokevirtual 90, 3) := by decide +kernel
theorem dX12_parse_191 : decode cX12_parse 191 = .ok (.putfield 93, 3) := by decide +kernel
theorem dX12_parse_194 : decode cX12_parse 194 = .ok (.aload_n 0, 1) := by decide +kernel
theorem dX12_parse_195 : decode cX12_parse 195 = .ok (.iconst 2, 1) := by decide +kernel
theorem dX12_parse_196 : decode cX12_parse 196 = .ok (.aload_n 0, 1) := by decide +kernel
theorem dX12_parse_197 : decode cX12_parse 197 = .ok (.getfield 55, 3) := by decide +kernel
theorem dX12_parse_200 : decode cX12_parse 200 = .ok (.getfield 93, 3) := by decide +kernel
theorem dX12_parse_203 : decode cX12_parse 203 = .ok (.imul, 1) := by decide +kernel
theorem dX12_parse_204 : decode cX12_parse 204 = .ok (.invokevirtual 69, 3) := by decide +kernel
theorem dX12_parse_207 : decode cX12_parse 207 = .ok (.istore_n 3, 1) := by decide +kernel
theorem dX12_parse_208 : decode cX12_parse 208 = .ok (.iconst 0, 1) := by decide +kernel
theorem dX12_parse_209 : decode cX12_parse 209 = .ok (.istore 4, 2) := by decide +kernel
theorem dX12_parse_211 : decode cX12_parse 211 = .ok (.iload 4, 2) := by decide +kernel
theorem dX12_parse_213 : decode cX12_parse 213 = .ok (.iconst 2, 1) := by decide +kernel
theorem dX12_parse_214 : decode cX12_parse 214 = .ok (.if_icmp .ge 105, 3) := by decide +kernel
theorem dX12_parse_217 : decode cX12_parse 217 = .ok (.aload_n 0, 1) := by decide +kernel
theorem dX12_parse_218 : decode cX12_parse 218 = .ok (.getfield 55, 3) := by decide +kernel
theorem dX12_parse_221 : decode cX12_parse 221 = .ok (.getfield 96, 3) := by decide +kernel
theorem dX12_parse_224 : decode cX12_parse 224 = .ok (.iload 4, 2) := by decide +kernel
theorem dX12_parse_226 : decode cX12_parse 226 = .ok (.aload_n 0, 1) := by decide +kernel
theorem dX12_parse_227 : decode cX12_parse 227 = .ok (.bipush 12, 2) := by decide +kernel
theorem dX12_parse_229 : decode cX12_parse 229 = .ok (.invokevirtual 90, 3) := by decide +kernel
theorem dX12_parse_232 : decode cX12_parse 232 = .ok (.iastore, 1) := by decide +kernel
theorem dX12_parse_233 : decode cX12_parse 233 = .ok (.iconst 0, 1) := by decide +kernel
theorem dX12_parse_234 : decode cX12_parse 234 = .ok (.istore 5, 2) := by decide +kernel
theorem dX12_parse_236 : decode cX12_parse 236 = .ok (.iload 5, 2) := by decide +kernel
theorem dX12_parse_238 : decode cX12_parse 238 = .ok (.aload_n 0, 1) := by decide +kernel
theorem dX12_parse_239 : decode cX12_parse 239 = .ok (.getfield 55, 3) := by decide +kernel
theorem dX12_parse_242 : decode cX12_parse 242 = .ok (.getfield 96, 3) := by decide +kernel
theorem dX12_parse_245 : decode cX12_parse 245 = .ok (.iload 4, 2) := by decide +kernel
theorem dX12_parse_247 : decode cX12_parse 247 = .ok (.iaload, 1) := by decide +kernel
theorem dX12_parse_248 : decode cX12_parse 248 = .ok (.if_icmp .ge 65, 3) := by decide +kernel
theorem dX12_parse_251 : decode cX12_parse 251 = .ok (.aload_n 0, 1) := by decide +kernel
theorem dX12_parse_252 : decode cX12_parse 252 = .ok (.getfield 52, 3) := by decide +kernel
theorem dX12_parse_255 : decode cX12_parse 255 = .ok (.ifCond .ne 58, 3) := by decide +kernel
theorem dX12_parse_258 : decode cX12_parse 258 = .ok (.new 99, 3) := by decide +kernel
theorem dX12_parse_261 : decode cX12_parse 261 = .ok (.dup, 1) := by decide +kernel
theorem dX12_parse_262 : decode cX12_parse 262 = .ok (.invokespecial 101, 3) := by decide +kernel
theorem dX12_parse_265 : decode cX12_parse 265 = .ok (.astore 6, 2) := by decide +kernel
theorem dX12_parse_267 : decode cX12_parse 267 = .ok (.aload 6, 2) := by decide +kernel
theorem dX12_parse_269 : decode cX12_parse 269 = .ok (.aload_n 0, 1) := by decide +kernel
theorem dX12_parse_270 : decode cX12_parse 270 = .ok (.getfield 62, 3) := by decide +kernel
theorem dX12_parse_273 : decode cX12_parse 273 = .ok (.putfield 102, 3) := by decide +kernel
theorem dX12_parse_276 : decode cX12_parse 276 = .ok (.aload_n 0, 1) := by decide +kernel
theorem dX12_parse_277 : decode cX12_parse 277 = .ok (.bipush 6, 2) := by decide +kernel
theorem dX12_parse_279 : decode cX12_parse 279 = .ok (.invokevirtual 69, 3) := by decide +kernel
theorem dX12_parse_282 : decode cX12_parse 282 = .ok (.istore_n 3, 1) := by decide +kernel
theorem dX12_parse_283 : decode cX12_parse 283 = .ok (.aload 6, 2) := by decide +kernel
theorem dX12_parse_285 : decode cX12_parse 285 = .ok (.aload_n 0, 1) := by decide +kernel
theorem dX12_parse_286 : decode cX12_parse 286 = .ok (.invokevirtual 103, 3) := by decide +kernel
theorem dX12_parse_289 : decode cX12_parse 289 = .ok (.putfield 107, 3) := by decide +kernel
theorem dX12_parse_292 : decode cX12_parse 292 = .ok (.aload_n 0, 1) := by decide +kernel
theorem dX12_parse_293 : decode cX12_parse 293 = .ok (.getfield 55, 3) := by decide +kernel
theorem dX12_parse_296 : decode cX12_parse 296 = .ok (.getfield 110, 3) := by decide +kernel
theorem dX12_parse_299 : decode cX12_parse 299 = .ok (.iload 4, 2) := by decide +kernel
theorem dX12_parse_301 : decode cX12_parse 301 = .ok (.aaload, 1) := by decide +kernel
theorem dX12_parse_302 : decode cX12_parse 302 = .ok (.iload 5, 2) := by decide +kernel
theorem dX12_parse_304 : decode cX12_parse 304 = .ok (.aload 6, 2) := by decide +kernel
theorem dX12_parse_306 : decode cX12_parse 306 = .ok (.aastore, 1) := by decide +kernel
theorem dX12_parse_307 : decode cX12_parse 307 = .ok (.iinc 5 1, 3) := by decide +kernel
theorem dX12_parse_310 : decode cX12_parse 310 = .ok (.goto (-74), 3) := by decide +kernel
theorem dX12_parse_313 : decode cX12_parse 313 = .ok (.iinc 4 1, 3) := by decide +kernel
theorem dX12_parse_316 : decode cX12_parse 316 = .ok (.goto (-105), 3) := by decide +kernel
theorem dX12_parse_319 : decode cX12_parse 319 = .ok (.aload_n 0, 1) := by decide +kernel
theorem dX12_parse_320 : decode cX12_parse 320 = .ok (.getfield 55, 3) := by decide +kernel
theorem dX12_parse_323 : decode cX12_parse 323 = .ok (.aload_n 0, 1) := by decide +kernel
theorem dX12_parse_324 : decode cX12_parse 324 = .ok (.invokevirtual 103, 3) := by decide +kernel
theorem dX12_parse_327 : decode cX12_parse 327 = .ok (.putfield 114, 3) := by decide +kernel
theorem dX12_parse_330 : decode cX12_parse 330 = .ok (.aload_n 0, 1) := by decide +kernel
theorem dX12_parse_331 : decode cX12_parse 331 = .ok (.getfield 52, 3) := by decide +kernel
theorem dX12_parse_334 : decode cX12_parse 334 = .ok (.ifCond .ne 28, 3) := by decide +kernel
theorem dX12_parse_337 : decode cX12_parse 337 = .ok (.aload_n 0, 1) := by decide +kernel
theorem dX12_parse_338 : decode cX12_parse 338 = .ok (.getfield 62, 3) := by decide +kernel
theorem dX12_parse_341 : decode cX12_parse 341 = .ok (.aload_n 0, 1) := by decide +kernel
theorem dX12_parse_342 : decode cX12_parse 342 = .ok (.getfield 55, 3) := by decide +kernel
theorem dX12_parse_345 : decode cX12_parse 345 = .ok (.getfield 59, 3) := by decide +kernel
theorem dX12_parse_348 : decode cX12_parse 348 = .ok (.arraylength, 1) := by decide +kernel
theorem dX12_parse_349 : decode cX12_parse 349 = .ok (.if_icmp .ge 13, 3) := by decide +kernel
theorem dX12_parse_352 : decode cX12_parse 352 = .ok (.aload_n 0, 1) := by decide +kernel
theorem dX12_parse_353 : decode cX12_parse 353 = .ok (.bipush 6, 2) := by decide +kernel
theorem dX12_parse_355 : decode cX12_parse 355 = .ok (.aload_n 0, 1) := by decide +kernel
theorem dX12_parse_356 : decode cX12_parse 356 = .ok (.getfield 62, 3) := by decide +kernel
theorem dX12_parse_359 : decode cX12_parse 359 = .ok (.invokevirtual 65, 3) := by decide +kernel
theorem dX12_parse_362 : decode cX12_parse 362 = .ok (.return_, 1) := by decide +kernel
set_option maxRecDepth 20000 in
theorem s_MO_parse (E : XE) : Cs E (yX12_parse, cX12_parse, 7, none) (k_MO_parse) := (Cs_nd (Cs_nd (Cs_nd (Cs_nd (Cs_nd (Cs_nd (Cs_nd (Cs_lf (sg_iconst dX12_parse_0 (by decide))) (Cs_lf (sg_newI dX12_parse_1 w_83))) (Cs_nd (Cs_lf (sg_dup dX12_parse_3)) (Cs_nd (Cs_lf (sg_iconst dX12_parse_4 (by decide))) (Cs_lf (sg_sipush dX12_parse_5 (by decide)))))) (Cs_nd (Cs_nd (Cs_lf (sg_iast dX12_parse_8)) (Cs_nd (Cs_lf (sg_dup dX12_parse_9)) (Cs_lf (sg_iconst dX12_parse_10 (by decide))))) (Cs_nd (Cs_lf (sg_sipush dX12_parse_11 (by decide))) (Cs_nd (Cs_lf (sg_iast dX12_parse_14)) (Cs_lf (sg_dup dX12_parse_15)))))) (Cs_nd (Cs_nd (Cs_nd (Cs_lf (sg_iconst dX12_parse_16 (by decide))) (Cs_nd (Cs_lf (sg_sipush dX12_parse_17 (by decide))) (Cs_lf (sg_iast dX12_parse_20)))) (Cs_nd (Cs_lf (sg_dup dX12_parse_21)) (Cs_nd (Cs_lf (sg_iconst dX12_parse_22 (by decide))) (Cs_lf (sg_sipush dX12_parse_23 (by decide)))))) (Cs_nd (Cs_nd (Cs_lf (sg_iast dX12_parse_26)) (Cs_nd (Cs_lf (sg_astore_n dX12_parse_27 rfl (by decide))) (Cs_lf (sg_iconst dX12_parse_28 (by decide))))) (Cs_nd (Cs_lf (sg_istore_n dX12_parse_29 rfl (by decide))) (Cs_nd (Cs_lf (sg_iload_n dX12_parse_30 rfl)) (Cs_lf (sg_iconst dX12_parse_31 (by decide)))))))) (Cs_nd (Cs_nd (Cs_nd (Cs_nd (Cs_lf (sg_cge dX12_parse_32 (by decide))) (Cs_nd (Cs_lf (sg_aload_n dX12_parse_35 rfl)) (Cs_lf (sg_getf dX12_parse_36 rfl inX12 (by decide) w_891)))) (Cs_nd (Cs_lf (sg_ifne dX12_parse_39 (by decide))) (Cs_nd (Cs_lf (sg_aload_n dX12_parse_42 rfl)) (Cs_lf (sg_iconst dX12_parse_43 (by decide)))))) (Cs_nd (Cs_nd (Cs_lf (sg_invV (mid := 127) (ci := 11) (by decide +kernel) dX12_parse_44 ok_127 rfl w_1006 w_1008 ws_27)) (Cs_nd (Cs_lf (sg_ifeq dX12_parse_47 (by decide))) (Cs_lf (sg_aload_n dX12_parse_50 rfl)))) (Cs_nd (Cs_lf (sg_getf dX12_parse_51 rfl inX12 (by decide) w_889)) (Cs_nd (Cs_lf (sg_getf dX12_parse_54 rfl inX9 (by decide) w_962)) (Cs_lf (sg_iload_n dX12_parse_57 rfl)))))) (Cs_nd (Cs_nd (Cs_nd (Cs_lf (sg_bald dX12_parse_58)) (Cs_nd (Cs_lf (sg_sipush dX12_parse_59 (by decide))) (Cs_lf (sg_iand dX12_parse_62)))) (Cs_nd (Cs_lf (sg_aload_n dX12_parse_63 rfl)) (Cs_nd (Cs_lf (sg_iload_n dX12_parse_64 rfl)) (Cs_lf (sg_iald dX12_parse_65))))) (Cs_nd (Cs_nd (Cs_lf (sg_ceq dX12_parse_66 (by decide))) (Cs_nd (Cs_lf (sg_aload_n dX12_parse_69 rfl)) (Cs_lf (sg_iconst dX12_parse_70 (by decide))))) (Cs_nd (Cs_lf (sg_iload_n dX12_parse_71 rfl)) (Cs_nd (Cs_lf (sg_invV (mid := 126) (ci := 11) (by decide +kernel) dX12_parse_72 ok_126 rfl w_1010 w_1012 ws_28)) (Cs_lf (sg_iinc dX12_parse_75 (by decide) (by decide))))))))) (Cs_nd (Cs_nd (Cs_nd (Cs_nd (Cs_nd (Cs_lf (sg_goto dX12_parse_78 (by decide))) (Cs_lf (sg_aload_n dX12_parse_81 rfl))) (Cs_nd (Cs_lf (sg_iconst dX12_parse_82 (by decide))) (Cs_nd (Cs_lf (sg_invV (mid := 127) (ci := 11) (by decide +kernel) dX12_parse_83 ok_127 rfl w_1006 w_1008 ws_27)) (Cs_lf (sg_istore_n dX12_parse_86 rfl (by decide)))))) (Cs_nd (Cs_nd (Cs_lf (sg_aload_n dX12_parse_87 rfl)) (Cs_nd (Cs_lf (sg_getf dX12_parse_88 rfl inX12 (by decide) w_889)) (Cs_lf (sg_aload_n dX12_parse_91 rfl)))) (Cs_nd (Cs_lf (sg_invV (mid := 128) (ci := 11) (by decide +kernel) dX12_parse_92 ok_128 rfl w_1014 w_1016 ws_29)) (Cs_nd (Cs_lf (sg_putf dX12_parse_95 rfl inX9 tyX9_ok nmX9 (by decide) w_963 rfl (tyX9_ok 1 (by decide)) ok_int)) (Cs_lf (sg_aload_n dX12_parse_98 rfl)))))) (Cs_nd (Cs_nd (Cs_nd (Cs_lf (sg_getf dX12_parse_99 rfl inX12 (by decide) w_891)) (Cs_nd (Cs_lf (sg_ifne dX12_parse_102 (by decide))) (Cs_lf (sg_aload_n dX12_parse_105 rfl)))) (Cs_nd (Cs_lf (sg_getf dX12_parse_106 rfl inX12 (by decide) w_889)) (Cs_nd (Cs_lf (sg_getf dX12_parse_109 rfl inX9 (by decide) w_963)) (Cs_lf (sg_iconst dX12_parse_112 (by decide)))))) (Cs_nd (Cs_nd (Cs_lf (sg_bipush dX12_parse_113 (by decide))) (Cs_nd (Cs_lf (sg_inv (mid := 123) (by decide +kernel) dX12_parse_115 ok_123 w_943 w_944)) (Cs_lf (sg_ifne dX12_parse_118 (by decide))))) (Cs_nd (Cs_lf (sg_aload_n dX12_parse_121 rfl)) (Cs_nd (Cs_lf (sg_iconst dX12_parse_122 (by decide))) (Cs_lf (sg_aload_n dX12_parse_123 rfl))))))) (Cs_nd (Cs_nd (Cs_nd (Cs_nd (Cs_lf (sg_getf dX12_parse_124 rfl inX12 (by decide) w_890)) (Cs_nd (Cs_lf (sg_iconst dX12_parse_127 (by decide))) (Cs_lf (sg_isub dX12_parse_128)))) (Cs_nd (Cs_lf (sg_invV (mid := 126) (ci := 11) (by decide +kernel) dX12_parse_129 ok_126 rfl w_1010 w_1012 ws_28)) (Cs_nd (Cs_lf (sg_iconst dX12_parse_132 (by decide))) (Cs_lf (sg_istore_n dX12_parse_133 rfl (by decide)))))) (Cs_nd (Cs_nd (Cs_lf (sg_iload_n dX12_parse_134 rfl)) (Cs_nd (Cs_lf (sg_aload_n dX12_parse_135 rfl)) (Cs_lf (sg_getf dX12_parse_136 rfl inX12 (by decide) w_889)))) (Cs_nd (Cs_lf (sg_getf dX12_parse_139 rfl inX9 (by decide) w_963)) (Cs_nd (Cs_lf (sg_cge dX12_parse_142 (by decide))) (Cs_lf (sg_aload_n dX12_parse_145 rfl)))))) (Cs_nd (Cs_nd (Cs_nd (Cs_lf (sg_getf dX12_parse_146 rfl inX12 (by decide) w_891)) (Cs_nd (Cs_lf (sg_ifne dX12_parse_149 (by decide))) (Cs_lf (sg_iload_n dX12_parse_152 rfl)))) (Cs_nd (Cs_lf (sg_aload_n dX12_parse_153 rfl)) (Cs_nd (Cs_lf (sg_iload_n dX12_parse_154 rfl)) (Cs_lf (sg_invV (mid := 132) (ci := 11) (by decide +kernel) dX12_parse_155 ok_132 rfl w_1022 w_1024 ws_30))))) (Cs_nd (Cs_nd (Cs_lf (sg_iadd dX12_parse_158)) (Cs_nd (Cs_lf (sg_istore_n dX12_parse_159 rfl (by decide))) (Cs_lf (sg_goto dX12_parse_160 (by decide))))) (Cs_nd (Cs_lf (sg_aload_n dX12_parse_163 rfl)) (Cs_nd (Cs_lf (sg_getf dX12_parse_164 rfl inX12 (by decide) w_889)) (Cs_lf (sg_aload_n dX12_parse_167 rfl))))))))) (Cs_nd (Cs_nd (Cs_nd (Cs_nd (Cs_nd (Cs_nd (Cs_lf (sg_getf dX12_parse_168 rfl inX12 (by decide) w_890)) (Cs_lf (sg_putf dX12_parse_171 rfl inX9 tyX9_ok nmX9 (by decide) w_970 rfl (tyX9_ok 5 (by decide)) ok_int))) (Cs_nd (Cs_lf (sg_aload_n dX12_parse_174 rfl)) (Cs_nd (Cs_lf (sg_bipush dX12_parse_175 (by decide))) (Cs_lf (sg_invV (mid := 127) (ci := 11) (by decide +kernel) dX12_parse_177 ok_127 rfl w_1006 w_1008 ws_27))))) (Cs_nd (Cs_nd (Cs_lf (sg_istore_n dX12_parse_180 rfl (by decide))) (Cs_nd (Cs_lf (sg_aload_n dX12_parse_181 rfl)) (Cs_lf (sg_getf dX12_parse_182 rfl inX12 (by decide) w_889)))) (Cs_nd (Cs_lf (sg_aload_n dX12_parse_185 rfl)) (Cs_nd (Cs_lf (sg_bipush dX12_parse_186 (by decide))) (Cs_lf (sg_invV (mid := 129) (ci := 11) (by decide +kernel) dX12_parse_188 ok_129 rfl w_1026 w_1028 ws_31)))))) (Cs_nd (Cs_nd (Cs_nd (Cs_lf (sg_putf dX12_parse_191 rfl inX9 tyX9_ok nmX9 (by decide) w_971 rfl (tyX9_ok 6 (by decide)) ok_int)) (Cs_nd (Cs_lf (sg_aload_n dX12_parse_194 rfl)) (Cs_lf (sg_iconst dX12_parse_195 (by decide))))) (Cs_nd (Cs_lf (sg_aload_n dX12_parse_196 rfl)) (Cs_nd (Cs_lf (sg_getf dX12_parse_197 rfl inX12 (by decide) w_889)) (Cs_lf (sg_getf dX12_parse_200 rfl inX9 (by decide) w_971))))) (Cs_nd (Cs_nd (Cs_lf (sg_imul dX12_parse_203)) (Cs_nd (Cs_lf (sg_invV (mid := 127) (ci := 11) (by decide +kernel) dX12_parse_204 ok_127 rfl w_1006 w_1008 ws_27)) (Cs_lf (sg_istore_n dX12_parse_207 rfl (by decide))))) (Cs_nd (Cs_lf (sg_iconst dX12_parse_208 (by decide))) (Cs_nd (Cs_lf (sg_istore dX12_parse_209 (by decide))) (Cs_lf (sg_iload dX12_parse_211))))))) (Cs_nd (Cs_nd (Cs_nd (Cs_nd (Cs_lf (sg_iconst dX12_parse_213 (by decide))) (Cs_nd (Cs_lf (sg_cge dX12_parse_214 (by decide))) (Cs_lf (sg_aload_n dX12_parse_217 rfl)))) (Cs_nd (Cs_lf (sg_getf dX12_parse_218 rfl inX12 (by decide) w_889)) (Cs_nd (Cs_lf (sg_getf dX12_parse_221 rfl inX9 (by decide) w_975)) (Cs_lf (sg_iload dX12_parse_224))))) (Cs_nd (Cs_nd (Cs_lf (sg_aload_n dX12_parse_226 rfl)) (Cs_nd (Cs_lf (sg_bipush dX12_parse_227 (by decide))) (Cs_lf (sg_invV (mid := 129) (ci := 11) (by decide +kernel) dX12_parse_229 ok_129 rfl w_1026 w_1028 ws_31)))) (Cs_nd (Cs_lf (sg_iast dX12_parse_232)) (Cs_nd (Cs_lf (sg_iconst dX12_parse_233 (by decide))) (Cs_lf (sg_istore dX12_parse_234 (by decide))))))) (Cs_nd (Cs_nd (Cs_nd (Cs_lf (sg_iload dX12_parse_236)) (Cs_nd (Cs_lf (sg_aload_n dX12_parse_238 rfl)) (Cs_lf (sg_getf dX12_parse_239 rfl inX12 (by decide) w_889)))) (Cs_nd (Cs_lf (sg_getf dX12_parse_242 rfl inX9 (by decide) w_975)) (Cs_nd (Cs_lf (sg_iload dX12_parse_245)) (Cs_lf (sg_iald dX12_parse_247))))) (Cs_nd (Cs_nd (Cs_lf (sg_cge dX12_parse_248 (by decide))) (Cs_nd (Cs_lf (sg_aload_n dX12_parse_251 rfl)) (Cs_lf (sg_getf dX12_parse_252 rfl inX12 (by decide) w_891)))) (Cs_nd (Cs_lf (sg_ifne dX12_parse_255 (by decide))) (Cs_nd (Cs_lf (sg_new dX12_parse_258 rfl inX11 tyX11_ok (by decide) w_1030 w_1031 w_13)) (Cs_lf (sg_dup dX12_parse_261)))))))) (Cs_nd (Cs_nd (Cs_nd (Cs_nd (Cs_nd (Cs_lf (sg_invIN (mid := 120) (by decide +kernel) dX12_parse_262 ok_120 rfl rfl (host := RX12) (by decide +kernel) w_1033)) (Cs_lf (sg_astore dX12_parse_265 (by decide)))) (Cs_nd (Cs_lf (sg_aload dX12_parse_267)) (Cs_nd (Cs_lf (sg_aload_n dX12_parse_269 rfl)) (Cs_lf (sg_getf dX12_parse_270 rfl inX12 (by decide) w_890))))) (Cs_nd (Cs_nd (Cs_lf (sg_putf dX12_parse_273 rfl inX11 tyX11_ok nmX11 (by decide) w_1036 rfl (tyX11_ok 0 (by decide)) ok_int)) (Cs_nd (Cs_lf (sg_aload_n dX12_parse_276 rfl)) (Cs_lf (sg_bipush dX12_parse_277 (by decide))))) (Cs_nd (Cs_lf (sg_invV (mid := 127) (ci := 11) (by decide +kernel) dX12_parse_279 ok_127 rfl w_1006 w_1008 ws_27)) (Cs_nd (Cs_lf (sg_istore_n dX12_parse_282 rfl (by decide))) (Cs_lf (sg_aload dX12_parse_283)))))) (Cs_nd (Cs_nd (Cs_nd (Cs_lf (sg_aload_n dX12_parse_285 rfl)) (Cs_nd (Cs_lf (sg_invV (mid := 131) (ci := 11) (by decide +kernel) dX12_parse_286 ok_131 rfl w_1043 w_1045 ws_32)) (Cs_lf (sg_putf dX12_parse_289 rfl inX11 tyX11_ok nmX11 (by decide) w_1037 rfl (tyX11_ok 1 (by decide)) (ok_obj _))))) (Cs_nd (Cs_lf (sg_aload_n dX12_parse_292 rfl)) (Cs_nd (Cs_lf (sg_getf dX12_parse_293 rfl inX12 (by decide) w_889)) (Cs_lf (sg_getf dX12_parse_296 rfl inX9 (by decide) w_973))))) (Cs_nd (Cs_nd (Cs_lf (sg_iload dX12_parse_299)) (Cs_nd (Cs_lf (sg_aald dX12_parse_301)) (Cs_lf (sg_iload dX12_parse_302)))) (Cs_nd (Cs_lf (sg_aload dX12_parse_304)) (Cs_nd (Cs_lf (sg_aast (kd := 8) (ci := 10) (fun _ => rfl) rfl dX12_parse_306)) (Cs_lf (sg_iinc dX12_parse_307 (by decide) (by decide)))))))) (Cs_nd (Cs_nd (Cs_nd (Cs_nd (Cs_lf (sg_goto dX12_parse_310 (by decide))) (Cs_nd (Cs_lf (sg_iinc dX12_parse_313 (by decide) (by decide))) (Cs_lf (sg_goto dX12_parse_316 (by decide))))) (Cs_nd (Cs_lf (sg_aload_n dX12_parse_319 rfl)) (Cs_nd (Cs_lf (sg_getf dX12_parse_320 rfl inX12 (by decide) w_889)) (Cs_lf (sg_aload_n dX12_parse_323 rfl))))) (Cs_nd (Cs_nd (Cs_lf (sg_invV (mid := 131) (ci := 11) (by decide +kernel) dX12_parse_324 ok_131 rfl w_1043 w_1045 ws_32)) (Cs_nd (Cs_lf (sg_putf dX12_parse_327 rfl inX9 tyX9_ok nmX9 (by decide) w_976 rfl (tyX9_ok 9 (by decide)) (ok_obj _))) (Cs_lf (sg_aload_n dX12_parse_330 rfl)))) (Cs_nd (Cs_lf (sg_getf dX12_parse_331 rfl inX12 (by decide) w_891)) (Cs_nd (Cs_lf (sg_ifne dX12_parse_334 (by decide))) (Cs_lf (sg_aload_n dX12_parse_337 rfl)))))) (Cs_nd (Cs_nd (Cs_nd (Cs_lf (sg_getf dX12_parse_338 rfl inX12 (by decide) w_890)) (Cs_nd (Cs_lf (sg_aload_n dX12_parse_341 rfl)) (Cs_lf (sg_getf dX12_parse_342 rfl inX12 (by decide) w_889)))) (Cs_nd (Cs_lf (sg_getf dX12_parse_345 rfl inX9 (by decide) w_962)) (Cs_nd (Cs_lf (sg_alen dX12_parse_348)) (Cs_lf (sg_cge dX12_parse_349 (by decide)))))) (Cs_nd (Cs_nd (Cs_lf (sg_aload_n dX12_parse_352 rfl)) (Cs_nd (Cs_lf (sg_bipush dX12_parse_353 (by decide))) (Cs_lf (sg_aload_n dX12_parse_355 rfl)))) (Cs_nd (Cs_lf (sg_getf dX12_parse_356 rfl inX12 (by decide) w_890)) (Cs_nd (Cs_lf (sg_invV (mid := 126) (ci := 11) (by decide +kernel) dX12_parse_359 ok_126 rfl w_1010 w_1012 ws_28)) (Cs_lf (sg_vret dX12_parse_362 rfl))))))))))
theorem dX12_attributes_0 : decode cX12_attributes 0 = .ok (.new 117, 3) := by decide +kernel
theorem dX12_attributes_3 : decode cX12_attributes 3 = .ok (.dup, 1) := by decide +kernel
theorem dX12_attributes_4 : decode cX12_attributes 4 = .ok (.invokespecial 119, 3) := by decide +kernel
theorem dX12_attributes_7 : decode cX12_attributes 7 = .ok (.astore_n 1, 1) := by decide +kernel
theorem dX12_attributes_8 : decode cX12_attributes 8 = .ok (.aload_n 1, 1) := by decide +kernel
theorem dX12_attributes_9 : decode cX12_attributes 9 = .ok (.aload_n 0, 1) := by decide +kernel
theorem dX12_attributes_10 : decode cX12_attributes 10 = .ok (.bipush 6, 2) := by decide +kernel
theorem dX12_attributes_12 : decode cX12_attributes 12 = .ok (.invokevirtual 90, 3) := by decide +kernel
theorem dX12_attributes_15 : decode cX12_attributes 15 = .ok (.putfield 120, 3) := by decide +kernel
theorem dX12_attributes_18 : decode cX12_attributes 18 = .ok (.iconst 0, 1) := by decide +kernel
theorem dX12_attributes_19 : decode cX12_attributes 19 = .ok (.istore_n 2, 1) := by decide +kernel
theorem dX12_attributes_20 : decode cX12_attributes 20 = .ok (.iload_n 2, 1) := by decide +kernel
theorem dX12_attributes_21 : decode cX12_attributes 21 = .ok (.aload_n 1, 1) := by decide +kernel
theorem dX12_attributes_22 : decode cX12_attributes 22 = .ok (.getfield 120, 3) := by decide +kernel
theorem dX12_attributes_25 : decode cX12_attributes 25 = .ok (.if_icmp .ge 71, 3) := by decide +kernel
theorem dX12_attributes_28 : decode cX12_attributes 28 = .ok (.aload_n 0, 1) := by decide +kernel
theorem dX12_attributes_29 : decode cX12_attributes 29 = .ok (.getfield 52, 3) := by decide +kernel
theorem dX12_attributes_32 : decode cX12_attributes 32 = .ok (.ifCond .ne 64, 3) := by decide +kernel
theorem dX12_attributes_35 : decode cX12_attributes 35 = .ok (.aload_n 1, 1) := by decide +kernel
theorem dX12_attributes_36 : decode cX12_attributes 36 = .ok (.getfield 121, 3) := by decide +kernel
theorem dX12_attributes_39 : decode cX12_attributes 39 = .ok (.iload_n 2, 1) := by decide +kernel
theorem dX12_attributes_40 : decode cX12_attributes 40 = .ok (.aload_n 0, 1) := by decide +kernel
theorem dX12_attributes_41 : decode cX12_attributes 41 = .ok (.getfield 62, 3) := by decide +kernel
theorem dX12_attributes_44 : decode cX12_attributes 44 = .ok (.iastore, 1) := by decide +kernel
theorem dX12_attributes_45 : decode cX12_attributes 45 = .ok (.aload_n 0, 1) := by decide +kernel
theorem dX12_attributes_46 : decode cX12_attributes 46 = .ok (.bipush 6, 2) := by decide +kernel
theorem dX12_attributes_48 : decode cX12_attributes 48 = .ok (.invokevirtual 69, 3) := by decide +kernel
theorem dX12_attributes_51 : decode cX12_attributes 51 = .ok (.ifCond .eq 39, 3) := by decide +kernel
theorem dX12_attributes_54 : decode cX12_attributes 54 = .ok (.aload_n 0, 1) := by decide +kernel
theorem dX12_attributes_55 : decode cX12_attributes 55 = .ok (.getfield 55, 3) := by decide +kernel
theorem dX12_attributes_58 : decode cX12_attributes 58 = .ok (.aload_n 0, 1) := by decide +kernel
theorem dX12_attributes_59 : decode cX12_attributes 59 = .ok (.getfield 62, 3) := by decide +kernel
theorem dX12_attributes_62 : decode cX12_attributes 62 = .ok (.iconst 4, 1) := by decide +kernel
theorem dX12_attributes_63 : decode cX12_attributes 63 = .ok (.isub, 1) := by decide +kernel
theorem dX12_attributes_64 : decode cX12_attributes 64 = .ok (.invokevirtual 123, 3) := by decide +kernel
theorem dX12_attributes_67 : decode cX12_attributes 67 = .ok (.istore_n 3, 1) := by decide +kernel
theorem dX12_attributes_68 : decode cX12_attributes 68 = .ok (.iload_n 3, 1) := by decide +kernel
theorem dX12_attributes_69 : decode cX12_attributes 69 = .ok (.ifCond .ge 14, 3) := by decide +kernel
theorem dX12_attributes_72 : decode cX12_attributes 72 = .ok (.aload_n 0, 1) := by decide +kernel
theorem dX12_attributes_73 : decode cX12_attributes 73 = .ok (.iconst 5, 1) := by decide +kernel
theorem dX12_attributes_74 : decode cX12_attributes 74 = .ok (.aload_n 0, 1) := by decide +kernel
theorem dX12_attributes_75 : decode cX12_attributes 75 = .ok (.getfield 62, 3) := by decide +kernel
theorem dX12_attributes_78 : decode cX12_attributes 78 = .ok (.iconst 4, 1) := by decide +kernel
theorem dX12_attributes_79 : decode cX12_attributes 79 = .ok (.isub, 1) := by decide +kernel
theorem dX12_attributes_80 : decode cX12_attributes 80 = .ok (.invokevirtual 65, 3) := by decide +kernel
theorem dX12_attributes_83 : decode cX12_attributes 83 = .ok (.aload_n 0, 1) := by decide +kernel
theorem dX12_attributes_84 : decode cX12_attributes 84 = .ok (.iload_n 3, 1) := by decide +kernel
theorem dX12_attributes_85 : decode cX12_attributes 85 = .ok (.invokevirtual 69, 3) := by decide +kernel
theorem dX12_attributes_88 : decode cX12_attributes 88 = .ok (.istore 4, 2) := by decide +kernel
theorem dX12_attributes_90 : decode cX12_attributes 90 = .ok (.iinc 2 1, 3) := by decide +kernel
theorem dX12_attributes_93 : decode cX12_attributes 93 = .ok (.goto (-73), 3) := by decide +kernel
theorem dX12_attributes_96 : decode cX12_attributes 96 = .ok (.aload_n 1, 1) := by decide +kernel
theorem dX12_attributes_97 : decode cX12_attributes 97 = .ok (.areturn, 1) := by decide +kernel
set_option maxRecDepth 20000 in
theorem s_MO_attributes (E : XE) : Cs E (yX12_attributes, cX12_attributes, 5, some (.object "ClassPoolsModel$Attributes")) (k_MO_attributes) := (Cs_nd (Cs_nd (Cs_nd (Cs_nd (Cs_nd (Cs_lf (sg_new dX12_attributes_0 rfl inX8 tyX8_ok (by decide) w_1047 w_1048 w_14)) (Cs_nd (Cs_lf (sg_dup dX12_attributes_3)) (Cs_lf (sg_invIN (mid := 112) (by decide +kernel) dX12_attributes_4 ok_112 rfl rfl (host := RX12) (by decide +kernel) w_1050)))) (Cs_nd (Cs_lf (sg_astore_n dX12_attributes_7 rfl (by decide))) (Cs_nd (Cs_lf (sg_aload_n dX12_attributes_8 rfl)) (Cs_lf (sg_aload_n dX12_attributes_9 rfl))))) (Cs_nd (Cs_nd (Cs_lf (sg_bipush dX12_attributes_10 (by decide))) (Cs_nd (Cs_lf (sg_invV (mid := 129) (ci := 11) (by decide +kernel) dX12_attributes_12 ok_129 rfl w_1026 w_1028 ws_31)) (Cs_lf (sg_putf dX12_attributes_15 rfl inX8 tyX8_ok nmX8 (by decide) w_1053 rfl (tyX8_ok 0 (by decide)) ok_int)))) (Cs_nd (Cs_nd (Cs_lf (sg_iconst dX12_attributes_18 (by decide))) (Cs_lf (sg_istore_n dX12_attributes_19 rfl (by decide)))) (Cs_nd (Cs_lf (sg_iload_n dX12_attributes_20 rfl)) (Cs_lf (sg_aload_n dX12_attributes_21 rfl)))))) (Cs_nd (Cs_nd (Cs_nd (Cs_lf (sg_getf dX12_attributes_22 rfl inX8 (by decide) w_1053)) (Cs_nd (Cs_lf (sg_cge dX12_attributes_25 (by decide))) (Cs_lf (sg_aload_n dX12_attributes_28 rfl)))) (Cs_nd (Cs_lf (sg_getf dX12_attributes_29 rfl inX12 (by decide) w_891)) (Cs_nd (Cs_lf (sg_ifne dX12_attributes_32 (by decide))) (Cs_lf (sg_aload_n dX12_attributes_35 rfl))))) (Cs_nd (Cs_nd (Cs_lf (sg_getf dX12_attributes_36 rfl inX8 (by decide) w_1055)) (Cs_nd (Cs_lf (sg_iload_n dX12_attributes_39 rfl)) (Cs_lf (sg_aload_n dX12_attributes_40 rfl)))) (Cs_nd (Cs_nd (Cs_lf (sg_getf dX12_attributes_41 rfl inX12 (by decide) w_890)) (Cs_lf (sg_iast dX12_attributes_44))) (Cs_nd (Cs_lf (sg_aload_n dX12_attributes_45 rfl)) (Cs_lf (sg_bipush dX12_attributes_46 (by decide)))))))) (Cs_nd (Cs_nd (Cs_nd (Cs_nd (Cs_lf (sg_invV (mid := 127) (ci := 11) (by decide +kernel) dX12_attributes_48 ok_127 rfl w_1006 w_1008 ws_27)) (Cs_nd (Cs_lf (sg_ifeq dX12_attributes_51 (by decide))) (Cs_lf (sg_aload_n dX12_attributes_54 rfl)))) (Cs_nd (Cs_lf (sg_getf dX12_attributes_55 rfl inX12 (by decide) w_889)) (Cs_nd (Cs_lf (sg_aload_n dX12_attributes_58 rfl)) (Cs_lf (sg_getf dX12_attributes_59 rfl inX12 (by decide) w_890))))) (Cs_nd (Cs_nd (Cs_lf (sg_iconst dX12_attributes_62 (by decide))) (Cs_nd (Cs_lf (sg_isub dX12_attributes_63)) (Cs_lf (sg_invV (mid := 115) (ci := 8) (by decide +kernel) dX12_attributes_64 ok_115 rfl w_1061 w_1062 w_1063)))) (Cs_nd (Cs_nd (Cs_lf (sg_istore_n dX12_attributes_67 rfl (by decide))) (Cs_lf (sg_iload_n dX12_attributes_68 rfl))) (Cs_nd (Cs_lf (sg_ifge dX12_attributes_69 (by decide))) (Cs_lf (sg_aload_n dX12_attributes_72 rfl)))))) (Cs_nd (Cs_nd (Cs_nd (Cs_lf (sg_iconst dX12_attributes_73 (by decide))) (Cs_nd (Cs_lf (sg_aload_n dX12_attributes_74 rfl)) (Cs_lf (sg_getf dX12_attributes_75 rfl inX12 (by decide) w_890)))) (Cs_nd (Cs_nd (Cs_lf (sg_iconst dX12_attributes_78 (by decide))) (Cs_lf (sg_isub dX12_attributes_79))) (Cs_nd (Cs_lf (sg_invV (mid := 126) (ci := 11) (by decide +kernel) dX12_attributes_80 ok_126 rfl w_1010 w_1012 ws_28)) (Cs_lf (sg_aload_n dX12_attributes_83 rfl))))) (Cs_nd (Cs_nd (Cs_lf (sg_iload_n dX12_attributes_84 rfl)) (Cs_nd (Cs_lf (sg_invV (mid := 127) (ci := 11) (by decide +kernel) dX12_attributes_85 ok_127 rfl w_1006 w_1008 ws_27)) (Cs_lf (sg_istore dX12_attributes_88 (by decide))))) (Cs_nd (Cs_nd (Cs_lf (sg_iinc dX12_attributes_90 (by decide) (by decide))) (Cs_lf (sg_goto dX12_attributes_93 (by decide)))) (Cs_nd (Cs_lf (sg_aload_n dX12_attributes_96 rfl)) (Cs_lf (sg_aret dX12_attributes_97 rfl (Or.inl ⟨_, rfl⟩)))))))))
theorem dX12_entry_0 : decode cX12_entry 0 = .ok (.aload_n 0, 1) := by decide +kernel
theorem dX12_entry_1 : decode cX12_entry 1 = .ok (.getfield 62, 3) := by decide +kernel
theorem dX12_entry_4 : decode cX12_entry 4 = .ok (.istore_n 2, 1) := by decide +kernel
theorem dX12_entry_5 : decode cX12_entry 5 = .ok (.aload_n 0, 1) := by decide +kernel
theorem dX12_entry_6 : decode cX12_entry 6 = .ok (.iconst 1, 1) := by decide +kernel
theorem dX12_entry_7 : decode cX12_entry 7 = .ok (.invokevirtual 69, 3) := by decide +kernel
theorem dX12_entry_10 : decode cX12_entry 10 = .ok (.ifCond .ne 5, 3) := by decide +kernel
theorem dX12_entry_13 : decode cX12_entry 13 = .ok (.iconst 1, 1) := by decide +kernel
theorem dX12_entry_14 : decode cX12_entry 14 = .ok (.ireturn, 1) := by decide +kernel
theorem dX12_entry_15 : decode cX12_entry 15 = .ok (.aload_n 0, 1) := by decide +kernel
theorem dX12_entry_16 : decode cX12_entry 16 = .ok (.getfield 55, 3) := by decide +kernel
theorem dX12_entry_19 : decode cX12_entry 19 = .ok (.getfield 59, 3) := by decide +kernel
theorem dX12_entry_22 : decode cX12_entry 22 = .ok (.iload_n 2, 1) := by decide +kernel
theorem dX12_entry_23 : decode cX12_entry 23 = .ok (.baload, 1) := by decide +kernel
theorem dX12_entry_24 : decode cX12_entry 24 = .ok (.sipush 255, 3) := by decide +kernel
theorem dX12_entry_27 : decode cX12_entry 27 = .ok (.iand, 1) := by decide +kernel
theorem dX12_entry_28 : decode cX12_entry 28 = .ok (.istore_n 3, 1) := by decide +kernel
theorem dX12_entry_29 : decode cX12_entry 29 = .ok (.iload_n 3, 1) := by decide +kernel
theorem dX12_entry_30 : decode cX12_entry 30 = .ok (.iconst 5, 1) := by decide +kernel
theorem dX12_entry_31 : decode cX12_entry 31 = .ok (.if_icmp .eq 9, 3) := by decide +kernel
theorem dX12_entry_34 : decode cX12_entry 34 = .ok (.iload_n 3, 1) := by decide +kernel
theorem dX12_entry_35 : decode cX12_entry 35 = .ok (.bipush 6, 2) := by decide +kernel
theorem dX12_entry_37 : decode cX12_entry 37 = .ok (.if_icmp .ne 7, 3) := by decide +kernel
theorem dX12_entry_40 : decode cX12_entry 40 = .ok (.iconst 1, 1) := by decide +kernel
theorem dX12_entry_41 : decode cX12_entry 41 = .ok (.goto 4, 3) := by decide +kernel
theorem dX12_entry_44 : decode cX12_entry 44 = .ok (.iconst 0, 1) := by decide +kernel
theorem dX12_entry_45 : decode cX12_entry 45 = .ok (.istore 4, 2) := by decide +kernel
theorem dX12_entry_47 : decode cX12_entry 47 = .ok (.iload_n 3, 1) := by decide +kernel
theorem dX12_entry_48 : decode cX12_entry 48 = .ok (.iconst 1, 1) := by decide +kernel
theorem dX12_entry_49 : decode cX12_entry 49 = .ok (.if_icmp .eq 13, 3) := by decide +kernel
theorem dX12_entry_52 : decode cX12_entry 52 = .ok (.iload_n 3, 1) := by decide +kernel
theorem dX12_entry_53 : decode cX12_entry 53 = .ok (.iconst 3, 1) := by decide +kernel
theorem dX12_entry_54 : decode cX12_entry 54 = .ok (.bipush 12, 2) := by decide +kernel
theorem dX12_entry_56 : decode cX12_entry 56 = .ok (.invokestatic 45, 3) := by decide +kernel
theorem dX12_entry_59 : decode cX12_entry 59 = .ok (.ifCond .eq 7, 3) := by decide +kernel
theorem dX12_entry_62 : decode cX12_entry 62 = .ok (.iconst 1, 1) := by decide +kernel
theorem dX12_entry_63 : decode cX12_entry 63 = .ok (.goto 4, 3) := by decide +kernel
theorem dX12_entry_66 : decode cX12_entry 66 = .ok (.iconst 0, 1) := by decide +kernel
theorem dX12_entry_67 : decode cX12_entry 67 = .ok (.istore 5, 2) := by decide +kernel
theorem dX12_entry_69 : decode cX12_entry 69 = .ok (.iload 5, 2) := by decide +kernel
theorem dX12_entry_71 : decode cX12_entry 71 = .ok (.ifCond .eq 21, 3) := by decide +kernel
theorem dX12_entry_74 : decode cX12_entry 74 = .ok (.iload 4, 2) := by decide +kernel
theorem dX12_entry_76 : decode cX12_entry 76 = .ok (.ifCond .eq 24, 3) := by decide +kernel
theorem dX12_entry_79 : decode cX12_entry 79 = .ok (.iload_n 1, 1) := by decide +kernel
theorem dX12_entry_80 : decode cX12_entry 80 = .ok (.aload_n 0, 1) := by decide +kernel
theorem dX12_entry_81 : decode cX12_entry 81 = .ok (.getfield 55, 3) := by decide +kernel
theorem dX12_entry_84 : decode cX12_entry 84 = .ok (.getfield 81, 3) := by decide +kernel
theorem dX12_entry_87 : decode cX12_entry 87 = .ok (.iconst 1, 1) := by decide +kernel
theorem dX12_entry_88 : decode cX12_entry 88 = .ok (.isub, 1) := by decide +kernel
theorem dX12_entry_89 : decode cX12_entry 89 = .ok (.if_icmp .ne 11, 3) := by decide +kernel
theorem dX12_entry_92 : decode cX12_entry 92 = .ok (.aload_n 0, 1) := by decide +kernel
theorem dX12_entry_93 : decode cX12_entry 93 = .ok (.iconst 4, 1) := by decide +kernel
theorem dX12_entry_94 : decode cX12_entry 94 = .ok (.iload_n 2, 1) := by decide +kernel
theorem dX12_entry_95 : decode cX12_entry 95 = .ok (.invokevirtual 65, 3) := by decide +kernel
theorem dX12_entry_98 : decode cX12_entry 98 = .ok (.iconst 1, 1) := by decide +kernel
theorem dX12_entry_99 : decode cX12_entry 99 = .ok (.ireturn, 1) := by decide +kernel
theorem dX12_entry_100 : decode cX12_entry 100 = .ok (.aload_n 0, 1) := by decide +kernel
theorem dX12_entry_101 : decode cX12_entry 101 = .ok (.getfield 55, 3) := by decide +kernel
theorem dX12_entry_104 : decode cX12_entry 104 = .ok (.getfield 126, 3) := by decide +kernel
theorem dX12_entry_107 : decode cX12_entry 107 = .ok (.iload_n 1, 1) := by decide +kernel
theorem dX12_entry_108 : decode cX12_entry 108 = .ok (.iload_n 3, 1) := by decide +kernel
theorem dX12_entry_109 : decode cX12_entry 109 = .ok (.iastore, 1) := by decide +kernel
theorem dX12_entry_110 : decode cX12_entry 110 = .ok (.aload_n 0, 1) := by decide +kernel
theorem dX12_entry_111 : decode cX12_entry 111 = .ok (.getfield 55, 3) := by decide +kernel
theorem dX12_entry_114 : decode cX12_entry 114 = .ok (.getfield 129, 3) := by decide +kernel
theorem dX12_entry_117 : decode cX12_entry 117 = .ok (.iload_n 1, 1) := by decide +kernel
theorem dX12_entry_118 : decode cX12_entry 118 = .ok (.iload_n 2, 1) := by decide +kernel
theorem dX12_entry_119 : decode cX12_entry 119 = .ok (.iastore, 1) := by decide +kernel
theorem dX12_entry_120 : decode cX12_entry 120 = .ok (.iload_n 3, 1) := by decide +kernel
theorem dX12_entry_121 : decode cX12_entry 121 = .ok (.iconst 1, 1) := by decide +kernel
theorem dX12_entry_122 : decode cX12_entry 122 = .ok (.if_icmp .ne 49, 3) := by decide +kernel
theorem dX12_entry_125 : decode cX12_entry 125 = .ok (.aload_n 0, 1) := by decide +kernel
theorem dX12_entry_126 : decode cX12_entry 126 = .ok (.invokevirtual 77, 3) := by decide +kernel
theorem dX12_entry_129 : decode cX12_entry 129 = .ok (.istore 6, 2) := by decide +kernel
theorem dX12_entry_131 : decode cX12_entry 131 = .ok (.aload_n 0, 1) := by decide +kernel
theorem dX12_entry_132 : decode cX12_entry 132 = .ok (.iload 6, 2) := by decide +kernel
theorem dX12_entry_134 : decode cX12_entry 134 = .ok (.invokevirtual 69, 3) := by decide +kernel
theorem dX12_entry_137 : decode cX12_entry 137 = .ok (.ifCond .eq 31, 3) := by decide +kernel
theorem dX12_entry_140 : decode cX12_entry 140 = .ok (.aload_n 0, 1) := by decide +kernel
theorem dX12_entry_141 : decode cX12_entry 141 = .ok (.getfield 55, 3) := by decide +kernel
theorem dX12_entry_144 : decode cX12_entry 144 = .ok (.getfield 130, 3) := by decide +kernel
theorem dX12_entry_147 : decode cX12_entry 147 = .ok (.iload_n 1, 1) := by decide +kernel
theorem dX12_entry_148 : decode cX12_entry 148 = .ok (.aload_n 0, 1) := by decide +kernel
theorem dX12_entry_149 : decode cX12_entry 149 = .ok (.getfield 55, 3) := by decide +kernel
theorem dX12_entry_152 : decode cX12_entry 152 = .ok (.getfield 59, 3) := by decide +kernel
theorem dX12_entry_155 : decode cX12_entry 155 = .ok (.aload_n 0, 1) := by decide +kernel
theorem dX12_entry_156 : decode cX12_entry 156 = .ok (.getfield 62, 3) := by decide +kernel
theorem dX12_entry_159 : decode cX12_entry 159 = .ok (.iload 6, 2) := by decide +kernel
theorem dX12_entry_161 : decode cX12_entry 161 = .ok (.isub, 1) := by decide +kernel
theorem dX12_entry_162 : decode cX12_entry 162 = .ok (.iload 6, 2) := by decide +kernel
theorem dX12_entry_164 : decode cX12_entry 164 = .ok (.invokestatic 134, 3) := by decide +kernel
theorem dX12_entry_167 : decode cX12_entry 167 = .ok (.aastore, 1) := by decide +kernel
theorem dX12_entry_168 : decode cX12_entry 168 = .ok (.goto 36, 3) := by decide +kernel
theorem dX12_entry_171 : decode cX12_entry 171 = .ok (.aload_n 0, 1) := by decide +kernel
theorem dX12_entry_172 : decode cX12_entry 172 = .ok (.iload 4, 2) := by decide +kernel
theorem dX12_entry_174 : decode cX12_entry 174 = .ok (.ifCond .eq 8, 3) := by decide +kernel
theorem dX12_entry_177 : decode cX12_entry 177 = .ok (.bipush 8, 2) := by decide +kernel
theorem dX12_entry_179 : decode cX12_entry 179 = .ok (.goto 20, 3) := by decide +kernel
theorem dX12_entry_182 : decode cX12_entry 182 = .ok (.iload_n 3, 1) := by decide +kernel
theorem dX12_entry_183 : decode cX12_entry 183 = .ok (.bipush 7, 2) := by decide +kernel
theorem dX12_entry_185 : decode cX12_entry 185 = .ok (.if_icmp .eq 9, 3) := by decide +kernel
theorem dX12_entry_188 : decode cX12_entry 188 = .ok (.iload_n 3, 1) := by decide +kernel
theorem dX12_entry_189 : decode cX12_entry 189 = .ok (.bipush 8, 2) := by decide +kernel
theorem dX12_entry_191 : decode cX12_entry 191 = .ok (.if_icmp .ne 7, 3) := by decide +kernel
theorem dX12_entry_194 : decode cX12_entry 194 = .ok (.iconst 2, 1) := by decide +kernel
theorem dX12_entry_195 : decode cX12_entry 195 = .ok (.goto 4, 3) := by decide +kernel
theorem dX12_entry_198 : decode cX12_entry 198 = .ok (.iconst 4, 1) := by decide +kernel
theorem dX12_entry_199 : decode cX12_entry 199 = .ok (.invokevirtual 69, 3) := by decide +kernel
theorem dX12_entry_202 : decode cX12_entry 202 = .ok (.istore 6, 2) := by decide +kernel
theorem dX12_entry_204 : decode cX12_entry 204 = .ok (.iload 4, 2) := by decide +kernel
theorem dX12_entry_206 : decode cX12_entry 206 = .ok (.ifCond .eq 7, 3) := by decide +kernel
theorem dX12_entry_209 : decode cX12_entry 209 = .ok (.iconst 2, 1) := by decide +kernel
theorem dX12_entry_210 : decode cX12_entry 210 = .ok (.goto 4, 3) := by decide +kernel
theorem dX12_entry_213 : decode cX12_entry 213 = .ok (.iconst 1, 1) := by decide +kernel
theorem dX12_entry_214 : decode cX12_entry 214 = .ok (.ireturn, 1) := by decide +kernel
set_option maxRecDepth 20000 in
theorem s_MO_entry (E : XE) : Cs E (yX12_entry, cX12_entry, 7, some .int) (k_MO_entry) := (Cs_nd (Cs_nd (Cs_nd (Cs_nd (Cs_nd (Cs_nd (Cs_lf (sg_aload_n dX12_entry_0 rfl)) (Cs_nd (Cs_lf (sg_getf dX12_entry_1 rfl inX12 (by decide) w_890)) (Cs_lf (sg_istore_n dX12_entry_4 rfl (by decide))))) (Cs_nd (Cs_nd (Cs_lf (sg_aload_n dX12_entry_5 rfl)) (Cs_lf (sg_iconst dX12_entry_6 (by decide)))) (Cs_nd (Cs_lf (sg_invV (mid := 127) (ci := 11) (by decide +kernel) dX12_entry_7 ok_127 rfl w_1006 w_1008 ws_27)) (Cs_lf (sg_ifne dX12_entry_10 (by decide)))))) (Cs_nd (Cs_nd (Cs_lf (sg_iconst dX12_entry_13 (by decide))) (Cs_nd (Cs_lf (sg_iret dX12_entry_14 rfl)) (Cs_lf (sg_aload_n dX12_entry_15 rfl)))) (Cs_nd (Cs_nd (Cs_lf (sg_getf dX12_entry_16 rfl inX12 (by decide) w_889)) (Cs_lf (sg_getf dX12_entry_19 rfl inX9 (by decide) w_962))) (Cs_nd (Cs_lf (sg_iload_n dX12_entry_22 rfl)) (Cs_lf (sg_bald dX12_entry_23)))))) (Cs_nd (Cs_nd (Cs_nd (Cs_lf (sg_sipush dX12_entry_24 (by decide))) (Cs_nd (Cs_lf (sg_iand dX12_entry_27)) (Cs_lf (sg_istore_n dX12_entry_28 rfl (by decide))))) (Cs_nd (Cs_nd (Cs_lf (sg_iload_n dX12_entry_29 rfl)) (Cs_lf (sg_iconst dX12_entry_30 (by decide)))) (Cs_nd (Cs_lf (sg_ceq dX12_entry_31 (by decide))) (Cs_lf (sg_iload_n dX12_entry_34 rfl))))) (Cs_nd (Cs_nd (Cs_lf (sg_bipush dX12_entry_35 (by decide))) (Cs_nd (Cs_lf (sg_cne dX12_entry_37 (by decide))) (Cs_lf (sg_iconst dX12_entry_40 (by decide))))) (Cs_nd (Cs_nd (Cs_lf (sg_goto dX12_entry_41 (by decide))) (Cs_lf (sg_iconst dX12_entry_44 (by decide)))) (Cs_nd (Cs_lf (sg_istore dX12_entry_45 (by decide))) (Cs_lf (sg_iload_n dX12_entry_47 rfl))))))) (Cs_nd (Cs_nd (Cs_nd (Cs_nd (Cs_lf (sg_iconst dX12_entry_48 (by decide))) (Cs_nd (Cs_lf (sg_ceq dX12_entry_49 (by decide))) (Cs_lf (sg_iload_n dX12_entry_52 rfl)))) (Cs_nd (Cs_nd (Cs_lf (sg_iconst dX12_entry_53 (by decide))) (Cs_lf (sg_bipush dX12_entry_54 (by decide)))) (Cs_nd (Cs_lf (sg_inv (mid := 123) (by decide +kernel) dX12_entry_56 ok_123 w_943 w_944)) (Cs_lf (sg_ifeq dX12_entry_59 (by decide)))))) (Cs_nd (Cs_nd (Cs_lf (sg_iconst dX12_entry_62 (by decide))) (Cs_nd (Cs_lf (sg_goto dX12_entry_63 (by decide))) (Cs_lf (sg_iconst dX12_entry_66 (by decide))))) (Cs_nd (Cs_nd (Cs_lf (sg_istore dX12_entry_67 (by decide))) (Cs_lf (sg_iload dX12_entry_69))) (Cs_nd (Cs_lf (sg_ifeq dX12_entry_71 (by decide))) (Cs_lf (sg_iload dX12_entry_74)))))) (Cs_nd (Cs_nd (Cs_nd (Cs_lf (sg_ifeq dX12_entry_76 (by decide))) (Cs_nd (Cs_lf (sg_iload_n dX12_entry_79 rfl)) (Cs_lf (sg_aload_n dX12_entry_80 rfl)))) (Cs_nd (Cs_nd (Cs_lf (sg_getf dX12_entry_81 rfl inX12 (by decide) w_889)) (Cs_lf (sg_getf dX12_entry_84 rfl inX9 (by decide) w_963))) (Cs_nd (Cs_lf (sg_iconst dX12_entry_87 (by decide))) (Cs_lf (sg_isub dX12_entry_88))))) (Cs_nd (Cs_nd (Cs_nd (Cs_lf (sg_cne dX12_entry_89 (by decide))) (Cs_lf (sg_aload_n dX12_entry_92 rfl))) (Cs_nd (Cs_lf (sg_iconst dX12_entry_93 (by decide))) (Cs_lf (sg_iload_n dX12_entry_94 rfl)))) (Cs_nd (Cs_nd (Cs_lf (sg_invV (mid := 126) (ci := 11) (by decide +kernel) dX12_entry_95 ok_126 rfl w_1010 w_1012 ws_28)) (Cs_lf (sg_iconst dX12_entry_98 (by decide)))) (Cs_nd (Cs_lf (sg_iret dX12_entry_99 rfl)) (Cs_lf (sg_aload_n dX12_entry_100 rfl)))))))) (Cs_nd (Cs_nd (Cs_nd (Cs_nd (Cs_nd (Cs_lf (sg_getf dX12_entry_101 rfl inX12 (by decide) w_889)) (Cs_nd (Cs_lf (sg_getf dX12_entry_104 rfl inX9 (by decide) w_965)) (Cs_lf (sg_iload_n dX12_entry_107 rfl)))) (Cs_nd (Cs_nd (Cs_lf (sg_iload_n dX12_entry_108 rfl)) (Cs_lf (sg_iast dX12_entry_109))) (Cs_nd (Cs_lf (sg_aload_n dX12_entry_110 rfl)) (Cs_lf (sg_getf dX12_entry_111 rfl inX12 (by decide) w_889))))) (Cs_nd (Cs_nd (Cs_lf (sg_getf dX12_entry_114 rfl inX9 (by decide) w_967)) (Cs_nd (Cs_lf (sg_iload_n dX12_entry_117 rfl)) (Cs_lf (sg_iload_n dX12_entry_118 rfl)))) (Cs_nd (Cs_nd (Cs_lf (sg_iast dX12_entry_119)) (Cs_lf (sg_iload_n dX12_entry_120 rfl))) (Cs_nd (Cs_lf (sg_iconst dX12_entry_121 (by decide))) (Cs_lf (sg_cne dX12_entry_122 (by decide))))))) (Cs_nd (Cs_nd (Cs_nd (Cs_lf (sg_aload_n dX12_entry_125 rfl)) (Cs_nd (Cs_lf (sg_invV (mid := 128) (ci := 11) (by decide +kernel) dX12_entry_126 ok_128 rfl w_1014 w_1016 ws_29)) (Cs_lf (sg_istore dX12_entry_129 (by decide))))) (Cs_nd (Cs_nd (Cs_lf (sg_aload_n dX12_entry_131 rfl)) (Cs_lf (sg_iload dX12_entry_132))) (Cs_nd (Cs_lf (sg_invV (mid := 127) (ci := 11) (by decide +kernel) dX12_entry_134 ok_127 rfl w_1006 w_1008 ws_27)) (Cs_lf (sg_ifeq dX12_entry_137 (by decide)))))) (Cs_nd (Cs_nd (Cs_nd (Cs_lf (sg_aload_n dX12_entry_140 rfl)) (Cs_lf (sg_getf dX12_entry_141 rfl inX12 (by decide) w_889))) (Cs_nd (Cs_lf (sg_getf dX12_entry_144 rfl inX9 (by decide) w_969)) (Cs_lf (sg_iload_n dX12_entry_147 rfl)))) (Cs_nd (Cs_nd (Cs_lf (sg_aload_n dX12_entry_148 rfl)) (Cs_lf (sg_getf dX12_entry_149 rfl inX12 (by decide) w_889))) (Cs_nd (Cs_lf (sg_getf dX12_entry_152 rfl inX9 (by decide) w_962)) (Cs_lf (sg_aload_n dX12_entry_155 rfl))))))) (Cs_nd (Cs_nd (Cs_nd (Cs_nd (Cs_lf (sg_getf dX12_entry_156 rfl inX12 (by decide) w_890)) (Cs_nd (Cs_lf (sg_iload dX12_entry_159)) (Cs_lf (sg_isub dX12_entry_161)))) (Cs_nd (Cs_nd (Cs_lf (sg_iload dX12_entry_162)) (Cs_lf (sg_inv (mid := 133) (by decide +kernel) dX12_entry_164 ok_133 w_998 w_999))) (Cs_nd (Cs_lf (sg_aastA (t := .byte) (k1 := 0) (fun _ => rfl) (fun _ => rfl) ra_B (by decide) dX12_entry_167)) (Cs_lf (sg_goto dX12_entry_168 (by decide)))))) (Cs_nd (Cs_nd (Cs_lf (sg_aload_n dX12_entry_171 rfl)) (Cs_nd (Cs_lf (sg_iload dX12_entry_172)) (Cs_lf (sg_ifeq dX12_entry_174 (by decide))))) (Cs_nd (Cs_nd (Cs_lf (sg_bipush dX12_entry_177 (by decide))) (Cs_lf (sg_goto dX12_entry_179 (by decide)))) (Cs_nd (Cs_lf (sg_iload_n dX12_entry_182 rfl)) (Cs_lf (sg_bipush dX12_entry_183 (by decide))))))) (Cs_nd (Cs_nd (Cs_nd (Cs_lf (sg_ceq dX12_entry_185 (by decide))) (Cs_nd (Cs_lf (sg_iload_n dX12_entry_188 rfl)) (Cs_lf (sg_bipush dX12_entry_189 (by decide))))) (Cs_nd (Cs_nd (Cs_lf (sg_cne dX12_entry_191 (by decide))) (Cs_lf (sg_iconst dX12_entry_194 (by decide)))) (Cs_nd (Cs_lf (sg_goto dX12_entry_195 (by decide))) (Cs_lf (sg_iconst dX12_entry_198 (by decide)))))) (Cs_nd (Cs_nd (Cs_nd (Cs_lf (sg_invV (mid := 127) (ci := 11) (by decide +kernel) dX12_entry_199 ok_127 rfl w_1006 w_1008 ws_27)) (Cs_lf (sg_istore dX12_entry_202 (by decide)))) (Cs_nd (Cs_lf (sg_iload dX12_entry_204)) (Cs_lf (sg_ifeq dX12_entry_206 (by decide))))) (Cs_nd (Cs_nd (Cs_lf (sg_iconst dX12_entry_209 (by decide))) (Cs_lf (sg_goto dX12_entry_210 (by decide)))) (Cs_nd (Cs_lf (sg_iconst dX12_entry_213 (by decide))) (Cs_lf (sg_iret dX12_entry_214 rfl)))))))))
theorem dX12_part_0 : decode cX12_part 0 = .ok (.iload_n 2, 1) := by decide +kernel
theorem dX12_part_1 : decode cX12_part 1 = .ok (.newarray .byte, 2) := by decide +kernel
theorem dX12_part_3 : decode cX12_part 3 = .ok (.astore_n 3, 1) := by decide +kernel
theorem dX12_part_4 : decode cX12_part 4 = .ok (.aload_n 0, 1) := by decide +kernel
theorem dX12_part_5 : decode cX12_part 5 = .ok (.iload_n 1, 1) := by decide +kernel
theorem dX12_part_6 : decode cX12_part 6 = .ok (.aload_n 3, 1) := by decide +kernel
theorem dX12_part_7 : decode cX12_part 7 = .ok (.iconst 0, 1) := by decide +kernel
theorem dX12_part_8 : decode cX12_part 8 = .ok (.iload_n 2, 1) := by decide +kernel
theorem dX12_part_9 : decode cX12_part 9 = .ok (.invokestatic 138, 3) := by decide +kernel
theorem dX12_part_12 : decode cX12_part 12 = .ok (.aload_n 3, 1) := by decide +kernel
theorem dX12_part_13 : decode cX12_part 13 = .ok (.areturn, 1) := by decide +kernel
set_option maxRecDepth 20000 in
theorem s_MO_part (E : XE) : Cs E (yX12_part, cX12_part, 4, some (.array .byte)) (k_MO_part) := (Cs_nd (Cs_nd (Cs_nd (Cs_lf (sg_iload_n dX12_part_0 rfl)) (Cs_lf (sg_newB dX12_part_1 w_53))) (Cs_nd (Cs_lf (sg_astore_n dX12_part_3 rfl (by decide))) (Cs_nd (Cs_lf (sg_aload_n dX12_part_4 rfl)) (Cs_lf (sg_iload_n dX12_part_5 rfl))))) (Cs_nd (Cs_nd (Cs_lf (sg_aload_n dX12_part_6 rfl)) (Cs_nd (Cs_lf (sg_iconst dX12_part_7 (by decide))) (Cs_lf (sg_iload_n dX12_part_8 rfl)))) (Cs_nd (Cs_lf (sg_acp dX12_part_9 w_1001 w_225 w_224 w_8)) (Cs_nd (Cs_lf (sg_aload_n dX12_part_12 rfl)) (Cs_lf (sg_aret dX12_part_13 rfl (Or.inr ⟨_, rfl⟩)))))))
theorem dX12_wrongPlace_0 : decode cX12_wrongPlace 0 = .ok (.iload_n 1, 1) := by decide +kernel
theorem dX12_wrongPlace_1 : decode cX12_wrongPlace 1 = .ok (.ifCond .lt 11, 3) := by decide +kernel
theorem dX12_wrongPlace_4 : decode cX12_wrongPlace 4 = .ok (.iload_n 1, 1) := by decide +kernel
theorem dX12_wrongPlace_5 : decode cX12_wrongPlace 5 = .ok (.aload_n 0, 1) := by decide +kernel
theorem dX12_wrongPlace_6 : decode cX12_wrongPlace 6 = .ok (.getfield 81, 3) := by decide +kernel
theorem dX12_wrongPlace_9 : decode cX12_wrongPlace 9 = .ok (.if_icmp .lt 8, 3) := by decide +kernel
theorem dX12_wrongPlace_12 : decode cX12_wrongPlace 12 = .ok (.bipush 8, 2) := by decide +kernel
theorem dX12_wrongPlace_14 : decode cX12_wrongPlace 14 = .ok (.goto 33, 3) := by decide +kernel
theorem dX12_wrongPlace_17 : decode cX12_wrongPlace 17 = .ok (.aload_n 0, 1) := by decide +kernel
theorem dX12_wrongPlace_18 : decode cX12_wrongPlace 18 = .ok (.getfield 126, 3) := by decide +kernel
theorem dX12_wrongPlace_21 : decode cX12_wrongPlace 21 = .ok (.iload_n 1, 1) := by decide +kernel
theorem dX12_wrongPlace_22 : decode cX12_wrongPlace 22 = .ok (.iaload, 1) := by decide +kernel
theorem dX12_wrongPlace_23 : decode cX12_wrongPlace 23 = .ok (.ifCond .ne 8, 3) := by decide +kernel
theorem dX12_wrongPlace_26 : decode cX12_wrongPlace 26 = .ok (.bipush 7, 2) := by decide +kernel
theorem dX12_wrongPlace_28 : decode cX12_wrongPlace 28 = .ok (.goto 19, 3) := by decide +kernel
theorem dX12_wrongPlace_31 : decode cX12_wrongPlace 31 = .ok (.aload_n 0, 1) := by decide +kernel
theorem dX12_wrongPlace_32 : decode cX12_wrongPlace 32 = .ok (.getfield 126, 3) := by decide +kernel
theorem dX12_wrongPlace_35 : decode cX12_wrongPlace 35 = .ok (.iload_n 1, 1) := by decide +kernel
theorem dX12_wrongPlace_36 : decode cX12_wrongPlace 36 = .ok (.iaload, 1) := by decide +kernel
theorem dX12_wrongPlace_37 : decode cX12_wrongPlace 37 = .ok (.iload_n 2, 1) := by decide +kernel
theorem dX12_wrongPlace_38 : decode cX12_wrongPlace 38 = .ok (.if_icmp .eq 8, 3) := by decide +kernel
theorem dX12_wrongPlace_41 : decode cX12_wrongPlace 41 = .ok (.bipush 9, 2) := by decide +kernel
theorem dX12_wrongPlace_43 : decode cX12_wrongPlace 43 = .ok (.goto 4, 3) := by decide +kernel
theorem dX12_wrongPlace_46 : decode cX12_wrongPlace 46 = .ok (.iconst 0, 1) := by decide +kernel
theorem dX12_wrongPlace_47 : decode cX12_wrongPlace 47 = .ok (.ireturn, 1) := by decide +kernel
set_option maxRecDepth 20000 in
theorem s_MO_wrongPlace (E : XE) : Cs E (yX12_wrongPlace, cX12_wrongPlace, 3, some .int) (k_MO_wrongPlace) := (Cs_nd (Cs_nd (Cs_nd (Cs_nd (Cs_lf (sg_iload_n dX12_wrongPlace_0 rfl)) (Cs_nd (Cs_lf (sg_iflt dX12_wrongPlace_1 (by decide))) (Cs_lf (sg_iload_n dX12_wrongPlace_4 rfl)))) (Cs_nd (Cs_lf (sg_aload_n dX12_wrongPlace_5 rfl)) (Cs_nd (Cs_lf (sg_getf dX12_wrongPlace_6 rfl inX9 (by decide) w_963)) (Cs_lf (sg_clt dX12_wrongPlace_9 (by decide)))))) (Cs_nd (Cs_nd (Cs_lf (sg_bipush dX12_wrongPlace_12 (by decide))) (Cs_nd (Cs_lf (sg_goto dX12_wrongPlace_14 (by decide))) (Cs_lf (sg_aload_n dX12_wrongPlace_17 rfl)))) (Cs_nd (Cs_lf (sg_getf dX12_wrongPlace_18 rfl inX9 (by decide) w_965)) (Cs_nd (Cs_lf (sg_iload_n dX12_wrongPlace_21 rfl)) (Cs_lf (sg_iald dX12_wrongPlace_22)))))) (Cs_nd (Cs_nd (Cs_nd (Cs_lf (sg_ifne dX12_wrongPlace_23 (by decide))) (Cs_nd (Cs_lf (sg_bipush dX12_wrongPlace_26 (by decide))) (Cs_lf (sg_goto dX12_wrongPlace_28 (by decide))))) (Cs_nd (Cs_lf (sg_aload_n dX12_wrongPlace_31 rfl)) (Cs_nd (Cs_lf (sg_getf dX12_wrongPlace_32 rfl inX9 (by decide) w_965)) (Cs_lf (sg_iload_n dX12_wrongPlace_35 rfl))))) (Cs_nd (Cs_nd (Cs_lf (sg_iald dX12_wrongPlace_36)) (Cs_nd (Cs_lf (sg_iload_n dX12_wrongPlace_37 rfl)) (Cs_lf (sg_ceq dX12_wrongPlace_38 (by decide))))) (Cs_nd (Cs_nd (Cs_lf (sg_bipush dX12_wrongPlace_41 (by decide))) (Cs_lf (sg_goto dX12_wrongPlace_43 (by decide)))) (Cs_nd (Cs_lf (sg_iconst dX12_wrongPlace_46 (by decide))) (Cs_lf (sg_iret dX12_wrongPlace_47 rfl)))))))
theorem dX12_place_0 : decode cX12_place 0 = .ok (.aload_n 0, 1) := by decide +kernel
theorem dX12_place_1 : decode cX12_place 1 = .ok (.getfield 55, 3) := by decide +kernel
theorem dX12_place_4 : decode cX12_place 4 = .ok (.aload_n 0, 1) := by decide +kernel
theorem dX12_place_5 : decode cX12_place 5 = .ok (.getfield 55, 3) := by decide +kernel
theorem dX12_place_8 : decode cX12_place 8 = .ok (.iload_n 1, 1) := by decide +kernel
theorem dX12_place_9 : decode cX12_place 9 = .ok (.invokevirtual 73, 3) := by decide +kernel
theorem dX12_place_12 : decode cX12_place 12 = .ok (.iload_n 2, 1) := by decide +kernel
theorem dX12_place_13 : decode cX12_place 13 = .ok (.invokestatic 144, 3) := by decide +kernel
theorem dX12_place_16 : decode cX12_place 16 = .ok (.istore_n 3, 1) := by decide +kernel
theorem dX12_place_17 : decode cX12_place 17 = .ok (.iload_n 3, 1) := by decide +kernel
theorem dX12_place_18 : decode cX12_place 18 = .ok (.ifCond .le 9, 3) := by decide +kernel
theorem dX12_place_21 : decode cX12_place 21 = .ok (.aload_n 0, 1) := by decide +kernel
theorem dX12_place_22 : decode cX12_place 22 = .ok (.iload_n 3, 1) := by decide +kernel
theorem dX12_place_23 : decode cX12_place 23 = .ok (.iload_n 1, 1) := by decide +kernel
theorem dX12_place_24 : decode cX12_place 24 = .ok (.invokevirtual 65, 3) := by decide +kernel
theorem dX12_place_27 : decode cX12_place 27 = .ok (.return_, 1) := by decide +kernel
set_option maxRecDepth 20000 in
theorem s_MO_place (E : XE) : Cs E (yX12_place, cX12_place, 4, none) (k_MO_place) := (Cs_nd (Cs_nd (Cs_nd (Cs_nd (Cs_lf (sg_aload_n dX12_place_0 rfl)) (Cs_lf (sg_getf dX12_place_1 rfl inX12 (by decide) w_889))) (Cs_nd (Cs_lf (sg_aload_n dX12_place_4 rfl)) (Cs_lf (sg_getf dX12_place_5 rfl inX12 (by decide) w_889)))) (Cs_nd (Cs_nd (Cs_lf (sg_iload_n dX12_place_8 rfl)) (Cs_lf (sg_invV (mid := 114) (ci := 8) (by decide +kernel) dX12_place_9 ok_114 rfl w_1018 w_1019 w_1020))) (Cs_nd (Cs_lf (sg_iload_n dX12_place_12 rfl)) (Cs_lf (sg_inv (mid := 134) (by decide +kernel) dX12_place_13 ok_134 w_1074 w_1075))))) (Cs_nd (Cs_nd (Cs_nd (Cs_lf (sg_istore_n dX12_place_16 rfl (by decide))) (Cs_lf (sg_iload_n dX12_place_17 rfl))) (Cs_nd (Cs_lf (sg_ifle dX12_place_18 (by decide))) (Cs_lf (sg_aload_n dX12_place_21 rfl)))) (Cs_nd (Cs_nd (Cs_lf (sg_iload_n dX12_place_22 rfl)) (Cs_lf (sg_iload_n dX12_place_23 rfl))) (Cs_nd (Cs_lf (sg_invV (mid := 126) (ci := 11) (by decide +kernel) dX12_place_24 ok_126 rfl w_1010 w_1012 ws_28)) (Cs_lf (sg_vret dX12_place_27 rfl))))))
theorem dX12_names_0 : decode cX12_names 0 = .ok (.iconst 0, 1) := by decide +kernel
theorem dX12_names_1 : decode cX12_names 1 = .ok (.istore_n 2, 1) := by decide +kernel
theorem dX12_names_2 : decode cX12_names 2 = .ok (.iload_n 2, 1) := by decide +kernel
theorem dX12_names_3 : decode cX12_names 3 = .ok (.aload_n 1, 1) := by decide +kernel
theorem dX12_names_4 : decode cX12_names 4 = .ok (.getfield 120, 3) := by decide +kernel
theorem dX12_names_7 : decode cX12_names 7 = .ok (.if_icmp .ge 20, 3) := by decide +kernel
theorem dX12_names_10 : decode cX12_names 10 = .ok (.aload_n 0, 1) := by decide +kernel
theorem dX12_names_11 : decode cX12_names 11 = .ok (.aload_n 1, 1) := by decide +kernel
theorem dX12_names_12 : decode cX12_names 12 = .ok (.getfield 121, 3) := by decide +kernel
theorem dX12_names_15 : decode cX12_names 15 = .ok (.iload_n 2, 1) := by decide +kernel
theorem dX12_names_16 : decode cX12_names 16 = .ok (.iaload, 1) := by decide +kernel
theorem dX12_names_17 : decode cX12_names 17 = .ok (.iconst 1, 1) := by decide +kernel
theorem dX12_names_18 : decode cX12_names 18 = .ok (.invokevirtual 148, 3) := by decide +kernel
theorem dX12_names_21 : decode cX12_names 21 = .ok (.iinc 2 1, 3) := by decide +kernel
theorem dX12_names_24 : decode cX12_names 24 = .ok (.goto (-22), 3) := by decide +kernel
theorem dX12_names_27 : decode cX12_names 27 = .ok (.return_, 1) := by decide +kernel
set_option maxRecDepth 20000 in
theorem s_MO_names (E : XE) : Cs E (yX12_names, cX12_names, 3, none) (k_MO_names) := (Cs_nd (Cs_nd (Cs_nd (Cs_nd (Cs_lf (sg_iconst dX12_names_0 (by decide))) (Cs_lf (sg_istore_n dX12_names_1 rfl (by decide)))) (Cs_nd (Cs_lf (sg_iload_n dX12_names_2 rfl)) (Cs_lf (sg_aload_n dX12_names_3 rfl)))) (Cs_nd (Cs_nd (Cs_lf (sg_getf dX12_names_4 rfl inX8 (by decide) w_1053)) (Cs_lf (sg_cge dX12_names_7 (by decide)))) (Cs_nd (Cs_lf (sg_aload_n dX12_names_10 rfl)) (Cs_lf (sg_aload_n dX12_names_11 rfl))))) (Cs_nd (Cs_nd (Cs_nd (Cs_lf (sg_getf dX12_names_12 rfl inX8 (by decide) w_1055)) (Cs_lf (sg_iload_n dX12_names_15 rfl))) (Cs_nd (Cs_lf (sg_iald dX12_names_16)) (Cs_lf (sg_iconst dX12_names_17 (by decide))))) (Cs_nd (Cs_nd (Cs_lf (sg_invV (mid := 135) (ci := 11) (by decide +kernel) dX12_names_18 ok_135 rfl w_1070 w_1072 ws_34)) (Cs_lf (sg_iinc dX12_names_21 (by decide) (by decide)))) (Cs_nd (Cs_lf (sg_goto dX12_names_24 (by decide))) (Cs_lf (sg_vret dX12_names_27 rfl))))))
theorem dX12_places_0 : decode cX12_places 0 = .ok (.iconst 1, 1) := by decide +kernel
theorem dX12_places_1 : decode cX12_places 1 = .ok (.istore_n 1, 1) := by decide +kernel
theorem dX12_places_2 : decode cX12_places 2 = .ok (.iload_n 1, 1) := by decide +kernel
theorem dX12_places_3 : decode cX12_places 3 = .ok (.aload_n 0, 1) := by decide +kernel
theorem dX12_places_4 : decode cX12_places 4 = .ok (.getfield 55, 3) := by decide +kernel
theorem dX12_places_7 : decode cX12_places 7 = .ok (.getfield 81, 3) := by decide +kernel
theorem dX12_places_10 : decode cX12_places 10 = .ok (.if_icmp .ge 99, 3) := by decide +kernel
theorem dX12_places_13 : decode cX12_places 13 = .ok (.aload_n 0, 1) := by decide +kernel
theorem dX12_places_14 : decode cX12_places 14 = .ok (.getfield 55, 3) := by decide +kernel
theorem dX12_places_17 : decode cX12_places 17 = .ok (.getfield 129, 3) := by decide +kernel
theorem dX12_places_20 : decode cX12_places 20 = .ok (.iload_n 1, 1) := by decide +kernel
theorem dX12_places_21 : decode cX12_places 21 = .ok (.iaload, 1) := by decide +kernel
theorem dX12_places_22 : decode cX12_places 22 = .ok (.iconst 1, 1) := by decide +kernel
theorem dX12_places_23 : decode cX12_places 23 = .ok (.iadd, 1) := by decide +kernel
theorem dX12_places_24 : decode cX12_places 24 = .ok (.istore_n 2, 1) := by decide +kernel
theorem dX12_places_25 : decode cX12_places 25 = .ok (.aload_n 0, 1) := by decide +kernel
theorem dX12_places_26 : decode cX12_places 26 = .ok (.getfield 55, 3) := by decide +kernel
theorem dX12_places_29 : decode cX12_places 29 = .ok (.getfield 126, 3) := by decide +kernel
theorem dX12_places_32 : decode cX12_places 32 = .ok (.iload_n 1, 1) := by decide +kernel
theorem dX12_places_33 : decode cX12_places 33 = .ok (.iaload, 1) := by decide +kernel
theorem dX12_places_34 : decode cX12_places 34 = .ok (.istore_n 3, 1) := by decide +kernel
theorem dX12_places_35 : decode cX12_places 35 = .ok (.iload_n 3, 1) := by decide +kernel
theorem dX12_places_36 : decode cX12_places 36 = .ok (.bipush 7, 2) := by decide +kernel
theorem dX12_places_38 : decode cX12_places 38 = .ok (.if_icmp .eq 9, 3) := by decide +kernel
theorem dX12_places_41 : decode cX12_places 41 = .ok (.iload_n 3, 1) := by decide +kernel
theorem dX12_places_42 : decode cX12_places 42 = .ok (.bipush 8, 2) := by decide +kernel
theorem dX12_places_44 : decode cX12_places 44 = .ok (.if_icmp .ne 12, 3) := by decide +kernel
theorem dX12_places_47 : decode cX12_places 47 = .ok (.aload_n 0, 1) := by decide +kernel
theorem dX12_places_48 : decode cX12_places 48 = .ok (.iload_n 2, 1) := by decide +kernel
theorem dX12_places_49 : decode cX12_places 49 = .ok (.iconst 1, 1) := by decide +kernel
theorem dX12_places_50 : decode cX12_places 50 = .ok (.invokevirtual 148, 3) := by decide +kernel
theorem dX12_places_53 : decode cX12_places 53 = .ok (.goto 50, 3) := by decide +kernel
theorem dX12_places_56 : decode cX12_places 56 = .ok (.iload_n 3, 1) := by decide +kernel
theorem dX12_places_57 : decode cX12_places 57 = .ok (.bipush 9, 2) := by decide +kernel
theorem dX12_places_59 : decode cX12_places 59 = .ok (.bipush 12, 2) := by decide +kernel
theorem dX12_places_61 : decode cX12_places 61 = .ok (.invokestatic 45, 3) := by decide +kernel
theorem dX12_places_64 : decode cX12_places 64 = .ok (.ifCond .eq 39, 3) := by decide +kernel
theorem dX12_places_67 : decode cX12_places 67 = .ok (.aload_n 0, 1) := by decide +kernel
theorem dX12_places_68 : decode cX12_places 68 = .ok (.iload_n 2, 1) := by decide +kernel
theorem dX12_places_69 : decode cX12_places 69 = .ok (.iload_n 3, 1) := by decide +kernel
theorem dX12_places_70 : decode cX12_places 70 = .ok (.bipush 12, 2) := by decide +kernel
theorem dX12_places_72 : decode cX12_places 72 = .ok (.if_icmp .ne 7, 3) := by decide +kernel
theorem dX12_places_75 : decode cX12_places 75 = .ok (.iconst 1, 1) := by decide +kernel
theorem dX12_places_76 : decode cX12_places 76 = .ok (.goto 5, 3) := by decide +kernel
theorem dX12_places_79 : decode cX12_places 79 = .ok (.bipush 7, 2) := by decide +kernel
theorem dX12_places_81 : decode cX12_places 81 = .ok (.invokevirtual 148, 3) := by decide +kernel
theorem dX12_places_84 : decode cX12_places 84 = .ok (.aload_n 0, 1) := by decide +kernel
theorem dX12_places_85 : decode cX12_places 85 = .ok (.iload_n 2, 1) := by decide +kernel
theorem dX12_places_86 : decode cX12_places 86 = .ok (.iconst 2, 1) := by decide +kernel
theorem dX12_places_87 : decode cX12_places 87 = .ok (.iadd, 1) := by decide +kernel
theorem dX12_places_88 : decode cX12_places 88 = .ok (.iload_n 3, 1) := by decide +kernel
theorem dX12_places_89 : decode cX12_places 89 = .ok (.bipush 12, 2) := by decide +kernel
theorem dX12_places_91 : decode cX12_places 91 = .ok (.if_icmp .ne 7, 3) := by decide +kernel
theorem dX12_places_94 : decode cX12_places 94 = .ok (.iconst 1, 1) := by decide +kernel
theorem dX12_places_95 : decode cX12_places 95 = .ok (.goto 5, 3) := by decide +kernel
theorem dX12_places_98 : decode cX12_places 98 = .ok (.bipush 12, 2) := by decide +kernel
theorem dX12_places_100 : decode cX12_places 100 = .ok (.invokevirtual 148, 3) := by decide +kernel
theorem dX12_places_103 : decode cX12_places 103 = .ok (.iinc 1 1, 3) := by decide +kernel
theorem dX12_places_106 : decode cX12_places 106 = .ok (.goto (-104), 3) := by decide +kernel
theorem dX12_places_109 : decode cX12_places 109 = .ok (.aload_n 0, 1) := by decide +kernel
theorem dX12_places_110 : decode cX12_places 110 = .ok (.getfield 55, 3) := by decide +kernel
theorem dX12_places_113 : decode cX12_places 113 = .ok (.getfield 87, 3) := by decide +kernel
theorem dX12_places_116 : decode cX12_places 116 = .ok (.istore_n 1, 1) := by decide +kernel
theorem dX12_places_117 : decode cX12_places 117 = .ok (.aload_n 0, 1) := by decide +kernel
theorem dX12_places_118 : decode cX12_places 118 = .ok (.iload_n 1, 1) := by decide +kernel
theorem dX12_places_119 : decode cX12_places 119 = .ok (.iconst 2, 1) := by decide +kernel
theorem dX12_places_120 : decode cX12_places 120 = .ok (.iadd, 1) := by decide +kernel
theorem dX12_places_121 : decode cX12_places 121 = .ok (.bipush 7, 2) := by decide +kernel
theorem dX12_places_123 : decode cX12_places 123 = .ok (.invokevirtual 148, 3) := by decide +kernel
theorem dX12_places_126 : decode cX12_places 126 = .ok (.aload_n 0, 1) := by decide +kernel
theorem dX12_places_127 : decode cX12_places 127 = .ok (.getfield 55, 3) := by decide +kernel
theorem dX12_places_130 : decode cX12_places 130 = .ok (.iload_n 1, 1) := by decide +kernel
theorem dX12_places_131 : decode cX12_places 131 = .ok (.iconst 4, 1) := by decide +kernel
theorem dX12_places_132 : decode cX12_places 132 = .ok (.iadd, 1) := by decide +kernel
theorem dX12_places_133 : decode cX12_places 133 = .ok (.invokevirtual 73, 3) := by decide +kernel
theorem dX12_places_136 : decode cX12_places 136 = .ok (.ifCond .eq 12, 3) := by decide +kernel
theorem dX12_places_139 : decode cX12_places 139 = .ok (.aload_n 0, 1) := by decide +kernel
theorem dX12_places_140 : decode cX12_places 140 = .ok (.iload_n 1, 1) := by decide +kernel
theorem dX12_places_141 : decode cX12_places 141 = .ok (.iconst 4, 1) := by decide +kernel
theorem dX12_places_142 : decode cX12_places 142 = .ok (.iadd, 1) := by decide +kernel
theorem dX12_places_143 : decode cX12_places 143 = .ok (.bipush 7, 2) := by decide +kernel
theorem dX12_places_145 : decode cX12_places 145 = .ok (.invokevirtual 148, 3) := by decide +kernel
theorem dX12_places_148 : decode cX12_places 148 = .ok (.iconst 0, 1) := by decide +kernel
theorem dX12_places_149 : decode cX12_places 149 = .ok (.istore_n 2, 1) := by decide +kernel
theorem dX12_places_150 : decode cX12_places 150 = .ok (.iload_n 2, 1) := by decide +kernel
theorem dX12_places_151 : decode cX12_places 151 = .ok (.aload_n 0, 1) := by decide +kernel
theorem dX12_places_152 : decode cX12_places 152 = .ok (.getfield 55, 3) := by decide +kernel
theorem dX12_places_155 : decode cX12_places 155 = .ok (.getfield 93, 3) := by decide +kernel
theorem dX12_places_158 : decode cX12_places 158 = .ok (.if_icmp .ge 23, 3) := by decide +kernel
theorem dX12_places_161 : decode cX12_places 161 = .ok (.aload_n 0, 1) := by decide +kernel
theorem dX12_places_162 : decode cX12_places 162 = .ok (.iload_n 1, 1) := by decide +kernel
theorem dX12_places_163 : decode cX12_places 163 = .ok (.bipush 8, 2) := by decide +kernel
theorem dX12_places_165 : decode cX12_places 165 = .ok (.iadd, 1) := by decide +kernel
theorem dX12_places_166 : decode cX12_places 166 = .ok (.iconst 2, 1) := by decide +kernel
theorem dX12_places_167 : decode cX12_places 167 = .ok (.iload_n 2, 1) := by decide +kernel
theorem dX12_places_168 : decode cX12_places 168 = .ok (.imul, 1) := by decide +kernel
theorem dX12_places_169 : decode cX12_places 169 = .ok (.iadd, 1) := by decide +kernel
theorem dX12_places_170 : decode cX12_places 170 = .ok (.bipush 7, 2) := by decide +kernel
theorem dX12_places_172 : decode cX12_places 172 = .ok (.invokevirtual 148, 3) := by decide +kernel
theorem dX12_places_175 : decode cX12_places 175 = .ok (.iinc 2 1, 3) := by decide +kernel
theorem dX12_places_178 : decode cX12_places 178 = .ok (.goto (-28), 3) := by decide +kernel
theorem dX12_places_181 : decode cX12_places 181 = .ok (.iconst 0, 1) := by decide +kernel
theorem dX12_places_182 : decode cX12_places 182 = .ok (.istore_n 2, 1) := by decide +kernel
theorem dX12_places_183 : decode cX12_places 183 = .ok (.iload_n 2, 1) := by decide +kernel
theorem dX12_places_184 : decode cX12_places 184 = .ok (.iconst 2, 1) := by decide +kernel
theorem dX12_places_185 : decode cX12_places 185 = .ok (.if_icmp .ge 76, 3) := by decide +kernel
theorem dX12_places_188 : decode cX12_places 188 = .ok (.iconst 0, 1) := by decide +kernel
theorem dX12_places_189 : decode cX12_places 189 = .ok (.istore_n 3, 1) := by decide +kernel
theorem dX12_places_190 : decode cX12_places 190 = .ok (.iload_n 3, 1) := by decide +kernel
theorem dX12_places_191 : decode cX12_places 191 = .ok (.aload_n 0, 1) := by decide +kernel
theorem dX12_places_192 : decode cX12_places 192 = .ok (.getfield 55, 3) := by decide +kernel
theorem dX12_places_195 : decode cX12_places 195 = .ok (.getfield 96, 3) := by decide +kernel
theorem dX12_places_198 : decode cX12_places 198 = .ok (.iload_n 2, 1) := by decide +kernel
theorem dX12_places_199 : decode cX12_places 199 = .ok (.iaload, 1) := by decide +kernel
theorem dX12_places_200 : decode cX12_places 200 = .ok (.if_icmp .ge 55, 3) := by decide +kernel
theorem dX12_places_203 : decode cX12_places 203 = .ok (.aload_n 0, 1) := by decide +kernel
theorem dX12_places_204 : decode cX12_places 204 = .ok (.getfield 55, 3) := by decide +kernel
theorem dX12_places_207 : decode cX12_places 207 = .ok (.getfield 110, 3) := by decide +kernel
theorem dX12_places_210 : decode cX12_places 210 = .ok (.iload_n 2, 1) := by decide +kernel
theorem dX12_places_211 : decode cX12_places 211 = .ok (.aaload, 1) := by decide +kernel
theorem dX12_places_212 : decode cX12_places 212 = .ok (.iload_n 3, 1) := by decide +kernel
theorem dX12_places_213 : decode cX12_places 213 = .ok (.aaload, 1) := by decide +kernel
theorem dX12_places_214 : decode cX12_places 214 = .ok (.astore 4, 2) := by decide +kernel
theorem dX12_places_216 : decode cX12_places 216 = .ok (.aload_n 0, 1) := by decide +kernel
theorem dX12_places_217 : decode cX12_places 217 = .ok (.aload 4, 2) := by decide +kernel
theorem dX12_places_219 : decode cX12_places 219 = .ok (.getfield 102, 3) := by decide +kernel
theorem dX12_places_222 : decode cX12_places 222 = .ok (.iconst 2, 1) := by decide +kernel
theorem dX12_places_223 : decode cX12_places 223 = .ok (.iadd, 1) := by decide +kernel
theorem dX12_places_224 : decode cX12_places 224 = .ok (.iconst 1, 1) := by decide +kernel
theorem dX12_places_225 : decode cX12_places 225 = .ok (.invokevirtual 148, 3) := by decide +kernel
theorem dX12_places_228 : decode cX12_places 228 = .ok (.aload_n 0, 1) := by decide +kernel
theorem dX12_places_229 : decode cX12_places 229 = .ok (.aload 4, 2) := by decide +kernel
theorem dX12_places_231 : decode cX12_places 231 = .ok (.getfield 102, 3) := by decide +kernel
theorem dX12_places_234 : decode cX12_places 234 = .ok (.iconst 4, 1) := by decide +kernel
theorem dX12_places_235 : decode cX12_places 235 = .ok (.iadd, 1) := by decide +kernel
theorem dX12_places_236 : decode cX12_places 236 = .ok (.iconst 1, 1) := by decide +kernel
theorem dX12_places_237 : decode cX12_places 237 = .ok (.invokevirtual 148, 3) := by decide +kernel
theorem dX12_places_240 : decode cX12_places 240 = .ok (.aload_n 0, 1) := by decide +kernel
theorem dX12_places_241 : decode cX12_places 241 = .ok (.aload 4, 2) := by decide +kernel
theorem dX12_places_243 : decode cX12_places 243 = .ok (.getfield 107, 3) := by decide +kernel
theorem dX12_places_246 : decode cX12_places 246 = .ok (.invokevirtual 151, 3) := by decide +kernel
theorem dX12_places_249 : decode cX12_places 249 = .ok (.iinc 3 1, 3) := by decide +kernel
theorem dX12_places_252 : decode cX12_places 252 = .ok (.goto (-62), 3) := by decide +kernel
theorem dX12_places_255 : decode cX12_places 255 = .ok (.iinc 2 1, 3) := by decide +kernel
theorem dX12_places_258 : decode cX12_places 258 = .ok (.goto (-75), 3) := by decide +kernel
theorem dX12_places_261 : decode cX12_places 261 = .ok (.aload_n 0, 1) := by decide +kernel
theorem dX12_places_262 : decode cX12_places 262 = .ok (.aload_n 0, 1) := by decide +kernel
theorem dX12_places_263 : decode cX12_places 263 = .ok (.getfield 55, 3) := by decide +kernel
theorem dX12_places_266 : decode cX12_places 266 = .ok (.getfield 114, 3) := by decide +kernel
theorem dX12_places_269 : decode cX12_places 269 = .ok (.invokevirtual 151, 3) := by decide +kernel
theorem dX12_places_272 : decode cX12_places 272 = .ok (.return_, 1) := by decide +kernel
set_option maxRecDepth 20000 in
theorem s_MO_places (E : XE) : Cs E (yX12_places, cX12_places, 5, none) (k_MO_places) := (Cs_nd (Cs_nd (Cs_nd (Cs_nd (Cs_nd (Cs_nd (Cs_nd (Cs_lf (sg_iconst dX12_places_0 (by decide))) (Cs_lf (sg_istore_n dX12_places_1 rfl (by decide)))) (Cs_nd (Cs_lf (sg_iload_n dX12_places_2 rfl)) (Cs_lf (sg_aload_n dX12_places_3 rfl)))) (Cs_nd (Cs_nd (Cs_lf (sg_getf dX12_places_4 rfl inX12 (by decide) w_889)) (Cs_lf (sg_getf dX12_places_7 rfl inX9 (by decide) w_963))) (Cs_nd (Cs_lf (sg_cge dX12_places_10 (by decide))) (Cs_nd (Cs_lf (sg_aload_n dX12_places_13 rfl)) (Cs_lf (sg_getf dX12_places_14 rfl inX12 (by decide) w_889)))))) (Cs_nd (Cs_nd (Cs_nd (Cs_lf (sg_getf dX12_places_17 rfl inX9 (by decide) w_967)) (Cs_lf (sg_iload_n dX12_places_20 rfl))) (Cs_nd (Cs_lf (sg_iald dX12_places_21)) (Cs_lf (sg_iconst dX12_places_22 (by decide))))) (Cs_nd (Cs_nd (Cs_lf (sg_iadd dX12_places_23)) (Cs_lf (sg_istore_n dX12_places_24 rfl (by decide)))) (Cs_nd (Cs_lf (sg_aload_n dX12_places_25 rfl)) (Cs_nd (Cs_lf (sg_getf dX12_places_26 rfl inX12 (by decide) w_889)) (Cs_lf (sg_getf dX12_places_29 rfl inX9 (by decide) w_965))))))) (Cs_nd (Cs_nd (Cs_nd (Cs_nd (Cs_lf (sg_iload_n dX12_places_32 rfl)) (Cs_lf (sg_iald dX12_places_33))) (Cs_nd (Cs_lf (sg_istore_n dX12_places_34 rfl (by decide))) (Cs_lf (sg_iload_n dX12_places_35 rfl)))) (Cs_nd (Cs_nd (Cs_lf (sg_bipush dX12_places_36 (by decide))) (Cs_lf (sg_ceq dX12_places_38 (by decide)))) (Cs_nd (Cs_lf (sg_iload_n dX12_places_41 rfl)) (Cs_nd (Cs_lf (sg_bipush dX12_places_42 (by decide))) (Cs_lf (sg_cne dX12_places_44 (by decide))))))) (Cs_nd (Cs_nd (Cs_nd (Cs_lf (sg_aload_n dX12_places_47 rfl)) (Cs_lf (sg_iload_n dX12_places_48 rfl))) (Cs_nd (Cs_lf (sg_iconst dX12_places_49 (by decide))) (Cs_nd (Cs_lf (sg_invV (mid := 135) (ci := 11) (by decide +kernel) dX12_places_50 ok_135 rfl w_1070 w_1072 ws_34)) (Cs_lf (sg_goto dX12_places_53 (by decide)))))) (Cs_nd (Cs_nd (Cs_lf (sg_iload_n dX12_places_56 rfl)) (Cs_lf (sg_bipush dX12_places_57 (by decide)))) (Cs_nd (Cs_lf (sg_bipush dX12_places_59 (by decide))) (Cs_nd (Cs_lf (sg_inv (mid := 123) (by decide +kernel) dX12_places_61 ok_123 w_943 w_944)) (Cs_lf (sg_ifeq dX12_places_64 (by decide))))))))) (Cs_nd (Cs_nd (Cs_nd (Cs_nd (Cs_nd (Cs_lf (sg_aload_n dX12_places_67 rfl)) (Cs_lf (sg_iload_n dX12_places_68 rfl))) (Cs_nd (Cs_lf (sg_iload_n dX12_places_69 rfl)) (Cs_lf (sg_bipush dX12_places_70 (by decide))))) (Cs_nd (Cs_nd (Cs_lf (sg_cne dX12_places_72 (by decide))) (Cs_lf (sg_iconst dX12_places_75 (by decide)))) (Cs_nd (Cs_lf (sg_goto dX12_places_76 (by decide))) (Cs_nd (Cs_lf (sg_bipush dX12_places_79 (by decide))) (Cs_lf (sg_invV (mid := 135) (ci := 11) (by decide +kernel) dX12_places_81 ok_135 rfl w_1070 w_1072 ws_34)))))) (Cs_nd (Cs_nd (Cs_nd (Cs_lf (sg_aload_n dX12_places_84 rfl)) (Cs_lf (sg_iload_n dX12_places_85 rfl))) (Cs_nd (Cs_lf (sg_iconst dX12_places_86 (by decide))) (Cs_nd (Cs_lf (sg_iadd dX12_places_87)) (Cs_lf (sg_iload_n dX12_places_88 rfl))))) (Cs_nd (Cs_nd (Cs_lf (sg_bipush dX12_places_89 (by decide))) (Cs_lf (sg_cne dX12_places_91 (by decide)))) (Cs_nd (Cs_lf (sg_iconst dX12_places_94 (by decide))) (Cs_nd (Cs_lf (sg_goto dX12_places_95 (by decide))) (Cs_lf (sg_bipush dX12_places_98 (by decide)))))))) (Cs_nd (Cs_nd (Cs_nd (Cs_nd (Cs_lf (sg_invV (mid := 135) (ci := 11) (by decide +kernel) dX12_places_100 ok_135 rfl w_1070 w_1072 ws_34)) (Cs_lf (sg_iinc dX12_places_103 (by decide) (by decide)))) (Cs_nd (Cs_lf (sg_goto dX12_places_106 (by decide))) (Cs_lf (sg_aload_n dX12_places_109 rfl)))) (Cs_nd (Cs_nd (Cs_lf (sg_getf dX12_places_110 rfl inX12 (by decide) w_889)) (Cs_lf (sg_getf dX12_places_113 rfl inX9 (by decide) w_970))) (Cs_nd (Cs_lf (sg_istore_n dX12_places_116 rfl (by decide))) (Cs_nd (Cs_lf (sg_aload_n dX12_places_117 rfl)) (Cs_lf (sg_iload_n dX12_places_118 rfl)))))) (Cs_nd (Cs_nd (Cs_nd (Cs_lf (sg_iconst dX12_places_119 (by decide))) (Cs_lf (sg_iadd dX12_places_120))) (Cs_nd (Cs_lf (sg_bipush dX12_places_121 (by decide))) (Cs_nd (Cs_lf (sg_invV (mid := 135) (ci := 11) (by decide +kernel) dX12_places_123 ok_135 rfl w_1070 w_1072 ws_34)) (Cs_lf (sg_aload_n dX12_places_126 rfl))))) (Cs_nd (Cs_nd (Cs_lf (sg_getf dX12_places_127 rfl inX12 (by decide) w_889)) (Cs_lf (sg_iload_n dX12_places_130 rfl))) (Cs_nd (Cs_lf (sg_iconst dX12_places_131 (by decide))) (Cs_nd (Cs_lf (sg_iadd dX12_places_132)) (Cs_lf (sg_invV (mid := 114) (ci := 8) (by decide +kernel) dX12_places_133 ok_114 rfl w_1018 w_1019 w_1020))))))))) (Cs_nd (Cs_nd (Cs_nd (Cs_nd (Cs_nd (Cs_nd (Cs_lf (sg_ifeq dX12_places_136 (by decide))) (Cs_lf (sg_aload_n dX12_places_139 rfl))) (Cs_nd (Cs_lf (sg_iload_n dX12_places_140 rfl)) (Cs_lf (sg_iconst dX12_places_141 (by decide))))) (Cs_nd (Cs_nd (Cs_lf (sg_iadd dX12_places_142)) (Cs_lf (sg_bipush dX12_places_143 (by decide)))) (Cs_nd (Cs_lf (sg_invV (mid := 135) (ci := 11) (by decide +kernel) dX12_places_145 ok_135 rfl w_1070 w_1072 ws_34)) (Cs_nd (Cs_lf (sg_iconst dX12_places_148 (by decide))) (Cs_lf (sg_istore_n dX12_places_149 rfl (by decide))))))) (Cs_nd (Cs_nd (Cs_nd (Cs_lf (sg_iload_n dX12_places_150 rfl)) (Cs_lf (sg_aload_n dX12_places_151 rfl))) (Cs_nd (Cs_lf (sg_getf dX12_places_152 rfl inX12 (by decide) w_889)) (Cs_nd (Cs_lf (sg_getf dX12_places_155 rfl inX9 (by decide) w_971)) (Cs_lf (sg_cge dX12_places_158 (by decide)))))) (Cs_nd (Cs_nd (Cs_lf (sg_aload_n dX12_places_161 rfl)) (Cs_lf (sg_iload_n dX12_places_162 rfl))) (Cs_nd (Cs_lf (sg_bipush dX12_places_163 (by decide))) (Cs_nd (Cs_lf (sg_iadd dX12_places_165)) (Cs_lf (sg_iconst dX12_places_166 (by decide)))))))) (Cs_nd (Cs_nd (Cs_nd (Cs_nd (Cs_lf (sg_iload_n dX12_places_167 rfl)) (Cs_lf (sg_imul dX12_places_168))) (Cs_nd (Cs_lf (sg_iadd dX12_places_169)) (Cs_lf (sg_bipush dX12_places_170 (by decide))))) (Cs_nd (Cs_nd (Cs_lf (sg_invV (mid := 135) (ci := 11) (by decide +kernel) dX12_places_172 ok_135 rfl w_1070 w_1072 ws_34)) (Cs_lf (sg_iinc dX12_places_175 (by decide) (by decide)))) (Cs_nd (Cs_lf (sg_goto dX12_places_178 (by decide))) (Cs_nd (Cs_lf (sg_iconst dX12_places_181 (by decide))) (Cs_lf (sg_istore_n dX12_places_182 rfl (by decide))))))) (Cs_nd (Cs_nd (Cs_nd (Cs_lf (sg_iload_n dX12_places_183 rfl)) (Cs_lf (sg_iconst dX12_places_184 (by decide)))) (Cs_nd (Cs_lf (sg_cge dX12_places_185 (by decide))) (Cs_nd (Cs_lf (sg_iconst dX12_places_188 (by decide))) (Cs_lf (sg_istore_n dX12_places_189 rfl (by decide)))))) (Cs_nd (Cs_nd (Cs_lf (sg_iload_n dX12_places_190 rfl)) (Cs_lf (sg_aload_n dX12_places_191 rfl))) (Cs_nd (Cs_lf (sg_getf dX12_places_192 rfl inX12 (by decide) w_889)) (Cs_nd (Cs_lf (sg_getf dX12_places_195 rfl inX9 (by decide) w_975)) (Cs_lf (sg_iload_n dX12_places_198 rfl)))))))) (Cs_nd (Cs_nd (Cs_nd (Cs_nd (Cs_nd (Cs_lf (sg_iald dX12_places_199)) (Cs_lf (sg_cge dX12_places_200 (by decide)))) (Cs_nd (Cs_lf (sg_aload_n dX12_places_203 rfl)) (Cs_lf (sg_getf dX12_places_204 rfl inX12 (by decide) w_889)))) (Cs_nd (Cs_nd (Cs_lf (sg_getf dX12_places_207 rfl inX9 (by decide) w_973)) (Cs_lf (sg_iload_n dX12_places_210 rfl))) (Cs_nd (Cs_lf (sg_aald dX12_places_211)) (Cs_nd (Cs_lf (sg_iload_n dX12_places_212 rfl)) (Cs_lf (sg_aald dX12_places_213)))))) (Cs_nd (Cs_nd (Cs_nd (Cs_lf (sg_astore dX12_places_214 (by decide))) (Cs_lf (sg_aload_n dX12_places_216 rfl))) (Cs_nd (Cs_lf (sg_aload dX12_places_217)) (Cs_nd (Cs_lf (sg_getf dX12_places_219 rfl inX11 (by decide) w_1036)) (Cs_lf (sg_iconst dX12_places_222 (by decide)))))) (Cs_nd (Cs_nd (Cs_lf (sg_iadd dX12_places_223)) (Cs_lf (sg_iconst dX12_places_224 (by decide)))) (Cs_nd (Cs_lf (sg_invV (mid := 135) (ci := 11) (by decide +kernel) dX12_places_225 ok_135 rfl w_1070 w_1072 ws_34)) (Cs_nd (Cs_lf (sg_aload_n dX12_places_228 rfl)) (Cs_lf (sg_aload dX12_places_229))))))) (Cs_nd (Cs_nd (Cs_nd (Cs_nd (Cs_lf (sg_getf dX12_places_231 rfl inX11 (by decide) w_1036)) (Cs_lf (sg_iconst dX12_places_234 (by decide)))) (Cs_nd (Cs_lf (sg_iadd dX12_places_235)) (Cs_lf (sg_iconst dX12_places_236 (by decide))))) (Cs_nd (Cs_nd (Cs_lf (sg_invV (mid := 135) (ci := 11) (by decide +kernel) dX12_places_237 ok_135 rfl w_1070 w_1072 ws_34)) (Cs_lf (sg_aload_n dX12_places_240 rfl))) (Cs_nd (Cs_lf (sg_aload dX12_places_241)) (Cs_nd (Cs_lf (sg_getf dX12_places_243 rfl inX11 (by decide) w_1037)) (Cs_lf (sg_invV (mid := 136) (ci := 11) (by decide +kernel) dX12_places_246 ok_136 rfl w_1077 w_1079 ws_35)))))) (Cs_nd (Cs_nd (Cs_nd (Cs_lf (sg_iinc dX12_places_249 (by decide) (by decide))) (Cs_lf (sg_goto dX12_places_252 (by decide)))) (Cs_nd (Cs_lf (sg_iinc dX12_places_255 (by decide) (by decide))) (Cs_nd (Cs_lf (sg_goto dX12_places_258 (by decide))) (Cs_lf (sg_aload_n dX12_places_261 rfl))))) (Cs_nd (Cs_nd (Cs_lf (sg_aload_n dX12_places_262 rfl)) (Cs_lf (sg_getf dX12_places_263 rfl inX12 (by decide) w_889))) (Cs_nd (Cs_lf (sg_getf dX12_places_266 rfl inX9 (by decide) w_976)) (Cs_nd (Cs_lf (sg_invV (mid := 136) (ci := 11) (by decide +kernel) dX12_places_269 ok_136 rfl w_1077 w_1079 ws_35)) (Cs_lf (sg_vret dX12_places_272 rfl))))))))))
theorem dX12_type_0 : decode cX12_type 0 = .ok (.iload_n 1, 1) := by decide +kernel
theorem dX12_type_1 : decode cX12_type 1 = .ok (.istore_n 2, 1) := by decide +kernel
theorem dX12_type_2 : decode cX12_type 2 = .ok (.iload_n 2, 1) := by decide +kernel
theorem dX12_type_3 : decode cX12_type 3 = .ok (.aload_n 0, 1) := by decide +kernel
theorem dX12_type_4 : decode cX12_type 4 = .ok (.arraylength, 1) := by decide +kernel
theorem dX12_type_5 : decode cX12_type 5 = .ok (.if_icmp .ge 17, 3) := by decide +kernel
theorem dX12_type_8 : decode cX12_type 8 = .ok (.aload_n 0, 1) := by decide +kernel
theorem dX12_type_9 : decode cX12_type 9 = .ok (.iload_n 2, 1) := by decide +kernel
theorem dX12_type_10 : decode cX12_type 10 = .ok (.baload, 1) := by decide +kernel
theorem dX12_type_11 : decode cX12_type 11 = .ok (.bipush 91, 2) := by decide +kernel
theorem dX12_type_13 : decode cX12_type 13 = .ok (.if_icmp .ne 9, 3) := by decide +kernel
theorem dX12_type_16 : decode cX12_type 16 = .ok (.iinc 2 1, 3) := by decide +kernel
theorem dX12_type_19 : decode cX12_type 19 = .ok (.goto (-17), 3) := by decide +kernel
theorem dX12_type_22 : decode cX12_type 22 = .ok (.iload_n 2, 1) := by decide +kernel
theorem dX12_type_23 : decode cX12_type 23 = .ok (.aload_n 0, 1) := by decide +kernel
theorem dX12_type_24 : decode cX12_type 24 = .ok (.arraylength, 1) := by decide +kernel
theorem dX12_type_25 : decode cX12_type 25 = .ok (.if_icmp .eq 12, 3) := by decide +kernel
theorem dX12_type_28 : decode cX12_type 28 = .ok (.iload_n 2, 1) := by decide +kernel
theorem dX12_type_29 : decode cX12_type 29 = .ok (.iload_n 1, 1) := by decide +kernel
theorem dX12_type_30 : decode cX12_type 30 = .ok (.isub, 1) := by decide +kernel
theorem dX12_type_31 : decode cX12_type 31 = .ok (.sipush 255, 3) := by decide +kernel
theorem dX12_type_34 : decode cX12_type 34 = .ok (.if_icmp .le 5, 3) := by decide +kernel
theorem dX12_type_37 : decode cX12_type 37 = .ok (.iconst (-1), 1) := by decide +kernel
theorem dX12_type_38 : decode cX12_type 38 = .ok (.ireturn, 1) := by decide +kernel
theorem dX12_type_39 : decode cX12_type 39 = .ok (.ldc 155, 2) := by decide +kernel
theorem dX12_type_41 : decode cX12_type 41 = .ok (.aload_n 0, 1) := by decide +kernel
theorem dX12_type_42 : decode cX12_type 42 = .ok (.iload_n 2, 1) := by decide +kernel
theorem dX12_type_43 : decode cX12_type 43 = .ok (.baload, 1) := by decide +kernel
theorem dX12_type_44 : decode cX12_type 44 = .ok (.invokevirtual 157, 3) := by decide +kernel
theorem dX12_type_47 : decode cX12_type 47 = .ok (.ifCond .lt 7, 3) := by decide +kernel
theorem dX12_type_50 : decode cX12_type 50 = .ok (.iload_n 2, 1) := by decide +kernel
theorem dX12_type_51 : decode cX12_type 51 = .ok (.iconst 1, 1) := by decide +kernel
theorem dX12_type_52 : decode cX12_type 52 = .ok (.iadd, 1) := by decide +kernel
theorem dX12_type_53 : decode cX12_type 53 = .ok (.ireturn, 1) := by decide +kernel
theorem dX12_type_54 : decode cX12_type 54 = .ok (.aload_n 0, 1) := by decide +kernel
theorem dX12_type_55 : decode cX12_type 55 = .ok (.iload_n 2, 1) := by decide +kernel
theorem dX12_type_56 : decode cX12_type 56 = .ok (.baload, 1) := by decide +kernel
theorem dX12_type_57 : decode cX12_type 57 = .ok (.bipush 76, 2) := by decide +kernel
theorem dX12_type_59 : decode cX12_type 59 = .ok (.if_icmp .eq 5, 3) := by decide +kernel
theorem dX12_type_62 : decode cX12_type 62 = .ok (.iconst (-1), 1) := by decide +kernel
theorem dX12_type_63 : decode cX12_type 63 = .ok (.ireturn, 1) := by decide +kernel
theorem dX12_type_64 : decode cX12_type 64 = .ok (.iload_n 2, 1) := by decide +kernel
theorem dX12_type_65 : decode cX12_type 65 = .ok (.iconst 1, 1) := by decide +kernel
theorem dX12_type_66 : decode cX12_type 66 = .ok (.iadd, 1) := by decide +kernel
theorem dX12_type_67 : decode cX12_type 67 = .ok (.istore_n 3, 1) := by decide +kernel
theorem dX12_type_68 : decode cX12_type 68 = .ok (.iload_n 3, 1) := by decide +kernel
theorem dX12_type_69 : decode cX12_type 69 = .ok (.aload_n 0, 1) := by decide +kernel
theorem dX12_type_70 : decode cX12_type 70 = .ok (.arraylength, 1) := by decide +kernel
theorem dX12_type_71 : decode cX12_type 71 = .ok (.if_icmp .ge 17, 3) := by decide +kernel
theorem dX12_type_74 : decode cX12_type 74 = .ok (.aload_n 0, 1) := by decide +kernel
theorem dX12_type_75 : decode cX12_type 75 = .ok (.iload_n 3, 1) := by decide +kernel
theorem dX12_type_76 : decode cX12_type 76 = .ok (.baload, 1) := by decide +kernel
theorem dX12_type_77 : decode cX12_type 77 = .ok (.bipush 59, 2) := by decide +kernel
theorem dX12_type_79 : decode cX12_type 79 = .ok (.if_icmp .eq 9, 3) := by decide +kernel
theorem dX12_type_82 : decode cX12_type 82 = .ok (.iinc 3 1, 3) := by decide +kernel
theorem dX12_type_85 : decode cX12_type 85 = .ok (.goto (-17), 3) := by decide +kernel
theorem dX12_type_88 : decode cX12_type 88 = .ok (.iload_n 3, 1) := by decide +kernel
theorem dX12_type_89 : decode cX12_type 89 = .ok (.aload_n 0, 1) := by decide +kernel
theorem dX12_type_90 : decode cX12_type 90 = .ok (.arraylength, 1) := by decide +kernel
theorem dX12_type_91 : decode cX12_type 91 = .ok (.if_icmp .eq 10, 3) := by decide +kernel
theorem dX12_type_94 : decode cX12_type 94 = .ok (.iload_n 3, 1) := by decide +kernel
theorem dX12_type_95 : decode cX12_type 95 = .ok (.iload_n 2, 1) := by decide +kernel
theorem dX12_type_96 : decode cX12_type 96 = .ok (.iconst 1, 1) := by decide +kernel
theorem dX12_type_97 : decode cX12_type 97 = .ok (.iadd, 1) := by decide +kernel
theorem dX12_type_98 : decode cX12_type 98 = .ok (.if_icmp .ne 7, 3) := by decide +kernel
theorem dX12_type_101 : decode cX12_type 101 = .ok (.iconst (-1), 1) := by decide +kernel
theorem dX12_type_102 : decode cX12_type 102 = .ok (.goto 6, 3) := by decide +kernel
theorem dX12_type_105 : decode cX12_type 105 = .ok (.iload_n 3, 1) := by decide +kernel
theorem dX12_type_106 : decode cX12_type 106 = .ok (.iconst 1, 1) := by decide +kernel
theorem dX12_type_107 : decode cX12_type 107 = .ok (.iadd, 1) := by decide +kernel
theorem dX12_type_108 : decode cX12_type 108 = .ok (.ireturn, 1) := by decide +kernel
set_option maxRecDepth 20000 in
theorem s_MO_type (E : XE) : Cs E (yX12_type, cX12_type, 4, some .int) (k_MO_type E.2.1 E.2.2.1) := (Cs_nd (Cs_nd (Cs_nd (Cs_nd (Cs_nd (Cs_nd (Cs_lf (sg_iload_n dX12_type_0 rfl)) (Cs_lf (sg_istore_n dX12_type_1 rfl (by decide)))) (Cs_nd (Cs_lf (sg_iload_n dX12_type_2 rfl)) (Cs_lf (sg_aload_n dX12_type_3 rfl)))) (Cs_nd (Cs_nd (Cs_lf (sg_alen dX12_type_4)) (Cs_lf (sg_cge dX12_type_5 (by decide)))) (Cs_nd (Cs_lf (sg_aload_n dX12_type_8 rfl)) (Cs_lf (sg_iload_n dX12_type_9 rfl))))) (Cs_nd (Cs_nd (Cs_nd (Cs_lf (sg_bald dX12_type_10)) (Cs_lf (sg_bipush dX12_type_11 (by decide)))) (Cs_nd (Cs_lf (sg_cne dX12_type_13 (by decide))) (Cs_lf (sg_iinc dX12_type_16 (by decide) (by decide))))) (Cs_nd (Cs_nd (Cs_lf (sg_goto dX12_type_19 (by decide))) (Cs_lf (sg_iload_n dX12_type_22 rfl))) (Cs_nd (Cs_lf (sg_aload_n dX12_type_23 rfl)) (Cs_nd (Cs_lf (sg_alen dX12_type_24)) (Cs_lf (sg_ceq dX12_type_25 (by decide)))))))) (Cs_nd (Cs_nd (Cs_nd (Cs_nd (Cs_lf (sg_iload_n dX12_type_28 rfl)) (Cs_lf (sg_iload_n dX12_type_29 rfl))) (Cs_nd (Cs_lf (sg_isub dX12_type_30)) (Cs_lf (sg_sipush dX12_type_31 (by decide))))) (Cs_nd (Cs_nd (Cs_lf (sg_cle dX12_type_34 (by decide))) (Cs_lf (sg_iconst dX12_type_37 (by decide)))) (Cs_nd (Cs_lf (sg_iret dX12_type_38 rfl)) (Cs_nd (Cs_lf (sg_ldcS dX12_type_39 rfl)) (Cs_lf (sg_aload_n dX12_type_41 rfl)))))) (Cs_nd (Cs_nd (Cs_nd (Cs_lf (sg_iload_n dX12_type_42 rfl)) (Cs_lf (sg_bald dX12_type_43))) (Cs_nd (Cs_lf (sg_invV (mid := 184) (ci := 12) (by decide +kernel) dX12_type_44 ok_184 rfl w_1092 w_1093 w_1094)) (Cs_lf (sg_iflt dX12_type_47 (by decide))))) (Cs_nd (Cs_nd (Cs_lf (sg_iload_n dX12_type_50 rfl)) (Cs_lf (sg_iconst dX12_type_51 (by decide)))) (Cs_nd (Cs_lf (sg_iadd dX12_type_52)) (Cs_nd (Cs_lf (sg_iret dX12_type_53 rfl)) (Cs_lf (sg_aload_n dX12_type_54 rfl)))))))) (Cs_nd (Cs_nd (Cs_nd (Cs_nd (Cs_nd (Cs_lf (sg_iload_n dX12_type_55 rfl)) (Cs_lf (sg_bald dX12_type_56))) (Cs_nd (Cs_lf (sg_bipush dX12_type_57 (by decide))) (Cs_lf (sg_ceq dX12_type_59 (by decide))))) (Cs_nd (Cs_nd (Cs_lf (sg_iconst dX12_type_62 (by decide))) (Cs_lf (sg_iret dX12_type_63 rfl))) (Cs_nd (Cs_lf (sg_iload_n dX12_type_64 rfl)) (Cs_nd (Cs_lf (sg_iconst dX12_type_65 (by decide))) (Cs_lf (sg_iadd dX12_type_66)))))) (Cs_nd (Cs_nd (Cs_nd (Cs_lf (sg_istore_n dX12_type_67 rfl (by decide))) (Cs_lf (sg_iload_n dX12_type_68 rfl))) (Cs_nd (Cs_lf (sg_aload_n dX12_type_69 rfl)) (Cs_lf (sg_alen dX12_type_70)))) (Cs_nd (Cs_nd (Cs_lf (sg_cge dX12_type_71 (by decide))) (Cs_lf (sg_aload_n dX12_type_74 rfl))) (Cs_nd (Cs_lf (sg_iload_n dX12_type_75 rfl)) (Cs_nd (Cs_lf (sg_bald dX12_type_76)) (Cs_lf (sg_bipush dX12_type_77 (by decide)))))))) (Cs_nd (Cs_nd (Cs_nd (Cs_nd (Cs_lf (sg_ceq dX12_type_79 (by decide))) (Cs_lf (sg_iinc dX12_type_82 (by decide) (by decide)))) (Cs_nd (Cs_lf (sg_goto dX12_type_85 (by decide))) (Cs_lf (sg_iload_n dX12_type_88 rfl)))) (Cs_nd (Cs_nd (Cs_lf (sg_aload_n dX12_type_89 rfl)) (Cs_lf (sg_alen dX12_type_90))) (Cs_nd (Cs_lf (sg_ceq dX12_type_91 (by decide))) (Cs_nd (Cs_lf (sg_iload_n dX12_type_94 rfl)) (Cs_lf (sg_iload_n dX12_type_95 rfl)))))) (Cs_nd (Cs_nd (Cs_nd (Cs_lf (sg_iconst dX12_type_96 (by decide))) (Cs_lf (sg_iadd dX12_type_97))) (Cs_nd (Cs_lf (sg_cne dX12_type_98 (by decide))) (Cs_lf (sg_iconst dX12_type_101 (by decide))))) (Cs_nd (Cs_nd (Cs_lf (sg_goto dX12_type_102 (by decide))) (Cs_lf (sg_iload_n dX12_type_105 rfl))) (Cs_nd (Cs_lf (sg_iconst dX12_type_106 (by decide))) (Cs_nd (Cs_lf (sg_iadd dX12_type_107)) (Cs_lf (sg_iret dX12_type_108 rfl)))))))))
theorem dX12_slotsOf_0 : decode cX12_slotsOf 0 = .ok (.aload_n 0, 1) := by decide +kernel
theorem dX12_slotsOf_1 : decode cX12_slotsOf 1 = .ok (.iload_n 1, 1) := by decide +kernel
theorem dX12_slotsOf_2 : decode cX12_slotsOf 2 = .ok (.baload, 1) := by decide +kernel
theorem dX12_slotsOf_3 : decode cX12_slotsOf 3 = .ok (.bipush 74, 2) := by decide +kernel
theorem dX12_slotsOf_5 : decode cX12_slotsOf 5 = .ok (.if_icmp .eq 11, 3) := by decide +kernel
theorem dX12_slotsOf_8 : decode cX12_slotsOf 8 = .ok (.aload_n 0, 1) := by decide +kernel
theorem dX12_slotsOf_9 : decode cX12_slotsOf 9 = .ok (.iload_n 1, 1) := by decide +kernel
theorem dX12_slotsOf_10 : decode cX12_slotsOf 10 = .ok (.baload, 1) := by decide +kernel
theorem dX12_slotsOf_11 : decode cX12_slotsOf 11 = .ok (.bipush 68, 2) := by decide +kernel
theorem dX12_slotsOf_13 : decode cX12_slotsOf 13 = .ok (.if_icmp .ne 7, 3) := by decide +kernel
theorem dX12_slotsOf_16 : decode cX12_slotsOf 16 = .ok (.iconst 2, 1) := by decide +kernel
theorem dX12_slotsOf_17 : decode cX12_slotsOf 17 = .ok (.goto 4, 3) := by decide +kernel
theorem dX12_slotsOf_20 : decode cX12_slotsOf 20 = .ok (.iconst 1, 1) := by decide +kernel
theorem dX12_slotsOf_21 : decode cX12_slotsOf 21 = .ok (.ireturn, 1) := by decide +kernel
set_option maxRecDepth 20000 in
theorem s_MO_slotsOf (E : XE) : Cs E (yX12_slotsOf, cX12_slotsOf, 2, some .int) (k_MO_slotsOf) := (Cs_nd (Cs_nd (Cs_nd (Cs_lf (sg_aload_n dX12_slotsOf_0 rfl)) (Cs_nd (Cs_lf (sg_iload_n dX12_slotsOf_1 rfl)) (Cs_lf (sg_bald dX12_slotsOf_2)))) (Cs_nd (Cs_nd (Cs_lf (sg_bipush dX12_slotsOf_3 (by decide))) (Cs_lf (sg_ceq dX12_slotsOf_5 (by decide)))) (Cs_nd (Cs_lf (sg_aload_n dX12_slotsOf_8 rfl)) (Cs_lf (sg_iload_n dX12_slotsOf_9 rfl))))) (Cs_nd (Cs_nd (Cs_lf (sg_bald dX12_slotsOf_10)) (Cs_nd (Cs_lf (sg_bipush dX12_slotsOf_11 (by decide))) (Cs_lf (sg_cne dX12_slotsOf_13 (by decide))))) (Cs_nd (Cs_nd (Cs_lf (sg_iconst dX12_slotsOf_16 (by decide))) (Cs_lf (sg_goto dX12_slotsOf_17 (by decide)))) (Cs_nd (Cs_lf (sg_iconst dX12_slotsOf_20 (by decide))) (Cs_lf (sg_iret dX12_slotsOf_21 rfl))))))
theorem dX12_isSort_0 : decode cX12_isSort 0 = .ok (.iload_n 1, 1) := by decide +kernel
theorem dX12_isSort_1 : decode cX12_isSort 1 = .ok (.ifCond .ne 19, 3) := by decide +kernel
theorem dX12_isSort_4 : decode cX12_isSort 4 = .ok (.aload_n 0, 1) := by decide +kernel
theorem dX12_isSort_5 : decode cX12_isSort 5 = .ok (.iconst 0, 1) := by decide +kernel
theorem dX12_isSort_6 : decode cX12_isSort 6 = .ok (.invokestatic 162, 3) := by decide +kernel
theorem dX12_isSort_9 : decode cX12_isSort 9 = .ok (.aload_n 0, 1) := by decide +kernel
theorem dX12_isSort_10 : decode cX12_isSort 10 = .ok (.arraylength, 1) := by decide +kernel
theorem dX12_isSort_11 : decode cX12_isSort 11 = .ok (.if_icmp .ne 7, 3) := by decide +kernel
theorem dX12_isSort_14 : decode cX12_isSort 14 = .ok (.iconst 1, 1) := by decide +kernel
theorem dX12_isSort_15 : decode cX12_isSort 15 = .ok (.goto 4, 3) := by decide +kernel
theorem dX12_isSort_18 : decode cX12_isSort 18 = .ok (.iconst 0, 1) := by decide +kernel
theorem dX12_isSort_19 : decode cX12_isSort 19 = .ok (.ireturn, 1) := by decide +kernel
theorem dX12_isSort_20 : decode cX12_isSort 20 = .ok (.aload_n 0, 1) := by decide +kernel
theorem dX12_isSort_21 : decode cX12_isSort 21 = .ok (.arraylength, 1) := by decide +kernel
theorem dX12_isSort_22 : decode cX12_isSort 22 = .ok (.ifCond .eq 11, 3) := by decide +kernel
theorem dX12_isSort_25 : decode cX12_isSort 25 = .ok (.aload_n 0, 1) := by decide +kernel
theorem dX12_isSort_26 : decode cX12_isSort 26 = .ok (.iconst 0, 1) := by decide +kernel
theorem dX12_isSort_27 : decode cX12_isSort 27 = .ok (.baload, 1) := by decide +kernel
theorem dX12_isSort_28 : decode cX12_isSort 28 = .ok (.bipush 40, 2) := by decide +kernel
theorem dX12_isSort_30 : decode cX12_isSort 30 = .ok (.if_icmp .eq 5, 3) := by decide +kernel
theorem dX12_isSort_33 : decode cX12_isSort 33 = .ok (.iconst 0, 1) := by decide +kernel
theorem dX12_isSort_34 : decode cX12_isSort 34 = .ok (.ireturn, 1) := by decide +kernel
theorem dX12_isSort_35 : decode cX12_isSort 35 = .ok (.iconst 1, 1) := by decide +kernel
theorem dX12_isSort_36 : decode cX12_isSort 36 = .ok (.istore_n 2, 1) := by decide +kernel
theorem dX12_isSort_37 : decode cX12_isSort 37 = .ok (.iload_n 2, 1) := by decide +kernel
theorem dX12_isSort_38 : decode cX12_isSort 38 = .ok (.iconst (-1), 1) := by decide +kernel
theorem dX12_isSort_39 : decode cX12_isSort 39 = .ok (.if_icmp .eq 26, 3) := by decide +kernel
theorem dX12_isSort_42 : decode cX12_isSort 42 = .ok (.iload_n 2, 1) := by decide +kernel
theorem dX12_isSort_43 : decode cX12_isSort 43 = .ok (.aload_n 0, 1) := by decide +kernel
theorem dX12_isSort_44 : decode cX12_isSort 44 = .ok (.arraylength, 1) := by decide +kernel
theorem dX12_isSort_45 : decode cX12_isSort 45 = .ok (.if_icmp .ge 20, 3) := by decide +kernel
theorem dX12_isSort_48 : decode cX12_isSort 48 = .ok (.aload_n 0, 1) := by decide +kernel
theorem dX12_isSort_49 : decode cX12_isSort 49 = .ok (.iload_n 2, 1) := by decide +kernel
theorem dX12_isSort_50 : decode cX12_isSort 50 = .ok (.baload, 1) := by decide +kernel
theorem dX12_isSort_51 : decode cX12_isSort 51 = .ok (.bipush 41, 2) := by decide +kernel
theorem dX12_isSort_53 : decode cX12_isSort 53 = .ok (.if_icmp .eq 12, 3) := by decide +kernel
theorem dX12_isSort_56 : decode cX12_isSort 56 = .ok (.aload_n 0, 1) := by decide +kernel
theorem dX12_isSort_57 : decode cX12_isSort 57 = .ok (.iload_n 2, 1) := by decide +kernel
theorem dX12_isSort_58 : decode cX12_isSort 58 = .ok (.invokestatic 162, 3) := by decide +kernel
theorem dX12_isSort_61 : decode cX12_isSort 61 = .ok (.istore_n 2, 1) := by decide +kernel
theorem dX12_isSort_62 : decode cX12_isSort 62 = .ok (.goto (-25), 3) := by decide +kernel
theorem dX12_isSort_65 : decode cX12_isSort 65 = .ok (.iload_n 2, 1) := by decide +kernel
theorem dX12_isSort_66 : decode cX12_isSort 66 = .ok (.iconst (-1), 1) := by decide +kernel
theorem dX12_isSort_67 : decode cX12_isSort 67 = .ok (.if_icmp .eq 9, 3) := by decide +kernel
theorem dX12_isSort_70 : decode cX12_isSort 70 = .ok (.iload_n 2, 1) := by decide +kernel
theorem dX12_isSort_71 : decode cX12_isSort 71 = .ok (.aload_n 0, 1) := by decide +kernel
theorem dX12_isSort_72 : decode cX12_isSort 72 = .ok (.arraylength, 1) := by decide +kernel
theorem dX12_isSort_73 : decode cX12_isSort 73 = .ok (.if_icmp .lt 5, 3) := by decide +kernel
theorem dX12_isSort_76 : decode cX12_isSort 76 = .ok (.iconst 0, 1) := by decide +kernel
theorem dX12_isSort_77 : decode cX12_isSort 77 = .ok (.ireturn, 1) := by decide +kernel
theorem dX12_isSort_78 : decode cX12_isSort 78 = .ok (.iload_n 2, 1) := by decide +kernel
theorem dX12_isSort_79 : decode cX12_isSort 79 = .ok (.iconst 2, 1) := by decide +kernel
theorem dX12_isSort_80 : decode cX12_isSort 80 = .ok (.iadd, 1) := by decide +kernel
theorem dX12_isSort_81 : decode cX12_isSort 81 = .ok (.aload_n 0, 1) := by decide +kernel
theorem dX12_isSort_82 : decode cX12_isSort 82 = .ok (.arraylength, 1) := by decide +kernel
theorem dX12_isSort_83 : decode cX12_isSort 83 = .ok (.if_icmp .ne 17, 3) := by decide +kernel
theorem dX12_isSort_86 : decode cX12_isSort 86 = .ok (.aload_n 0, 1) := by decide +kernel
theorem dX12_isSort_87 : decode cX12_isSort 87 = .ok (.iload_n 2, 1) := by decide +kernel
theorem dX12_isSort_88 : decode cX12_isSort 88 = .ok (.iconst 1, 1) := by decide +kernel
theorem dX12_isSort_89 : decode cX12_isSort 89 = .ok (.iadd, 1) := by decide +kernel
theorem dX12_isSort_90 : decode cX12_isSort 90 = .ok (.baload, 1) := by decide +kernel
theorem dX12_isSort_91 : decode cX12_isSort 91 = .ok (.bipush 86, 2) := by decide +kernel
theorem dX12_isSort_93 : decode cX12_isSort 93 = .ok (.if_icmp .ne 7, 3) := by decide +kernel
theorem dX12_isSort_96 : decode cX12_isSort 96 = .ok (.iconst 1, 1) := by decide +kernel
theorem dX12_isSort_97 : decode cX12_isSort 97 = .ok (.goto 4, 3) := by decide +kernel
theorem dX12_isSort_100 : decode cX12_isSort 100 = .ok (.iconst 0, 1) := by decide +kernel
theorem dX12_isSort_101 : decode cX12_isSort 101 = .ok (.istore_n 3, 1) := by decide +kernel
theorem dX12_isSort_102 : decode cX12_isSort 102 = .ok (.iload_n 3, 1) := by decide +kernel
theorem dX12_isSort_103 : decode cX12_isSort 103 = .ok (.ifCond .ne 15, 3) := by decide +kernel
theorem dX12_isSort_106 : decode cX12_isSort 106 = .ok (.aload_n 0, 1) := by decide +kernel
theorem dX12_isSort_107 : decode cX12_isSort 107 = .ok (.iload_n 2, 1) := by decide +kernel
theorem dX12_isSort_108 : decode cX12_isSort 108 = .ok (.iconst 1, 1) := by decide +kernel
theorem dX12_isSort_109 : decode cX12_isSort 109 = .ok (.iadd, 1) := by decide +kernel
theorem dX12_isSort_110 : decode cX12_isSort 110 = .ok (.invokestatic 162, 3) := by decide +kernel
theorem dX12_isSort_113 : decode cX12_isSort 113 = .ok (.aload_n 0, 1) := by decide +kernel
theorem dX12_isSort_114 : decode cX12_isSort 114 = .ok (.arraylength, 1) := by decide +kernel
theorem dX12_isSort_115 : decode cX12_isSort 115 = .ok (.if_icmp .ne 7, 3) := by decide +kernel
theorem dX12_isSort_118 : decode cX12_isSort 118 = .ok (.iconst 1, 1) := by decide +kernel
theorem dX12_isSort_119 : decode cX12_isSort 119 = .ok (.goto 4, 3) := by decide +kernel
theorem dX12_isSort_122 : decode cX12_isSort 122 = .ok (.iconst 0, 1) := by decide +kernel
theorem dX12_isSort_123 : decode cX12_isSort 123 = .ok (.ireturn, 1) := by decide +kernel
set_option maxRecDepth 20000 in
theorem s_MO_isSort (E : XE) : Cs E (yX12_isSort, cX12_isSort, 4, some .boolean) (k_MO_isSort) := (Cs_nd (Cs_nd (Cs_nd (Cs_nd (Cs_nd (Cs_nd (Cs_lf (sg_iload_n dX12_isSort_0 rfl)) (Cs_lf (sg_ifne dX12_isSort_1 (by decide)))) (Cs_nd (Cs_lf (sg_aload_n dX12_isSort_4 rfl)) (Cs_nd (Cs_lf (sg_iconst dX12_isSort_5 (by decide))) (Cs_lf (sg_inv (mid := 138) (by decide +kernel) dX12_isSort_6 ok_138 w_1088 w_1089))))) (Cs_nd (Cs_nd (Cs_lf (sg_aload_n dX12_isSort_9 rfl)) (Cs_lf (sg_alen dX12_isSort_10))) (Cs_nd (Cs_lf (sg_cne dX12_isSort_11 (by decide))) (Cs_nd (Cs_lf (sg_iconst dX12_isSort_14 (by decide))) (Cs_lf (sg_goto dX12_isSort_15 (by decide))))))) (Cs_nd (Cs_nd (Cs_nd (Cs_lf (sg_iconst dX12_isSort_18 (by decide))) (Cs_lf (sg_zret dX12_isSort_19 rfl ⟨by decide, by decide⟩))) (Cs_nd (Cs_lf (sg_aload_n dX12_isSort_20 rfl)) (Cs_nd (Cs_lf (sg_alen dX12_isSort_21)) (Cs_lf (sg_ifeq dX12_isSort_22 (by decide)))))) (Cs_nd (Cs_nd (Cs_lf (sg_aload_n dX12_isSort_25 rfl)) (Cs_lf (sg_iconst dX12_isSort_26 (by decide)))) (Cs_nd (Cs_lf (sg_bald dX12_isSort_27)) (Cs_nd (Cs_lf (sg_bipush dX12_isSort_28 (by decide))) (Cs_lf (sg_ceq dX12_isSort_30 (by decide)))))))) (Cs_nd (Cs_nd (Cs_nd (Cs_nd (Cs_lf (sg_iconst dX12_isSort_33 (by decide))) (Cs_lf (sg_zret dX12_isSort_34 rfl ⟨by decide, by decide⟩))) (Cs_nd (Cs_lf (sg_iconst dX12_isSort_35 (by decide))) (Cs_nd (Cs_lf (sg_istore_n dX12_isSort_36 rfl (by decide))) (Cs_lf (sg_iload_n dX12_isSort_37 rfl))))) (Cs_nd (Cs_nd (Cs_lf (sg_iconst dX12_isSort_38 (by decide))) (Cs_lf (sg_ceq dX12_isSort_39 (by decide)))) (Cs_nd (Cs_lf (sg_iload_n dX12_isSort_42 rfl)) (Cs_nd (Cs_lf (sg_aload_n dX12_isSort_43 rfl)) (Cs_lf (sg_alen dX12_isSort_44)))))) (Cs_nd (Cs_nd (Cs_nd (Cs_lf (sg_cge dX12_isSort_45 (by decide))) (Cs_lf (sg_aload_n dX12_isSort_48 rfl))) (Cs_nd (Cs_lf (sg_iload_n dX12_isSort_49 rfl)) (Cs_nd (Cs_lf (sg_bald dX12_isSort_50)) (Cs_lf (sg_bipush dX12_isSort_51 (by decide)))))) (Cs_nd (Cs_nd (Cs_lf (sg_ceq dX12_isSort_53 (by decide))) (Cs_lf (sg_aload_n dX12_isSort_56 rfl))) (Cs_nd (Cs_lf (sg_iload_n dX12_isSort_57 rfl)) (Cs_nd (Cs_lf (sg_inv (mid := 138) (by decide +kernel) dX12_isSort_58 ok_138 w_1088 w_1089)) (Cs_lf (sg_istore_n dX12_isSort_61 rfl (by decide))))))))) (Cs_nd (Cs_nd (Cs_nd (Cs_nd (Cs_nd (Cs_lf (sg_goto dX12_isSort_62 (by decide))) (Cs_lf (sg_iload_n dX12_isSort_65 rfl))) (Cs_nd (Cs_lf (sg_iconst dX12_isSort_66 (by decide))) (Cs_nd (Cs_lf (sg_ceq dX12_isSort_67 (by decide))) (Cs_lf (sg_iload_n dX12_isSort_70 rfl))))) (Cs_nd (Cs_nd (Cs_lf (sg_aload_n dX12_isSort_71 rfl)) (Cs_lf (sg_alen dX12_isSort_72))) (Cs_nd (Cs_lf (sg_clt dX12_isSort_73 (by decide))) (Cs_nd (Cs_lf (sg_iconst dX12_isSort_76 (by decide))) (Cs_lf (sg_zret dX12_isSort_77 rfl ⟨by decide, by decide⟩)))))) (Cs_nd (Cs_nd (Cs_nd (Cs_lf (sg_iload_n dX12_isSort_78 rfl)) (Cs_lf (sg_iconst dX12_isSort_79 (by decide)))) (Cs_nd (Cs_lf (sg_iadd dX12_isSort_80)) (Cs_nd (Cs_lf (sg_aload_n dX12_isSort_81 rfl)) (Cs_lf (sg_alen dX12_isSort_82))))) (Cs_nd (Cs_nd (Cs_lf (sg_cne dX12_isSort_83 (by decide))) (Cs_lf (sg_aload_n dX12_isSort_86 rfl))) (Cs_nd (Cs_lf (sg_iload_n dX12_isSort_87 rfl)) (Cs_nd (Cs_lf (sg_iconst dX12_isSort_88 (by decide))) (Cs_lf (sg_iadd dX12_isSort_89))))))) (Cs_nd (Cs_nd (Cs_nd (Cs_nd (Cs_lf (sg_bald dX12_isSort_90)) (Cs_lf (sg_bipush dX12_isSort_91 (by decide)))) (Cs_nd (Cs_lf (sg_cne dX12_isSort_93 (by decide))) (Cs_nd (Cs_lf (sg_iconst dX12_isSort_96 (by decide))) (Cs_lf (sg_goto dX12_isSort_97 (by decide)))))) (Cs_nd (Cs_nd (Cs_lf (sg_iconst dX12_isSort_100 (by decide))) (Cs_lf (sg_istore_n dX12_isSort_101 rfl (by decide)))) (Cs_nd (Cs_lf (sg_iload_n dX12_isSort_102 rfl)) (Cs_nd (Cs_lf (sg_ifne dX12_isSort_103 (by decide))) (Cs_lf (sg_aload_n dX12_isSort_106 rfl)))))) (Cs_nd (Cs_nd (Cs_nd (Cs_lf (sg_iload_n dX12_isSort_107 rfl)) (Cs_lf (sg_iconst dX12_isSort_108 (by decide)))) (Cs_nd (Cs_lf (sg_iadd dX12_isSort_109)) (Cs_nd (Cs_lf (sg_inv (mid := 138) (by decide +kernel) dX12_isSort_110 ok_138 w_1088 w_1089)) (Cs_lf (sg_aload_n dX12_isSort_113 rfl))))) (Cs_nd (Cs_nd (Cs_lf (sg_alen dX12_isSort_114)) (Cs_nd (Cs_lf (sg_cne dX12_isSort_115 (by decide))) (Cs_lf (sg_iconst dX12_isSort_118 (by decide))))) (Cs_nd (Cs_lf (sg_goto dX12_isSort_119 (by decide))) (Cs_nd (Cs_lf (sg_iconst dX12_isSort_122 (by decide))) (Cs_lf (sg_zret dX12_isSort_123 rfl ⟨by decide, by decide⟩)))))))))
theorem dX12_sortOf_0 : decode cX12_sortOf 0 = .ok (.aload_n 1, 1) := by decide +kernel
theorem dX12_sortOf_1 : decode cX12_sortOf 1 = .ok (.getfield 130, 3) := by decide +kernel
theorem dX12_sortOf_4 : decode cX12_sortOf 4 = .ok (.aload_n 1, 1) := by decide +kernel
theorem dX12_sortOf_5 : decode cX12_sortOf 5 = .ok (.aload_n 1, 1) := by decide +kernel
theorem dX12_sortOf_6 : decode cX12_sortOf 6 = .ok (.getfield 110, 3) := by decide +kernel
theorem dX12_sortOf_9 : decode cX12_sortOf 9 = .ok (.iload_n 2, 1) := by decide +kernel
theorem dX12_sortOf_10 : decode cX12_sortOf 10 = .ok (.aaload, 1) := by decide +kernel
theorem dX12_sortOf_11 : decode cX12_sortOf 11 = .ok (.iload_n 3, 1) := by decide +kernel
theorem dX12_sortOf_12 : decode cX12_sortOf 12 = .ok (.aaload, 1) := by decide +kernel
theorem dX12_sortOf_13 : decode cX12_sortOf 13 = .ok (.getfield 102, 3) := by decide +kernel
theorem dX12_sortOf_16 : decode cX12_sortOf 16 = .ok (.iconst 4, 1) := by decide +kernel
theorem dX12_sortOf_17 : decode cX12_sortOf 17 = .ok (.iadd, 1) := by decide +kernel
theorem dX12_sortOf_18 : decode cX12_sortOf 18 = .ok (.invokevirtual 73, 3) := by decide +kernel
theorem dX12_sortOf_21 : decode cX12_sortOf 21 = .ok (.aaload, 1) := by decide +kernel
theorem dX12_sortOf_22 : decode cX12_sortOf 22 = .ok (.areturn, 1) := by decide +kernel
set_option maxRecDepth 20000 in
theorem s_MO_sortOf (E : XE) : Cs E (yX12_sortOf, cX12_sortOf, 4, some (.array .byte)) (k_MO_sortOf) := (Cs_nd (Cs_nd (Cs_nd (Cs_lf (sg_aload_n dX12_sortOf_0 rfl)) (Cs_nd (Cs_lf (sg_getf dX12_sortOf_1 rfl inX9 (by decide) w_969)) (Cs_lf (sg_aload_n dX12_sortOf_4 rfl)))) (Cs_nd (Cs_nd (Cs_lf (sg_aload_n dX12_sortOf_5 rfl)) (Cs_lf (sg_getf dX12_sortOf_6 rfl inX9 (by decide) w_973))) (Cs_nd (Cs_lf (sg_iload_n dX12_sortOf_9 rfl)) (Cs_lf (sg_aald dX12_sortOf_10))))) (Cs_nd (Cs_nd (Cs_nd (Cs_lf (sg_iload_n dX12_sortOf_11 rfl)) (Cs_lf (sg_aald dX12_sortOf_12))) (Cs_nd (Cs_lf (sg_getf dX12_sortOf_13 rfl inX11 (by decide) w_1036)) (Cs_lf (sg_iconst dX12_sortOf_16 (by decide))))) (Cs_nd (Cs_nd (Cs_lf (sg_iadd dX12_sortOf_17)) (Cs_lf (sg_invV (mid := 114) (ci := 8) (by decide +kernel) dX12_sortOf_18 ok_114 rfl w_1018 w_1019 w_1020))) (Cs_nd (Cs_lf (sg_aald dX12_sortOf_21)) (Cs_lf (sg_aret dX12_sortOf_22 rfl (Or.inr ⟨_, rfl⟩)))))))
theorem dX12_read_0 : decode cX12_read 0 = .ok (.aload_n 0, 1) := by decide +kernel
theorem dX12_read_1 : decode cX12_read 1 = .ok (.iconst 0, 1) := by decide +kernel
theorem dX12_read_2 : decode cX12_read 2 = .ok (.putfield 39, 3) := by decide +kernel
theorem dX12_read_5 : decode cX12_read 5 = .ok (.aload_n 0, 1) := by decide +kernel
theorem dX12_read_6 : decode cX12_read 6 = .ok (.getfield 42, 3) := by decide +kernel
theorem dX12_read_9 : decode cX12_read 9 = .ok (.bipush 6, 2) := by decide +kernel
theorem dX12_read_11 : decode cX12_read 11 = .ok (.if_icmp .ne 6, 3) := by decide +kernel
theorem dX12_read_14 : decode cX12_read 14 = .ok (.bipush (-3), 2) := by decide +kernel
theorem dX12_read_16 : decode cX12_read 16 = .ok (.ireturn, 1) := by decide +kernel
theorem dX12_read_17 : decode cX12_read 17 = .ok (.aload_n 0, 1) := by decide +kernel
theorem dX12_read_18 : decode cX12_read 18 = .ok (.new 9, 3) := by decide +kernel
theorem dX12_read_21 : decode cX12_read 21 = .ok (.dup, 1) := by decide +kernel
theorem dX12_read_22 : decode cX12_read 22 = .ok (.invokespecial 166, 3) := by decide +kernel
theorem dX12_read_25 : decode cX12_read 25 = .ok (.putfield 55, 3) := by decide +kernel
theorem dX12_read_28 : decode cX12_read 28 = .ok (.aload_n 0, 1) := by decide +kernel
theorem dX12_read_29 : decode cX12_read 29 = .ok (.getfield 55, 3) := by decide +kernel
theorem dX12_read_32 : decode cX12_read 32 = .ok (.aload_n 0, 1) := by decide +kernel
theorem dX12_read_33 : decode cX12_read 33 = .ok (.getfield 15, 3) := by decide +kernel
theorem dX12_read_36 : decode cX12_read 36 = .ok (.iconst 0, 1) := by decide +kernel
theorem dX12_read_37 : decode cX12_read 37 = .ok (.aload_n 0, 1) := by decide +kernel
theorem dX12_read_38 : decode cX12_read 38 = .ok (.getfield 49, 3) := by decide +kernel
theorem dX12_read_41 : decode cX12_read 41 = .ok (.invokestatic 134, 3) := by decide +kernel
theorem dX12_read_44 : decode cX12_read 44 = .ok (.putfield 59, 3) := by decide +kernel
theorem dX12_read_47 : decode cX12_read 47 = .ok (.aload_n 0, 1) := by decide +kernel
theorem dX12_read_48 : decode cX12_read 48 = .ok (.iconst 0, 1) := by decide +kernel
theorem dX12_read_49 : decode cX12_read 49 = .ok (.putfield 49, 3) := by decide +kernel
theorem dX12_read_52 : decode cX12_read 52 = .ok (.aload_n 0, 1) := by decide +kernel
theorem dX12_read_53 : decode cX12_read 53 = .ok (.iconst 0, 1) := by decide +kernel
theorem dX12_read_54 : decode cX12_read 54 = .ok (.putfield 62, 3) := by decide +kernel
theorem dX12_read_57 : decode cX12_read 57 = .ok (.aload_n 0, 1) := by decide +kernel
theorem dX12_read_58 : decode cX12_read 58 = .ok (.iconst 0, 1) := by decide +kernel
theorem dX12_read_59 : decode cX12_read 59 = .ok (.putfield 52, 3) := by decide +kernel
theorem dX12_read_62 : decode cX12_read 62 = .ok (.aload_n 0, 1) := by decide +kernel
theorem dX12_read_63 : decode cX12_read 63 = .ok (.iconst (-1), 1) := by decide +kernel
theorem dX12_read_64 : decode cX12_read 64 = .ok (.putfield 22, 3) := by decide +kernel
theorem dX12_read_67 : decode cX12_read 67 = .ok (.aload_n 0, 1) := by decide +kernel
theorem dX12_read_68 : decode cX12_read 68 = .ok (.invokevirtual 167, 3) := by decide +kernel
theorem dX12_read_71 : decode cX12_read 71 = .ok (.aload_n 0, 1) := by decide +kernel
theorem dX12_read_72 : decode cX12_read 72 = .ok (.getfield 52, 3) := by decide +kernel
theorem dX12_read_75 : decode cX12_read 75 = .ok (.ifCond .ne 7, 3) := by decide +kernel
theorem dX12_read_78 : decode cX12_read 78 = .ok (.aload_n 0, 1) := by decide +kernel
theorem dX12_read_79 : decode cX12_read 79 = .ok (.invokevirtual 170, 3) := by decide +kernel
theorem dX12_read_82 : decode cX12_read 82 = .ok (.iconst 0, 1) := by decide +kernel
theorem dX12_read_83 : decode cX12_read 83 = .ok (.istore_n 1, 1) := by decide +kernel
theorem dX12_read_84 : decode cX12_read 84 = .ok (.iload_n 1, 1) := by decide +kernel
theorem dX12_read_85 : decode cX12_read 85 = .ok (.iconst 2, 1) := by decide +kernel
theorem dX12_read_86 : decode cX12_read 86 = .ok (.if_icmp .ge 76, 3) := by decide +kernel
theorem dX12_read_89 : decode cX12_read 89 = .ok (.aload_n 0, 1) := by decide +kernel
theorem dX12_read_90 : decode cX12_read 90 = .ok (.getfield 52, 3) := by decide +kernel
theorem dX12_read_93 : decode cX12_read 93 = .ok (.ifCond .ne 69, 3) := by decide +kernel
theorem dX12_read_96 : decode cX12_read 96 = .ok (.iconst 0, 1) := by decide +kernel
theorem dX12_read_97 : decode cX12_read 97 = .ok (.istore_n 2, 1) := by decide +kernel
theorem dX12_read_98 : decode cX12_read 98 = .ok (.iload_n 2, 1) := by decide +kernel
theorem dX12_read_99 : decode cX12_read 99 = .ok (.aload_n 0, 1) := by decide +kernel
theorem dX12_read_100 : decode cX12_read 100 = .ok (.getfield 55, 3) := by decide +kernel
theorem dX12_read_103 : decode cX12_read 103 = .ok (.getfield 96, 3) := by decide +kernel
theorem dX12_read_106 : decode cX12_read 106 = .ok (.iload_n 1, 1) := by decide +kernel
theorem dX12_read_107 : decode cX12_read 107 = .ok (.iaload, 1) := by decide +kernel
theorem dX12_read_108 : decode cX12_read 108 = .ok (.if_icmp .ge 48, 3) := by decide +kernel
theorem dX12_read_111 : decode cX12_read 111 = .ok (.aload_n 0, 1) := by decide +kernel
theorem dX12_read_112 : decode cX12_read 112 = .ok (.aload_n 0, 1) := by decide +kernel
theorem dX12_read_113 : decode cX12_read 113 = .ok (.getfield 55, 3) := by decide +kernel
theorem dX12_read_116 : decode cX12_read 116 = .ok (.iload_n 1, 1) := by decide +kernel
theorem dX12_read_117 : decode cX12_read 117 = .ok (.iload_n 2, 1) := by decide +kernel
theorem dX12_read_118 : decode cX12_read 118 = .ok (.invokevirtual 172, 3) := by decide +kernel
theorem dX12_read_121 : decode cX12_read 121 = .ok (.iload_n 1, 1) := by decide +kernel
theorem dX12_read_122 : decode cX12_read 122 = .ok (.invokestatic 176, 3) := by decide +kernel
theorem dX12_read_125 : decode cX12_read 125 = .ok (.ifCond .ne 25, 3) := by decide +kernel
theorem dX12_read_128 : decode cX12_read 128 = .ok (.aload_n 0, 1) := by decide +kernel
theorem dX12_read_129 : decode cX12_read 129 = .ok (.bipush 10, 2) := by decide +kernel
theorem dX12_read_131 : decode cX12_read 131 = .ok (.aload_n 0, 1) := by decide +kernel
theorem dX12_read_132 : decode cX12_read 132 = .ok (.getfield 55, 3) := by decide +kernel
theorem dX12_read_135 : decode cX12_read 135 = .ok (.getfield 110, 3) := by decide +kernel
theorem dX12_read_138 : decode cX12_read 138 = .ok (.iload_n 1, 1) := by decide +kernel
theorem dX12_read_139 : decode cX12_read 139 = .ok (.aaload, 1) := by decide +kernel
theorem dX12_read_140 : decode cX12_read 140 = .ok (.iload_n 2, 1) := by decide +kernel
theorem dX12_read_141 : decode cX12_read 141 = .ok (.aaload, 1) := by decide +kernel
theorem dX12_read_142 : decode cX12_read 142 = .ok (.getfield 102, 3) := by decide +kernel
theorem dX12_read_145 : decode cX12_read 145 = .ok (.iconst 4, 1) := by decide +kernel
theorem dX12_read_146 : decode cX12_read 146 = .ok (.iadd, 1) := by decide +kernel
theorem dX12_read_147 : decode cX12_read 147 = .ok (.invokevirtual 65, 3) := by decide +kernel
theorem dX12_read_150 : decode cX12_read 150 = .ok (.iinc 2 1, 3) := by decide +kernel
theorem dX12_read_153 : decode cX12_read 153 = .ok (.goto (-55), 3) := by decide +kernel
theorem dX12_read_156 : decode cX12_read 156 = .ok (.iinc 1 1, 3) := by decide +kernel
theorem dX12_read_159 : decode cX12_read 159 = .ok (.goto (-75), 3) := by decide +kernel
theorem dX12_read_162 : decode cX12_read 162 = .ok (.aload_n 0, 1) := by decide +kernel
theorem dX12_read_163 : decode cX12_read 163 = .ok (.getfield 52, 3) := by decide +kernel
theorem dX12_read_166 : decode cX12_read 166 = .ok (.ifCond .le 11, 3) := by decide +kernel
theorem dX12_read_169 : decode cX12_read 169 = .ok (.bipush (-20), 2) := by decide +kernel
theorem dX12_read_171 : decode cX12_read 171 = .ok (.aload_n 0, 1) := by decide +kernel
theorem dX12_read_172 : decode cX12_read 172 = .ok (.getfield 52, 3) := by decide +kernel
theorem dX12_read_175 : decode cX12_read 175 = .ok (.isub, 1) := by decide +kernel
theorem dX12_read_176 : decode cX12_read 176 = .ok (.ireturn, 1) := by decide +kernel
theorem dX12_read_177 : decode cX12_read 177 = .ok (.aload_n 0, 1) := by decide +kernel
theorem dX12_read_178 : decode cX12_read 178 = .ok (.getfield 11, 3) := by decide +kernel
theorem dX12_read_181 : decode cX12_read 181 = .ok (.aload_n 0, 1) := by decide +kernel
theorem dX12_read_182 : decode cX12_read 182 = .ok (.getfield 42, 3) := by decide +kernel
theorem dX12_read_185 : decode cX12_read 185 = .ok (.aload_n 0, 1) := by decide +kernel
theorem dX12_read_186 : decode cX12_read 186 = .ok (.getfield 55, 3) := by decide +kernel
theorem dX12_read_189 : decode cX12_read 189 = .ok (.aastore, 1) := by decide +kernel
theorem dX12_read_190 : decode cX12_read 190 = .ok (.aload_n 0, 1) := by decide +kernel
theorem dX12_read_191 : decode cX12_read 191 = .ok (.dup, 1) := by decide +kernel
theorem dX12_read_192 : decode cX12_read 192 = .ok (.getfield 42, 3) := by decide +kernel
theorem dX12_read_195 : decode cX12_read 195 = .ok (.iconst 1, 1) := by decide +kernel
theorem dX12_read_196 : decode cX12_read 196 = .ok (.iadd, 1) := by decide +kernel
theorem dX12_read_197 : decode cX12_read 197 = .ok (.putfield 42, 3) := by decide +kernel
theorem dX12_read_200 : decode cX12_read 200 = .ok (.aload_n 0, 1) := by decide +kernel
theorem dX12_read_201 : decode cX12_read 201 = .ok (.getfield 42, 3) := by decide +kernel
theorem dX12_read_204 : decode cX12_read 204 = .ok (.iconst 1, 1) := by decide +kernel
theorem dX12_read_205 : decode cX12_read 205 = .ok (.isub, 1) := by decide +kernel
theorem dX12_read_206 : decode cX12_read 206 = .ok (.ireturn, 1) := by decide +kernel
set_option maxRecDepth 20000 in
theorem s_MO_read (E : XE) : Cs E (yX12_read, cX12_read, 3, some .int) (k_MO_read) := (Cs_nd (Cs_nd (Cs_nd (Cs_nd (Cs_nd (Cs_nd (Cs_lf (sg_aload_n dX12_read_0 rfl)) (Cs_nd (Cs_lf (sg_iconst dX12_read_1 (by decide))) (Cs_lf (sg_putf dX12_read_2 rfl inX12 tyX12_ok nmX12 (by decide) w_883 rfl (tyX12_ok 0 (by decide)) ok_int)))) (Cs_nd (Cs_lf (sg_aload_n dX12_read_5 rfl)) (Cs_nd (Cs_lf (sg_getf dX12_read_6 rfl inX12 (by decide) w_885)) (Cs_lf (sg_bipush dX12_read_9 (by decide)))))) (Cs_nd (Cs_nd (Cs_lf (sg_cne dX12_read_11 (by decide))) (Cs_nd (Cs_lf (sg_bipush dX12_read_14 (by decide))) (Cs_lf (sg_iret dX12_read_16 rfl)))) (Cs_nd (Cs_nd (Cs_lf (sg_aload_n dX12_read_17 rfl)) (Cs_lf (sg_new dX12_read_18 rfl inX9 tyX9_ok (by decide) w_879 w_950 w_12))) (Cs_nd (Cs_lf (sg_dup dX12_read_21)) (Cs_lf (sg_invIN (mid := 113) (by decide +kernel) dX12_read_22 ok_113 rfl rfl (host := RX12) (by decide +kernel) w_952)))))) (Cs_nd (Cs_nd (Cs_nd (Cs_lf (sg_putf dX12_read_25 rfl inX12 tyX12_ok nmX12 (by decide) w_889 rfl (tyX12_ok 6 (by decide)) (ok_obj _))) (Cs_nd (Cs_lf (sg_aload_n dX12_read_28 rfl)) (Cs_lf (sg_getf dX12_read_29 rfl inX12 (by decide) w_889)))) (Cs_nd (Cs_nd (Cs_lf (sg_aload_n dX12_read_32 rfl)) (Cs_lf (sg_getf dX12_read_33 rfl inX12 (by decide) w_886))) (Cs_nd (Cs_lf (sg_iconst dX12_read_36 (by decide))) (Cs_lf (sg_aload_n dX12_read_37 rfl))))) (Cs_nd (Cs_nd (Cs_lf (sg_getf dX12_read_38 rfl inX12 (by decide) w_887)) (Cs_nd (Cs_lf (sg_inv (mid := 133) (by decide +kernel) dX12_read_41 ok_133 w_998 w_999)) (Cs_lf (sg_putf dX12_read_44 rfl inX9 tyX9_ok nmX9 (by decide) w_962 rfl (tyX9_ok 0 (by decide)) (ok_arr _))))) (Cs_nd (Cs_nd (Cs_lf (sg_aload_n dX12_read_47 rfl)) (Cs_lf (sg_iconst dX12_read_48 (by decide)))) (Cs_nd (Cs_lf (sg_putf dX12_read_49 rfl inX12 tyX12_ok nmX12 (by decide) w_887 rfl (tyX12_ok 4 (by decide)) ok_int)) (Cs_lf (sg_aload_n dX12_read_52 rfl))))))) (Cs_nd (Cs_nd (Cs_nd (Cs_nd (Cs_lf (sg_iconst dX12_read_53 (by decide))) (Cs_nd (Cs_lf (sg_putf dX12_read_54 rfl inX12 tyX12_ok nmX12 (by decide) w_890 rfl (tyX12_ok 7 (by decide)) ok_int)) (Cs_lf (sg_aload_n dX12_read_57 rfl)))) (Cs_nd (Cs_nd (Cs_lf (sg_iconst dX12_read_58 (by decide))) (Cs_lf (sg_putf dX12_read_59 rfl inX12 tyX12_ok nmX12 (by decide) w_891 rfl (tyX12_ok 8 (by decide)) ok_int))) (Cs_nd (Cs_lf (sg_aload_n dX12_read_62 rfl)) (Cs_lf (sg_iconst dX12_read_63 (by decide)))))) (Cs_nd (Cs_nd (Cs_lf (sg_putf dX12_read_64 rfl inX12 tyX12_ok nmX12 (by decide) w_892 rfl (tyX12_ok 9 (by decide)) ok_int)) (Cs_nd (Cs_lf (sg_aload_n dX12_read_67 rfl)) (Cs_lf (sg_invV (mid := 130) (ci := 11) (by decide +kernel) dX12_read_68 ok_130 rfl w_1002 w_1004 ws_26)))) (Cs_nd (Cs_nd (Cs_lf (sg_aload_n dX12_read_71 rfl)) (Cs_lf (sg_getf dX12_read_72 rfl inX12 (by decide) w_891))) (Cs_nd (Cs_lf (sg_ifne dX12_read_75 (by decide))) (Cs_lf (sg_aload_n dX12_read_78 rfl)))))) (Cs_nd (Cs_nd (Cs_nd (Cs_lf (sg_invV (mid := 137) (ci := 11) (by decide +kernel) dX12_read_79 ok_137 rfl w_1066 w_1068 ws_33)) (Cs_nd (Cs_lf (sg_iconst dX12_read_82 (by decide))) (Cs_lf (sg_istore_n dX12_read_83 rfl (by decide))))) (Cs_nd (Cs_nd (Cs_lf (sg_iload_n dX12_read_84 rfl)) (Cs_lf (sg_iconst dX12_read_85 (by decide)))) (Cs_nd (Cs_lf (sg_cge dX12_read_86 (by decide))) (Cs_lf (sg_aload_n dX12_read_89 rfl))))) (Cs_nd (Cs_nd (Cs_lf (sg_getf dX12_read_90 rfl inX12 (by decide) w_891)) (Cs_nd (Cs_lf (sg_ifne dX12_read_93 (by decide))) (Cs_lf (sg_iconst dX12_read_96 (by decide))))) (Cs_nd (Cs_nd (Cs_lf (sg_istore_n dX12_read_97 rfl (by decide))) (Cs_lf (sg_iload_n dX12_read_98 rfl))) (Cs_nd (Cs_lf (sg_aload_n dX12_read_99 rfl)) (Cs_lf (sg_getf dX12_read_100 rfl inX12 (by decide) w_889)))))))) (Cs_nd (Cs_nd (Cs_nd (Cs_nd (Cs_nd (Cs_lf (sg_getf dX12_read_103 rfl inX9 (by decide) w_975)) (Cs_nd (Cs_lf (sg_iload_n dX12_read_106 rfl)) (Cs_lf (sg_iald dX12_read_107)))) (Cs_nd (Cs_nd (Cs_lf (sg_cge dX12_read_108 (by decide))) (Cs_lf (sg_aload_n dX12_read_111 rfl))) (Cs_nd (Cs_lf (sg_aload_n dX12_read_112 rfl)) (Cs_lf (sg_getf dX12_read_113 rfl inX12 (by decide) w_889))))) (Cs_nd (Cs_nd (Cs_lf (sg_iload_n dX12_read_116 rfl)) (Cs_nd (Cs_lf (sg_iload_n dX12_read_117 rfl)) (Cs_lf (sg_invV (mid := 141) (ci := 11) (by decide +kernel) dX12_read_118 ok_141 rfl w_1081 w_1083 ws_36)))) (Cs_nd (Cs_nd (Cs_lf (sg_iload_n dX12_read_121 rfl)) (Cs_lf (sg_inv (mid := 140) (by decide +kernel) dX12_read_122 ok_140 w_1085 w_1086))) (Cs_nd (Cs_lf (sg_ifne dX12_read_125 (by decide))) (Cs_lf (sg_aload_n dX12_read_128 rfl)))))) (Cs_nd (Cs_nd (Cs_nd (Cs_lf (sg_bipush dX12_read_129 (by decide))) (Cs_nd (Cs_lf (sg_aload_n dX12_read_131 rfl)) (Cs_lf (sg_getf dX12_read_132 rfl inX12 (by decide) w_889)))) (Cs_nd (Cs_nd (Cs_lf (sg_getf dX12_read_135 rfl inX9 (by decide) w_973)) (Cs_lf (sg_iload_n dX12_read_138 rfl))) (Cs_nd (Cs_lf (sg_aald dX12_read_139)) (Cs_lf (sg_iload_n dX12_read_140 rfl))))) (Cs_nd (Cs_nd (Cs_lf (sg_aald dX12_read_141)) (Cs_nd (Cs_lf (sg_getf dX12_read_142 rfl inX11 (by decide) w_1036)) (Cs_lf (sg_iconst dX12_read_145 (by decide))))) (Cs_nd (Cs_nd (Cs_lf (sg_iadd dX12_read_146)) (Cs_lf (sg_invV (mid := 126) (ci := 11) (by decide +kernel) dX12_read_147 ok_126 rfl w_1010 w_1012 ws_28))) (Cs_nd (Cs_lf (sg_iinc dX12_read_150 (by decide) (by decide))) (Cs_lf (sg_goto dX12_read_153 (by decide)))))))) (Cs_nd (Cs_nd (Cs_nd (Cs_nd (Cs_lf (sg_iinc dX12_read_156 (by decide) (by decide))) (Cs_nd (Cs_lf (sg_goto dX12_read_159 (by decide))) (Cs_lf (sg_aload_n dX12_read_162 rfl)))) (Cs_nd (Cs_nd (Cs_lf (sg_getf dX12_read_163 rfl inX12 (by decide) w_891)) (Cs_lf (sg_ifle dX12_read_166 (by decide)))) (Cs_nd (Cs_lf (sg_bipush dX12_read_169 (by decide))) (Cs_lf (sg_aload_n dX12_read_171 rfl))))) (Cs_nd (Cs_nd (Cs_lf (sg_getf dX12_read_172 rfl inX12 (by decide) w_891)) (Cs_nd (Cs_lf (sg_isub dX12_read_175)) (Cs_lf (sg_iret dX12_read_176 rfl)))) (Cs_nd (Cs_nd (Cs_lf (sg_aload_n dX12_read_177 rfl)) (Cs_lf (sg_getf dX12_read_178 rfl inX12 (by decide) w_884))) (Cs_nd (Cs_lf (sg_aload_n dX12_read_181 rfl)) (Cs_lf (sg_getf dX12_read_182 rfl inX12 (by decide) w_885)))))) (Cs_nd (Cs_nd (Cs_nd (Cs_lf (sg_aload_n dX12_read_185 rfl)) (Cs_nd (Cs_lf (sg_getf dX12_read_186 rfl inX12 (by decide) w_889)) (Cs_lf (sg_aast (kd := 7) (ci := 8) (fun _ => rfl) rfl dX12_read_189)))) (Cs_nd (Cs_nd (Cs_lf (sg_aload_n dX12_read_190 rfl)) (Cs_lf (sg_dup dX12_read_191))) (Cs_nd (Cs_lf (sg_getf dX12_read_192 rfl inX12 (by decide) w_885)) (Cs_lf (sg_iconst dX12_read_195 (by decide)))))) (Cs_nd (Cs_nd (Cs_lf (sg_iadd dX12_read_196)) (Cs_nd (Cs_lf (sg_putf dX12_read_197 rfl inX12 tyX12_ok nmX12 (by decide) w_885 rfl (tyX12_ok 2 (by decide)) ok_int)) (Cs_lf (sg_aload_n dX12_read_200 rfl)))) (Cs_nd (Cs_nd (Cs_lf (sg_getf dX12_read_201 rfl inX12 (by decide) w_885)) (Cs_lf (sg_iconst dX12_read_204 (by decide)))) (Cs_nd (Cs_lf (sg_isub dX12_read_205)) (Cs_lf (sg_iret dX12_read_206 rfl)))))))))
theorem dX12_place__0 : decode cX12_place_ 0 = .ok (.aload_n 0, 1) := by decide +kernel
theorem dX12_place__1 : decode cX12_place_ 1 = .ok (.iconst 0, 1) := by decide +kernel
theorem dX12_place__2 : decode cX12_place_ 2 = .ok (.putfield 39, 3) := by decide +kernel
theorem dX12_place__5 : decode cX12_place_ 5 = .ok (.aload_n 0, 1) := by decide +kernel
theorem dX12_place__6 : decode cX12_place_ 6 = .ok (.getfield 22, 3) := by decide +kernel
theorem dX12_place__9 : decode cX12_place_ 9 = .ok (.ireturn, 1) := by decide +kernel
set_option maxRecDepth 20000 in
theorem s_MO_place_ (E : XE) : Cs E (yX12_place_, cX12_place_, 1, some .int) (k_MO_place_) := (Cs_nd (Cs_nd (Cs_lf (sg_aload_n dX12_place__0 rfl)) (Cs_nd (Cs_lf (sg_iconst dX12_place__1 (by decide))) (Cs_lf (sg_putf dX12_place__2 rfl inX12 tyX12_ok nmX12 (by decide) w_883 rfl (tyX12_ok 0 (by decide)) ok_int)))) (Cs_nd (Cs_lf (sg_aload_n dX12_place__5 rfl)) (Cs_nd (Cs_lf (sg_getf dX12_place__6 rfl inX12 (by decide) w_892)) (Cs_lf (sg_iret dX12_place__9 rfl)))))
theorem dX12_drop_0 : decode cX12_drop 0 = .ok (.aload_n 0, 1) := by decide +kernel
theorem dX12_drop_1 : decode cX12_drop 1 = .ok (.iload_n 1, 1) := by decide +kernel
theorem dX12_drop_2 : decode cX12_drop 2 = .ok (.invokevirtual 180, 3) := by decide +kernel
theorem dX12_drop_5 : decode cX12_drop 5 = .ok (.ifCond .ne 5, 3) := by decide +kernel
theorem dX12_drop_8 : decode cX12_drop 8 = .ok (.iconst (-1), 1) := by decide +kernel
theorem dX12_drop_9 : decode cX12_drop 9 = .ok (.ireturn, 1) := by decide +kernel
theorem dX12_drop_10 : decode cX12_drop 10 = .ok (.iload_n 1, 1) := by decide +kernel
theorem dX12_drop_11 : decode cX12_drop 11 = .ok (.istore_n 2, 1) := by decide +kernel
theorem dX12_drop_12 : decode cX12_drop 12 = .ok (.iload_n 2, 1) := by decide +kernel
theorem dX12_drop_13 : decode cX12_drop 13 = .ok (.iconst 1, 1) := by decide +kernel
theorem dX12_drop_14 : decode cX12_drop 14 = .ok (.iadd, 1) := by decide +kernel
theorem dX12_drop_15 : decode cX12_drop 15 = .ok (.aload_n 0, 1) := by decide +kernel
theorem dX12_drop_16 : decode cX12_drop 16 = .ok (.getfield 42, 3) := by decide +kernel
theorem dX12_drop_19 : decode cX12_drop 19 = .ok (.if_icmp .ge 23, 3) := by decide +kernel
theorem dX12_drop_22 : decode cX12_drop 22 = .ok (.aload_n 0, 1) := by decide +kernel
theorem dX12_drop_23 : decode cX12_drop 23 = .ok (.getfield 11, 3) := by decide +kernel
theorem dX12_drop_26 : decode cX12_drop 26 = .ok (.iload_n 2, 1) := by decide +kernel
theorem dX12_drop_27 : decode cX12_drop 27 = .ok (.aload_n 0, 1) := by decide +kernel
theorem dX12_drop_28 : decode cX12_drop 28 = .ok (.getfield 11, 3) := by decide +kernel
theorem dX12_drop_31 : decode cX12_drop 31 = .ok (.iload_n 2, 1) := by decide +kernel
theorem dX12_drop_32 : decode cX12_drop 32 = .ok (.iconst 1, 1) := by decide +kernel
theorem dX12_drop_33 : decode cX12_drop 33 = .ok (.iadd, 1) := by decide +kernel
theorem dX12_drop_34 : decode cX12_drop 34 = .ok (.aaload, 1) := by decide +kernel
theorem dX12_drop_35 : decode cX12_drop 35 = .ok (.aastore, 1) := by decide +kernel
theorem dX12_drop_36 : decode cX12_drop 36 = .ok (.iinc 2 1, 3) := by decide +kernel
theorem dX12_drop_39 : decode cX12_drop 39 = .ok (.goto (-27), 3) := by decide +kernel
theorem dX12_drop_42 : decode cX12_drop 42 = .ok (.aload_n 0, 1) := by decide +kernel
theorem dX12_drop_43 : decode cX12_drop 43 = .ok (.dup, 1) := by decide +kernel
theorem dX12_drop_44 : decode cX12_drop 44 = .ok (.getfield 42, 3) := by decide +kernel
theorem dX12_drop_47 : decode cX12_drop 47 = .ok (.iconst 1, 1) := by decide +kernel
theorem dX12_drop_48 : decode cX12_drop 48 = .ok (.isub, 1) := by decide +kernel
theorem dX12_drop_49 : decode cX12_drop 49 = .ok (.putfield 42, 3) := by decide +kernel
theorem dX12_drop_52 : decode cX12_drop 52 = .ok (.aload_n 0, 1) := by decide +kernel
theorem dX12_drop_53 : decode cX12_drop 53 = .ok (.getfield 42, 3) := by decide +kernel
theorem dX12_drop_56 : decode cX12_drop 56 = .ok (.ireturn, 1) := by decide +kernel
set_option maxRecDepth 20000 in
theorem s_MO_drop (E : XE) : Cs E (yX12_drop, cX12_drop, 3, some .int) (k_MO_drop) := (Cs_nd (Cs_nd (Cs_nd (Cs_nd (Cs_nd (Cs_lf (sg_aload_n dX12_drop_0 rfl)) (Cs_lf (sg_iload_n dX12_drop_1 rfl))) (Cs_nd (Cs_lf (sg_invV (mid := 124) (ci := 11) (by decide +kernel) dX12_drop_2 ok_124 rfl w_1184 w_1186 ws_37)) (Cs_lf (sg_ifne dX12_drop_5 (by decide))))) (Cs_nd (Cs_nd (Cs_lf (sg_iconst dX12_drop_8 (by decide))) (Cs_lf (sg_iret dX12_drop_9 rfl))) (Cs_nd (Cs_lf (sg_iload_n dX12_drop_10 rfl)) (Cs_lf (sg_istore_n dX12_drop_11 rfl (by decide)))))) (Cs_nd (Cs_nd (Cs_nd (Cs_lf (sg_iload_n dX12_drop_12 rfl)) (Cs_lf (sg_iconst dX12_drop_13 (by decide)))) (Cs_nd (Cs_lf (sg_iadd dX12_drop_14)) (Cs_lf (sg_aload_n dX12_drop_15 rfl)))) (Cs_nd (Cs_nd (Cs_lf (sg_getf dX12_drop_16 rfl inX12 (by decide) w_885)) (Cs_lf (sg_cge dX12_drop_19 (by decide)))) (Cs_nd (Cs_lf (sg_aload_n dX12_drop_22 rfl)) (Cs_nd (Cs_lf (sg_getf dX12_drop_23 rfl inX12 (by decide) w_884)) (Cs_lf (sg_iload_n dX12_drop_26 rfl))))))) (Cs_nd (Cs_nd (Cs_nd (Cs_nd (Cs_lf (sg_aload_n dX12_drop_27 rfl)) (Cs_lf (sg_getf dX12_drop_28 rfl inX12 (by decide) w_884))) (Cs_nd (Cs_lf (sg_iload_n dX12_drop_31 rfl)) (Cs_lf (sg_iconst dX12_drop_32 (by decide))))) (Cs_nd (Cs_nd (Cs_lf (sg_iadd dX12_drop_33)) (Cs_lf (sg_aald dX12_drop_34))) (Cs_nd (Cs_lf (sg_aast (kd := 7) (ci := 8) (fun _ => rfl) rfl dX12_drop_35)) (Cs_nd (Cs_lf (sg_iinc dX12_drop_36 (by decide) (by decide))) (Cs_lf (sg_goto dX12_drop_39 (by decide))))))) (Cs_nd (Cs_nd (Cs_nd (Cs_lf (sg_aload_n dX12_drop_42 rfl)) (Cs_lf (sg_dup dX12_drop_43))) (Cs_nd (Cs_lf (sg_getf dX12_drop_44 rfl inX12 (by decide) w_885)) (Cs_lf (sg_iconst dX12_drop_47 (by decide))))) (Cs_nd (Cs_nd (Cs_lf (sg_isub dX12_drop_48)) (Cs_lf (sg_putf dX12_drop_49 rfl inX12 tyX12_ok nmX12 (by decide) w_885 rfl (tyX12_ok 2 (by decide)) ok_int))) (Cs_nd (Cs_lf (sg_aload_n dX12_drop_52 rfl)) (Cs_nd (Cs_lf (sg_getf dX12_drop_53 rfl inX12 (by decide) w_885)) (Cs_lf (sg_iret dX12_drop_56 rfl))))))))
theorem dX12_file_0 : decode cX12_file 0 = .ok (.aload_n 0, 1) := by decide +kernel
theorem dX12_file_1 : decode cX12_file 1 = .ok (.iload_n 1, 1) := by decide +kernel
theorem dX12_file_2 : decode cX12_file 2 = .ok (.invokevirtual 180, 3) := by decide +kernel
theorem dX12_file_5 : decode cX12_file 5 = .ok (.ifCond .ne 5, 3) := by decide +kernel
theorem dX12_file_8 : decode cX12_file 8 = .ok (.iconst (-1), 1) := by decide +kernel
theorem dX12_file_9 : decode cX12_file 9 = .ok (.ireturn, 1) := by decide +kernel
theorem dX12_file_10 : decode cX12_file 10 = .ok (.aload_n 0, 1) := by decide +kernel
theorem dX12_file_11 : decode cX12_file 11 = .ok (.getfield 11, 3) := by decide +kernel
theorem dX12_file_14 : decode cX12_file 14 = .ok (.iload_n 1, 1) := by decide +kernel
theorem dX12_file_15 : decode cX12_file 15 = .ok (.aaload, 1) := by decide +kernel
theorem dX12_file_16 : decode cX12_file 16 = .ok (.astore_n 3, 1) := by decide +kernel
theorem dX12_file_17 : decode cX12_file 17 = .ok (.iload_n 2, 1) := by decide +kernel
theorem dX12_file_18 : decode cX12_file 18 = .ok (.tableswitch 104 0 7 #[46, 52, 68, 73, 82, 87, 87, 96], 46) := by decide +kernel
theorem dX12_file_64 : decode cX12_file 64 = .ok (.aload_n 3, 1) := by decide +kernel
theorem dX12_file_65 : decode cX12_file 65 = .ok (.getfield 59, 3) := by decide +kernel
theorem dX12_file_68 : decode cX12_file 68 = .ok (.arraylength, 1) := by decide +kernel
theorem dX12_file_69 : decode cX12_file 69 = .ok (.ireturn, 1) := by decide +kernel
theorem dX12_file_70 : decode cX12_file 70 = .ok (.aload_n 3, 1) := by decide +kernel
theorem dX12_file_71 : decode cX12_file 71 = .ok (.bipush 6, 2) := by decide +kernel
theorem dX12_file_73 : decode cX12_file 73 = .ok (.invokevirtual 73, 3) := by decide +kernel
theorem dX12_file_76 : decode cX12_file 76 = .ok (.bipush 16, 2) := by decide +kernel
theorem dX12_file_78 : decode cX12_file 78 = .ok (.ishl, 1) := by decide +kernel
theorem dX12_file_79 : decode cX12_file 79 = .ok (.aload_n 3, 1) := by decide +kernel
theorem dX12_file_80 : decode cX12_file 80 = .ok (.iconst 4, 1) := by decide +kernel
theorem dX12_file_81 : decode cX12_file 81 = .ok (.invokevirtual 73, 3) := by decide +kernel
theorem dX12_file_84 : decode cX12_file 84 = .ok (.ior, 1) := by decide +kernel
theorem dX12_file_85 : decode cX12_file 85 = .ok (.ireturn, 1) := by decide +kernel
theorem dX12_file_86 : decode cX12_file 86 = .ok (.aload_n 3, 1) := by decide +kernel
theorem dX12_file_87 : decode cX12_file 87 = .ok (.getfield 81, 3) := by decide +kernel
theorem dX12_file_90 : decode cX12_file 90 = .ok (.ireturn, 1) := by decide +kernel
theorem dX12_file_91 : decode cX12_file 91 = .ok (.aload_n 3, 1) := by decide +kernel
theorem dX12_file_92 : decode cX12_file 92 = .ok (.aload_n 3, 1) := by decide +kernel
theorem dX12_file_93 : decode cX12_file 93 = .ok (.getfield 87, 3) := by decide +kernel
theorem dX12_file_96 : decode cX12_file 96 = .ok (.invokevirtual 73, 3) := by decide +kernel
theorem dX12_file_99 : decode cX12_file 99 = .ok (.ireturn, 1) := by decide +kernel
theorem dX12_file_100 : decode cX12_file 100 = .ok (.aload_n 3, 1) := by decide +kernel
theorem dX12_file_101 : decode cX12_file 101 = .ok (.getfield 93, 3) := by decide +kernel
theorem dX12_file_104 : decode cX12_file 104 = .ok (.ireturn, 1) := by decide +kernel
theorem dX12_file_105 : decode cX12_file 105 = .ok (.aload_n 3, 1) := by decide +kernel
theorem dX12_file_106 : decode cX12_file 106 = .ok (.getfield 96, 3) := by decide +kernel
theorem dX12_file_109 : decode cX12_file 109 = .ok (.iload_n 2, 1) := by decide +kernel
theorem dX12_file_110 : decode cX12_file 110 = .ok (.iconst 5, 1) := by decide +kernel
theorem dX12_file_111 : decode cX12_file 111 = .ok (.isub, 1) := by decide +kernel
theorem dX12_file_112 : decode cX12_file 112 = .ok (.iaload, 1) := by decide +kernel
theorem dX12_file_113 : decode cX12_file 113 = .ok (.ireturn, 1) := by decide +kernel
theorem dX12_file_114 : decode cX12_file 114 = .ok (.aload_n 3, 1) := by decide +kernel
theorem dX12_file_115 : decode cX12_file 115 = .ok (.getfield 114, 3) := by decide +kernel
theorem dX12_file_118 : decode cX12_file 118 = .ok (.getfield 120, 3) := by decide +kernel
theorem dX12_file_121 : decode cX12_file 121 = .ok (.ireturn, 1) := by decide +kernel
theorem dX12_file_122 : decode cX12_file 122 = .ok (.bipush (-2), 2) := by decide +kernel
theorem dX12_file_124 : decode cX12_file 124 = .ok (.ireturn, 1) := by decide +kernel
set_option maxRecDepth 20000 in
theorem s_MO_file (E : XE) : Cs E (yX12_file, cX12_file, 4, some .int) (k_MO_file) := (Cs_nd (Cs_nd (Cs_nd (Cs_nd (Cs_nd (Cs_lf (sg_aload_n dX12_file_0 rfl)) (Cs_nd (Cs_lf (sg_iload_n dX12_file_1 rfl)) (Cs_lf (sg_invV (mid := 124) (ci := 11) (by decide +kernel) dX12_file_2 ok_124 rfl w_1184 w_1186 ws_37)))) (Cs_nd (Cs_lf (sg_ifne dX12_file_5 (by decide))) (Cs_nd (Cs_lf (sg_iconst dX12_file_8 (by decide))) (Cs_lf (sg_iret dX12_file_9 rfl))))) (Cs_nd (Cs_nd (Cs_lf (sg_aload_n dX12_file_10 rfl)) (Cs_nd (Cs_lf (sg_getf dX12_file_11 rfl inX12 (by decide) w_884)) (Cs_lf (sg_iload_n dX12_file_14 rfl)))) (Cs_nd (Cs_lf (sg_aald dX12_file_15)) (Cs_nd (Cs_lf (sg_astore_n dX12_file_16 rfl (by decide))) (Cs_lf (sg_iload_n dX12_file_17 rfl)))))) (Cs_nd (Cs_nd (Cs_nd (Cs_lf (sg_table dX12_file_18 rfl (by decide) (by decide +kernel) (by decide))) (Cs_nd (Cs_lf (sg_aload_n dX12_file_64 rfl)) (Cs_lf (sg_getf dX12_file_65 rfl inX9 (by decide) w_962)))) (Cs_nd (Cs_lf (sg_alen dX12_file_68)) (Cs_nd (Cs_lf (sg_iret dX12_file_69 rfl)) (Cs_lf (sg_aload_n dX12_file_70 rfl))))) (Cs_nd (Cs_nd (Cs_lf (sg_bipush dX12_file_71 (by decide))) (Cs_nd (Cs_lf (sg_invV (mid := 114) (ci := 8) (by decide +kernel) dX12_file_73 ok_114 rfl w_1018 w_1019 w_1020)) (Cs_lf (sg_bipush dX12_file_76 (by decide))))) (Cs_nd (Cs_nd (Cs_lf (sg_ishl dX12_file_78)) (Cs_lf (sg_aload_n dX12_file_79 rfl))) (Cs_nd (Cs_lf (sg_iconst dX12_file_80 (by decide))) (Cs_lf (sg_invV (mid := 114) (ci := 8) (by decide +kernel) dX12_file_81 ok_114 rfl w_1018 w_1019 w_1020))))))) (Cs_nd (Cs_nd (Cs_nd (Cs_nd (Cs_lf (sg_ior dX12_file_84)) (Cs_nd (Cs_lf (sg_iret dX12_file_85 rfl)) (Cs_lf (sg_aload_n dX12_file_86 rfl)))) (Cs_nd (Cs_lf (sg_getf dX12_file_87 rfl inX9 (by decide) w_963)) (Cs_nd (Cs_lf (sg_iret dX12_file_90 rfl)) (Cs_lf (sg_aload_n dX12_file_91 rfl))))) (Cs_nd (Cs_nd (Cs_lf (sg_aload_n dX12_file_92 rfl)) (Cs_nd (Cs_lf (sg_getf dX12_file_93 rfl inX9 (by decide) w_970)) (Cs_lf (sg_invV (mid := 114) (ci := 8) (by decide +kernel) dX12_file_96 ok_114 rfl w_1018 w_1019 w_1020)))) (Cs_nd (Cs_nd (Cs_lf (sg_iret dX12_file_99 rfl)) (Cs_lf (sg_aload_n dX12_file_100 rfl))) (Cs_nd (Cs_lf (sg_getf dX12_file_101 rfl inX9 (by decide) w_971)) (Cs_lf (sg_iret dX12_file_104 rfl)))))) (Cs_nd (Cs_nd (Cs_nd (Cs_lf (sg_aload_n dX12_file_105 rfl)) (Cs_nd (Cs_lf (sg_getf dX12_file_106 rfl inX9 (by decide) w_975)) (Cs_lf (sg_iload_n dX12_file_109 rfl)))) (Cs_nd (Cs_lf (sg_iconst dX12_file_110 (by decide))) (Cs_nd (Cs_lf (sg_isub dX12_file_111)) (Cs_lf (sg_iald dX12_file_112))))) (Cs_nd (Cs_nd (Cs_lf (sg_iret dX12_file_113 rfl)) (Cs_nd (Cs_lf (sg_aload_n dX12_file_114 rfl)) (Cs_lf (sg_getf dX12_file_115 rfl inX9 (by decide) w_976)))) (Cs_nd (Cs_nd (Cs_lf (sg_getf dX12_file_118 rfl inX8 (by decide) w_1053)) (Cs_lf (sg_iret dX12_file_121 rfl))) (Cs_nd (Cs_lf (sg_bipush dX12_file_122 (by decide))) (Cs_lf (sg_iret dX12_file_124 rfl))))))))
theorem dX12_entry__0 : decode cX12_entry_ 0 = .ok (.aload_n 0, 1) := by decide +kernel
theorem dX12_entry__1 : decode cX12_entry_ 1 = .ok (.iload_n 1, 1) := by decide +kernel
theorem dX12_entry__2 : decode cX12_entry_ 2 = .ok (.invokevirtual 180, 3) := by decide +kernel
theorem dX12_entry__5 : decode cX12_entry_ 5 = .ok (.ifCond .eq 22, 3) := by decide +kernel
theorem dX12_entry__8 : decode cX12_entry_ 8 = .ok (.iload_n 2, 1) := by decide +kernel
theorem dX12_entry__9 : decode cX12_entry_ 9 = .ok (.iconst 0, 1) := by decide +kernel
theorem dX12_entry__10 : decode cX12_entry_ 10 = .ok (.aload_n 0, 1) := by decide +kernel
theorem dX12_entry__11 : decode cX12_entry_ 11 = .ok (.getfield 11, 3) := by decide +kernel
theorem dX12_entry__14 : decode cX12_entry_ 14 = .ok (.iload_n 1, 1) := by decide +kernel
theorem dX12_entry__15 : decode cX12_entry_ 15 = .ok (.aaload, 1) := by decide +kernel
theorem dX12_entry__16 : decode cX12_entry_ 16 = .ok (.getfield 81, 3) := by decide +kernel
theorem dX12_entry__19 : decode cX12_entry_ 19 = .ok (.iconst 1, 1) := by decide +kernel
theorem dX12_entry__20 : decode cX12_entry_ 20 = .ok (.isub, 1) := by decide +kernel
theorem dX12_entry__21 : decode cX12_entry_ 21 = .ok (.invokestatic 45, 3) := by decide +kernel
theorem dX12_entry__24 : decode cX12_entry_ 24 = .ok (.ifCond .ne 5, 3) := by decide +kernel
theorem dX12_entry__27 : decode cX12_entry_ 27 = .ok (.iconst (-1), 1) := by decide +kernel
theorem dX12_entry__28 : decode cX12_entry_ 28 = .ok (.ireturn, 1) := by decide +kernel
theorem dX12_entry__29 : decode cX12_entry_ 29 = .ok (.aload_n 0, 1) := by decide +kernel
theorem dX12_entry__30 : decode cX12_entry_ 30 = .ok (.getfield 11, 3) := by decide +kernel
theorem dX12_entry__33 : decode cX12_entry_ 33 = .ok (.iload_n 1, 1) := by decide +kernel
theorem dX12_entry__34 : decode cX12_entry_ 34 = .ok (.aaload, 1) := by decide +kernel
theorem dX12_entry__35 : decode cX12_entry_ 35 = .ok (.astore 4, 2) := by decide +kernel
theorem dX12_entry__37 : decode cX12_entry_ 37 = .ok (.aload 4, 2) := by decide +kernel
theorem dX12_entry__39 : decode cX12_entry_ 39 = .ok (.getfield 126, 3) := by decide +kernel
theorem dX12_entry__42 : decode cX12_entry_ 42 = .ok (.iload_n 2, 1) := by decide +kernel
theorem dX12_entry__43 : decode cX12_entry_ 43 = .ok (.iaload, 1) := by decide +kernel
theorem dX12_entry__44 : decode cX12_entry_ 44 = .ok (.istore 5, 2) := by decide +kernel
theorem dX12_entry__46 : decode cX12_entry_ 46 = .ok (.iload_n 3, 1) := by decide +kernel
theorem dX12_entry__47 : decode cX12_entry_ 47 = .ok (.tableswitch 87 0 3 #[29, 32, 50, 68], 29) := by decide +kernel
theorem dX12_entry__76 : decode cX12_entry_ 76 = .ok (.iload 5, 2) := by decide +kernel
theorem dX12_entry__78 : decode cX12_entry_ 78 = .ok (.ireturn, 1) := by decide +kernel
theorem dX12_entry__79 : decode cX12_entry_ 79 = .ok (.iload 5, 2) := by decide +kernel
theorem dX12_entry__81 : decode cX12_entry_ 81 = .ok (.bipush 7, 2) := by decide +kernel
theorem dX12_entry__83 : decode cX12_entry_ 83 = .ok (.if_icmp .lt 12, 3) := by decide +kernel
theorem dX12_entry__86 : decode cX12_entry_ 86 = .ok (.aload 4, 2) := by decide +kernel
theorem dX12_entry__88 : decode cX12_entry_ 88 = .ok (.iload_n 2, 1) := by decide +kernel
theorem dX12_entry__89 : decode cX12_entry_ 89 = .ok (.invokevirtual 183, 3) := by decide +kernel
theorem dX12_entry__92 : decode cX12_entry_ 92 = .ok (.goto 4, 3) := by decide +kernel
theorem dX12_entry__95 : decode cX12_entry_ 95 = .ok (.iconst 0, 1) := by decide +kernel
theorem dX12_entry__96 : decode cX12_entry_ 96 = .ok (.ireturn, 1) := by decide +kernel
theorem dX12_entry__97 : decode cX12_entry_ 97 = .ok (.iload 5, 2) := by decide +kernel
theorem dX12_entry__99 : decode cX12_entry_ 99 = .ok (.bipush 9, 2) := by decide +kernel
theorem dX12_entry__101 : decode cX12_entry_ 101 = .ok (.if_icmp .lt 12, 3) := by decide +kernel
theorem dX12_entry__104 : decode cX12_entry_ 104 = .ok (.aload 4, 2) := by decide +kernel
theorem dX12_entry__106 : decode cX12_entry_ 106 = .ok (.iload_n 2, 1) := by decide +kernel
theorem dX12_entry__107 : decode cX12_entry_ 107 = .ok (.invokevirtual 186, 3) := by decide +kernel
theorem dX12_entry__110 : decode cX12_entry_ 110 = .ok (.goto 4, 3) := by decide +kernel
theorem dX12_entry__113 : decode cX12_entry_ 113 = .ok (.iconst 0, 1) := by decide +kernel
theorem dX12_entry__114 : decode cX12_entry_ 114 = .ok (.ireturn, 1) := by decide +kernel
theorem dX12_entry__115 : decode cX12_entry_ 115 = .ok (.iload 5, 2) := by decide +kernel
theorem dX12_entry__117 : decode cX12_entry_ 117 = .ok (.iconst 1, 1) := by decide +kernel
theorem dX12_entry__118 : decode cX12_entry_ 118 = .ok (.if_icmp .ne 14, 3) := by decide +kernel
theorem dX12_entry__121 : decode cX12_entry_ 121 = .ok (.aload 4, 2) := by decide +kernel
theorem dX12_entry__123 : decode cX12_entry_ 123 = .ok (.getfield 130, 3) := by decide +kernel
theorem dX12_entry__126 : decode cX12_entry_ 126 = .ok (.iload_n 2, 1) := by decide +kernel
theorem dX12_entry__127 : decode cX12_entry_ 127 = .ok (.aaload, 1) := by decide +kernel
theorem dX12_entry__128 : decode cX12_entry_ 128 = .ok (.arraylength, 1) := by decide +kernel
theorem dX12_entry__129 : decode cX12_entry_ 129 = .ok (.goto 4, 3) := by decide +kernel
theorem dX12_entry__132 : decode cX12_entry_ 132 = .ok (.iconst 0, 1) := by decide +kernel
theorem dX12_entry__133 : decode cX12_entry_ 133 = .ok (.ireturn, 1) := by decide +kernel
theorem dX12_entry__134 : decode cX12_entry_ 134 = .ok (.bipush (-2), 2) := by decide +kernel
theorem dX12_entry__136 : decode cX12_entry_ 136 = .ok (.ireturn, 1) := by decide +kernel
set_option maxRecDepth 20000 in
theorem s_MO_entry_ (E : XE) : Cs E (yX12_entry_, cX12_entry_, 6, some .int) (k_MO_entry_) := (Cs_nd (Cs_nd (Cs_nd (Cs_nd (Cs_nd (Cs_lf (sg_aload_n dX12_entry__0 rfl)) (Cs_nd (Cs_lf (sg_iload_n dX12_entry__1 rfl)) (Cs_lf (sg_invV (mid := 124) (ci := 11) (by decide +kernel) dX12_entry__2 ok_124 rfl w_1184 w_1186 ws_37)))) (Cs_nd (Cs_nd (Cs_lf (sg_ifeq dX12_entry__5 (by decide))) (Cs_lf (sg_iload_n dX12_entry__8 rfl))) (Cs_nd (Cs_lf (sg_iconst dX12_entry__9 (by decide))) (Cs_lf (sg_aload_n dX12_entry__10 rfl))))) (Cs_nd (Cs_nd (Cs_nd (Cs_lf (sg_getf dX12_entry__11 rfl inX12 (by decide) w_884)) (Cs_lf (sg_iload_n dX12_entry__14 rfl))) (Cs_nd (Cs_lf (sg_aald dX12_entry__15)) (Cs_lf (sg_getf dX12_entry__16 rfl inX9 (by decide) w_963)))) (Cs_nd (Cs_nd (Cs_lf (sg_iconst dX12_entry__19 (by decide))) (Cs_lf (sg_isub dX12_entry__20))) (Cs_nd (Cs_lf (sg_inv (mid := 123) (by decide +kernel) dX12_entry__21 ok_123 w_943 w_944)) (Cs_lf (sg_ifne dX12_entry__24 (by decide))))))) (Cs_nd (Cs_nd (Cs_nd (Cs_nd (Cs_lf (sg_iconst dX12_entry__27 (by decide))) (Cs_lf (sg_iret dX12_entry__28 rfl))) (Cs_nd (Cs_lf (sg_aload_n dX12_entry__29 rfl)) (Cs_lf (sg_getf dX12_entry__30 rfl inX12 (by decide) w_884)))) (Cs_nd (Cs_nd (Cs_lf (sg_iload_n dX12_entry__33 rfl)) (Cs_lf (sg_aald dX12_entry__34))) (Cs_nd (Cs_lf (sg_astore dX12_entry__35 (by decide))) (Cs_lf (sg_aload dX12_entry__37))))) (Cs_nd (Cs_nd (Cs_nd (Cs_lf (sg_getf dX12_entry__39 rfl inX9 (by decide) w_965)) (Cs_lf (sg_iload_n dX12_entry__42 rfl))) (Cs_nd (Cs_lf (sg_iald dX12_entry__43)) (Cs_lf (sg_istore dX12_entry__44 (by decide))))) (Cs_nd (Cs_nd (Cs_lf (sg_iload_n dX12_entry__46 rfl)) (Cs_lf (sg_table dX12_entry__47 rfl (by decide) (by decide +kernel) (by decide)))) (Cs_nd (Cs_lf (sg_iload dX12_entry__76)) (Cs_lf (sg_iret dX12_entry__78 rfl))))))) (Cs_nd (Cs_nd (Cs_nd (Cs_nd (Cs_lf (sg_iload dX12_entry__79)) (Cs_nd (Cs_lf (sg_bipush dX12_entry__81 (by decide))) (Cs_lf (sg_clt dX12_entry__83 (by decide))))) (Cs_nd (Cs_nd (Cs_lf (sg_aload dX12_entry__86)) (Cs_lf (sg_iload_n dX12_entry__88 rfl))) (Cs_nd (Cs_lf (sg_invV (mid := 117) (ci := 8) (by decide +kernel) dX12_entry__89 ok_117 rfl w_1196 w_1197 w_1198)) (Cs_lf (sg_goto dX12_entry__92 (by decide)))))) (Cs_nd (Cs_nd (Cs_nd (Cs_lf (sg_iconst dX12_entry__95 (by decide))) (Cs_lf (sg_iret dX12_entry__96 rfl))) (Cs_nd (Cs_lf (sg_iload dX12_entry__97)) (Cs_lf (sg_bipush dX12_entry__99 (by decide))))) (Cs_nd (Cs_nd (Cs_lf (sg_clt dX12_entry__101 (by decide))) (Cs_lf (sg_aload dX12_entry__104))) (Cs_nd (Cs_lf (sg_iload_n dX12_entry__106 rfl)) (Cs_lf (sg_invV (mid := 118) (ci := 8) (by decide +kernel) dX12_entry__107 ok_118 rfl w_1200 w_1201 w_1202)))))) (Cs_nd (Cs_nd (Cs_nd (Cs_nd (Cs_lf (sg_goto dX12_entry__110 (by decide))) (Cs_lf (sg_iconst dX12_entry__113 (by decide)))) (Cs_nd (Cs_lf (sg_iret dX12_entry__114 rfl)) (Cs_lf (sg_iload dX12_entry__115)))) (Cs_nd (Cs_nd (Cs_lf (sg_iconst dX12_entry__117 (by decide))) (Cs_lf (sg_cne dX12_entry__118 (by decide)))) (Cs_nd (Cs_lf (sg_aload dX12_entry__121)) (Cs_lf (sg_getf dX12_entry__123 rfl inX9 (by decide) w_969))))) (Cs_nd (Cs_nd (Cs_nd (Cs_lf (sg_iload_n dX12_entry__126 rfl)) (Cs_lf (sg_aald dX12_entry__127))) (Cs_nd (Cs_lf (sg_alen dX12_entry__128)) (Cs_lf (sg_goto dX12_entry__129 (by decide))))) (Cs_nd (Cs_nd (Cs_lf (sg_iconst dX12_entry__132 (by decide))) (Cs_lf (sg_iret dX12_entry__133 rfl))) (Cs_nd (Cs_lf (sg_bipush dX12_entry__134 (by decide))) (Cs_lf (sg_iret dX12_entry__136 rfl))))))))
theorem dX12_number_0 : decode cX12_number 0 = .ok (.aload_n 0, 1) := by decide +kernel
theorem dX12_number_1 : decode cX12_number 1 = .ok (.iload_n 1, 1) := by decide +kernel
theorem dX12_number_2 : decode cX12_number 2 = .ok (.invokevirtual 180, 3) := by decide +kernel
theorem dX12_number_5 : decode cX12_number 5 = .ok (.ifCond .ne 10, 3) := by decide +kernel
theorem dX12_number_8 : decode cX12_number 8 = .ok (.aload_n 0, 1) := by decide +kernel
theorem dX12_number_9 : decode cX12_number 9 = .ok (.iconst 1, 1) := by decide +kernel
theorem dX12_number_10 : decode cX12_number 10 = .ok (.putfield 39, 3) := by decide +kernel
theorem dX12_number_13 : decode cX12_number 13 = .ok (.lconst 0, 1) := by decide +kernel
theorem dX12_number_14 : decode cX12_number 14 = .ok (.lreturn, 1) := by decide +kernel
theorem dX12_number_15 : decode cX12_number 15 = .ok (.aload_n 0, 1) := by decide +kernel
theorem dX12_number_16 : decode cX12_number 16 = .ok (.getfield 11, 3) := by decide +kernel
theorem dX12_number_19 : decode cX12_number 19 = .ok (.iload_n 1, 1) := by decide +kernel
theorem dX12_number_20 : decode cX12_number 20 = .ok (.aaload, 1) := by decide +kernel
theorem dX12_number_21 : decode cX12_number 21 = .ok (.astore_n 3, 1) := by decide +kernel
theorem dX12_number_22 : decode cX12_number 22 = .ok (.aload_n 0, 1) := by decide +kernel
theorem dX12_number_23 : decode cX12_number 23 = .ok (.iload_n 2, 1) := by decide +kernel
theorem dX12_number_24 : decode cX12_number 24 = .ok (.iconst 0, 1) := by decide +kernel
theorem dX12_number_25 : decode cX12_number 25 = .ok (.aload_n 3, 1) := by decide +kernel
theorem dX12_number_26 : decode cX12_number 26 = .ok (.getfield 81, 3) := by decide +kernel
theorem dX12_number_29 : decode cX12_number 29 = .ok (.iconst 1, 1) := by decide +kernel
theorem dX12_number_30 : decode cX12_number 30 = .ok (.isub, 1) := by decide +kernel
theorem dX12_number_31 : decode cX12_number 31 = .ok (.invokestatic 45, 3) := by decide +kernel
theorem dX12_number_34 : decode cX12_number 34 = .ok (.ifCond .ne 7, 3) := by decide +kernel
theorem dX12_number_37 : decode cX12_number 37 = .ok (.iconst 2, 1) := by decide +kernel
theorem dX12_number_38 : decode cX12_number 38 = .ok (.goto 36, 3) := by decide +kernel
theorem dX12_number_41 : decode cX12_number 41 = .ok (.aload_n 3, 1) := by decide +kernel
theorem dX12_number_42 : decode cX12_number 42 = .ok (.getfield 126, 3) := by decide +kernel
theorem dX12_number_45 : decode cX12_number 45 = .ok (.iload_n 2, 1) := by decide +kernel
theorem dX12_number_46 : decode cX12_number 46 = .ok (.iaload, 1) := by decide +kernel
theorem dX12_number_47 : decode cX12_number 47 = .ok (.ifCond .ne 7, 3) := by decide +kernel
theorem dX12_number_50 : decode cX12_number 50 = .ok (.iconst 3, 1) := by decide +kernel
theorem dX12_number_51 : decode cX12_number 51 = .ok (.goto 23, 3) := by decide +kernel
theorem dX12_number_54 : decode cX12_number 54 = .ok (.aload_n 3, 1) := by decide +kernel
theorem dX12_number_55 : decode cX12_number 55 = .ok (.getfield 126, 3) := by decide +kernel
theorem dX12_number_58 : decode cX12_number 58 = .ok (.iload_n 2, 1) := by decide +kernel
theorem dX12_number_59 : decode cX12_number 59 = .ok (.iaload, 1) := by decide +kernel
theorem dX12_number_60 : decode cX12_number 60 = .ok (.iconst 3, 1) := by decide +kernel
theorem dX12_number_61 : decode cX12_number 61 = .ok (.bipush 6, 2) := by decide +kernel
theorem dX12_number_63 : decode cX12_number 63 = .ok (.invokestatic 45, 3) := by decide +kernel
theorem dX12_number_66 : decode cX12_number 66 = .ok (.ifCond .ne 7, 3) := by decide +kernel
theorem dX12_number_69 : decode cX12_number 69 = .ok (.iconst 4, 1) := by decide +kernel
theorem dX12_number_70 : decode cX12_number 70 = .ok (.goto 4, 3) := by decide +kernel
theorem dX12_number_73 : decode cX12_number 73 = .ok (.iconst 0, 1) := by decide +kernel
theorem dX12_number_74 : decode cX12_number 74 = .ok (.putfield 39, 3) := by decide +kernel
theorem dX12_number_77 : decode cX12_number 77 = .ok (.aload_n 0, 1) := by decide +kernel
theorem dX12_number_78 : decode cX12_number 78 = .ok (.getfield 39, 3) := by decide +kernel
theorem dX12_number_81 : decode cX12_number 81 = .ok (.ifCond .ne 11, 3) := by decide +kernel
theorem dX12_number_84 : decode cX12_number 84 = .ok (.aload_n 3, 1) := by decide +kernel
theorem dX12_number_85 : decode cX12_number 85 = .ok (.iload_n 2, 1) := by decide +kernel
theorem dX12_number_86 : decode cX12_number 86 = .ok (.invokevirtual 189, 3) := by decide +kernel
theorem dX12_number_89 : decode cX12_number 89 = .ok (.goto 4, 3) := by decide +kernel
theorem dX12_number_92 : decode cX12_number 92 = .ok (.lconst 0, 1) := by decide +kernel
theorem dX12_number_93 : decode cX12_number 93 = .ok (.lreturn, 1) := by decide +kernel
set_option maxRecDepth 20000 in
theorem s_MO_number (E : XE) : Cs E (yX12_number, cX12_number, 4, some .long) (k_MO_number) := (Cs_nd (Cs_nd (Cs_nd (Cs_nd (Cs_nd (Cs_lf (sg_aload_n dX12_number_0 rfl)) (Cs_nd (Cs_lf (sg_iload_n dX12_number_1 rfl)) (Cs_lf (sg_invV (mid := 124) (ci := 11) (by decide +kernel) dX12_number_2 ok_124 rfl w_1184 w_1186 ws_37)))) (Cs_nd (Cs_lf (sg_ifne dX12_number_5 (by decide))) (Cs_nd (Cs_lf (sg_aload_n dX12_number_8 rfl)) (Cs_lf (sg_iconst dX12_number_9 (by decide)))))) (Cs_nd (Cs_nd (Cs_lf (sg_putf dX12_number_10 rfl inX12 tyX12_ok nmX12 (by decide) w_883 rfl (tyX12_ok 0 (by decide)) ok_int)) (Cs_nd (Cs_lf (sg_lconst dX12_number_13 (by decide))) (Cs_lf (sg_lret dX12_number_14 rfl)))) (Cs_nd (Cs_nd (Cs_lf (sg_aload_n dX12_number_15 rfl)) (Cs_lf (sg_getf dX12_number_16 rfl inX12 (by decide) w_884))) (Cs_nd (Cs_lf (sg_iload_n dX12_number_19 rfl)) (Cs_lf (sg_aald dX12_number_20)))))) (Cs_nd (Cs_nd (Cs_nd (Cs_lf (sg_astore_n dX12_number_21 rfl (by decide))) (Cs_nd (Cs_lf (sg_aload_n dX12_number_22 rfl)) (Cs_lf (sg_iload_n dX12_number_23 rfl)))) (Cs_nd (Cs_lf (sg_iconst dX12_number_24 (by decide))) (Cs_nd (Cs_lf (sg_aload_n dX12_number_25 rfl)) (Cs_lf (sg_getf dX12_number_26 rfl inX9 (by decide) w_963))))) (Cs_nd (Cs_nd (Cs_lf (sg_iconst dX12_number_29 (by decide))) (Cs_nd (Cs_lf (sg_isub dX12_number_30)) (Cs_lf (sg_inv (mid := 123) (by decide +kernel) dX12_number_31 ok_123 w_943 w_944)))) (Cs_nd (Cs_nd (Cs_lf (sg_ifne dX12_number_34 (by decide))) (Cs_lf (sg_iconst dX12_number_37 (by decide)))) (Cs_nd (Cs_lf (sg_goto dX12_number_38 (by decide))) (Cs_lf (sg_aload_n dX12_number_41 rfl))))))) (Cs_nd (Cs_nd (Cs_nd (Cs_nd (Cs_lf (sg_getf dX12_number_42 rfl inX9 (by decide) w_965)) (Cs_nd (Cs_lf (sg_iload_n dX12_number_45 rfl)) (Cs_lf (sg_iald dX12_number_46)))) (Cs_nd (Cs_lf (sg_ifne dX12_number_47 (by decide))) (Cs_nd (Cs_lf (sg_iconst dX12_number_50 (by decide))) (Cs_lf (sg_goto dX12_number_51 (by decide)))))) (Cs_nd (Cs_nd (Cs_lf (sg_aload_n dX12_number_54 rfl)) (Cs_nd (Cs_lf (sg_getf dX12_number_55 rfl inX9 (by decide) w_965)) (Cs_lf (sg_iload_n dX12_number_58 rfl)))) (Cs_nd (Cs_nd (Cs_lf (sg_iald dX12_number_59)) (Cs_lf (sg_iconst dX12_number_60 (by decide)))) (Cs_nd (Cs_lf (sg_bipush dX12_number_61 (by decide))) (Cs_lf (sg_inv (mid := 123) (by decide +kernel) dX12_number_63 ok_123 w_943 w_944)))))) (Cs_nd (Cs_nd (Cs_nd (Cs_lf (sg_ifne dX12_number_66 (by decide))) (Cs_nd (Cs_lf (sg_iconst dX12_number_69 (by decide))) (Cs_lf (sg_goto dX12_number_70 (by decide))))) (Cs_nd (Cs_nd (Cs_lf (sg_iconst dX12_number_73 (by decide))) (Cs_lf (sg_putf dX12_number_74 rfl inX12 tyX12_ok nmX12 (by decide) w_883 rfl (tyX12_ok 0 (by decide)) ok_int))) (Cs_nd (Cs_lf (sg_aload_n dX12_number_77 rfl)) (Cs_lf (sg_getf dX12_number_78 rfl inX12 (by decide) w_883))))) (Cs_nd (Cs_nd (Cs_lf (sg_ifne dX12_number_81 (by decide))) (Cs_nd (Cs_lf (sg_aload_n dX12_number_84 rfl)) (Cs_lf (sg_iload_n dX12_number_85 rfl)))) (Cs_nd (Cs_nd (Cs_lf (sg_invV (mid := 116) (ci := 8) (by decide +kernel) dX12_number_86 ok_116 rfl w_1208 w_1209 w_1210)) (Cs_lf (sg_goto dX12_number_89 (by decide)))) (Cs_nd (Cs_lf (sg_lconst dX12_number_92 (by decide))) (Cs_lf (sg_lret dX12_number_93 rfl))))))))
theorem dX12_shows_0 : decode cX12_shows 0 = .ok (.aload_n 0, 1) := by decide +kernel
theorem dX12_shows_1 : decode cX12_shows 1 = .ok (.aload_n 1, 1) := by decide +kernel
theorem dX12_shows_2 : decode cX12_shows 2 = .ok (.putfield 19, 3) := by decide +kernel
theorem dX12_shows_5 : decode cX12_shows 5 = .ok (.aload_n 1, 1) := by decide +kernel
theorem dX12_shows_6 : decode cX12_shows 6 = .ok (.arraylength, 1) := by decide +kernel
theorem dX12_shows_7 : decode cX12_shows 7 = .ok (.ireturn, 1) := by decide +kernel
set_option maxRecDepth 20000 in
theorem s_MO_shows (E : XE) : Cs E (yX12_shows, cX12_shows, 2, some .int) (k_MO_shows) := (Cs_nd (Cs_nd (Cs_lf (sg_aload_n dX12_shows_0 rfl)) (Cs_nd (Cs_lf (sg_aload_n dX12_shows_1 rfl)) (Cs_lf (sg_putf dX12_shows_2 rfl inX12 tyX12_ok nmX12 (by decide) w_888 rfl (tyX12_ok 5 (by decide)) (ok_arr _))))) (Cs_nd (Cs_lf (sg_aload_n dX12_shows_5 rfl)) (Cs_nd (Cs_lf (sg_alen dX12_shows_6)) (Cs_lf (sg_iret dX12_shows_7 rfl)))))
theorem dX12_text_0 : decode cX12_text 0 = .ok (.aload_n 0, 1) := by decide +kernel
theorem dX12_text_1 : decode cX12_text 1 = .ok (.iload_n 1, 1) := by decide +kernel
theorem dX12_text_2 : decode cX12_text 2 = .ok (.invokevirtual 180, 3) := by decide +kernel
theorem dX12_text_5 : decode cX12_text 5 = .ok (.ifCond .ne 5, 3) := by decide +kernel
theorem dX12_text_8 : decode cX12_text 8 = .ok (.iconst (-1), 1) := by decide +kernel
theorem dX12_text_9 : decode cX12_text 9 = .ok (.ireturn, 1) := by decide +kernel
theorem dX12_text_10 : decode cX12_text 10 = .ok (.iload_n 3, 1) := by decide +kernel
theorem dX12_text_11 : decode cX12_text 11 = .ok (.iconst 0, 1) := by decide +kernel
theorem dX12_text_12 : decode cX12_text 12 = .ok (.iconst 2, 1) := by decide +kernel
theorem dX12_text_13 : decode cX12_text 13 = .ok (.invokestatic 45, 3) := by decide +kernel
theorem dX12_text_16 : decode cX12_text 16 = .ok (.ifCond .ne 6, 3) := by decide +kernel
theorem dX12_text_19 : decode cX12_text 19 = .ok (.bipush (-2), 2) := by decide +kernel
theorem dX12_text_21 : decode cX12_text 21 = .ok (.ireturn, 1) := by decide +kernel
theorem dX12_text_22 : decode cX12_text 22 = .ok (.aload_n 0, 1) := by decide +kernel
theorem dX12_text_23 : decode cX12_text 23 = .ok (.getfield 11, 3) := by decide +kernel
theorem dX12_text_26 : decode cX12_text 26 = .ok (.iload_n 1, 1) := by decide +kernel
theorem dX12_text_27 : decode cX12_text 27 = .ok (.aaload, 1) := by decide +kernel
theorem dX12_text_28 : decode cX12_text 28 = .ok (.astore 4, 2) := by decide +kernel
theorem dX12_text_30 : decode cX12_text 30 = .ok (.aload 4, 2) := by decide +kernel
theorem dX12_text_32 : decode cX12_text 32 = .ok (.iload_n 2, 1) := by decide +kernel
theorem dX12_text_33 : decode cX12_text 33 = .ok (.iload_n 3, 1) := by decide +kernel
theorem dX12_text_34 : decode cX12_text 34 = .ok (.ifCond .ne 7, 3) := by decide +kernel
theorem dX12_text_37 : decode cX12_text 37 = .ok (.iconst 1, 1) := by decide +kernel
theorem dX12_text_38 : decode cX12_text 38 = .ok (.goto 15, 3) := by decide +kernel
theorem dX12_text_41 : decode cX12_text 41 = .ok (.iload_n 3, 1) := by decide +kernel
theorem dX12_text_42 : decode cX12_text 42 = .ok (.iconst 1, 1) := by decide +kernel
theorem dX12_text_43 : decode cX12_text 43 = .ok (.if_icmp .ne 8, 3) := by decide +kernel
theorem dX12_text_46 : decode cX12_text 46 = .ok (.bipush 7, 2) := by decide +kernel
theorem dX12_text_48 : decode cX12_text 48 = .ok (.goto 5, 3) := by decide +kernel
theorem dX12_text_51 : decode cX12_text 51 = .ok (.bipush 8, 2) := by decide +kernel
theorem dX12_text_53 : decode cX12_text 53 = .ok (.invokestatic 144, 3) := by decide +kernel
theorem dX12_text_56 : decode cX12_text 56 = .ok (.istore 5, 2) := by decide +kernel
theorem dX12_text_58 : decode cX12_text 58 = .ok (.iload 5, 2) := by decide +kernel
theorem dX12_text_60 : decode cX12_text 60 = .ok (.ifCond .le 11, 3) := by decide +kernel
theorem dX12_text_63 : decode cX12_text 63 = .ok (.bipush (-30), 2) := by decide +kernel
theorem dX12_text_65 : decode cX12_text 65 = .ok (.iload 5, 2) := by decide +kernel
theorem dX12_text_67 : decode cX12_text 67 = .ok (.isub, 1) := by decide +kernel
theorem dX12_text_68 : decode cX12_text 68 = .ok (.goto 27, 3) := by decide +kernel
theorem dX12_text_71 : decode cX12_text 71 = .ok (.aload_n 0, 1) := by decide +kernel
theorem dX12_text_72 : decode cX12_text 72 = .ok (.aload 4, 2) := by decide +kernel
theorem dX12_text_74 : decode cX12_text 74 = .ok (.getfield 130, 3) := by decide +kernel
theorem dX12_text_77 : decode cX12_text 77 = .ok (.iload_n 3, 1) := by decide +kernel
theorem dX12_text_78 : decode cX12_text 78 = .ok (.ifCond .ne 7, 3) := by decide +kernel
theorem dX12_text_81 : decode cX12_text 81 = .ok (.iload_n 2, 1) := by decide +kernel
theorem dX12_text_82 : decode cX12_text 82 = .ok (.goto 9, 3) := by decide +kernel
theorem dX12_text_85 : decode cX12_text 85 = .ok (.aload 4, 2) := by decide +kernel
theorem dX12_text_87 : decode cX12_text 87 = .ok (.iload_n 2, 1) := by decide +kernel
theorem dX12_text_88 : decode cX12_text 88 = .ok (.invokevirtual 183, 3) := by decide +kernel
theorem dX12_text_91 : decode cX12_text 91 = .ok (.aaload, 1) := by decide +kernel
theorem dX12_text_92 : decode cX12_text 92 = .ok (.invokevirtual 193, 3) := by decide +kernel
theorem dX12_text_95 : decode cX12_text 95 = .ok (.ireturn, 1) := by decide +kernel
set_option maxRecDepth 20000 in
theorem s_MO_text (E : XE) : Cs E (yX12_text, cX12_text, 6, some .int) (k_MO_text) := (Cs_nd (Cs_nd (Cs_nd (Cs_nd (Cs_nd (Cs_lf (sg_aload_n dX12_text_0 rfl)) (Cs_nd (Cs_lf (sg_iload_n dX12_text_1 rfl)) (Cs_lf (sg_invV (mid := 124) (ci := 11) (by decide +kernel) dX12_text_2 ok_124 rfl w_1184 w_1186 ws_37)))) (Cs_nd (Cs_lf (sg_ifne dX12_text_5 (by decide))) (Cs_nd (Cs_lf (sg_iconst dX12_text_8 (by decide))) (Cs_lf (sg_iret dX12_text_9 rfl))))) (Cs_nd (Cs_nd (Cs_lf (sg_iload_n dX12_text_10 rfl)) (Cs_nd (Cs_lf (sg_iconst dX12_text_11 (by decide))) (Cs_lf (sg_iconst dX12_text_12 (by decide))))) (Cs_nd (Cs_lf (sg_inv (mid := 123) (by decide +kernel) dX12_text_13 ok_123 w_943 w_944)) (Cs_nd (Cs_lf (sg_ifne dX12_text_16 (by decide))) (Cs_lf (sg_bipush dX12_text_19 (by decide))))))) (Cs_nd (Cs_nd (Cs_nd (Cs_lf (sg_iret dX12_text_21 rfl)) (Cs_nd (Cs_lf (sg_aload_n dX12_text_22 rfl)) (Cs_lf (sg_getf dX12_text_23 rfl inX12 (by decide) w_884)))) (Cs_nd (Cs_lf (sg_iload_n dX12_text_26 rfl)) (Cs_nd (Cs_lf (sg_aald dX12_text_27)) (Cs_lf (sg_astore dX12_text_28 (by decide)))))) (Cs_nd (Cs_nd (Cs_lf (sg_aload dX12_text_30)) (Cs_nd (Cs_lf (sg_iload_n dX12_text_32 rfl)) (Cs_lf (sg_iload_n dX12_text_33 rfl)))) (Cs_nd (Cs_nd (Cs_lf (sg_ifne dX12_text_34 (by decide))) (Cs_lf (sg_iconst dX12_text_37 (by decide)))) (Cs_nd (Cs_lf (sg_goto dX12_text_38 (by decide))) (Cs_lf (sg_iload_n dX12_text_41 rfl))))))) (Cs_nd (Cs_nd (Cs_nd (Cs_nd (Cs_lf (sg_iconst dX12_text_42 (by decide))) (Cs_nd (Cs_lf (sg_cne dX12_text_43 (by decide))) (Cs_lf (sg_bipush dX12_text_46 (by decide))))) (Cs_nd (Cs_lf (sg_goto dX12_text_48 (by decide))) (Cs_nd (Cs_lf (sg_bipush dX12_text_51 (by decide))) (Cs_lf (sg_inv (mid := 134) (by decide +kernel) dX12_text_53 ok_134 w_1074 w_1075))))) (Cs_nd (Cs_nd (Cs_lf (sg_istore dX12_text_56 (by decide))) (Cs_nd (Cs_lf (sg_iload dX12_text_58)) (Cs_lf (sg_ifle dX12_text_60 (by decide))))) (Cs_nd (Cs_nd (Cs_lf (sg_bipush dX12_text_63 (by decide))) (Cs_lf (sg_iload dX12_text_65))) (Cs_nd (Cs_lf (sg_isub dX12_text_67)) (Cs_lf (sg_goto dX12_text_68 (by decide))))))) (Cs_nd (Cs_nd (Cs_nd (Cs_lf (sg_aload_n dX12_text_71 rfl)) (Cs_nd (Cs_lf (sg_aload dX12_text_72)) (Cs_lf (sg_getf dX12_text_74 rfl inX9 (by decide) w_969)))) (Cs_nd (Cs_lf (sg_iload_n dX12_text_77 rfl)) (Cs_nd (Cs_lf (sg_ifne dX12_text_78 (by decide))) (Cs_lf (sg_iload_n dX12_text_81 rfl))))) (Cs_nd (Cs_nd (Cs_lf (sg_goto dX12_text_82 (by decide))) (Cs_nd (Cs_lf (sg_aload dX12_text_85)) (Cs_lf (sg_iload_n dX12_text_87 rfl)))) (Cs_nd (Cs_nd (Cs_lf (sg_invV (mid := 117) (ci := 8) (by decide +kernel) dX12_text_88 ok_117 rfl w_1196 w_1197 w_1198)) (Cs_lf (sg_aald dX12_text_91))) (Cs_nd (Cs_lf (sg_invV (mid := 148) (ci := 11) (by decide +kernel) dX12_text_92 ok_148 rfl w_1218 w_1220 ws_38)) (Cs_lf (sg_iret dX12_text_95 rfl))))))))
theorem dX12_member_0 : decode cX12_member 0 = .ok (.aload_n 0, 1) := by decide +kernel
theorem dX12_member_1 : decode cX12_member 1 = .ok (.iload_n 1, 1) := by decide +kernel
theorem dX12_member_2 : decode cX12_member 2 = .ok (.invokevirtual 180, 3) := by decide +kernel
theorem dX12_member_5 : decode cX12_member 5 = .ok (.ifCond .ne 5, 3) := by decide +kernel
theorem dX12_member_8 : decode cX12_member 8 = .ok (.iconst (-1), 1) := by decide +kernel
theorem dX12_member_9 : decode cX12_member 9 = .ok (.ireturn, 1) := by decide +kernel
theorem dX12_member_10 : decode cX12_member 10 = .ok (.iload_n 2, 1) := by decide +kernel
theorem dX12_member_11 : decode cX12_member 11 = .ok (.iconst 0, 1) := by decide +kernel
theorem dX12_member_12 : decode cX12_member 12 = .ok (.iconst 2, 1) := by decide +kernel
theorem dX12_member_13 : decode cX12_member 13 = .ok (.invokestatic 45, 3) := by decide +kernel
theorem dX12_member_16 : decode cX12_member 16 = .ok (.ifCond .ne 6, 3) := by decide +kernel
theorem dX12_member_19 : decode cX12_member 19 = .ok (.bipush (-2), 2) := by decide +kernel
theorem dX12_member_21 : decode cX12_member 21 = .ok (.ireturn, 1) := by decide +kernel
theorem dX12_member_22 : decode cX12_member 22 = .ok (.aload_n 0, 1) := by decide +kernel
theorem dX12_member_23 : decode cX12_member 23 = .ok (.getfield 11, 3) := by decide +kernel
theorem dX12_member_26 : decode cX12_member 26 = .ok (.iload_n 1, 1) := by decide +kernel
theorem dX12_member_27 : decode cX12_member 27 = .ok (.aaload, 1) := by decide +kernel
theorem dX12_member_28 : decode cX12_member 28 = .ok (.astore 5, 2) := by decide +kernel
theorem dX12_member_30 : decode cX12_member 30 = .ok (.iload_n 2, 1) := by decide +kernel
theorem dX12_member_31 : decode cX12_member 31 = .ok (.iconst 2, 1) := by decide +kernel
theorem dX12_member_32 : decode cX12_member 32 = .ok (.if_icmp .ne 99, 3) := by decide +kernel
theorem dX12_member_35 : decode cX12_member 35 = .ok (.iload_n 3, 1) := by decide +kernel
theorem dX12_member_36 : decode cX12_member 36 = .ok (.iconst 0, 1) := by decide +kernel
theorem dX12_member_37 : decode cX12_member 37 = .ok (.iconst 1, 1) := by decide +kernel
theorem dX12_member_38 : decode cX12_member 38 = .ok (.aload 5, 2) := by decide +kernel
theorem dX12_member_40 : decode cX12_member 40 = .ok (.getfield 93, 3) := by decide +kernel
theorem dX12_member_43 : decode cX12_member 43 = .ok (.iadd, 1) := by decide +kernel
theorem dX12_member_44 : decode cX12_member 44 = .ok (.invokestatic 45, 3) := by decide +kernel
theorem dX12_member_47 : decode cX12_member 47 = .ok (.ifCond .eq 23, 3) := by decide +kernel
theorem dX12_member_50 : decode cX12_member 50 = .ok (.iload_n 3, 1) := by decide +kernel
theorem dX12_member_51 : decode cX12_member 51 = .ok (.iconst 1, 1) := by decide +kernel
theorem dX12_member_52 : decode cX12_member 52 = .ok (.if_icmp .ne 20, 3) := by decide +kernel
theorem dX12_member_55 : decode cX12_member 55 = .ok (.aload 5, 2) := by decide +kernel
theorem dX12_member_57 : decode cX12_member 57 = .ok (.aload 5, 2) := by decide +kernel
theorem dX12_member_59 : decode cX12_member 59 = .ok (.getfield 87, 3) := by decide +kernel
theorem dX12_member_62 : decode cX12_member 62 = .ok (.iconst 4, 1) := by decide +kernel
theorem dX12_member_63 : decode cX12_member 63 = .ok (.iadd, 1) := by decide +kernel
theorem dX12_member_64 : decode cX12_member 64 = .ok (.invokevirtual 73, 3) := by decide +kernel
theorem dX12_member_67 : decode cX12_member 67 = .ok (.ifCond .ne 5, 3) := by decide +kernel
theorem dX12_member_70 : decode cX12_member 70 = .ok (.iconst (-1), 1) := by decide +kernel
theorem dX12_member_71 : decode cX12_member 71 = .ok (.ireturn, 1) := by decide +kernel
theorem dX12_member_72 : decode cX12_member 72 = .ok (.aload 5, 2) := by decide +kernel
theorem dX12_member_74 : decode cX12_member 74 = .ok (.getfield 87, 3) := by decide +kernel
theorem dX12_member_77 : decode cX12_member 77 = .ok (.iload_n 3, 1) := by decide +kernel
theorem dX12_member_78 : decode cX12_member 78 = .ok (.iconst 2, 1) := by decide +kernel
theorem dX12_member_79 : decode cX12_member 79 = .ok (.if_icmp .ge 11, 3) := by decide +kernel
theorem dX12_member_82 : decode cX12_member 82 = .ok (.iconst 2, 1) := by decide +kernel
theorem dX12_member_83 : decode cX12_member 83 = .ok (.iconst 2, 1) := by decide +kernel
theorem dX12_member_84 : decode cX12_member 84 = .ok (.iload_n 3, 1) := by decide +kernel
theorem dX12_member_85 : decode cX12_member 85 = .ok (.imul, 1) := by decide +kernel
theorem dX12_member_86 : decode cX12_member 86 = .ok (.iadd, 1) := by decide +kernel
theorem dX12_member_87 : decode cX12_member 87 = .ok (.goto 8, 3) := by decide +kernel
theorem dX12_member_90 : decode cX12_member 90 = .ok (.iconst 4, 1) := by decide +kernel
theorem dX12_member_91 : decode cX12_member 91 = .ok (.iconst 2, 1) := by decide +kernel
theorem dX12_member_92 : decode cX12_member 92 = .ok (.iload_n 3, 1) := by decide +kernel
theorem dX12_member_93 : decode cX12_member 93 = .ok (.imul, 1) := by decide +kernel
theorem dX12_member_94 : decode cX12_member 94 = .ok (.iadd, 1) := by decide +kernel
theorem dX12_member_95 : decode cX12_member 95 = .ok (.iadd, 1) := by decide +kernel
theorem dX12_member_96 : decode cX12_member 96 = .ok (.istore 6, 2) := by decide +kernel
theorem dX12_member_98 : decode cX12_member 98 = .ok (.iload 4, 2) := by decide +kernel
theorem dX12_member_100 : decode cX12_member 100 = .ok (.ifCond .eq 8, 3) := by decide +kernel
theorem dX12_member_103 : decode cX12_member 103 = .ok (.bipush (-2), 2) := by decide +kernel
theorem dX12_member_105 : decode cX12_member 105 = .ok (.goto 25, 3) := by decide +kernel
theorem dX12_member_108 : decode cX12_member 108 = .ok (.aload_n 0, 1) := by decide +kernel
theorem dX12_member_109 : decode cX12_member 109 = .ok (.aload 5, 2) := by decide +kernel
theorem dX12_member_111 : decode cX12_member 111 = .ok (.getfield 130, 3) := by decide +kernel
theorem dX12_member_114 : decode cX12_member 114 = .ok (.aload 5, 2) := by decide +kernel
theorem dX12_member_116 : decode cX12_member 116 = .ok (.aload 5, 2) := by decide +kernel
theorem dX12_member_118 : decode cX12_member 118 = .ok (.iload 6, 2) := by decide +kernel
theorem dX12_member_120 : decode cX12_member 120 = .ok (.invokevirtual 73, 3) := by decide +kernel
theorem dX12_member_123 : decode cX12_member 123 = .ok (.invokevirtual 183, 3) := by decide +kernel
theorem dX12_member_126 : decode cX12_member 126 = .ok (.aaload, 1) := by decide +kernel
theorem dX12_member_127 : decode cX12_member 127 = .ok (.invokevirtual 193, 3) := by decide +kernel
theorem dX12_member_130 : decode cX12_member 130 = .ok (.ireturn, 1) := by decide +kernel
theorem dX12_member_131 : decode cX12_member 131 = .ok (.iload_n 3, 1) := by decide +kernel
theorem dX12_member_132 : decode cX12_member 132 = .ok (.iconst 0, 1) := by decide +kernel
theorem dX12_member_133 : decode cX12_member 133 = .ok (.aload 5, 2) := by decide +kernel
theorem dX12_member_135 : decode cX12_member 135 = .ok (.getfield 96, 3) := by decide +kernel
theorem dX12_member_138 : decode cX12_member 138 = .ok (.iload_n 2, 1) := by decide +kernel
theorem dX12_member_139 : decode cX12_member 139 = .ok (.iaload, 1) := by decide +kernel
theorem dX12_member_140 : decode cX12_member 140 = .ok (.iconst 1, 1) := by decide +kernel
theorem dX12_member_141 : decode cX12_member 141 = .ok (.isub, 1) := by decide +kernel
theorem dX12_member_142 : decode cX12_member 142 = .ok (.invokestatic 45, 3) := by decide +kernel
theorem dX12_member_145 : decode cX12_member 145 = .ok (.ifCond .ne 5, 3) := by decide +kernel
theorem dX12_member_148 : decode cX12_member 148 = .ok (.iconst (-1), 1) := by decide +kernel
theorem dX12_member_149 : decode cX12_member 149 = .ok (.ireturn, 1) := by decide +kernel
theorem dX12_member_150 : decode cX12_member 150 = .ok (.iload 4, 2) := by decide +kernel
theorem dX12_member_152 : decode cX12_member 152 = .ok (.iconst 0, 1) := by decide +kernel
theorem dX12_member_153 : decode cX12_member 153 = .ok (.iconst 1, 1) := by decide +kernel
theorem dX12_member_154 : decode cX12_member 154 = .ok (.invokestatic 45, 3) := by decide +kernel
theorem dX12_member_157 : decode cX12_member 157 = .ok (.ifCond .ne 8, 3) := by decide +kernel
theorem dX12_member_160 : decode cX12_member 160 = .ok (.bipush (-2), 2) := by decide +kernel
theorem dX12_member_162 : decode cX12_member 162 = .ok (.goto 37, 3) := by decide +kernel
theorem dX12_member_165 : decode cX12_member 165 = .ok (.aload_n 0, 1) := by decide +kernel
theorem dX12_member_166 : decode cX12_member 166 = .ok (.aload 5, 2) := by decide +kernel
theorem dX12_member_168 : decode cX12_member 168 = .ok (.getfield 130, 3) := by decide +kernel
theorem dX12_member_171 : decode cX12_member 171 = .ok (.aload 5, 2) := by decide +kernel
theorem dX12_member_173 : decode cX12_member 173 = .ok (.aload 5, 2) := by decide +kernel
theorem dX12_member_175 : decode cX12_member 175 = .ok (.getfield 110, 3) := by decide +kernel
theorem dX12_member_178 : decode cX12_member 178 = .ok (.iload_n 2, 1) := by decide +kernel
theorem dX12_member_179 : decode cX12_member 179 = .ok (.aaload, 1) := by decide +kernel
theorem dX12_member_180 : decode cX12_member 180 = .ok (.iload_n 3, 1) := by decide +kernel
theorem dX12_member_181 : decode cX12_member 181 = .ok (.aaload, 1) := by decide +kernel
theorem dX12_member_182 : decode cX12_member 182 = .ok (.getfield 102, 3) := by decide +kernel
theorem dX12_member_185 : decode cX12_member 185 = .ok (.iconst 2, 1) := by decide +kernel
theorem dX12_member_186 : decode cX12_member 186 = .ok (.iadd, 1) := by decide +kernel
theorem dX12_member_187 : decode cX12_member 187 = .ok (.iconst 2, 1) := by decide +kernel
theorem dX12_member_188 : decode cX12_member 188 = .ok (.iload 4, 2) := by decide +kernel
theorem dX12_member_190 : decode cX12_member 190 = .ok (.imul, 1) := by decide +kernel
theorem dX12_member_191 : decode cX12_member 191 = .ok (.iadd, 1) := by decide +kernel
theorem dX12_member_192 : decode cX12_member 192 = .ok (.invokevirtual 73, 3) := by decide +kernel
theorem dX12_member_195 : decode cX12_member 195 = .ok (.aaload, 1) := by decide +kernel
theorem dX12_member_196 : decode cX12_member 196 = .ok (.invokevirtual 193, 3) := by decide +kernel
theorem dX12_member_199 : decode cX12_member 199 = .ok (.ireturn, 1) := by decide +kernel
set_option maxRecDepth 20000 in
theorem s_MO_member (E : XE) : Cs E (yX12_member, cX12_member, 7, some .int) (k_MO_member) := (Cs_nd (Cs_nd (Cs_nd (Cs_nd (Cs_nd (Cs_nd (Cs_lf (sg_aload_n dX12_member_0 rfl)) (Cs_nd (Cs_lf (sg_iload_n dX12_member_1 rfl)) (Cs_lf (sg_invV (mid := 124) (ci := 11) (by decide +kernel) dX12_member_2 ok_124 rfl w_1184 w_1186 ws_37)))) (Cs_nd (Cs_nd (Cs_lf (sg_ifne dX12_member_5 (by decide))) (Cs_lf (sg_iconst dX12_member_8 (by decide)))) (Cs_nd (Cs_lf (sg_iret dX12_member_9 rfl)) (Cs_lf (sg_iload_n dX12_member_10 rfl))))) (Cs_nd (Cs_nd (Cs_lf (sg_iconst dX12_member_11 (by decide))) (Cs_nd (Cs_lf (sg_iconst dX12_member_12 (by decide))) (Cs_lf (sg_inv (mid := 123) (by decide +kernel) dX12_member_13 ok_123 w_943 w_944)))) (Cs_nd (Cs_nd (Cs_lf (sg_ifne dX12_member_16 (by decide))) (Cs_lf (sg_bipush dX12_member_19 (by decide)))) (Cs_nd (Cs_lf (sg_iret dX12_member_21 rfl)) (Cs_lf (sg_aload_n dX12_member_22 rfl)))))) (Cs_nd (Cs_nd (Cs_nd (Cs_lf (sg_getf dX12_member_23 rfl inX12 (by decide) w_884)) (Cs_nd (Cs_lf (sg_iload_n dX12_member_26 rfl)) (Cs_lf (sg_aald dX12_member_27)))) (Cs_nd (Cs_nd (Cs_lf (sg_astore dX12_member_28 (by decide))) (Cs_lf (sg_iload_n dX12_member_30 rfl))) (Cs_nd (Cs_lf (sg_iconst dX12_member_31 (by decide))) (Cs_lf (sg_cne dX12_member_32 (by decide)))))) (Cs_nd (Cs_nd (Cs_lf (sg_iload_n dX12_member_35 rfl)) (Cs_nd (Cs_lf (sg_iconst dX12_member_36 (by decide))) (Cs_lf (sg_iconst dX12_member_37 (by decide))))) (Cs_nd (Cs_nd (Cs_lf (sg_aload dX12_member_38)) (Cs_lf (sg_getf dX12_member_40 rfl inX9 (by decide) w_971))) (Cs_nd (Cs_lf (sg_iadd dX12_member_43)) (Cs_lf (sg_inv (mid := 123) (by decide +kernel) dX12_member_44 ok_123 w_943 w_944))))))) (Cs_nd (Cs_nd (Cs_nd (Cs_nd (Cs_lf (sg_ifeq dX12_member_47 (by decide))) (Cs_nd (Cs_lf (sg_iload_n dX12_member_50 rfl)) (Cs_lf (sg_iconst dX12_member_51 (by decide))))) (Cs_nd (Cs_nd (Cs_lf (sg_cne dX12_member_52 (by decide))) (Cs_lf (sg_aload dX12_member_55))) (Cs_nd (Cs_lf (sg_aload dX12_member_57)) (Cs_lf (sg_getf dX12_member_59 rfl inX9 (by decide) w_970))))) (Cs_nd (Cs_nd (Cs_lf (sg_iconst dX12_member_62 (by decide))) (Cs_nd (Cs_lf (sg_iadd dX12_member_63)) (Cs_lf (sg_invV (mid := 114) (ci := 8) (by decide +kernel) dX12_member_64 ok_114 rfl w_1018 w_1019 w_1020)))) (Cs_nd (Cs_nd (Cs_lf (sg_ifne dX12_member_67 (by decide))) (Cs_lf (sg_iconst dX12_member_70 (by decide)))) (Cs_nd (Cs_lf (sg_iret dX12_member_71 rfl)) (Cs_lf (sg_aload dX12_member_72)))))) (Cs_nd (Cs_nd (Cs_nd (Cs_lf (sg_getf dX12_member_74 rfl inX9 (by decide) w_970)) (Cs_nd (Cs_lf (sg_iload_n dX12_member_77 rfl)) (Cs_lf (sg_iconst dX12_member_78 (by decide))))) (Cs_nd (Cs_nd (Cs_lf (sg_cge dX12_member_79 (by decide))) (Cs_lf (sg_iconst dX12_member_82 (by decide)))) (Cs_nd (Cs_lf (sg_iconst dX12_member_83 (by decide))) (Cs_lf (sg_iload_n dX12_member_84 rfl))))) (Cs_nd (Cs_nd (Cs_nd (Cs_lf (sg_imul dX12_member_85)) (Cs_lf (sg_iadd dX12_member_86))) (Cs_nd (Cs_lf (sg_goto dX12_member_87 (by decide))) (Cs_lf (sg_iconst dX12_member_90 (by decide))))) (Cs_nd (Cs_nd (Cs_lf (sg_iconst dX12_member_91 (by decide))) (Cs_lf (sg_iload_n dX12_member_92 rfl))) (Cs_nd (Cs_lf (sg_imul dX12_member_93)) (Cs_lf (sg_iadd dX12_member_94)))))))) (Cs_nd (Cs_nd (Cs_nd (Cs_nd (Cs_nd (Cs_lf (sg_iadd dX12_member_95)) (Cs_nd (Cs_lf (sg_istore dX12_member_96 (by decide))) (Cs_lf (sg_iload dX12_member_98)))) (Cs_nd (Cs_nd (Cs_lf (sg_ifeq dX12_member_100 (by decide))) (Cs_lf (sg_bipush dX12_member_103 (by decide)))) (Cs_nd (Cs_lf (sg_goto dX12_member_105 (by decide))) (Cs_lf (sg_aload_n dX12_member_108 rfl))))) (Cs_nd (Cs_nd (Cs_lf (sg_aload dX12_member_109)) (Cs_nd (Cs_lf (sg_getf dX12_member_111 rfl inX9 (by decide) w_969)) (Cs_lf (sg_aload dX12_member_114)))) (Cs_nd (Cs_nd (Cs_lf (sg_aload dX12_member_116)) (Cs_lf (sg_iload dX12_member_118))) (Cs_nd (Cs_lf (sg_invV (mid := 114) (ci := 8) (by decide +kernel) dX12_member_120 ok_114 rfl w_1018 w_1019 w_1020)) (Cs_lf (sg_invV (mid := 117) (ci := 8) (by decide +kernel) dX12_member_123 ok_117 rfl w_1196 w_1197 w_1198)))))) (Cs_nd (Cs_nd (Cs_nd (Cs_lf (sg_aald dX12_member_126)) (Cs_nd (Cs_lf (sg_invV (mid := 148) (ci := 11) (by decide +kernel) dX12_member_127 ok_148 rfl w_1218 w_1220 ws_38)) (Cs_lf (sg_iret dX12_member_130 rfl)))) (Cs_nd (Cs_nd (Cs_lf (sg_iload_n dX12_member_131 rfl)) (Cs_lf (sg_iconst dX12_member_132 (by decide)))) (Cs_nd (Cs_lf (sg_aload dX12_member_133)) (Cs_lf (sg_getf dX12_member_135 rfl inX9 (by decide) w_975))))) (Cs_nd (Cs_nd (Cs_lf (sg_iload_n dX12_member_138 rfl)) (Cs_nd (Cs_lf (sg_iald dX12_member_139)) (Cs_lf (sg_iconst dX12_member_140 (by decide))))) (Cs_nd (Cs_nd (Cs_lf (sg_isub dX12_member_141)) (Cs_lf (sg_inv (mid := 123) (by decide +kernel) dX12_member_142 ok_123 w_943 w_944))) (Cs_nd (Cs_lf (sg_ifne dX12_member_145 (by decide))) (Cs_lf (sg_iconst dX12_member_148 (by decide)))))))) (Cs_nd (Cs_nd (Cs_nd (Cs_nd (Cs_lf (sg_iret dX12_member_149 rfl)) (Cs_nd (Cs_lf (sg_iload dX12_member_150)) (Cs_lf (sg_iconst dX12_member_152 (by decide))))) (Cs_nd (Cs_nd (Cs_lf (sg_iconst dX12_member_153 (by decide))) (Cs_lf (sg_inv (mid := 123) (by decide +kernel) dX12_member_154 ok_123 w_943 w_944))) (Cs_nd (Cs_lf (sg_ifne dX12_member_157 (by decide))) (Cs_lf (sg_bipush dX12_member_160 (by decide)))))) (Cs_nd (Cs_nd (Cs_lf (sg_goto dX12_member_162 (by decide))) (Cs_nd (Cs_lf (sg_aload_n dX12_member_165 rfl)) (Cs_lf (sg_aload dX12_member_166)))) (Cs_nd (Cs_nd (Cs_lf (sg_getf dX12_member_168 rfl inX9 (by decide) w_969)) (Cs_lf (sg_aload dX12_member_171))) (Cs_nd (Cs_lf (sg_aload dX12_member_173)) (Cs_lf (sg_getf dX12_member_175 rfl inX9 (by decide) w_973)))))) (Cs_nd (Cs_nd (Cs_nd (Cs_lf (sg_iload_n dX12_member_178 rfl)) (Cs_nd (Cs_lf (sg_aald dX12_member_179)) (Cs_lf (sg_iload_n dX12_member_180 rfl)))) (Cs_nd (Cs_nd (Cs_lf (sg_aald dX12_member_181)) (Cs_lf (sg_getf dX12_member_182 rfl inX11 (by decide) w_1036))) (Cs_nd (Cs_lf (sg_iconst dX12_member_185 (by decide))) (Cs_lf (sg_iadd dX12_member_186))))) (Cs_nd (Cs_nd (Cs_nd (Cs_lf (sg_iconst dX12_member_187 (by decide))) (Cs_lf (sg_iload dX12_member_188))) (Cs_nd (Cs_lf (sg_imul dX12_member_190)) (Cs_lf (sg_iadd dX12_member_191)))) (Cs_nd (Cs_nd (Cs_lf (sg_invV (mid := 114) (ci := 8) (by decide +kernel) dX12_member_192 ok_114 rfl w_1018 w_1019 w_1020)) (Cs_lf (sg_aald dX12_member_195))) (Cs_nd (Cs_lf (sg_invV (mid := 148) (ci := 11) (by decide +kernel) dX12_member_196 ok_148 rfl w_1218 w_1220 ws_38)) (Cs_lf (sg_iret dX12_member_199 rfl)))))))))
theorem dX12_told_0 : decode cX12_told 0 = .ok (.aload_n 0, 1) := by decide +kernel
theorem dX12_told_1 : decode cX12_told 1 = .ok (.iload_n 1, 1) := by decide +kernel
theorem dX12_told_2 : decode cX12_told 2 = .ok (.invokevirtual 180, 3) := by decide +kernel
theorem dX12_told_5 : decode cX12_told 5 = .ok (.ifCond .ne 5, 3) := by decide +kernel
theorem dX12_told_8 : decode cX12_told 8 = .ok (.iconst (-1), 1) := by decide +kernel
theorem dX12_told_9 : decode cX12_told 9 = .ok (.ireturn, 1) := by decide +kernel
theorem dX12_told_10 : decode cX12_told 10 = .ok (.iload_n 2, 1) := by decide +kernel
theorem dX12_told_11 : decode cX12_told 11 = .ok (.iconst 0, 1) := by decide +kernel
theorem dX12_told_12 : decode cX12_told 12 = .ok (.iconst 1, 1) := by decide +kernel
theorem dX12_told_13 : decode cX12_told 13 = .ok (.invokestatic 45, 3) := by decide +kernel
theorem dX12_told_16 : decode cX12_told 16 = .ok (.ifCond .ne 6, 3) := by decide +kernel
theorem dX12_told_19 : decode cX12_told 19 = .ok (.bipush (-2), 2) := by decide +kernel
theorem dX12_told_21 : decode cX12_told 21 = .ok (.ireturn, 1) := by decide +kernel
theorem dX12_told_22 : decode cX12_told 22 = .ok (.aload_n 0, 1) := by decide +kernel
theorem dX12_told_23 : decode cX12_told 23 = .ok (.getfield 11, 3) := by decide +kernel
theorem dX12_told_26 : decode cX12_told 26 = .ok (.iload_n 1, 1) := by decide +kernel
theorem dX12_told_27 : decode cX12_told 27 = .ok (.aaload, 1) := by decide +kernel
theorem dX12_told_28 : decode cX12_told 28 = .ok (.astore 5, 2) := by decide +kernel
theorem dX12_told_30 : decode cX12_told 30 = .ok (.iload_n 3, 1) := by decide +kernel
theorem dX12_told_31 : decode cX12_told 31 = .ok (.iconst 0, 1) := by decide +kernel
theorem dX12_told_32 : decode cX12_told 32 = .ok (.aload 5, 2) := by decide +kernel
theorem dX12_told_34 : decode cX12_told 34 = .ok (.getfield 96, 3) := by decide +kernel
theorem dX12_told_37 : decode cX12_told 37 = .ok (.iload_n 2, 1) := by decide +kernel
theorem dX12_told_38 : decode cX12_told 38 = .ok (.iaload, 1) := by decide +kernel
theorem dX12_told_39 : decode cX12_told 39 = .ok (.iconst 1, 1) := by decide +kernel
theorem dX12_told_40 : decode cX12_told 40 = .ok (.isub, 1) := by decide +kernel
theorem dX12_told_41 : decode cX12_told 41 = .ok (.invokestatic 45, 3) := by decide +kernel
theorem dX12_told_44 : decode cX12_told 44 = .ok (.ifCond .ne 5, 3) := by decide +kernel
theorem dX12_told_47 : decode cX12_told 47 = .ok (.iconst (-1), 1) := by decide +kernel
theorem dX12_told_48 : decode cX12_told 48 = .ok (.ireturn, 1) := by decide +kernel
theorem dX12_told_49 : decode cX12_told 49 = .ok (.aload 5, 2) := by decide +kernel
theorem dX12_told_51 : decode cX12_told 51 = .ok (.getfield 110, 3) := by decide +kernel
theorem dX12_told_54 : decode cX12_told 54 = .ok (.iload_n 2, 1) := by decide +kernel
theorem dX12_told_55 : decode cX12_told 55 = .ok (.aaload, 1) := by decide +kernel
theorem dX12_told_56 : decode cX12_told 56 = .ok (.iload_n 3, 1) := by decide +kernel
theorem dX12_told_57 : decode cX12_told 57 = .ok (.aaload, 1) := by decide +kernel
theorem dX12_told_58 : decode cX12_told 58 = .ok (.astore 6, 2) := by decide +kernel
theorem dX12_told_60 : decode cX12_told 60 = .ok (.aload_n 0, 1) := by decide +kernel
theorem dX12_told_61 : decode cX12_told 61 = .ok (.aload 5, 2) := by decide +kernel
theorem dX12_told_63 : decode cX12_told 63 = .ok (.iload_n 2, 1) := by decide +kernel
theorem dX12_told_64 : decode cX12_told 64 = .ok (.iload_n 3, 1) := by decide +kernel
theorem dX12_told_65 : decode cX12_told 65 = .ok (.invokevirtual 172, 3) := by decide +kernel
theorem dX12_told_68 : decode cX12_told 68 = .ok (.astore 7, 2) := by decide +kernel
theorem dX12_told_70 : decode cX12_told 70 = .ok (.iload_n 2, 1) := by decide +kernel
theorem dX12_told_71 : decode cX12_told 71 = .ok (.ifCond .ne 12, 3) := by decide +kernel
theorem dX12_told_74 : decode cX12_told 74 = .ok (.aload 7, 2) := by decide +kernel
theorem dX12_told_76 : decode cX12_told 76 = .ok (.iconst 0, 1) := by decide +kernel
theorem dX12_told_77 : decode cX12_told 77 = .ok (.invokestatic 197, 3) := by decide +kernel
theorem dX12_told_80 : decode cX12_told 80 = .ok (.goto 4, 3) := by decide +kernel
theorem dX12_told_83 : decode cX12_told 83 = .ok (.iconst 0, 1) := by decide +kernel
theorem dX12_told_84 : decode cX12_told 84 = .ok (.istore 8, 2) := by decide +kernel
theorem dX12_told_86 : decode cX12_told 86 = .ok (.iconst 0, 1) := by decide +kernel
theorem dX12_told_87 : decode cX12_told 87 = .ok (.istore 9, 2) := by decide +kernel
theorem dX12_told_89 : decode cX12_told 89 = .ok (.iconst 1, 1) := by decide +kernel
theorem dX12_told_90 : decode cX12_told 90 = .ok (.istore 10, 2) := by decide +kernel
theorem dX12_told_92 : decode cX12_told 92 = .ok (.iload_n 2, 1) := by decide +kernel
theorem dX12_told_93 : decode cX12_told 93 = .ok (.iconst 1, 1) := by decide +kernel
theorem dX12_told_94 : decode cX12_told 94 = .ok (.if_icmp .ne 40, 3) := by decide +kernel
theorem dX12_told_97 : decode cX12_told 97 = .ok (.aload 7, 2) := by decide +kernel
theorem dX12_told_99 : decode cX12_told 99 = .ok (.iload 10, 2) := by decide +kernel
theorem dX12_told_101 : decode cX12_told 101 = .ok (.baload, 1) := by decide +kernel
theorem dX12_told_102 : decode cX12_told 102 = .ok (.bipush 41, 2) := by decide +kernel
theorem dX12_told_104 : decode cX12_told 104 = .ok (.if_icmp .eq 30, 3) := by decide +kernel
theorem dX12_told_107 : decode cX12_told 107 = .ok (.iload 8, 2) := by decide +kernel
theorem dX12_told_109 : decode cX12_told 109 = .ok (.aload 7, 2) := by decide +kernel
theorem dX12_told_111 : decode cX12_told 111 = .ok (.iload 10, 2) := by decide +kernel
theorem dX12_told_113 : decode cX12_told 113 = .ok (.invokestatic 197, 3) := by decide +kernel
theorem dX12_told_116 : decode cX12_told 116 = .ok (.iadd, 1) := by decide +kernel
theorem dX12_told_117 : decode cX12_told 117 = .ok (.istore 8, 2) := by decide +kernel
theorem dX12_told_119 : decode cX12_told 119 = .ok (.iinc 9 1, 3) := by decide +kernel
theorem dX12_told_122 : decode cX12_told 122 = .ok (.aload 7, 2) := by decide +kernel
theorem dX12_told_124 : decode cX12_told 124 = .ok (.iload 10, 2) := by decide +kernel
theorem dX12_told_126 : decode cX12_told 126 = .ok (.invokestatic 162, 3) := by decide +kernel
theorem dX12_told_129 : decode cX12_told 129 = .ok (.istore 10, 2) := by decide +kernel
theorem dX12_told_131 : decode cX12_told 131 = .ok (.goto (-39), 3) := by decide +kernel
theorem dX12_told_134 : decode cX12_told 134 = .ok (.iload 4, 2) := by decide +kernel
theorem dX12_told_136 : decode cX12_told 136 = .ok (.tableswitch 58 0 3 #[32, 43, 52, 55], 32) := by decide +kernel
theorem dX12_told_168 : decode cX12_told 168 = .ok (.aload 5, 2) := by decide +kernel
theorem dX12_told_170 : decode cX12_told 170 = .ok (.aload 6, 2) := by decide +kernel
theorem dX12_told_172 : decode cX12_told 172 = .ok (.getfield 102, 3) := by decide +kernel
theorem dX12_told_175 : decode cX12_told 175 = .ok (.invokevirtual 73, 3) := by decide +kernel
theorem dX12_told_178 : decode cX12_told 178 = .ok (.ireturn, 1) := by decide +kernel
theorem dX12_told_179 : decode cX12_told 179 = .ok (.aload 6, 2) := by decide +kernel
theorem dX12_told_181 : decode cX12_told 181 = .ok (.getfield 107, 3) := by decide +kernel
theorem dX12_told_184 : decode cX12_told 184 = .ok (.getfield 120, 3) := by decide +kernel
theorem dX12_told_187 : decode cX12_told 187 = .ok (.ireturn, 1) := by decide +kernel
theorem dX12_told_188 : decode cX12_told 188 = .ok (.iload 8, 2) := by decide +kernel
theorem dX12_told_190 : decode cX12_told 190 = .ok (.ireturn, 1) := by decide +kernel
theorem dX12_told_191 : decode cX12_told 191 = .ok (.iload 9, 2) := by decide +kernel
theorem dX12_told_193 : decode cX12_told 193 = .ok (.ireturn, 1) := by decide +kernel
theorem dX12_told_194 : decode cX12_told 194 = .ok (.bipush (-2), 2) := by decide +kernel
theorem dX12_told_196 : decode cX12_told 196 = .ok (.ireturn, 1) := by decide +kernel
set_option maxRecDepth 20000 in
theorem s_MO_told (E : XE) : Cs E (yX12_told, cX12_told, 11, some .int) (k_MO_told) := (Cs_nd (Cs_nd (Cs_nd (Cs_nd (Cs_nd (Cs_nd (Cs_lf (sg_aload_n dX12_told_0 rfl)) (Cs_lf (sg_iload_n dX12_told_1 rfl))) (Cs_nd (Cs_lf (sg_invV (mid := 124) (ci := 11) (by decide +kernel) dX12_told_2 ok_124 rfl w_1184 w_1186 ws_37)) (Cs_nd (Cs_lf (sg_ifne dX12_told_5 (by decide))) (Cs_lf (sg_iconst dX12_told_8 (by decide)))))) (Cs_nd (Cs_nd (Cs_lf (sg_iret dX12_told_9 rfl)) (Cs_nd (Cs_lf (sg_iload_n dX12_told_10 rfl)) (Cs_lf (sg_iconst dX12_told_11 (by decide))))) (Cs_nd (Cs_lf (sg_iconst dX12_told_12 (by decide))) (Cs_nd (Cs_lf (sg_inv (mid := 123) (by decide +kernel) dX12_told_13 ok_123 w_943 w_944)) (Cs_lf (sg_ifne dX12_told_16 (by decide))))))) (Cs_nd (Cs_nd (Cs_nd (Cs_lf (sg_bipush dX12_told_19 (by decide))) (Cs_nd (Cs_lf (sg_iret dX12_told_21 rfl)) (Cs_lf (sg_aload_n dX12_told_22 rfl)))) (Cs_nd (Cs_lf (sg_getf dX12_told_23 rfl inX12 (by decide) w_884)) (Cs_nd (Cs_lf (sg_iload_n dX12_told_26 rfl)) (Cs_lf (sg_aald dX12_told_27))))) (Cs_nd (Cs_nd (Cs_lf (sg_astore dX12_told_28 (by decide))) (Cs_nd (Cs_lf (sg_iload_n dX12_told_30 rfl)) (Cs_lf (sg_iconst dX12_told_31 (by decide))))) (Cs_nd (Cs_lf (sg_aload dX12_told_32)) (Cs_nd (Cs_lf (sg_getf dX12_told_34 rfl inX9 (by decide) w_975)) (Cs_lf (sg_iload_n dX12_told_37 rfl))))))) (Cs_nd (Cs_nd (Cs_nd (Cs_nd (Cs_lf (sg_iald dX12_told_38)) (Cs_lf (sg_iconst dX12_told_39 (by decide)))) (Cs_nd (Cs_lf (sg_isub dX12_told_40)) (Cs_nd (Cs_lf (sg_inv (mid := 123) (by decide +kernel) dX12_told_41 ok_123 w_943 w_944)) (Cs_lf (sg_ifne dX12_told_44 (by decide)))))) (Cs_nd (Cs_nd (Cs_lf (sg_iconst dX12_told_47 (by decide))) (Cs_nd (Cs_lf (sg_iret dX12_told_48 rfl)) (Cs_lf (sg_aload dX12_told_49)))) (Cs_nd (Cs_lf (sg_getf dX12_told_51 rfl inX9 (by decide) w_973)) (Cs_nd (Cs_lf (sg_iload_n dX12_told_54 rfl)) (Cs_lf (sg_aald dX12_told_55)))))) (Cs_nd (Cs_nd (Cs_nd (Cs_lf (sg_iload_n dX12_told_56 rfl)) (Cs_nd (Cs_lf (sg_aald dX12_told_57)) (Cs_lf (sg_astore dX12_told_58 (by decide))))) (Cs_nd (Cs_lf (sg_aload_n dX12_told_60 rfl)) (Cs_nd (Cs_lf (sg_aload dX12_told_61)) (Cs_lf (sg_iload_n dX12_told_63 rfl))))) (Cs_nd (Cs_nd (Cs_lf (sg_iload_n dX12_told_64 rfl)) (Cs_nd (Cs_lf (sg_invV (mid := 141) (ci := 11) (by decide +kernel) dX12_told_65 ok_141 rfl w_1081 w_1083 ws_36)) (Cs_lf (sg_astore dX12_told_68 (by decide))))) (Cs_nd (Cs_lf (sg_iload_n dX12_told_70 rfl)) (Cs_nd (Cs_lf (sg_ifne dX12_told_71 (by decide))) (Cs_lf (sg_aload dX12_told_74)))))))) (Cs_nd (Cs_nd (Cs_nd (Cs_nd (Cs_nd (Cs_lf (sg_iconst dX12_told_76 (by decide))) (Cs_lf (sg_inv (mid := 139) (by decide +kernel) dX12_told_77 ok_139 w_1230 w_1231))) (Cs_nd (Cs_lf (sg_goto dX12_told_80 (by decide))) (Cs_nd (Cs_lf (sg_iconst dX12_told_83 (by decide))) (Cs_lf (sg_istore dX12_told_84 (by decide)))))) (Cs_nd (Cs_nd (Cs_lf (sg_iconst dX12_told_86 (by decide))) (Cs_nd (Cs_lf (sg_istore dX12_told_87 (by decide))) (Cs_lf (sg_iconst dX12_told_89 (by decide))))) (Cs_nd (Cs_lf (sg_istore dX12_told_90 (by decide))) (Cs_nd (Cs_lf (sg_iload_n dX12_told_92 rfl)) (Cs_lf (sg_iconst dX12_told_93 (by decide))))))) (Cs_nd (Cs_nd (Cs_nd (Cs_lf (sg_cne dX12_told_94 (by decide))) (Cs_nd (Cs_lf (sg_aload dX12_told_97)) (Cs_lf (sg_iload dX12_told_99)))) (Cs_nd (Cs_lf (sg_bald dX12_told_101)) (Cs_nd (Cs_lf (sg_bipush dX12_told_102 (by decide))) (Cs_lf (sg_ceq dX12_told_104 (by decide)))))) (Cs_nd (Cs_nd (Cs_lf (sg_iload dX12_told_107)) (Cs_nd (Cs_lf (sg_aload dX12_told_109)) (Cs_lf (sg_iload dX12_told_111)))) (Cs_nd (Cs_lf (sg_inv (mid := 139) (by decide +kernel) dX12_told_113 ok_139 w_1230 w_1231)) (Cs_nd (Cs_lf (sg_iadd dX12_told_116)) (Cs_lf (sg_istore dX12_told_117 (by decide)))))))) (Cs_nd (Cs_nd (Cs_nd (Cs_nd (Cs_lf (sg_iinc dX12_told_119 (by decide) (by decide))) (Cs_lf (sg_aload dX12_told_122))) (Cs_nd (Cs_lf (sg_iload dX12_told_124)) (Cs_nd (Cs_lf (sg_inv (mid := 138) (by decide +kernel) dX12_told_126 ok_138 w_1088 w_1089)) (Cs_lf (sg_istore dX12_told_129 (by decide)))))) (Cs_nd (Cs_nd (Cs_lf (sg_goto dX12_told_131 (by decide))) (Cs_nd (Cs_lf (sg_iload dX12_told_134)) (Cs_lf (sg_table dX12_told_136 rfl (by decide) (by decide +kernel) (by decide))))) (Cs_nd (Cs_lf (sg_aload dX12_told_168)) (Cs_nd (Cs_lf (sg_aload dX12_told_170)) (Cs_lf (sg_getf dX12_told_172 rfl inX11 (by decide) w_1036)))))) (Cs_nd (Cs_nd (Cs_nd (Cs_lf (sg_invV (mid := 114) (ci := 8) (by decide +kernel) dX12_told_175 ok_114 rfl w_1018 w_1019 w_1020)) (Cs_nd (Cs_lf (sg_iret dX12_told_178 rfl)) (Cs_lf (sg_aload dX12_told_179)))) (Cs_nd (Cs_lf (sg_getf dX12_told_181 rfl inX11 (by decide) w_1037)) (Cs_nd (Cs_lf (sg_getf dX12_told_184 rfl inX8 (by decide) w_1053)) (Cs_lf (sg_iret dX12_told_187 rfl))))) (Cs_nd (Cs_nd (Cs_lf (sg_iload dX12_told_188)) (Cs_nd (Cs_lf (sg_iret dX12_told_190 rfl)) (Cs_lf (sg_iload dX12_told_191)))) (Cs_nd (Cs_lf (sg_iret dX12_told_193 rfl)) (Cs_nd (Cs_lf (sg_bipush dX12_told_194 (by decide))) (Cs_lf (sg_iret dX12_told_196 rfl)))))))))
theorem dX12_attribute_0 : decode cX12_attribute 0 = .ok (.aload_n 0, 1) := by decide +kernel
theorem dX12_attribute_1 : decode cX12_attribute 1 = .ok (.iload_n 1, 1) := by decide +kernel
theorem dX12_attribute_2 : decode cX12_attribute 2 = .ok (.invokevirtual 180, 3) := by decide +kernel
theorem dX12_attribute_5 : decode cX12_attribute 5 = .ok (.ifCond .ne 5, 3) := by decide +kernel
theorem dX12_attribute_8 : decode cX12_attribute 8 = .ok (.iconst (-1), 1) := by decide +kernel
theorem dX12_attribute_9 : decode cX12_attribute 9 = .ok (.ireturn, 1) := by decide +kernel
theorem dX12_attribute_10 : decode cX12_attribute 10 = .ok (.iload_n 2, 1) := by decide +kernel
theorem dX12_attribute_11 : decode cX12_attribute 11 = .ok (.iconst 0, 1) := by decide +kernel
theorem dX12_attribute_12 : decode cX12_attribute 12 = .ok (.iconst 2, 1) := by decide +kernel
theorem dX12_attribute_13 : decode cX12_attribute 13 = .ok (.invokestatic 45, 3) := by decide +kernel
theorem dX12_attribute_16 : decode cX12_attribute 16 = .ok (.ifCond .ne 6, 3) := by decide +kernel
theorem dX12_attribute_19 : decode cX12_attribute 19 = .ok (.bipush (-2), 2) := by decide +kernel
theorem dX12_attribute_21 : decode cX12_attribute 21 = .ok (.ireturn, 1) := by decide +kernel
theorem dX12_attribute_22 : decode cX12_attribute 22 = .ok (.aload_n 0, 1) := by decide +kernel
theorem dX12_attribute_23 : decode cX12_attribute 23 = .ok (.getfield 11, 3) := by decide +kernel
theorem dX12_attribute_26 : decode cX12_attribute 26 = .ok (.iload_n 1, 1) := by decide +kernel
theorem dX12_attribute_27 : decode cX12_attribute 27 = .ok (.aaload, 1) := by decide +kernel
theorem dX12_attribute_28 : decode cX12_attribute 28 = .ok (.astore 6, 2) := by decide +kernel
theorem dX12_attribute_30 : decode cX12_attribute 30 = .ok (.iload_n 2, 1) := by decide +kernel
theorem dX12_attribute_31 : decode cX12_attribute 31 = .ok (.iconst 2, 1) := by decide +kernel
theorem dX12_attribute_32 : decode cX12_attribute 32 = .ok (.if_icmp .ne 10, 3) := by decide +kernel
theorem dX12_attribute_35 : decode cX12_attribute 35 = .ok (.iload_n 3, 1) := by decide +kernel
theorem dX12_attribute_36 : decode cX12_attribute 36 = .ok (.ifCond .eq 25, 3) := by decide +kernel
theorem dX12_attribute_39 : decode cX12_attribute 39 = .ok (.goto 20, 3) := by decide +kernel
theorem dX12_attribute_42 : decode cX12_attribute 42 = .ok (.iload_n 3, 1) := by decide +kernel
theorem dX12_attribute_43 : decode cX12_attribute 43 = .ok (.iconst 0, 1) := by decide +kernel
theorem dX12_attribute_44 : decode cX12_attribute 44 = .ok (.aload 6, 2) := by decide +kernel
theorem dX12_attribute_46 : decode cX12_attribute 46 = .ok (.getfield 96, 3) := by decide +kernel
theorem dX12_attribute_49 : decode cX12_attribute 49 = .ok (.iload_n 2, 1) := by decide +kernel
theorem dX12_attribute_50 : decode cX12_attribute 50 = .ok (.iaload, 1) := by decide +kernel
theorem dX12_attribute_51 : decode cX12_attribute 51 = .ok (.iconst 1, 1) := by decide +kernel
theorem dX12_attribute_52 : decode cX12_attribute 52 = .ok (.isub, 1) := by decide +kernel
theorem dX12_attribute_53 : decode cX12_attribute 53 = .ok (.invokestatic 45, 3) := by decide +kernel
theorem dX12_attribute_56 : decode cX12_attribute 56 = .ok (.ifCond .ne 5, 3) := by decide +kernel
theorem dX12_attribute_59 : decode cX12_attribute 59 = .ok (.iconst (-1), 1) := by decide +kernel
theorem dX12_attribute_60 : decode cX12_attribute 60 = .ok (.ireturn, 1) := by decide +kernel
theorem dX12_attribute_61 : decode cX12_attribute 61 = .ok (.iload_n 2, 1) := by decide +kernel
theorem dX12_attribute_62 : decode cX12_attribute 62 = .ok (.iconst 2, 1) := by decide +kernel
theorem dX12_attribute_63 : decode cX12_attribute 63 = .ok (.if_icmp .ne 11, 3) := by decide +kernel
theorem dX12_attribute_66 : decode cX12_attribute 66 = .ok (.aload 6, 2) := by decide +kernel
theorem dX12_attribute_68 : decode cX12_attribute 68 = .ok (.getfield 114, 3) := by decide +kernel
theorem dX12_attribute_71 : decode cX12_attribute 71 = .ok (.goto 15, 3) := by decide +kernel
theorem dX12_attribute_74 : decode cX12_attribute 74 = .ok (.aload 6, 2) := by decide +kernel
theorem dX12_attribute_76 : decode cX12_attribute 76 = .ok (.getfield 110, 3) := by decide +kernel
theorem dX12_attribute_79 : decode cX12_attribute 79 = .ok (.iload_n 2, 1) := by decide +kernel
theorem dX12_attribute_80 : decode cX12_attribute 80 = .ok (.aaload, 1) := by decide +kernel
theorem dX12_attribute_81 : decode cX12_attribute 81 = .ok (.iload_n 3, 1) := by decide +kernel
theorem dX12_attribute_82 : decode cX12_attribute 82 = .ok (.aaload, 1) := by decide +kernel
theorem dX12_attribute_83 : decode cX12_attribute 83 = .ok (.getfield 107, 3) := by decide +kernel
theorem dX12_attribute_86 : decode cX12_attribute 86 = .ok (.astore 7, 2) := by decide +kernel
theorem dX12_attribute_88 : decode cX12_attribute 88 = .ok (.iload 4, 2) := by decide +kernel
theorem dX12_attribute_90 : decode cX12_attribute 90 = .ok (.iconst 0, 1) := by decide +kernel
theorem dX12_attribute_91 : decode cX12_attribute 91 = .ok (.aload 7, 2) := by decide +kernel
theorem dX12_attribute_93 : decode cX12_attribute 93 = .ok (.getfield 120, 3) := by decide +kernel
theorem dX12_attribute_96 : decode cX12_attribute 96 = .ok (.iconst 1, 1) := by decide +kernel
theorem dX12_attribute_97 : decode cX12_attribute 97 = .ok (.isub, 1) := by decide +kernel
theorem dX12_attribute_98 : decode cX12_attribute 98 = .ok (.invokestatic 45, 3) := by decide +kernel
theorem dX12_attribute_101 : decode cX12_attribute 101 = .ok (.ifCond .ne 5, 3) := by decide +kernel
theorem dX12_attribute_104 : decode cX12_attribute 104 = .ok (.iconst (-1), 1) := by decide +kernel
theorem dX12_attribute_105 : decode cX12_attribute 105 = .ok (.ireturn, 1) := by decide +kernel
theorem dX12_attribute_106 : decode cX12_attribute 106 = .ok (.aload 7, 2) := by decide +kernel
theorem dX12_attribute_108 : decode cX12_attribute 108 = .ok (.getfield 121, 3) := by decide +kernel
theorem dX12_attribute_111 : decode cX12_attribute 111 = .ok (.iload 4, 2) := by decide +kernel
theorem dX12_attribute_113 : decode cX12_attribute 113 = .ok (.iaload, 1) := by decide +kernel
theorem dX12_attribute_114 : decode cX12_attribute 114 = .ok (.istore 8, 2) := by decide +kernel
theorem dX12_attribute_116 : decode cX12_attribute 116 = .ok (.iload 5, 2) := by decide +kernel
theorem dX12_attribute_118 : decode cX12_attribute 118 = .ok (.ifCond .ne 21, 3) := by decide +kernel
theorem dX12_attribute_121 : decode cX12_attribute 121 = .ok (.aload_n 0, 1) := by decide +kernel
theorem dX12_attribute_122 : decode cX12_attribute 122 = .ok (.aload 6, 2) := by decide +kernel
theorem dX12_attribute_124 : decode cX12_attribute 124 = .ok (.getfield 130, 3) := by decide +kernel
theorem dX12_attribute_127 : decode cX12_attribute 127 = .ok (.aload 6, 2) := by decide +kernel
theorem dX12_attribute_129 : decode cX12_attribute 129 = .ok (.iload 8, 2) := by decide +kernel
theorem dX12_attribute_131 : decode cX12_attribute 131 = .ok (.invokevirtual 73, 3) := by decide +kernel
theorem dX12_attribute_134 : decode cX12_attribute 134 = .ok (.aaload, 1) := by decide +kernel
theorem dX12_attribute_135 : decode cX12_attribute 135 = .ok (.invokevirtual 193, 3) := by decide +kernel
theorem dX12_attribute_138 : decode cX12_attribute 138 = .ok (.ireturn, 1) := by decide +kernel
theorem dX12_attribute_139 : decode cX12_attribute 139 = .ok (.iload 5, 2) := by decide +kernel
theorem dX12_attribute_141 : decode cX12_attribute 141 = .ok (.iconst 1, 1) := by decide +kernel
theorem dX12_attribute_142 : decode cX12_attribute 142 = .ok (.if_icmp .ne 32, 3) := by decide +kernel
theorem dX12_attribute_145 : decode cX12_attribute 145 = .ok (.aload_n 0, 1) := by decide +kernel
theorem dX12_attribute_146 : decode cX12_attribute 146 = .ok (.aload 6, 2) := by decide +kernel
theorem dX12_attribute_148 : decode cX12_attribute 148 = .ok (.getfield 59, 3) := by decide +kernel
theorem dX12_attribute_151 : decode cX12_attribute 151 = .ok (.iload 8, 2) := by decide +kernel
theorem dX12_attribute_153 : decode cX12_attribute 153 = .ok (.bipush 6, 2) := by decide +kernel
theorem dX12_attribute_155 : decode cX12_attribute 155 = .ok (.iadd, 1) := by decide +kernel
theorem dX12_attribute_156 : decode cX12_attribute 156 = .ok (.aload 6, 2) := by decide +kernel
theorem dX12_attribute_158 : decode cX12_attribute 158 = .ok (.iload 8, 2) := by decide +kernel
theorem dX12_attribute_160 : decode cX12_attribute 160 = .ok (.iconst 2, 1) := by decide +kernel
theorem dX12_attribute_161 : decode cX12_attribute 161 = .ok (.iadd, 1) := by decide +kernel
theorem dX12_attribute_162 : decode cX12_attribute 162 = .ok (.invokevirtual 123, 3) := by decide +kernel
theorem dX12_attribute_165 : decode cX12_attribute 165 = .ok (.invokestatic 134, 3) := by decide +kernel
theorem dX12_attribute_168 : decode cX12_attribute 168 = .ok (.invokevirtual 193, 3) := by decide +kernel
theorem dX12_attribute_171 : decode cX12_attribute 171 = .ok (.goto 5, 3) := by decide +kernel
theorem dX12_attribute_174 : decode cX12_attribute 174 = .ok (.bipush (-2), 2) := by decide +kernel
theorem dX12_attribute_176 : decode cX12_attribute 176 = .ok (.ireturn, 1) := by decide +kernel
set_option maxRecDepth 20000 in
theorem s_MO_attribute (E : XE) : Cs E (yX12_attribute, cX12_attribute, 9, some .int) (k_MO_attribute) := (Cs_nd (Cs_nd (Cs_nd (Cs_nd (Cs_nd (Cs_nd (Cs_lf (sg_aload_n dX12_attribute_0 rfl)) (Cs_lf (sg_iload_n dX12_attribute_1 rfl))) (Cs_nd (Cs_lf (sg_invV (mid := 124) (ci := 11) (by decide +kernel) dX12_attribute_2 ok_124 rfl w_1184 w_1186 ws_37)) (Cs_nd (Cs_lf (sg_ifne dX12_attribute_5 (by decide))) (Cs_lf (sg_iconst dX12_attribute_8 (by decide)))))) (Cs_nd (Cs_nd (Cs_lf (sg_iret dX12_attribute_9 rfl)) (Cs_nd (Cs_lf (sg_iload_n dX12_attribute_10 rfl)) (Cs_lf (sg_iconst dX12_attribute_11 (by decide))))) (Cs_nd (Cs_lf (sg_iconst dX12_attribute_12 (by decide))) (Cs_nd (Cs_lf (sg_inv (mid := 123) (by decide +kernel) dX12_attribute_13 ok_123 w_943 w_944)) (Cs_lf (sg_ifne dX12_attribute_16 (by decide))))))) (Cs_nd (Cs_nd (Cs_nd (Cs_lf (sg_bipush dX12_attribute_19 (by decide))) (Cs_nd (Cs_lf (sg_iret dX12_attribute_21 rfl)) (Cs_lf (sg_aload_n dX12_attribute_22 rfl)))) (Cs_nd (Cs_lf (sg_getf dX12_attribute_23 rfl inX12 (by decide) w_884)) (Cs_nd (Cs_lf (sg_iload_n dX12_attribute_26 rfl)) (Cs_lf (sg_aald dX12_attribute_27))))) (Cs_nd (Cs_nd (Cs_lf (sg_astore dX12_attribute_28 (by decide))) (Cs_nd (Cs_lf (sg_iload_n dX12_attribute_30 rfl)) (Cs_lf (sg_iconst dX12_attribute_31 (by decide))))) (Cs_nd (Cs_lf (sg_cne dX12_attribute_32 (by decide))) (Cs_nd (Cs_lf (sg_iload_n dX12_attribute_35 rfl)) (Cs_lf (sg_ifeq dX12_attribute_36 (by decide)))))))) (Cs_nd (Cs_nd (Cs_nd (Cs_nd (Cs_lf (sg_goto dX12_attribute_39 (by decide))) (Cs_nd (Cs_lf (sg_iload_n dX12_attribute_42 rfl)) (Cs_lf (sg_iconst dX12_attribute_43 (by decide))))) (Cs_nd (Cs_lf (sg_aload dX12_attribute_44)) (Cs_nd (Cs_lf (sg_getf dX12_attribute_46 rfl inX9 (by decide) w_975)) (Cs_lf (sg_iload_n dX12_attribute_49 rfl))))) (Cs_nd (Cs_nd (Cs_lf (sg_iald dX12_attribute_50)) (Cs_nd (Cs_lf (sg_iconst dX12_attribute_51 (by decide))) (Cs_lf (sg_isub dX12_attribute_52)))) (Cs_nd (Cs_lf (sg_inv (mid := 123) (by decide +kernel) dX12_attribute_53 ok_123 w_943 w_944)) (Cs_nd (Cs_lf (sg_ifne dX12_attribute_56 (by decide))) (Cs_lf (sg_iconst dX12_attribute_59 (by decide))))))) (Cs_nd (Cs_nd (Cs_nd (Cs_lf (sg_iret dX12_attribute_60 rfl)) (Cs_nd (Cs_lf (sg_iload_n dX12_attribute_61 rfl)) (Cs_lf (sg_iconst dX12_attribute_62 (by decide))))) (Cs_nd (Cs_lf (sg_cne dX12_attribute_63 (by decide))) (Cs_nd (Cs_lf (sg_aload dX12_attribute_66)) (Cs_lf (sg_getf dX12_attribute_68 rfl inX9 (by decide) w_976))))) (Cs_nd (Cs_nd (Cs_lf (sg_goto dX12_attribute_71 (by decide))) (Cs_nd (Cs_lf (sg_aload dX12_attribute_74)) (Cs_lf (sg_getf dX12_attribute_76 rfl inX9 (by decide) w_973)))) (Cs_nd (Cs_lf (sg_iload_n dX12_attribute_79 rfl)) (Cs_nd (Cs_lf (sg_aald dX12_attribute_80)) (Cs_lf (sg_iload_n dX12_attribute_81 rfl)))))))) (Cs_nd (Cs_nd (Cs_nd (Cs_nd (Cs_nd (Cs_lf (sg_aald dX12_attribute_82)) (Cs_nd (Cs_lf (sg_getf dX12_attribute_83 rfl inX11 (by decide) w_1037)) (Cs_lf (sg_astore dX12_attribute_86 (by decide))))) (Cs_nd (Cs_lf (sg_iload dX12_attribute_88)) (Cs_nd (Cs_lf (sg_iconst dX12_attribute_90 (by decide))) (Cs_lf (sg_aload dX12_attribute_91))))) (Cs_nd (Cs_nd (Cs_lf (sg_getf dX12_attribute_93 rfl inX8 (by decide) w_1053)) (Cs_nd (Cs_lf (sg_iconst dX12_attribute_96 (by decide))) (Cs_lf (sg_isub dX12_attribute_97)))) (Cs_nd (Cs_lf (sg_inv (mid := 123) (by decide +kernel) dX12_attribute_98 ok_123 w_943 w_944)) (Cs_nd (Cs_lf (sg_ifne dX12_attribute_101 (by decide))) (Cs_lf (sg_iconst dX12_attribute_104 (by decide))))))) (Cs_nd (Cs_nd (Cs_nd (Cs_lf (sg_iret dX12_attribute_105 rfl)) (Cs_nd (Cs_lf (sg_aload dX12_attribute_106)) (Cs_lf (sg_getf dX12_attribute_108 rfl inX8 (by decide) w_1055)))) (Cs_nd (Cs_lf (sg_iload dX12_attribute_111)) (Cs_nd (Cs_lf (sg_iald dX12_attribute_113)) (Cs_lf (sg_istore dX12_attribute_114 (by decide)))))) (Cs_nd (Cs_nd (Cs_lf (sg_iload dX12_attribute_116)) (Cs_nd (Cs_lf (sg_ifne dX12_attribute_118 (by decide))) (Cs_lf (sg_aload_n dX12_attribute_121 rfl)))) (Cs_nd (Cs_lf (sg_aload dX12_attribute_122)) (Cs_nd (Cs_lf (sg_getf dX12_attribute_124 rfl inX9 (by decide) w_969)) (Cs_lf (sg_aload dX12_attribute_127))))))) (Cs_nd (Cs_nd (Cs_nd (Cs_nd (Cs_lf (sg_iload dX12_attribute_129)) (Cs_nd (Cs_lf (sg_invV (mid := 114) (ci := 8) (by decide +kernel) dX12_attribute_131 ok_114 rfl w_1018 w_1019 w_1020)) (Cs_lf (sg_aald dX12_attribute_134)))) (Cs_nd (Cs_lf (sg_invV (mid := 148) (ci := 11) (by decide +kernel) dX12_attribute_135 ok_148 rfl w_1218 w_1220 ws_38)) (Cs_nd (Cs_lf (sg_iret dX12_attribute_138 rfl)) (Cs_lf (sg_iload dX12_attribute_139))))) (Cs_nd (Cs_nd (Cs_lf (sg_iconst dX12_attribute_141 (by decide))) (Cs_nd (Cs_lf (sg_cne dX12_attribute_142 (by decide))) (Cs_lf (sg_aload_n dX12_attribute_145 rfl)))) (Cs_nd (Cs_lf (sg_aload dX12_attribute_146)) (Cs_nd (Cs_lf (sg_getf dX12_attribute_148 rfl inX9 (by decide) w_962)) (Cs_lf (sg_iload dX12_attribute_151)))))) (Cs_nd (Cs_nd (Cs_nd (Cs_lf (sg_bipush dX12_attribute_153 (by decide))) (Cs_nd (Cs_lf (sg_iadd dX12_attribute_155)) (Cs_lf (sg_aload dX12_attribute_156)))) (Cs_nd (Cs_lf (sg_iload dX12_attribute_158)) (Cs_nd (Cs_lf (sg_iconst dX12_attribute_160 (by decide))) (Cs_lf (sg_iadd dX12_attribute_161))))) (Cs_nd (Cs_nd (Cs_lf (sg_invV (mid := 115) (ci := 8) (by decide +kernel) dX12_attribute_162 ok_115 rfl w_1061 w_1062 w_1063)) (Cs_nd (Cs_lf (sg_inv (mid := 133) (by decide +kernel) dX12_attribute_165 ok_133 w_998 w_999)) (Cs_lf (sg_invV (mid := 148) (ci := 11) (by decide +kernel) dX12_attribute_168 ok_148 rfl w_1218 w_1220 ws_38)))) (Cs_nd (Cs_lf (sg_goto dX12_attribute_171 (by decide))) (Cs_nd (Cs_lf (sg_bipush dX12_attribute_174 (by decide))) (Cs_lf (sg_iret dX12_attribute_176 rfl)))))))))
theorem dX12_out_0 : decode cX12_out 0 = .ok (.aload_n 0, 1) := by decide +kernel
theorem dX12_out_1 : decode cX12_out 1 = .ok (.iconst 0, 1) := by decide +kernel
theorem dX12_out_2 : decode cX12_out 2 = .ok (.putfield 39, 3) := by decide +kernel
theorem dX12_out_5 : decode cX12_out 5 = .ok (.iload_n 1, 1) := by decide +kernel
theorem dX12_out_6 : decode cX12_out 6 = .ok (.iconst 0, 1) := by decide +kernel
theorem dX12_out_7 : decode cX12_out 7 = .ok (.aload_n 0, 1) := by decide +kernel
theorem dX12_out_8 : decode cX12_out 8 = .ok (.getfield 19, 3) := by decide +kernel
theorem dX12_out_11 : decode cX12_out 11 = .ok (.arraylength, 1) := by decide +kernel
theorem dX12_out_12 : decode cX12_out 12 = .ok (.iconst 1, 1) := by decide +kernel
theorem dX12_out_13 : decode cX12_out 13 = .ok (.isub, 1) := by decide +kernel
theorem dX12_out_14 : decode cX12_out 14 = .ok (.invokestatic 45, 3) := by decide +kernel
theorem dX12_out_17 : decode cX12_out 17 = .ok (.ifCond .eq 16, 3) := by decide +kernel
theorem dX12_out_20 : decode cX12_out 20 = .ok (.aload_n 0, 1) := by decide +kernel
theorem dX12_out_21 : decode cX12_out 21 = .ok (.getfield 19, 3) := by decide +kernel
theorem dX12_out_24 : decode cX12_out 24 = .ok (.iload_n 1, 1) := by decide +kernel
theorem dX12_out_25 : decode cX12_out 25 = .ok (.baload, 1) := by decide +kernel
theorem dX12_out_26 : decode cX12_out 26 = .ok (.sipush 255, 3) := by decide +kernel
theorem dX12_out_29 : decode cX12_out 29 = .ok (.iand, 1) := by decide +kernel
theorem dX12_out_30 : decode cX12_out 30 = .ok (.goto 4, 3) := by decide +kernel
theorem dX12_out_33 : decode cX12_out 33 = .ok (.iconst (-1), 1) := by decide +kernel
theorem dX12_out_34 : decode cX12_out 34 = .ok (.ireturn, 1) := by decide +kernel
set_option maxRecDepth 20000 in
theorem s_MO_out (E : XE) : Cs E (yX12_out, cX12_out, 2, some .int) (k_MO_out) := (Cs_nd (Cs_nd (Cs_nd (Cs_nd (Cs_lf (sg_aload_n dX12_out_0 rfl)) (Cs_lf (sg_iconst dX12_out_1 (by decide)))) (Cs_nd (Cs_lf (sg_putf dX12_out_2 rfl inX12 tyX12_ok nmX12 (by decide) w_883 rfl (tyX12_ok 0 (by decide)) ok_int)) (Cs_nd (Cs_lf (sg_iload_n dX12_out_5 rfl)) (Cs_lf (sg_iconst dX12_out_6 (by decide)))))) (Cs_nd (Cs_nd (Cs_lf (sg_aload_n dX12_out_7 rfl)) (Cs_lf (sg_getf dX12_out_8 rfl inX12 (by decide) w_888))) (Cs_nd (Cs_lf (sg_alen dX12_out_11)) (Cs_nd (Cs_lf (sg_iconst dX12_out_12 (by decide))) (Cs_lf (sg_isub dX12_out_13)))))) (Cs_nd (Cs_nd (Cs_nd (Cs_lf (sg_inv (mid := 123) (by decide +kernel) dX12_out_14 ok_123 w_943 w_944)) (Cs_lf (sg_ifeq dX12_out_17 (by decide)))) (Cs_nd (Cs_lf (sg_aload_n dX12_out_20 rfl)) (Cs_nd (Cs_lf (sg_getf dX12_out_21 rfl inX12 (by decide) w_888)) (Cs_lf (sg_iload_n dX12_out_24 rfl))))) (Cs_nd (Cs_nd (Cs_lf (sg_bald dX12_out_25)) (Cs_nd (Cs_lf (sg_sipush dX12_out_26 (by decide))) (Cs_lf (sg_iand dX12_out_29)))) (Cs_nd (Cs_lf (sg_goto dX12_out_30 (by decide))) (Cs_nd (Cs_lf (sg_iconst dX12_out_33 (by decide))) (Cs_lf (sg_iret dX12_out_34 rfl)))))))
theorem dX12_meaningOf_0 : decode cX12_meaningOf 0 = .ok (.new 26, 3) := by decide +kernel
theorem dX12_meaningOf_3 : decode cX12_meaningOf 3 = .ok (.dup, 1) := by decide +kernel
theorem dX12_meaningOf_4 : decode cX12_meaningOf 4 = .ok (.invokespecial 200, 3) := by decide +kernel
theorem dX12_meaningOf_7 : decode cX12_meaningOf 7 = .ok (.astore_n 3, 1) := by decide +kernel
theorem dX12_meaningOf_8 : decode cX12_meaningOf 8 = .ok (.aload_n 3, 1) := by decide +kernel
theorem dX12_meaningOf_9 : decode cX12_meaningOf 9 = .ok (.aload_n 1, 1) := by decide +kernel
theorem dX12_meaningOf_10 : decode cX12_meaningOf 10 = .ok (.getfield 126, 3) := by decide +kernel
theorem dX12_meaningOf_13 : decode cX12_meaningOf 13 = .ok (.iload_n 2, 1) := by decide +kernel
theorem dX12_meaningOf_14 : decode cX12_meaningOf 14 = .ok (.iaload, 1) := by decide +kernel
theorem dX12_meaningOf_15 : decode cX12_meaningOf 15 = .ok (.putfield 201, 3) := by decide +kernel
theorem dX12_meaningOf_18 : decode cX12_meaningOf 18 = .ok (.aload_n 3, 1) := by decide +kernel
theorem dX12_meaningOf_19 : decode cX12_meaningOf 19 = .ok (.getfield 201, 3) := by decide +kernel
theorem dX12_meaningOf_22 : decode cX12_meaningOf 22 = .ok (.iconst 1, 1) := by decide +kernel
theorem dX12_meaningOf_23 : decode cX12_meaningOf 23 = .ok (.if_icmp .ne 16, 3) := by decide +kernel
theorem dX12_meaningOf_26 : decode cX12_meaningOf 26 = .ok (.aload_n 3, 1) := by decide +kernel
theorem dX12_meaningOf_27 : decode cX12_meaningOf 27 = .ok (.aload_n 1, 1) := by decide +kernel
theorem dX12_meaningOf_28 : decode cX12_meaningOf 28 = .ok (.getfield 130, 3) := by decide +kernel
theorem dX12_meaningOf_31 : decode cX12_meaningOf 31 = .ok (.iload_n 2, 1) := by decide +kernel
theorem dX12_meaningOf_32 : decode cX12_meaningOf 32 = .ok (.aaload, 1) := by decide +kernel
theorem dX12_meaningOf_33 : decode cX12_meaningOf 33 = .ok (.putfield 204, 3) := by decide +kernel
theorem dX12_meaningOf_36 : decode cX12_meaningOf 36 = .ok (.goto 158, 3) := by decide +kernel
theorem dX12_meaningOf_39 : decode cX12_meaningOf 39 = .ok (.aload_n 3, 1) := by decide +kernel
theorem dX12_meaningOf_40 : decode cX12_meaningOf 40 = .ok (.getfield 201, 3) := by decide +kernel
theorem dX12_meaningOf_43 : decode cX12_meaningOf 43 = .ok (.iconst 3, 1) := by decide +kernel
theorem dX12_meaningOf_44 : decode cX12_meaningOf 44 = .ok (.bipush 6, 2) := by decide +kernel
theorem dX12_meaningOf_46 : decode cX12_meaningOf 46 = .ok (.invokestatic 45, 3) := by decide +kernel
theorem dX12_meaningOf_49 : decode cX12_meaningOf 49 = .ok (.ifCond .eq 15, 3) := by decide +kernel
theorem dX12_meaningOf_52 : decode cX12_meaningOf 52 = .ok (.aload_n 3, 1) := by decide +kernel
theorem dX12_meaningOf_53 : decode cX12_meaningOf 53 = .ok (.aload_n 1, 1) := by decide +kernel
theorem dX12_meaningOf_54 : decode cX12_meaningOf 54 = .ok (.iload_n 2, 1) := by decide +kernel
theorem dX12_meaningOf_55 : decode cX12_meaningOf 55 = .ok (.invokevirtual 189, 3) := by decide +kernel
theorem dX12_meaningOf_58 : decode cX12_meaningOf 58 = .ok (.putfield 207, 3) := by decide +kernel
theorem dX12_meaningOf_61 : decode cX12_meaningOf 61 = .ok (.goto 133, 3) := by decide +kernel
theorem dX12_meaningOf_64 : decode cX12_meaningOf 64 = .ok (.aload_n 3, 1) := by decide +kernel
theorem dX12_meaningOf_65 : decode cX12_meaningOf 65 = .ok (.getfield 201, 3) := by decide +kernel
theorem dX12_meaningOf_68 : decode cX12_meaningOf 68 = .ok (.bipush 7, 2) := by decide +kernel
theorem dX12_meaningOf_70 : decode cX12_meaningOf 70 = .ok (.if_icmp .eq 12, 3) := by decide +kernel
theorem dX12_meaningOf_73 : decode cX12_meaningOf 73 = .ok (.aload_n 3, 1) := by decide +kernel
theorem dX12_meaningOf_74 : decode cX12_meaningOf 74 = .ok (.getfield 201, 3) := by decide +kernel
theorem dX12_meaningOf_77 : decode cX12_meaningOf 77 = .ok (.bipush 8, 2) := by decide +kernel
theorem dX12_meaningOf_79 : decode cX12_meaningOf 79 = .ok (.if_icmp .ne 20, 3) := by decide +kernel
theorem dX12_meaningOf_82 : decode cX12_meaningOf 82 = .ok (.aload_n 3, 1) := by decide +kernel
theorem dX12_meaningOf_83 : decode cX12_meaningOf 83 = .ok (.aload_n 1, 1) := by decide +kernel
theorem dX12_meaningOf_84 : decode cX12_meaningOf 84 = .ok (.getfield 130, 3) := by decide +kernel
theorem dX12_meaningOf_87 : decode cX12_meaningOf 87 = .ok (.aload_n 1, 1) := by decide +kernel
theorem dX12_meaningOf_88 : decode cX12_meaningOf 88 = .ok (.iload_n 2, 1) := by decide +kernel
theorem dX12_meaningOf_89 : decode cX12_meaningOf 89 = .ok (.invokevirtual 183, 3) := by decide +kernel
theorem dX12_meaningOf_92 : decode cX12_meaningOf 92 = .ok (.aaload, 1) := by decide +kernel
theorem dX12_meaningOf_93 : decode cX12_meaningOf 93 = .ok (.putfield 204, 3) := by decide +kernel
theorem dX12_meaningOf_96 : decode cX12_meaningOf 96 = .ok (.goto 98, 3) := by decide +kernel
theorem dX12_meaningOf_99 : decode cX12_meaningOf 99 = .ok (.aload_n 3, 1) := by decide +kernel
theorem dX12_meaningOf_100 : decode cX12_meaningOf 100 = .ok (.getfield 201, 3) := by decide +kernel
theorem dX12_meaningOf_103 : decode cX12_meaningOf 103 = .ok (.bipush 12, 2) := by decide +kernel
theorem dX12_meaningOf_105 : decode cX12_meaningOf 105 = .ok (.if_icmp .ne 34, 3) := by decide +kernel
theorem dX12_meaningOf_108 : decode cX12_meaningOf 108 = .ok (.aload_n 3, 1) := by decide +kernel
theorem dX12_meaningOf_109 : decode cX12_meaningOf 109 = .ok (.aload_n 1, 1) := by decide +kernel
theorem dX12_meaningOf_110 : decode cX12_meaningOf 110 = .ok (.getfield 130, 3) := by decide +kernel
theorem dX12_meaningOf_113 : decode cX12_meaningOf 113 = .ok (.aload_n 1, 1) := by decide +kernel
theorem dX12_meaningOf_114 : decode cX12_meaningOf 114 = .ok (.iload_n 2, 1) := by decide +kernel
theorem dX12_meaningOf_115 : decode cX12_meaningOf 115 = .ok (.invokevirtual 183, 3) := by decide +kernel
theorem dX12_meaningOf_118 : decode cX12_meaningOf 118 = .ok (.aaload, 1) := by decide +kernel
theorem dX12_meaningOf_119 : decode cX12_meaningOf 119 = .ok (.putfield 204, 3) := by decide +kernel
theorem dX12_meaningOf_122 : decode cX12_meaningOf 122 = .ok (.aload_n 3, 1) := by decide +kernel
theorem dX12_meaningOf_123 : decode cX12_meaningOf 123 = .ok (.aload_n 1, 1) := by decide +kernel
theorem dX12_meaningOf_124 : decode cX12_meaningOf 124 = .ok (.getfield 130, 3) := by decide +kernel
theorem dX12_meaningOf_127 : decode cX12_meaningOf 127 = .ok (.aload_n 1, 1) := by decide +kernel
theorem dX12_meaningOf_128 : decode cX12_meaningOf 128 = .ok (.iload_n 2, 1) := by decide +kernel
theorem dX12_meaningOf_129 : decode cX12_meaningOf 129 = .ok (.invokevirtual 186, 3) := by decide +kernel
theorem dX12_meaningOf_132 : decode cX12_meaningOf 132 = .ok (.aaload, 1) := by decide +kernel
theorem dX12_meaningOf_133 : decode cX12_meaningOf 133 = .ok (.putfield 210, 3) := by decide +kernel
theorem dX12_meaningOf_136 : decode cX12_meaningOf 136 = .ok (.goto 58, 3) := by decide +kernel
theorem dX12_meaningOf_139 : decode cX12_meaningOf 139 = .ok (.aload_n 1, 1) := by decide +kernel
theorem dX12_meaningOf_140 : decode cX12_meaningOf 140 = .ok (.iload_n 2, 1) := by decide +kernel
theorem dX12_meaningOf_141 : decode cX12_meaningOf 141 = .ok (.invokevirtual 186, 3) := by decide +kernel
theorem dX12_meaningOf_144 : decode cX12_meaningOf 144 = .ok (.istore 4, 2) := by decide +kernel
theorem dX12_meaningOf_146 : decode cX12_meaningOf 146 = .ok (.aload_n 3, 1) := by decide +kernel
theorem dX12_meaningOf_147 : decode cX12_meaningOf 147 = .ok (.aload_n 1, 1) := by decide +kernel
theorem dX12_meaningOf_148 : decode cX12_meaningOf 148 = .ok (.getfield 130, 3) := by decide +kernel
theorem dX12_meaningOf_151 : decode cX12_meaningOf 151 = .ok (.aload_n 1, 1) := by decide +kernel
theorem dX12_meaningOf_152 : decode cX12_meaningOf 152 = .ok (.aload_n 1, 1) := by decide +kernel
theorem dX12_meaningOf_153 : decode cX12_meaningOf 153 = .ok (.iload_n 2, 1) := by decide +kernel
theorem dX12_meaningOf_154 : decode cX12_meaningOf 154 = .ok (.invokevirtual 183, 3) := by decide +kernel
theorem dX12_meaningOf_157 : decode cX12_meaningOf 157 = .ok (.invokevirtual 183, 3) := by decide +kernel
theorem dX12_meaningOf_160 : decode cX12_meaningOf 160 = .ok (.aaload, 1) := by decide +kernel
theorem dX12_meaningOf_161 : decode cX12_meaningOf 161 = .ok (.putfield 204, 3) := by decide +kernel
theorem dX12_meaningOf_164 : decode cX12_meaningOf 164 = .ok (.aload_n 3, 1) := by decide +kernel
theorem dX12_meaningOf_165 : decode cX12_meaningOf 165 = .ok (.aload_n 1, 1) := by decide +kernel
theorem dX12_meaningOf_166 : decode cX12_meaningOf 166 = .ok (.getfield 130, 3) := by decide +kernel
theorem dX12_meaningOf_169 : decode cX12_meaningOf 169 = .ok (.aload_n 1, 1) := by decide +kernel
theorem dX12_meaningOf_170 : decode cX12_meaningOf 170 = .ok (.iload 4, 2) := by decide +kernel
theorem dX12_meaningOf_172 : decode cX12_meaningOf 172 = .ok (.invokevirtual 183, 3) := by decide +kernel
theorem dX12_meaningOf_175 : decode cX12_meaningOf 175 = .ok (.aaload, 1) := by decide +kernel
theorem dX12_meaningOf_176 : decode cX12_meaningOf 176 = .ok (.putfield 210, 3) := by decide +kernel
theorem dX12_meaningOf_179 : decode cX12_meaningOf 179 = .ok (.aload_n 3, 1) := by decide +kernel
theorem dX12_meaningOf_180 : decode cX12_meaningOf 180 = .ok (.aload_n 1, 1) := by decide +kernel
theorem dX12_meaningOf_181 : decode cX12_meaningOf 181 = .ok (.getfield 130, 3) := by decide +kernel
theorem dX12_meaningOf_184 : decode cX12_meaningOf 184 = .ok (.aload_n 1, 1) := by decide +kernel
theorem dX12_meaningOf_185 : decode cX12_meaningOf 185 = .ok (.iload 4, 2) := by decide +kernel
theorem dX12_meaningOf_187 : decode cX12_meaningOf 187 = .ok (.invokevirtual 186, 3) := by decide +kernel
theorem dX12_meaningOf_190 : decode cX12_meaningOf 190 = .ok (.aaload, 1) := by decide +kernel
theorem dX12_meaningOf_191 : decode cX12_meaningOf 191 = .ok (.putfield 211, 3) := by decide +kernel
theorem dX12_meaningOf_194 : decode cX12_meaningOf 194 = .ok (.aload_n 3, 1) := by decide +kernel
theorem dX12_meaningOf_195 : decode cX12_meaningOf 195 = .ok (.areturn, 1) := by decide +kernel
set_option maxRecDepth 20000 in
theorem s_MO_meaningOf (E : XE) : Cs E (yX12_meaningOf, cX12_meaningOf, 5, some (.object "ClassPoolsModel$Meaning")) (k_MO_meaningOf) := (Cs_nd (Cs_nd (Cs_nd (Cs_nd (Cs_nd (Cs_nd (Cs_lf (sg_new dX12_meaningOf_0 rfl inX10 tyX10_ok (by decide) w_881 w_1253 w_31)) (Cs_nd (Cs_lf (sg_dup dX12_meaningOf_3)) (Cs_lf (sg_invIN (mid := 119) (by decide +kernel) dX12_meaningOf_4 ok_119 rfl rfl (host := RX12) (by decide +kernel) w_1255)))) (Cs_nd (Cs_lf (sg_astore_n dX12_meaningOf_7 rfl (by decide))) (Cs_nd (Cs_lf (sg_aload_n dX12_meaningOf_8 rfl)) (Cs_lf (sg_aload_n dX12_meaningOf_9 rfl))))) (Cs_nd (Cs_nd (Cs_lf (sg_getf dX12_meaningOf_10 rfl inX9 (by decide) w_965)) (Cs_nd (Cs_lf (sg_iload_n dX12_meaningOf_13 rfl)) (Cs_lf (sg_iald dX12_meaningOf_14)))) (Cs_nd (Cs_lf (sg_putf dX12_meaningOf_15 rfl inX10 tyX10_ok nmX10 (by decide) w_1260 rfl (tyX10_ok 0 (by decide)) ok_int)) (Cs_nd (Cs_lf (sg_aload_n dX12_meaningOf_18 rfl)) (Cs_lf (sg_getf dX12_meaningOf_19 rfl inX10 (by decide) w_1260)))))) (Cs_nd (Cs_nd (Cs_nd (Cs_lf (sg_iconst dX12_meaningOf_22 (by decide))) (Cs_nd (Cs_lf (sg_cne dX12_meaningOf_23 (by decide))) (Cs_lf (sg_aload_n dX12_meaningOf_26 rfl)))) (Cs_nd (Cs_lf (sg_aload_n dX12_meaningOf_27 rfl)) (Cs_nd (Cs_lf (sg_getf dX12_meaningOf_28 rfl inX9 (by decide) w_969)) (Cs_lf (sg_iload_n dX12_meaningOf_31 rfl))))) (Cs_nd (Cs_nd (Cs_lf (sg_aald dX12_meaningOf_32)) (Cs_nd (Cs_lf (sg_putf dX12_meaningOf_33 rfl inX10 tyX10_ok nmX10 (by decide) w_1263 rfl (tyX10_ok 2 (by decide)) (ok_arr _))) (Cs_lf (sg_goto dX12_meaningOf_36 (by decide))))) (Cs_nd (Cs_nd (Cs_lf (sg_aload_n dX12_meaningOf_39 rfl)) (Cs_lf (sg_getf dX12_meaningOf_40 rfl inX10 (by decide) w_1260))) (Cs_nd (Cs_lf (sg_iconst dX12_meaningOf_43 (by decide))) (Cs_lf (sg_bipush dX12_meaningOf_44 (by decide)))))))) (Cs_nd (Cs_nd (Cs_nd (Cs_nd (Cs_lf (sg_inv (mid := 123) (by decide +kernel) dX12_meaningOf_46 ok_123 w_943 w_944)) (Cs_nd (Cs_lf (sg_ifeq dX12_meaningOf_49 (by decide))) (Cs_lf (sg_aload_n dX12_meaningOf_52 rfl)))) (Cs_nd (Cs_lf (sg_aload_n dX12_meaningOf_53 rfl)) (Cs_nd (Cs_lf (sg_iload_n dX12_meaningOf_54 rfl)) (Cs_lf (sg_invV (mid := 116) (ci := 8) (by decide +kernel) dX12_meaningOf_55 ok_116 rfl w_1208 w_1209 w_1210))))) (Cs_nd (Cs_nd (Cs_lf (sg_putf dX12_meaningOf_58 rfl inX10 tyX10_ok nmX10 (by decide) w_1261 rfl (tyX10_ok 1 (by decide)) ok_long)) (Cs_nd (Cs_lf (sg_goto dX12_meaningOf_61 (by decide))) (Cs_lf (sg_aload_n dX12_meaningOf_64 rfl)))) (Cs_nd (Cs_nd (Cs_lf (sg_getf dX12_meaningOf_65 rfl inX10 (by decide) w_1260)) (Cs_lf (sg_bipush dX12_meaningOf_68 (by decide)))) (Cs_nd (Cs_lf (sg_ceq dX12_meaningOf_70 (by decide))) (Cs_lf (sg_aload_n dX12_meaningOf_73 rfl)))))) (Cs_nd (Cs_nd (Cs_nd (Cs_lf (sg_getf dX12_meaningOf_74 rfl inX10 (by decide) w_1260)) (Cs_nd (Cs_lf (sg_bipush dX12_meaningOf_77 (by decide))) (Cs_lf (sg_cne dX12_meaningOf_79 (by decide))))) (Cs_nd (Cs_lf (sg_aload_n dX12_meaningOf_82 rfl)) (Cs_nd (Cs_lf (sg_aload_n dX12_meaningOf_83 rfl)) (Cs_lf (sg_getf dX12_meaningOf_84 rfl inX9 (by decide) w_969))))) (Cs_nd (Cs_nd (Cs_lf (sg_aload_n dX12_meaningOf_87 rfl)) (Cs_nd (Cs_lf (sg_iload_n dX12_meaningOf_88 rfl)) (Cs_lf (sg_invV (mid := 117) (ci := 8) (by decide +kernel) dX12_meaningOf_89 ok_117 rfl w_1196 w_1197 w_1198)))) (Cs_nd (Cs_nd (Cs_lf (sg_aald dX12_meaningOf_92)) (Cs_lf (sg_putf dX12_meaningOf_93 rfl inX10 tyX10_ok nmX10 (by decide) w_1263 rfl (tyX10_ok 2 (by decide)) (ok_arr _)))) (Cs_nd (Cs_lf (sg_goto dX12_meaningOf_96 (by decide))) (Cs_lf (sg_aload_n dX12_meaningOf_99 rfl)))))))) (Cs_nd (Cs_nd (Cs_nd (Cs_nd (Cs_nd (Cs_lf (sg_getf dX12_meaningOf_100 rfl inX10 (by decide) w_1260)) (Cs_nd (Cs_lf (sg_bipush dX12_meaningOf_103 (by decide))) (Cs_lf (sg_cne dX12_meaningOf_105 (by decide))))) (Cs_nd (Cs_lf (sg_aload_n dX12_meaningOf_108 rfl)) (Cs_nd (Cs_lf (sg_aload_n dX12_meaningOf_109 rfl)) (Cs_lf (sg_getf dX12_meaningOf_110 rfl inX9 (by decide) w_969))))) (Cs_nd (Cs_nd (Cs_lf (sg_aload_n dX12_meaningOf_113 rfl)) (Cs_nd (Cs_lf (sg_iload_n dX12_meaningOf_114 rfl)) (Cs_lf (sg_invV (mid := 117) (ci := 8) (by decide +kernel) dX12_meaningOf_115 ok_117 rfl w_1196 w_1197 w_1198)))) (Cs_nd (Cs_nd (Cs_lf (sg_aald dX12_meaningOf_118)) (Cs_lf (sg_putf dX12_meaningOf_119 rfl inX10 tyX10_ok nmX10 (by decide) w_1263 rfl (tyX10_ok 2 (by decide)) (ok_arr _)))) (Cs_nd (Cs_lf (sg_aload_n dX12_meaningOf_122 rfl)) (Cs_lf (sg_aload_n dX12_meaningOf_123 rfl)))))) (Cs_nd (Cs_nd (Cs_nd (Cs_lf (sg_getf dX12_meaningOf_124 rfl inX9 (by decide) w_969)) (Cs_nd (Cs_lf (sg_aload_n dX12_meaningOf_127 rfl)) (Cs_lf (sg_iload_n dX12_meaningOf_128 rfl)))) (Cs_nd (Cs_lf (sg_invV (mid := 118) (ci := 8) (by decide +kernel) dX12_meaningOf_129 ok_118 rfl w_1200 w_1201 w_1202)) (Cs_nd (Cs_lf (sg_aald dX12_meaningOf_132)) (Cs_lf (sg_putf dX12_meaningOf_133 rfl inX10 tyX10_ok nmX10 (by decide) w_1265 rfl (tyX10_ok 3 (by decide)) (ok_arr _)))))) (Cs_nd (Cs_nd (Cs_lf (sg_goto dX12_meaningOf_136 (by decide))) (Cs_nd (Cs_lf (sg_aload_n dX12_meaningOf_139 rfl)) (Cs_lf (sg_iload_n dX12_meaningOf_140 rfl)))) (Cs_nd (Cs_nd (Cs_lf (sg_invV (mid := 118) (ci := 8) (by decide +kernel) dX12_meaningOf_141 ok_118 rfl w_1200 w_1201 w_1202)) (Cs_lf (sg_istore dX12_meaningOf_144 (by decide)))) (Cs_nd (Cs_lf (sg_aload_n dX12_meaningOf_146 rfl)) (Cs_lf (sg_aload_n dX12_meaningOf_147 rfl))))))) (Cs_nd (Cs_nd (Cs_nd (Cs_nd (Cs_lf (sg_getf dX12_meaningOf_148 rfl inX9 (by decide) w_969)) (Cs_nd (Cs_lf (sg_aload_n dX12_meaningOf_151 rfl)) (Cs_lf (sg_aload_n dX12_meaningOf_152 rfl)))) (Cs_nd (Cs_lf (sg_iload_n dX12_meaningOf_153 rfl)) (Cs_nd (Cs_lf (sg_invV (mid := 117) (ci := 8) (by decide +kernel) dX12_meaningOf_154 ok_117 rfl w_1196 w_1197 w_1198)) (Cs_lf (sg_invV (mid := 117) (ci := 8) (by decide +kernel) dX12_meaningOf_157 ok_117 rfl w_1196 w_1197 w_1198))))) (Cs_nd (Cs_nd (Cs_lf (sg_aald dX12_meaningOf_160)) (Cs_nd (Cs_lf (sg_putf dX12_meaningOf_161 rfl inX10 tyX10_ok nmX10 (by decide) w_1263 rfl (tyX10_ok 2 (by decide)) (ok_arr _))) (Cs_lf (sg_aload_n dX12_meaningOf_164 rfl)))) (Cs_nd (Cs_nd (Cs_lf (sg_aload_n dX12_meaningOf_165 rfl)) (Cs_lf (sg_getf dX12_meaningOf_166 rfl inX9 (by decide) w_969))) (Cs_nd (Cs_lf (sg_aload_n dX12_meaningOf_169 rfl)) (Cs_lf (sg_iload dX12_meaningOf_170)))))) (Cs_nd (Cs_nd (Cs_nd (Cs_lf (sg_invV (mid := 117) (ci := 8) (by decide +kernel) dX12_meaningOf_172 ok_117 rfl w_1196 w_1197 w_1198)) (Cs_nd (Cs_lf (sg_aald dX12_meaningOf_175)) (Cs_lf (sg_putf dX12_meaningOf_176 rfl inX10 tyX10_ok nmX10 (by decide) w_1265 rfl (tyX10_ok 3 (by decide)) (ok_arr _))))) (Cs_nd (Cs_lf (sg_aload_n dX12_meaningOf_179 rfl)) (Cs_nd (Cs_lf (sg_aload_n dX12_meaningOf_180 rfl)) (Cs_lf (sg_getf dX12_meaningOf_181 rfl inX9 (by decide) w_969))))) (Cs_nd (Cs_nd (Cs_lf (sg_aload_n dX12_meaningOf_184 rfl)) (Cs_nd (Cs_lf (sg_iload dX12_meaningOf_185)) (Cs_lf (sg_invV (mid := 118) (ci := 8) (by decide +kernel) dX12_meaningOf_187 ok_118 rfl w_1200 w_1201 w_1202)))) (Cs_nd (Cs_nd (Cs_lf (sg_aald dX12_meaningOf_190)) (Cs_lf (sg_putf dX12_meaningOf_191 rfl inX10 tyX10_ok nmX10 (by decide) w_1267 rfl (tyX10_ok 4 (by decide)) (ok_arr _)))) (Cs_nd (Cs_lf (sg_aload_n dX12_meaningOf_194 rfl)) (Cs_lf (sg_aret dX12_meaningOf_195 rfl (Or.inl ⟨_, rfl⟩))))))))))
theorem dX12_compare_0 : decode cX12_compare 0 = .ok (.iconst 0, 1) := by decide +kernel
theorem dX12_compare_1 : decode cX12_compare 1 = .ok (.istore_n 2, 1) := by decide +kernel
theorem dX12_compare_2 : decode cX12_compare 2 = .ok (.iload_n 2, 1) := by decide +kernel
theorem dX12_compare_3 : decode cX12_compare 3 = .ok (.aload_n 0, 1) := by decide +kernel
theorem dX12_compare_4 : decode cX12_compare 4 = .ok (.arraylength, 1) := by decide +kernel
theorem dX12_compare_5 : decode cX12_compare 5 = .ok (.if_icmp .ge 47, 3) := by decide +kernel
theorem dX12_compare_8 : decode cX12_compare 8 = .ok (.iload_n 2, 1) := by decide +kernel
theorem dX12_compare_9 : decode cX12_compare 9 = .ok (.aload_n 1, 1) := by decide +kernel
theorem dX12_compare_10 : decode cX12_compare 10 = .ok (.arraylength, 1) := by decide +kernel
theorem dX12_compare_11 : decode cX12_compare 11 = .ok (.if_icmp .ge 41, 3) := by decide +kernel
theorem dX12_compare_14 : decode cX12_compare 14 = .ok (.aload_n 0, 1) := by decide +kernel
theorem dX12_compare_15 : decode cX12_compare 15 = .ok (.iload_n 2, 1) := by decide +kernel
theorem dX12_compare_16 : decode cX12_compare 16 = .ok (.baload, 1) := by decide +kernel
theorem dX12_compare_17 : decode cX12_compare 17 = .ok (.aload_n 1, 1) := by decide +kernel
theorem dX12_compare_18 : decode cX12_compare 18 = .ok (.iload_n 2, 1) := by decide +kernel
theorem dX12_compare_19 : decode cX12_compare 19 = .ok (.baload, 1) := by decide +kernel
theorem dX12_compare_20 : decode cX12_compare 20 = .ok (.if_icmp .eq 26, 3) := by decide +kernel
theorem dX12_compare_23 : decode cX12_compare 23 = .ok (.aload_n 0, 1) := by decide +kernel
theorem dX12_compare_24 : decode cX12_compare 24 = .ok (.iload_n 2, 1) := by decide +kernel
theorem dX12_compare_25 : decode cX12_compare 25 = .ok (.baload, 1) := by decide +kernel
theorem dX12_compare_26 : decode cX12_compare 26 = .ok (.sipush 255, 3) := by decide +kernel
theorem dX12_compare_29 : decode cX12_compare 29 = .ok (.iand, 1) := by decide +kernel
theorem dX12_compare_30 : decode cX12_compare 30 = .ok (.aload_n 1, 1) := by decide +kernel
theorem dX12_compare_31 : decode cX12_compare 31 = .ok (.iload_n 2, 1) := by decide +kernel
theorem dX12_compare_32 : decode cX12_compare 32 = .ok (.baload, 1) := by decide +kernel
theorem dX12_compare_33 : decode cX12_compare 33 = .ok (.sipush 255, 3) := by decide +kernel
theorem dX12_compare_36 : decode cX12_compare 36 = .ok (.iand, 1) := by decide +kernel
theorem dX12_compare_37 : decode cX12_compare 37 = .ok (.if_icmp .ge 7, 3) := by decide +kernel
theorem dX12_compare_40 : decode cX12_compare 40 = .ok (.iconst (-1), 1) := by decide +kernel
theorem dX12_compare_41 : decode cX12_compare 41 = .ok (.goto 4, 3) := by decide +kernel
theorem dX12_compare_44 : decode cX12_compare 44 = .ok (.iconst 1, 1) := by decide +kernel
theorem dX12_compare_45 : decode cX12_compare 45 = .ok (.ireturn, 1) := by decide +kernel
theorem dX12_compare_46 : decode cX12_compare 46 = .ok (.iinc 2 1, 3) := by decide +kernel
theorem dX12_compare_49 : decode cX12_compare 49 = .ok (.goto (-47), 3) := by decide +kernel
theorem dX12_compare_52 : decode cX12_compare 52 = .ok (.aload_n 0, 1) := by decide +kernel
theorem dX12_compare_53 : decode cX12_compare 53 = .ok (.arraylength, 1) := by decide +kernel
theorem dX12_compare_54 : decode cX12_compare 54 = .ok (.aload_n 1, 1) := by decide +kernel
theorem dX12_compare_55 : decode cX12_compare 55 = .ok (.arraylength, 1) := by decide +kernel
theorem dX12_compare_56 : decode cX12_compare 56 = .ok (.invokestatic 214, 3) := by decide +kernel
theorem dX12_compare_59 : decode cX12_compare 59 = .ok (.ireturn, 1) := by decide +kernel
set_option maxRecDepth 20000 in
theorem s_MO_compare (E : XE) : Cs E (yX12_compare, cX12_compare, 3, some .int) (k_MO_compare) := (Cs_nd (Cs_nd (Cs_nd (Cs_nd (Cs_nd (Cs_lf (sg_iconst dX12_compare_0 (by decide))) (Cs_lf (sg_istore_n dX12_compare_1 rfl (by decide)))) (Cs_nd (Cs_lf (sg_iload_n dX12_compare_2 rfl)) (Cs_nd (Cs_lf (sg_aload_n dX12_compare_3 rfl)) (Cs_lf (sg_alen dX12_compare_4))))) (Cs_nd (Cs_nd (Cs_lf (sg_cge dX12_compare_5 (by decide))) (Cs_lf (sg_iload_n dX12_compare_8 rfl))) (Cs_nd (Cs_lf (sg_aload_n dX12_compare_9 rfl)) (Cs_nd (Cs_lf (sg_alen dX12_compare_10)) (Cs_lf (sg_cge dX12_compare_11 (by decide))))))) (Cs_nd (Cs_nd (Cs_nd (Cs_lf (sg_aload_n dX12_compare_14 rfl)) (Cs_lf (sg_iload_n dX12_compare_15 rfl))) (Cs_nd (Cs_lf (sg_bald dX12_compare_16)) (Cs_nd (Cs_lf (sg_aload_n dX12_compare_17 rfl)) (Cs_lf (sg_iload_n dX12_compare_18 rfl))))) (Cs_nd (Cs_nd (Cs_lf (sg_bald dX12_compare_19)) (Cs_lf (sg_ceq dX12_compare_20 (by decide)))) (Cs_nd (Cs_lf (sg_aload_n dX12_compare_23 rfl)) (Cs_nd (Cs_lf (sg_iload_n dX12_compare_24 rfl)) (Cs_lf (sg_bald dX12_compare_25))))))) (Cs_nd (Cs_nd (Cs_nd (Cs_nd (Cs_lf (sg_sipush dX12_compare_26 (by decide))) (Cs_lf (sg_iand dX12_compare_29))) (Cs_nd (Cs_lf (sg_aload_n dX12_compare_30 rfl)) (Cs_nd (Cs_lf (sg_iload_n dX12_compare_31 rfl)) (Cs_lf (sg_bald dX12_compare_32))))) (Cs_nd (Cs_nd (Cs_lf (sg_sipush dX12_compare_33 (by decide))) (Cs_lf (sg_iand dX12_compare_36))) (Cs_nd (Cs_lf (sg_cge dX12_compare_37 (by decide))) (Cs_nd (Cs_lf (sg_iconst dX12_compare_40 (by decide))) (Cs_lf (sg_goto dX12_compare_41 (by decide))))))) (Cs_nd (Cs_nd (Cs_nd (Cs_lf (sg_iconst dX12_compare_44 (by decide))) (Cs_lf (sg_iret dX12_compare_45 rfl))) (Cs_nd (Cs_lf (sg_iinc dX12_compare_46 (by decide) (by decide))) (Cs_nd (Cs_lf (sg_goto dX12_compare_49 (by decide))) (Cs_lf (sg_aload_n dX12_compare_52 rfl))))) (Cs_nd (Cs_nd (Cs_lf (sg_alen dX12_compare_53)) (Cs_lf (sg_aload_n dX12_compare_54 rfl))) (Cs_nd (Cs_lf (sg_alen dX12_compare_55)) (Cs_nd (Cs_lf (sg_inv (mid := 179) (by decide +kernel) dX12_compare_56 ok_179 w_1288 w_562)) (Cs_lf (sg_iret dX12_compare_59 rfl))))))))
theorem dX12_compare__0 : decode cX12_compare_ 0 = .ok (.aload_n 0, 1) := by decide +kernel
theorem dX12_compare__1 : decode cX12_compare_ 1 = .ok (.getfield 201, 3) := by decide +kernel
theorem dX12_compare__4 : decode cX12_compare_ 4 = .ok (.aload_n 1, 1) := by decide +kernel
theorem dX12_compare__5 : decode cX12_compare_ 5 = .ok (.getfield 201, 3) := by decide +kernel
theorem dX12_compare__8 : decode cX12_compare_ 8 = .ok (.if_icmp .eq 20, 3) := by decide +kernel
theorem dX12_compare__11 : decode cX12_compare_ 11 = .ok (.aload_n 0, 1) := by decide +kernel
theorem dX12_compare__12 : decode cX12_compare_ 12 = .ok (.getfield 201, 3) := by decide +kernel
theorem dX12_compare__15 : decode cX12_compare_ 15 = .ok (.aload_n 1, 1) := by decide +kernel
theorem dX12_compare__16 : decode cX12_compare_ 16 = .ok (.getfield 201, 3) := by decide +kernel
theorem dX12_compare__19 : decode cX12_compare_ 19 = .ok (.if_icmp .ge 7, 3) := by decide +kernel
theorem dX12_compare__22 : decode cX12_compare_ 22 = .ok (.iconst (-1), 1) := by decide +kernel
theorem dX12_compare__23 : decode cX12_compare_ 23 = .ok (.goto 4, 3) := by decide +kernel
theorem dX12_compare__26 : decode cX12_compare_ 26 = .ok (.iconst 1, 1) := by decide +kernel
theorem dX12_compare__27 : decode cX12_compare_ 27 = .ok (.ireturn, 1) := by decide +kernel
theorem dX12_compare__28 : decode cX12_compare_ 28 = .ok (.aload_n 0, 1) := by decide +kernel
theorem dX12_compare__29 : decode cX12_compare_ 29 = .ok (.getfield 207, 3) := by decide +kernel
theorem dX12_compare__32 : decode cX12_compare_ 32 = .ok (.aload_n 1, 1) := by decide +kernel
theorem dX12_compare__33 : decode cX12_compare_ 33 = .ok (.getfield 207, 3) := by decide +kernel
theorem dX12_compare__36 : decode cX12_compare_ 36 = .ok (.lcmp, 1) := by decide +kernel
theorem dX12_compare__37 : decode cX12_compare_ 37 = .ok (.ifCond .eq 21, 3) := by decide +kernel
theorem dX12_compare__40 : decode cX12_compare_ 40 = .ok (.aload_n 0, 1) := by decide +kernel
theorem dX12_compare__41 : decode cX12_compare_ 41 = .ok (.getfield 207, 3) := by decide +kernel
theorem dX12_compare__44 : decode cX12_compare_ 44 = .ok (.aload_n 1, 1) := by decide +kernel
theorem dX12_compare__45 : decode cX12_compare_ 45 = .ok (.getfield 207, 3) := by decide +kernel
theorem dX12_compare__48 : decode cX12_compare_ 48 = .ok (.lcmp, 1) := by decide +kernel
theorem dX12_compare__49 : decode cX12_compare_ 49 = .ok (.ifCond .ge 7, 3) := by decide +kernel
theorem dX12_compare__52 : decode cX12_compare_ 52 = .ok (.iconst (-1), 1) := by decide +kernel
theorem dX12_compare__53 : decode cX12_compare_ 53 = .ok (.goto 4, 3) := by decide +kernel
theorem dX12_compare__56 : decode cX12_compare_ 56 = .ok (.iconst 1, 1) := by decide +kernel
theorem dX12_compare__57 : decode cX12_compare_ 57 = .ok (.ireturn, 1) := by decide +kernel
theorem dX12_compare__58 : decode cX12_compare_ 58 = .ok (.aload_n 0, 1) := by decide +kernel
theorem dX12_compare__59 : decode cX12_compare_ 59 = .ok (.getfield 204, 3) := by decide +kernel
theorem dX12_compare__62 : decode cX12_compare_ 62 = .ok (.aload_n 1, 1) := by decide +kernel
theorem dX12_compare__63 : decode cX12_compare_ 63 = .ok (.getfield 204, 3) := by decide +kernel
theorem dX12_compare__66 : decode cX12_compare_ 66 = .ok (.invokestatic 220, 3) := by decide +kernel
theorem dX12_compare__69 : decode cX12_compare_ 69 = .ok (.istore_n 2, 1) := by decide +kernel
theorem dX12_compare__70 : decode cX12_compare_ 70 = .ok (.iload_n 2, 1) := by decide +kernel
theorem dX12_compare__71 : decode cX12_compare_ 71 = .ok (.ifCond .ne 17, 3) := by decide +kernel
theorem dX12_compare__74 : decode cX12_compare_ 74 = .ok (.aload_n 0, 1) := by decide +kernel
theorem dX12_compare__75 : decode cX12_compare_ 75 = .ok (.getfield 210, 3) := by decide +kernel
theorem dX12_compare__78 : decode cX12_compare_ 78 = .ok (.aload_n 1, 1) := by decide +kernel
theorem dX12_compare__79 : decode cX12_compare_ 79 = .ok (.getfield 210, 3) := by decide +kernel
theorem dX12_compare__82 : decode cX12_compare_ 82 = .ok (.invokestatic 220, 3) := by decide +kernel
theorem dX12_compare__85 : decode cX12_compare_ 85 = .ok (.goto 4, 3) := by decide +kernel
theorem dX12_compare__88 : decode cX12_compare_ 88 = .ok (.iload_n 2, 1) := by decide +kernel
theorem dX12_compare__89 : decode cX12_compare_ 89 = .ok (.istore_n 2, 1) := by decide +kernel
theorem dX12_compare__90 : decode cX12_compare_ 90 = .ok (.iload_n 2, 1) := by decide +kernel
theorem dX12_compare__91 : decode cX12_compare_ 91 = .ok (.ifCond .ne 17, 3) := by decide +kernel
theorem dX12_compare__94 : decode cX12_compare_ 94 = .ok (.aload_n 0, 1) := by decide +kernel
theorem dX12_compare__95 : decode cX12_compare_ 95 = .ok (.getfield 211, 3) := by decide +kernel
theorem dX12_compare__98 : decode cX12_compare_ 98 = .ok (.aload_n 1, 1) := by decide +kernel
theorem dX12_compare__99 : decode cX12_compare_ 99 = .ok (.getfield 211, 3) := by decide +kernel
theorem dX12_compare__102 : decode cX12_compare_ 102 = .ok (.invokestatic 220, 3) := by decide +kernel
theorem dX12_compare__105 : decode cX12_compare_ 105 = .ok (.goto 4, 3) := by decide +kernel
theorem dX12_compare__108 : decode cX12_compare_ 108 = .ok (.iload_n 2, 1) := by decide +kernel
theorem dX12_compare__109 : decode cX12_compare_ 109 = .ok (.ireturn, 1) := by decide +kernel
set_option maxRecDepth 20000 in
theorem s_MO_compare_ (E : XE) : Cs E (yX12_compare_, cX12_compare_, 3, some .int) (k_MO_compare_) := (Cs_nd (Cs_nd (Cs_nd (Cs_nd (Cs_nd (Cs_lf (sg_aload_n dX12_compare__0 rfl)) (Cs_nd (Cs_lf (sg_getf dX12_compare__1 rfl inX10 (by decide) w_1260)) (Cs_lf (sg_aload_n dX12_compare__4 rfl)))) (Cs_nd (Cs_nd (Cs_lf (sg_getf dX12_compare__5 rfl inX10 (by decide) w_1260)) (Cs_lf (sg_ceq dX12_compare__8 (by decide)))) (Cs_nd (Cs_lf (sg_aload_n dX12_compare__11 rfl)) (Cs_lf (sg_getf dX12_compare__12 rfl inX10 (by decide) w_1260))))) (Cs_nd (Cs_nd (Cs_lf (sg_aload_n dX12_compare__15 rfl)) (Cs_nd (Cs_lf (sg_getf dX12_compare__16 rfl inX10 (by decide) w_1260)) (Cs_lf (sg_cge dX12_compare__19 (by decide))))) (Cs_nd (Cs_nd (Cs_lf (sg_iconst dX12_compare__22 (by decide))) (Cs_lf (sg_goto dX12_compare__23 (by decide)))) (Cs_nd (Cs_lf (sg_iconst dX12_compare__26 (by decide))) (Cs_lf (sg_iret dX12_compare__27 rfl)))))) (Cs_nd (Cs_nd (Cs_nd (Cs_lf (sg_aload_n dX12_compare__28 rfl)) (Cs_nd (Cs_lf (sg_getf dX12_compare__29 rfl inX10 (by decide) w_1261)) (Cs_lf (sg_aload_n dX12_compare__32 rfl)))) (Cs_nd (Cs_nd (Cs_lf (sg_getf dX12_compare__33 rfl inX10 (by decide) w_1261)) (Cs_lf (sg_lcmp dX12_compare__36))) (Cs_nd (Cs_lf (sg_ifeq dX12_compare__37 (by decide))) (Cs_lf (sg_aload_n dX12_compare__40 rfl))))) (Cs_nd (Cs_nd (Cs_lf (sg_getf dX12_compare__41 rfl inX10 (by decide) w_1261)) (Cs_nd (Cs_lf (sg_aload_n dX12_compare__44 rfl)) (Cs_lf (sg_getf dX12_compare__45 rfl inX10 (by decide) w_1261)))) (Cs_nd (Cs_nd (Cs_lf (sg_lcmp dX12_compare__48)) (Cs_lf (sg_ifge dX12_compare__49 (by decide)))) (Cs_nd (Cs_lf (sg_iconst dX12_compare__52 (by decide))) (Cs_lf (sg_goto dX12_compare__53 (by decide)))))))) (Cs_nd (Cs_nd (Cs_nd (Cs_nd (Cs_lf (sg_iconst dX12_compare__56 (by decide))) (Cs_nd (Cs_lf (sg_iret dX12_compare__57 rfl)) (Cs_lf (sg_aload_n dX12_compare__58 rfl)))) (Cs_nd (Cs_nd (Cs_lf (sg_getf dX12_compare__59 rfl inX10 (by decide) w_1263)) (Cs_lf (sg_aload_n dX12_compare__62 rfl))) (Cs_nd (Cs_lf (sg_getf dX12_compare__63 rfl inX10 (by decide) w_1263)) (Cs_lf (sg_inv (mid := 155) (by decide +kernel) dX12_compare__66 ok_155 w_1285 w_1286))))) (Cs_nd (Cs_nd (Cs_lf (sg_istore_n dX12_compare__69 rfl (by decide))) (Cs_nd (Cs_lf (sg_iload_n dX12_compare__70 rfl)) (Cs_lf (sg_ifne dX12_compare__71 (by decide))))) (Cs_nd (Cs_nd (Cs_lf (sg_aload_n dX12_compare__74 rfl)) (Cs_lf (sg_getf dX12_compare__75 rfl inX10 (by decide) w_1265))) (Cs_nd (Cs_lf (sg_aload_n dX12_compare__78 rfl)) (Cs_lf (sg_getf dX12_compare__79 rfl inX10 (by decide) w_1265)))))) (Cs_nd (Cs_nd (Cs_nd (Cs_lf (sg_inv (mid := 155) (by decide +kernel) dX12_compare__82 ok_155 w_1285 w_1286)) (Cs_nd (Cs_lf (sg_goto dX12_compare__85 (by decide))) (Cs_lf (sg_iload_n dX12_compare__88 rfl)))) (Cs_nd (Cs_nd (Cs_lf (sg_istore_n dX12_compare__89 rfl (by decide))) (Cs_lf (sg_iload_n dX12_compare__90 rfl))) (Cs_nd (Cs_lf (sg_ifne dX12_compare__91 (by decide))) (Cs_lf (sg_aload_n dX12_compare__94 rfl))))) (Cs_nd (Cs_nd (Cs_lf (sg_getf dX12_compare__95 rfl inX10 (by decide) w_1267)) (Cs_nd (Cs_lf (sg_aload_n dX12_compare__98 rfl)) (Cs_lf (sg_getf dX12_compare__99 rfl inX10 (by decide) w_1267)))) (Cs_nd (Cs_nd (Cs_lf (sg_inv (mid := 155) (by decide +kernel) dX12_compare__102 ok_155 w_1285 w_1286)) (Cs_lf (sg_goto dX12_compare__105 (by decide)))) (Cs_nd (Cs_lf (sg_iload_n dX12_compare__108 rfl)) (Cs_lf (sg_iret dX12_compare__109 rfl))))))))
theorem dX12_find_0 : decode cX12_find 0 = .ok (.iconst 0, 1) := by decide +kernel
theorem dX12_find_1 : decode cX12_find 1 = .ok (.istore_n 3, 1) := by decide +kernel
theorem dX12_find_2 : decode cX12_find 2 = .ok (.iload_n 3, 1) := by decide +kernel
theorem dX12_find_3 : decode cX12_find 3 = .ok (.iload_n 1, 1) := by decide +kernel
theorem dX12_find_4 : decode cX12_find 4 = .ok (.if_icmp .ge 37, 3) := by decide +kernel
theorem dX12_find_7 : decode cX12_find 7 = .ok (.aload_n 0, 1) := by decide +kernel
theorem dX12_find_8 : decode cX12_find 8 = .ok (.iload_n 3, 1) := by decide +kernel
theorem dX12_find_9 : decode cX12_find 9 = .ok (.aaload, 1) := by decide +kernel
theorem dX12_find_10 : decode cX12_find 10 = .ok (.aload_n 2, 1) := by decide +kernel
theorem dX12_find_11 : decode cX12_find 11 = .ok (.invokestatic 223, 3) := by decide +kernel
theorem dX12_find_14 : decode cX12_find 14 = .ok (.istore 4, 2) := by decide +kernel
theorem dX12_find_16 : decode cX12_find 16 = .ok (.iload 4, 2) := by decide +kernel
theorem dX12_find_18 : decode cX12_find 18 = .ok (.ifCond .lt 17, 3) := by decide +kernel
theorem dX12_find_21 : decode cX12_find 21 = .ok (.iload 4, 2) := by decide +kernel
theorem dX12_find_23 : decode cX12_find 23 = .ok (.ifCond .ne 7, 3) := by decide +kernel
theorem dX12_find_26 : decode cX12_find 26 = .ok (.iload_n 3, 1) := by decide +kernel
theorem dX12_find_27 : decode cX12_find 27 = .ok (.goto 7, 3) := by decide +kernel
theorem dX12_find_30 : decode cX12_find 30 = .ok (.iload_n 3, 1) := by decide +kernel
theorem dX12_find_31 : decode cX12_find 31 = .ok (.ineg, 1) := by decide +kernel
theorem dX12_find_32 : decode cX12_find 32 = .ok (.iconst 1, 1) := by decide +kernel
theorem dX12_find_33 : decode cX12_find 33 = .ok (.isub, 1) := by decide +kernel
theorem dX12_find_34 : decode cX12_find 34 = .ok (.ireturn, 1) := by decide +kernel
theorem dX12_find_35 : decode cX12_find 35 = .ok (.iinc 3 1, 3) := by decide +kernel
theorem dX12_find_38 : decode cX12_find 38 = .ok (.goto (-36), 3) := by decide +kernel
theorem dX12_find_41 : decode cX12_find 41 = .ok (.iload_n 1, 1) := by decide +kernel
theorem dX12_find_42 : decode cX12_find 42 = .ok (.ineg, 1) := by decide +kernel
theorem dX12_find_43 : decode cX12_find 43 = .ok (.iconst 1, 1) := by decide +kernel
theorem dX12_find_44 : decode cX12_find 44 = .ok (.isub, 1) := by decide +kernel
theorem dX12_find_45 : decode cX12_find 45 = .ok (.ireturn, 1) := by decide +kernel
set_option maxRecDepth 20000 in
theorem s_MO_find (E : XE) : Cs E (yX12_find, cX12_find, 5, some .int) (k_MO_find) := (Cs_nd (Cs_nd (Cs_nd (Cs_nd (Cs_lf (sg_iconst dX12_find_0 (by decide))) (Cs_nd (Cs_lf (sg_istore_n dX12_find_1 rfl (by decide))) (Cs_lf (sg_iload_n dX12_find_2 rfl)))) (Cs_nd (Cs_nd (Cs_lf (sg_iload_n dX12_find_3 rfl)) (Cs_lf (sg_cge dX12_find_4 (by decide)))) (Cs_nd (Cs_lf (sg_aload_n dX12_find_7 rfl)) (Cs_lf (sg_iload_n dX12_find_8 rfl))))) (Cs_nd (Cs_nd (Cs_lf (sg_aald dX12_find_9)) (Cs_nd (Cs_lf (sg_aload_n dX12_find_10 rfl)) (Cs_lf (sg_inv (mid := 156) (by decide +kernel) dX12_find_11 ok_156 w_1282 w_1283)))) (Cs_nd (Cs_nd (Cs_lf (sg_istore dX12_find_14 (by decide))) (Cs_lf (sg_iload dX12_find_16))) (Cs_nd (Cs_lf (sg_iflt dX12_find_18 (by decide))) (Cs_lf (sg_iload dX12_find_21)))))) (Cs_nd (Cs_nd (Cs_nd (Cs_lf (sg_ifne dX12_find_23 (by decide))) (Cs_nd (Cs_lf (sg_iload_n dX12_find_26 rfl)) (Cs_lf (sg_goto dX12_find_27 (by decide))))) (Cs_nd (Cs_nd (Cs_lf (sg_iload_n dX12_find_30 rfl)) (Cs_lf (sg_ineg dX12_find_31))) (Cs_nd (Cs_lf (sg_iconst dX12_find_32 (by decide))) (Cs_lf (sg_isub dX12_find_33))))) (Cs_nd (Cs_nd (Cs_nd (Cs_lf (sg_iret dX12_find_34 rfl)) (Cs_lf (sg_iinc dX12_find_35 (by decide) (by decide)))) (Cs_nd (Cs_lf (sg_goto dX12_find_38 (by decide))) (Cs_lf (sg_iload_n dX12_find_41 rfl)))) (Cs_nd (Cs_nd (Cs_lf (sg_ineg dX12_find_42)) (Cs_lf (sg_iconst dX12_find_43 (by decide)))) (Cs_nd (Cs_lf (sg_isub dX12_find_44)) (Cs_lf (sg_iret dX12_find_45 rfl)))))))
theorem dX12_lay_0 : decode cX12_lay 0 = .ok (.iload_n 3, 1) := by decide +kernel
theorem dX12_lay_1 : decode cX12_lay 1 = .ok (.istore 4, 2) := by decide +kernel
theorem dX12_lay_3 : decode cX12_lay 3 = .ok (.iconst 1, 1) := by decide +kernel
theorem dX12_lay_4 : decode cX12_lay 4 = .ok (.istore 5, 2) := by decide +kernel
theorem dX12_lay_6 : decode cX12_lay 6 = .ok (.iload 5, 2) := by decide +kernel
theorem dX12_lay_8 : decode cX12_lay 8 = .ok (.aload_n 1, 1) := by decide +kernel
theorem dX12_lay_9 : decode cX12_lay 9 = .ok (.getfield 81, 3) := by decide +kernel
theorem dX12_lay_12 : decode cX12_lay 12 = .ok (.if_icmp .ge 94, 3) := by decide +kernel
theorem dX12_lay_15 : decode cX12_lay 15 = .ok (.iload 4, 2) := by decide +kernel
theorem dX12_lay_17 : decode cX12_lay 17 = .ok (.sipush 150, 3) := by decide +kernel
theorem dX12_lay_20 : decode cX12_lay 20 = .ok (.if_icmp .gt 86, 3) := by decide +kernel
theorem dX12_lay_23 : decode cX12_lay 23 = .ok (.aload_n 1, 1) := by decide +kernel
theorem dX12_lay_24 : decode cX12_lay 24 = .ok (.getfield 126, 3) := by decide +kernel
theorem dX12_lay_27 : decode cX12_lay 27 = .ok (.iload 5, 2) := by decide +kernel
theorem dX12_lay_29 : decode cX12_lay 29 = .ok (.iaload, 1) := by decide +kernel
theorem dX12_lay_30 : decode cX12_lay 30 = .ok (.ifCond .eq 70, 3) := by decide +kernel
theorem dX12_lay_33 : decode cX12_lay 33 = .ok (.aload_n 0, 1) := by decide +kernel
theorem dX12_lay_34 : decode cX12_lay 34 = .ok (.aload_n 1, 1) := by decide +kernel
theorem dX12_lay_35 : decode cX12_lay 35 = .ok (.iload 5, 2) := by decide +kernel
theorem dX12_lay_37 : decode cX12_lay 37 = .ok (.invokevirtual 226, 3) := by decide +kernel
theorem dX12_lay_40 : decode cX12_lay 40 = .ok (.astore 6, 2) := by decide +kernel
theorem dX12_lay_42 : decode cX12_lay 42 = .ok (.aload_n 2, 1) := by decide +kernel
theorem dX12_lay_43 : decode cX12_lay 43 = .ok (.iload 4, 2) := by decide +kernel
theorem dX12_lay_45 : decode cX12_lay 45 = .ok (.aload 6, 2) := by decide +kernel
theorem dX12_lay_47 : decode cX12_lay 47 = .ok (.invokestatic 230, 3) := by decide +kernel
theorem dX12_lay_50 : decode cX12_lay 50 = .ok (.istore 7, 2) := by decide +kernel
theorem dX12_lay_52 : decode cX12_lay 52 = .ok (.iload 7, 2) := by decide +kernel
theorem dX12_lay_54 : decode cX12_lay 54 = .ok (.ifCond .ge 46, 3) := by decide +kernel
theorem dX12_lay_57 : decode cX12_lay 57 = .ok (.iload 7, 2) := by decide +kernel
theorem dX12_lay_59 : decode cX12_lay 59 = .ok (.ineg, 1) := by decide +kernel
theorem dX12_lay_60 : decode cX12_lay 60 = .ok (.iconst 1, 1) := by decide +kernel
theorem dX12_lay_61 : decode cX12_lay 61 = .ok (.isub, 1) := by decide +kernel
theorem dX12_lay_62 : decode cX12_lay 62 = .ok (.istore 7, 2) := by decide +kernel
theorem dX12_lay_64 : decode cX12_lay 64 = .ok (.iload 4, 2) := by decide +kernel
theorem dX12_lay_66 : decode cX12_lay 66 = .ok (.istore 8, 2) := by decide +kernel
theorem dX12_lay_68 : decode cX12_lay 68 = .ok (.iload 8, 2) := by decide +kernel
theorem dX12_lay_70 : decode cX12_lay 70 = .ok (.iload 7, 2) := by decide +kernel
theorem dX12_lay_72 : decode cX12_lay 72 = .ok (.if_icmp .le 19, 3) := by decide +kernel
theorem dX12_lay_75 : decode cX12_lay 75 = .ok (.aload_n 2, 1) := by decide +kernel
theorem dX12_lay_76 : decode cX12_lay 76 = .ok (.iload 8, 2) := by decide +kernel
theorem dX12_lay_78 : decode cX12_lay 78 = .ok (.aload_n 2, 1) := by decide +kernel
theorem dX12_lay_79 : decode cX12_lay 79 = .ok (.iload 8, 2) := by decide +kernel
theorem dX12_lay_81 : decode cX12_lay 81 = .ok (.iconst 1, 1) := by decide +kernel
theorem dX12_lay_82 : decode cX12_lay 82 = .ok (.isub, 1) := by decide +kernel
theorem dX12_lay_83 : decode cX12_lay 83 = .ok (.aaload, 1) := by decide +kernel
theorem dX12_lay_84 : decode cX12_lay 84 = .ok (.aastore, 1) := by decide +kernel
theorem dX12_lay_85 : decode cX12_lay 85 = .ok (.iinc 8 (-1), 3) := by decide +kernel
theorem dX12_lay_88 : decode cX12_lay 88 = .ok (.goto (-20), 3) := by decide +kernel
theorem dX12_lay_91 : decode cX12_lay 91 = .ok (.aload_n 2, 1) := by decide +kernel
theorem dX12_lay_92 : decode cX12_lay 92 = .ok (.iload 7, 2) := by decide +kernel
theorem dX12_lay_94 : decode cX12_lay 94 = .ok (.aload 6, 2) := by decide +kernel
theorem dX12_lay_96 : decode cX12_lay 96 = .ok (.aastore, 1) := by decide +kernel
theorem dX12_lay_97 : decode cX12_lay 97 = .ok (.iinc 4 1, 3) := by decide +kernel
theorem dX12_lay_100 : decode cX12_lay 100 = .ok (.iinc 5 1, 3) := by decide +kernel
theorem dX12_lay_103 : decode cX12_lay 103 = .ok (.goto (-97), 3) := by decide +kernel
theorem dX12_lay_106 : decode cX12_lay 106 = .ok (.iload 4, 2) := by decide +kernel
theorem dX12_lay_108 : decode cX12_lay 108 = .ok (.ireturn, 1) := by decide +kernel
set_option maxRecDepth 20000 in
theorem s_MO_lay (E : XE) : Cs E (yX12_lay, cX12_lay, 9, some .int) (k_MO_lay) := (Cs_nd (Cs_nd (Cs_nd (Cs_nd (Cs_nd (Cs_lf (sg_iload_n dX12_lay_0 rfl)) (Cs_nd (Cs_lf (sg_istore dX12_lay_1 (by decide))) (Cs_lf (sg_iconst dX12_lay_3 (by decide))))) (Cs_nd (Cs_nd (Cs_lf (sg_istore dX12_lay_4 (by decide))) (Cs_lf (sg_iload dX12_lay_6))) (Cs_nd (Cs_lf (sg_aload_n dX12_lay_8 rfl)) (Cs_lf (sg_getf dX12_lay_9 rfl inX9 (by decide) w_963))))) (Cs_nd (Cs_nd (Cs_lf (sg_cge dX12_lay_12 (by decide))) (Cs_nd (Cs_lf (sg_iload dX12_lay_15)) (Cs_lf (sg_sipush dX12_lay_17 (by decide))))) (Cs_nd (Cs_nd (Cs_lf (sg_cgt dX12_lay_20 (by decide))) (Cs_lf (sg_aload_n dX12_lay_23 rfl))) (Cs_nd (Cs_lf (sg_getf dX12_lay_24 rfl inX9 (by decide) w_965)) (Cs_lf (sg_iload dX12_lay_27)))))) (Cs_nd (Cs_nd (Cs_nd (Cs_lf (sg_iald dX12_lay_29)) (Cs_nd (Cs_lf (sg_ifeq dX12_lay_30 (by decide))) (Cs_lf (sg_aload_n dX12_lay_33 rfl)))) (Cs_nd (Cs_nd (Cs_lf (sg_aload_n dX12_lay_34 rfl)) (Cs_lf (sg_iload dX12_lay_35))) (Cs_nd (Cs_lf (sg_invV (mid := 154) (ci := 11) (by decide +kernel) dX12_lay_37 ok_154 rfl w_1249 w_1251 ws_40)) (Cs_lf (sg_astore dX12_lay_40 (by decide)))))) (Cs_nd (Cs_nd (Cs_lf (sg_aload_n dX12_lay_42 rfl)) (Cs_nd (Cs_lf (sg_iload dX12_lay_43)) (Cs_lf (sg_aload dX12_lay_45)))) (Cs_nd (Cs_nd (Cs_lf (sg_inv (mid := 157) (by decide +kernel) dX12_lay_47 ok_157 w_1279 w_1280)) (Cs_lf (sg_istore dX12_lay_50 (by decide)))) (Cs_nd (Cs_lf (sg_iload dX12_lay_52)) (Cs_lf (sg_ifge dX12_lay_54 (by decide)))))))) (Cs_nd (Cs_nd (Cs_nd (Cs_nd (Cs_lf (sg_iload dX12_lay_57)) (Cs_nd (Cs_lf (sg_ineg dX12_lay_59)) (Cs_lf (sg_iconst dX12_lay_60 (by decide))))) (Cs_nd (Cs_nd (Cs_lf (sg_isub dX12_lay_61)) (Cs_lf (sg_istore dX12_lay_62 (by decide)))) (Cs_nd (Cs_lf (sg_iload dX12_lay_64)) (Cs_lf (sg_istore dX12_lay_66 (by decide)))))) (Cs_nd (Cs_nd (Cs_lf (sg_iload dX12_lay_68)) (Cs_nd (Cs_lf (sg_iload dX12_lay_70)) (Cs_lf (sg_cle dX12_lay_72 (by decide))))) (Cs_nd (Cs_nd (Cs_lf (sg_aload_n dX12_lay_75 rfl)) (Cs_lf (sg_iload dX12_lay_76))) (Cs_nd (Cs_lf (sg_aload_n dX12_lay_78 rfl)) (Cs_lf (sg_iload dX12_lay_79)))))) (Cs_nd (Cs_nd (Cs_nd (Cs_lf (sg_iconst dX12_lay_81 (by decide))) (Cs_nd (Cs_lf (sg_isub dX12_lay_82)) (Cs_lf (sg_aald dX12_lay_83)))) (Cs_nd (Cs_nd (Cs_lf (sg_aast (kd := 10) (ci := 9) (fun _ => rfl) rfl dX12_lay_84)) (Cs_lf (sg_iinc dX12_lay_85 (by decide) (by decide)))) (Cs_nd (Cs_lf (sg_goto dX12_lay_88 (by decide))) (Cs_lf (sg_aload_n dX12_lay_91 rfl))))) (Cs_nd (Cs_nd (Cs_nd (Cs_lf (sg_iload dX12_lay_92)) (Cs_lf (sg_aload dX12_lay_94))) (Cs_nd (Cs_lf (sg_aast (kd := 10) (ci := 9) (fun _ => rfl) rfl dX12_lay_96)) (Cs_lf (sg_iinc dX12_lay_97 (by decide) (by decide))))) (Cs_nd (Cs_nd (Cs_lf (sg_iinc dX12_lay_100 (by decide) (by decide))) (Cs_lf (sg_goto dX12_lay_103 (by decide)))) (Cs_nd (Cs_lf (sg_iload dX12_lay_106)) (Cs_lf (sg_iret dX12_lay_108 rfl))))))))
theorem dX12_join_0 : decode cX12_join 0 = .ok (.aload_n 0, 1) := by decide +kernel
theorem dX12_join_1 : decode cX12_join 1 = .ok (.iconst 0, 1) := by decide +kernel
theorem dX12_join_2 : decode cX12_join 2 = .ok (.putfield 39, 3) := by decide +kernel
theorem dX12_join_5 : decode cX12_join 5 = .ok (.sipush 152, 3) := by decide +kernel
theorem dX12_join_8 : decode cX12_join 8 = .ok (.anewarray 26, 3) := by decide +kernel
theorem dX12_join_11 : decode cX12_join 11 = .ok (.astore_n 1, 1) := by decide +kernel
theorem dX12_join_12 : decode cX12_join 12 = .ok (.iconst 0, 1) := by decide +kernel
theorem dX12_join_13 : decode cX12_join 13 = .ok (.istore_n 2, 1) := by decide +kernel
theorem dX12_join_14 : decode cX12_join 14 = .ok (.iconst 0, 1) := by decide +kernel
theorem dX12_join_15 : decode cX12_join 15 = .ok (.istore_n 3, 1) := by decide +kernel
theorem dX12_join_16 : decode cX12_join 16 = .ok (.iload_n 3, 1) := by decide +kernel
theorem dX12_join_17 : decode cX12_join 17 = .ok (.aload_n 0, 1) := by decide +kernel
theorem dX12_join_18 : decode cX12_join 18 = .ok (.getfield 42, 3) := by decide +kernel
theorem dX12_join_21 : decode cX12_join 21 = .ok (.if_icmp .ge 29, 3) := by decide +kernel
theorem dX12_join_24 : decode cX12_join 24 = .ok (.iload_n 2, 1) := by decide +kernel
theorem dX12_join_25 : decode cX12_join 25 = .ok (.sipush 150, 3) := by decide +kernel
theorem dX12_join_28 : decode cX12_join 28 = .ok (.if_icmp .gt 22, 3) := by decide +kernel
theorem dX12_join_31 : decode cX12_join 31 = .ok (.aload_n 0, 1) := by decide +kernel
theorem dX12_join_32 : decode cX12_join 32 = .ok (.aload_n 0, 1) := by decide +kernel
theorem dX12_join_33 : decode cX12_join 33 = .ok (.getfield 11, 3) := by decide +kernel
theorem dX12_join_36 : decode cX12_join 36 = .ok (.iload_n 3, 1) := by decide +kernel
theorem dX12_join_37 : decode cX12_join 37 = .ok (.aaload, 1) := by decide +kernel
theorem dX12_join_38 : decode cX12_join 38 = .ok (.aload_n 1, 1) := by decide +kernel
theorem dX12_join_39 : decode cX12_join 39 = .ok (.iload_n 2, 1) := by decide +kernel
theorem dX12_join_40 : decode cX12_join 40 = .ok (.invokevirtual 234, 3) := by decide +kernel
theorem dX12_join_43 : decode cX12_join 43 = .ok (.istore_n 2, 1) := by decide +kernel
theorem dX12_join_44 : decode cX12_join 44 = .ok (.iinc 3 1, 3) := by decide +kernel
theorem dX12_join_47 : decode cX12_join 47 = .ok (.goto (-31), 3) := by decide +kernel
theorem dX12_join_50 : decode cX12_join 50 = .ok (.iload_n 2, 1) := by decide +kernel
theorem dX12_join_51 : decode cX12_join 51 = .ok (.sipush 150, 3) := by decide +kernel
theorem dX12_join_54 : decode cX12_join 54 = .ok (.if_icmp .le 6, 3) := by decide +kernel
theorem dX12_join_57 : decode cX12_join 57 = .ok (.bipush (-3), 2) := by decide +kernel
theorem dX12_join_59 : decode cX12_join 59 = .ok (.ireturn, 1) := by decide +kernel
theorem dX12_join_60 : decode cX12_join 60 = .ok (.aload_n 0, 1) := by decide +kernel
theorem dX12_join_61 : decode cX12_join 61 = .ok (.aload_n 1, 1) := by decide +kernel
theorem dX12_join_62 : decode cX12_join 62 = .ok (.putfield 28, 3) := by decide +kernel
theorem dX12_join_65 : decode cX12_join 65 = .ok (.aload_n 0, 1) := by decide +kernel
theorem dX12_join_66 : decode cX12_join 66 = .ok (.iload_n 2, 1) := by decide +kernel
theorem dX12_join_67 : decode cX12_join 67 = .ok (.putfield 238, 3) := by decide +kernel
theorem dX12_join_70 : decode cX12_join 70 = .ok (.iload_n 2, 1) := by decide +kernel
theorem dX12_join_71 : decode cX12_join 71 = .ok (.ireturn, 1) := by decide +kernel
set_option maxRecDepth 20000 in
theorem s_MO_join (E : XE) : Cs E (yX12_join, cX12_join, 4, some .int) (k_MO_join) := (Cs_nd (Cs_nd (Cs_nd (Cs_nd (Cs_nd (Cs_lf (sg_aload_n dX12_join_0 rfl)) (Cs_lf (sg_iconst dX12_join_1 (by decide)))) (Cs_nd (Cs_lf (sg_putf dX12_join_2 rfl inX12 tyX12_ok nmX12 (by decide) w_883 rfl (tyX12_ok 0 (by decide)) ok_int)) (Cs_nd (Cs_lf (sg_sipush dX12_join_5 (by decide))) (Cs_lf (sg_newQ dX12_join_8 (fun _ => rfl) w_881 (by decide)))))) (Cs_nd (Cs_nd (Cs_lf (sg_astore_n dX12_join_11 rfl (by decide))) (Cs_lf (sg_iconst dX12_join_12 (by decide)))) (Cs_nd (Cs_lf (sg_istore_n dX12_join_13 rfl (by decide))) (Cs_nd (Cs_lf (sg_iconst dX12_join_14 (by decide))) (Cs_lf (sg_istore_n dX12_join_15 rfl (by decide))))))) (Cs_nd (Cs_nd (Cs_nd (Cs_lf (sg_iload_n dX12_join_16 rfl)) (Cs_lf (sg_aload_n dX12_join_17 rfl))) (Cs_nd (Cs_lf (sg_getf dX12_join_18 rfl inX12 (by decide) w_885)) (Cs_nd (Cs_lf (sg_cge dX12_join_21 (by decide))) (Cs_lf (sg_iload_n dX12_join_24 rfl))))) (Cs_nd (Cs_nd (Cs_lf (sg_sipush dX12_join_25 (by decide))) (Cs_lf (sg_cgt dX12_join_28 (by decide)))) (Cs_nd (Cs_lf (sg_aload_n dX12_join_31 rfl)) (Cs_nd (Cs_lf (sg_aload_n dX12_join_32 rfl)) (Cs_lf (sg_getf dX12_join_33 rfl inX12 (by decide) w_884))))))) (Cs_nd (Cs_nd (Cs_nd (Cs_nd (Cs_lf (sg_iload_n dX12_join_36 rfl)) (Cs_lf (sg_aald dX12_join_37))) (Cs_nd (Cs_lf (sg_aload_n dX12_join_38 rfl)) (Cs_nd (Cs_lf (sg_iload_n dX12_join_39 rfl)) (Cs_lf (sg_invV (mid := 158) (ci := 11) (by decide +kernel) dX12_join_40 ok_158 rfl w_1245 w_1247 ws_39))))) (Cs_nd (Cs_nd (Cs_lf (sg_istore_n dX12_join_43 rfl (by decide))) (Cs_lf (sg_iinc dX12_join_44 (by decide) (by decide)))) (Cs_nd (Cs_lf (sg_goto dX12_join_47 (by decide))) (Cs_nd (Cs_lf (sg_iload_n dX12_join_50 rfl)) (Cs_lf (sg_sipush dX12_join_51 (by decide))))))) (Cs_nd (Cs_nd (Cs_nd (Cs_lf (sg_cle dX12_join_54 (by decide))) (Cs_lf (sg_bipush dX12_join_57 (by decide)))) (Cs_nd (Cs_lf (sg_iret dX12_join_59 rfl)) (Cs_nd (Cs_lf (sg_aload_n dX12_join_60 rfl)) (Cs_lf (sg_aload_n dX12_join_61 rfl))))) (Cs_nd (Cs_nd (Cs_lf (sg_putf dX12_join_62 rfl inX12 tyX12_ok nmX12 (by decide) w_893 rfl (tyX12_ok 10 (by decide)) (ok_arr _))) (Cs_nd (Cs_lf (sg_aload_n dX12_join_65 rfl)) (Cs_lf (sg_iload_n dX12_join_66 rfl)))) (Cs_nd (Cs_lf (sg_putf dX12_join_67 rfl inX12 tyX12_ok nmX12 (by decide) w_894 rfl (tyX12_ok 11 (by decide)) ok_int)) (Cs_nd (Cs_lf (sg_iload_n dX12_join_70 rfl)) (Cs_lf (sg_iret dX12_join_71 rfl))))))))
theorem dX12_isEntry_0 : decode cX12_isEntry 0 = .ok (.aload_n 0, 1) := by decide +kernel
theorem dX12_isEntry_1 : decode cX12_isEntry 1 = .ok (.iload_n 1, 1) := by decide +kernel
theorem dX12_isEntry_2 : decode cX12_isEntry 2 = .ok (.invokevirtual 180, 3) := by decide +kernel
theorem dX12_isEntry_5 : decode cX12_isEntry 5 = .ok (.ifCond .eq 40, 3) := by decide +kernel
theorem dX12_isEntry_8 : decode cX12_isEntry 8 = .ok (.iload_n 2, 1) := by decide +kernel
theorem dX12_isEntry_9 : decode cX12_isEntry 9 = .ok (.iconst 0, 1) := by decide +kernel
theorem dX12_isEntry_10 : decode cX12_isEntry 10 = .ok (.aload_n 0, 1) := by decide +kernel
theorem dX12_isEntry_11 : decode cX12_isEntry 11 = .ok (.getfield 11, 3) := by decide +kernel
theorem dX12_isEntry_14 : decode cX12_isEntry 14 = .ok (.iload_n 1, 1) := by decide +kernel
theorem dX12_isEntry_15 : decode cX12_isEntry 15 = .ok (.aaload, 1) := by decide +kernel
theorem dX12_isEntry_16 : decode cX12_isEntry 16 = .ok (.getfield 81, 3) := by decide +kernel
theorem dX12_isEntry_19 : decode cX12_isEntry 19 = .ok (.iconst 1, 1) := by decide +kernel
theorem dX12_isEntry_20 : decode cX12_isEntry 20 = .ok (.isub, 1) := by decide +kernel
theorem dX12_isEntry_21 : decode cX12_isEntry 21 = .ok (.invokestatic 45, 3) := by decide +kernel
theorem dX12_isEntry_24 : decode cX12_isEntry 24 = .ok (.ifCond .eq 21, 3) := by decide +kernel
theorem dX12_isEntry_27 : decode cX12_isEntry 27 = .ok (.aload_n 0, 1) := by decide +kernel
theorem dX12_isEntry_28 : decode cX12_isEntry 28 = .ok (.getfield 11, 3) := by decide +kernel
theorem dX12_isEntry_31 : decode cX12_isEntry 31 = .ok (.iload_n 1, 1) := by decide +kernel
theorem dX12_isEntry_32 : decode cX12_isEntry 32 = .ok (.aaload, 1) := by decide +kernel
theorem dX12_isEntry_33 : decode cX12_isEntry 33 = .ok (.getfield 126, 3) := by decide +kernel
theorem dX12_isEntry_36 : decode cX12_isEntry 36 = .ok (.iload_n 2, 1) := by decide +kernel
theorem dX12_isEntry_37 : decode cX12_isEntry 37 = .ok (.iaload, 1) := by decide +kernel
theorem dX12_isEntry_38 : decode cX12_isEntry 38 = .ok (.ifCond .eq 7, 3) := by decide +kernel
theorem dX12_isEntry_41 : decode cX12_isEntry 41 = .ok (.iconst 1, 1) := by decide +kernel
theorem dX12_isEntry_42 : decode cX12_isEntry 42 = .ok (.goto 4, 3) := by decide +kernel
theorem dX12_isEntry_45 : decode cX12_isEntry 45 = .ok (.iconst 0, 1) := by decide +kernel
theorem dX12_isEntry_46 : decode cX12_isEntry 46 = .ok (.ireturn, 1) := by decide +kernel
set_option maxRecDepth 20000 in
theorem s_MO_isEntry (E : XE) : Cs E (yX12_isEntry, cX12_isEntry, 3, some .boolean) (k_MO_isEntry) := (Cs_nd (Cs_nd (Cs_nd (Cs_nd (Cs_lf (sg_aload_n dX12_isEntry_0 rfl)) (Cs_nd (Cs_lf (sg_iload_n dX12_isEntry_1 rfl)) (Cs_lf (sg_invV (mid := 124) (ci := 11) (by decide +kernel) dX12_isEntry_2 ok_124 rfl w_1184 w_1186 ws_37)))) (Cs_nd (Cs_lf (sg_ifeq dX12_isEntry_5 (by decide))) (Cs_nd (Cs_lf (sg_iload_n dX12_isEntry_8 rfl)) (Cs_lf (sg_iconst dX12_isEntry_9 (by decide)))))) (Cs_nd (Cs_nd (Cs_lf (sg_aload_n dX12_isEntry_10 rfl)) (Cs_nd (Cs_lf (sg_getf dX12_isEntry_11 rfl inX12 (by decide) w_884)) (Cs_lf (sg_iload_n dX12_isEntry_14 rfl)))) (Cs_nd (Cs_nd (Cs_lf (sg_aald dX12_isEntry_15)) (Cs_lf (sg_getf dX12_isEntry_16 rfl inX9 (by decide) w_963))) (Cs_nd (Cs_lf (sg_iconst dX12_isEntry_19 (by decide))) (Cs_lf (sg_isub dX12_isEntry_20)))))) (Cs_nd (Cs_nd (Cs_nd (Cs_lf (sg_inv (mid := 123) (by decide +kernel) dX12_isEntry_21 ok_123 w_943 w_944)) (Cs_nd (Cs_lf (sg_ifeq dX12_isEntry_24 (by decide))) (Cs_lf (sg_aload_n dX12_isEntry_27 rfl)))) (Cs_nd (Cs_nd (Cs_lf (sg_getf dX12_isEntry_28 rfl inX12 (by decide) w_884)) (Cs_lf (sg_iload_n dX12_isEntry_31 rfl))) (Cs_nd (Cs_lf (sg_aald dX12_isEntry_32)) (Cs_lf (sg_getf dX12_isEntry_33 rfl inX9 (by decide) w_965))))) (Cs_nd (Cs_nd (Cs_lf (sg_iload_n dX12_isEntry_36 rfl)) (Cs_nd (Cs_lf (sg_iald dX12_isEntry_37)) (Cs_lf (sg_ifeq dX12_isEntry_38 (by decide))))) (Cs_nd (Cs_nd (Cs_lf (sg_iconst dX12_isEntry_41 (by decide))) (Cs_lf (sg_goto dX12_isEntry_42 (by decide)))) (Cs_nd (Cs_lf (sg_iconst dX12_isEntry_45 (by decide))) (Cs_lf (sg_zret dX12_isEntry_46 rfl ⟨by decide, by decide⟩)))))))
theorem dX12_joined_0 : decode cX12_joined 0 = .ok (.aload_n 0, 1) := by decide +kernel
theorem dX12_joined_1 : decode cX12_joined 1 = .ok (.iload_n 1, 1) := by decide +kernel
theorem dX12_joined_2 : decode cX12_joined 2 = .ok (.iload_n 2, 1) := by decide +kernel
theorem dX12_joined_3 : decode cX12_joined 3 = .ok (.invokevirtual 241, 3) := by decide +kernel
theorem dX12_joined_6 : decode cX12_joined 6 = .ok (.ifCond .eq 32, 3) := by decide +kernel
theorem dX12_joined_9 : decode cX12_joined 9 = .ok (.iconst (-1), 1) := by decide +kernel
theorem dX12_joined_10 : decode cX12_joined 10 = .ok (.aload_n 0, 1) := by decide +kernel
theorem dX12_joined_11 : decode cX12_joined 11 = .ok (.getfield 28, 3) := by decide +kernel
theorem dX12_joined_14 : decode cX12_joined 14 = .ok (.aload_n 0, 1) := by decide +kernel
theorem dX12_joined_15 : decode cX12_joined 15 = .ok (.getfield 238, 3) := by decide +kernel
theorem dX12_joined_18 : decode cX12_joined 18 = .ok (.aload_n 0, 1) := by decide +kernel
theorem dX12_joined_19 : decode cX12_joined 19 = .ok (.aload_n 0, 1) := by decide +kernel
theorem dX12_joined_20 : decode cX12_joined 20 = .ok (.getfield 11, 3) := by decide +kernel
theorem dX12_joined_23 : decode cX12_joined 23 = .ok (.iload_n 1, 1) := by decide +kernel
theorem dX12_joined_24 : decode cX12_joined 24 = .ok (.aaload, 1) := by decide +kernel
theorem dX12_joined_25 : decode cX12_joined 25 = .ok (.iload_n 2, 1) := by decide +kernel
theorem dX12_joined_26 : decode cX12_joined 26 = .ok (.invokevirtual 226, 3) := by decide +kernel
theorem dX12_joined_29 : decode cX12_joined 29 = .ok (.invokestatic 230, 3) := by decide +kernel
theorem dX12_joined_32 : decode cX12_joined 32 = .ok (.invokestatic 245, 3) := by decide +kernel
theorem dX12_joined_35 : decode cX12_joined 35 = .ok (.goto 4, 3) := by decide +kernel
theorem dX12_joined_38 : decode cX12_joined 38 = .ok (.iconst (-1), 1) := by decide +kernel
theorem dX12_joined_39 : decode cX12_joined 39 = .ok (.ireturn, 1) := by decide +kernel
set_option maxRecDepth 20000 in
theorem s_MO_joined (E : XE) : Cs E (yX12_joined, cX12_joined, 3, some .int) (k_MO_joined) := (Cs_nd (Cs_nd (Cs_nd (Cs_nd (Cs_lf (sg_aload_n dX12_joined_0 rfl)) (Cs_lf (sg_iload_n dX12_joined_1 rfl))) (Cs_nd (Cs_lf (sg_iload_n dX12_joined_2 rfl)) (Cs_nd (Cs_lf (sg_invV (mid := 160) (ci := 11) (by decide +kernel) dX12_joined_3 ok_160 rfl w_1293 w_1295 ws_41)) (Cs_lf (sg_ifeq dX12_joined_6 (by decide)))))) (Cs_nd (Cs_nd (Cs_lf (sg_iconst dX12_joined_9 (by decide))) (Cs_nd (Cs_lf (sg_aload_n dX12_joined_10 rfl)) (Cs_lf (sg_getf dX12_joined_11 rfl inX12 (by decide) w_893)))) (Cs_nd (Cs_lf (sg_aload_n dX12_joined_14 rfl)) (Cs_nd (Cs_lf (sg_getf dX12_joined_15 rfl inX12 (by decide) w_894)) (Cs_lf (sg_aload_n dX12_joined_18 rfl)))))) (Cs_nd (Cs_nd (Cs_nd (Cs_lf (sg_aload_n dX12_joined_19 rfl)) (Cs_lf (sg_getf dX12_joined_20 rfl inX12 (by decide) w_884))) (Cs_nd (Cs_lf (sg_iload_n dX12_joined_23 rfl)) (Cs_nd (Cs_lf (sg_aald dX12_joined_24)) (Cs_lf (sg_iload_n dX12_joined_25 rfl))))) (Cs_nd (Cs_nd (Cs_lf (sg_invV (mid := 154) (ci := 11) (by decide +kernel) dX12_joined_26 ok_154 rfl w_1249 w_1251 ws_40)) (Cs_nd (Cs_lf (sg_inv (mid := 157) (by decide +kernel) dX12_joined_29 ok_157 w_1279 w_1280)) (Cs_lf (sg_inv (mid := 181) (by decide +kernel) dX12_joined_32 ok_181 w_1297 w_1121)))) (Cs_nd (Cs_lf (sg_goto dX12_joined_35 (by decide))) (Cs_nd (Cs_lf (sg_iconst dX12_joined_38 (by decide))) (Cs_lf (sg_iret dX12_joined_39 rfl)))))))
theorem dX12_meaning_0 : decode cX12_meaning 0 = .ok (.aload_n 0, 1) := by decide +kernel
theorem dX12_meaning_1 : decode cX12_meaning 1 = .ok (.iconst 0, 1) := by decide +kernel
theorem dX12_meaning_2 : decode cX12_meaning 2 = .ok (.putfield 39, 3) := by decide +kernel
theorem dX12_meaning_5 : decode cX12_meaning 5 = .ok (.iload_n 1, 1) := by decide +kernel
theorem dX12_meaning_6 : decode cX12_meaning 6 = .ok (.iconst 0, 1) := by decide +kernel
theorem dX12_meaning_7 : decode cX12_meaning 7 = .ok (.aload_n 0, 1) := by decide +kernel
theorem dX12_meaning_8 : decode cX12_meaning 8 = .ok (.getfield 238, 3) := by decide +kernel
theorem dX12_meaning_11 : decode cX12_meaning 11 = .ok (.iconst 1, 1) := by decide +kernel
theorem dX12_meaning_12 : decode cX12_meaning 12 = .ok (.isub, 1) := by decide +kernel
theorem dX12_meaning_13 : decode cX12_meaning 13 = .ok (.invokestatic 45, 3) := by decide +kernel
theorem dX12_meaning_16 : decode cX12_meaning 16 = .ok (.ifCond .ne 5, 3) := by decide +kernel
theorem dX12_meaning_19 : decode cX12_meaning 19 = .ok (.iconst (-1), 1) := by decide +kernel
theorem dX12_meaning_20 : decode cX12_meaning 20 = .ok (.ireturn, 1) := by decide +kernel
theorem dX12_meaning_21 : decode cX12_meaning 21 = .ok (.iload_n 2, 1) := by decide +kernel
theorem dX12_meaning_22 : decode cX12_meaning 22 = .ok (.ifCond .ne 13, 3) := by decide +kernel
theorem dX12_meaning_25 : decode cX12_meaning 25 = .ok (.aload_n 0, 1) := by decide +kernel
theorem dX12_meaning_26 : decode cX12_meaning 26 = .ok (.getfield 28, 3) := by decide +kernel
theorem dX12_meaning_29 : decode cX12_meaning 29 = .ok (.iload_n 1, 1) := by decide +kernel
theorem dX12_meaning_30 : decode cX12_meaning 30 = .ok (.aaload, 1) := by decide +kernel
theorem dX12_meaning_31 : decode cX12_meaning 31 = .ok (.getfield 201, 3) := by decide +kernel
theorem dX12_meaning_34 : decode cX12_meaning 34 = .ok (.ireturn, 1) := by decide +kernel
theorem dX12_meaning_35 : decode cX12_meaning 35 = .ok (.iload_n 2, 1) := by decide +kernel
theorem dX12_meaning_36 : decode cX12_meaning 36 = .ok (.iconst 1, 1) := by decide +kernel
theorem dX12_meaning_37 : decode cX12_meaning 37 = .ok (.if_icmp .eq 6, 3) := by decide +kernel
theorem dX12_meaning_40 : decode cX12_meaning 40 = .ok (.bipush (-2), 2) := by decide +kernel
theorem dX12_meaning_42 : decode cX12_meaning 42 = .ok (.ireturn, 1) := by decide +kernel
theorem dX12_meaning_43 : decode cX12_meaning 43 = .ok (.iconst 0, 1) := by decide +kernel
theorem dX12_meaning_44 : decode cX12_meaning 44 = .ok (.istore_n 3, 1) := by decide +kernel
theorem dX12_meaning_45 : decode cX12_meaning 45 = .ok (.iconst 0, 1) := by decide +kernel
theorem dX12_meaning_46 : decode cX12_meaning 46 = .ok (.istore 4, 2) := by decide +kernel
theorem dX12_meaning_48 : decode cX12_meaning 48 = .ok (.iload 4, 2) := by decide +kernel
theorem dX12_meaning_50 : decode cX12_meaning 50 = .ok (.aload_n 0, 1) := by decide +kernel
theorem dX12_meaning_51 : decode cX12_meaning 51 = .ok (.getfield 42, 3) := by decide +kernel
theorem dX12_meaning_54 : decode cX12_meaning 54 = .ok (.if_icmp .ge 82, 3) := by decide +kernel
theorem dX12_meaning_57 : decode cX12_meaning 57 = .ok (.iconst 1, 1) := by decide +kernel
theorem dX12_meaning_58 : decode cX12_meaning 58 = .ok (.istore 5, 2) := by decide +kernel
theorem dX12_meaning_60 : decode cX12_meaning 60 = .ok (.iload 5, 2) := by decide +kernel
theorem dX12_meaning_62 : decode cX12_meaning 62 = .ok (.aload_n 0, 1) := by decide +kernel
theorem dX12_meaning_63 : decode cX12_meaning 63 = .ok (.getfield 11, 3) := by decide +kernel
theorem dX12_meaning_66 : decode cX12_meaning 66 = .ok (.iload 4, 2) := by decide +kernel
theorem dX12_meaning_68 : decode cX12_meaning 68 = .ok (.aaload, 1) := by decide +kernel
theorem dX12_meaning_69 : decode cX12_meaning 69 = .ok (.getfield 81, 3) := by decide +kernel
theorem dX12_meaning_72 : decode cX12_meaning 72 = .ok (.if_icmp .ge 58, 3) := by decide +kernel
theorem dX12_meaning_75 : decode cX12_meaning 75 = .ok (.iload_n 3, 1) := by decide +kernel
theorem dX12_meaning_76 : decode cX12_meaning 76 = .ok (.aload_n 0, 1) := by decide +kernel
theorem dX12_meaning_77 : decode cX12_meaning 77 = .ok (.getfield 11, 3) := by decide +kernel
theorem dX12_meaning_80 : decode cX12_meaning 80 = .ok (.iload 4, 2) := by decide +kernel
theorem dX12_meaning_82 : decode cX12_meaning 82 = .ok (.aaload, 1) := by decide +kernel
theorem dX12_meaning_83 : decode cX12_meaning 83 = .ok (.getfield 126, 3) := by decide +kernel
theorem dX12_meaning_86 : decode cX12_meaning 86 = .ok (.iload 5, 2) := by decide +kernel
theorem dX12_meaning_88 : decode cX12_meaning 88 = .ok (.iaload, 1) := by decide +kernel
theorem dX12_meaning_89 : decode cX12_meaning 89 = .ok (.ifCond .eq 32, 3) := by decide +kernel
theorem dX12_meaning_92 : decode cX12_meaning 92 = .ok (.aload_n 0, 1) := by decide +kernel
theorem dX12_meaning_93 : decode cX12_meaning 93 = .ok (.aload_n 0, 1) := by decide +kernel
theorem dX12_meaning_94 : decode cX12_meaning 94 = .ok (.getfield 11, 3) := by decide +kernel
theorem dX12_meaning_97 : decode cX12_meaning 97 = .ok (.iload 4, 2) := by decide +kernel
theorem dX12_meaning_99 : decode cX12_meaning 99 = .ok (.aaload, 1) := by decide +kernel
theorem dX12_meaning_100 : decode cX12_meaning 100 = .ok (.iload 5, 2) := by decide +kernel
theorem dX12_meaning_102 : decode cX12_meaning 102 = .ok (.invokevirtual 226, 3) := by decide +kernel
theorem dX12_meaning_105 : decode cX12_meaning 105 = .ok (.aload_n 0, 1) := by decide +kernel
theorem dX12_meaning_106 : decode cX12_meaning 106 = .ok (.getfield 28, 3) := by decide +kernel
theorem dX12_meaning_109 : decode cX12_meaning 109 = .ok (.iload_n 1, 1) := by decide +kernel
theorem dX12_meaning_110 : decode cX12_meaning 110 = .ok (.aaload, 1) := by decide +kernel
theorem dX12_meaning_111 : decode cX12_meaning 111 = .ok (.invokestatic 223, 3) := by decide +kernel
theorem dX12_meaning_114 : decode cX12_meaning 114 = .ok (.ifCond .ne 7, 3) := by decide +kernel
theorem dX12_meaning_117 : decode cX12_meaning 117 = .ok (.iconst 1, 1) := by decide +kernel
theorem dX12_meaning_118 : decode cX12_meaning 118 = .ok (.goto 4, 3) := by decide +kernel
theorem dX12_meaning_121 : decode cX12_meaning 121 = .ok (.iconst 0, 1) := by decide +kernel
theorem dX12_meaning_122 : decode cX12_meaning 122 = .ok (.iadd, 1) := by decide +kernel
theorem dX12_meaning_123 : decode cX12_meaning 123 = .ok (.istore_n 3, 1) := by decide +kernel
theorem dX12_meaning_124 : decode cX12_meaning 124 = .ok (.iinc 5 1, 3) := by decide +kernel
theorem dX12_meaning_127 : decode cX12_meaning 127 = .ok (.goto (-67), 3) := by decide +kernel
theorem dX12_meaning_130 : decode cX12_meaning 130 = .ok (.iinc 4 1, 3) := by decide +kernel
theorem dX12_meaning_133 : decode cX12_meaning 133 = .ok (.goto (-85), 3) := by decide +kernel
theorem dX12_meaning_136 : decode cX12_meaning 136 = .ok (.iload_n 3, 1) := by decide +kernel
theorem dX12_meaning_137 : decode cX12_meaning 137 = .ok (.ireturn, 1) := by decide +kernel
set_option maxRecDepth 20000 in
theorem s_MO_meaning (E : XE) : Cs E (yX12_meaning, cX12_meaning, 6, some .int) (k_MO_meaning) := (Cs_nd (Cs_nd (Cs_nd (Cs_nd (Cs_nd (Cs_nd (Cs_lf (sg_aload_n dX12_meaning_0 rfl)) (Cs_lf (sg_iconst dX12_meaning_1 (by decide)))) (Cs_nd (Cs_lf (sg_putf dX12_meaning_2 rfl inX12 tyX12_ok nmX12 (by decide) w_883 rfl (tyX12_ok 0 (by decide)) ok_int)) (Cs_lf (sg_iload_n dX12_meaning_5 rfl)))) (Cs_nd (Cs_nd (Cs_lf (sg_iconst dX12_meaning_6 (by decide))) (Cs_lf (sg_aload_n dX12_meaning_7 rfl))) (Cs_nd (Cs_lf (sg_getf dX12_meaning_8 rfl inX12 (by decide) w_894)) (Cs_nd (Cs_lf (sg_iconst dX12_meaning_11 (by decide))) (Cs_lf (sg_isub dX12_meaning_12)))))) (Cs_nd (Cs_nd (Cs_nd (Cs_lf (sg_inv (mid := 123) (by decide +kernel) dX12_meaning_13 ok_123 w_943 w_944)) (Cs_lf (sg_ifne dX12_meaning_16 (by decide)))) (Cs_nd (Cs_lf (sg_iconst dX12_meaning_19 (by decide))) (Cs_nd (Cs_lf (sg_iret dX12_meaning_20 rfl)) (Cs_lf (sg_iload_n dX12_meaning_21 rfl))))) (Cs_nd (Cs_nd (Cs_lf (sg_ifne dX12_meaning_22 (by decide))) (Cs_lf (sg_aload_n dX12_meaning_25 rfl))) (Cs_nd (Cs_lf (sg_getf dX12_meaning_26 rfl inX12 (by decide) w_893)) (Cs_nd (Cs_lf (sg_iload_n dX12_meaning_29 rfl)) (Cs_lf (sg_aald dX12_meaning_30))))))) (Cs_nd (Cs_nd (Cs_nd (Cs_nd (Cs_lf (sg_getf dX12_meaning_31 rfl inX10 (by decide) w_1260)) (Cs_lf (sg_iret dX12_meaning_34 rfl))) (Cs_nd (Cs_lf (sg_iload_n dX12_meaning_35 rfl)) (Cs_lf (sg_iconst dX12_meaning_36 (by decide))))) (Cs_nd (Cs_nd (Cs_lf (sg_ceq dX12_meaning_37 (by decide))) (Cs_lf (sg_bipush dX12_meaning_40 (by decide)))) (Cs_nd (Cs_lf (sg_iret dX12_meaning_42 rfl)) (Cs_nd (Cs_lf (sg_iconst dX12_meaning_43 (by decide))) (Cs_lf (sg_istore_n dX12_meaning_44 rfl (by decide))))))) (Cs_nd (Cs_nd (Cs_nd (Cs_lf (sg_iconst dX12_meaning_45 (by decide))) (Cs_lf (sg_istore dX12_meaning_46 (by decide)))) (Cs_nd (Cs_lf (sg_iload dX12_meaning_48)) (Cs_nd (Cs_lf (sg_aload_n dX12_meaning_50 rfl)) (Cs_lf (sg_getf dX12_meaning_51 rfl inX12 (by decide) w_885))))) (Cs_nd (Cs_nd (Cs_lf (sg_cge dX12_meaning_54 (by decide))) (Cs_lf (sg_iconst dX12_meaning_57 (by decide)))) (Cs_nd (Cs_lf (sg_istore dX12_meaning_58 (by decide))) (Cs_nd (Cs_lf (sg_iload dX12_meaning_60)) (Cs_lf (sg_aload_n dX12_meaning_62 rfl)))))))) (Cs_nd (Cs_nd (Cs_nd (Cs_nd (Cs_nd (Cs_lf (sg_getf dX12_meaning_63 rfl inX12 (by decide) w_884)) (Cs_lf (sg_iload dX12_meaning_66))) (Cs_nd (Cs_lf (sg_aald dX12_meaning_68)) (Cs_lf (sg_getf dX12_meaning_69 rfl inX9 (by decide) w_963)))) (Cs_nd (Cs_nd (Cs_lf (sg_cge dX12_meaning_72 (by decide))) (Cs_lf (sg_iload_n dX12_meaning_75 rfl))) (Cs_nd (Cs_lf (sg_aload_n dX12_meaning_76 rfl)) (Cs_nd (Cs_lf (sg_getf dX12_meaning_77 rfl inX12 (by decide) w_884)) (Cs_lf (sg_iload dX12_meaning_80)))))) (Cs_nd (Cs_nd (Cs_nd (Cs_lf (sg_aald dX12_meaning_82)) (Cs_lf (sg_getf dX12_meaning_83 rfl inX9 (by decide) w_965))) (Cs_nd (Cs_lf (sg_iload dX12_meaning_86)) (Cs_nd (Cs_lf (sg_iald dX12_meaning_88)) (Cs_lf (sg_ifeq dX12_meaning_89 (by decide)))))) (Cs_nd (Cs_nd (Cs_lf (sg_aload_n dX12_meaning_92 rfl)) (Cs_lf (sg_aload_n dX12_meaning_93 rfl))) (Cs_nd (Cs_lf (sg_getf dX12_meaning_94 rfl inX12 (by decide) w_884)) (Cs_nd (Cs_lf (sg_iload dX12_meaning_97)) (Cs_lf (sg_aald dX12_meaning_99))))))) (Cs_nd (Cs_nd (Cs_nd (Cs_nd (Cs_lf (sg_iload dX12_meaning_100)) (Cs_lf (sg_invV (mid := 154) (ci := 11) (by decide +kernel) dX12_meaning_102 ok_154 rfl w_1249 w_1251 ws_40))) (Cs_nd (Cs_lf (sg_aload_n dX12_meaning_105 rfl)) (Cs_lf (sg_getf dX12_meaning_106 rfl inX12 (by decide) w_893)))) (Cs_nd (Cs_nd (Cs_lf (sg_iload_n dX12_meaning_109 rfl)) (Cs_lf (sg_aald dX12_meaning_110))) (Cs_nd (Cs_lf (sg_inv (mid := 156) (by decide +kernel) dX12_meaning_111 ok_156 w_1282 w_1283)) (Cs_nd (Cs_lf (sg_ifne dX12_meaning_114 (by decide))) (Cs_lf (sg_iconst dX12_meaning_117 (by decide))))))) (Cs_nd (Cs_nd (Cs_nd (Cs_lf (sg_goto dX12_meaning_118 (by decide))) (Cs_lf (sg_iconst dX12_meaning_121 (by decide)))) (Cs_nd (Cs_lf (sg_iadd dX12_meaning_122)) (Cs_nd (Cs_lf (sg_istore_n dX12_meaning_123 rfl (by decide))) (Cs_lf (sg_iinc dX12_meaning_124 (by decide) (by decide)))))) (Cs_nd (Cs_nd (Cs_lf (sg_goto dX12_meaning_127 (by decide))) (Cs_lf (sg_iinc dX12_meaning_130 (by decide) (by decide)))) (Cs_nd (Cs_lf (sg_goto dX12_meaning_133 (by decide))) (Cs_nd (Cs_lf (sg_iload_n dX12_meaning_136 rfl)) (Cs_lf (sg_iret dX12_meaning_137 rfl)))))))))
theorem dX12_sameBytes_0 : decode cX12_sameBytes 0 = .ok (.iconst 1, 1) := by decide +kernel
theorem dX12_sameBytes_1 : decode cX12_sameBytes 1 = .ok (.istore 6, 2) := by decide +kernel
theorem dX12_sameBytes_3 : decode cX12_sameBytes 3 = .ok (.iconst 0, 1) := by decide +kernel
theorem dX12_sameBytes_4 : decode cX12_sameBytes 4 = .ok (.istore 7, 2) := by decide +kernel
theorem dX12_sameBytes_6 : decode cX12_sameBytes 6 = .ok (.iload 7, 2) := by decide +kernel
theorem dX12_sameBytes_8 : decode cX12_sameBytes 8 = .ok (.iload 5, 2) := by decide +kernel
theorem dX12_sameBytes_10 : decode cX12_sameBytes 10 = .ok (.if_icmp .ge 41, 3) := by decide +kernel
theorem dX12_sameBytes_13 : decode cX12_sameBytes 13 = .ok (.iload 6, 2) := by decide +kernel
theorem dX12_sameBytes_15 : decode cX12_sameBytes 15 = .ok (.aload_n 1, 1) := by decide +kernel
theorem dX12_sameBytes_16 : decode cX12_sameBytes 16 = .ok (.getfield 59, 3) := by decide +kernel
theorem dX12_sameBytes_19 : decode cX12_sameBytes 19 = .ok (.iload_n 2, 1) := by decide +kernel
theorem dX12_sameBytes_20 : decode cX12_sameBytes 20 = .ok (.iload 7, 2) := by decide +kernel
theorem dX12_sameBytes_22 : decode cX12_sameBytes 22 = .ok (.iadd, 1) := by decide +kernel
theorem dX12_sameBytes_23 : decode cX12_sameBytes 23 = .ok (.baload, 1) := by decide +kernel
theorem dX12_sameBytes_24 : decode cX12_sameBytes 24 = .ok (.aload_n 3, 1) := by decide +kernel
theorem dX12_sameBytes_25 : decode cX12_sameBytes 25 = .ok (.getfield 59, 3) := by decide +kernel
theorem dX12_sameBytes_28 : decode cX12_sameBytes 28 = .ok (.iload 4, 2) := by decide +kernel
theorem dX12_sameBytes_30 : decode cX12_sameBytes 30 = .ok (.iload 7, 2) := by decide +kernel
theorem dX12_sameBytes_32 : decode cX12_sameBytes 32 = .ok (.iadd, 1) := by decide +kernel
theorem dX12_sameBytes_33 : decode cX12_sameBytes 33 = .ok (.baload, 1) := by decide +kernel
theorem dX12_sameBytes_34 : decode cX12_sameBytes 34 = .ok (.if_icmp .ne 7, 3) := by decide +kernel
theorem dX12_sameBytes_37 : decode cX12_sameBytes 37 = .ok (.iconst 1, 1) := by decide +kernel
theorem dX12_sameBytes_38 : decode cX12_sameBytes 38 = .ok (.goto 4, 3) := by decide +kernel
theorem dX12_sameBytes_41 : decode cX12_sameBytes 41 = .ok (.iconst 0, 1) := by decide +kernel
theorem dX12_sameBytes_42 : decode cX12_sameBytes 42 = .ok (.iand, 1) := by decide +kernel
theorem dX12_sameBytes_43 : decode cX12_sameBytes 43 = .ok (.istore 6, 2) := by decide +kernel
theorem dX12_sameBytes_45 : decode cX12_sameBytes 45 = .ok (.iinc 7 1, 3) := by decide +kernel
theorem dX12_sameBytes_48 : decode cX12_sameBytes 48 = .ok (.goto (-42), 3) := by decide +kernel
theorem dX12_sameBytes_51 : decode cX12_sameBytes 51 = .ok (.iload 6, 2) := by decide +kernel
theorem dX12_sameBytes_53 : decode cX12_sameBytes 53 = .ok (.ireturn, 1) := by decide +kernel
set_option maxRecDepth 20000 in
theorem s_MO_sameBytes (E : XE) : Cs E (yX12_sameBytes, cX12_sameBytes, 8, some .boolean) (k_MO_sameBytes) := (Cs_nd (Cs_nd (Cs_nd (Cs_nd (Cs_lf (sg_iconst dX12_sameBytes_0 (by decide))) (Cs_nd (Cs_lf (sg_istore dX12_sameBytes_1 (by decide))) (Cs_lf (sg_iconst dX12_sameBytes_3 (by decide))))) (Cs_nd (Cs_nd (Cs_lf (sg_istore dX12_sameBytes_4 (by decide))) (Cs_lf (sg_iload dX12_sameBytes_6))) (Cs_nd (Cs_lf (sg_iload dX12_sameBytes_8)) (Cs_lf (sg_cge dX12_sameBytes_10 (by decide)))))) (Cs_nd (Cs_nd (Cs_nd (Cs_lf (sg_iload dX12_sameBytes_13)) (Cs_lf (sg_aload_n dX12_sameBytes_15 rfl))) (Cs_nd (Cs_lf (sg_getf dX12_sameBytes_16 rfl inX9 (by decide) w_962)) (Cs_lf (sg_iload_n dX12_sameBytes_19 rfl)))) (Cs_nd (Cs_nd (Cs_lf (sg_iload dX12_sameBytes_20)) (Cs_lf (sg_iadd dX12_sameBytes_22))) (Cs_nd (Cs_lf (sg_bald dX12_sameBytes_23)) (Cs_lf (sg_aload_n dX12_sameBytes_24 rfl)))))) (Cs_nd (Cs_nd (Cs_nd (Cs_lf (sg_getf dX12_sameBytes_25 rfl inX9 (by decide) w_962)) (Cs_nd (Cs_lf (sg_iload dX12_sameBytes_28)) (Cs_lf (sg_iload dX12_sameBytes_30)))) (Cs_nd (Cs_nd (Cs_lf (sg_iadd dX12_sameBytes_32)) (Cs_lf (sg_bald dX12_sameBytes_33))) (Cs_nd (Cs_lf (sg_cne dX12_sameBytes_34 (by decide))) (Cs_lf (sg_iconst dX12_sameBytes_37 (by decide)))))) (Cs_nd (Cs_nd (Cs_nd (Cs_lf (sg_goto dX12_sameBytes_38 (by decide))) (Cs_lf (sg_iconst dX12_sameBytes_41 (by decide)))) (Cs_nd (Cs_lf (sg_iand dX12_sameBytes_42)) (Cs_lf (sg_istore dX12_sameBytes_43 (by decide))))) (Cs_nd (Cs_nd (Cs_lf (sg_iinc dX12_sameBytes_45 (by decide) (by decide))) (Cs_lf (sg_goto dX12_sameBytes_48 (by decide)))) (Cs_nd (Cs_lf (sg_iload dX12_sameBytes_51)) (Cs_lf (sg_zret dX12_sameBytes_53 rfl ⟨by decide, by decide⟩)))))))
theorem dX12_samePlace_0 : decode cX12_samePlace 0 = .ok (.aload_n 1, 1) := by decide +kernel
theorem dX12_samePlace_1 : decode cX12_samePlace 1 = .ok (.iload_n 2, 1) := by decide +kernel
theorem dX12_samePlace_2 : decode cX12_samePlace 2 = .ok (.invokevirtual 73, 3) := by decide +kernel
theorem dX12_samePlace_5 : decode cX12_samePlace 5 = .ok (.istore 5, 2) := by decide +kernel
theorem dX12_samePlace_7 : decode cX12_samePlace 7 = .ok (.aload_n 3, 1) := by decide +kernel
theorem dX12_samePlace_8 : decode cX12_samePlace 8 = .ok (.iload 4, 2) := by decide +kernel
theorem dX12_samePlace_10 : decode cX12_samePlace 10 = .ok (.invokevirtual 73, 3) := by decide +kernel
theorem dX12_samePlace_13 : decode cX12_samePlace 13 = .ok (.istore 6, 2) := by decide +kernel
theorem dX12_samePlace_15 : decode cX12_samePlace 15 = .ok (.iload 5, 2) := by decide +kernel
theorem dX12_samePlace_17 : decode cX12_samePlace 17 = .ok (.ifCond .eq 8, 3) := by decide +kernel
theorem dX12_samePlace_20 : decode cX12_samePlace 20 = .ok (.iload 6, 2) := by decide +kernel
theorem dX12_samePlace_22 : decode cX12_samePlace 22 = .ok (.ifCond .ne 18, 3) := by decide +kernel
theorem dX12_samePlace_25 : decode cX12_samePlace 25 = .ok (.iload 5, 2) := by decide +kernel
theorem dX12_samePlace_27 : decode cX12_samePlace 27 = .ok (.iload 6, 2) := by decide +kernel
theorem dX12_samePlace_29 : decode cX12_samePlace 29 = .ok (.if_icmp .ne 7, 3) := by decide +kernel
theorem dX12_samePlace_32 : decode cX12_samePlace 32 = .ok (.iconst 1, 1) := by decide +kernel
theorem dX12_samePlace_33 : decode cX12_samePlace 33 = .ok (.goto 32, 3) := by decide +kernel
theorem dX12_samePlace_36 : decode cX12_samePlace 36 = .ok (.iconst 0, 1) := by decide +kernel
theorem dX12_samePlace_37 : decode cX12_samePlace 37 = .ok (.goto 28, 3) := by decide +kernel
theorem dX12_samePlace_40 : decode cX12_samePlace 40 = .ok (.aload_n 0, 1) := by decide +kernel
theorem dX12_samePlace_41 : decode cX12_samePlace 41 = .ok (.aload_n 1, 1) := by decide +kernel
theorem dX12_samePlace_42 : decode cX12_samePlace 42 = .ok (.iload 5, 2) := by decide +kernel
theorem dX12_samePlace_44 : decode cX12_samePlace 44 = .ok (.invokevirtual 226, 3) := by decide +kernel
theorem dX12_samePlace_47 : decode cX12_samePlace 47 = .ok (.aload_n 0, 1) := by decide +kernel
theorem dX12_samePlace_48 : decode cX12_samePlace 48 = .ok (.aload_n 3, 1) := by decide +kernel
theorem dX12_samePlace_49 : decode cX12_samePlace 49 = .ok (.iload 6, 2) := by decide +kernel
theorem dX12_samePlace_51 : decode cX12_samePlace 51 = .ok (.invokevirtual 226, 3) := by decide +kernel
theorem dX12_samePlace_54 : decode cX12_samePlace 54 = .ok (.invokestatic 223, 3) := by decide +kernel
theorem dX12_samePlace_57 : decode cX12_samePlace 57 = .ok (.ifCond .ne 7, 3) := by decide +kernel
theorem dX12_samePlace_60 : decode cX12_samePlace 60 = .ok (.iconst 1, 1) := by decide +kernel
theorem dX12_samePlace_61 : decode cX12_samePlace 61 = .ok (.goto 4, 3) := by decide +kernel
theorem dX12_samePlace_64 : decode cX12_samePlace 64 = .ok (.iconst 0, 1) := by decide +kernel
theorem dX12_samePlace_65 : decode cX12_samePlace 65 = .ok (.ireturn, 1) := by decide +kernel
set_option maxRecDepth 20000 in
theorem s_MO_samePlace (E : XE) : Cs E (yX12_samePlace, cX12_samePlace, 7, some .boolean) (k_MO_samePlace) := (Cs_nd (Cs_nd (Cs_nd (Cs_nd (Cs_nd (Cs_lf (sg_aload_n dX12_samePlace_0 rfl)) (Cs_lf (sg_iload_n dX12_samePlace_1 rfl))) (Cs_nd (Cs_lf (sg_invV (mid := 114) (ci := 8) (by decide +kernel) dX12_samePlace_2 ok_114 rfl w_1018 w_1019 w_1020)) (Cs_lf (sg_istore dX12_samePlace_5 (by decide))))) (Cs_nd (Cs_nd (Cs_lf (sg_aload_n dX12_samePlace_7 rfl)) (Cs_lf (sg_iload dX12_samePlace_8))) (Cs_nd (Cs_lf (sg_invV (mid := 114) (ci := 8) (by decide +kernel) dX12_samePlace_10 ok_114 rfl w_1018 w_1019 w_1020)) (Cs_lf (sg_istore dX12_samePlace_13 (by decide)))))) (Cs_nd (Cs_nd (Cs_nd (Cs_lf (sg_iload dX12_samePlace_15)) (Cs_lf (sg_ifeq dX12_samePlace_17 (by decide)))) (Cs_nd (Cs_lf (sg_iload dX12_samePlace_20)) (Cs_lf (sg_ifne dX12_samePlace_22 (by decide))))) (Cs_nd (Cs_nd (Cs_lf (sg_iload dX12_samePlace_25)) (Cs_lf (sg_iload dX12_samePlace_27))) (Cs_nd (Cs_lf (sg_cne dX12_samePlace_29 (by decide))) (Cs_lf (sg_iconst dX12_samePlace_32 (by decide))))))) (Cs_nd (Cs_nd (Cs_nd (Cs_nd (Cs_lf (sg_goto dX12_samePlace_33 (by decide))) (Cs_lf (sg_iconst dX12_samePlace_36 (by decide)))) (Cs_nd (Cs_lf (sg_goto dX12_samePlace_37 (by decide))) (Cs_lf (sg_aload_n dX12_samePlace_40 rfl)))) (Cs_nd (Cs_nd (Cs_lf (sg_aload_n dX12_samePlace_41 rfl)) (Cs_lf (sg_iload dX12_samePlace_42))) (Cs_nd (Cs_lf (sg_invV (mid := 154) (ci := 11) (by decide +kernel) dX12_samePlace_44 ok_154 rfl w_1249 w_1251 ws_40)) (Cs_lf (sg_aload_n dX12_samePlace_47 rfl))))) (Cs_nd (Cs_nd (Cs_nd (Cs_lf (sg_aload_n dX12_samePlace_48 rfl)) (Cs_lf (sg_iload dX12_samePlace_49))) (Cs_nd (Cs_lf (sg_invV (mid := 154) (ci := 11) (by decide +kernel) dX12_samePlace_51 ok_154 rfl w_1249 w_1251 ws_40)) (Cs_lf (sg_inv (mid := 156) (by decide +kernel) dX12_samePlace_54 ok_156 w_1282 w_1283)))) (Cs_nd (Cs_nd (Cs_lf (sg_ifne dX12_samePlace_57 (by decide))) (Cs_lf (sg_iconst dX12_samePlace_60 (by decide)))) (Cs_nd (Cs_lf (sg_goto dX12_samePlace_61 (by decide))) (Cs_nd (Cs_lf (sg_iconst dX12_samePlace_64 (by decide))) (Cs_lf (sg_zret dX12_samePlace_65 rfl ⟨by decide, by decide⟩))))))))
theorem dX12_same_0 : decode cX12_same 0 = .ok (.aload_n 2, 1) := by decide +kernel
theorem dX12_same_1 : decode cX12_same 1 = .ok (.getfield 120, 3) := by decide +kernel
theorem dX12_same_4 : decode cX12_same 4 = .ok (.aload 4, 2) := by decide +kernel
theorem dX12_same_6 : decode cX12_same 6 = .ok (.getfield 120, 3) := by decide +kernel
theorem dX12_same_9 : decode cX12_same 9 = .ok (.if_icmp .ne 7, 3) := by decide +kernel
theorem dX12_same_12 : decode cX12_same 12 = .ok (.iconst 1, 1) := by decide +kernel
theorem dX12_same_13 : decode cX12_same 13 = .ok (.goto 4, 3) := by decide +kernel
theorem dX12_same_16 : decode cX12_same 16 = .ok (.iconst 0, 1) := by decide +kernel
theorem dX12_same_17 : decode cX12_same 17 = .ok (.istore 5, 2) := by decide +kernel
theorem dX12_same_19 : decode cX12_same 19 = .ok (.iconst 0, 1) := by decide +kernel
theorem dX12_same_20 : decode cX12_same 20 = .ok (.istore 6, 2) := by decide +kernel
theorem dX12_same_22 : decode cX12_same 22 = .ok (.iload 6, 2) := by decide +kernel
theorem dX12_same_24 : decode cX12_same 24 = .ok (.aload_n 2, 1) := by decide +kernel
theorem dX12_same_25 : decode cX12_same 25 = .ok (.getfield 120, 3) := by decide +kernel
theorem dX12_same_28 : decode cX12_same 28 = .ok (.if_icmp .ge 111, 3) := by decide +kernel
theorem dX12_same_31 : decode cX12_same 31 = .ok (.iload 5, 2) := by decide +kernel
theorem dX12_same_33 : decode cX12_same 33 = .ok (.ifCond .eq 106, 3) := by decide +kernel
theorem dX12_same_36 : decode cX12_same 36 = .ok (.aload_n 1, 1) := by decide +kernel
theorem dX12_same_37 : decode cX12_same 37 = .ok (.aload_n 2, 1) := by decide +kernel
theorem dX12_same_38 : decode cX12_same 38 = .ok (.getfield 121, 3) := by decide +kernel
theorem dX12_same_41 : decode cX12_same 41 = .ok (.iload 6, 2) := by decide +kernel
theorem dX12_same_43 : decode cX12_same 43 = .ok (.iaload, 1) := by decide +kernel
theorem dX12_same_44 : decode cX12_same 44 = .ok (.iconst 2, 1) := by decide +kernel
theorem dX12_same_45 : decode cX12_same 45 = .ok (.iadd, 1) := by decide +kernel
theorem dX12_same_46 : decode cX12_same 46 = .ok (.invokevirtual 123, 3) := by decide +kernel
theorem dX12_same_49 : decode cX12_same 49 = .ok (.istore 7, 2) := by decide +kernel
theorem dX12_same_51 : decode cX12_same 51 = .ok (.aload_n 0, 1) := by decide +kernel
theorem dX12_same_52 : decode cX12_same 52 = .ok (.aload_n 1, 1) := by decide +kernel
theorem dX12_same_53 : decode cX12_same 53 = .ok (.aload_n 2, 1) := by decide +kernel
theorem dX12_same_54 : decode cX12_same 54 = .ok (.getfield 121, 3) := by decide +kernel
theorem dX12_same_57 : decode cX12_same 57 = .ok (.iload 6, 2) := by decide +kernel
theorem dX12_same_59 : decode cX12_same 59 = .ok (.iaload, 1) := by decide +kernel
theorem dX12_same_60 : decode cX12_same 60 = .ok (.aload_n 3, 1) := by decide +kernel
theorem dX12_same_61 : decode cX12_same 61 = .ok (.aload 4, 2) := by decide +kernel
theorem dX12_same_63 : decode cX12_same 63 = .ok (.getfield 121, 3) := by decide +kernel
theorem dX12_same_66 : decode cX12_same 66 = .ok (.iload 6, 2) := by decide +kernel
theorem dX12_same_68 : decode cX12_same 68 = .ok (.iaload, 1) := by decide +kernel
theorem dX12_same_69 : decode cX12_same 69 = .ok (.invokevirtual 250, 3) := by decide +kernel
theorem dX12_same_72 : decode cX12_same 72 = .ok (.ifCond .eq 58, 3) := by decide +kernel
theorem dX12_same_75 : decode cX12_same 75 = .ok (.iload 7, 2) := by decide +kernel
theorem dX12_same_77 : decode cX12_same 77 = .ok (.aload_n 3, 1) := by decide +kernel
theorem dX12_same_78 : decode cX12_same 78 = .ok (.aload 4, 2) := by decide +kernel
theorem dX12_same_80 : decode cX12_same 80 = .ok (.getfield 121, 3) := by decide +kernel
theorem dX12_same_83 : decode cX12_same 83 = .ok (.iload 6, 2) := by decide +kernel
theorem dX12_same_85 : decode cX12_same 85 = .ok (.iaload, 1) := by decide +kernel
theorem dX12_same_86 : decode cX12_same 86 = .ok (.iconst 2, 1) := by decide +kernel
theorem dX12_same_87 : decode cX12_same 87 = .ok (.iadd, 1) := by decide +kernel
theorem dX12_same_88 : decode cX12_same 88 = .ok (.invokevirtual 123, 3) := by decide +kernel
theorem dX12_same_91 : decode cX12_same 91 = .ok (.if_icmp .ne 39, 3) := by decide +kernel
theorem dX12_same_94 : decode cX12_same 94 = .ok (.aload_n 0, 1) := by decide +kernel
theorem dX12_same_95 : decode cX12_same 95 = .ok (.aload_n 1, 1) := by decide +kernel
theorem dX12_same_96 : decode cX12_same 96 = .ok (.aload_n 2, 1) := by decide +kernel
theorem dX12_same_97 : decode cX12_same 97 = .ok (.getfield 121, 3) := by decide +kernel
theorem dX12_same_100 : decode cX12_same 100 = .ok (.iload 6, 2) := by decide +kernel
theorem dX12_same_102 : decode cX12_same 102 = .ok (.iaload, 1) := by decide +kernel
theorem dX12_same_103 : decode cX12_same 103 = .ok (.bipush 6, 2) := by decide +kernel
theorem dX12_same_105 : decode cX12_same 105 = .ok (.iadd, 1) := by decide +kernel
theorem dX12_same_106 : decode cX12_same 106 = .ok (.aload_n 3, 1) := by decide +kernel
theorem dX12_same_107 : decode cX12_same 107 = .ok (.aload 4, 2) := by decide +kernel
theorem dX12_same_109 : decode cX12_same 109 = .ok (.getfield 121, 3) := by decide +kernel
theorem dX12_same_112 : decode cX12_same 112 = .ok (.iload 6, 2) := by decide +kernel
theorem dX12_same_114 : decode cX12_same 114 = .ok (.iaload, 1) := by decide +kernel
theorem dX12_same_115 : decode cX12_same 115 = .ok (.bipush 6, 2) := by decide +kernel
theorem dX12_same_117 : decode cX12_same 117 = .ok (.iadd, 1) := by decide +kernel
theorem dX12_same_118 : decode cX12_same 118 = .ok (.iload 7, 2) := by decide +kernel
theorem dX12_same_120 : decode cX12_same 120 = .ok (.invokevirtual 254, 3) := by decide +kernel
theorem dX12_same_123 : decode cX12_same 123 = .ok (.ifCond .eq 7, 3) := by decide +kernel
theorem dX12_same_126 : decode cX12_same 126 = .ok (.iconst 1, 1) := by decide +kernel
theorem dX12_same_127 : decode cX12_same 127 = .ok (.goto 4, 3) := by decide +kernel
theorem dX12_same_130 : decode cX12_same 130 = .ok (.iconst 0, 1) := by decide +kernel
theorem dX12_same_131 : decode cX12_same 131 = .ok (.istore 5, 2) := by decide +kernel
theorem dX12_same_133 : decode cX12_same 133 = .ok (.iinc 6 1, 3) := by decide +kernel
theorem dX12_same_136 : decode cX12_same 136 = .ok (.goto (-114), 3) := by decide +kernel
theorem dX12_same_139 : decode cX12_same 139 = .ok (.iload 5, 2) := by decide +kernel
theorem dX12_same_141 : decode cX12_same 141 = .ok (.ireturn, 1) := by decide +kernel
set_option maxRecDepth 20000 in
theorem s_MO_same (E : XE) : Cs E (yX12_same, cX12_same, 8, some .boolean) (k_MO_same) := (Cs_nd (Cs_nd (Cs_nd (Cs_nd (Cs_nd (Cs_nd (Cs_lf (sg_aload_n dX12_same_0 rfl)) (Cs_lf (sg_getf dX12_same_1 rfl inX8 (by decide) w_1053))) (Cs_nd (Cs_lf (sg_aload dX12_same_4)) (Cs_lf (sg_getf dX12_same_6 rfl inX8 (by decide) w_1053)))) (Cs_nd (Cs_nd (Cs_lf (sg_cne dX12_same_9 (by decide))) (Cs_lf (sg_iconst dX12_same_12 (by decide)))) (Cs_nd (Cs_lf (sg_goto dX12_same_13 (by decide))) (Cs_nd (Cs_lf (sg_iconst dX12_same_16 (by decide))) (Cs_lf (sg_istore dX12_same_17 (by decide))))))) (Cs_nd (Cs_nd (Cs_nd (Cs_lf (sg_iconst dX12_same_19 (by decide))) (Cs_lf (sg_istore dX12_same_20 (by decide)))) (Cs_nd (Cs_lf (sg_iload dX12_same_22)) (Cs_lf (sg_aload_n dX12_same_24 rfl)))) (Cs_nd (Cs_nd (Cs_lf (sg_getf dX12_same_25 rfl inX8 (by decide) w_1053)) (Cs_lf (sg_cge dX12_same_28 (by decide)))) (Cs_nd (Cs_lf (sg_iload dX12_same_31)) (Cs_nd (Cs_lf (sg_ifeq dX12_same_33 (by decide))) (Cs_lf (sg_aload_n dX12_same_36 rfl))))))) (Cs_nd (Cs_nd (Cs_nd (Cs_nd (Cs_lf (sg_aload_n dX12_same_37 rfl)) (Cs_lf (sg_getf dX12_same_38 rfl inX8 (by decide) w_1055))) (Cs_nd (Cs_lf (sg_iload dX12_same_41)) (Cs_lf (sg_iald dX12_same_43)))) (Cs_nd (Cs_nd (Cs_lf (sg_iconst dX12_same_44 (by decide))) (Cs_lf (sg_iadd dX12_same_45))) (Cs_nd (Cs_lf (sg_invV (mid := 115) (ci := 8) (by decide +kernel) dX12_same_46 ok_115 rfl w_1061 w_1062 w_1063)) (Cs_nd (Cs_lf (sg_istore dX12_same_49 (by decide))) (Cs_lf (sg_aload_n dX12_same_51 rfl)))))) (Cs_nd (Cs_nd (Cs_nd (Cs_lf (sg_aload_n dX12_same_52 rfl)) (Cs_lf (sg_aload_n dX12_same_53 rfl))) (Cs_nd (Cs_lf (sg_getf dX12_same_54 rfl inX8 (by decide) w_1055)) (Cs_nd (Cs_lf (sg_iload dX12_same_57)) (Cs_lf (sg_iald dX12_same_59))))) (Cs_nd (Cs_nd (Cs_lf (sg_aload_n dX12_same_60 rfl)) (Cs_lf (sg_aload dX12_same_61))) (Cs_nd (Cs_lf (sg_getf dX12_same_63 rfl inX8 (by decide) w_1055)) (Cs_nd (Cs_lf (sg_iload dX12_same_66)) (Cs_lf (sg_iald dX12_same_68)))))))) (Cs_nd (Cs_nd (Cs_nd (Cs_nd (Cs_nd (Cs_lf (sg_invV (mid := 164) (ci := 11) (by decide +kernel) dX12_same_69 ok_164 rfl w_1310 w_1312 ws_43)) (Cs_lf (sg_ifeq dX12_same_72 (by decide)))) (Cs_nd (Cs_lf (sg_iload dX12_same_75)) (Cs_lf (sg_aload_n dX12_same_77 rfl)))) (Cs_nd (Cs_nd (Cs_lf (sg_aload dX12_same_78)) (Cs_lf (sg_getf dX12_same_80 rfl inX8 (by decide) w_1055))) (Cs_nd (Cs_lf (sg_iload dX12_same_83)) (Cs_nd (Cs_lf (sg_iald dX12_same_85)) (Cs_lf (sg_iconst dX12_same_86 (by decide))))))) (Cs_nd (Cs_nd (Cs_nd (Cs_lf (sg_iadd dX12_same_87)) (Cs_lf (sg_invV (mid := 115) (ci := 8) (by decide +kernel) dX12_same_88 ok_115 rfl w_1061 w_1062 w_1063))) (Cs_nd (Cs_lf (sg_cne dX12_same_91 (by decide))) (Cs_nd (Cs_lf (sg_aload_n dX12_same_94 rfl)) (Cs_lf (sg_aload_n dX12_same_95 rfl))))) (Cs_nd (Cs_nd (Cs_lf (sg_aload_n dX12_same_96 rfl)) (Cs_lf (sg_getf dX12_same_97 rfl inX8 (by decide) w_1055))) (Cs_nd (Cs_lf (sg_iload dX12_same_100)) (Cs_nd (Cs_lf (sg_iald dX12_same_102)) (Cs_lf (sg_bipush dX12_same_103 (by decide)))))))) (Cs_nd (Cs_nd (Cs_nd (Cs_nd (Cs_lf (sg_iadd dX12_same_105)) (Cs_lf (sg_aload_n dX12_same_106 rfl))) (Cs_nd (Cs_lf (sg_aload dX12_same_107)) (Cs_lf (sg_getf dX12_same_109 rfl inX8 (by decide) w_1055)))) (Cs_nd (Cs_nd (Cs_lf (sg_iload dX12_same_112)) (Cs_lf (sg_iald dX12_same_114))) (Cs_nd (Cs_lf (sg_bipush dX12_same_115 (by decide))) (Cs_nd (Cs_lf (sg_iadd dX12_same_117)) (Cs_lf (sg_iload dX12_same_118)))))) (Cs_nd (Cs_nd (Cs_nd (Cs_lf (sg_invV (mid := 163) (ci := 11) (by decide +kernel) dX12_same_120 ok_163 rfl w_1318 w_1320 ws_45)) (Cs_lf (sg_ifeq dX12_same_123 (by decide)))) (Cs_nd (Cs_lf (sg_iconst dX12_same_126 (by decide))) (Cs_nd (Cs_lf (sg_goto dX12_same_127 (by decide))) (Cs_lf (sg_iconst dX12_same_130 (by decide)))))) (Cs_nd (Cs_nd (Cs_lf (sg_istore dX12_same_131 (by decide))) (Cs_lf (sg_iinc dX12_same_133 (by decide) (by decide)))) (Cs_nd (Cs_lf (sg_goto dX12_same_136 (by decide))) (Cs_nd (Cs_lf (sg_iload dX12_same_139)) (Cs_lf (sg_zret dX12_same_141 rfl ⟨by decide, by decide⟩)))))))))
theorem dX12_isAlike_0 : decode cX12_isAlike 0 = .ok (.aload_n 1, 1) := by decide +kernel
theorem dX12_isAlike_1 : decode cX12_isAlike 1 = .ok (.iconst 4, 1) := by decide +kernel
theorem dX12_isAlike_2 : decode cX12_isAlike 2 = .ok (.invokevirtual 73, 3) := by decide +kernel
theorem dX12_isAlike_5 : decode cX12_isAlike 5 = .ok (.aload_n 2, 1) := by decide +kernel
theorem dX12_isAlike_6 : decode cX12_isAlike 6 = .ok (.iconst 4, 1) := by decide +kernel
theorem dX12_isAlike_7 : decode cX12_isAlike 7 = .ok (.invokevirtual 73, 3) := by decide +kernel
theorem dX12_isAlike_10 : decode cX12_isAlike 10 = .ok (.if_icmp .ne 94, 3) := by decide +kernel
theorem dX12_isAlike_13 : decode cX12_isAlike 13 = .ok (.aload_n 1, 1) := by decide +kernel
theorem dX12_isAlike_14 : decode cX12_isAlike 14 = .ok (.bipush 6, 2) := by decide +kernel
theorem dX12_isAlike_16 : decode cX12_isAlike 16 = .ok (.invokevirtual 73, 3) := by decide +kernel
theorem dX12_isAlike_19 : decode cX12_isAlike 19 = .ok (.aload_n 2, 1) := by decide +kernel
theorem dX12_isAlike_20 : decode cX12_isAlike 20 = .ok (.bipush 6, 2) := by decide +kernel
theorem dX12_isAlike_22 : decode cX12_isAlike 22 = .ok (.invokevirtual 73, 3) := by decide +kernel
theorem dX12_isAlike_25 : decode cX12_isAlike 25 = .ok (.if_icmp .ne 79, 3) := by decide +kernel
theorem dX12_isAlike_28 : decode cX12_isAlike 28 = .ok (.aload_n 1, 1) := by decide +kernel
theorem dX12_isAlike_29 : decode cX12_isAlike 29 = .ok (.aload_n 1, 1) := by decide +kernel
theorem dX12_isAlike_30 : decode cX12_isAlike 30 = .ok (.getfield 87, 3) := by decide +kernel
theorem dX12_isAlike_33 : decode cX12_isAlike 33 = .ok (.invokevirtual 73, 3) := by decide +kernel
theorem dX12_isAlike_36 : decode cX12_isAlike 36 = .ok (.aload_n 2, 1) := by decide +kernel
theorem dX12_isAlike_37 : decode cX12_isAlike 37 = .ok (.aload_n 2, 1) := by decide +kernel
theorem dX12_isAlike_38 : decode cX12_isAlike 38 = .ok (.getfield 87, 3) := by decide +kernel
theorem dX12_isAlike_41 : decode cX12_isAlike 41 = .ok (.invokevirtual 73, 3) := by decide +kernel
theorem dX12_isAlike_44 : decode cX12_isAlike 44 = .ok (.if_icmp .ne 60, 3) := by decide +kernel
theorem dX12_isAlike_47 : decode cX12_isAlike 47 = .ok (.aload_n 0, 1) := by decide +kernel
theorem dX12_isAlike_48 : decode cX12_isAlike 48 = .ok (.aload_n 1, 1) := by decide +kernel
theorem dX12_isAlike_49 : decode cX12_isAlike 49 = .ok (.aload_n 1, 1) := by decide +kernel
theorem dX12_isAlike_50 : decode cX12_isAlike 50 = .ok (.getfield 87, 3) := by decide +kernel
theorem dX12_isAlike_53 : decode cX12_isAlike 53 = .ok (.iconst 2, 1) := by decide +kernel
theorem dX12_isAlike_54 : decode cX12_isAlike 54 = .ok (.iadd, 1) := by decide +kernel
theorem dX12_isAlike_55 : decode cX12_isAlike 55 = .ok (.aload_n 2, 1) := by decide +kernel
theorem dX12_isAlike_56 : decode cX12_isAlike 56 = .ok (.aload_n 2, 1) := by decide +kernel
theorem dX12_isAlike_57 : decode cX12_isAlike 57 = .ok (.getfield 87, 3) := by decide +kernel
theorem dX12_isAlike_60 : decode cX12_isAlike 60 = .ok (.iconst 2, 1) := by decide +kernel
theorem dX12_isAlike_61 : decode cX12_isAlike 61 = .ok (.iadd, 1) := by decide +kernel
theorem dX12_isAlike_62 : decode cX12_isAlike 62 = .ok (.invokevirtual 250, 3) := by decide +kernel
theorem dX12_isAlike_65 : decode cX12_isAlike 65 = .ok (.ifCond .eq 39, 3) := by decide +kernel
theorem dX12_isAlike_68 : decode cX12_isAlike 68 = .ok (.aload_n 0, 1) := by decide +kernel
theorem dX12_isAlike_69 : decode cX12_isAlike 69 = .ok (.aload_n 1, 1) := by decide +kernel
theorem dX12_isAlike_70 : decode cX12_isAlike 70 = .ok (.aload_n 1, 1) := by decide +kernel
theorem dX12_isAlike_71 : decode cX12_isAlike 71 = .ok (.getfield 87, 3) := by decide +kernel
theorem dX12_isAlike_74 : decode cX12_isAlike 74 = .ok (.iconst 4, 1) := by decide +kernel
theorem dX12_isAlike_75 : decode cX12_isAlike 75 = .ok (.iadd, 1) := by decide +kernel
theorem dX12_isAlike_76 : decode cX12_isAlike 76 = .ok (.aload_n 2, 1) := by decide +kernel
theorem dX12_isAlike_77 : decode cX12_isAlike 77 = .ok (.aload_n 2, 1) := by decide +kernel
theorem dX12_isAlike_78 : decode cX12_isAlike 78 = .ok (.getfield 87, 3) := by decide +kernel
theorem dX12_isAlike_81 : decode cX12_isAlike 81 = .ok (.iconst 4, 1) := by decide +kernel
theorem dX12_isAlike_82 : decode cX12_isAlike 82 = .ok (.iadd, 1) := by decide +kernel
theorem dX12_isAlike_83 : decode cX12_isAlike 83 = .ok (.invokevirtual 250, 3) := by decide +kernel
theorem dX12_isAlike_86 : decode cX12_isAlike 86 = .ok (.ifCond .eq 18, 3) := by decide +kernel
theorem dX12_isAlike_89 : decode cX12_isAlike 89 = .ok (.aload_n 1, 1) := by decide +kernel
theorem dX12_isAlike_90 : decode cX12_isAlike 90 = .ok (.getfield 93, 3) := by decide +kernel
theorem dX12_isAlike_93 : decode cX12_isAlike 93 = .ok (.aload_n 2, 1) := by decide +kernel
theorem dX12_isAlike_94 : decode cX12_isAlike 94 = .ok (.getfield 93, 3) := by decide +kernel
theorem dX12_isAlike_97 : decode cX12_isAlike 97 = .ok (.if_icmp .ne 7, 3) := by decide +kernel
theorem dX12_isAlike_100 : decode cX12_isAlike 100 = .ok (.iconst 1, 1) := by decide +kernel
theorem dX12_isAlike_101 : decode cX12_isAlike 101 = .ok (.goto 4, 3) := by decide +kernel
theorem dX12_isAlike_104 : decode cX12_isAlike 104 = .ok (.iconst 0, 1) := by decide +kernel
theorem dX12_isAlike_105 : decode cX12_isAlike 105 = .ok (.istore_n 3, 1) := by decide +kernel
theorem dX12_isAlike_106 : decode cX12_isAlike 106 = .ok (.iconst 0, 1) := by decide +kernel
theorem dX12_isAlike_107 : decode cX12_isAlike 107 = .ok (.istore 4, 2) := by decide +kernel
theorem dX12_isAlike_109 : decode cX12_isAlike 109 = .ok (.iload 4, 2) := by decide +kernel
theorem dX12_isAlike_111 : decode cX12_isAlike 111 = .ok (.aload_n 1, 1) := by decide +kernel
theorem dX12_isAlike_112 : decode cX12_isAlike 112 = .ok (.getfield 93, 3) := by decide +kernel
theorem dX12_isAlike_115 : decode cX12_isAlike 115 = .ok (.if_icmp .ge 44, 3) := by decide +kernel
theorem dX12_isAlike_118 : decode cX12_isAlike 118 = .ok (.iload_n 3, 1) := by decide +kernel
theorem dX12_isAlike_119 : decode cX12_isAlike 119 = .ok (.ifCond .eq 40, 3) := by decide +kernel
theorem dX12_isAlike_122 : decode cX12_isAlike 122 = .ok (.aload_n 0, 1) := by decide +kernel
theorem dX12_isAlike_123 : decode cX12_isAlike 123 = .ok (.aload_n 1, 1) := by decide +kernel
theorem dX12_isAlike_124 : decode cX12_isAlike 124 = .ok (.aload_n 1, 1) := by decide +kernel
theorem dX12_isAlike_125 : decode cX12_isAlike 125 = .ok (.getfield 87, 3) := by decide +kernel
theorem dX12_isAlike_128 : decode cX12_isAlike 128 = .ok (.bipush 8, 2) := by decide +kernel
theorem dX12_isAlike_130 : decode cX12_isAlike 130 = .ok (.iadd, 1) := by decide +kernel
theorem dX12_isAlike_131 : decode cX12_isAlike 131 = .ok (.iconst 2, 1) := by decide +kernel
theorem dX12_isAlike_132 : decode cX12_isAlike 132 = .ok (.iload 4, 2) := by decide +kernel
theorem dX12_isAlike_134 : decode cX12_isAlike 134 = .ok (.imul, 1) := by decide +kernel
theorem dX12_isAlike_135 : decode cX12_isAlike 135 = .ok (.iadd, 1) := by decide +kernel
theorem dX12_isAlike_136 : decode cX12_isAlike 136 = .ok (.aload_n 2, 1) := by decide +kernel
theorem dX12_isAlike_137 : decode cX12_isAlike 137 = .ok (.aload_n 2, 1) := by decide +kernel
theorem dX12_isAlike_138 : decode cX12_isAlike 138 = .ok (.getfield 87, 3) := by decide +kernel
theorem dX12_isAlike_141 : decode cX12_isAlike 141 = .ok (.bipush 8, 2) := by decide +kernel
theorem dX12_isAlike_143 : decode cX12_isAlike 143 = .ok (.iadd, 1) := by decide +kernel
theorem dX12_isAlike_144 : decode cX12_isAlike 144 = .ok (.iconst 2, 1) := by decide +kernel
theorem dX12_isAlike_145 : decode cX12_isAlike 145 = .ok (.iload 4, 2) := by decide +kernel
theorem dX12_isAlike_147 : decode cX12_isAlike 147 = .ok (.imul, 1) := by decide +kernel
theorem dX12_isAlike_148 : decode cX12_isAlike 148 = .ok (.iadd, 1) := by decide +kernel
theorem dX12_isAlike_149 : decode cX12_isAlike 149 = .ok (.invokevirtual 250, 3) := by decide +kernel
theorem dX12_isAlike_152 : decode cX12_isAlike 152 = .ok (.istore_n 3, 1) := by decide +kernel
theorem dX12_isAlike_153 : decode cX12_isAlike 153 = .ok (.iinc 4 1, 3) := by decide +kernel
theorem dX12_isAlike_156 : decode cX12_isAlike 156 = .ok (.goto (-47), 3) := by decide +kernel
theorem dX12_isAlike_159 : decode cX12_isAlike 159 = .ok (.iconst 0, 1) := by decide +kernel
theorem dX12_isAlike_160 : decode cX12_isAlike 160 = .ok (.istore 4, 2) := by decide +kernel
theorem dX12_isAlike_162 : decode cX12_isAlike 162 = .ok (.iload 4, 2) := by decide +kernel
theorem dX12_isAlike_164 : decode cX12_isAlike 164 = .ok (.iconst 2, 1) := by decide +kernel
theorem dX12_isAlike_165 : decode cX12_isAlike 165 = .ok (.if_icmp .ge 177, 3) := by decide +kernel
theorem dX12_isAlike_168 : decode cX12_isAlike 168 = .ok (.iload_n 3, 1) := by decide +kernel
theorem dX12_isAlike_169 : decode cX12_isAlike 169 = .ok (.ifCond .eq 24, 3) := by decide +kernel
theorem dX12_isAlike_172 : decode cX12_isAlike 172 = .ok (.aload_n 1, 1) := by decide +kernel
theorem dX12_isAlike_173 : decode cX12_isAlike 173 = .ok (.getfield 96, 3) := by decide +kernel
theorem dX12_isAlike_176 : decode cX12_isAlike 176 = .ok (.iload 4, 2) := by decide +kernel
theorem dX12_isAlike_178 : decode cX12_isAlike 178 = .ok (.iaload, 1) := by decide +kernel
theorem dX12_isAlike_179 : decode cX12_isAlike 179 = .ok (.aload_n 2, 1) := by decide +kernel
theorem dX12_isAlike_180 : decode cX12_isAlike 180 = .ok (.getfield 96, 3) := by decide +kernel
theorem dX12_isAlike_183 : decode cX12_isAlike 183 = .ok (.iload 4, 2) := by decide +kernel
theorem dX12_isAlike_185 : decode cX12_isAlike 185 = .ok (.iaload, 1) := by decide +kernel
theorem dX12_isAlike_186 : decode cX12_isAlike 186 = .ok (.if_icmp .ne 7, 3) := by decide +kernel
theorem dX12_isAlike_189 : decode cX12_isAlike 189 = .ok (.iconst 1, 1) := by decide +kernel
theorem dX12_isAlike_190 : decode cX12_isAlike 190 = .ok (.goto 4, 3) := by decide +kernel
theorem dX12_isAlike_193 : decode cX12_isAlike 193 = .ok (.iconst 0, 1) := by decide +kernel
theorem dX12_isAlike_194 : decode cX12_isAlike 194 = .ok (.istore_n 3, 1) := by decide +kernel
theorem dX12_isAlike_195 : decode cX12_isAlike 195 = .ok (.iconst 0, 1) := by decide +kernel
theorem dX12_isAlike_196 : decode cX12_isAlike 196 = .ok (.istore 5, 2) := by decide +kernel
theorem dX12_isAlike_198 : decode cX12_isAlike 198 = .ok (.iload_n 3, 1) := by decide +kernel
theorem dX12_isAlike_199 : decode cX12_isAlike 199 = .ok (.ifCond .eq 137, 3) := by decide +kernel
theorem dX12_isAlike_202 : decode cX12_isAlike 202 = .ok (.iload 5, 2) := by decide +kernel
theorem dX12_isAlike_204 : decode cX12_isAlike 204 = .ok (.aload_n 1, 1) := by decide +kernel
theorem dX12_isAlike_205 : decode cX12_isAlike 205 = .ok (.getfield 96, 3) := by decide +kernel
theorem dX12_isAlike_208 : decode cX12_isAlike 208 = .ok (.iload 4, 2) := by decide +kernel
theorem dX12_isAlike_210 : decode cX12_isAlike 210 = .ok (.iaload, 1) := by decide +kernel
theorem dX12_isAlike_211 : decode cX12_isAlike 211 = .ok (.if_icmp .ge 125, 3) := by decide +kernel
theorem dX12_isAlike_214 : decode cX12_isAlike 214 = .ok (.aload_n 1, 1) := by decide +kernel
theorem dX12_isAlike_215 : decode cX12_isAlike 215 = .ok (.getfield 110, 3) := by decide +kernel
theorem dX12_isAlike_218 : decode cX12_isAlike 218 = .ok (.iload 4, 2) := by decide +kernel
theorem dX12_isAlike_220 : decode cX12_isAlike 220 = .ok (.aaload, 1) := by decide +kernel
theorem dX12_isAlike_221 : decode cX12_isAlike 221 = .ok (.iload 5, 2) := by decide +kernel
theorem dX12_isAlike_223 : decode cX12_isAlike 223 = .ok (.aaload, 1) := by decide +kernel
theorem dX12_isAlike_224 : decode cX12_isAlike 224 = .ok (.astore 6, 2) := by decide +kernel
theorem dX12_isAlike_226 : decode cX12_isAlike 226 = .ok (.aload_n 2, 1) := by decide +kernel
theorem dX12_isAlike_227 : decode cX12_isAlike 227 = .ok (.getfield 110, 3) := by decide +kernel
theorem dX12_isAlike_230 : decode cX12_isAlike 230 = .ok (.iload 4, 2) := by decide +kernel
theorem dX12_isAlike_232 : decode cX12_isAlike 232 = .ok (.aaload, 1) := by decide +kernel
theorem dX12_isAlike_233 : decode cX12_isAlike 233 = .ok (.iload 5, 2) := by decide +kernel
theorem dX12_isAlike_235 : decode cX12_isAlike 235 = .ok (.aaload, 1) := by decide +kernel
theorem dX12_isAlike_236 : decode cX12_isAlike 236 = .ok (.astore 7, 2) := by decide +kernel
theorem dX12_isAlike_238 : decode cX12_isAlike 238 = .ok (.aload_n 1, 1) := by decide +kernel
theorem dX12_isAlike_239 : decode cX12_isAlike 239 = .ok (.aload 6, 2) := by decide +kernel
theorem dX12_isAlike_241 : decode cX12_isAlike 241 = .ok (.getfield 102, 3) := by decide +kernel
theorem dX12_isAlike_244 : decode cX12_isAlike 244 = .ok (.invokevirtual 73, 3) := by decide +kernel
theorem dX12_isAlike_247 : decode cX12_isAlike 247 = .ok (.aload_n 2, 1) := by decide +kernel
theorem dX12_isAlike_248 : decode cX12_isAlike 248 = .ok (.aload 7, 2) := by decide +kernel
theorem dX12_isAlike_250 : decode cX12_isAlike 250 = .ok (.getfield 102, 3) := by decide +kernel
theorem dX12_isAlike_253 : decode cX12_isAlike 253 = .ok (.invokevirtual 73, 3) := by decide +kernel
theorem dX12_isAlike_256 : decode cX12_isAlike 256 = .ok (.if_icmp .ne 72, 3) := by decide +kernel
theorem dX12_isAlike_259 : decode cX12_isAlike 259 = .ok (.aload_n 0, 1) := by decide +kernel
theorem dX12_isAlike_260 : decode cX12_isAlike 260 = .ok (.aload_n 1, 1) := by decide +kernel
theorem dX12_isAlike_261 : decode cX12_isAlike 261 = .ok (.aload 6, 2) := by decide +kernel
theorem dX12_isAlike_263 : decode cX12_isAlike 263 = .ok (.getfield 102, 3) := by decide +kernel
theorem dX12_isAlike_266 : decode cX12_isAlike 266 = .ok (.iconst 2, 1) := by decide +kernel
theorem dX12_isAlike_267 : decode cX12_isAlike 267 = .ok (.iadd, 1) := by decide +kernel
theorem dX12_isAlike_268 : decode cX12_isAlike 268 = .ok (.aload_n 2, 1) := by decide +kernel
theorem dX12_isAlike_269 : decode cX12_isAlike 269 = .ok (.aload 7, 2) := by decide +kernel
theorem dX12_isAlike_271 : decode cX12_isAlike 271 = .ok (.getfield 102, 3) := by decide +kernel
theorem dX12_isAlike_274 : decode cX12_isAlike 274 = .ok (.iconst 2, 1) := by decide +kernel
theorem dX12_isAlike_275 : decode cX12_isAlike 275 = .ok (.iadd, 1) := by decide +kernel
theorem dX12_isAlike_276 : decode cX12_isAlike 276 = .ok (.invokevirtual 250, 3) := by decide +kernel
theorem dX12_isAlike_279 : decode cX12_isAlike 279 = .ok (.ifCond .eq 49, 3) := by decide +kernel
theorem dX12_isAlike_282 : decode cX12_isAlike 282 = .ok (.aload_n 0, 1) := by decide +kernel
theorem dX12_isAlike_283 : decode cX12_isAlike 283 = .ok (.aload_n 1, 1) := by decide +kernel
theorem dX12_isAlike_284 : decode cX12_isAlike 284 = .ok (.aload 6, 2) := by decide +kernel
theorem dX12_isAlike_286 : decode cX12_isAlike 286 = .ok (.getfield 102, 3) := by decide +kernel
theorem dX12_isAlike_289 : decode cX12_isAlike 289 = .ok (.iconst 4, 1) := by decide +kernel
theorem dX12_isAlike_290 : decode cX12_isAlike 290 = .ok (.iadd, 1) := by decide +kernel
theorem dX12_isAlike_291 : decode cX12_isAlike 291 = .ok (.aload_n 2, 1) := by decide +kernel
theorem dX12_isAlike_292 : decode cX12_isAlike 292 = .ok (.aload 7, 2) := by decide +kernel
theorem dX12_isAlike_294 : decode cX12_isAlike 294 = .ok (.getfield 102, 3) := by decide +kernel
theorem dX12_isAlike_297 : decode cX12_isAlike 297 = .ok (.iconst 4, 1) := by decide +kernel
theorem dX12_isAlike_298 : decode cX12_isAlike 298 = .ok (.iadd, 1) := by decide +kernel
theorem dX12_isAlike_299 : decode cX12_isAlike 299 = .ok (.invokevirtual 250, 3) := by decide +kernel
theorem dX12_isAlike_302 : decode cX12_isAlike 302 = .ok (.ifCond .eq 26, 3) := by decide +kernel
theorem dX12_isAlike_305 : decode cX12_isAlike 305 = .ok (.aload_n 0, 1) := by decide +kernel
theorem dX12_isAlike_306 : decode cX12_isAlike 306 = .ok (.aload_n 1, 1) := by decide +kernel
theorem dX12_isAlike_307 : decode cX12_isAlike 307 = .ok (.aload 6, 2) := by decide +kernel
theorem dX12_isAlike_309 : decode cX12_isAlike 309 = .ok (.getfield 107, 3) := by decide +kernel
theorem dX12_isAlike_312 : decode cX12_isAlike 312 = .ok (.aload_n 2, 1) := by decide +kernel
theorem dX12_isAlike_313 : decode cX12_isAlike 313 = .ok (.aload 7, 2) := by decide +kernel
theorem dX12_isAlike_315 : decode cX12_isAlike 315 = .ok (.getfield 107, 3) := by decide +kernel
theorem dX12_isAlike_318 : decode cX12_isAlike 318 = .ok (.invokevirtual 258, 3) := by decide +kernel
theorem dX12_isAlike_321 : decode cX12_isAlike 321 = .ok (.ifCond .eq 7, 3) := by decide +kernel
theorem dX12_isAlike_324 : decode cX12_isAlike 324 = .ok (.iconst 1, 1) := by decide +kernel
theorem dX12_isAlike_325 : decode cX12_isAlike 325 = .ok (.goto 4, 3) := by decide +kernel
theorem dX12_isAlike_328 : decode cX12_isAlike 328 = .ok (.iconst 0, 1) := by decide +kernel
theorem dX12_isAlike_329 : decode cX12_isAlike 329 = .ok (.istore_n 3, 1) := by decide +kernel
theorem dX12_isAlike_330 : decode cX12_isAlike 330 = .ok (.iinc 5 1, 3) := by decide +kernel
theorem dX12_isAlike_333 : decode cX12_isAlike 333 = .ok (.goto (-135), 3) := by decide +kernel
theorem dX12_isAlike_336 : decode cX12_isAlike 336 = .ok (.iinc 4 1, 3) := by decide +kernel
theorem dX12_isAlike_339 : decode cX12_isAlike 339 = .ok (.goto (-177), 3) := by decide +kernel
theorem dX12_isAlike_342 : decode cX12_isAlike 342 = .ok (.iload_n 3, 1) := by decide +kernel
theorem dX12_isAlike_343 : decode cX12_isAlike 343 = .ok (.ifCond .eq 24, 3) := by decide +kernel
theorem dX12_isAlike_346 : decode cX12_isAlike 346 = .ok (.aload_n 0, 1) := by decide +kernel
theorem dX12_isAlike_347 : decode cX12_isAlike 347 = .ok (.aload_n 1, 1) := by decide +kernel
theorem dX12_isAlike_348 : decode cX12_isAlike 348 = .ok (.aload_n 1, 1) := by decide +kernel
theorem dX12_isAlike_349 : decode cX12_isAlike 349 = .ok (.getfield 114, 3) := by decide +kernel
theorem dX12_isAlike_352 : decode cX12_isAlike 352 = .ok (.aload_n 2, 1) := by decide +kernel
theorem dX12_isAlike_353 : decode cX12_isAlike 353 = .ok (.aload_n 2, 1) := by decide +kernel
theorem dX12_isAlike_354 : decode cX12_isAlike 354 = .ok (.getfield 114, 3) := by decide +kernel
theorem dX12_isAlike_357 : decode cX12_isAlike 357 = .ok (.invokevirtual 258, 3) := by decide +kernel
theorem dX12_isAlike_360 : decode cX12_isAlike 360 = .ok (.ifCond .eq 7, 3) := by decide +kernel
theorem dX12_isAlike_363 : decode cX12_isAlike 363 = .ok (.iconst 1, 1) := by decide +kernel
theorem dX12_isAlike_364 : decode cX12_isAlike 364 = .ok (.goto 4, 3) := by decide +kernel
theorem dX12_isAlike_367 : decode cX12_isAlike 367 = .ok (.iconst 0, 1) := by decide +kernel
theorem dX12_isAlike_368 : decode cX12_isAlike 368 = .ok (.ireturn, 1) := by decide +kernel
set_option maxRecDepth 20000 in
theorem s_MO_isAlike (E : XE) : Cs E (yX12_isAlike, cX12_isAlike, 8, some .boolean) (k_MO_isAlike) := (Cs_nd (Cs_nd (Cs_nd (Cs_nd (Cs_nd (Cs_nd (Cs_nd (Cs_lf (sg_aload_n dX12_isAlike_0 rfl)) (Cs_nd (Cs_lf (sg_iconst dX12_isAlike_1 (by decide))) (Cs_lf (sg_invV (mid := 114) (ci := 8) (by decide +kernel) dX12_isAlike_2 ok_114 rfl w_1018 w_1019 w_1020)))) (Cs_nd (Cs_lf (sg_aload_n dX12_isAlike_5 rfl)) (Cs_nd (Cs_lf (sg_iconst dX12_isAlike_6 (by decide))) (Cs_lf (sg_invV (mid := 114) (ci := 8) (by decide +kernel) dX12_isAlike_7 ok_114 rfl w_1018 w_1019 w_1020))))) (Cs_nd (Cs_nd (Cs_lf (sg_cne dX12_isAlike_10 (by decide))) (Cs_nd (Cs_lf (sg_aload_n dX12_isAlike_13 rfl)) (Cs_lf (sg_bipush dX12_isAlike_14 (by decide))))) (Cs_nd (Cs_lf (sg_invV (mid := 114) (ci := 8) (by decide +kernel) dX12_isAlike_16 ok_114 rfl w_1018 w_1019 w_1020)) (Cs_nd (Cs_lf (sg_aload_n dX12_isAlike_19 rfl)) (Cs_lf (sg_bipush dX12_isAlike_20 (by decide))))))) (Cs_nd (Cs_nd (Cs_nd (Cs_lf (sg_invV (mid := 114) (ci := 8) (by decide +kernel) dX12_isAlike_22 ok_114 rfl w_1018 w_1019 w_1020)) (Cs_nd (Cs_lf (sg_cne dX12_isAlike_25 (by decide))) (Cs_lf (sg_aload_n dX12_isAlike_28 rfl)))) (Cs_nd (Cs_lf (sg_aload_n dX12_isAlike_29 rfl)) (Cs_nd (Cs_lf (sg_getf dX12_isAlike_30 rfl inX9 (by decide) w_970)) (Cs_lf (sg_invV (mid := 114) (ci := 8) (by decide +kernel) dX12_isAlike_33 ok_114 rfl w_1018 w_1019 w_1020))))) (Cs_nd (Cs_nd (Cs_lf (sg_aload_n dX12_isAlike_36 rfl)) (Cs_nd (Cs_lf (sg_aload_n dX12_isAlike_37 rfl)) (Cs_lf (sg_getf dX12_isAlike_38 rfl inX9 (by decide) w_970)))) (Cs_nd (Cs_nd (Cs_lf (sg_invV (mid := 114) (ci := 8) (by decide +kernel) dX12_isAlike_41 ok_114 rfl w_1018 w_1019 w_1020)) (Cs_lf (sg_cne dX12_isAlike_44 (by decide)))) (Cs_nd (Cs_lf (sg_aload_n dX12_isAlike_47 rfl)) (Cs_lf (sg_aload_n dX12_isAlike_48 rfl))))))) (Cs_nd (Cs_nd (Cs_nd (Cs_nd (Cs_lf (sg_aload_n dX12_isAlike_49 rfl)) (Cs_nd (Cs_lf (sg_getf dX12_isAlike_50 rfl inX9 (by decide) w_970)) (Cs_lf (sg_iconst dX12_isAlike_53 (by decide))))) (Cs_nd (Cs_lf (sg_iadd dX12_isAlike_54)) (Cs_nd (Cs_lf (sg_aload_n dX12_isAlike_55 rfl)) (Cs_lf (sg_aload_n dX12_isAlike_56 rfl))))) (Cs_nd (Cs_nd (Cs_lf (sg_getf dX12_isAlike_57 rfl inX9 (by decide) w_970)) (Cs_nd (Cs_lf (sg_iconst dX12_isAlike_60 (by decide))) (Cs_lf (sg_iadd dX12_isAlike_61)))) (Cs_nd (Cs_lf (sg_invV (mid := 164) (ci := 11) (by decide +kernel) dX12_isAlike_62 ok_164 rfl w_1310 w_1312 ws_43)) (Cs_nd (Cs_lf (sg_ifeq dX12_isAlike_65 (by decide))) (Cs_lf (sg_aload_n dX12_isAlike_68 rfl)))))) (Cs_nd (Cs_nd (Cs_nd (Cs_lf (sg_aload_n dX12_isAlike_69 rfl)) (Cs_nd (Cs_lf (sg_aload_n dX12_isAlike_70 rfl)) (Cs_lf (sg_getf dX12_isAlike_71 rfl inX9 (by decide) w_970)))) (Cs_nd (Cs_lf (sg_iconst dX12_isAlike_74 (by decide))) (Cs_nd (Cs_lf (sg_iadd dX12_isAlike_75)) (Cs_lf (sg_aload_n dX12_isAlike_76 rfl))))) (Cs_nd (Cs_nd (Cs_lf (sg_aload_n dX12_isAlike_77 rfl)) (Cs_nd (Cs_lf (sg_getf dX12_isAlike_78 rfl inX9 (by decide) w_970)) (Cs_lf (sg_iconst dX12_isAlike_81 (by decide))))) (Cs_nd (Cs_nd (Cs_lf (sg_iadd dX12_isAlike_82)) (Cs_lf (sg_invV (mid := 164) (ci := 11) (by decide +kernel) dX12_isAlike_83 ok_164 rfl w_1310 w_1312 ws_43))) (Cs_nd (Cs_lf (sg_ifeq dX12_isAlike_86 (by decide))) (Cs_lf (sg_aload_n dX12_isAlike_89 rfl)))))))) (Cs_nd (Cs_nd (Cs_nd (Cs_nd (Cs_nd (Cs_lf (sg_getf dX12_isAlike_90 rfl inX9 (by decide) w_971)) (Cs_nd (Cs_lf (sg_aload_n dX12_isAlike_93 rfl)) (Cs_lf (sg_getf dX12_isAlike_94 rfl inX9 (by decide) w_971)))) (Cs_nd (Cs_lf (sg_cne dX12_isAlike_97 (by decide))) (Cs_nd (Cs_lf (sg_iconst dX12_isAlike_100 (by decide))) (Cs_lf (sg_goto dX12_isAlike_101 (by decide)))))) (Cs_nd (Cs_nd (Cs_lf (sg_iconst dX12_isAlike_104 (by decide))) (Cs_nd (Cs_lf (sg_istore_n dX12_isAlike_105 rfl (by decide))) (Cs_lf (sg_iconst dX12_isAlike_106 (by decide))))) (Cs_nd (Cs_lf (sg_istore dX12_isAlike_107 (by decide))) (Cs_nd (Cs_lf (sg_iload dX12_isAlike_109)) (Cs_lf (sg_aload_n dX12_isAlike_111 rfl)))))) (Cs_nd (Cs_nd (Cs_nd (Cs_lf (sg_getf dX12_isAlike_112 rfl inX9 (by decide) w_971)) (Cs_nd (Cs_lf (sg_cge dX12_isAlike_115 (by decide))) (Cs_lf (sg_iload_n dX12_isAlike_118 rfl)))) (Cs_nd (Cs_lf (sg_ifeq dX12_isAlike_119 (by decide))) (Cs_nd (Cs_lf (sg_aload_n dX12_isAlike_122 rfl)) (Cs_lf (sg_aload_n dX12_isAlike_123 rfl))))) (Cs_nd (Cs_nd (Cs_lf (sg_aload_n dX12_isAlike_124 rfl)) (Cs_nd (Cs_lf (sg_getf dX12_isAlike_125 rfl inX9 (by decide) w_970)) (Cs_lf (sg_bipush dX12_isAlike_128 (by decide))))) (Cs_nd (Cs_nd (Cs_lf (sg_iadd dX12_isAlike_130)) (Cs_lf (sg_iconst dX12_isAlike_131 (by decide)))) (Cs_nd (Cs_lf (sg_iload dX12_isAlike_132)) (Cs_lf (sg_imul dX12_isAlike_134))))))) (Cs_nd (Cs_nd (Cs_nd (Cs_nd (Cs_lf (sg_iadd dX12_isAlike_135)) (Cs_nd (Cs_lf (sg_aload_n dX12_isAlike_136 rfl)) (Cs_lf (sg_aload_n dX12_isAlike_137 rfl)))) (Cs_nd (Cs_lf (sg_getf dX12_isAlike_138 rfl inX9 (by decide) w_970)) (Cs_nd (Cs_lf (sg_bipush dX12_isAlike_141 (by decide))) (Cs_lf (sg_iadd dX12_isAlike_143))))) (Cs_nd (Cs_nd (Cs_lf (sg_iconst dX12_isAlike_144 (by decide))) (Cs_nd (Cs_lf (sg_iload dX12_isAlike_145)) (Cs_lf (sg_imul dX12_isAlike_147)))) (Cs_nd (Cs_lf (sg_iadd dX12_isAlike_148)) (Cs_nd (Cs_lf (sg_invV (mid := 164) (ci := 11) (by decide +kernel) dX12_isAlike_149 ok_164 rfl w_1310 w_1312 ws_43)) (Cs_lf (sg_istore_n dX12_isAlike_152 rfl (by decide))))))) (Cs_nd (Cs_nd (Cs_nd (Cs_lf (sg_iinc dX12_isAlike_153 (by decide) (by decide))) (Cs_nd (Cs_lf (sg_goto dX12_isAlike_156 (by decide))) (Cs_lf (sg_iconst dX12_isAlike_159 (by decide))))) (Cs_nd (Cs_lf (sg_istore dX12_isAlike_160 (by decide))) (Cs_nd (Cs_lf (sg_iload dX12_isAlike_162)) (Cs_lf (sg_iconst dX12_isAlike_164 (by decide)))))) (Cs_nd (Cs_nd (Cs_lf (sg_cge dX12_isAlike_165 (by decide))) (Cs_nd (Cs_lf (sg_iload_n dX12_isAlike_168 rfl)) (Cs_lf (sg_ifeq dX12_isAlike_169 (by decide))))) (Cs_nd (Cs_nd (Cs_lf (sg_aload_n dX12_isAlike_172 rfl)) (Cs_lf (sg_getf dX12_isAlike_173 rfl inX9 (by decide) w_975))) (Cs_nd (Cs_lf (sg_iload dX12_isAlike_176)) (Cs_lf (sg_iald dX12_isAlike_178))))))))) (Cs_nd (Cs_nd (Cs_nd (Cs_nd (Cs_nd (Cs_nd (Cs_lf (sg_aload_n dX12_isAlike_179 rfl)) (Cs_nd (Cs_lf (sg_getf dX12_isAlike_180 rfl inX9 (by decide) w_975)) (Cs_lf (sg_iload dX12_isAlike_183)))) (Cs_nd (Cs_lf (sg_iald dX12_isAlike_185)) (Cs_nd (Cs_lf (sg_cne dX12_isAlike_186 (by decide))) (Cs_lf (sg_iconst dX12_isAlike_189 (by decide)))))) (Cs_nd (Cs_nd (Cs_lf (sg_goto dX12_isAlike_190 (by decide))) (Cs_nd (Cs_lf (sg_iconst dX12_isAlike_193 (by decide))) (Cs_lf (sg_istore_n dX12_isAlike_194 rfl (by decide))))) (Cs_nd (Cs_lf (sg_iconst dX12_isAlike_195 (by decide))) (Cs_nd (Cs_lf (sg_istore dX12_isAlike_196 (by decide))) (Cs_lf (sg_iload_n dX12_isAlike_198 rfl)))))) (Cs_nd (Cs_nd (Cs_nd (Cs_lf (sg_ifeq dX12_isAlike_199 (by decide))) (Cs_nd (Cs_lf (sg_iload dX12_isAlike_202)) (Cs_lf (sg_aload_n dX12_isAlike_204 rfl)))) (Cs_nd (Cs_lf (sg_getf dX12_isAlike_205 rfl inX9 (by decide) w_975)) (Cs_nd (Cs_lf (sg_iload dX12_isAlike_208)) (Cs_lf (sg_iald dX12_isAlike_210))))) (Cs_nd (Cs_nd (Cs_lf (sg_cge dX12_isAlike_211 (by decide))) (Cs_nd (Cs_lf (sg_aload_n dX12_isAlike_214 rfl)) (Cs_lf (sg_getf dX12_isAlike_215 rfl inX9 (by decide) w_973)))) (Cs_nd (Cs_nd (Cs_lf (sg_iload dX12_isAlike_218)) (Cs_lf (sg_aald dX12_isAlike_220))) (Cs_nd (Cs_lf (sg_iload dX12_isAlike_221)) (Cs_lf (sg_aald dX12_isAlike_223))))))) (Cs_nd (Cs_nd (Cs_nd (Cs_nd (Cs_lf (sg_astore dX12_isAlike_224 (by decide))) (Cs_nd (Cs_lf (sg_aload_n dX12_isAlike_226 rfl)) (Cs_lf (sg_getf dX12_isAlike_227 rfl inX9 (by decide) w_973)))) (Cs_nd (Cs_lf (sg_iload dX12_isAlike_230)) (Cs_nd (Cs_lf (sg_aald dX12_isAlike_232)) (Cs_lf (sg_iload dX12_isAlike_233))))) (Cs_nd (Cs_nd (Cs_lf (sg_aald dX12_isAlike_235)) (Cs_nd (Cs_lf (sg_astore dX12_isAlike_236 (by decide))) (Cs_lf (sg_aload_n dX12_isAlike_238 rfl)))) (Cs_nd (Cs_lf (sg_aload dX12_isAlike_239)) (Cs_nd (Cs_lf (sg_getf dX12_isAlike_241 rfl inX11 (by decide) w_1036)) (Cs_lf (sg_invV (mid := 114) (ci := 8) (by decide +kernel) dX12_isAlike_244 ok_114 rfl w_1018 w_1019 w_1020)))))) (Cs_nd (Cs_nd (Cs_nd (Cs_lf (sg_aload_n dX12_isAlike_247 rfl)) (Cs_nd (Cs_lf (sg_aload dX12_isAlike_248)) (Cs_lf (sg_getf dX12_isAlike_250 rfl inX11 (by decide) w_1036)))) (Cs_nd (Cs_lf (sg_invV (mid := 114) (ci := 8) (by decide +kernel) dX12_isAlike_253 ok_114 rfl w_1018 w_1019 w_1020)) (Cs_nd (Cs_lf (sg_cne dX12_isAlike_256 (by decide))) (Cs_lf (sg_aload_n dX12_isAlike_259 rfl))))) (Cs_nd (Cs_nd (Cs_lf (sg_aload_n dX12_isAlike_260 rfl)) (Cs_nd (Cs_lf (sg_aload dX12_isAlike_261)) (Cs_lf (sg_getf dX12_isAlike_263 rfl inX11 (by decide) w_1036)))) (Cs_nd (Cs_nd (Cs_lf (sg_iconst dX12_isAlike_266 (by decide))) (Cs_lf (sg_iadd dX12_isAlike_267))) (Cs_nd (Cs_lf (sg_aload_n dX12_isAlike_268 rfl)) (Cs_lf (sg_aload dX12_isAlike_269)))))))) (Cs_nd (Cs_nd (Cs_nd (Cs_nd (Cs_nd (Cs_lf (sg_getf dX12_isAlike_271 rfl inX11 (by decide) w_1036)) (Cs_nd (Cs_lf (sg_iconst dX12_isAlike_274 (by decide))) (Cs_lf (sg_iadd dX12_isAlike_275)))) (Cs_nd (Cs_lf (sg_invV (mid := 164) (ci := 11) (by decide +kernel) dX12_isAlike_276 ok_164 rfl w_1310 w_1312 ws_43)) (Cs_nd (Cs_lf (sg_ifeq dX12_isAlike_279 (by decide))) (Cs_lf (sg_aload_n dX12_isAlike_282 rfl))))) (Cs_nd (Cs_nd (Cs_lf (sg_aload_n dX12_isAlike_283 rfl)) (Cs_nd (Cs_lf (sg_aload dX12_isAlike_284)) (Cs_lf (sg_getf dX12_isAlike_286 rfl inX11 (by decide) w_1036)))) (Cs_nd (Cs_lf (sg_iconst dX12_isAlike_289 (by decide))) (Cs_nd (Cs_lf (sg_iadd dX12_isAlike_290)) (Cs_lf (sg_aload_n dX12_isAlike_291 rfl)))))) (Cs_nd (Cs_nd (Cs_nd (Cs_lf (sg_aload dX12_isAlike_292)) (Cs_nd (Cs_lf (sg_getf dX12_isAlike_294 rfl inX11 (by decide) w_1036)) (Cs_lf (sg_iconst dX12_isAlike_297 (by decide))))) (Cs_nd (Cs_lf (sg_iadd dX12_isAlike_298)) (Cs_nd (Cs_lf (sg_invV (mid := 164) (ci := 11) (by decide +kernel) dX12_isAlike_299 ok_164 rfl w_1310 w_1312 ws_43)) (Cs_lf (sg_ifeq dX12_isAlike_302 (by decide)))))) (Cs_nd (Cs_nd (Cs_lf (sg_aload_n dX12_isAlike_305 rfl)) (Cs_nd (Cs_lf (sg_aload_n dX12_isAlike_306 rfl)) (Cs_lf (sg_aload dX12_isAlike_307)))) (Cs_nd (Cs_nd (Cs_lf (sg_getf dX12_isAlike_309 rfl inX11 (by decide) w_1037)) (Cs_lf (sg_aload_n dX12_isAlike_312 rfl))) (Cs_nd (Cs_lf (sg_aload dX12_isAlike_313)) (Cs_lf (sg_getf dX12_isAlike_315 rfl inX11 (by decide) w_1037))))))) (Cs_nd (Cs_nd (Cs_nd (Cs_nd (Cs_lf (sg_invV (mid := 165) (ci := 11) (by decide +kernel) dX12_isAlike_318 ok_165 rfl w_1314 w_1316 ws_44)) (Cs_nd (Cs_lf (sg_ifeq dX12_isAlike_321 (by decide))) (Cs_lf (sg_iconst dX12_isAlike_324 (by decide))))) (Cs_nd (Cs_lf (sg_goto dX12_isAlike_325 (by decide))) (Cs_nd (Cs_lf (sg_iconst dX12_isAlike_328 (by decide))) (Cs_lf (sg_istore_n dX12_isAlike_329 rfl (by decide)))))) (Cs_nd (Cs_nd (Cs_lf (sg_iinc dX12_isAlike_330 (by decide) (by decide))) (Cs_nd (Cs_lf (sg_goto dX12_isAlike_333 (by decide))) (Cs_lf (sg_iinc dX12_isAlike_336 (by decide) (by decide))))) (Cs_nd (Cs_lf (sg_goto dX12_isAlike_339 (by decide))) (Cs_nd (Cs_lf (sg_iload_n dX12_isAlike_342 rfl)) (Cs_lf (sg_ifeq dX12_isAlike_343 (by decide))))))) (Cs_nd (Cs_nd (Cs_nd (Cs_lf (sg_aload_n dX12_isAlike_346 rfl)) (Cs_nd (Cs_lf (sg_aload_n dX12_isAlike_347 rfl)) (Cs_lf (sg_aload_n dX12_isAlike_348 rfl)))) (Cs_nd (Cs_lf (sg_getf dX12_isAlike_349 rfl inX9 (by decide) w_976)) (Cs_nd (Cs_lf (sg_aload_n dX12_isAlike_352 rfl)) (Cs_lf (sg_aload_n dX12_isAlike_353 rfl))))) (Cs_nd (Cs_nd (Cs_lf (sg_getf dX12_isAlike_354 rfl inX9 (by decide) w_976)) (Cs_nd (Cs_lf (sg_invV (mid := 165) (ci := 11) (by decide +kernel) dX12_isAlike_357 ok_165 rfl w_1314 w_1316 ws_44)) (Cs_lf (sg_ifeq dX12_isAlike_360 (by decide))))) (Cs_nd (Cs_nd (Cs_lf (sg_iconst dX12_isAlike_363 (by decide))) (Cs_lf (sg_goto dX12_isAlike_364 (by decide)))) (Cs_nd (Cs_lf (sg_iconst dX12_isAlike_367 (by decide))) (Cs_lf (sg_zret dX12_isAlike_368 rfl ⟨by decide, by decide⟩))))))))))
theorem dX12_alike_0 : decode cX12_alike 0 = .ok (.aload_n 0, 1) := by decide +kernel
theorem dX12_alike_1 : decode cX12_alike 1 = .ok (.iload_n 1, 1) := by decide +kernel
theorem dX12_alike_2 : decode cX12_alike 2 = .ok (.invokevirtual 180, 3) := by decide +kernel
theorem dX12_alike_5 : decode cX12_alike 5 = .ok (.ifCond .eq 11, 3) := by decide +kernel
theorem dX12_alike_8 : decode cX12_alike 8 = .ok (.aload_n 0, 1) := by decide +kernel
theorem dX12_alike_9 : decode cX12_alike 9 = .ok (.iload_n 2, 1) := by decide +kernel
theorem dX12_alike_10 : decode cX12_alike 10 = .ok (.invokevirtual 180, 3) := by decide +kernel
theorem dX12_alike_13 : decode cX12_alike 13 = .ok (.ifCond .ne 5, 3) := by decide +kernel
theorem dX12_alike_16 : decode cX12_alike 16 = .ok (.iconst (-1), 1) := by decide +kernel
theorem dX12_alike_17 : decode cX12_alike 17 = .ok (.ireturn, 1) := by decide +kernel
theorem dX12_alike_18 : decode cX12_alike 18 = .ok (.aload_n 0, 1) := by decide +kernel
theorem dX12_alike_19 : decode cX12_alike 19 = .ok (.getfield 11, 3) := by decide +kernel
theorem dX12_alike_22 : decode cX12_alike 22 = .ok (.iload_n 1, 1) := by decide +kernel
theorem dX12_alike_23 : decode cX12_alike 23 = .ok (.aaload, 1) := by decide +kernel
theorem dX12_alike_24 : decode cX12_alike 24 = .ok (.astore_n 3, 1) := by decide +kernel
theorem dX12_alike_25 : decode cX12_alike 25 = .ok (.aload_n 0, 1) := by decide +kernel
theorem dX12_alike_26 : decode cX12_alike 26 = .ok (.getfield 11, 3) := by decide +kernel
theorem dX12_alike_29 : decode cX12_alike 29 = .ok (.iload_n 2, 1) := by decide +kernel
theorem dX12_alike_30 : decode cX12_alike 30 = .ok (.aaload, 1) := by decide +kernel
theorem dX12_alike_31 : decode cX12_alike 31 = .ok (.astore 4, 2) := by decide +kernel
theorem dX12_alike_33 : decode cX12_alike 33 = .ok (.aload_n 3, 1) := by decide +kernel
theorem dX12_alike_34 : decode cX12_alike 34 = .ok (.getfield 59, 3) := by decide +kernel
theorem dX12_alike_37 : decode cX12_alike 37 = .ok (.aload 4, 2) := by decide +kernel
theorem dX12_alike_39 : decode cX12_alike 39 = .ok (.getfield 59, 3) := by decide +kernel
theorem dX12_alike_42 : decode cX12_alike 42 = .ok (.invokestatic 220, 3) := by decide +kernel
theorem dX12_alike_45 : decode cX12_alike 45 = .ok (.ifCond .ne 7, 3) := by decide +kernel
theorem dX12_alike_48 : decode cX12_alike 48 = .ok (.iconst 2, 1) := by decide +kernel
theorem dX12_alike_49 : decode cX12_alike 49 = .ok (.goto 18, 3) := by decide +kernel
theorem dX12_alike_52 : decode cX12_alike 52 = .ok (.aload_n 0, 1) := by decide +kernel
theorem dX12_alike_53 : decode cX12_alike 53 = .ok (.aload_n 3, 1) := by decide +kernel
theorem dX12_alike_54 : decode cX12_alike 54 = .ok (.aload 4, 2) := by decide +kernel
theorem dX12_alike_56 : decode cX12_alike 56 = .ok (.invokevirtual 262, 3) := by decide +kernel
theorem dX12_alike_59 : decode cX12_alike 59 = .ok (.ifCond .eq 7, 3) := by decide +kernel
theorem dX12_alike_62 : decode cX12_alike 62 = .ok (.iconst 1, 1) := by decide +kernel
theorem dX12_alike_63 : decode cX12_alike 63 = .ok (.goto 4, 3) := by decide +kernel
theorem dX12_alike_66 : decode cX12_alike 66 = .ok (.iconst 0, 1) := by decide +kernel
theorem dX12_alike_67 : decode cX12_alike 67 = .ok (.ireturn, 1) := by decide +kernel
set_option maxRecDepth 20000 in
theorem s_MO_alike (E : XE) : Cs E (yX12_alike, cX12_alike, 5, some .int) (k_MO_alike) := (Cs_nd (Cs_nd (Cs_nd (Cs_nd (Cs_nd (Cs_lf (sg_aload_n dX12_alike_0 rfl)) (Cs_lf (sg_iload_n dX12_alike_1 rfl))) (Cs_nd (Cs_lf (sg_invV (mid := 124) (ci := 11) (by decide +kernel) dX12_alike_2 ok_124 rfl w_1184 w_1186 ws_37)) (Cs_lf (sg_ifeq dX12_alike_5 (by decide))))) (Cs_nd (Cs_nd (Cs_lf (sg_aload_n dX12_alike_8 rfl)) (Cs_lf (sg_iload_n dX12_alike_9 rfl))) (Cs_nd (Cs_lf (sg_invV (mid := 124) (ci := 11) (by decide +kernel) dX12_alike_10 ok_124 rfl w_1184 w_1186 ws_37)) (Cs_nd (Cs_lf (sg_ifne dX12_alike_13 (by decide))) (Cs_lf (sg_iconst dX12_alike_16 (by decide))))))) (Cs_nd (Cs_nd (Cs_nd (Cs_lf (sg_iret dX12_alike_17 rfl)) (Cs_lf (sg_aload_n dX12_alike_18 rfl))) (Cs_nd (Cs_lf (sg_getf dX12_alike_19 rfl inX12 (by decide) w_884)) (Cs_lf (sg_iload_n dX12_alike_22 rfl)))) (Cs_nd (Cs_nd (Cs_lf (sg_aald dX12_alike_23)) (Cs_lf (sg_astore_n dX12_alike_24 rfl (by decide)))) (Cs_nd (Cs_lf (sg_aload_n dX12_alike_25 rfl)) (Cs_nd (Cs_lf (sg_getf dX12_alike_26 rfl inX12 (by decide) w_884)) (Cs_lf (sg_iload_n dX12_alike_29 rfl))))))) (Cs_nd (Cs_nd (Cs_nd (Cs_nd (Cs_lf (sg_aald dX12_alike_30)) (Cs_lf (sg_astore dX12_alike_31 (by decide)))) (Cs_nd (Cs_lf (sg_aload_n dX12_alike_33 rfl)) (Cs_lf (sg_getf dX12_alike_34 rfl inX9 (by decide) w_962)))) (Cs_nd (Cs_nd (Cs_lf (sg_aload dX12_alike_37)) (Cs_lf (sg_getf dX12_alike_39 rfl inX9 (by decide) w_962))) (Cs_nd (Cs_lf (sg_inv (mid := 155) (by decide +kernel) dX12_alike_42 ok_155 w_1285 w_1286)) (Cs_nd (Cs_lf (sg_ifne dX12_alike_45 (by decide))) (Cs_lf (sg_iconst dX12_alike_48 (by decide))))))) (Cs_nd (Cs_nd (Cs_nd (Cs_lf (sg_goto dX12_alike_49 (by decide))) (Cs_lf (sg_aload_n dX12_alike_52 rfl))) (Cs_nd (Cs_lf (sg_aload_n dX12_alike_53 rfl)) (Cs_nd (Cs_lf (sg_aload dX12_alike_54)) (Cs_lf (sg_invV (mid := 166) (ci := 11) (by decide +kernel) dX12_alike_56 ok_166 rfl w_1306 w_1308 ws_42))))) (Cs_nd (Cs_nd (Cs_lf (sg_ifeq dX12_alike_59 (by decide))) (Cs_lf (sg_iconst dX12_alike_62 (by decide)))) (Cs_nd (Cs_lf (sg_goto dX12_alike_63 (by decide))) (Cs_nd (Cs_lf (sg_iconst dX12_alike_66 (by decide))) (Cs_lf (sg_iret dX12_alike_67 rfl))))))))
theorem dX12_add_0 : decode cX12_add 0 = .ok (.aload_n 0, 1) := by decide +kernel
theorem dX12_add_1 : decode cX12_add 1 = .ok (.getfield 32, 3) := by decide +kernel
theorem dX12_add_4 : decode cX12_add 4 = .ok (.aload_n 0, 1) := by decide +kernel
theorem dX12_add_5 : decode cX12_add 5 = .ok (.getfield 266, 3) := by decide +kernel
theorem dX12_add_8 : decode cX12_add 8 = .ok (.iload_n 1, 1) := by decide +kernel
theorem dX12_add_9 : decode cX12_add 9 = .ok (.i2b, 1) := by decide +kernel
theorem dX12_add_10 : decode cX12_add 10 = .ok (.bastore, 1) := by decide +kernel
theorem dX12_add_11 : decode cX12_add 11 = .ok (.aload_n 0, 1) := by decide +kernel
theorem dX12_add_12 : decode cX12_add 12 = .ok (.dup, 1) := by decide +kernel
theorem dX12_add_13 : decode cX12_add 13 = .ok (.getfield 266, 3) := by decide +kernel
theorem dX12_add_16 : decode cX12_add 16 = .ok (.iconst 1, 1) := by decide +kernel
theorem dX12_add_17 : decode cX12_add 17 = .ok (.iadd, 1) := by decide +kernel
theorem dX12_add_18 : decode cX12_add 18 = .ok (.putfield 266, 3) := by decide +kernel
theorem dX12_add_21 : decode cX12_add 21 = .ok (.return_, 1) := by decide +kernel
set_option maxRecDepth 20000 in
theorem s_MO_add (E : XE) : Cs E (yX12_add, cX12_add, 2, none) (k_MO_add) := (Cs_nd (Cs_nd (Cs_nd (Cs_lf (sg_aload_n dX12_add_0 rfl)) (Cs_nd (Cs_lf (sg_getf dX12_add_1 rfl inX12 (by decide) w_895)) (Cs_lf (sg_aload_n dX12_add_4 rfl)))) (Cs_nd (Cs_nd (Cs_lf (sg_getf dX12_add_5 rfl inX12 (by decide) w_896)) (Cs_lf (sg_iload_n dX12_add_8 rfl))) (Cs_nd (Cs_lf (sg_i2b dX12_add_9)) (Cs_lf (sg_bast dX12_add_10))))) (Cs_nd (Cs_nd (Cs_lf (sg_aload_n dX12_add_11 rfl)) (Cs_nd (Cs_lf (sg_dup dX12_add_12)) (Cs_lf (sg_getf dX12_add_13 rfl inX12 (by decide) w_896)))) (Cs_nd (Cs_nd (Cs_lf (sg_iconst dX12_add_16 (by decide))) (Cs_lf (sg_iadd dX12_add_17))) (Cs_nd (Cs_lf (sg_putf dX12_add_18 rfl inX12 tyX12_ok nmX12 (by decide) w_896 rfl (tyX12_ok 13 (by decide)) ok_int)) (Cs_lf (sg_vret dX12_add_21 rfl))))))
theorem dX12_addTwo_0 : decode cX12_addTwo 0 = .ok (.aload_n 0, 1) := by decide +kernel
theorem dX12_addTwo_1 : decode cX12_addTwo 1 = .ok (.iload_n 1, 1) := by decide +kernel
theorem dX12_addTwo_2 : decode cX12_addTwo 2 = .ok (.bipush 8, 2) := by decide +kernel
theorem dX12_addTwo_4 : decode cX12_addTwo 4 = .ok (.ishr, 1) := by decide +kernel
theorem dX12_addTwo_5 : decode cX12_addTwo 5 = .ok (.invokevirtual 269, 3) := by decide +kernel
theorem dX12_addTwo_8 : decode cX12_addTwo 8 = .ok (.aload_n 0, 1) := by decide +kernel
theorem dX12_addTwo_9 : decode cX12_addTwo 9 = .ok (.iload_n 1, 1) := by decide +kernel
theorem dX12_addTwo_10 : decode cX12_addTwo 10 = .ok (.invokevirtual 269, 3) := by decide +kernel
theorem dX12_addTwo_13 : decode cX12_addTwo 13 = .ok (.return_, 1) := by decide +kernel
set_option maxRecDepth 20000 in
theorem s_MO_addTwo (E : XE) : Cs E (yX12_addTwo, cX12_addTwo, 2, none) (k_MO_addTwo) := (Cs_nd (Cs_nd (Cs_nd (Cs_lf (sg_aload_n dX12_addTwo_0 rfl)) (Cs_lf (sg_iload_n dX12_addTwo_1 rfl))) (Cs_nd (Cs_lf (sg_bipush dX12_addTwo_2 (by decide))) (Cs_lf (sg_ishr dX12_addTwo_4)))) (Cs_nd (Cs_nd (Cs_lf (sg_invV (mid := 168) (ci := 11) (by decide +kernel) dX12_addTwo_5 ok_168 rfl w_1334 w_1336 ws_48)) (Cs_lf (sg_aload_n dX12_addTwo_8 rfl))) (Cs_nd (Cs_lf (sg_iload_n dX12_addTwo_9 rfl)) (Cs_nd (Cs_lf (sg_invV (mid := 168) (ci := 11) (by decide +kernel) dX12_addTwo_10 ok_168 rfl w_1334 w_1336 ws_48)) (Cs_lf (sg_vret dX12_addTwo_13 rfl))))))
theorem dX12_addFour_0 : decode cX12_addFour 0 = .ok (.aload_n 0, 1) := by decide +kernel
theorem dX12_addFour_1 : decode cX12_addFour 1 = .ok (.iload_n 1, 1) := by decide +kernel
theorem dX12_addFour_2 : decode cX12_addFour 2 = .ok (.bipush 16, 2) := by decide +kernel
theorem dX12_addFour_4 : decode cX12_addFour 4 = .ok (.ishr, 1) := by decide +kernel
theorem dX12_addFour_5 : decode cX12_addFour 5 = .ok (.invokevirtual 273, 3) := by decide +kernel
theorem dX12_addFour_8 : decode cX12_addFour 8 = .ok (.aload_n 0, 1) := by decide +kernel
theorem dX12_addFour_9 : decode cX12_addFour 9 = .ok (.iload_n 1, 1) := by decide +kernel
theorem dX12_addFour_10 : decode cX12_addFour 10 = .ok (.invokevirtual 273, 3) := by decide +kernel
theorem dX12_addFour_13 : decode cX12_addFour 13 = .ok (.return_, 1) := by decide +kernel
set_option maxRecDepth 20000 in
theorem s_MO_addFour (E : XE) : Cs E (yX12_addFour, cX12_addFour, 2, none) (k_MO_addFour) := (Cs_nd (Cs_nd (Cs_nd (Cs_lf (sg_aload_n dX12_addFour_0 rfl)) (Cs_lf (sg_iload_n dX12_addFour_1 rfl))) (Cs_nd (Cs_lf (sg_bipush dX12_addFour_2 (by decide))) (Cs_lf (sg_ishr dX12_addFour_4)))) (Cs_nd (Cs_nd (Cs_lf (sg_invV (mid := 169) (ci := 11) (by decide +kernel) dX12_addFour_5 ok_169 rfl w_1338 w_1340 ws_49)) (Cs_lf (sg_aload_n dX12_addFour_8 rfl))) (Cs_nd (Cs_lf (sg_iload_n dX12_addFour_9 rfl)) (Cs_nd (Cs_lf (sg_invV (mid := 169) (ci := 11) (by decide +kernel) dX12_addFour_10 ok_169 rfl w_1338 w_1340 ws_49)) (Cs_lf (sg_vret dX12_addFour_13 rfl))))))
theorem dX12_addBytes_0 : decode cX12_addBytes 0 = .ok (.iconst 0, 1) := by decide +kernel
theorem dX12_addBytes_1 : decode cX12_addBytes 1 = .ok (.istore 4, 2) := by decide +kernel
theorem dX12_addBytes_3 : decode cX12_addBytes 3 = .ok (.iload 4, 2) := by decide +kernel
theorem dX12_addBytes_5 : decode cX12_addBytes 5 = .ok (.iload_n 3, 1) := by decide +kernel
theorem dX12_addBytes_6 : decode cX12_addBytes 6 = .ok (.if_icmp .ge 19, 3) := by decide +kernel
theorem dX12_addBytes_9 : decode cX12_addBytes 9 = .ok (.aload_n 0, 1) := by decide +kernel
theorem dX12_addBytes_10 : decode cX12_addBytes 10 = .ok (.aload_n 1, 1) := by decide +kernel
theorem dX12_addBytes_11 : decode cX12_addBytes 11 = .ok (.iload_n 2, 1) := by decide +kernel
theorem dX12_addBytes_12 : decode cX12_addBytes 12 = .ok (.iload 4, 2) := by decide +kernel
theorem dX12_addBytes_14 : decode cX12_addBytes 14 = .ok (.iadd, 1) := by decide +kernel
theorem dX12_addBytes_15 : decode cX12_addBytes 15 = .ok (.baload, 1) := by decide +kernel
theorem dX12_addBytes_16 : decode cX12_addBytes 16 = .ok (.invokevirtual 269, 3) := by decide +kernel
theorem dX12_addBytes_19 : decode cX12_addBytes 19 = .ok (.iinc 4 1, 3) := by decide +kernel
theorem dX12_addBytes_22 : decode cX12_addBytes 22 = .ok (.goto (-19), 3) := by decide +kernel
theorem dX12_addBytes_25 : decode cX12_addBytes 25 = .ok (.return_, 1) := by decide +kernel
set_option maxRecDepth 20000 in
theorem s_MO_addBytes (E : XE) : Cs E (yX12_addBytes, cX12_addBytes, 5, none) (k_MO_addBytes) := (Cs_nd (Cs_nd (Cs_nd (Cs_lf (sg_iconst dX12_addBytes_0 (by decide))) (Cs_nd (Cs_lf (sg_istore dX12_addBytes_1 (by decide))) (Cs_lf (sg_iload dX12_addBytes_3)))) (Cs_nd (Cs_nd (Cs_lf (sg_iload_n dX12_addBytes_5 rfl)) (Cs_lf (sg_cge dX12_addBytes_6 (by decide)))) (Cs_nd (Cs_lf (sg_aload_n dX12_addBytes_9 rfl)) (Cs_lf (sg_aload_n dX12_addBytes_10 rfl))))) (Cs_nd (Cs_nd (Cs_nd (Cs_lf (sg_iload_n dX12_addBytes_11 rfl)) (Cs_lf (sg_iload dX12_addBytes_12))) (Cs_nd (Cs_lf (sg_iadd dX12_addBytes_14)) (Cs_lf (sg_bald dX12_addBytes_15)))) (Cs_nd (Cs_nd (Cs_lf (sg_invV (mid := 168) (ci := 11) (by decide +kernel) dX12_addBytes_16 ok_168 rfl w_1334 w_1336 ws_48)) (Cs_lf (sg_iinc dX12_addBytes_19 (by decide) (by decide)))) (Cs_nd (Cs_lf (sg_goto dX12_addBytes_22 (by decide))) (Cs_lf (sg_vret dX12_addBytes_25 rfl))))))
theorem dX12_moved_0 : decode cX12_moved 0 = .ok (.iload_n 2, 1) := by decide +kernel
theorem dX12_moved_1 : decode cX12_moved 1 = .ok (.ifCond .ne 7, 3) := by decide +kernel
theorem dX12_moved_4 : decode cX12_moved 4 = .ok (.iconst 0, 1) := by decide +kernel
theorem dX12_moved_5 : decode cX12_moved 5 = .ok (.goto 25, 3) := by decide +kernel
theorem dX12_moved_8 : decode cX12_moved 8 = .ok (.aload_n 0, 1) := by decide +kernel
theorem dX12_moved_9 : decode cX12_moved 9 = .ok (.getfield 35, 3) := by decide +kernel
theorem dX12_moved_12 : decode cX12_moved 12 = .ok (.aload_n 0, 1) := by decide +kernel
theorem dX12_moved_13 : decode cX12_moved 13 = .ok (.getfield 276, 3) := by decide +kernel
theorem dX12_moved_16 : decode cX12_moved 16 = .ok (.aload_n 0, 1) := by decide +kernel
theorem dX12_moved_17 : decode cX12_moved 17 = .ok (.getfield 279, 3) := by decide +kernel
theorem dX12_moved_20 : decode cX12_moved 20 = .ok (.aload_n 0, 1) := by decide +kernel
theorem dX12_moved_21 : decode cX12_moved 21 = .ok (.aload_n 1, 1) := by decide +kernel
theorem dX12_moved_22 : decode cX12_moved 22 = .ok (.iload_n 2, 1) := by decide +kernel
theorem dX12_moved_23 : decode cX12_moved 23 = .ok (.invokevirtual 226, 3) := by decide +kernel
theorem dX12_moved_26 : decode cX12_moved 26 = .ok (.invokestatic 230, 3) := by decide +kernel
theorem dX12_moved_29 : decode cX12_moved 29 = .ok (.iaload, 1) := by decide +kernel
theorem dX12_moved_30 : decode cX12_moved 30 = .ok (.ireturn, 1) := by decide +kernel
set_option maxRecDepth 20000 in
theorem s_MO_moved (E : XE) : Cs E (yX12_moved, cX12_moved, 3, some .int) (k_MO_moved) := (Cs_nd (Cs_nd (Cs_nd (Cs_nd (Cs_lf (sg_iload_n dX12_moved_0 rfl)) (Cs_lf (sg_ifne dX12_moved_1 (by decide)))) (Cs_nd (Cs_lf (sg_iconst dX12_moved_4 (by decide))) (Cs_lf (sg_goto dX12_moved_5 (by decide))))) (Cs_nd (Cs_nd (Cs_lf (sg_aload_n dX12_moved_8 rfl)) (Cs_lf (sg_getf dX12_moved_9 rfl inX12 (by decide) w_899))) (Cs_nd (Cs_lf (sg_aload_n dX12_moved_12 rfl)) (Cs_lf (sg_getf dX12_moved_13 rfl inX12 (by decide) w_897))))) (Cs_nd (Cs_nd (Cs_nd (Cs_lf (sg_aload_n dX12_moved_16 rfl)) (Cs_lf (sg_getf dX12_moved_17 rfl inX12 (by decide) w_898))) (Cs_nd (Cs_lf (sg_aload_n dX12_moved_20 rfl)) (Cs_lf (sg_aload_n dX12_moved_21 rfl)))) (Cs_nd (Cs_nd (Cs_lf (sg_iload_n dX12_moved_22 rfl)) (Cs_lf (sg_invV (mid := 154) (ci := 11) (by decide +kernel) dX12_moved_23 ok_154 rfl w_1249 w_1251 ws_40))) (Cs_nd (Cs_lf (sg_inv (mid := 157) (by decide +kernel) dX12_moved_26 ok_157 w_1279 w_1280)) (Cs_nd (Cs_lf (sg_iald dX12_moved_29)) (Cs_lf (sg_iret dX12_moved_30 rfl)))))))
theorem dX12_placeOf_0 : decode cX12_placeOf 0 = .ok (.new 26, 3) := by decide +kernel
theorem dX12_placeOf_3 : decode cX12_placeOf 3 = .ok (.dup, 1) := by decide +kernel
theorem dX12_placeOf_4 : decode cX12_placeOf 4 = .ok (.invokespecial 200, 3) := by decide +kernel
theorem dX12_placeOf_7 : decode cX12_placeOf 7 = .ok (.astore 4, 2) := by decide +kernel
theorem dX12_placeOf_9 : decode cX12_placeOf 9 = .ok (.aload 4, 2) := by decide +kernel
theorem dX12_placeOf_11 : decode cX12_placeOf 11 = .ok (.iload_n 1, 1) := by decide +kernel
theorem dX12_placeOf_12 : decode cX12_placeOf 12 = .ok (.putfield 201, 3) := by decide +kernel
theorem dX12_placeOf_15 : decode cX12_placeOf 15 = .ok (.aload 4, 2) := by decide +kernel
theorem dX12_placeOf_17 : decode cX12_placeOf 17 = .ok (.aload_n 2, 1) := by decide +kernel
theorem dX12_placeOf_18 : decode cX12_placeOf 18 = .ok (.putfield 204, 3) := by decide +kernel
theorem dX12_placeOf_21 : decode cX12_placeOf 21 = .ok (.aload 4, 2) := by decide +kernel
theorem dX12_placeOf_23 : decode cX12_placeOf 23 = .ok (.aload_n 3, 1) := by decide +kernel
theorem dX12_placeOf_24 : decode cX12_placeOf 24 = .ok (.putfield 210, 3) := by decide +kernel
theorem dX12_placeOf_27 : decode cX12_placeOf 27 = .ok (.aload_n 0, 1) := by decide +kernel
theorem dX12_placeOf_28 : decode cX12_placeOf 28 = .ok (.getfield 35, 3) := by decide +kernel
theorem dX12_placeOf_31 : decode cX12_placeOf 31 = .ok (.aload_n 0, 1) := by decide +kernel
theorem dX12_placeOf_32 : decode cX12_placeOf 32 = .ok (.getfield 276, 3) := by decide +kernel
theorem dX12_placeOf_35 : decode cX12_placeOf 35 = .ok (.aload_n 0, 1) := by decide +kernel
theorem dX12_placeOf_36 : decode cX12_placeOf 36 = .ok (.getfield 279, 3) := by decide +kernel
theorem dX12_placeOf_39 : decode cX12_placeOf 39 = .ok (.aload 4, 2) := by decide +kernel
theorem dX12_placeOf_41 : decode cX12_placeOf 41 = .ok (.invokestatic 230, 3) := by decide +kernel
theorem dX12_placeOf_44 : decode cX12_placeOf 44 = .ok (.iaload, 1) := by decide +kernel
theorem dX12_placeOf_45 : decode cX12_placeOf 45 = .ok (.ireturn, 1) := by decide +kernel
set_option maxRecDepth 20000 in
theorem s_MO_placeOf (E : XE) : Cs E (yX12_placeOf, cX12_placeOf, 5, some .int) (k_MO_placeOf) := (Cs_nd (Cs_nd (Cs_nd (Cs_nd (Cs_lf (sg_new dX12_placeOf_0 rfl inX10 tyX10_ok (by decide) w_881 w_1253 w_31)) (Cs_lf (sg_dup dX12_placeOf_3))) (Cs_nd (Cs_lf (sg_invIN (mid := 119) (by decide +kernel) dX12_placeOf_4 ok_119 rfl rfl (host := RX12) (by decide +kernel) w_1255)) (Cs_nd (Cs_lf (sg_astore dX12_placeOf_7 (by decide))) (Cs_lf (sg_aload dX12_placeOf_9))))) (Cs_nd (Cs_nd (Cs_lf (sg_iload_n dX12_placeOf_11 rfl)) (Cs_nd (Cs_lf (sg_putf dX12_placeOf_12 rfl inX10 tyX10_ok nmX10 (by decide) w_1260 rfl (tyX10_ok 0 (by decide)) ok_int)) (Cs_lf (sg_aload dX12_placeOf_15)))) (Cs_nd (Cs_lf (sg_aload_n dX12_placeOf_17 rfl)) (Cs_nd (Cs_lf (sg_putf dX12_placeOf_18 rfl inX10 tyX10_ok nmX10 (by decide) w_1263 rfl (tyX10_ok 2 (by decide)) (ok_arr _))) (Cs_lf (sg_aload dX12_placeOf_21)))))) (Cs_nd (Cs_nd (Cs_nd (Cs_lf (sg_aload_n dX12_placeOf_23 rfl)) (Cs_nd (Cs_lf (sg_putf dX12_placeOf_24 rfl inX10 tyX10_ok nmX10 (by decide) w_1265 rfl (tyX10_ok 3 (by decide)) (ok_arr _))) (Cs_lf (sg_aload_n dX12_placeOf_27 rfl)))) (Cs_nd (Cs_lf (sg_getf dX12_placeOf_28 rfl inX12 (by decide) w_899)) (Cs_nd (Cs_lf (sg_aload_n dX12_placeOf_31 rfl)) (Cs_lf (sg_getf dX12_placeOf_32 rfl inX12 (by decide) w_897))))) (Cs_nd (Cs_nd (Cs_lf (sg_aload_n dX12_placeOf_35 rfl)) (Cs_nd (Cs_lf (sg_getf dX12_placeOf_36 rfl inX12 (by decide) w_898)) (Cs_lf (sg_aload dX12_placeOf_39)))) (Cs_nd (Cs_lf (sg_inv (mid := 157) (by decide +kernel) dX12_placeOf_41 ok_157 w_1279 w_1280)) (Cs_nd (Cs_lf (sg_iald dX12_placeOf_44)) (Cs_lf (sg_iret dX12_placeOf_45 rfl)))))))
theorem dX12_addEntry_0 : decode cX12_addEntry 0 = .ok (.getstatic 282, 3) := by decide +kernel
theorem dX12_addEntry_3 : decode cX12_addEntry 3 = .ok (.astore_n 2, 1) := by decide +kernel
theorem dX12_addEntry_4 : decode cX12_addEntry 4 = .ok (.aload_n 0, 1) := by decide +kernel
theorem dX12_addEntry_5 : decode cX12_addEntry 5 = .ok (.aload_n 1, 1) := by decide +kernel
theorem dX12_addEntry_6 : decode cX12_addEntry 6 = .ok (.getfield 201, 3) := by decide +kernel
theorem dX12_addEntry_9 : decode cX12_addEntry 9 = .ok (.invokevirtual 269, 3) := by decide +kernel
theorem dX12_addEntry_12 : decode cX12_addEntry 12 = .ok (.aload_n 1, 1) := by decide +kernel
theorem dX12_addEntry_13 : decode cX12_addEntry 13 = .ok (.getfield 201, 3) := by decide +kernel
theorem dX12_addEntry_16 : decode cX12_addEntry 16 = .ok (.tableswitch 174 1 12 #[64, 174, 90, 90, 102, 102, 126, 126, 174, 174, 174, 143], 64) := by decide +kernel
theorem dX12_addEntry_80 : decode cX12_addEntry 80 = .ok (.aload_n 0, 1) := by decide +kernel
theorem dX12_addEntry_81 : decode cX12_addEntry 81 = .ok (.aload_n 1, 1) := by decide +kernel
theorem dX12_addEntry_82 : decode cX12_addEntry 82 = .ok (.getfield 204, 3) := by decide +kernel
theorem dX12_addEntry_85 : decode cX12_addEntry 85 = .ok (.arraylength, 1) := by decide +kernel
theorem dX12_addEntry_86 : decode cX12_addEntry 86 = .ok (.invokevirtual 273, 3) := by decide +kernel
theorem dX12_addEntry_89 : decode cX12_addEntry 89 = .ok (.aload_n 0, 1) := by decide +kernel
theorem dX12_addEntry_90 : decode cX12_addEntry 90 = .ok (.aload_n 1, 1) := by decide +kernel
theorem dX12_addEntry_91 : decode cX12_addEntry 91 = .ok (.getfield 204, 3) := by decide +kernel
theorem dX12_addEntry_94 : decode cX12_addEntry 94 = .ok (.iconst 0, 1) := by decide +kernel
theorem dX12_addEntry_95 : decode cX12_addEntry 95 = .ok (.aload_n 1, 1) := by decide +kernel
theorem dX12_addEntry_96 : decode cX12_addEntry 96 = .ok (.getfield 204, 3) := by decide +kernel
theorem dX12_addEntry_99 : decode cX12_addEntry 99 = .ok (.arraylength, 1) := by decide +kernel
theorem dX12_addEntry_100 : decode cX12_addEntry 100 = .ok (.invokevirtual 285, 3) := by decide +kernel
theorem dX12_addEntry_103 : decode cX12_addEntry 103 = .ok (.goto 120, 3) := by decide +kernel
theorem dX12_addEntry_106 : decode cX12_addEntry 106 = .ok (.aload_n 0, 1) := by decide +kernel
theorem dX12_addEntry_107 : decode cX12_addEntry 107 = .ok (.aload_n 1, 1) := by decide +kernel
theorem dX12_addEntry_108 : decode cX12_addEntry 108 = .ok (.getfield 207, 3) := by decide +kernel
theorem dX12_addEntry_111 : decode cX12_addEntry 111 = .ok (.l2i, 1) := by decide +kernel
theorem dX12_addEntry_112 : decode cX12_addEntry 112 = .ok (.invokevirtual 289, 3) := by decide +kernel
theorem dX12_addEntry_115 : decode cX12_addEntry 115 = .ok (.goto 108, 3) := by decide +kernel
theorem dX12_addEntry_118 : decode cX12_addEntry 118 = .ok (.aload_n 0, 1) := by decide +kernel
theorem dX12_addEntry_119 : decode cX12_addEntry 119 = .ok (.aload_n 1, 1) := by decide +kernel
theorem dX12_addEntry_120 : decode cX12_addEntry 120 = .ok (.getfield 207, 3) := by decide +kernel
theorem dX12_addEntry_123 : decode cX12_addEntry 123 = .ok (.bipush 32, 2) := by decide +kernel
theorem dX12_addEntry_125 : decode cX12_addEntry 125 = .ok (.lshr, 1) := by decide +kernel
theorem dX12_addEntry_126 : decode cX12_addEntry 126 = .ok (.l2i, 1) := by decide +kernel
theorem dX12_addEntry_127 : decode cX12_addEntry 127 = .ok (.invokevirtual 289, 3) := by decide +kernel
theorem dX12_addEntry_130 : decode cX12_addEntry 130 = .ok (.aload_n 0, 1) := by decide +kernel
theorem dX12_addEntry_131 : decode cX12_addEntry 131 = .ok (.aload_n 1, 1) := by decide +kernel
theorem dX12_addEntry_132 : decode cX12_addEntry 132 = .ok (.getfield 207, 3) := by decide +kernel
theorem dX12_addEntry_135 : decode cX12_addEntry 135 = .ok (.l2i, 1) := by decide +kernel
theorem dX12_addEntry_136 : decode cX12_addEntry 136 = .ok (.invokevirtual 289, 3) := by decide +kernel
theorem dX12_addEntry_139 : decode cX12_addEntry 139 = .ok (.goto 84, 3) := by decide +kernel
theorem dX12_addEntry_142 : decode cX12_addEntry 142 = .ok (.aload_n 0, 1) := by decide +kernel
theorem dX12_addEntry_143 : decode cX12_addEntry 143 = .ok (.aload_n 0, 1) := by decide +kernel
theorem dX12_addEntry_144 : decode cX12_addEntry 144 = .ok (.iconst 1, 1) := by decide +kernel
theorem dX12_addEntry_145 : decode cX12_addEntry 145 = .ok (.aload_n 1, 1) := by decide +kernel
theorem dX12_addEntry_146 : decode cX12_addEntry 146 = .ok (.getfield 204, 3) := by decide +kernel
theorem dX12_addEntry_149 : decode cX12_addEntry 149 = .ok (.aload_n 2, 1) := by decide +kernel
theorem dX12_addEntry_150 : decode cX12_addEntry 150 = .ok (.invokevirtual 292, 3) := by decide +kernel
theorem dX12_addEntry_153 : decode cX12_addEntry 153 = .ok (.invokevirtual 273, 3) := by decide +kernel
theorem dX12_addEntry_156 : decode cX12_addEntry 156 = .ok (.goto 67, 3) := by decide +kernel
theorem dX12_addEntry_159 : decode cX12_addEntry 159 = .ok (.aload_n 0, 1) := by decide +kernel
theorem dX12_addEntry_160 : decode cX12_addEntry 160 = .ok (.aload_n 0, 1) := by decide +kernel
theorem dX12_addEntry_161 : decode cX12_addEntry 161 = .ok (.iconst 1, 1) := by decide +kernel
theorem dX12_addEntry_162 : decode cX12_addEntry 162 = .ok (.aload_n 1, 1) := by decide +kernel
theorem dX12_addEntry_163 : decode cX12_addEntry 163 = .ok (.getfield 204, 3) := by decide +kernel
theorem dX12_addEntry_166 : decode cX12_addEntry 166 = .ok (.aload_n 2, 1) := by decide +kernel
theorem dX12_addEntry_167 : decode cX12_addEntry 167 = .ok (.invokevirtual 292, 3) := by decide +kernel
theorem dX12_addEntry_170 : decode cX12_addEntry 170 = .ok (.invokevirtual 273, 3) := by decide +kernel
theorem dX12_addEntry_173 : decode cX12_addEntry 173 = .ok (.aload_n 0, 1) := by decide +kernel
theorem dX12_addEntry_174 : decode cX12_addEntry 174 = .ok (.aload_n 0, 1) := by decide +kernel
theorem dX12_addEntry_175 : decode cX12_addEntry 175 = .ok (.iconst 1, 1) := by decide +kernel
theorem dX12_addEntry_176 : decode cX12_addEntry 176 = .ok (.aload_n 1, 1) := by decide +kernel
theorem dX12_addEntry_177 : decode cX12_addEntry 177 = .ok (.getfield 210, 3) := by decide +kernel
theorem dX12_addEntry_180 : decode cX12_addEntry 180 = .ok (.aload_n 2, 1) := by decide +kernel
theorem dX12_addEntry_181 : decode cX12_addEntry 181 = .ok (.invokevirtual 292, 3) := by decide +kernel
theorem dX12_addEntry_184 : decode cX12_addEntry 184 = .ok (.invokevirtual 273, 3) := by decide +kernel
theorem dX12_addEntry_187 : decode cX12_addEntry 187 = .ok (.goto 36, 3) := by decide +kernel
theorem dX12_addEntry_190 : decode cX12_addEntry 190 = .ok (.aload_n 0, 1) := by decide +kernel
theorem dX12_addEntry_191 : decode cX12_addEntry 191 = .ok (.aload_n 0, 1) := by decide +kernel
theorem dX12_addEntry_192 : decode cX12_addEntry 192 = .ok (.bipush 7, 2) := by decide +kernel
theorem dX12_addEntry_194 : decode cX12_addEntry 194 = .ok (.aload_n 1, 1) := by decide +kernel
theorem dX12_addEntry_195 : decode cX12_addEntry 195 = .ok (.getfield 204, 3) := by decide +kernel
theorem dX12_addEntry_198 : decode cX12_addEntry 198 = .ok (.aload_n 2, 1) := by decide +kernel
theorem dX12_addEntry_199 : decode cX12_addEntry 199 = .ok (.invokevirtual 292, 3) := by decide +kernel
theorem dX12_addEntry_202 : decode cX12_addEntry 202 = .ok (.invokevirtual 273, 3) := by decide +kernel
theorem dX12_addEntry_205 : decode cX12_addEntry 205 = .ok (.aload_n 0, 1) := by decide +kernel
theorem dX12_addEntry_206 : decode cX12_addEntry 206 = .ok (.aload_n 0, 1) := by decide +kernel
theorem dX12_addEntry_207 : decode cX12_addEntry 207 = .ok (.bipush 12, 2) := by decide +kernel
theorem dX12_addEntry_209 : decode cX12_addEntry 209 = .ok (.aload_n 1, 1) := by decide +kernel
theorem dX12_addEntry_210 : decode cX12_addEntry 210 = .ok (.getfield 210, 3) := by decide +kernel
theorem dX12_addEntry_213 : decode cX12_addEntry 213 = .ok (.aload_n 1, 1) := by decide +kernel
theorem dX12_addEntry_214 : decode cX12_addEntry 214 = .ok (.getfield 211, 3) := by decide +kernel
theorem dX12_addEntry_217 : decode cX12_addEntry 217 = .ok (.invokevirtual 292, 3) := by decide +kernel
theorem dX12_addEntry_220 : decode cX12_addEntry 220 = .ok (.invokevirtual 273, 3) := by decide +kernel
theorem dX12_addEntry_223 : decode cX12_addEntry 223 = .ok (.return_, 1) := by decide +kernel
set_option maxRecDepth 20000 in
theorem s_MO_addEntry (E : XE) : Cs E (yX12_addEntry, cX12_addEntry, 3, none) (k_MO_addEntry E.2.1 E.2.2.1) := (Cs_nd (Cs_nd (Cs_nd (Cs_nd (Cs_nd (Cs_nd (Cs_lf (sg_getsB dX12_addEntry_0 w_1346)) (Cs_lf (sg_astore_n dX12_addEntry_3 rfl (by decide)))) (Cs_nd (Cs_lf (sg_aload_n dX12_addEntry_4 rfl)) (Cs_nd (Cs_lf (sg_aload_n dX12_addEntry_5 rfl)) (Cs_lf (sg_getf dX12_addEntry_6 rfl inX10 (by decide) w_1260))))) (Cs_nd (Cs_nd (Cs_lf (sg_invV (mid := 168) (ci := 11) (by decide +kernel) dX12_addEntry_9 ok_168 rfl w_1334 w_1336 ws_48)) (Cs_lf (sg_aload_n dX12_addEntry_12 rfl))) (Cs_nd (Cs_lf (sg_getf dX12_addEntry_13 rfl inX10 (by decide) w_1260)) (Cs_nd (Cs_lf (sg_table dX12_addEntry_16 rfl (by decide) (by decide +kernel) (by decide))) (Cs_lf (sg_aload_n dX12_addEntry_80 rfl)))))) (Cs_nd (Cs_nd (Cs_nd (Cs_lf (sg_aload_n dX12_addEntry_81 rfl)) (Cs_lf (sg_getf dX12_addEntry_82 rfl inX10 (by decide) w_1263))) (Cs_nd (Cs_lf (sg_alen dX12_addEntry_85)) (Cs_nd (Cs_lf (sg_invV (mid := 169) (ci := 11) (by decide +kernel) dX12_addEntry_86 ok_169 rfl w_1338 w_1340 ws_49)) (Cs_lf (sg_aload_n dX12_addEntry_89 rfl))))) (Cs_nd (Cs_nd (Cs_lf (sg_aload_n dX12_addEntry_90 rfl)) (Cs_nd (Cs_lf (sg_getf dX12_addEntry_91 rfl inX10 (by decide) w_1263)) (Cs_lf (sg_iconst dX12_addEntry_94 (by decide))))) (Cs_nd (Cs_lf (sg_aload_n dX12_addEntry_95 rfl)) (Cs_nd (Cs_lf (sg_getf dX12_addEntry_96 rfl inX10 (by decide) w_1263)) (Cs_lf (sg_alen dX12_addEntry_99))))))) (Cs_nd (Cs_nd (Cs_nd (Cs_nd (Cs_lf (sg_invV (mid := 171) (ci := 11) (by decide +kernel) dX12_addEntry_100 ok_171 rfl w_1330 w_1332 ws_47)) (Cs_lf (sg_goto dX12_addEntry_103 (by decide)))) (Cs_nd (Cs_lf (sg_aload_n dX12_addEntry_106 rfl)) (Cs_nd (Cs_lf (sg_aload_n dX12_addEntry_107 rfl)) (Cs_lf (sg_getf dX12_addEntry_108 rfl inX10 (by decide) w_1261))))) (Cs_nd (Cs_nd (Cs_lf (sg_l2i dX12_addEntry_111)) (Cs_nd (Cs_lf (sg_invV (mid := 170) (ci := 11) (by decide +kernel) dX12_addEntry_112 ok_170 rfl w_1347 w_1349 ws_51)) (Cs_lf (sg_goto dX12_addEntry_115 (by decide))))) (Cs_nd (Cs_lf (sg_aload_n dX12_addEntry_118 rfl)) (Cs_nd (Cs_lf (sg_aload_n dX12_addEntry_119 rfl)) (Cs_lf (sg_getf dX12_addEntry_120 rfl inX10 (by decide) w_1261)))))) (Cs_nd (Cs_nd (Cs_nd (Cs_lf (sg_bipush dX12_addEntry_123 (by decide))) (Cs_lf (sg_lshr dX12_addEntry_125))) (Cs_nd (Cs_lf (sg_l2i dX12_addEntry_126)) (Cs_nd (Cs_lf (sg_invV (mid := 170) (ci := 11) (by decide +kernel) dX12_addEntry_127 ok_170 rfl w_1347 w_1349 ws_51)) (Cs_lf (sg_aload_n dX12_addEntry_130 rfl))))) (Cs_nd (Cs_nd (Cs_lf (sg_aload_n dX12_addEntry_131 rfl)) (Cs_nd (Cs_lf (sg_getf dX12_addEntry_132 rfl inX10 (by decide) w_1261)) (Cs_lf (sg_l2i dX12_addEntry_135)))) (Cs_nd (Cs_lf (sg_invV (mid := 170) (ci := 11) (by decide +kernel) dX12_addEntry_136 ok_170 rfl w_1347 w_1349 ws_51)) (Cs_nd (Cs_lf (sg_goto dX12_addEntry_139 (by decide))) (Cs_lf (sg_aload_n dX12_addEntry_142 rfl)))))))) (Cs_nd (Cs_nd (Cs_nd (Cs_nd (Cs_nd (Cs_lf (sg_aload_n dX12_addEntry_143 rfl)) (Cs_lf (sg_iconst dX12_addEntry_144 (by decide)))) (Cs_nd (Cs_lf (sg_aload_n dX12_addEntry_145 rfl)) (Cs_nd (Cs_lf (sg_getf dX12_addEntry_146 rfl inX10 (by decide) w_1263)) (Cs_lf (sg_aload_n dX12_addEntry_149 rfl))))) (Cs_nd (Cs_nd (Cs_lf (sg_invV (mid := 173) (ci := 11) (by decide +kernel) dX12_addEntry_150 ok_173 rfl w_1351 w_1353 ws_52)) (Cs_lf (sg_invV (mid := 169) (ci := 11) (by decide +kernel) dX12_addEntry_153 ok_169 rfl w_1338 w_1340 ws_49))) (Cs_nd (Cs_lf (sg_goto dX12_addEntry_156 (by decide))) (Cs_nd (Cs_lf (sg_aload_n dX12_addEntry_159 rfl)) (Cs_lf (sg_aload_n dX12_addEntry_160 rfl)))))) (Cs_nd (Cs_nd (Cs_nd (Cs_lf (sg_iconst dX12_addEntry_161 (by decide))) (Cs_lf (sg_aload_n dX12_addEntry_162 rfl))) (Cs_nd (Cs_lf (sg_getf dX12_addEntry_163 rfl inX10 (by decide) w_1263)) (Cs_nd (Cs_lf (sg_aload_n dX12_addEntry_166 rfl)) (Cs_lf (sg_invV (mid := 173) (ci := 11) (by decide +kernel) dX12_addEntry_167 ok_173 rfl w_1351 w_1353 ws_52))))) (Cs_nd (Cs_nd (Cs_lf (sg_invV (mid := 169) (ci := 11) (by decide +kernel) dX12_addEntry_170 ok_169 rfl w_1338 w_1340 ws_49)) (Cs_nd (Cs_lf (sg_aload_n dX12_addEntry_173 rfl)) (Cs_lf (sg_aload_n dX12_addEntry_174 rfl)))) (Cs_nd (Cs_lf (sg_iconst dX12_addEntry_175 (by decide))) (Cs_nd (Cs_lf (sg_aload_n dX12_addEntry_176 rfl)) (Cs_lf (sg_getf dX12_addEntry_177 rfl inX10 (by decide) w_1265))))))) (Cs_nd (Cs_nd (Cs_nd (Cs_nd (Cs_lf (sg_aload_n dX12_addEntry_180 rfl)) (Cs_lf (sg_invV (mid := 173) (ci := 11) (by decide +kernel) dX12_addEntry_181 ok_173 rfl w_1351 w_1353 ws_52))) (Cs_nd (Cs_lf (sg_invV (mid := 169) (ci := 11) (by decide +kernel) dX12_addEntry_184 ok_169 rfl w_1338 w_1340 ws_49)) (Cs_nd (Cs_lf (sg_goto dX12_addEntry_187 (by decide))) (Cs_lf (sg_aload_n dX12_addEntry_190 rfl))))) (Cs_nd (Cs_nd (Cs_lf (sg_aload_n dX12_addEntry_191 rfl)) (Cs_nd (Cs_lf (sg_bipush dX12_addEntry_192 (by decide))) (Cs_lf (sg_aload_n dX12_addEntry_194 rfl)))) (Cs_nd (Cs_lf (sg_getf dX12_addEntry_195 rfl inX10 (by decide) w_1263)) (Cs_nd (Cs_lf (sg_aload_n dX12_addEntry_198 rfl)) (Cs_lf (sg_invV (mid := 173) (ci := 11) (by decide +kernel) dX12_addEntry_199 ok_173 rfl w_1351 w_1353 ws_52)))))) (Cs_nd (Cs_nd (Cs_nd (Cs_lf (sg_invV (mid := 169) (ci := 11) (by decide +kernel) dX12_addEntry_202 ok_169 rfl w_1338 w_1340 ws_49)) (Cs_lf (sg_aload_n dX12_addEntry_205 rfl))) (Cs_nd (Cs_lf (sg_aload_n dX12_addEntry_206 rfl)) (Cs_nd (Cs_lf (sg_bipush dX12_addEntry_207 (by decide))) (Cs_lf (sg_aload_n dX12_addEntry_209 rfl))))) (Cs_nd (Cs_nd (Cs_lf (sg_getf dX12_addEntry_210 rfl inX10 (by decide) w_1265)) (Cs_nd (Cs_lf (sg_aload_n dX12_addEntry_213 rfl)) (Cs_lf (sg_getf dX12_addEntry_214 rfl inX10 (by decide) w_1267)))) (Cs_nd (Cs_lf (sg_invV (mid := 173) (ci := 11) (by decide +kernel) dX12_addEntry_217 ok_173 rfl w_1351 w_1353 ws_52)) (Cs_nd (Cs_lf (sg_invV (mid := 169) (ci := 11) (by decide +kernel) dX12_addEntry_220 ok_169 rfl w_1338 w_1340 ws_49)) (Cs_lf (sg_vret dX12_addEntry_223 rfl)))))))))
theorem dX12_addAttributes_0 : decode cX12_addAttributes 0 = .ok (.aload_n 0, 1) := by decide +kernel
theorem dX12_addAttributes_1 : decode cX12_addAttributes 1 = .ok (.aload_n 2, 1) := by decide +kernel
theorem dX12_addAttributes_2 : decode cX12_addAttributes 2 = .ok (.getfield 120, 3) := by decide +kernel
theorem dX12_addAttributes_5 : decode cX12_addAttributes 5 = .ok (.invokevirtual 273, 3) := by decide +kernel
theorem dX12_addAttributes_8 : decode cX12_addAttributes 8 = .ok (.iconst 0, 1) := by decide +kernel
theorem dX12_addAttributes_9 : decode cX12_addAttributes 9 = .ok (.istore_n 3, 1) := by decide +kernel
theorem dX12_addAttributes_10 : decode cX12_addAttributes 10 = .ok (.iload_n 3, 1) := by decide +kernel
theorem dX12_addAttributes_11 : decode cX12_addAttributes 11 = .ok (.aload_n 2, 1) := by decide +kernel
theorem dX12_addAttributes_12 : decode cX12_addAttributes 12 = .ok (.getfield 120, 3) := by decide +kernel
theorem dX12_addAttributes_15 : decode cX12_addAttributes 15 = .ok (.if_icmp .ge 67, 3) := by decide +kernel
theorem dX12_addAttributes_18 : decode cX12_addAttributes 18 = .ok (.aload_n 1, 1) := by decide +kernel
theorem dX12_addAttributes_19 : decode cX12_addAttributes 19 = .ok (.aload_n 2, 1) := by decide +kernel
theorem dX12_addAttributes_20 : decode cX12_addAttributes 20 = .ok (.getfield 121, 3) := by decide +kernel
theorem dX12_addAttributes_23 : decode cX12_addAttributes 23 = .ok (.iload_n 3, 1) := by decide +kernel
theorem dX12_addAttributes_24 : decode cX12_addAttributes 24 = .ok (.iaload, 1) := by decide +kernel
theorem dX12_addAttributes_25 : decode cX12_addAttributes 25 = .ok (.iconst 2, 1) := by decide +kernel
theorem dX12_addAttributes_26 : decode cX12_addAttributes 26 = .ok (.iadd, 1) := by decide +kernel
theorem dX12_addAttributes_27 : decode cX12_addAttributes 27 = .ok (.invokevirtual 123, 3) := by decide +kernel
theorem dX12_addAttributes_30 : decode cX12_addAttributes 30 = .ok (.istore 4, 2) := by decide +kernel
theorem dX12_addAttributes_32 : decode cX12_addAttributes 32 = .ok (.aload_n 0, 1) := by decide +kernel
theorem dX12_addAttributes_33 : decode cX12_addAttributes 33 = .ok (.aload_n 0, 1) := by decide +kernel
theorem dX12_addAttributes_34 : decode cX12_addAttributes 34 = .ok (.aload_n 1, 1) := by decide +kernel
theorem dX12_addAttributes_35 : decode cX12_addAttributes 35 = .ok (.aload_n 1, 1) := by decide +kernel
theorem dX12_addAttributes_36 : decode cX12_addAttributes 36 = .ok (.aload_n 2, 1) := by decide +kernel
theorem dX12_addAttributes_37 : decode cX12_addAttributes 37 = .ok (.getfield 121, 3) := by decide +kernel
theorem dX12_addAttributes_40 : decode cX12_addAttributes 40 = .ok (.iload_n 3, 1) := by decide +kernel
theorem dX12_addAttributes_41 : decode cX12_addAttributes 41 = .ok (.iaload, 1) := by decide +kernel
theorem dX12_addAttributes_42 : decode cX12_addAttributes 42 = .ok (.invokevirtual 73, 3) := by decide +kernel
theorem dX12_addAttributes_45 : decode cX12_addAttributes 45 = .ok (.invokevirtual 296, 3) := by decide +kernel
theorem dX12_addAttributes_48 : decode cX12_addAttributes 48 = .ok (.invokevirtual 273, 3) := by decide +kernel
theorem dX12_addAttributes_51 : decode cX12_addAttributes 51 = .ok (.aload_n 0, 1) := by decide +kernel
theorem dX12_addAttributes_52 : decode cX12_addAttributes 52 = .ok (.iload 4, 2) := by decide +kernel
theorem dX12_addAttributes_54 : decode cX12_addAttributes 54 = .ok (.invokevirtual 289, 3) := by decide +kernel
theorem dX12_addAttributes_57 : decode cX12_addAttributes 57 = .ok (.aload_n 0, 1) := by decide +kernel
theorem dX12_addAttributes_58 : decode cX12_addAttributes 58 = .ok (.aload_n 1, 1) := by decide +kernel
theorem dX12_addAttributes_59 : decode cX12_addAttributes 59 = .ok (.getfield 59, 3) := by decide +kernel
theorem dX12_addAttributes_62 : decode cX12_addAttributes 62 = .ok (.aload_n 2, 1) := by decide +kernel
theorem dX12_addAttributes_63 : decode cX12_addAttributes 63 = .ok (.getfield 121, 3) := by decide +kernel
theorem dX12_addAttributes_66 : decode cX12_addAttributes 66 = .ok (.iload_n 3, 1) := by decide +kernel
theorem dX12_addAttributes_67 : decode cX12_addAttributes 67 = .ok (.iaload, 1) := by decide +kernel
theorem dX12_addAttributes_68 : decode cX12_addAttributes 68 = .ok (.bipush 6, 2) := by decide +kernel
theorem dX12_addAttributes_70 : decode cX12_addAttributes 70 = .ok (.iadd, 1) := by decide +kernel
theorem dX12_addAttributes_71 : decode cX12_addAttributes 71 = .ok (.iload 4, 2) := by decide +kernel
theorem dX12_addAttributes_73 : decode cX12_addAttributes 73 = .ok (.invokevirtual 285, 3) := by decide +kernel
theorem dX12_addAttributes_76 : decode cX12_addAttributes 76 = .ok (.iinc 3 1, 3) := by decide +kernel
theorem dX12_addAttributes_79 : decode cX12_addAttributes 79 = .ok (.goto (-69), 3) := by decide +kernel
theorem dX12_addAttributes_82 : decode cX12_addAttributes 82 = .ok (.return_, 1) := by decide +kernel
set_option maxRecDepth 20000 in
theorem s_MO_addAttributes (E : XE) : Cs E (yX12_addAttributes, cX12_addAttributes, 5, none) (k_MO_addAttributes) := (Cs_nd (Cs_nd (Cs_nd (Cs_nd (Cs_nd (Cs_lf (sg_aload_n dX12_addAttributes_0 rfl)) (Cs_lf (sg_aload_n dX12_addAttributes_1 rfl))) (Cs_nd (Cs_lf (sg_getf dX12_addAttributes_2 rfl inX8 (by decide) w_1053)) (Cs_nd (Cs_lf (sg_invV (mid := 169) (ci := 11) (by decide +kernel) dX12_addAttributes_5 ok_169 rfl w_1338 w_1340 ws_49)) (Cs_lf (sg_iconst dX12_addAttributes_8 (by decide)))))) (Cs_nd (Cs_nd (Cs_lf (sg_istore_n dX12_addAttributes_9 rfl (by decide))) (Cs_nd (Cs_lf (sg_iload_n dX12_addAttributes_10 rfl)) (Cs_lf (sg_aload_n dX12_addAttributes_11 rfl)))) (Cs_nd (Cs_lf (sg_getf dX12_addAttributes_12 rfl inX8 (by decide) w_1053)) (Cs_nd (Cs_lf (sg_cge dX12_addAttributes_15 (by decide))) (Cs_lf (sg_aload_n dX12_addAttributes_18 rfl)))))) (Cs_nd (Cs_nd (Cs_nd (Cs_lf (sg_aload_n dX12_addAttributes_19 rfl)) (Cs_nd (Cs_lf (sg_getf dX12_addAttributes_20 rfl inX8 (by decide) w_1055)) (Cs_lf (sg_iload_n dX12_addAttributes_23 rfl)))) (Cs_nd (Cs_lf (sg_iald dX12_addAttributes_24)) (Cs_nd (Cs_lf (sg_iconst dX12_addAttributes_25 (by decide))) (Cs_lf (sg_iadd dX12_addAttributes_26))))) (Cs_nd (Cs_nd (Cs_lf (sg_invV (mid := 115) (ci := 8) (by decide +kernel) dX12_addAttributes_27 ok_115 rfl w_1061 w_1062 w_1063)) (Cs_nd (Cs_lf (sg_istore dX12_addAttributes_30 (by decide))) (Cs_lf (sg_aload_n dX12_addAttributes_32 rfl)))) (Cs_nd (Cs_lf (sg_aload_n dX12_addAttributes_33 rfl)) (Cs_nd (Cs_lf (sg_aload_n dX12_addAttributes_34 rfl)) (Cs_lf (sg_aload_n dX12_addAttributes_35 rfl))))))) (Cs_nd (Cs_nd (Cs_nd (Cs_nd (Cs_lf (sg_aload_n dX12_addAttributes_36 rfl)) (Cs_nd (Cs_lf (sg_getf dX12_addAttributes_37 rfl inX8 (by decide) w_1055)) (Cs_lf (sg_iload_n dX12_addAttributes_40 rfl)))) (Cs_nd (Cs_lf (sg_iald dX12_addAttributes_41)) (Cs_nd (Cs_lf (sg_invV (mid := 114) (ci := 8) (by decide +kernel) dX12_addAttributes_42 ok_114 rfl w_1018 w_1019 w_1020)) (Cs_lf (sg_invV (mid := 172) (ci := 11) (by decide +kernel) dX12_addAttributes_45 ok_172 rfl w_1355 w_1357 ws_53))))) (Cs_nd (Cs_nd (Cs_lf (sg_invV (mid := 169) (ci := 11) (by decide +kernel) dX12_addAttributes_48 ok_169 rfl w_1338 w_1340 ws_49)) (Cs_nd (Cs_lf (sg_aload_n dX12_addAttributes_51 rfl)) (Cs_lf (sg_iload dX12_addAttributes_52)))) (Cs_nd (Cs_lf (sg_invV (mid := 170) (ci := 11) (by decide +kernel) dX12_addAttributes_54 ok_170 rfl w_1347 w_1349 ws_51)) (Cs_nd (Cs_lf (sg_aload_n dX12_addAttributes_57 rfl)) (Cs_lf (sg_aload_n dX12_addAttributes_58 rfl)))))) (Cs_nd (Cs_nd (Cs_nd (Cs_lf (sg_getf dX12_addAttributes_59 rfl inX9 (by decide) w_962)) (Cs_nd (Cs_lf (sg_aload_n dX12_addAttributes_62 rfl)) (Cs_lf (sg_getf dX12_addAttributes_63 rfl inX8 (by decide) w_1055)))) (Cs_nd (Cs_lf (sg_iload_n dX12_addAttributes_66 rfl)) (Cs_nd (Cs_lf (sg_iald dX12_addAttributes_67)) (Cs_lf (sg_bipush dX12_addAttributes_68 (by decide)))))) (Cs_nd (Cs_nd (Cs_lf (sg_iadd dX12_addAttributes_70)) (Cs_nd (Cs_lf (sg_iload dX12_addAttributes_71)) (Cs_lf (sg_invV (mid := 171) (ci := 11) (by decide +kernel) dX12_addAttributes_73 ok_171 rfl w_1330 w_1332 ws_47)))) (Cs_nd (Cs_lf (sg_iinc dX12_addAttributes_76 (by decide) (by decide))) (Cs_nd (Cs_lf (sg_goto dX12_addAttributes_79 (by decide))) (Cs_lf (sg_vret dX12_addAttributes_82 rfl))))))))
theorem dX12_inOrder_0 : decode cX12_inOrder 0 = .ok (.aload_n 0, 1) := by decide +kernel
theorem dX12_inOrder_1 : decode cX12_inOrder 1 = .ok (.sipush 152, 3) := by decide +kernel
theorem dX12_inOrder_4 : decode cX12_inOrder 4 = .ok (.anewarray 26, 3) := by decide +kernel
theorem dX12_inOrder_7 : decode cX12_inOrder 7 = .ok (.putfield 276, 3) := by decide +kernel
theorem dX12_inOrder_10 : decode cX12_inOrder 10 = .ok (.aload_n 0, 1) := by decide +kernel
theorem dX12_inOrder_11 : decode cX12_inOrder 11 = .ok (.aload_n 0, 1) := by decide +kernel
theorem dX12_inOrder_12 : decode cX12_inOrder 12 = .ok (.aload_n 1, 1) := by decide +kernel
theorem dX12_inOrder_13 : decode cX12_inOrder 13 = .ok (.aload_n 0, 1) := by decide +kernel
theorem dX12_inOrder_14 : decode cX12_inOrder 14 = .ok (.getfield 276, 3) := by decide +kernel
theorem dX12_inOrder_17 : decode cX12_inOrder 17 = .ok (.iconst 0, 1) := by decide +kernel
theorem dX12_inOrder_18 : decode cX12_inOrder 18 = .ok (.invokevirtual 234, 3) := by decide +kernel
theorem dX12_inOrder_21 : decode cX12_inOrder 21 = .ok (.putfield 279, 3) := by decide +kernel
theorem dX12_inOrder_24 : decode cX12_inOrder 24 = .ok (.iconst 1, 1) := by decide +kernel
theorem dX12_inOrder_25 : decode cX12_inOrder 25 = .ok (.istore_n 2, 1) := by decide +kernel
theorem dX12_inOrder_26 : decode cX12_inOrder 26 = .ok (.iconst 0, 1) := by decide +kernel
theorem dX12_inOrder_27 : decode cX12_inOrder 27 = .ok (.istore_n 3, 1) := by decide +kernel
theorem dX12_inOrder_28 : decode cX12_inOrder 28 = .ok (.iload_n 3, 1) := by decide +kernel
theorem dX12_inOrder_29 : decode cX12_inOrder 29 = .ok (.aload_n 0, 1) := by decide +kernel
theorem dX12_inOrder_30 : decode cX12_inOrder 30 = .ok (.getfield 279, 3) := by decide +kernel
theorem dX12_inOrder_33 : decode cX12_inOrder 33 = .ok (.if_icmp .ge 51, 3) := by decide +kernel
theorem dX12_inOrder_36 : decode cX12_inOrder 36 = .ok (.aload_n 0, 1) := by decide +kernel
theorem dX12_inOrder_37 : decode cX12_inOrder 37 = .ok (.getfield 35, 3) := by decide +kernel
theorem dX12_inOrder_40 : decode cX12_inOrder 40 = .ok (.iload_n 3, 1) := by decide +kernel
theorem dX12_inOrder_41 : decode cX12_inOrder 41 = .ok (.iload_n 2, 1) := by decide +kernel
theorem dX12_inOrder_42 : decode cX12_inOrder 42 = .ok (.iastore, 1) := by decide +kernel
theorem dX12_inOrder_43 : decode cX12_inOrder 43 = .ok (.iload_n 2, 1) := by decide +kernel
theorem dX12_inOrder_44 : decode cX12_inOrder 44 = .ok (.aload_n 0, 1) := by decide +kernel
theorem dX12_inOrder_45 : decode cX12_inOrder 45 = .ok (.getfield 276, 3) := by decide +kernel
theorem dX12_inOrder_48 : decode cX12_inOrder 48 = .ok (.iload_n 3, 1) := by decide +kernel
theorem dX12_inOrder_49 : decode cX12_inOrder 49 = .ok (.aaload, 1) := by decide +kernel
theorem dX12_inOrder_50 : decode cX12_inOrder 50 = .ok (.getfield 201, 3) := by decide +kernel
theorem dX12_inOrder_53 : decode cX12_inOrder 53 = .ok (.iconst 5, 1) := by decide +kernel
theorem dX12_inOrder_54 : decode cX12_inOrder 54 = .ok (.if_icmp .eq 17, 3) := by decide +kernel
theorem dX12_inOrder_57 : decode cX12_inOrder 57 = .ok (.aload_n 0, 1) := by decide +kernel
theorem dX12_inOrder_58 : decode cX12_inOrder 58 = .ok (.getfield 276, 3) := by decide +kernel
theorem dX12_inOrder_61 : decode cX12_inOrder 61 = .ok (.iload_n 3, 1) := by decide +kernel
theorem dX12_inOrder_62 : decode cX12_inOrder 62 = .ok (.aaload, 1) := by decide +kernel
theorem dX12_inOrder_63 : decode cX12_inOrder 63 = .ok (.getfield 201, 3) := by decide +kernel
theorem dX12_inOrder_66 : decode cX12_inOrder 66 = .ok (.bipush 6, 2) := by decide +kernel
theorem dX12_inOrder_68 : decode cX12_inOrder 68 = .ok (.if_icmp .ne 7, 3) := by decide +kernel
theorem dX12_inOrder_71 : decode cX12_inOrder 71 = .ok (.iconst 2, 1) := by decide +kernel
theorem dX12_inOrder_72 : decode cX12_inOrder 72 = .ok (.goto 4, 3) := by decide +kernel
theorem dX12_inOrder_75 : decode cX12_inOrder 75 = .ok (.iconst 1, 1) := by decide +kernel
theorem dX12_inOrder_76 : decode cX12_inOrder 76 = .ok (.iadd, 1) := by decide +kernel
theorem dX12_inOrder_77 : decode cX12_inOrder 77 = .ok (.istore_n 2, 1) := by decide +kernel
theorem dX12_inOrder_78 : decode cX12_inOrder 78 = .ok (.iinc 3 1, 3) := by decide +kernel
theorem dX12_inOrder_81 : decode cX12_inOrder 81 = .ok (.goto (-53), 3) := by decide +kernel
theorem dX12_inOrder_84 : decode cX12_inOrder 84 = .ok (.aload_n 0, 1) := by decide +kernel
theorem dX12_inOrder_85 : decode cX12_inOrder 85 = .ok (.iconst 0, 1) := by decide +kernel
theorem dX12_inOrder_86 : decode cX12_inOrder 86 = .ok (.putfield 266, 3) := by decide +kernel
theorem dX12_inOrder_89 : decode cX12_inOrder 89 = .ok (.aload_n 0, 1) := by decide +kernel
theorem dX12_inOrder_90 : decode cX12_inOrder 90 = .ok (.aload_n 1, 1) := by decide +kernel
theorem dX12_inOrder_91 : decode cX12_inOrder 91 = .ok (.getfield 59, 3) := by decide +kernel
theorem dX12_inOrder_94 : decode cX12_inOrder 94 = .ok (.iconst 0, 1) := by decide +kernel
theorem dX12_inOrder_95 : decode cX12_inOrder 95 = .ok (.bipush 8, 2) := by decide +kernel
theorem dX12_inOrder_97 : decode cX12_inOrder 97 = .ok (.invokevirtual 285, 3) := by decide +kernel
theorem dX12_inOrder_100 : decode cX12_inOrder 100 = .ok (.aload_n 0, 1) := by decide +kernel
theorem dX12_inOrder_101 : decode cX12_inOrder 101 = .ok (.iload_n 2, 1) := by decide +kernel
theorem dX12_inOrder_102 : decode cX12_inOrder 102 = .ok (.invokevirtual 273, 3) := by decide +kernel
theorem dX12_inOrder_105 : decode cX12_inOrder 105 = .ok (.iconst 0, 1) := by decide +kernel
theorem dX12_inOrder_106 : decode cX12_inOrder 106 = .ok (.istore_n 3, 1) := by decide +kernel
theorem dX12_inOrder_107 : decode cX12_inOrder 107 = .ok (.iload_n 3, 1) := by decide +kernel
theorem dX12_inOrder_108 : decode cX12_inOrder 108 = .ok (.aload_n 0, 1) := by decide +kernel
theorem dX12_inOrder_109 : decode cX12_inOrder 109 = .ok (.getfield 279, 3) := by decide +kernel
theorem dX12_inOrder_112 : decode cX12_inOrder 112 = .ok (.if_icmp .ge 19, 3) := by decide +kernel
theorem dX12_inOrder_115 : decode cX12_inOrder 115 = .ok (.aload_n 0, 1) := by decide +kernel
theorem dX12_inOrder_116 : decode cX12_inOrder 116 = .ok (.aload_n 0, 1) := by decide +kernel
theorem dX12_inOrder_117 : decode cX12_inOrder 117 = .ok (.getfield 276, 3) := by decide +kernel
theorem dX12_inOrder_120 : decode cX12_inOrder 120 = .ok (.iload_n 3, 1) := by decide +kernel
theorem dX12_inOrder_121 : decode cX12_inOrder 121 = .ok (.aaload, 1) := by decide +kernel
theorem dX12_inOrder_122 : decode cX12_inOrder 122 = .ok (.invokevirtual 300, 3) := by decide +kernel
theorem dX12_inOrder_125 : decode cX12_inOrder 125 = .ok (.iinc 3 1, 3) := by decide +kernel
theorem dX12_inOrder_128 : decode cX12_inOrder 128 = .ok (.goto (-21), 3) := by decide +kernel
theorem dX12_inOrder_131 : decode cX12_inOrder 131 = .ok (.aload_n 1, 1) := by decide +kernel
theorem dX12_inOrder_132 : decode cX12_inOrder 132 = .ok (.getfield 87, 3) := by decide +kernel
theorem dX12_inOrder_135 : decode cX12_inOrder 135 = .ok (.istore_n 3, 1) := by decide +kernel
theorem dX12_inOrder_136 : decode cX12_inOrder 136 = .ok (.aload_n 0, 1) := by decide +kernel
theorem dX12_inOrder_137 : decode cX12_inOrder 137 = .ok (.aload_n 1, 1) := by decide +kernel
theorem dX12_inOrder_138 : decode cX12_inOrder 138 = .ok (.iload_n 3, 1) := by decide +kernel
theorem dX12_inOrder_139 : decode cX12_inOrder 139 = .ok (.invokevirtual 73, 3) := by decide +kernel
theorem dX12_inOrder_142 : decode cX12_inOrder 142 = .ok (.invokevirtual 273, 3) := by decide +kernel
theorem dX12_inOrder_145 : decode cX12_inOrder 145 = .ok (.aload_n 0, 1) := by decide +kernel
theorem dX12_inOrder_146 : decode cX12_inOrder 146 = .ok (.aload_n 0, 1) := by decide +kernel
theorem dX12_inOrder_147 : decode cX12_inOrder 147 = .ok (.aload_n 1, 1) := by decide +kernel
theorem dX12_inOrder_148 : decode cX12_inOrder 148 = .ok (.aload_n 1, 1) := by decide +kernel
theorem dX12_inOrder_149 : decode cX12_inOrder 149 = .ok (.iload_n 3, 1) := by decide +kernel
theorem dX12_inOrder_150 : decode cX12_inOrder 150 = .ok (.iconst 2, 1) := by decide +kernel
theorem dX12_inOrder_151 : decode cX12_inOrder 151 = .ok (.iadd, 1) := by decide +kernel
theorem dX12_inOrder_152 : decode cX12_inOrder 152 = .ok (.invokevirtual 73, 3) := by decide +kernel
theorem dX12_inOrder_155 : decode cX12_inOrder 155 = .ok (.invokevirtual 296, 3) := by decide +kernel
theorem dX12_inOrder_158 : decode cX12_inOrder 158 = .ok (.invokevirtual 273, 3) := by decide +kernel
theorem dX12_inOrder_161 : decode cX12_inOrder 161 = .ok (.aload_n 0, 1) := by decide +kernel
theorem dX12_inOrder_162 : decode cX12_inOrder 162 = .ok (.aload_n 0, 1) := by decide +kernel
theorem dX12_inOrder_163 : decode cX12_inOrder 163 = .ok (.aload_n 1, 1) := by decide +kernel
theorem dX12_inOrder_164 : decode cX12_inOrder 164 = .ok (.aload_n 1, 1) := by decide +kernel
theorem dX12_inOrder_165 : decode cX12_inOrder 165 = .ok (.iload_n 3, 1) := by decide +kernel
theorem dX12_inOrder_166 : decode cX12_inOrder 166 = .ok (.iconst 4, 1) := by decide +kernel
theorem dX12_inOrder_167 : decode cX12_inOrder 167 = .ok (.iadd, 1) := by decide +kernel
theorem dX12_inOrder_168 : decode cX12_inOrder 168 = .ok (.invokevirtual 73, 3) := by decide +kernel
theorem dX12_inOrder_171 : decode cX12_inOrder 171 = .ok (.invokevirtual 296, 3) := by decide +kernel
theorem dX12_inOrder_174 : decode cX12_inOrder 174 = .ok (.invokevirtual 273, 3) := by decide +kernel
theorem dX12_inOrder_177 : decode cX12_inOrder 177 = .ok (.aload_n 0, 1) := by decide +kernel
theorem dX12_inOrder_178 : decode cX12_inOrder 178 = .ok (.aload_n 1, 1) := by decide +kernel
theorem dX12_inOrder_179 : decode cX12_inOrder 179 = .ok (.getfield 93, 3) := by decide +kernel
theorem dX12_inOrder_182 : decode cX12_inOrder 182 = .ok (.invokevirtual 273, 3) := by decide +kernel
theorem dX12_inOrder_185 : decode cX12_inOrder 185 = .ok (.iconst 0, 1) := by decide +kernel
theorem dX12_inOrder_186 : decode cX12_inOrder 186 = .ok (.istore 4, 2) := by decide +kernel
theorem dX12_inOrder_188 : decode cX12_inOrder 188 = .ok (.iload 4, 2) := by decide +kernel
theorem dX12_inOrder_190 : decode cX12_inOrder 190 = .ok (.aload_n 1, 1) := by decide +kernel
theorem dX12_inOrder_191 : decode cX12_inOrder 191 = .ok (.getfield 93, 3) := by decide +kernel
theorem dX12_inOrder_194 : decode cX12_inOrder 194 = .ok (.if_icmp .ge 31, 3) := by decide +kernel
theorem dX12_inOrder_197 : decode cX12_inOrder 197 = .ok (.aload_n 0, 1) := by decide +kernel
theorem dX12_inOrder_198 : decode cX12_inOrder 198 = .ok (.aload_n 0, 1) := by decide +kernel
theorem dX12_inOrder_199 : decode cX12_inOrder 199 = .ok (.aload_n 1, 1) := by decide +kernel
theorem dX12_inOrder_200 : decode cX12_inOrder 200 = .ok (.aload_n 1, 1) := by decide +kernel
theorem dX12_inOrder_201 : decode cX12_inOrder 201 = .ok (.iload_n 3, 1) := by decide +kernel
theorem dX12_inOrder_202 : decode cX12_inOrder 202 = .ok (.bipush 8, 2) := by decide +kernel
theorem dX12_inOrder_204 : decode cX12_inOrder 204 = .ok (.iadd, 1) := by decide +kernel
theorem dX12_inOrder_205 : decode cX12_inOrder 205 = .ok (.iconst 2, 1) := by decide +kernel
theorem dX12_inOrder_206 : decode cX12_inOrder 206 = .ok (.iload 4, 2) := by decide +kernel
theorem dX12_inOrder_208 : decode cX12_inOrder 208 = .ok (.imul, 1) := by decide +kernel
theorem dX12_inOrder_209 : decode cX12_inOrder 209 = .ok (.iadd, 1) := by decide +kernel
theorem dX12_inOrder_210 : decode cX12_inOrder 210 = .ok (.invokevirtual 73, 3) := by decide +kernel
theorem dX12_inOrder_213 : decode cX12_inOrder 213 = .ok (.invokevirtual 296, 3) := by decide +kernel
theorem dX12_inOrder_216 : decode cX12_inOrder 216 = .ok (.invokevirtual 273, 3) := by decide +kernel
theorem dX12_inOrder_219 : decode cX12_inOrder 219 = .ok (.iinc 4 1, 3) := by decide +kernel
theorem dX12_inOrder_222 : decode cX12_inOrder 222 = .ok (.goto (-34), 3) := by decide +kernel
theorem dX12_inOrder_225 : decode cX12_inOrder 225 = .ok (.iconst 0, 1) := by decide +kernel
theorem dX12_inOrder_226 : decode cX12_inOrder 226 = .ok (.istore 4, 2) := by decide +kernel
theorem dX12_inOrder_228 : decode cX12_inOrder 228 = .ok (.iload 4, 2) := by decide +kernel
theorem dX12_inOrder_230 : decode cX12_inOrder 230 = .ok (.iconst 2, 1) := by decide +kernel
theorem dX12_inOrder_231 : decode cX12_inOrder 231 = .ok (.if_icmp .ge 116, 3) := by decide +kernel
theorem dX12_inOrder_234 : decode cX12_inOrder 234 = .ok (.aload_n 0, 1) := by decide +kernel
theorem dX12_inOrder_235 : decode cX12_inOrder 235 = .ok (.aload_n 1, 1) := by decide +kernel
theorem dX12_inOrder_236 : decode cX12_inOrder 236 = .ok (.getfield 96, 3) := by decide +kernel
theorem dX12_inOrder_239 : decode cX12_inOrder 239 = .ok (.iload 4, 2) := by decide +kernel
theorem dX12_inOrder_241 : decode cX12_inOrder 241 = .ok (.iaload, 1) := by decide +kernel
theorem dX12_inOrder_242 : decode cX12_inOrder 242 = .ok (.invokevirtual 273, 3) := by decide +kernel
theorem dX12_inOrder_245 : decode cX12_inOrder 245 = .ok (.iconst 0, 1) := by decide +kernel
theorem dX12_inOrder_246 : decode cX12_inOrder 246 = .ok (.istore 5, 2) := by decide +kernel
theorem dX12_inOrder_248 : decode cX12_inOrder 248 = .ok (.iload 5, 2) := by decide +kernel
theorem dX12_inOrder_250 : decode cX12_inOrder 250 = .ok (.aload_n 1, 1) := by decide +kernel
theorem dX12_inOrder_251 : decode cX12_inOrder 251 = .ok (.getfield 96, 3) := by decide +kernel
theorem dX12_inOrder_254 : decode cX12_inOrder 254 = .ok (.iload 4, 2) := by decide +kernel
theorem dX12_inOrder_256 : decode cX12_inOrder 256 = .ok (.iaload, 1) := by decide +kernel
theorem dX12_inOrder_257 : decode cX12_inOrder 257 = .ok (.if_icmp .ge 84, 3) := by decide +kernel
theorem dX12_inOrder_260 : decode cX12_inOrder 260 = .ok (.aload_n 1, 1) := by decide +kernel
theorem dX12_inOrder_261 : decode cX12_inOrder 261 = .ok (.getfield 110, 3) := by decide +kernel
theorem dX12_inOrder_264 : decode cX12_inOrder 264 = .ok (.iload 4, 2) := by decide +kernel
theorem dX12_inOrder_266 : decode cX12_inOrder 266 = .ok (.aaload, 1) := by decide +kernel
theorem dX12_inOrder_267 : decode cX12_inOrder 267 = .ok (.iload 5, 2) := by decide +kernel
theorem dX12_inOrder_269 : decode cX12_inOrder 269 = .ok (.aaload, 1) := by decide +kernel
theorem dX12_inOrder_270 : decode cX12_inOrder 270 = .ok (.astore 6, 2) := by decide +kernel
theorem dX12_inOrder_272 : decode cX12_inOrder 272 = .ok (.aload_n 0, 1) := by decide +kernel
theorem dX12_inOrder_273 : decode cX12_inOrder 273 = .ok (.aload_n 1, 1) := by decide +kernel
theorem dX12_inOrder_274 : decode cX12_inOrder 274 = .ok (.aload 6, 2) := by decide +kernel
theorem dX12_inOrder_276 : decode cX12_inOrder 276 = .ok (.getfield 102, 3) := by decide +kernel
theorem dX12_inOrder_279 : decode cX12_inOrder 279 = .ok (.invokevirtual 73, 3) := by decide +kernel
theorem dX12_inOrder_282 : decode cX12_inOrder 282 = .ok (.invokevirtual 273, 3) := by decide +kernel
theorem dX12_inOrder_285 : decode cX12_inOrder 285 = .ok (.aload_n 0, 1) := by decide +kernel
theorem dX12_inOrder_286 : decode cX12_inOrder 286 = .ok (.aload_n 0, 1) := by decide +kernel
theorem dX12_inOrder_287 : decode cX12_inOrder 287 = .ok (.aload_n 1, 1) := by decide +kernel
theorem dX12_inOrder_288 : decode cX12_inOrder 288 = .ok (.aload_n 1, 1) := by decide +kernel
theorem dX12_inOrder_289 : decode cX12_inOrder 289 = .ok (.aload 6, 2) := by decide +kernel
theorem dX12_inOrder_291 : decode cX12_inOrder 291 = .ok (.getfield 102, 3) := by decide +kernel
theorem dX12_inOrder_294 : decode cX12_inOrder 294 = .ok (.iconst 2, 1) := by decide +kernel
theorem dX12_inOrder_295 : decode cX12_inOrder 295 = .ok (.iadd, 1) := by decide +kernel
theorem dX12_inOrder_296 : decode cX12_inOrder 296 = .ok (.invokevirtual 73, 3) := by decide +kernel
theorem dX12_inOrder_299 : decode cX12_inOrder 299 = .ok (.invokevirtual 296, 3) := by decide +kernel
theorem dX12_inOrder_302 : decode cX12_inOrder 302 = .ok (.invokevirtual 273, 3) := by decide +kernel
theorem dX12_inOrder_305 : decode cX12_inOrder 305 = .ok (.aload_n 0, 1) := by decide +kernel
theorem dX12_inOrder_306 : decode cX12_inOrder 306 = .ok (.aload_n 0, 1) := by decide +kernel
theorem dX12_inOrder_307 : decode cX12_inOrder 307 = .ok (.aload_n 1, 1) := by decide +kernel
theorem dX12_inOrder_308 : decode cX12_inOrder 308 = .ok (.aload_n 1, 1) := by decide +kernel
theorem dX12_inOrder_309 : decode cX12_inOrder 309 = .ok (.aload 6, 2) := by decide +kernel
theorem dX12_inOrder_311 : decode cX12_inOrder 311 = .ok (.getfield 102, 3) := by decide +kernel
theorem dX12_inOrder_314 : decode cX12_inOrder 314 = .ok (.iconst 4, 1) := by decide +kernel
theorem dX12_inOrder_315 : decode cX12_inOrder 315 = .ok (.iadd, 1) := by decide +kernel
theorem dX12_inOrder_316 : decode cX12_inOrder 316 = .ok (.invokevirtual 73, 3) := by decide +kernel
theorem dX12_inOrder_319 : decode cX12_inOrder 319 = .ok (.invokevirtual 296, 3) := by decide +kernel
theorem dX12_inOrder_322 : decode cX12_inOrder 322 = .ok (.invokevirtual 273, 3) := by decide +kernel
theorem dX12_inOrder_325 : decode cX12_inOrder 325 = .ok (.aload_n 0, 1) := by decide +kernel
theorem dX12_inOrder_326 : decode cX12_inOrder 326 = .ok (.aload_n 1, 1) := by decide +kernel
theorem dX12_inOrder_327 : decode cX12_inOrder 327 = .ok (.aload 6, 2) := by decide +kernel
theorem dX12_inOrder_329 : decode cX12_inOrder 329 = .ok (.getfield 107, 3) := by decide +kernel
theorem dX12_inOrder_332 : decode cX12_inOrder 332 = .ok (.invokevirtual 304, 3) := by decide +kernel
theorem dX12_inOrder_335 : decode cX12_inOrder 335 = .ok (.iinc 5 1, 3) := by decide +kernel
theorem dX12_inOrder_338 : decode cX12_inOrder 338 = .ok (.goto (-90), 3) := by decide +kernel
theorem dX12_inOrder_341 : decode cX12_inOrder 341 = .ok (.iinc 4 1, 3) := by decide +kernel
theorem dX12_inOrder_344 : decode cX12_inOrder 344 = .ok (.goto (-116), 3) := by decide +kernel
theorem dX12_inOrder_347 : decode cX12_inOrder 347 = .ok (.aload_n 0, 1) := by decide +kernel
theorem dX12_inOrder_348 : decode cX12_inOrder 348 = .ok (.aload_n 1, 1) := by decide +kernel
theorem dX12_inOrder_349 : decode cX12_inOrder 349 = .ok (.aload_n 1, 1) := by decide +kernel
theorem dX12_inOrder_350 : decode cX12_inOrder 350 = .ok (.getfield 114, 3) := by decide +kernel
theorem dX12_inOrder_353 : decode cX12_inOrder 353 = .ok (.invokevirtual 304, 3) := by decide +kernel
theorem dX12_inOrder_356 : decode cX12_inOrder 356 = .ok (.aload_n 0, 1) := by decide +kernel
theorem dX12_inOrder_357 : decode cX12_inOrder 357 = .ok (.aload_n 0, 1) := by decide +kernel
theorem dX12_inOrder_358 : decode cX12_inOrder 358 = .ok (.getfield 32, 3) := by decide +kernel
theorem dX12_inOrder_361 : decode cX12_inOrder 361 = .ok (.iconst 0, 1) := by decide +kernel
theorem dX12_inOrder_362 : decode cX12_inOrder 362 = .ok (.aload_n 0, 1) := by decide +kernel
theorem dX12_inOrder_363 : decode cX12_inOrder 363 = .ok (.getfield 266, 3) := by decide +kernel
theorem dX12_inOrder_366 : decode cX12_inOrder 366 = .ok (.invokestatic 134, 3) := by decide +kernel
theorem dX12_inOrder_369 : decode cX12_inOrder 369 = .ok (.invokevirtual 193, 3) := by decide +kernel
theorem dX12_inOrder_372 : decode cX12_inOrder 372 = .ok (.ireturn, 1) := by decide +kernel
set_option maxRecDepth 20000 in
theorem s_MO_inOrder (E : XE) : Cs E (yX12_inOrder, cX12_inOrder, 7, some .int) (k_MO_inOrder) := (Cs_nd (Cs_nd (Cs_nd (Cs_nd (Cs_nd (Cs_nd (Cs_nd (Cs_lf (sg_aload_n dX12_inOrder_0 rfl)) (Cs_nd (Cs_lf (sg_sipush dX12_inOrder_1 (by decide))) (Cs_lf (sg_newQ dX12_inOrder_4 (fun _ => rfl) w_881 (by decide))))) (Cs_nd (Cs_lf (sg_putf dX12_inOrder_7 rfl inX12 tyX12_ok nmX12 (by decide) w_897 rfl (tyX12_ok 14 (by decide)) (ok_arr _))) (Cs_nd (Cs_lf (sg_aload_n dX12_inOrder_10 rfl)) (Cs_lf (sg_aload_n dX12_inOrder_11 rfl))))) (Cs_nd (Cs_nd (Cs_lf (sg_aload_n dX12_inOrder_12 rfl)) (Cs_nd (Cs_lf (sg_aload_n dX12_inOrder_13 rfl)) (Cs_lf (sg_getf dX12_inOrder_14 rfl inX12 (by decide) w_897)))) (Cs_nd (Cs_lf (sg_iconst dX12_inOrder_17 (by decide))) (Cs_nd (Cs_lf (sg_invV (mid := 158) (ci := 11) (by decide +kernel) dX12_inOrder_18 ok_158 rfl w_1245 w_1247 ws_39)) (Cs_lf (sg_putf dX12_inOrder_21 rfl inX12 tyX12_ok nmX12 (by decide) w_898 rfl (tyX12_ok 15 (by decide)) ok_int)))))) (Cs_nd (Cs_nd (Cs_nd (Cs_lf (sg_iconst dX12_inOrder_24 (by decide))) (Cs_nd (Cs_lf (sg_istore_n dX12_inOrder_25 rfl (by decide))) (Cs_lf (sg_iconst dX12_inOrder_26 (by decide))))) (Cs_nd (Cs_lf (sg_istore_n dX12_inOrder_27 rfl (by decide))) (Cs_nd (Cs_lf (sg_iload_n dX12_inOrder_28 rfl)) (Cs_lf (sg_aload_n dX12_inOrder_29 rfl))))) (Cs_nd (Cs_nd (Cs_lf (sg_getf dX12_inOrder_30 rfl inX12 (by decide) w_898)) (Cs_nd (Cs_lf (sg_cge dX12_inOrder_33 (by decide))) (Cs_lf (sg_aload_n dX12_inOrder_36 rfl)))) (Cs_nd (Cs_nd (Cs_lf (sg_getf dX12_inOrder_37 rfl inX12 (by decide) w_899)) (Cs_lf (sg_iload_n dX12_inOrder_40 rfl))) (Cs_nd (Cs_lf (sg_iload_n dX12_inOrder_41 rfl)) (Cs_lf (sg_iast dX12_inOrder_42))))))) (Cs_nd (Cs_nd (Cs_nd (Cs_nd (Cs_lf (sg_iload_n dX12_inOrder_43 rfl)) (Cs_nd (Cs_lf (sg_aload_n dX12_inOrder_44 rfl)) (Cs_lf (sg_getf dX12_inOrder_45 rfl inX12 (by decide) w_897)))) (Cs_nd (Cs_lf (sg_iload_n dX12_inOrder_48 rfl)) (Cs_nd (Cs_lf (sg_aald dX12_inOrder_49)) (Cs_lf (sg_getf dX12_inOrder_50 rfl inX10 (by decide) w_1260))))) (Cs_nd (Cs_nd (Cs_lf (sg_iconst dX12_inOrder_53 (by decide))) (Cs_nd (Cs_lf (sg_ceq dX12_inOrder_54 (by decide))) (Cs_lf (sg_aload_n dX12_inOrder_57 rfl)))) (Cs_nd (Cs_nd (Cs_lf (sg_getf dX12_inOrder_58 rfl inX12 (by decide) w_897)) (Cs_lf (sg_iload_n dX12_inOrder_61 rfl))) (Cs_nd (Cs_lf (sg_aald dX12_inOrder_62)) (Cs_lf (sg_getf dX12_inOrder_63 rfl inX10 (by decide) w_1260)))))) (Cs_nd (Cs_nd (Cs_nd (Cs_lf (sg_bipush dX12_inOrder_66 (by decide))) (Cs_nd (Cs_lf (sg_cne dX12_inOrder_68 (by decide))) (Cs_lf (sg_iconst dX12_inOrder_71 (by decide))))) (Cs_nd (Cs_lf (sg_goto dX12_inOrder_72 (by decide))) (Cs_nd (Cs_lf (sg_iconst dX12_inOrder_75 (by decide))) (Cs_lf (sg_iadd dX12_inOrder_76))))) (Cs_nd (Cs_nd (Cs_lf (sg_istore_n dX12_inOrder_77 rfl (by decide))) (Cs_nd (Cs_lf (sg_iinc dX12_inOrder_78 (by decide) (by decide))) (Cs_lf (sg_goto dX12_inOrder_81 (by decide))))) (Cs_nd (Cs_nd (Cs_lf (sg_aload_n dX12_inOrder_84 rfl)) (Cs_lf (sg_iconst dX12_inOrder_85 (by decide)))) (Cs_nd (Cs_lf (sg_putf dX12_inOrder_86 rfl inX12 tyX12_ok nmX12 (by decide) w_896 rfl (tyX12_ok 13 (by decide)) ok_int)) (Cs_lf (sg_aload_n dX12_inOrder_89 rfl)))))))) (Cs_nd (Cs_nd (Cs_nd (Cs_nd (Cs_nd (Cs_lf (sg_aload_n dX12_inOrder_90 rfl)) (Cs_nd (Cs_lf (sg_getf dX12_inOrder_91 rfl inX9 (by decide) w_962)) (Cs_lf (sg_iconst dX12_inOrder_94 (by decide))))) (Cs_nd (Cs_lf (sg_bipush dX12_inOrder_95 (by decide))) (Cs_nd (Cs_lf (sg_invV (mid := 171) (ci := 11) (by decide +kernel) dX12_inOrder_97 ok_171 rfl w_1330 w_1332 ws_47)) (Cs_lf (sg_aload_n dX12_inOrder_100 rfl))))) (Cs_nd (Cs_nd (Cs_lf (sg_iload_n dX12_inOrder_101 rfl)) (Cs_nd (Cs_lf (sg_invV (mid := 169) (ci := 11) (by decide +kernel) dX12_inOrder_102 ok_169 rfl w_1338 w_1340 ws_49)) (Cs_lf (sg_iconst dX12_inOrder_105 (by decide))))) (Cs_nd (Cs_lf (sg_istore_n dX12_inOrder_106 rfl (by decide))) (Cs_nd (Cs_lf (sg_iload_n dX12_inOrder_107 rfl)) (Cs_lf (sg_aload_n dX12_inOrder_108 rfl)))))) (Cs_nd (Cs_nd (Cs_nd (Cs_lf (sg_getf dX12_inOrder_109 rfl inX12 (by decide) w_898)) (Cs_nd (Cs_lf (sg_cge dX12_inOrder_112 (by decide))) (Cs_lf (sg_aload_n dX12_inOrder_115 rfl)))) (Cs_nd (Cs_lf (sg_aload_n dX12_inOrder_116 rfl)) (Cs_nd (Cs_lf (sg_getf dX12_inOrder_117 rfl inX12 (by decide) w_897)) (Cs_lf (sg_iload_n dX12_inOrder_120 rfl))))) (Cs_nd (Cs_nd (Cs_lf (sg_aald dX12_inOrder_121)) (Cs_nd (Cs_lf (sg_invV (mid := 174) (ci := 11) (by decide +kernel) dX12_inOrder_122 ok_174 rfl w_1342 w_1344 ws_50)) (Cs_lf (sg_iinc dX12_inOrder_125 (by decide) (by decide))))) (Cs_nd (Cs_nd (Cs_lf (sg_goto dX12_inOrder_128 (by decide))) (Cs_lf (sg_aload_n dX12_inOrder_131 rfl))) (Cs_nd (Cs_lf (sg_getf dX12_inOrder_132 rfl inX9 (by decide) w_970)) (Cs_lf (sg_istore_n dX12_inOrder_135 rfl (by decide)))))))) (Cs_nd (Cs_nd (Cs_nd (Cs_nd (Cs_lf (sg_aload_n dX12_inOrder_136 rfl)) (Cs_nd (Cs_lf (sg_aload_n dX12_inOrder_137 rfl)) (Cs_lf (sg_iload_n dX12_inOrder_138 rfl)))) (Cs_nd (Cs_lf (sg_invV (mid := 114) (ci := 8) (by decide +kernel) dX12_inOrder_139 ok_114 rfl w_1018 w_1019 w_1020)) (Cs_nd (Cs_lf (sg_invV (mid := 169) (ci := 11) (by decide +kernel) dX12_inOrder_142 ok_169 rfl w_1338 w_1340 ws_49)) (Cs_lf (sg_aload_n dX12_inOrder_145 rfl))))) (Cs_nd (Cs_nd (Cs_lf (sg_aload_n dX12_inOrder_146 rfl)) (Cs_nd (Cs_lf (sg_aload_n dX12_inOrder_147 rfl)) (Cs_lf (sg_aload_n dX12_inOrder_148 rfl)))) (Cs_nd (Cs_nd (Cs_lf (sg_iload_n dX12_inOrder_149 rfl)) (Cs_lf (sg_iconst dX12_inOrder_150 (by decide)))) (Cs_nd (Cs_lf (sg_iadd dX12_inOrder_151)) (Cs_lf (sg_invV (mid := 114) (ci := 8) (by decide +kernel) dX12_inOrder_152 ok_114 rfl w_1018 w_1019 w_1020)))))) (Cs_nd (Cs_nd (Cs_nd (Cs_lf (sg_invV (mid := 172) (ci := 11) (by decide +kernel) dX12_inOrder_155 ok_172 rfl w_1355 w_1357 ws_53)) (Cs_nd (Cs_lf (sg_invV (mid := 169) (ci := 11) (by decide +kernel) dX12_inOrder_158 ok_169 rfl w_1338 w_1340 ws_49)) (Cs_lf (sg_aload_n dX12_inOrder_161 rfl)))) (Cs_nd (Cs_lf (sg_aload_n dX12_inOrder_162 rfl)) (Cs_nd (Cs_lf (sg_aload_n dX12_inOrder_163 rfl)) (Cs_lf (sg_aload_n dX12_inOrder_164 rfl))))) (Cs_nd (Cs_nd (Cs_lf (sg_iload_n dX12_inOrder_165 rfl)) (Cs_nd (Cs_lf (sg_iconst dX12_inOrder_166 (by decide))) (Cs_lf (sg_iadd dX12_inOrder_167)))) (Cs_nd (Cs_nd (Cs_lf (sg_invV (mid := 114) (ci := 8) (by decide +kernel) dX12_inOrder_168 ok_114 rfl w_1018 w_1019 w_1020)) (Cs_lf (sg_invV (mid := 172) (ci := 11) (by decide +kernel) dX12_inOrder_171 ok_172 rfl w_1355 w_1357 ws_53))) (Cs_nd (Cs_lf (sg_invV (mid := 169) (ci := 11) (by decide +kernel) dX12_inOrder_174 ok_169 rfl w_1338 w_1340 ws_49)) (Cs_lf (sg_aload_n dX12_inOrder_177 rfl))))))))) (Cs_nd (Cs_nd (Cs_nd (Cs_nd (Cs_nd (Cs_nd (Cs_lf (sg_aload_n dX12_inOrder_178 rfl)) (Cs_nd (Cs_lf (sg_getf dX12_inOrder_179 rfl inX9 (by decide) w_971)) (Cs_lf (sg_invV (mid := 169) (ci := 11) (by decide +kernel) dX12_inOrder_182 ok_169 rfl w_1338 w_1340 ws_49)))) (Cs_nd (Cs_lf (sg_iconst dX12_inOrder_185 (by decide))) (Cs_nd (Cs_lf (sg_istore dX12_inOrder_186 (by decide))) (Cs_lf (sg_iload dX12_inOrder_188))))) (Cs_nd (Cs_nd (Cs_lf (sg_aload_n dX12_inOrder_190 rfl)) (Cs_nd (Cs_lf (sg_getf dX12_inOrder_191 rfl inX9 (by decide) w_971)) (Cs_lf (sg_cge dX12_inOrder_194 (by decide))))) (Cs_nd (Cs_lf (sg_aload_n dX12_inOrder_197 rfl)) (Cs_nd (Cs_lf (sg_aload_n dX12_inOrder_198 rfl)) (Cs_lf (sg_aload_n dX12_inOrder_199 rfl)))))) (Cs_nd (Cs_nd (Cs_nd (Cs_lf (sg_aload_n dX12_inOrder_200 rfl)) (Cs_nd (Cs_lf (sg_iload_n dX12_inOrder_201 rfl)) (Cs_lf (sg_bipush dX12_inOrder_202 (by decide))))) (Cs_nd (Cs_lf (sg_iadd dX12_inOrder_204)) (Cs_nd (Cs_lf (sg_iconst dX12_inOrder_205 (by decide))) (Cs_lf (sg_iload dX12_inOrder_206))))) (Cs_nd (Cs_nd (Cs_lf (sg_imul dX12_inOrder_208)) (Cs_nd (Cs_lf (sg_iadd dX12_inOrder_209)) (Cs_lf (sg_invV (mid := 114) (ci := 8) (by decide +kernel) dX12_inOrder_210 ok_114 rfl w_1018 w_1019 w_1020)))) (Cs_nd (Cs_nd (Cs_lf (sg_invV (mid := 172) (ci := 11) (by decide +kernel) dX12_inOrder_213 ok_172 rfl w_1355 w_1357 ws_53)) (Cs_lf (sg_invV (mid := 169) (ci := 11) (by decide +kernel) dX12_inOrder_216 ok_169 rfl w_1338 w_1340 ws_49))) (Cs_nd (Cs_lf (sg_iinc dX12_inOrder_219 (by decide) (by decide))) (Cs_lf (sg_goto dX12_inOrder_222 (by decide)))))))) (Cs_nd (Cs_nd (Cs_nd (Cs_nd (Cs_lf (sg_iconst dX12_inOrder_225 (by decide))) (Cs_nd (Cs_lf (sg_istore dX12_inOrder_226 (by decide))) (Cs_lf (sg_iload dX12_inOrder_228)))) (Cs_nd (Cs_lf (sg_iconst dX12_inOrder_230 (by decide))) (Cs_nd (Cs_lf (sg_cge dX12_inOrder_231 (by decide))) (Cs_lf (sg_aload_n dX12_inOrder_234 rfl))))) (Cs_nd (Cs_nd (Cs_lf (sg_aload_n dX12_inOrder_235 rfl)) (Cs_nd (Cs_lf (sg_getf dX12_inOrder_236 rfl inX9 (by decide) w_975)) (Cs_lf (sg_iload dX12_inOrder_239)))) (Cs_nd (Cs_nd (Cs_lf (sg_iald dX12_inOrder_241)) (Cs_lf (sg_invV (mid := 169) (ci := 11) (by decide +kernel) dX12_inOrder_242 ok_169 rfl w_1338 w_1340 ws_49))) (Cs_nd (Cs_lf (sg_iconst dX12_inOrder_245 (by decide))) (Cs_lf (sg_istore dX12_inOrder_246 (by decide))))))) (Cs_nd (Cs_nd (Cs_nd (Cs_lf (sg_iload dX12_inOrder_248)) (Cs_nd (Cs_lf (sg_aload_n dX12_inOrder_250 rfl)) (Cs_lf (sg_getf dX12_inOrder_251 rfl inX9 (by decide) w_975)))) (Cs_nd (Cs_lf (sg_iload dX12_inOrder_254)) (Cs_nd (Cs_lf (sg_iald dX12_inOrder_256)) (Cs_lf (sg_cge dX12_inOrder_257 (by decide)))))) (Cs_nd (Cs_nd (Cs_lf (sg_aload_n dX12_inOrder_260 rfl)) (Cs_nd (Cs_lf (sg_getf dX12_inOrder_261 rfl inX9 (by decide) w_973)) (Cs_lf (sg_iload dX12_inOrder_264)))) (Cs_nd (Cs_nd (Cs_lf (sg_aald dX12_inOrder_266)) (Cs_lf (sg_iload dX12_inOrder_267))) (Cs_nd (Cs_lf (sg_aald dX12_inOrder_269)) (Cs_lf (sg_astore dX12_inOrder_270 (by decide))))))))) (Cs_nd (Cs_nd (Cs_nd (Cs_nd (Cs_nd (Cs_lf (sg_aload_n dX12_inOrder_272 rfl)) (Cs_nd (Cs_lf (sg_aload_n dX12_inOrder_273 rfl)) (Cs_lf (sg_aload dX12_inOrder_274)))) (Cs_nd (Cs_lf (sg_getf dX12_inOrder_276 rfl inX11 (by decide) w_1036)) (Cs_nd (Cs_lf (sg_invV (mid := 114) (ci := 8) (by decide +kernel) dX12_inOrder_279 ok_114 rfl w_1018 w_1019 w_1020)) (Cs_lf (sg_invV (mid := 169) (ci := 11) (by decide +kernel) dX12_inOrder_282 ok_169 rfl w_1338 w_1340 ws_49))))) (Cs_nd (Cs_nd (Cs_lf (sg_aload_n dX12_inOrder_285 rfl)) (Cs_nd (Cs_lf (sg_aload_n dX12_inOrder_286 rfl)) (Cs_lf (sg_aload_n dX12_inOrder_287 rfl)))) (Cs_nd (Cs_lf (sg_aload_n dX12_inOrder_288 rfl)) (Cs_nd (Cs_lf (sg_aload dX12_inOrder_289)) (Cs_lf (sg_getf dX12_inOrder_291 rfl inX11 (by decide) w_1036)))))) (Cs_nd (Cs_nd (Cs_nd (Cs_lf (sg_iconst dX12_inOrder_294 (by decide))) (Cs_nd (Cs_lf (sg_iadd dX12_inOrder_295)) (Cs_lf (sg_invV (mid := 114) (ci := 8) (by decide +kernel) dX12_inOrder_296 ok_114 rfl w_1018 w_1019 w_1020)))) (Cs_nd (Cs_lf (sg_invV (mid := 172) (ci := 11) (by decide +kernel) dX12_inOrder_299 ok_172 rfl w_1355 w_1357 ws_53)) (Cs_nd (Cs_lf (sg_invV (mid := 169) (ci := 11) (by decide +kernel) dX12_inOrder_302 ok_169 rfl w_1338 w_1340 ws_49)) (Cs_lf (sg_aload_n dX12_inOrder_305 rfl))))) (Cs_nd (Cs_nd (Cs_lf (sg_aload_n dX12_inOrder_306 rfl)) (Cs_nd (Cs_lf (sg_aload_n dX12_inOrder_307 rfl)) (Cs_lf (sg_aload_n dX12_inOrder_308 rfl)))) (Cs_nd (Cs_nd (Cs_lf (sg_aload dX12_inOrder_309)) (Cs_lf (sg_getf dX12_inOrder_311 rfl inX11 (by decide) w_1036))) (Cs_nd (Cs_lf (sg_iconst dX12_inOrder_314 (by decide))) (Cs_lf (sg_iadd dX12_inOrder_315))))))) (Cs_nd (Cs_nd (Cs_nd (Cs_nd (Cs_lf (sg_invV (mid := 114) (ci := 8) (by decide +kernel) dX12_inOrder_316 ok_114 rfl w_1018 w_1019 w_1020)) (Cs_nd (Cs_lf (sg_invV (mid := 172) (ci := 11) (by decide +kernel) dX12_inOrder_319 ok_172 rfl w_1355 w_1357 ws_53)) (Cs_lf (sg_invV (mid := 169) (ci := 11) (by decide +kernel) dX12_inOrder_322 ok_169 rfl w_1338 w_1340 ws_49)))) (Cs_nd (Cs_lf (sg_aload_n dX12_inOrder_325 rfl)) (Cs_nd (Cs_lf (sg_aload_n dX12_inOrder_326 rfl)) (Cs_lf (sg_aload dX12_inOrder_327))))) (Cs_nd (Cs_nd (Cs_lf (sg_getf dX12_inOrder_329 rfl inX11 (by decide) w_1037)) (Cs_nd (Cs_lf (sg_invV (mid := 175) (ci := 11) (by decide +kernel) dX12_inOrder_332 ok_175 rfl w_1359 w_1361 ws_54)) (Cs_lf (sg_iinc dX12_inOrder_335 (by decide) (by decide))))) (Cs_nd (Cs_nd (Cs_lf (sg_goto dX12_inOrder_338 (by decide))) (Cs_lf (sg_iinc dX12_inOrder_341 (by decide) (by decide)))) (Cs_nd (Cs_lf (sg_goto dX12_inOrder_344 (by decide))) (Cs_lf (sg_aload_n dX12_inOrder_347 rfl)))))) (Cs_nd (Cs_nd (Cs_nd (Cs_lf (sg_aload_n dX12_inOrder_348 rfl)) (Cs_nd (Cs_lf (sg_aload_n dX12_inOrder_349 rfl)) (Cs_lf (sg_getf dX12_inOrder_350 rfl inX9 (by decide) w_976)))) (Cs_nd (Cs_lf (sg_invV (mid := 175) (ci := 11) (by decide +kernel) dX12_inOrder_353 ok_175 rfl w_1359 w_1361 ws_54)) (Cs_nd (Cs_lf (sg_aload_n dX12_inOrder_356 rfl)) (Cs_lf (sg_aload_n dX12_inOrder_357 rfl))))) (Cs_nd (Cs_nd (Cs_lf (sg_getf dX12_inOrder_358 rfl inX12 (by decide) w_895)) (Cs_nd (Cs_lf (sg_iconst dX12_inOrder_361 (by decide))) (Cs_lf (sg_aload_n dX12_inOrder_362 rfl)))) (Cs_nd (Cs_nd (Cs_lf (sg_getf dX12_inOrder_363 rfl inX12 (by decide) w_896)) (Cs_lf (sg_inv (mid := 133) (by decide +kernel) dX12_inOrder_366 ok_133 w_998 w_999))) (Cs_nd (Cs_lf (sg_invV (mid := 148) (ci := 11) (by decide +kernel) dX12_inOrder_369 ok_148 rfl w_1218 w_1220 ws_38)) (Cs_lf (sg_iret dX12_inOrder_372 rfl))))))))))
theorem dX12_write_0 : decode cX12_write 0 = .ok (.aload_n 0, 1) := by decide +kernel
theorem dX12_write_1 : decode cX12_write 1 = .ok (.iload_n 1, 1) := by decide +kernel
theorem dX12_write_2 : decode cX12_write 2 = .ok (.invokevirtual 180, 3) := by decide +kernel
theorem dX12_write_5 : decode cX12_write 5 = .ok (.ifCond .ne 5, 3) := by decide +kernel
theorem dX12_write_8 : decode cX12_write 8 = .ok (.iconst (-1), 1) := by decide +kernel
theorem dX12_write_9 : decode cX12_write 9 = .ok (.ireturn, 1) := by decide +kernel
theorem dX12_write_10 : decode cX12_write 10 = .ok (.iload_n 2, 1) := by decide +kernel
theorem dX12_write_11 : decode cX12_write 11 = .ok (.ifCond .ne 19, 3) := by decide +kernel
theorem dX12_write_14 : decode cX12_write 14 = .ok (.aload_n 0, 1) := by decide +kernel
theorem dX12_write_15 : decode cX12_write 15 = .ok (.aload_n 0, 1) := by decide +kernel
theorem dX12_write_16 : decode cX12_write 16 = .ok (.getfield 11, 3) := by decide +kernel
theorem dX12_write_19 : decode cX12_write 19 = .ok (.iload_n 1, 1) := by decide +kernel
theorem dX12_write_20 : decode cX12_write 20 = .ok (.aaload, 1) := by decide +kernel
theorem dX12_write_21 : decode cX12_write 21 = .ok (.getfield 59, 3) := by decide +kernel
theorem dX12_write_24 : decode cX12_write 24 = .ok (.invokevirtual 193, 3) := by decide +kernel
theorem dX12_write_27 : decode cX12_write 27 = .ok (.goto 23, 3) := by decide +kernel
theorem dX12_write_30 : decode cX12_write 30 = .ok (.iload_n 2, 1) := by decide +kernel
theorem dX12_write_31 : decode cX12_write 31 = .ok (.iconst 1, 1) := by decide +kernel
theorem dX12_write_32 : decode cX12_write 32 = .ok (.if_icmp .ne 16, 3) := by decide +kernel
theorem dX12_write_35 : decode cX12_write 35 = .ok (.aload_n 0, 1) := by decide +kernel
theorem dX12_write_36 : decode cX12_write 36 = .ok (.aload_n 0, 1) := by decide +kernel
theorem dX12_write_37 : decode cX12_write 37 = .ok (.getfield 11, 3) := by decide +kernel
theorem dX12_write_40 : decode cX12_write 40 = .ok (.iload_n 1, 1) := by decide +kernel
theorem dX12_write_41 : decode cX12_write 41 = .ok (.aaload, 1) := by decide +kernel
theorem dX12_write_42 : decode cX12_write 42 = .ok (.invokevirtual 308, 3) := by decide +kernel
theorem dX12_write_45 : decode cX12_write 45 = .ok (.goto 5, 3) := by decide +kernel
theorem dX12_write_48 : decode cX12_write 48 = .ok (.bipush (-2), 2) := by decide +kernel
theorem dX12_write_50 : decode cX12_write 50 = .ok (.ireturn, 1) := by decide +kernel
set_option maxRecDepth 20000 in
theorem s_MO_write (E : XE) : Cs E (yX12_write, cX12_write, 3, some .int) (k_MO_write) := (Cs_nd (Cs_nd (Cs_nd (Cs_nd (Cs_lf (sg_aload_n dX12_write_0 rfl)) (Cs_nd (Cs_lf (sg_iload_n dX12_write_1 rfl)) (Cs_lf (sg_invV (mid := 124) (ci := 11) (by decide +kernel) dX12_write_2 ok_124 rfl w_1184 w_1186 ws_37)))) (Cs_nd (Cs_nd (Cs_lf (sg_ifne dX12_write_5 (by decide))) (Cs_lf (sg_iconst dX12_write_8 (by decide)))) (Cs_nd (Cs_lf (sg_iret dX12_write_9 rfl)) (Cs_lf (sg_iload_n dX12_write_10 rfl))))) (Cs_nd (Cs_nd (Cs_lf (sg_ifne dX12_write_11 (by decide))) (Cs_nd (Cs_lf (sg_aload_n dX12_write_14 rfl)) (Cs_lf (sg_aload_n dX12_write_15 rfl)))) (Cs_nd (Cs_nd (Cs_lf (sg_getf dX12_write_16 rfl inX12 (by decide) w_884)) (Cs_lf (sg_iload_n dX12_write_19 rfl))) (Cs_nd (Cs_lf (sg_aald dX12_write_20)) (Cs_lf (sg_getf dX12_write_21 rfl inX9 (by decide) w_962)))))) (Cs_nd (Cs_nd (Cs_nd (Cs_lf (sg_invV (mid := 148) (ci := 11) (by decide +kernel) dX12_write_24 ok_148 rfl w_1218 w_1220 ws_38)) (Cs_nd (Cs_lf (sg_goto dX12_write_27 (by decide))) (Cs_lf (sg_iload_n dX12_write_30 rfl)))) (Cs_nd (Cs_nd (Cs_lf (sg_iconst dX12_write_31 (by decide))) (Cs_lf (sg_cne dX12_write_32 (by decide)))) (Cs_nd (Cs_lf (sg_aload_n dX12_write_35 rfl)) (Cs_lf (sg_aload_n dX12_write_36 rfl))))) (Cs_nd (Cs_nd (Cs_lf (sg_getf dX12_write_37 rfl inX12 (by decide) w_884)) (Cs_nd (Cs_lf (sg_iload_n dX12_write_40 rfl)) (Cs_lf (sg_aald dX12_write_41)))) (Cs_nd (Cs_nd (Cs_lf (sg_invV (mid := 176) (ci := 11) (by decide +kernel) dX12_write_42 ok_176 rfl w_1326 w_1328 ws_46)) (Cs_lf (sg_goto dX12_write_45 (by decide)))) (Cs_nd (Cs_lf (sg_bipush dX12_write_48 (by decide))) (Cs_lf (sg_iret dX12_write_50 rfl)))))))
theorem dX12_back_0 : decode cX12_back 0 = .ok (.aload_n 0, 1) := by decide +kernel
theorem dX12_back_1 : decode cX12_back 1 = .ok (.iconst 0, 1) := by decide +kernel
theorem dX12_back_2 : decode cX12_back 2 = .ok (.putfield 39, 3) := by decide +kernel
theorem dX12_back_5 : decode cX12_back 5 = .ok (.aload_n 0, 1) := by decide +kernel
theorem dX12_back_6 : decode cX12_back 6 = .ok (.aload_n 0, 1) := by decide +kernel
theorem dX12_back_7 : decode cX12_back 7 = .ok (.getfield 19, 3) := by decide +kernel
theorem dX12_back_10 : decode cX12_back 10 = .ok (.arraylength, 1) := by decide +kernel
theorem dX12_back_11 : decode cX12_back 11 = .ok (.putfield 49, 3) := by decide +kernel
theorem dX12_back_14 : decode cX12_back 14 = .ok (.iconst 0, 1) := by decide +kernel
theorem dX12_back_15 : decode cX12_back 15 = .ok (.istore_n 1, 1) := by decide +kernel
theorem dX12_back_16 : decode cX12_back 16 = .ok (.iload_n 1, 1) := by decide +kernel
theorem dX12_back_17 : decode cX12_back 17 = .ok (.aload_n 0, 1) := by decide +kernel
theorem dX12_back_18 : decode cX12_back 18 = .ok (.getfield 49, 3) := by decide +kernel
theorem dX12_back_21 : decode cX12_back 21 = .ok (.if_icmp .ge 21, 3) := by decide +kernel
theorem dX12_back_24 : decode cX12_back 24 = .ok (.aload_n 0, 1) := by decide +kernel
theorem dX12_back_25 : decode cX12_back 25 = .ok (.getfield 15, 3) := by decide +kernel
theorem dX12_back_28 : decode cX12_back 28 = .ok (.iload_n 1, 1) := by decide +kernel
theorem dX12_back_29 : decode cX12_back 29 = .ok (.aload_n 0, 1) := by decide +kernel
theorem dX12_back_30 : decode cX12_back 30 = .ok (.getfield 19, 3) := by decide +kernel
theorem dX12_back_33 : decode cX12_back 33 = .ok (.iload_n 1, 1) := by decide +kernel
theorem dX12_back_34 : decode cX12_back 34 = .ok (.baload, 1) := by decide +kernel
theorem dX12_back_35 : decode cX12_back 35 = .ok (.bastore, 1) := by decide +kernel
theorem dX12_back_36 : decode cX12_back 36 = .ok (.iinc 1 1, 3) := by decide +kernel
theorem dX12_back_39 : decode cX12_back 39 = .ok (.goto (-23), 3) := by decide +kernel
theorem dX12_back_42 : decode cX12_back 42 = .ok (.aload_n 0, 1) := by decide +kernel
theorem dX12_back_43 : decode cX12_back 43 = .ok (.getfield 49, 3) := by decide +kernel
theorem dX12_back_46 : decode cX12_back 46 = .ok (.ireturn, 1) := by decide +kernel
set_option maxRecDepth 20000 in
theorem s_MO_back (E : XE) : Cs E (yX12_back, cX12_back, 2, some .int) (k_MO_back) := (Cs_nd (Cs_nd (Cs_nd (Cs_nd (Cs_lf (sg_aload_n dX12_back_0 rfl)) (Cs_nd (Cs_lf (sg_iconst dX12_back_1 (by decide))) (Cs_lf (sg_putf dX12_back_2 rfl inX12 tyX12_ok nmX12 (by decide) w_883 rfl (tyX12_ok 0 (by decide)) ok_int)))) (Cs_nd (Cs_lf (sg_aload_n dX12_back_5 rfl)) (Cs_nd (Cs_lf (sg_aload_n dX12_back_6 rfl)) (Cs_lf (sg_getf dX12_back_7 rfl inX12 (by decide) w_888))))) (Cs_nd (Cs_nd (Cs_lf (sg_alen dX12_back_10)) (Cs_nd (Cs_lf (sg_putf dX12_back_11 rfl inX12 tyX12_ok nmX12 (by decide) w_887 rfl (tyX12_ok 4 (by decide)) ok_int)) (Cs_lf (sg_iconst dX12_back_14 (by decide))))) (Cs_nd (Cs_nd (Cs_lf (sg_istore_n dX12_back_15 rfl (by decide))) (Cs_lf (sg_iload_n dX12_back_16 rfl))) (Cs_nd (Cs_lf (sg_aload_n dX12_back_17 rfl)) (Cs_lf (sg_getf dX12_back_18 rfl inX12 (by decide) w_887)))))) (Cs_nd (Cs_nd (Cs_nd (Cs_lf (sg_cge dX12_back_21 (by decide))) (Cs_nd (Cs_lf (sg_aload_n dX12_back_24 rfl)) (Cs_lf (sg_getf dX12_back_25 rfl inX12 (by decide) w_886)))) (Cs_nd (Cs_nd (Cs_lf (sg_iload_n dX12_back_28 rfl)) (Cs_lf (sg_aload_n dX12_back_29 rfl))) (Cs_nd (Cs_lf (sg_getf dX12_back_30 rfl inX12 (by decide) w_888)) (Cs_lf (sg_iload_n dX12_back_33 rfl))))) (Cs_nd (Cs_nd (Cs_lf (sg_bald dX12_back_34)) (Cs_nd (Cs_lf (sg_bast dX12_back_35)) (Cs_lf (sg_iinc dX12_back_36 (by decide) (by decide))))) (Cs_nd (Cs_nd (Cs_lf (sg_goto dX12_back_39 (by decide))) (Cs_lf (sg_aload_n dX12_back_42 rfl))) (Cs_nd (Cs_lf (sg_getf dX12_back_43 rfl inX12 (by decide) w_887)) (Cs_lf (sg_iret dX12_back_46 rfl)))))))
