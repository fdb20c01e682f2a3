/-! the program: every method of low level is sound -/
theorem sp_2 {Q : Nat → Prop} {a b c : Nat} (h1 : ∀ m, a ≤ m → m < b → Q m) (h2 : ∀ m, b ≤ m → m < c → Q m) : ∀ m, a ≤ m → m < c → Q m := fun m ha hc => if h : m < b then h1 m ha h else h2 m (Nat.le_of_not_lt h) hc
theorem sp_1 {Q : Nat → Prop} {a b : Nat} (hb : b = a + 1) (h : Q a) : ∀ m, a ≤ m → m < b → Q m := fun m h1 h2 => by
  have e : m = a := by omega
  rw [e]; exact h
def GQ (E : XE) (mid : Nat) : Prop := lvO (mI mid).1 ≤ 8 → GM E (prog E.2.1 E.2.2.1) mid
theorem g_0 (E : XE) : GQ E 0 := fun _ => ⟨rfl, s_CF_init E, rfl, by decide +kernel, by decide +kernel, by decide +kernel⟩
theorem g_1 (E : XE) : GQ E 1 := fun _ => ⟨rfl, s_CF_begin E, rfl, by decide +kernel, by decide +kernel, by decide +kernel⟩
theorem g_2 (E : XE) : GQ E 2 := fun _ => ⟨rfl, s_CF_addTell E, rfl, by decide +kernel, by decide +kernel, by decide +kernel⟩
theorem g_3 (E : XE) : GQ E 3 := fun _ => ⟨rfl, s_CF_tellCount E, rfl, by decide +kernel, by decide +kernel, by decide +kernel⟩
theorem g_4 (E : XE) : GQ E 4 := fun _ => ⟨rfl, s_CF_tellAt E, rfl, by decide +kernel, by decide +kernel, by decide +kernel⟩
theorem g_5 (E : XE) : GQ E 5 := fun _ => ⟨rfl, s_CF_wanted E, rfl, by decide +kernel, by decide +kernel, by decide +kernel⟩
theorem g_6 (E : XE) : GQ E 6 := fun _ => ⟨rfl, s_CF_firstBehind E, rfl, by decide +kernel, by decide +kernel, by decide +kernel⟩
theorem g_7 (E : XE) : GQ E 7 := fun _ => ⟨rfl, s_CF_addMember E, rfl, by decide +kernel, by decide +kernel, by decide +kernel⟩
theorem g_8 (E : XE) : GQ E 8 := fun _ => ⟨rfl, s_CF_members E, rfl, by decide +kernel, by decide +kernel, by decide +kernel⟩
theorem g_9 (E : XE) : GQ E 9 := fun _ => ⟨rfl, s_CF_memberAt E, rfl, by decide +kernel, by decide +kernel, by decide +kernel⟩
theorem g_10 (E : XE) : GQ E 10 := fun _ => ⟨rfl, s_CF_faces E, rfl, by decide +kernel, by decide +kernel, by decide +kernel⟩
theorem g_11 (E : XE) : GQ E 11 := fun _ => ⟨rfl, s_CF_classPlace E, rfl, by decide +kernel, by decide +kernel, by decide +kernel⟩
theorem g_12 (E : XE) : GQ E 12 := fun _ => ⟨rfl, s_CF_attributesOf E, rfl, by decide +kernel, by decide +kernel, by decide +kernel⟩
theorem g_13 (E : XE) : GQ E 13 := fun _ => ⟨rfl, s_CF_attributeAt E, rfl, by decide +kernel, by decide +kernel, by decide +kernel⟩
theorem g_14 (E : XE) : GQ E 14 := fun _ => ⟨rfl, s_CF_meansAs E, rfl, by decide +kernel, by decide +kernel, by decide +kernel⟩
theorem g_15 (E : XE) : GQ E 15 := fun _ => ⟨rfl, s_PL_init E, rfl, by decide +kernel, by decide +kernel, by decide +kernel⟩
theorem g_16 (E : XE) : GQ E 16 := fun _ => ⟨rfl, s_PL_places E, rfl, by decide +kernel, by decide +kernel, by decide +kernel⟩
theorem g_17 (E : XE) : GQ E 17 := fun _ => ⟨rfl, s_PL_has E, rfl, by decide +kernel, by decide +kernel, by decide +kernel⟩
theorem g_18 (E : XE) : GQ E 18 := fun _ => ⟨rfl, s_PL_begin E, rfl, by decide +kernel, by decide +kernel, by decide +kernel⟩
theorem g_19 (E : XE) : GQ E 19 := fun _ => ⟨rfl, s_PL_set E, rfl, by decide +kernel, by decide +kernel, by decide +kernel⟩
theorem g_20 (E : XE) : GQ E 20 := fun _ => ⟨rfl, s_PL_copy E, rfl, by decide +kernel, by decide +kernel, by decide +kernel⟩
theorem g_21 (E : XE) : GQ E 21 := fun _ => ⟨rfl, s_PL_start E, rfl, by decide +kernel, by decide +kernel, by decide +kernel⟩
theorem g_22 (E : XE) : GQ E 22 := fun _ => ⟨rfl, s_PL_tag E, rfl, by decide +kernel, by decide +kernel, by decide +kernel⟩
theorem g_23 (E : XE) : GQ E 23 := fun _ => ⟨rfl, s_PL_twoOf E, rfl, by decide +kernel, by decide +kernel, by decide +kernel⟩
theorem g_24 (E : XE) : GQ E 24 := fun _ => ⟨rfl, s_PL_first E, rfl, by decide +kernel, by decide +kernel, by decide +kernel⟩
theorem g_25 (E : XE) : GQ E 25 := fun _ => ⟨rfl, s_PL_second E, rfl, by decide +kernel, by decide +kernel, by decide +kernel⟩
theorem g_26 (E : XE) : GQ E 26 := fun _ => ⟨rfl, s_PL_textAt E, rfl, by decide +kernel, by decide +kernel, by decide +kernel⟩
theorem g_27 (E : XE) : GQ E 27 := fun _ => ⟨rfl, s_PL_textSize E, rfl, by decide +kernel, by decide +kernel, by decide +kernel⟩
theorem g_28 (E : XE) : GQ E 28 := fun _ => ⟨rfl, s_PL_bits E, rfl, by decide +kernel, by decide +kernel, by decide +kernel⟩
theorem g_29 (E : XE) : GQ E 29 := fun _ => ⟨rfl, s_PL_bytesOf E, rfl, by decide +kernel, by decide +kernel, by decide +kernel⟩
theorem g_30 (E : XE) : GQ E 30 := fun _ => ⟨rfl, s_PL_wrong E, rfl, by decide +kernel, by decide +kernel, by decide +kernel⟩
theorem g_31 (E : XE) : GQ E 31 := fun _ => ⟨rfl, s_PL_textOf E, rfl, by decide +kernel, by decide +kernel, by decide +kernel⟩
theorem g_32 (E : XE) : GQ E 32 := fun _ => ⟨rfl, s_PL_order E, rfl, by decide +kernel, by decide +kernel, by decide +kernel⟩
theorem g_33 (E : XE) : GQ E 33 := fun _ => ⟨rfl, s_RK_init E, rfl, by decide +kernel, by decide +kernel, by decide +kernel⟩
theorem g_34 (E : XE) : GQ E 34 := fun _ => ⟨rfl, s_RK_clear E, rfl, by decide +kernel, by decide +kernel, by decide +kernel⟩
theorem g_35 (E : XE) : GQ E 35 := fun _ => ⟨rfl, s_RK_size E, rfl, by decide +kernel, by decide +kernel, by decide +kernel⟩
theorem g_36 (E : XE) : GQ E 36 := fun _ => ⟨rfl, s_RK_add E, rfl, by decide +kernel, by decide +kernel, by decide +kernel⟩
theorem g_37 (E : XE) : GQ E 37 := fun _ => ⟨rfl, s_RK_insert E, rfl, by decide +kernel, by decide +kernel, by decide +kernel⟩
theorem g_38 (E : XE) : GQ E 38 := fun _ => ⟨rfl, s_RK_find E, rfl, by decide +kernel, by decide +kernel, by decide +kernel⟩
theorem g_39 (E : XE) : GQ E 39 := fun _ => ⟨rfl, s_RK_firstNotBelow E, rfl, by decide +kernel, by decide +kernel, by decide +kernel⟩
theorem g_40 (E : XE) : GQ E 40 := fun _ => ⟨rfl, s_RK_orderOf E, rfl, by decide +kernel, by decide +kernel, by decide +kernel⟩
theorem g_41 (E : XE) : GQ E 41 := fun _ => ⟨rfl, s_RK_poolOf E, rfl, by decide +kernel, by decide +kernel, by decide +kernel⟩
theorem g_42 (E : XE) : GQ E 42 := fun _ => ⟨rfl, s_RK_placeOf E, rfl, by decide +kernel, by decide +kernel, by decide +kernel⟩
theorem g_43 (E : XE) : GQ E 43 := fun _ => ⟨rfl, s_RK_tag E, rfl, by decide +kernel, by decide +kernel, by decide +kernel⟩
theorem g_44 (E : XE) : GQ E 44 := fun _ => ⟨rfl, s_RK_tally E, rfl, by decide +kernel, by decide +kernel, by decide +kernel⟩
theorem g_45 (E : XE) : GQ E 45 := fun _ => ⟨rfl, s_RD_init E, rfl, by decide +kernel, by decide +kernel, by decide +kernel⟩
theorem g_46 (E : XE) : GQ E 46 := fun _ => ⟨rfl, s_RD_fail E, rfl, by decide +kernel, by decide +kernel, by decide +kernel⟩
theorem g_47 (E : XE) : GQ E 47 := fun _ => ⟨rfl, s_RD_scan E, rfl, by decide +kernel, by decide +kernel, by decide +kernel⟩
theorem g_48 (E : XE) : GQ E 48 := fun _ => ⟨rfl, s_RD_skip E, rfl, by decide +kernel, by decide +kernel, by decide +kernel⟩
theorem g_49 (E : XE) : GQ E 49 := fun _ => ⟨rfl, s_RD_tell E, rfl, by decide +kernel, by decide +kernel, by decide +kernel⟩
theorem g_50 (E : XE) : GQ E 50 := fun _ => ⟨rfl, s_RD_two E, rfl, by decide +kernel, by decide +kernel, by decide +kernel⟩
theorem g_51 (E : XE) : GQ E 51 := fun _ => ⟨rfl, s_RD_many E, rfl, by decide +kernel, by decide +kernel, by decide +kernel⟩
theorem g_52 (E : XE) : GQ E 52 := fun _ => ⟨rfl, s_RD_magic E, rfl, by decide +kernel, by decide +kernel, by decide +kernel⟩
theorem g_53 (E : XE) : GQ E 53 := fun _ => ⟨rfl, s_RD_entries E, rfl, by decide +kernel, by decide +kernel, by decide +kernel⟩
theorem g_54 (E : XE) : GQ E 54 := fun _ => ⟨rfl, s_RD_anEntry E, rfl, by decide +kernel, by decide +kernel, by decide +kernel⟩
theorem g_55 (E : XE) : GQ E 55 := fun _ => ⟨rfl, s_RD_classAbove E, rfl, by decide +kernel, by decide +kernel, by decide +kernel⟩
theorem g_56 (E : XE) : GQ E 56 := fun _ => ⟨rfl, s_RD_members E, rfl, by decide +kernel, by decide +kernel, by decide +kernel⟩
theorem g_57 (E : XE) : GQ E 57 := fun _ => ⟨rfl, s_RD_attributes E, rfl, by decide +kernel, by decide +kernel, by decide +kernel⟩
theorem g_58 (E : XE) : GQ E 58 := fun _ => ⟨rfl, s_RD_checkTells E, rfl, by decide +kernel, by decide +kernel, by decide +kernel⟩
theorem g_59 (E : XE) : GQ E 59 := fun _ => ⟨rfl, s_RD_checkSorts E, rfl, by decide +kernel, by decide +kernel, by decide +kernel⟩
theorem g_60 (E : XE) : GQ E 60 := fun _ => ⟨rfl, s_RW_init E, rfl, by decide +kernel, by decide +kernel, by decide +kernel⟩
theorem g_61 (E : XE) : GQ E 61 := fun _ => ⟨rfl, s_RW_size E, rfl, by decide +kernel, by decide +kernel, by decide +kernel⟩
theorem g_62 (E : XE) : GQ E 62 := fun _ => ⟨rfl, s_RW_has E, rfl, by decide +kernel, by decide +kernel, by decide +kernel⟩
theorem g_63 (E : XE) : GQ E 63 := fun _ => ⟨rfl, s_RW_one E, rfl, by decide +kernel, by decide +kernel, by decide +kernel⟩
theorem g_64 (E : XE) : GQ E 64 := fun _ => ⟨rfl, s_RW_two E, rfl, by decide +kernel, by decide +kernel, by decide +kernel⟩
theorem g_65 (E : XE) : GQ E 65 := fun _ => ⟨rfl, s_RW_four E, rfl, by decide +kernel, by decide +kernel, by decide +kernel⟩
theorem g_66 (E : XE) : GQ E 66 := fun _ => ⟨rfl, s_RW_clear E, rfl, by decide +kernel, by decide +kernel, by decide +kernel⟩
theorem g_67 (E : XE) : GQ E 67 := fun _ => ⟨rfl, s_RW_push E, rfl, by decide +kernel, by decide +kernel, by decide +kernel⟩
theorem g_68 (E : XE) : GQ E 68 := fun _ => ⟨rfl, s_RW_pushTwo E, rfl, by decide +kernel, by decide +kernel, by decide +kernel⟩
theorem g_69 (E : XE) : GQ E 69 := fun _ => ⟨rfl, s_RW_putTwo E, rfl, by decide +kernel, by decide +kernel, by decide +kernel⟩
theorem g_70 (E : XE) : GQ E 70 := fun _ => ⟨rfl, s_RW_append E, rfl, by decide +kernel, by decide +kernel, by decide +kernel⟩
theorem g_71 (E : XE) : GQ E 71 := fun _ => ⟨rfl, s_RW_take E, rfl, by decide +kernel, by decide +kernel, by decide +kernel⟩
theorem g_72 (E : XE) : GQ E 72 := fun _ => ⟨rfl, s_RW_order E, rfl, by decide +kernel, by decide +kernel, by decide +kernel⟩
theorem g_73 (E : XE) : GQ E 73 := fun _ => ⟨rfl, s_SO_isType E, rfl, by decide +kernel, by decide +kernel, by decide +kernel⟩
theorem g_74 (E : XE) : GQ E 74 := fun _ => ⟨rfl, s_SO_isMethod E, rfl, by decide +kernel, by decide +kernel, by decide +kernel⟩
theorem g_75 (E : XE) : GQ E 75 := fun _ => ⟨rfl, s_SO_width E, rfl, by decide +kernel, by decide +kernel, by decide +kernel⟩
theorem g_76 (E : XE) : GQ E 76 := fun _ => ⟨rfl, s_SO_sum E, rfl, by decide +kernel, by decide +kernel, by decide +kernel⟩
theorem g_77 (E : XE) : GQ E 77 := fun _ => ⟨rfl, s_SO_closing E, rfl, by decide +kernel, by decide +kernel, by decide +kernel⟩
theorem g_78 (E : XE) : GQ E 78 := fun _ => ⟨rfl, s_SO_typeEnd E, rfl, by decide +kernel, by decide +kernel, by decide +kernel⟩
theorem g_79 (E : XE) : GQ E 79 := fun _ => ⟨rfl, s_SO_nameEnd E, rfl, by decide +kernel, by decide +kernel, by decide +kernel⟩
theorem g_80 (E : XE) : GQ E 80 := fun _ => ⟨rfl, s_WR_init E, rfl, by decide +kernel, by decide +kernel, by decide +kernel⟩
theorem g_81 (E : XE) : GQ E 81 := fun _ => ⟨rfl, s_WR_movePlaces E, rfl, by decide +kernel, by decide +kernel, by decide +kernel⟩
theorem g_82 (E : XE) : GQ E 82 := fun _ => ⟨rfl, s_WR_push E, rfl, by decide +kernel, by decide +kernel, by decide +kernel⟩
theorem g_83 (E : XE) : GQ E 83 := fun _ => ⟨rfl, s_WR_movedTo E, rfl, by decide +kernel, by decide +kernel, by decide +kernel⟩
theorem g_84 (E : XE) : GQ E 84 := fun _ => ⟨rfl, s_WR_pushEntry E, rfl, by decide +kernel, by decide +kernel, by decide +kernel⟩
theorem g_85 (E : XE) : GQ E 85 := fun _ => ⟨rfl, s_WR_pushRest E, rfl, by decide +kernel, by decide +kernel, by decide +kernel⟩
theorem g_86 (E : XE) : GQ E 86 := fun _ => ⟨rfl, s_CP_init E, rfl, by decide +kernel, by decide +kernel, by decide +kernel⟩
theorem g_87 (E : XE) : GQ E 87 := fun _ => ⟨rfl, s_CP_feed E, rfl, by decide +kernel, by decide +kernel, by decide +kernel⟩
theorem g_88 (E : XE) : GQ E 88 := fun _ => ⟨rfl, s_CP_read E, rfl, by decide +kernel, by decide +kernel, by decide +kernel⟩
theorem g_89 (E : XE) : GQ E 89 := fun _ => ⟨rfl, s_CP_place E, rfl, by decide +kernel, by decide +kernel, by decide +kernel⟩
theorem g_90 (E : XE) : GQ E 90 := fun _ => ⟨rfl, s_CP_drop E, rfl, by decide +kernel, by decide +kernel, by decide +kernel⟩
theorem g_91 (E : XE) : GQ E 91 := fun _ => ⟨rfl, s_CP_file E, rfl, by decide +kernel, by decide +kernel, by decide +kernel⟩
theorem g_92 (E : XE) : GQ E 92 := fun _ => ⟨rfl, s_CP_entry E, rfl, by decide +kernel, by decide +kernel, by decide +kernel⟩
theorem g_93 (E : XE) : GQ E 93 := fun h => absurd h (by decide +kernel)
theorem g_94 (E : XE) : GQ E 94 := fun _ => ⟨rfl, s_CP_text E, rfl, by decide +kernel, by decide +kernel, by decide +kernel⟩
theorem g_95 (E : XE) : GQ E 95 := fun _ => ⟨rfl, s_CP_member E, rfl, by decide +kernel, by decide +kernel, by decide +kernel⟩
theorem g_96 (E : XE) : GQ E 96 := fun _ => ⟨rfl, s_CP_told E, rfl, by decide +kernel, by decide +kernel, by decide +kernel⟩
theorem g_97 (E : XE) : GQ E 97 := fun _ => ⟨rfl, s_CP_attribute E, rfl, by decide +kernel, by decide +kernel, by decide +kernel⟩
theorem g_98 (E : XE) : GQ E 98 := fun _ => ⟨rfl, s_CP_out E, rfl, by decide +kernel, by decide +kernel, by decide +kernel⟩
theorem g_99 (E : XE) : GQ E 99 := fun _ => ⟨rfl, s_CP_join E, rfl, by decide +kernel, by decide +kernel, by decide +kernel⟩
theorem g_100 (E : XE) : GQ E 100 := fun _ => ⟨rfl, s_CP_joined E, rfl, by decide +kernel, by decide +kernel, by decide +kernel⟩
theorem g_101 (E : XE) : GQ E 101 := fun _ => ⟨rfl, s_CP_meaning E, rfl, by decide +kernel, by decide +kernel, by decide +kernel⟩
theorem g_102 (E : XE) : GQ E 102 := fun _ => ⟨rfl, s_CP_alike E, rfl, by decide +kernel, by decide +kernel, by decide +kernel⟩
theorem g_103 (E : XE) : GQ E 103 := fun _ => ⟨rfl, s_CP_write E, rfl, by decide +kernel, by decide +kernel, by decide +kernel⟩
theorem g_104 (E : XE) : GQ E 104 := fun _ => ⟨rfl, s_CP_back E, rfl, by decide +kernel, by decide +kernel, by decide +kernel⟩
theorem g_105 (E : XE) : GQ E 105 := fun _ => ⟨rfl, s_CP_fileAt E, rfl, by decide +kernel, by decide +kernel, by decide +kernel⟩
theorem g_106 (E : XE) : GQ E 106 := fun _ => ⟨rfl, s_CP_showText E, rfl, by decide +kernel, by decide +kernel, by decide +kernel⟩
theorem g_107 (E : XE) : GQ E 107 := fun _ => ⟨rfl, s_CP_showClass E, rfl, by decide +kernel, by decide +kernel, by decide +kernel⟩
theorem g_108 (E : XE) : GQ E 108 := fun _ => ⟨rfl, s_CP_placesOf E, rfl, by decide +kernel, by decide +kernel, by decide +kernel⟩
theorem g_109 (E : XE) : GQ E 109 := fun _ => ⟨rfl, s_CP_isNumber E, rfl, by decide +kernel, by decide +kernel, by decide +kernel⟩
theorem g_110 (E : XE) : GQ E 110 := fun _ => ⟨rfl, s_CP_isWide E, rfl, by decide +kernel, by decide +kernel, by decide +kernel⟩
theorem g_111 (E : XE) : GQ E 111 := fun _ => ⟨rfl, s_CP_isTag E, rfl, by decide +kernel, by decide +kernel, by decide +kernel⟩
theorem g_112 (E : XE) : GQ E 112 := fun _ => ⟨rfl, s_MA_init E, rfl, by decide +kernel, by decide +kernel, by decide +kernel⟩
theorem g_113 (E : XE) : GQ E 113 := fun _ => ⟨rfl, s_MH_init E, rfl, by decide +kernel, by decide +kernel, by decide +kernel⟩
theorem g_114 (E : XE) : GQ E 114 := fun _ => ⟨rfl, s_MH_two E, rfl, by decide +kernel, by decide +kernel, by decide +kernel⟩
theorem g_115 (E : XE) : GQ E 115 := fun _ => ⟨rfl, s_MH_four E, rfl, by decide +kernel, by decide +kernel, by decide +kernel⟩
theorem g_116 (E : XE) : GQ E 116 := fun _ => ⟨rfl, s_MH_bits E, rfl, by decide +kernel, by decide +kernel, by decide +kernel⟩
theorem g_117 (E : XE) : GQ E 117 := fun _ => ⟨rfl, s_MH_first E, rfl, by decide +kernel, by decide +kernel, by decide +kernel⟩
theorem g_118 (E : XE) : GQ E 118 := fun _ => ⟨rfl, s_MH_second E, rfl, by decide +kernel, by decide +kernel, by decide +kernel⟩
theorem g_119 (E : XE) : GQ E 119 := fun _ => ⟨rfl, s_MM_init E, rfl, by decide +kernel, by decide +kernel, by decide +kernel⟩
theorem g_120 (E : XE) : GQ E 120 := fun _ => ⟨rfl, s_MB_init E, rfl, by decide +kernel, by decide +kernel, by decide +kernel⟩
theorem g_121 (E : XE) : GQ E 121 := fun _ => ⟨rfl, s_MO_init E, rfl, by decide +kernel, by decide +kernel, by decide +kernel⟩
theorem g_122 (E : XE) : GQ E 122 := fun _ => ⟨rfl, s_MO_thrown E, rfl, by decide +kernel, by decide +kernel, by decide +kernel⟩
theorem g_123 (E : XE) : GQ E 123 := fun _ => ⟨rfl, s_MO_isIn E, rfl, by decide +kernel, by decide +kernel, by decide +kernel⟩
theorem g_124 (E : XE) : GQ E 124 := fun _ => ⟨rfl, s_MO_isFile E, rfl, by decide +kernel, by decide +kernel, by decide +kernel⟩
theorem g_125 (E : XE) : GQ E 125 := fun _ => ⟨rfl, s_MO_feed E, rfl, by decide +kernel, by decide +kernel, by decide +kernel⟩
theorem g_126 (E : XE) : GQ E 126 := fun _ => ⟨rfl, s_MO_fails E, rfl, by decide +kernel, by decide +kernel, by decide +kernel⟩
theorem g_127 (E : XE) : GQ E 127 := fun _ => ⟨rfl, s_MO_goes E, rfl, by decide +kernel, by decide +kernel, by decide +kernel⟩
theorem g_128 (E : XE) : GQ E 128 := fun _ => ⟨rfl, s_MO_nextTwo E, rfl, by decide +kernel, by decide +kernel, by decide +kernel⟩
theorem g_129 (E : XE) : GQ E 129 := fun _ => ⟨rfl, s_MO_many E, rfl, by decide +kernel, by decide +kernel, by decide +kernel⟩
theorem g_130 (E : XE) : GQ E 130 := fun _ => ⟨rfl, s_MO_parse E, rfl, by decide +kernel, by decide +kernel, by decide +kernel⟩
theorem g_131 (E : XE) : GQ E 131 := fun _ => ⟨rfl, s_MO_attributes E, rfl, by decide +kernel, by decide +kernel, by decide +kernel⟩
theorem g_132 (E : XE) : GQ E 132 := fun _ => ⟨rfl, s_MO_entry E, rfl, by decide +kernel, by decide +kernel, by decide +kernel⟩
theorem g_133 (E : XE) : GQ E 133 := fun _ => ⟨rfl, s_MO_part E, rfl, by decide +kernel, by decide +kernel, by decide +kernel⟩
theorem g_134 (E : XE) : GQ E 134 := fun _ => ⟨rfl, s_MO_wrongPlace E, rfl, by decide +kernel, by decide +kernel, by decide +kernel⟩
theorem g_135 (E : XE) : GQ E 135 := fun _ => ⟨rfl, s_MO_place E, rfl, by decide +kernel, by decide +kernel, by decide +kernel⟩
theorem g_136 (E : XE) : GQ E 136 := fun _ => ⟨rfl, s_MO_names E, rfl, by decide +kernel, by decide +kernel, by decide +kernel⟩
theorem g_137 (E : XE) : GQ E 137 := fun _ => ⟨rfl, s_MO_places E, rfl, by decide +kernel, by decide +kernel, by decide +kernel⟩
theorem g_138 (E : XE) : GQ E 138 := fun _ => ⟨rfl, s_MO_type E, rfl, by decide +kernel, by decide +kernel, by decide +kernel⟩
theorem g_139 (E : XE) : GQ E 139 := fun _ => ⟨rfl, s_MO_slotsOf E, rfl, by decide +kernel, by decide +kernel, by decide +kernel⟩
theorem g_140 (E : XE) : GQ E 140 := fun _ => ⟨rfl, s_MO_isSort E, rfl, by decide +kernel, by decide +kernel, by decide +kernel⟩
theorem g_141 (E : XE) : GQ E 141 := fun _ => ⟨rfl, s_MO_sortOf E, rfl, by decide +kernel, by decide +kernel, by decide +kernel⟩
theorem g_142 (E : XE) : GQ E 142 := fun _ => ⟨rfl, s_MO_read E, rfl, by decide +kernel, by decide +kernel, by decide +kernel⟩
theorem g_143 (E : XE) : GQ E 143 := fun _ => ⟨rfl, s_MO_place_ E, rfl, by decide +kernel, by decide +kernel, by decide +kernel⟩
theorem g_144 (E : XE) : GQ E 144 := fun _ => ⟨rfl, s_MO_drop E, rfl, by decide +kernel, by decide +kernel, by decide +kernel⟩
theorem g_145 (E : XE) : GQ E 145 := fun _ => ⟨rfl, s_MO_file E, rfl, by decide +kernel, by decide +kernel, by decide +kernel⟩
theorem g_146 (E : XE) : GQ E 146 := fun _ => ⟨rfl, s_MO_entry_ E, rfl, by decide +kernel, by decide +kernel, by decide +kernel⟩
theorem g_147 (E : XE) : GQ E 147 := fun _ => ⟨rfl, s_MO_number E, rfl, by decide +kernel, by decide +kernel, by decide +kernel⟩
theorem g_148 (E : XE) : GQ E 148 := fun _ => ⟨rfl, s_MO_shows E, rfl, by decide +kernel, by decide +kernel, by decide +kernel⟩
theorem g_149 (E : XE) : GQ E 149 := fun _ => ⟨rfl, s_MO_text E, rfl, by decide +kernel, by decide +kernel, by decide +kernel⟩
theorem g_150 (E : XE) : GQ E 150 := fun _ => ⟨rfl, s_MO_member E, rfl, by decide +kernel, by decide +kernel, by decide +kernel⟩
theorem g_151 (E : XE) : GQ E 151 := fun _ => ⟨rfl, s_MO_told E, rfl, by decide +kernel, by decide +kernel, by decide +kernel⟩
theorem g_152 (E : XE) : GQ E 152 := fun _ => ⟨rfl, s_MO_attribute E, rfl, by decide +kernel, by decide +kernel, by decide +kernel⟩
theorem g_153 (E : XE) : GQ E 153 := fun _ => ⟨rfl, s_MO_out E, rfl, by decide +kernel, by decide +kernel, by decide +kernel⟩
theorem g_154 (E : XE) : GQ E 154 := fun _ => ⟨rfl, s_MO_meaningOf E, rfl, by decide +kernel, by decide +kernel, by decide +kernel⟩
theorem g_155 (E : XE) : GQ E 155 := fun _ => ⟨rfl, s_MO_compare E, rfl, by decide +kernel, by decide +kernel, by decide +kernel⟩
theorem g_156 (E : XE) : GQ E 156 := fun _ => ⟨rfl, s_MO_compare_ E, rfl, by decide +kernel, by decide +kernel, by decide +kernel⟩
theorem g_157 (E : XE) : GQ E 157 := fun _ => ⟨rfl, s_MO_find E, rfl, by decide +kernel, by decide +kernel, by decide +kernel⟩
theorem g_158 (E : XE) : GQ E 158 := fun _ => ⟨rfl, s_MO_lay E, rfl, by decide +kernel, by decide +kernel, by decide +kernel⟩
theorem g_159 (E : XE) : GQ E 159 := fun _ => ⟨rfl, s_MO_join E, rfl, by decide +kernel, by decide +kernel, by decide +kernel⟩
theorem g_160 (E : XE) : GQ E 160 := fun _ => ⟨rfl, s_MO_isEntry E, rfl, by decide +kernel, by decide +kernel, by decide +kernel⟩
theorem g_161 (E : XE) : GQ E 161 := fun _ => ⟨rfl, s_MO_joined E, rfl, by decide +kernel, by decide +kernel, by decide +kernel⟩
theorem g_162 (E : XE) : GQ E 162 := fun _ => ⟨rfl, s_MO_meaning E, rfl, by decide +kernel, by decide +kernel, by decide +kernel⟩
theorem g_163 (E : XE) : GQ E 163 := fun _ => ⟨rfl, s_MO_sameBytes E, rfl, by decide +kernel, by decide +kernel, by decide +kernel⟩
theorem g_164 (E : XE) : GQ E 164 := fun _ => ⟨rfl, s_MO_samePlace E, rfl, by decide +kernel, by decide +kernel, by decide +kernel⟩
theorem g_165 (E : XE) : GQ E 165 := fun _ => ⟨rfl, s_MO_same E, rfl, by decide +kernel, by decide +kernel, by decide +kernel⟩
theorem g_166 (E : XE) : GQ E 166 := fun _ => ⟨rfl, s_MO_isAlike E, rfl, by decide +kernel, by decide +kernel, by decide +kernel⟩
theorem g_167 (E : XE) : GQ E 167 := fun _ => ⟨rfl, s_MO_alike E, rfl, by decide +kernel, by decide +kernel, by decide +kernel⟩
theorem g_168 (E : XE) : GQ E 168 := fun _ => ⟨rfl, s_MO_add E, rfl, by decide +kernel, by decide +kernel, by decide +kernel⟩
theorem g_169 (E : XE) : GQ E 169 := fun _ => ⟨rfl, s_MO_addTwo E, rfl, by decide +kernel, by decide +kernel, by decide +kernel⟩
theorem g_170 (E : XE) : GQ E 170 := fun _ => ⟨rfl, s_MO_addFour E, rfl, by decide +kernel, by decide +kernel, by decide +kernel⟩
theorem g_171 (E : XE) : GQ E 171 := fun _ => ⟨rfl, s_MO_addBytes E, rfl, by decide +kernel, by decide +kernel, by decide +kernel⟩
theorem g_172 (E : XE) : GQ E 172 := fun _ => ⟨rfl, s_MO_moved E, rfl, by decide +kernel, by decide +kernel, by decide +kernel⟩
theorem g_173 (E : XE) : GQ E 173 := fun _ => ⟨rfl, s_MO_placeOf E, rfl, by decide +kernel, by decide +kernel, by decide +kernel⟩
theorem g_174 (E : XE) : GQ E 174 := fun _ => ⟨rfl, s_MO_addEntry E, rfl, by decide +kernel, by decide +kernel, by decide +kernel⟩
theorem g_175 (E : XE) : GQ E 175 := fun _ => ⟨rfl, s_MO_addAttributes E, rfl, by decide +kernel, by decide +kernel, by decide +kernel⟩
theorem g_176 (E : XE) : GQ E 176 := fun _ => ⟨rfl, s_MO_inOrder E, rfl, by decide +kernel, by decide +kernel, by decide +kernel⟩
theorem g_177 (E : XE) : GQ E 177 := fun _ => ⟨rfl, s_MO_write E, rfl, by decide +kernel, by decide +kernel, by decide +kernel⟩
theorem g_178 (E : XE) : GQ E 178 := fun _ => ⟨rfl, s_MO_back E, rfl, by decide +kernel, by decide +kernel, by decide +kernel⟩
theorem g_179 (E : XE) : GQ E 179 := fun _ => ⟨rfl, s_JI_compare E, rfl, by decide +kernel, by decide +kernel, by decide +kernel⟩
theorem g_180 (E : XE) : GQ E 180 := fun _ => ⟨rfl, s_JL_compare E, rfl, by decide +kernel, by decide +kernel, by decide +kernel⟩
theorem g_181 (E : XE) : GQ E 181 := fun _ => ⟨rfl, s_JM_max E, rfl, by decide +kernel, by decide +kernel, by decide +kernel⟩
theorem g_182 (E : XE) : GQ E 182 := fun _ => ⟨rfl, s_JM_min E, rfl, by decide +kernel, by decide +kernel, by decide +kernel⟩
theorem g_183 (E : XE) : GQ E 183 := fun _ => ⟨rfl, s_JS_length E, rfl, by decide +kernel, by decide +kernel, by decide +kernel⟩
theorem g_184 (E : XE) : GQ E 184 := fun _ => ⟨rfl, s_JS_indexOf E, rfl, by decide +kernel, by decide +kernel, by decide +kernel⟩
theorem g_185 (E : XE) : GQ E 185 := fun _ => ⟨rfl, s_JS_indexOf_ E, rfl, by decide +kernel, by decide +kernel, by decide +kernel⟩
theorem g_186 (E : XE) : GQ E 186 := fun _ => ⟨rfl, s_JS_coder E, rfl, by decide +kernel, by decide +kernel, by decide +kernel⟩
theorem g_187 (E : XE) : GQ E 187 := fun _ => ⟨rfl, s_JS_isLatin1 E, rfl, by decide +kernel, by decide +kernel, by decide +kernel⟩
theorem g_188 (E : XE) : GQ E 188 := fun _ => ⟨rfl, s_JT_canEncode E, rfl, by decide +kernel, by decide +kernel, by decide +kernel⟩
theorem g_189 (E : XE) : GQ E 189 := fun _ => ⟨rfl, s_JT_indexOf E, rfl, by decide +kernel, by decide +kernel, by decide +kernel⟩
theorem g_190 (E : XE) : GQ E 190 := fun _ => ⟨rfl, s_JT_indexOfChar E, rfl, by decide +kernel, by decide +kernel, by decide +kernel⟩
theorem g_191 (E : XE) : GQ E 191 := fun _ => ⟨rfl, s_JA_fill E, rfl, by decide +kernel, by decide +kernel, by decide +kernel⟩
theorem g_192 (E : XE) : GQ E 192 := fun h => absurd h (by decide +kernel)
theorem g_193 (E : XE) : GQ E 193 := fun h => absurd h (by decide +kernel)
set_option maxRecDepth 20000 in
theorem g_lo (E : XE) : ∀ mid, 0 ≤ mid → mid < 194 → GQ E mid := (sp_2 (b := 97) (sp_2 (b := 48) (sp_2 (b := 24) (sp_2 (b := 12) (sp_2 (b := 6) (sp_2 (b := 3) (sp_2 (b := 1) (sp_1 rfl (g_0 E)) (sp_2 (b := 2) (sp_1 rfl (g_1 E)) (sp_1 rfl (g_2 E)))) (sp_2 (b := 4) (sp_1 rfl (g_3 E)) (sp_2 (b := 5) (sp_1 rfl (g_4 E)) (sp_1 rfl (g_5 E))))) (sp_2 (b := 9) (sp_2 (b := 7) (sp_1 rfl (g_6 E)) (sp_2 (b := 8) (sp_1 rfl (g_7 E)) (sp_1 rfl (g_8 E)))) (sp_2 (b := 10) (sp_1 rfl (g_9 E)) (sp_2 (b := 11) (sp_1 rfl (g_10 E)) (sp_1 rfl (g_11 E)))))) (sp_2 (b := 18) (sp_2 (b := 15) (sp_2 (b := 13) (sp_1 rfl (g_12 E)) (sp_2 (b := 14) (sp_1 rfl (g_13 E)) (sp_1 rfl (g_14 E)))) (sp_2 (b := 16) (sp_1 rfl (g_15 E)) (sp_2 (b := 17) (sp_1 rfl (g_16 E)) (sp_1 rfl (g_17 E))))) (sp_2 (b := 21) (sp_2 (b := 19) (sp_1 rfl (g_18 E)) (sp_2 (b := 20) (sp_1 rfl (g_19 E)) (sp_1 rfl (g_20 E)))) (sp_2 (b := 22) (sp_1 rfl (g_21 E)) (sp_2 (b := 23) (sp_1 rfl (g_22 E)) (sp_1 rfl (g_23 E))))))) (sp_2 (b := 36) (sp_2 (b := 30) (sp_2 (b := 27) (sp_2 (b := 25) (sp_1 rfl (g_24 E)) (sp_2 (b := 26) (sp_1 rfl (g_25 E)) (sp_1 rfl (g_26 E)))) (sp_2 (b := 28) (sp_1 rfl (g_27 E)) (sp_2 (b := 29) (sp_1 rfl (g_28 E)) (sp_1 rfl (g_29 E))))) (sp_2 (b := 33) (sp_2 (b := 31) (sp_1 rfl (g_30 E)) (sp_2 (b := 32) (sp_1 rfl (g_31 E)) (sp_1 rfl (g_32 E)))) (sp_2 (b := 34) (sp_1 rfl (g_33 E)) (sp_2 (b := 35) (sp_1 rfl (g_34 E)) (sp_1 rfl (g_35 E)))))) (sp_2 (b := 42) (sp_2 (b := 39) (sp_2 (b := 37) (sp_1 rfl (g_36 E)) (sp_2 (b := 38) (sp_1 rfl (g_37 E)) (sp_1 rfl (g_38 E)))) (sp_2 (b := 40) (sp_1 rfl (g_39 E)) (sp_2 (b := 41) (sp_1 rfl (g_40 E)) (sp_1 rfl (g_41 E))))) (sp_2 (b := 45) (sp_2 (b := 43) (sp_1 rfl (g_42 E)) (sp_2 (b := 44) (sp_1 rfl (g_43 E)) (sp_1 rfl (g_44 E)))) (sp_2 (b := 46) (sp_1 rfl (g_45 E)) (sp_2 (b := 47) (sp_1 rfl (g_46 E)) (sp_1 rfl (g_47 E)))))))) (sp_2 (b := 72) (sp_2 (b := 60) (sp_2 (b := 54) (sp_2 (b := 51) (sp_2 (b := 49) (sp_1 rfl (g_48 E)) (sp_2 (b := 50) (sp_1 rfl (g_49 E)) (sp_1 rfl (g_50 E)))) (sp_2 (b := 52) (sp_1 rfl (g_51 E)) (sp_2 (b := 53) (sp_1 rfl (g_52 E)) (sp_1 rfl (g_53 E))))) (sp_2 (b := 57) (sp_2 (b := 55) (sp_1 rfl (g_54 E)) (sp_2 (b := 56) (sp_1 rfl (g_55 E)) (sp_1 rfl (g_56 E)))) (sp_2 (b := 58) (sp_1 rfl (g_57 E)) (sp_2 (b := 59) (sp_1 rfl (g_58 E)) (sp_1 rfl (g_59 E)))))) (sp_2 (b := 66) (sp_2 (b := 63) (sp_2 (b := 61) (sp_1 rfl (g_60 E)) (sp_2 (b := 62) (sp_1 rfl (g_61 E)) (sp_1 rfl (g_62 E)))) (sp_2 (b := 64) (sp_1 rfl (g_63 E)) (sp_2 (b := 65) (sp_1 rfl (g_64 E)) (sp_1 rfl (g_65 E))))) (sp_2 (b := 69) (sp_2 (b := 67) (sp_1 rfl (g_66 E)) (sp_2 (b := 68) (sp_1 rfl (g_67 E)) (sp_1 rfl (g_68 E)))) (sp_2 (b := 70) (sp_1 rfl (g_69 E)) (sp_2 (b := 71) (sp_1 rfl (g_70 E)) (sp_1 rfl (g_71 E))))))) (sp_2 (b := 84) (sp_2 (b := 78) (sp_2 (b := 75) (sp_2 (b := 73) (sp_1 rfl (g_72 E)) (sp_2 (b := 74) (sp_1 rfl (g_73 E)) (sp_1 rfl (g_74 E)))) (sp_2 (b := 76) (sp_1 rfl (g_75 E)) (sp_2 (b := 77) (sp_1 rfl (g_76 E)) (sp_1 rfl (g_77 E))))) (sp_2 (b := 81) (sp_2 (b := 79) (sp_1 rfl (g_78 E)) (sp_2 (b := 80) (sp_1 rfl (g_79 E)) (sp_1 rfl (g_80 E)))) (sp_2 (b := 82) (sp_1 rfl (g_81 E)) (sp_2 (b := 83) (sp_1 rfl (g_82 E)) (sp_1 rfl (g_83 E)))))) (sp_2 (b := 90) (sp_2 (b := 87) (sp_2 (b := 85) (sp_1 rfl (g_84 E)) (sp_2 (b := 86) (sp_1 rfl (g_85 E)) (sp_1 rfl (g_86 E)))) (sp_2 (b := 88) (sp_1 rfl (g_87 E)) (sp_2 (b := 89) (sp_1 rfl (g_88 E)) (sp_1 rfl (g_89 E))))) (sp_2 (b := 93) (sp_2 (b := 91) (sp_1 rfl (g_90 E)) (sp_2 (b := 92) (sp_1 rfl (g_91 E)) (sp_1 rfl (g_92 E)))) (sp_2 (b := 95) (sp_2 (b := 94) (sp_1 rfl (g_93 E)) (sp_1 rfl (g_94 E))) (sp_2 (b := 96) (sp_1 rfl (g_95 E)) (sp_1 rfl (g_96 E))))))))) (sp_2 (b := 145) (sp_2 (b := 121) (sp_2 (b := 109) (sp_2 (b := 103) (sp_2 (b := 100) (sp_2 (b := 98) (sp_1 rfl (g_97 E)) (sp_2 (b := 99) (sp_1 rfl (g_98 E)) (sp_1 rfl (g_99 E)))) (sp_2 (b := 101) (sp_1 rfl (g_100 E)) (sp_2 (b := 102) (sp_1 rfl (g_101 E)) (sp_1 rfl (g_102 E))))) (sp_2 (b := 106) (sp_2 (b := 104) (sp_1 rfl (g_103 E)) (sp_2 (b := 105) (sp_1 rfl (g_104 E)) (sp_1 rfl (g_105 E)))) (sp_2 (b := 107) (sp_1 rfl (g_106 E)) (sp_2 (b := 108) (sp_1 rfl (g_107 E)) (sp_1 rfl (g_108 E)))))) (sp_2 (b := 115) (sp_2 (b := 112) (sp_2 (b := 110) (sp_1 rfl (g_109 E)) (sp_2 (b := 111) (sp_1 rfl (g_110 E)) (sp_1 rfl (g_111 E)))) (sp_2 (b := 113) (sp_1 rfl (g_112 E)) (sp_2 (b := 114) (sp_1 rfl (g_113 E)) (sp_1 rfl (g_114 E))))) (sp_2 (b := 118) (sp_2 (b := 116) (sp_1 rfl (g_115 E)) (sp_2 (b := 117) (sp_1 rfl (g_116 E)) (sp_1 rfl (g_117 E)))) (sp_2 (b := 119) (sp_1 rfl (g_118 E)) (sp_2 (b := 120) (sp_1 rfl (g_119 E)) (sp_1 rfl (g_120 E))))))) (sp_2 (b := 133) (sp_2 (b := 127) (sp_2 (b := 124) (sp_2 (b := 122) (sp_1 rfl (g_121 E)) (sp_2 (b := 123) (sp_1 rfl (g_122 E)) (sp_1 rfl (g_123 E)))) (sp_2 (b := 125) (sp_1 rfl (g_124 E)) (sp_2 (b := 126) (sp_1 rfl (g_125 E)) (sp_1 rfl (g_126 E))))) (sp_2 (b := 130) (sp_2 (b := 128) (sp_1 rfl (g_127 E)) (sp_2 (b := 129) (sp_1 rfl (g_128 E)) (sp_1 rfl (g_129 E)))) (sp_2 (b := 131) (sp_1 rfl (g_130 E)) (sp_2 (b := 132) (sp_1 rfl (g_131 E)) (sp_1 rfl (g_132 E)))))) (sp_2 (b := 139) (sp_2 (b := 136) (sp_2 (b := 134) (sp_1 rfl (g_133 E)) (sp_2 (b := 135) (sp_1 rfl (g_134 E)) (sp_1 rfl (g_135 E)))) (sp_2 (b := 137) (sp_1 rfl (g_136 E)) (sp_2 (b := 138) (sp_1 rfl (g_137 E)) (sp_1 rfl (g_138 E))))) (sp_2 (b := 142) (sp_2 (b := 140) (sp_1 rfl (g_139 E)) (sp_2 (b := 141) (sp_1 rfl (g_140 E)) (sp_1 rfl (g_141 E)))) (sp_2 (b := 143) (sp_1 rfl (g_142 E)) (sp_2 (b := 144) (sp_1 rfl (g_143 E)) (sp_1 rfl (g_144 E)))))))) (sp_2 (b := 169) (sp_2 (b := 157) (sp_2 (b := 151) (sp_2 (b := 148) (sp_2 (b := 146) (sp_1 rfl (g_145 E)) (sp_2 (b := 147) (sp_1 rfl (g_146 E)) (sp_1 rfl (g_147 E)))) (sp_2 (b := 149) (sp_1 rfl (g_148 E)) (sp_2 (b := 150) (sp_1 rfl (g_149 E)) (sp_1 rfl (g_150 E))))) (sp_2 (b := 154) (sp_2 (b := 152) (sp_1 rfl (g_151 E)) (sp_2 (b := 153) (sp_1 rfl (g_152 E)) (sp_1 rfl (g_153 E)))) (sp_2 (b := 155) (sp_1 rfl (g_154 E)) (sp_2 (b := 156) (sp_1 rfl (g_155 E)) (sp_1 rfl (g_156 E)))))) (sp_2 (b := 163) (sp_2 (b := 160) (sp_2 (b := 158) (sp_1 rfl (g_157 E)) (sp_2 (b := 159) (sp_1 rfl (g_158 E)) (sp_1 rfl (g_159 E)))) (sp_2 (b := 161) (sp_1 rfl (g_160 E)) (sp_2 (b := 162) (sp_1 rfl (g_161 E)) (sp_1 rfl (g_162 E))))) (sp_2 (b := 166) (sp_2 (b := 164) (sp_1 rfl (g_163 E)) (sp_2 (b := 165) (sp_1 rfl (g_164 E)) (sp_1 rfl (g_165 E)))) (sp_2 (b := 167) (sp_1 rfl (g_166 E)) (sp_2 (b := 168) (sp_1 rfl (g_167 E)) (sp_1 rfl (g_168 E))))))) (sp_2 (b := 181) (sp_2 (b := 175) (sp_2 (b := 172) (sp_2 (b := 170) (sp_1 rfl (g_169 E)) (sp_2 (b := 171) (sp_1 rfl (g_170 E)) (sp_1 rfl (g_171 E)))) (sp_2 (b := 173) (sp_1 rfl (g_172 E)) (sp_2 (b := 174) (sp_1 rfl (g_173 E)) (sp_1 rfl (g_174 E))))) (sp_2 (b := 178) (sp_2 (b := 176) (sp_1 rfl (g_175 E)) (sp_2 (b := 177) (sp_1 rfl (g_176 E)) (sp_1 rfl (g_177 E)))) (sp_2 (b := 179) (sp_1 rfl (g_178 E)) (sp_2 (b := 180) (sp_1 rfl (g_179 E)) (sp_1 rfl (g_180 E)))))) (sp_2 (b := 187) (sp_2 (b := 184) (sp_2 (b := 182) (sp_1 rfl (g_181 E)) (sp_2 (b := 183) (sp_1 rfl (g_182 E)) (sp_1 rfl (g_183 E)))) (sp_2 (b := 185) (sp_1 rfl (g_184 E)) (sp_2 (b := 186) (sp_1 rfl (g_185 E)) (sp_1 rfl (g_186 E))))) (sp_2 (b := 190) (sp_2 (b := 188) (sp_1 rfl (g_187 E)) (sp_2 (b := 189) (sp_1 rfl (g_188 E)) (sp_1 rfl (g_189 E)))) (sp_2 (b := 192) (sp_2 (b := 191) (sp_1 rfl (g_190 E)) (sp_1 rfl (g_191 E))) (sp_2 (b := 193) (sp_1 rfl (g_192 E)) (sp_1 rfl (g_193 E))))))))))
theorem mI_hi {mid : Nat} (h : 194 ≤ mid) : mI mid = (yX4_one, cX4_one, 0, none) := by
  have e : mtab.length = 194 := by decide +kernel
  rw [mI, List.getD_eq_getElem?_getD, List.getElem?_eq_none (by omega)]; rfl
theorem kt_hi {nb sa mid : Nat} (h : 194 ≤ mid) : (prog nb sa mid).1 = fun _ => none := by
  have e : (ktab nb sa).length = 194 := rfl
  show (ktab nb sa).getD mid (fun _ => none) = _
  rw [List.getD_eq_getElem?_getD, List.getElem?_eq_none (by omega)]; rfl
theorem g_all (E : XE) (mid : Nat) : lvO (mI mid).1 ≤ 8 → GM E (prog E.2.1 E.2.2.1) mid := by
  by_cases h : mid < 194
  · exact g_lo E mid (Nat.zero_le _) h
  · intro _
    have h2 := Nat.le_of_not_lt h
    refine ⟨?_, ?_, rfl, ?_, ?_, ?_⟩
    · cases hb : Nat.beq mid 192 with
      | false => rfl
      | true => have := Nat.eq_of_beq_eq_true hb; omega
    · rw [kt_hi h2]; intro pc o ho; cases ho
    · rw [mI_hi h2]; decide +kernel
    · rw [mI_hi h2]; decide +kernel
    · rw [mI_hi h2]; decide
theorem lv_low : ∀ mid, lvO (mI mid).1 < 14 → lvO (mI mid).1 ≤ 8 ∨ mid = 192 := by
  intro mid hl
  by_cases h : mid < 194
  · have hd : (List.range 194).all (fun mid => decide (lvO (mI mid).1 ≤ 8) || decide (mid = 192) || decide (14 ≤ lvO (mI mid).1)) = true := by decide +kernel
    have h1 := List.all_eq_true.mp hd mid (List.mem_range.mpr h)
    simp only [Bool.or_eq_true, decide_eq_true_eq] at h1
    omega
  · rw [mI_hi (Nat.le_of_not_lt h)]
    exact Or.inl (by decide +kernel)
