/-! ===== printed by wip/whole/gen2.py: a row an instruction ===== -/
section
theorem i_X0_init_0 : aq_T 0 0 = some (aq_ld 4 0 1) := rfl
theorem i_X0_init_1 : aq_T 0 1 = some (aq_oi 4) := rfl
theorem i_X0_init_4 : aq_T 0 4 = some (aq_ld 4 0 5) := rfl
theorem i_X0_init_5 : aq_T 0 5 = some (aq_push (.int (3)) 6) := rfl
theorem i_X0_init_6 : aq_T 0 6 = some (aq_newa 1 8) := rfl
theorem i_X0_init_8 : aq_T 0 8 = some (aq_pf 0 0 4 11) := rfl
theorem i_X0_init_11 : aq_T 0 11 = some (aq_retv) := rfl
theorem i_X0_count_0 : aq_T 1 0 = some (aq_ld 4 0 1) := rfl
theorem i_X0_count_1 : aq_T 1 1 = some (aq_gf 0 2 4) := rfl
theorem i_X0_count_4 : aq_T 1 4 = some (aq_ret 0) := rfl
theorem i_X0_ends_0 : aq_T 2 0 = some (aq_ld 4 0 1) := rfl
theorem i_X0_ends_1 : aq_T 2 1 = some (aq_gf 0 1 4) := rfl
theorem i_X0_ends_4 : aq_T 2 4 = some (aq_ret 1) := rfl
theorem i_X0_endsWithout_0 : aq_T 3 0 = some (aq_ld 4 0 1) := rfl
theorem i_X0_endsWithout_1 : aq_T 3 1 = some (aq_gf 0 1 4) := rfl
theorem i_X0_endsWithout_4 : aq_T 3 4 = some (aq_push (.long (31)) 7) := rfl
theorem i_X0_endsWithout_7 : aq_T 3 7 = some (aq_push (.int (5)) 8) := rfl
theorem i_X0_endsWithout_8 : aq_T 3 8 = some (aq_ld 0 1 9) := rfl
theorem i_X0_endsWithout_9 : aq_T 3 9 = some (aq_ar af_imul 10) := rfl
theorem i_X0_endsWithout_10 : aq_T 3 10 = some (aq_ar af_lshl 11) := rfl
theorem i_X0_endsWithout_11 : aq_T 3 11 = some (aq_push (.long (-1)) 14) := rfl
theorem i_X0_endsWithout_14 : aq_T 3 14 = some (aq_ar af_lxor 15) := rfl
theorem i_X0_endsWithout_15 : aq_T 3 15 = some (aq_ar af_land 16) := rfl
theorem i_X0_endsWithout_16 : aq_T 3 16 = some (aq_ret 1) := rfl
theorem i_X0_removeAll_0 : aq_T 4 0 = some (aq_ld 4 0 1) := rfl
theorem i_X0_removeAll_1 : aq_T 4 1 = some (aq_push (.int (0)) 2) := rfl
theorem i_X0_removeAll_2 : aq_T 4 2 = some (aq_pf 0 2 0 5) := rfl
theorem i_X0_removeAll_5 : aq_T 4 5 = some (aq_ld 4 0 6) := rfl
theorem i_X0_removeAll_6 : aq_T 4 6 = some (aq_push (.long 0) 7) := rfl
theorem i_X0_removeAll_7 : aq_T 4 7 = some (aq_pf 0 1 1 10) := rfl
theorem i_X0_removeAll_10 : aq_T 4 10 = some (aq_push (.int (0)) 11) := rfl
theorem i_X0_removeAll_11 : aq_T 4 11 = some (aq_st 0 1 12) := rfl
theorem i_X0_removeAll_12 : aq_T 4 12 = some (aq_ld 0 1 13) := rfl
theorem i_X0_removeAll_13 : aq_T 4 13 = some (aq_ld 4 0 14) := rfl
theorem i_X0_removeAll_14 : aq_T 4 14 = some (aq_gf 0 0 17) := rfl
theorem i_X0_removeAll_17 : aq_T 4 17 = some (aq_len 18) := rfl
theorem i_X0_removeAll_18 : aq_T 4 18 = some (aq_if ai_ge 34 21) := rfl
theorem i_X0_removeAll_21 : aq_T 4 21 = some (aq_ld 4 0 22) := rfl
theorem i_X0_removeAll_22 : aq_T 4 22 = some (aq_gf 0 0 25) := rfl
theorem i_X0_removeAll_25 : aq_T 4 25 = some (aq_ld 0 1 26) := rfl
theorem i_X0_removeAll_26 : aq_T 4 26 = some (aq_push (.long 0) 27) := rfl
theorem i_X0_removeAll_27 : aq_T 4 27 = some (aq_stl 28) := rfl
theorem i_X0_removeAll_28 : aq_T 4 28 = some (aq_inc 1 (1) 31) := rfl
theorem i_X0_removeAll_31 : aq_T 4 31 = some (aq_go 12) := rfl
theorem i_X0_removeAll_34 : aq_T 4 34 = some (aq_retv) := rfl
theorem i_X0_copyFrom_0 : aq_T 5 0 = some (aq_ld 4 0 1) := rfl
theorem i_X0_copyFrom_1 : aq_T 5 1 = some (aq_ld 4 1 2) := rfl
theorem i_X0_copyFrom_2 : aq_T 5 2 = some (aq_gf 0 2 5) := rfl
theorem i_X0_copyFrom_5 : aq_T 5 5 = some (aq_pf 0 2 0 8) := rfl
theorem i_X0_copyFrom_8 : aq_T 5 8 = some (aq_ld 4 0 9) := rfl
theorem i_X0_copyFrom_9 : aq_T 5 9 = some (aq_ld 4 1 10) := rfl
theorem i_X0_copyFrom_10 : aq_T 5 10 = some (aq_gf 0 1 13) := rfl
theorem i_X0_copyFrom_13 : aq_T 5 13 = some (aq_pf 0 1 1 16) := rfl
theorem i_X0_copyFrom_16 : aq_T 5 16 = some (aq_push (.int (0)) 17) := rfl
theorem i_X0_copyFrom_17 : aq_T 5 17 = some (aq_st 0 2 18) := rfl
theorem i_X0_copyFrom_18 : aq_T 5 18 = some (aq_ld 0 2 19) := rfl
theorem i_X0_copyFrom_19 : aq_T 5 19 = some (aq_ld 4 0 20) := rfl
theorem i_X0_copyFrom_20 : aq_T 5 20 = some (aq_gf 0 0 23) := rfl
theorem i_X0_copyFrom_23 : aq_T 5 23 = some (aq_len 24) := rfl
theorem i_X0_copyFrom_24 : aq_T 5 24 = some (aq_if ai_ge 54 27) := rfl
theorem i_X0_copyFrom_27 : aq_T 5 27 = some (aq_ld 0 2 28) := rfl
theorem i_X0_copyFrom_28 : aq_T 5 28 = some (aq_ld 4 1 29) := rfl
theorem i_X0_copyFrom_29 : aq_T 5 29 = some (aq_gf 0 0 32) := rfl
theorem i_X0_copyFrom_32 : aq_T 5 32 = some (aq_len 33) := rfl
theorem i_X0_copyFrom_33 : aq_T 5 33 = some (aq_if ai_ge 54 36) := rfl
theorem i_X0_copyFrom_36 : aq_T 5 36 = some (aq_ld 4 0 37) := rfl
theorem i_X0_copyFrom_37 : aq_T 5 37 = some (aq_gf 0 0 40) := rfl
theorem i_X0_copyFrom_40 : aq_T 5 40 = some (aq_ld 0 2 41) := rfl
theorem i_X0_copyFrom_41 : aq_T 5 41 = some (aq_ld 4 1 42) := rfl
theorem i_X0_copyFrom_42 : aq_T 5 42 = some (aq_gf 0 0 45) := rfl
theorem i_X0_copyFrom_45 : aq_T 5 45 = some (aq_ld 0 2 46) := rfl
theorem i_X0_copyFrom_46 : aq_T 5 46 = some (aq_ldl 47) := rfl
theorem i_X0_copyFrom_47 : aq_T 5 47 = some (aq_stl 48) := rfl
theorem i_X0_copyFrom_48 : aq_T 5 48 = some (aq_inc 2 (1) 51) := rfl
theorem i_X0_copyFrom_51 : aq_T 5 51 = some (aq_go 18) := rfl
theorem i_X0_copyFrom_54 : aq_T 5 54 = some (aq_retv) := rfl
theorem i_X0_include_0 : aq_T 6 0 = some (aq_push (.int (5)) 1) := rfl
theorem i_X0_include_1 : aq_T 6 1 = some (aq_ld 4 0 2) := rfl
theorem i_X0_include_2 : aq_T 6 2 = some (aq_gf 0 2 5) := rfl
theorem i_X0_include_5 : aq_T 6 5 = some (aq_ar af_imul 6) := rfl
theorem i_X0_include_6 : aq_T 6 6 = some (aq_st 0 2 7) := rfl
theorem i_X0_include_7 : aq_T 6 7 = some (aq_push (.int (0)) 8) := rfl
theorem i_X0_include_8 : aq_T 6 8 = some (aq_st 0 3 9) := rfl
theorem i_X0_include_9 : aq_T 6 9 = some (aq_ld 0 3 10) := rfl
theorem i_X0_include_10 : aq_T 6 10 = some (aq_ld 4 0 11) := rfl
theorem i_X0_include_11 : aq_T 6 11 = some (aq_gf 0 0 14) := rfl
theorem i_X0_include_14 : aq_T 6 14 = some (aq_len 15) := rfl
theorem i_X0_include_15 : aq_T 6 15 = some (aq_if ai_ge 40 18) := rfl
theorem i_X0_include_18 : aq_T 6 18 = some (aq_ld 4 0 19) := rfl
theorem i_X0_include_19 : aq_T 6 19 = some (aq_gf 0 0 22) := rfl
theorem i_X0_include_22 : aq_T 6 22 = some (aq_ld 0 3 23) := rfl
theorem i_X0_include_23 : aq_T 6 23 = some (aq_ar af_dup11 24) := rfl
theorem i_X0_include_24 : aq_T 6 24 = some (aq_ldl 25) := rfl
theorem i_X0_include_25 : aq_T 6 25 = some (aq_ld 4 1 26) := rfl
theorem i_X0_include_26 : aq_T 6 26 = some (aq_ld 0 3 27) := rfl
theorem i_X0_include_27 : aq_T 6 27 = some (aq_call 61 2 (some 5) 30) := rfl
theorem i_X0_include_30 : aq_T 6 30 = some (aq_ld 0 2 31) := rfl
theorem i_X0_include_31 : aq_T 6 31 = some (aq_ar af_lshl 32) := rfl
theorem i_X0_include_32 : aq_T 6 32 = some (aq_ar af_lor 33) := rfl
theorem i_X0_include_33 : aq_T 6 33 = some (aq_stl 34) := rfl
theorem i_X0_include_34 : aq_T 6 34 = some (aq_inc 3 (1) 37) := rfl
theorem i_X0_include_37 : aq_T 6 37 = some (aq_go 9) := rfl
theorem i_X0_include_40 : aq_T 6 40 = some (aq_ld 4 0 41) := rfl
theorem i_X0_include_41 : aq_T 6 41 = some (aq_ar af_dup 42) := rfl
theorem i_X0_include_42 : aq_T 6 42 = some (aq_gf 0 1 45) := rfl
theorem i_X0_include_45 : aq_T 6 45 = some (aq_push (.long 1) 46) := rfl
theorem i_X0_include_46 : aq_T 6 46 = some (aq_ld 0 2 47) := rfl
theorem i_X0_include_47 : aq_T 6 47 = some (aq_ld 4 1 48) := rfl
theorem i_X0_include_48 : aq_T 6 48 = some (aq_call 49 1 (some 5) 51) := rfl
theorem i_X0_include_51 : aq_T 6 51 = some (aq_ar af_iadd 52) := rfl
theorem i_X0_include_52 : aq_T 6 52 = some (aq_push (.int (1)) 53) := rfl
theorem i_X0_include_53 : aq_T 6 53 = some (aq_ar af_isub 54) := rfl
theorem i_X0_include_54 : aq_T 6 54 = some (aq_ar af_lshl 55) := rfl
theorem i_X0_include_55 : aq_T 6 55 = some (aq_ar af_lor 56) := rfl
theorem i_X0_include_56 : aq_T 6 56 = some (aq_pf 0 1 1 59) := rfl
theorem i_X0_include_59 : aq_T 6 59 = some (aq_ld 4 0 60) := rfl
theorem i_X0_include_60 : aq_T 6 60 = some (aq_ar af_dup 61) := rfl
theorem i_X0_include_61 : aq_T 6 61 = some (aq_gf 0 2 64) := rfl
theorem i_X0_include_64 : aq_T 6 64 = some (aq_push (.int (1)) 65) := rfl
theorem i_X0_include_65 : aq_T 6 65 = some (aq_ar af_iadd 66) := rfl
theorem i_X0_include_66 : aq_T 6 66 = some (aq_pf 0 2 0 69) := rfl
theorem i_X0_include_69 : aq_T 6 69 = some (aq_retv) := rfl
theorem i_X0_exclude_0 : aq_T 7 0 = some (aq_push (.int (0)) 1) := rfl
theorem i_X0_exclude_1 : aq_T 7 1 = some (aq_st 0 2 2) := rfl
theorem i_X0_exclude_2 : aq_T 7 2 = some (aq_ld 0 2 3) := rfl
theorem i_X0_exclude_3 : aq_T 7 3 = some (aq_ld 4 0 4) := rfl
theorem i_X0_exclude_4 : aq_T 7 4 = some (aq_gf 0 0 7) := rfl
theorem i_X0_exclude_7 : aq_T 7 7 = some (aq_len 8) := rfl
theorem i_X0_exclude_8 : aq_T 7 8 = some (aq_if ai_ge 33 11) := rfl
theorem i_X0_exclude_11 : aq_T 7 11 = some (aq_ld 4 0 12) := rfl
theorem i_X0_exclude_12 : aq_T 7 12 = some (aq_gf 0 0 15) := rfl
theorem i_X0_exclude_15 : aq_T 7 15 = some (aq_ld 0 2 16) := rfl
theorem i_X0_exclude_16 : aq_T 7 16 = some (aq_ld 4 0 17) := rfl
theorem i_X0_exclude_17 : aq_T 7 17 = some (aq_gf 0 0 20) := rfl
theorem i_X0_exclude_20 : aq_T 7 20 = some (aq_ld 0 2 21) := rfl
theorem i_X0_exclude_21 : aq_T 7 21 = some (aq_ldl 22) := rfl
theorem i_X0_exclude_22 : aq_T 7 22 = some (aq_ld 0 1 23) := rfl
theorem i_X0_exclude_23 : aq_T 7 23 = some (aq_call 8 2 none 26) := rfl
theorem i_X0_exclude_26 : aq_T 7 26 = some (aq_stl 27) := rfl
theorem i_X0_exclude_27 : aq_T 7 27 = some (aq_inc 2 (1) 30) := rfl
theorem i_X0_exclude_30 : aq_T 7 30 = some (aq_go 2) := rfl
theorem i_X0_exclude_33 : aq_T 7 33 = some (aq_ld 4 0 34) := rfl
theorem i_X0_exclude_34 : aq_T 7 34 = some (aq_ld 4 0 35) := rfl
theorem i_X0_exclude_35 : aq_T 7 35 = some (aq_gf 0 1 38) := rfl
theorem i_X0_exclude_38 : aq_T 7 38 = some (aq_ld 0 1 39) := rfl
theorem i_X0_exclude_39 : aq_T 7 39 = some (aq_call 8 2 none 42) := rfl
theorem i_X0_exclude_42 : aq_T 7 42 = some (aq_pf 0 1 1 45) := rfl
theorem i_X0_exclude_45 : aq_T 7 45 = some (aq_ld 4 0 46) := rfl
theorem i_X0_exclude_46 : aq_T 7 46 = some (aq_ar af_dup 47) := rfl
theorem i_X0_exclude_47 : aq_T 7 47 = some (aq_gf 0 2 50) := rfl
theorem i_X0_exclude_50 : aq_T 7 50 = some (aq_push (.int (1)) 51) := rfl
theorem i_X0_exclude_51 : aq_T 7 51 = some (aq_ar af_isub 52) := rfl
theorem i_X0_exclude_52 : aq_T 7 52 = some (aq_pf 0 2 0 55) := rfl
theorem i_X0_exclude_55 : aq_T 7 55 = some (aq_retv) := rfl
theorem i_X0_withoutSlot_0 : aq_T 8 0 = some (aq_push (.long 1) 1) := rfl
theorem i_X0_withoutSlot_1 : aq_T 8 1 = some (aq_push (.int (5)) 2) := rfl
theorem i_X0_withoutSlot_2 : aq_T 8 2 = some (aq_ld 0 2 3) := rfl
theorem i_X0_withoutSlot_3 : aq_T 8 3 = some (aq_ar af_imul 4) := rfl
theorem i_X0_withoutSlot_4 : aq_T 8 4 = some (aq_ar af_lshl 5) := rfl
theorem i_X0_withoutSlot_5 : aq_T 8 5 = some (aq_push (.long 1) 6) := rfl
theorem i_X0_withoutSlot_6 : aq_T 8 6 = some (aq_ar af_lsub 7) := rfl
theorem i_X0_withoutSlot_7 : aq_T 8 7 = some (aq_st 1 3 8) := rfl
theorem i_X0_withoutSlot_8 : aq_T 8 8 = some (aq_ld 1 0 9) := rfl
theorem i_X0_withoutSlot_9 : aq_T 8 9 = some (aq_ld 1 3 10) := rfl
theorem i_X0_withoutSlot_10 : aq_T 8 10 = some (aq_ar af_land 11) := rfl
theorem i_X0_withoutSlot_11 : aq_T 8 11 = some (aq_ld 1 0 12) := rfl
theorem i_X0_withoutSlot_12 : aq_T 8 12 = some (aq_push (.int (5)) 13) := rfl
theorem i_X0_withoutSlot_13 : aq_T 8 13 = some (aq_ar af_lushr 14) := rfl
theorem i_X0_withoutSlot_14 : aq_T 8 14 = some (aq_ld 1 3 15) := rfl
theorem i_X0_withoutSlot_15 : aq_T 8 15 = some (aq_push (.long (-1)) 18) := rfl
theorem i_X0_withoutSlot_18 : aq_T 8 18 = some (aq_ar af_lxor 19) := rfl
theorem i_X0_withoutSlot_19 : aq_T 8 19 = some (aq_ar af_land 20) := rfl
theorem i_X0_withoutSlot_20 : aq_T 8 20 = some (aq_ar af_lor 21) := rfl
theorem i_X0_withoutSlot_21 : aq_T 8 21 = some (aq_ret 1) := rfl
theorem i_X0_follow_0 : aq_T 9 0 = some (aq_ld 1 1 1) := rfl
theorem i_X0_follow_1 : aq_T 9 1 = some (aq_push (.int (1)) 2) := rfl
theorem i_X0_follow_2 : aq_T 9 2 = some (aq_ar af_lshl 3) := rfl
theorem i_X0_follow_3 : aq_T 9 3 = some (aq_push (.long (37191016277640225)) 6) := rfl
theorem i_X0_follow_6 : aq_T 9 6 = some (aq_ar af_lor 7) := rfl
theorem i_X0_follow_7 : aq_T 9 7 = some (aq_st 1 4 9) := rfl
theorem i_X0_follow_9 : aq_T 9 9 = some (aq_ld 0 3 10) := rfl
theorem i_X0_follow_10 : aq_T 9 10 = some (aq_if ai_lt0 22 13) := rfl
theorem i_X0_follow_13 : aq_T 9 13 = some (aq_ld 0 3 14) := rfl
theorem i_X0_follow_14 : aq_T 9 14 = some (aq_ld 4 0 15) := rfl
theorem i_X0_follow_15 : aq_T 9 15 = some (aq_gf 0 0 18) := rfl
theorem i_X0_follow_18 : aq_T 9 18 = some (aq_len 19) := rfl
theorem i_X0_follow_19 : aq_T 9 19 = some (aq_if ai_lt 62 22) := rfl
theorem i_X0_follow_22 : aq_T 9 22 = some (aq_push (.long 0) 23) := rfl
theorem i_X0_follow_23 : aq_T 9 23 = some (aq_st 1 6 25) := rfl
theorem i_X0_follow_25 : aq_T 9 25 = some (aq_push (.int (0)) 26) := rfl
theorem i_X0_follow_26 : aq_T 9 26 = some (aq_st 0 8 28) := rfl
theorem i_X0_follow_28 : aq_T 9 28 = some (aq_ld 0 8 30) := rfl
theorem i_X0_follow_30 : aq_T 9 30 = some (aq_ld 4 0 31) := rfl
theorem i_X0_follow_31 : aq_T 9 31 = some (aq_gf 0 0 34) := rfl
theorem i_X0_follow_34 : aq_T 9 34 = some (aq_len 35) := rfl
theorem i_X0_follow_35 : aq_T 9 35 = some (aq_if ai_ge 56 38) := rfl
theorem i_X0_follow_38 : aq_T 9 38 = some (aq_ld 1 6 40) := rfl
theorem i_X0_follow_40 : aq_T 9 40 = some (aq_ld 4 0 41) := rfl
theorem i_X0_follow_41 : aq_T 9 41 = some (aq_gf 0 0 44) := rfl
theorem i_X0_follow_44 : aq_T 9 44 = some (aq_ld 0 8 46) := rfl
theorem i_X0_follow_46 : aq_T 9 46 = some (aq_ldl 47) := rfl
theorem i_X0_follow_47 : aq_T 9 47 = some (aq_ar af_lor 48) := rfl
theorem i_X0_follow_48 : aq_T 9 48 = some (aq_st 1 6 50) := rfl
theorem i_X0_follow_50 : aq_T 9 50 = some (aq_inc 8 (1) 53) := rfl
theorem i_X0_follow_53 : aq_T 9 53 = some (aq_go 28) := rfl
theorem i_X0_follow_56 : aq_T 9 56 = some (aq_ld 1 4 58) := rfl
theorem i_X0_follow_58 : aq_T 9 58 = some (aq_ld 1 6 60) := rfl
theorem i_X0_follow_60 : aq_T 9 60 = some (aq_ar af_land 61) := rfl
theorem i_X0_follow_61 : aq_T 9 61 = some (aq_ret 1) := rfl
theorem i_X0_follow_62 : aq_T 9 62 = some (aq_ld 1 4 64) := rfl
theorem i_X0_follow_64 : aq_T 9 64 = some (aq_ld 4 0 65) := rfl
theorem i_X0_follow_65 : aq_T 9 65 = some (aq_gf 0 0 68) := rfl
theorem i_X0_follow_68 : aq_T 9 68 = some (aq_ld 0 3 69) := rfl
theorem i_X0_follow_69 : aq_T 9 69 = some (aq_ldl 70) := rfl
theorem i_X0_follow_70 : aq_T 9 70 = some (aq_ar af_land 71) := rfl
theorem i_X0_follow_71 : aq_T 9 71 = some (aq_ret 1) := rfl
theorem i_X1_init_0 : aq_T 10 0 = some (aq_ld 4 0 1) := rfl
theorem i_X1_init_1 : aq_T 10 1 = some (aq_oi 4) := rfl
theorem i_X1_init_4 : aq_T 10 4 = some (aq_ld 4 0 5) := rfl
theorem i_X1_init_5 : aq_T 10 5 = some (aq_push (.int (41)) 7) := rfl
theorem i_X1_init_7 : aq_T 10 7 = some (aq_newa 2 9) := rfl
theorem i_X1_init_9 : aq_T 10 9 = some (aq_pf 1 0 4 12) := rfl
theorem i_X1_init_12 : aq_T 10 12 = some (aq_ld 4 0 13) := rfl
theorem i_X1_init_13 : aq_T 10 13 = some (aq_push (.int (1)) 14) := rfl
theorem i_X1_init_14 : aq_T 10 14 = some (aq_pf 1 1 5 17) := rfl
theorem i_X1_init_17 : aq_T 10 17 = some (aq_retv) := rfl
theorem i_X1_isMissing_0 : aq_T 11 0 = some (aq_ld 4 0 1) := rfl
theorem i_X1_isMissing_1 : aq_T 11 1 = some (aq_gf 1 1 4) := rfl
theorem i_X1_isMissing_4 : aq_T 11 4 = some (aq_ret 5) := rfl
theorem i_X1_isDouble_0 : aq_T 12 0 = some (aq_ld 4 0 1) := rfl
theorem i_X1_isDouble_1 : aq_T 12 1 = some (aq_gf 1 2 4) := rfl
theorem i_X1_isDouble_4 : aq_T 12 4 = some (aq_ret 5) := rfl
theorem i_X1_size_0 : aq_T 13 0 = some (aq_ld 4 0 1) := rfl
theorem i_X1_size_1 : aq_T 13 1 = some (aq_gf 1 3 4) := rfl
theorem i_X1_size_4 : aq_T 13 4 = some (aq_ret 0) := rfl
theorem i_X1_renew_0 : aq_T 14 0 = some (aq_ld 4 0 1) := rfl
theorem i_X1_renew_1 : aq_T 14 1 = some (aq_push (.int (0)) 2) := rfl
theorem i_X1_renew_2 : aq_T 14 2 = some (aq_pf 1 1 5 5) := rfl
theorem i_X1_renew_5 : aq_T 14 5 = some (aq_ld 4 0 6) := rfl
theorem i_X1_renew_6 : aq_T 14 6 = some (aq_ld 0 1 7) := rfl
theorem i_X1_renew_7 : aq_T 14 7 = some (aq_pf 1 2 5 10) := rfl
theorem i_X1_renew_10 : aq_T 14 10 = some (aq_ld 4 0 11) := rfl
theorem i_X1_renew_11 : aq_T 14 11 = some (aq_ld 0 2 12) := rfl
theorem i_X1_renew_12 : aq_T 14 12 = some (aq_pf 1 3 0 15) := rfl
theorem i_X1_renew_15 : aq_T 14 15 = some (aq_push (.int (0)) 16) := rfl
theorem i_X1_renew_16 : aq_T 14 16 = some (aq_st 0 3 17) := rfl
theorem i_X1_renew_17 : aq_T 14 17 = some (aq_ld 0 3 18) := rfl
theorem i_X1_renew_18 : aq_T 14 18 = some (aq_ld 4 0 19) := rfl
theorem i_X1_renew_19 : aq_T 14 19 = some (aq_gf 1 0 22) := rfl
theorem i_X1_renew_22 : aq_T 14 22 = some (aq_len 23) := rfl
theorem i_X1_renew_23 : aq_T 14 23 = some (aq_if ai_ge 39 26) := rfl
theorem i_X1_renew_26 : aq_T 14 26 = some (aq_ld 4 0 27) := rfl
theorem i_X1_renew_27 : aq_T 14 27 = some (aq_gf 1 0 30) := rfl
theorem i_X1_renew_30 : aq_T 14 30 = some (aq_ld 0 3 31) := rfl
theorem i_X1_renew_31 : aq_T 14 31 = some (aq_push (.double FP.dconst0) 32) := rfl
theorem i_X1_renew_32 : aq_T 14 32 = some (aq_std 33) := rfl
theorem i_X1_renew_33 : aq_T 14 33 = some (aq_inc 3 (1) 36) := rfl
theorem i_X1_renew_36 : aq_T 14 36 = some (aq_go 17) := rfl
theorem i_X1_renew_39 : aq_T 14 39 = some (aq_retv) := rfl
theorem i_X1_at_0 : aq_T 15 0 = some (aq_ld 0 1 1) := rfl
theorem i_X1_at_1 : aq_T 15 1 = some (aq_if ai_lt0 22 4) := rfl
theorem i_X1_at_4 : aq_T 15 4 = some (aq_ld 0 1 5) := rfl
theorem i_X1_at_5 : aq_T 15 5 = some (aq_ld 4 0 6) := rfl
theorem i_X1_at_6 : aq_T 15 6 = some (aq_gf 1 0 9) := rfl
theorem i_X1_at_9 : aq_T 15 9 = some (aq_len 10) := rfl
theorem i_X1_at_10 : aq_T 15 10 = some (aq_if ai_ge 22 13) := rfl
theorem i_X1_at_13 : aq_T 15 13 = some (aq_ld 4 0 14) := rfl
theorem i_X1_at_14 : aq_T 15 14 = some (aq_gf 1 0 17) := rfl
theorem i_X1_at_17 : aq_T 15 17 = some (aq_ld 0 1 18) := rfl
theorem i_X1_at_18 : aq_T 15 18 = some (aq_ldd 19) := rfl
theorem i_X1_at_19 : aq_T 15 19 = some (aq_go 23) := rfl
theorem i_X1_at_22 : aq_T 15 22 = some (aq_push (.double FP.dconst0) 23) := rfl
theorem i_X1_at_23 : aq_T 15 23 = some (aq_ret 3) := rfl
theorem i_X1_put_0 : aq_T 16 0 = some (aq_ld 0 1 1) := rfl
theorem i_X1_put_1 : aq_T 16 1 = some (aq_if ai_lt0 20 4) := rfl
theorem i_X1_put_4 : aq_T 16 4 = some (aq_ld 0 1 5) := rfl
theorem i_X1_put_5 : aq_T 16 5 = some (aq_ld 4 0 6) := rfl
theorem i_X1_put_6 : aq_T 16 6 = some (aq_gf 1 0 9) := rfl
theorem i_X1_put_9 : aq_T 16 9 = some (aq_len 10) := rfl
theorem i_X1_put_10 : aq_T 16 10 = some (aq_if ai_ge 20 13) := rfl
theorem i_X1_put_13 : aq_T 16 13 = some (aq_ld 4 0 14) := rfl
theorem i_X1_put_14 : aq_T 16 14 = some (aq_gf 1 0 17) := rfl
theorem i_X1_put_17 : aq_T 16 17 = some (aq_ld 0 1 18) := rfl
theorem i_X1_put_18 : aq_T 16 18 = some (aq_ld 3 2 19) := rfl
theorem i_X1_put_19 : aq_T 16 19 = some (aq_std 20) := rfl
theorem i_X1_put_20 : aq_T 16 20 = some (aq_retv) := rfl
theorem i_X1_putQuotient_0 : aq_T 17 0 = some (aq_ld 0 3 1) := rfl
theorem i_X1_putQuotient_1 : aq_T 17 1 = some (aq_push (.int (1)) 2) := rfl
theorem i_X1_putQuotient_2 : aq_T 17 2 = some (aq_if ai_lt 11 5) := rfl
theorem i_X1_putQuotient_5 : aq_T 17 5 = some (aq_ld 0 4 7) := rfl
theorem i_X1_putQuotient_7 : aq_T 17 7 = some (aq_push (.int (1)) 8) := rfl
theorem i_X1_putQuotient_8 : aq_T 17 8 = some (aq_if ai_ge 12 11) := rfl
theorem i_X1_putQuotient_11 : aq_T 17 11 = some (aq_retv) := rfl
theorem i_X1_putQuotient_12 : aq_T 17 12 = some (aq_ld 4 0 13) := rfl
theorem i_X1_putQuotient_13 : aq_T 17 13 = some (aq_gf 1 2 16) := rfl
theorem i_X1_putQuotient_16 : aq_T 17 16 = some (aq_if ai_eq0 36 19) := rfl
theorem i_X1_putQuotient_19 : aq_T 17 19 = some (aq_ld 4 0 20) := rfl
theorem i_X1_putQuotient_20 : aq_T 17 20 = some (aq_ld 0 1 21) := rfl
theorem i_X1_putQuotient_21 : aq_T 17 21 = some (aq_ld 0 2 22) := rfl
theorem i_X1_putQuotient_22 : aq_T 17 22 = some (aq_ar af_i2d 23) := rfl
theorem i_X1_putQuotient_23 : aq_T 17 23 = some (aq_ld 0 3 24) := rfl
theorem i_X1_putQuotient_24 : aq_T 17 24 = some (aq_ar af_i2d 25) := rfl
theorem i_X1_putQuotient_25 : aq_T 17 25 = some (aq_arc ac_ddiv 26) := rfl
theorem i_X1_putQuotient_26 : aq_T 17 26 = some (aq_ld 0 4 28) := rfl
theorem i_X1_putQuotient_28 : aq_T 17 28 = some (aq_ar af_i2d 29) := rfl
theorem i_X1_putQuotient_29 : aq_T 17 29 = some (aq_arc ac_ddiv 30) := rfl
theorem i_X1_putQuotient_30 : aq_T 17 30 = some (aq_call 16 3 (some 1) 33) := rfl
theorem i_X1_putQuotient_33 : aq_T 17 33 = some (aq_go 51) := rfl
theorem i_X1_putQuotient_36 : aq_T 17 36 = some (aq_ld 4 0 37) := rfl
theorem i_X1_putQuotient_37 : aq_T 17 37 = some (aq_ld 0 1 38) := rfl
theorem i_X1_putQuotient_38 : aq_T 17 38 = some (aq_ld 0 2 39) := rfl
theorem i_X1_putQuotient_39 : aq_T 17 39 = some (aq_ar af_i2f 40) := rfl
theorem i_X1_putQuotient_40 : aq_T 17 40 = some (aq_ld 0 3 41) := rfl
theorem i_X1_putQuotient_41 : aq_T 17 41 = some (aq_ar af_i2f 42) := rfl
theorem i_X1_putQuotient_42 : aq_T 17 42 = some (aq_arc ac_fdiv 43) := rfl
theorem i_X1_putQuotient_43 : aq_T 17 43 = some (aq_ld 0 4 45) := rfl
theorem i_X1_putQuotient_45 : aq_T 17 45 = some (aq_ar af_i2f 46) := rfl
theorem i_X1_putQuotient_46 : aq_T 17 46 = some (aq_arc ac_fdiv 47) := rfl
theorem i_X1_putQuotient_47 : aq_T 17 47 = some (aq_arc ac_f2d 48) := rfl
theorem i_X1_putQuotient_48 : aq_T 17 48 = some (aq_call 16 3 (some 1) 51) := rfl
theorem i_X1_putQuotient_51 : aq_T 17 51 = some (aq_retv) := rfl
theorem i_X2_init_0 : aq_T 18 0 = some (aq_ld 4 0 1) := rfl
theorem i_X2_init_1 : aq_T 18 1 = some (aq_oi 4) := rfl
theorem i_X2_init_4 : aq_T 18 4 = some (aq_ld 4 0 5) := rfl
theorem i_X2_init_5 : aq_T 18 5 = some (aq_push (.int (4)) 6) := rfl
theorem i_X2_init_6 : aq_T 18 6 = some (aq_newa 5 9) := rfl
theorem i_X2_init_9 : aq_T 18 9 = some (aq_pf 2 0 4 12) := rfl
theorem i_X2_init_12 : aq_T 18 12 = some (aq_ld 4 0 13) := rfl
theorem i_X2_init_13 : aq_T 18 13 = some (aq_new 0 3 [.null, .long 0, .int 0] 16) := rfl
theorem i_X2_init_16 : aq_T 18 16 = some (aq_ar af_dup 17) := rfl
theorem i_X2_init_17 : aq_T 18 17 = some (aq_call 0 1 (some 0) 20) := rfl
theorem i_X2_init_20 : aq_T 18 20 = some (aq_pf 2 1 4 23) := rfl
theorem i_X2_init_23 : aq_T 18 23 = some (aq_ld 4 0 24) := rfl
theorem i_X2_init_24 : aq_T 18 24 = some (aq_push (.int (2)) 25) := rfl
theorem i_X2_init_25 : aq_T 18 25 = some (aq_pf 2 2 0 28) := rfl
theorem i_X2_init_28 : aq_T 18 28 = some (aq_push (.int (0)) 29) := rfl
theorem i_X2_init_29 : aq_T 18 29 = some (aq_st 0 1 30) := rfl
theorem i_X2_init_30 : aq_T 18 30 = some (aq_ld 0 1 31) := rfl
theorem i_X2_init_31 : aq_T 18 31 = some (aq_ld 4 0 32) := rfl
theorem i_X2_init_32 : aq_T 18 32 = some (aq_gf 2 0 35) := rfl
theorem i_X2_init_35 : aq_T 18 35 = some (aq_len 36) := rfl
theorem i_X2_init_36 : aq_T 18 36 = some (aq_if ai_ge 58 39) := rfl
theorem i_X2_init_39 : aq_T 18 39 = some (aq_ld 4 0 40) := rfl
theorem i_X2_init_40 : aq_T 18 40 = some (aq_gf 2 0 43) := rfl
theorem i_X2_init_43 : aq_T 18 43 = some (aq_ld 0 1 44) := rfl
theorem i_X2_init_44 : aq_T 18 44 = some (aq_new 5 2 [.null, .int 0] 47) := rfl
theorem i_X2_init_47 : aq_T 18 47 = some (aq_ar af_dup 48) := rfl
theorem i_X2_init_48 : aq_T 18 48 = some (aq_call 48 1 (some 5) 51) := rfl
theorem i_X2_init_51 : aq_T 18 51 = some (aq_sta 5 5 52) := rfl
theorem i_X2_init_52 : aq_T 18 52 = some (aq_inc 1 (1) 55) := rfl
theorem i_X2_init_55 : aq_T 18 55 = some (aq_go 30) := rfl
theorem i_X2_init_58 : aq_T 18 58 = some (aq_retv) := rfl
theorem i_X2_wordOrNull_0 : aq_T 19 0 = some (aq_ld 0 1 1) := rfl
theorem i_X2_wordOrNull_1 : aq_T 19 1 = some (aq_if ai_lt0 13 4) := rfl
theorem i_X2_wordOrNull_4 : aq_T 19 4 = some (aq_ld 0 1 5) := rfl
theorem i_X2_wordOrNull_5 : aq_T 19 5 = some (aq_ld 4 0 6) := rfl
theorem i_X2_wordOrNull_6 : aq_T 19 6 = some (aq_gf 2 0 9) := rfl
theorem i_X2_wordOrNull_9 : aq_T 19 9 = some (aq_len 10) := rfl
theorem i_X2_wordOrNull_10 : aq_T 19 10 = some (aq_if ai_lt 17 13) := rfl
theorem i_X2_wordOrNull_13 : aq_T 19 13 = some (aq_push .null 14) := rfl
theorem i_X2_wordOrNull_14 : aq_T 19 14 = some (aq_go 23) := rfl
theorem i_X2_wordOrNull_17 : aq_T 19 17 = some (aq_ld 4 0 18) := rfl
theorem i_X2_wordOrNull_18 : aq_T 19 18 = some (aq_gf 2 0 21) := rfl
theorem i_X2_wordOrNull_21 : aq_T 19 21 = some (aq_ld 0 1 22) := rfl
theorem i_X2_wordOrNull_22 : aq_T 19 22 = some (aq_lda 5 23) := rfl
theorem i_X2_wordOrNull_23 : aq_T 19 23 = some (aq_ret 4) := rfl
theorem i_X2_startWith_0 : aq_T 20 0 = some (aq_ld 4 0 1) := rfl
theorem i_X2_startWith_1 : aq_T 20 1 = some (aq_ld 0 1 2) := rfl
theorem i_X2_startWith_2 : aq_T 20 2 = some (aq_pf 2 2 0 5) := rfl
theorem i_X2_startWith_5 : aq_T 20 5 = some (aq_ld 4 0 6) := rfl
theorem i_X2_startWith_6 : aq_T 20 6 = some (aq_gf 2 1 9) := rfl
theorem i_X2_startWith_9 : aq_T 20 9 = some (aq_call 4 1 (some 0) 12) := rfl
theorem i_X2_startWith_12 : aq_T 20 12 = some (aq_push (.int (0)) 13) := rfl
theorem i_X2_startWith_13 : aq_T 20 13 = some (aq_st 0 2 14) := rfl
theorem i_X2_startWith_14 : aq_T 20 14 = some (aq_ld 0 2 15) := rfl
theorem i_X2_startWith_15 : aq_T 20 15 = some (aq_ld 4 0 16) := rfl
theorem i_X2_startWith_16 : aq_T 20 16 = some (aq_gf 2 0 19) := rfl
theorem i_X2_startWith_19 : aq_T 20 19 = some (aq_len 20) := rfl
theorem i_X2_startWith_20 : aq_T 20 20 = some (aq_if ai_ge 44 23) := rfl
theorem i_X2_startWith_23 : aq_T 20 23 = some (aq_ld 4 0 24) := rfl
theorem i_X2_startWith_24 : aq_T 20 24 = some (aq_gf 2 0 27) := rfl
theorem i_X2_startWith_27 : aq_T 20 27 = some (aq_ld 0 2 28) := rfl
theorem i_X2_startWith_28 : aq_T 20 28 = some (aq_lda 5 29) := rfl
theorem i_X2_startWith_29 : aq_T 20 29 = some (aq_st 4 3 30) := rfl
theorem i_X2_startWith_30 : aq_T 20 30 = some (aq_ld 4 3 31) := rfl
theorem i_X2_startWith_31 : aq_T 20 31 = some (aq_if ai_null 38 34) := rfl
theorem i_X2_startWith_34 : aq_T 20 34 = some (aq_ld 4 3 35) := rfl
theorem i_X2_startWith_35 : aq_T 20 35 = some (aq_call 53 1 (some 5) 38) := rfl
theorem i_X2_startWith_38 : aq_T 20 38 = some (aq_inc 2 (1) 41) := rfl
theorem i_X2_startWith_41 : aq_T 20 41 = some (aq_go 14) := rfl
theorem i_X2_startWith_44 : aq_T 20 44 = some (aq_retv) := rfl
theorem i_X2_copyFrom_0 : aq_T 21 0 = some (aq_ld 4 0 1) := rfl
theorem i_X2_copyFrom_1 : aq_T 21 1 = some (aq_ld 4 1 2) := rfl
theorem i_X2_copyFrom_2 : aq_T 21 2 = some (aq_gf 2 2 5) := rfl
theorem i_X2_copyFrom_5 : aq_T 21 5 = some (aq_pf 2 2 0 8) := rfl
theorem i_X2_copyFrom_8 : aq_T 21 8 = some (aq_ld 4 0 9) := rfl
theorem i_X2_copyFrom_9 : aq_T 21 9 = some (aq_gf 2 1 12) := rfl
theorem i_X2_copyFrom_12 : aq_T 21 12 = some (aq_ld 4 1 13) := rfl
theorem i_X2_copyFrom_13 : aq_T 21 13 = some (aq_gf 2 1 16) := rfl
theorem i_X2_copyFrom_16 : aq_T 21 16 = some (aq_call 5 2 (some 0) 19) := rfl
theorem i_X2_copyFrom_19 : aq_T 21 19 = some (aq_push (.int (0)) 20) := rfl
theorem i_X2_copyFrom_20 : aq_T 21 20 = some (aq_st 0 2 21) := rfl
theorem i_X2_copyFrom_21 : aq_T 21 21 = some (aq_ld 0 2 22) := rfl
theorem i_X2_copyFrom_22 : aq_T 21 22 = some (aq_ld 4 0 23) := rfl
theorem i_X2_copyFrom_23 : aq_T 21 23 = some (aq_gf 2 0 26) := rfl
theorem i_X2_copyFrom_26 : aq_T 21 26 = some (aq_len 27) := rfl
theorem i_X2_copyFrom_27 : aq_T 21 27 = some (aq_if ai_ge 65 30) := rfl
theorem i_X2_copyFrom_30 : aq_T 21 30 = some (aq_ld 4 0 31) := rfl
theorem i_X2_copyFrom_31 : aq_T 21 31 = some (aq_gf 2 0 34) := rfl
theorem i_X2_copyFrom_34 : aq_T 21 34 = some (aq_ld 0 2 35) := rfl
theorem i_X2_copyFrom_35 : aq_T 21 35 = some (aq_lda 5 36) := rfl
theorem i_X2_copyFrom_36 : aq_T 21 36 = some (aq_st 4 3 37) := rfl
theorem i_X2_copyFrom_37 : aq_T 21 37 = some (aq_ld 4 1 38) := rfl
theorem i_X2_copyFrom_38 : aq_T 21 38 = some (aq_ld 0 2 39) := rfl
theorem i_X2_copyFrom_39 : aq_T 21 39 = some (aq_call 19 2 (some 2) 42) := rfl
theorem i_X2_copyFrom_42 : aq_T 21 42 = some (aq_st 4 4 44) := rfl
theorem i_X2_copyFrom_44 : aq_T 21 44 = some (aq_ld 4 3 45) := rfl
theorem i_X2_copyFrom_45 : aq_T 21 45 = some (aq_if ai_null 59 48) := rfl
theorem i_X2_copyFrom_48 : aq_T 21 48 = some (aq_ld 4 4 50) := rfl
theorem i_X2_copyFrom_50 : aq_T 21 50 = some (aq_if ai_null 59 53) := rfl
theorem i_X2_copyFrom_53 : aq_T 21 53 = some (aq_ld 4 3 54) := rfl
theorem i_X2_copyFrom_54 : aq_T 21 54 = some (aq_ld 4 4 56) := rfl
theorem i_X2_copyFrom_56 : aq_T 21 56 = some (aq_call 54 2 (some 5) 59) := rfl
theorem i_X2_copyFrom_59 : aq_T 21 59 = some (aq_inc 2 (1) 62) := rfl
theorem i_X2_copyFrom_62 : aq_T 21 62 = some (aq_go 21) := rfl
theorem i_X2_copyFrom_65 : aq_T 21 65 = some (aq_retv) := rfl
theorem i_X3_init_0 : aq_T 22 0 = some (aq_ld 4 0 1) := rfl
theorem i_X3_init_1 : aq_T 22 1 = some (aq_oi 4) := rfl
theorem i_X3_init_4 : aq_T 22 4 = some (aq_ld 4 0 5) := rfl
theorem i_X3_init_5 : aq_T 22 5 = some (aq_push (.int (30)) 7) := rfl
theorem i_X3_init_7 : aq_T 22 7 = some (aq_newa 0 9) := rfl
theorem i_X3_init_9 : aq_T 22 9 = some (aq_pf 3 0 4 12) := rfl
theorem i_X3_init_12 : aq_T 22 12 = some (aq_ld 4 0 13) := rfl
theorem i_X3_init_13 : aq_T 22 13 = some (aq_push (.int (-1)) 14) := rfl
theorem i_X3_init_14 : aq_T 22 14 = some (aq_pf 3 2 0 17) := rfl
theorem i_X3_init_17 : aq_T 22 17 = some (aq_ld 4 0 18) := rfl
theorem i_X3_init_18 : aq_T 22 18 = some (aq_new 5 2 [.null, .int 0] 21) := rfl
theorem i_X3_init_21 : aq_T 22 21 = some (aq_ar af_dup 22) := rfl
theorem i_X3_init_22 : aq_T 22 22 = some (aq_call 48 1 (some 5) 25) := rfl
theorem i_X3_init_25 : aq_T 22 25 = some (aq_pf 3 3 4 28) := rfl
theorem i_X3_init_28 : aq_T 22 28 = some (aq_ld 4 0 29) := rfl
theorem i_X3_init_29 : aq_T 22 29 = some (aq_push (.int (4)) 30) := rfl
theorem i_X3_init_30 : aq_T 22 30 = some (aq_newa 0 32) := rfl
theorem i_X3_init_32 : aq_T 22 32 = some (aq_pf 3 5 4 35) := rfl
theorem i_X3_init_35 : aq_T 22 35 = some (aq_retv) := rfl
theorem i_X3_inputSize_0 : aq_T 23 0 = some (aq_ld 4 0 1) := rfl
theorem i_X3_inputSize_1 : aq_T 23 1 = some (aq_gf 3 1 4) := rfl
theorem i_X3_inputSize_4 : aq_T 23 4 = some (aq_ret 0) := rfl
theorem i_X3_errorOffset_0 : aq_T 24 0 = some (aq_ld 4 0 1) := rfl
theorem i_X3_errorOffset_1 : aq_T 24 1 = some (aq_gf 3 2 4) := rfl
theorem i_X3_errorOffset_4 : aq_T 24 4 = some (aq_ret 0) := rfl
theorem i_X3_result_0 : aq_T 25 0 = some (aq_ld 4 0 1) := rfl
theorem i_X3_result_1 : aq_T 25 1 = some (aq_gf 3 3 4) := rfl
theorem i_X3_result_4 : aq_T 25 4 = some (aq_ret 4) := rfl
theorem i_X3_isTooLong_0 : aq_T 26 0 = some (aq_ld 4 0 1) := rfl
theorem i_X3_isTooLong_1 : aq_T 26 1 = some (aq_gf 3 4 4) := rfl
theorem i_X3_isTooLong_4 : aq_T 26 4 = some (aq_ret 5) := rfl
theorem i_X3_accept_0 : aq_T 27 0 = some (aq_ld 4 0 1) := rfl
theorem i_X3_accept_1 : aq_T 27 1 = some (aq_gf 3 1 4) := rfl
theorem i_X3_accept_4 : aq_T 27 4 = some (aq_if ai_lt0 19 7) := rfl
theorem i_X3_accept_7 : aq_T 27 7 = some (aq_ld 4 0 8) := rfl
theorem i_X3_accept_8 : aq_T 27 8 = some (aq_gf 3 1 11) := rfl
theorem i_X3_accept_11 : aq_T 27 11 = some (aq_ld 4 0 12) := rfl
theorem i_X3_accept_12 : aq_T 27 12 = some (aq_gf 3 0 15) := rfl
theorem i_X3_accept_15 : aq_T 27 15 = some (aq_len 16) := rfl
theorem i_X3_accept_16 : aq_T 27 16 = some (aq_if ai_lt 21 19) := rfl
theorem i_X3_accept_19 : aq_T 27 19 = some (aq_push (.int (0)) 20) := rfl
theorem i_X3_accept_20 : aq_T 27 20 = some (aq_ret 5) := rfl
theorem i_X3_accept_21 : aq_T 27 21 = some (aq_ld 4 0 22) := rfl
theorem i_X3_accept_22 : aq_T 27 22 = some (aq_gf 3 0 25) := rfl
theorem i_X3_accept_25 : aq_T 27 25 = some (aq_ld 4 0 26) := rfl
theorem i_X3_accept_26 : aq_T 27 26 = some (aq_gf 3 1 29) := rfl
theorem i_X3_accept_29 : aq_T 27 29 = some (aq_ld 0 1 30) := rfl
theorem i_X3_accept_30 : aq_T 27 30 = some (aq_sti 31) := rfl
theorem i_X3_accept_31 : aq_T 27 31 = some (aq_ld 4 0 32) := rfl
theorem i_X3_accept_32 : aq_T 27 32 = some (aq_ar af_dup 33) := rfl
theorem i_X3_accept_33 : aq_T 27 33 = some (aq_gf 3 1 36) := rfl
theorem i_X3_accept_36 : aq_T 27 36 = some (aq_push (.int (1)) 37) := rfl
theorem i_X3_accept_37 : aq_T 27 37 = some (aq_ar af_iadd 38) := rfl
theorem i_X3_accept_38 : aq_T 27 38 = some (aq_pf 3 1 0 41) := rfl
theorem i_X3_accept_41 : aq_T 27 41 = some (aq_push (.int (1)) 42) := rfl
theorem i_X3_accept_42 : aq_T 27 42 = some (aq_ret 5) := rfl
theorem i_X3_read_0 : aq_T 28 0 = some (aq_ld 4 0 1) := rfl
theorem i_X3_read_1 : aq_T 28 1 = some (aq_gf 3 1 4) := rfl
theorem i_X3_read_4 : aq_T 28 4 = some (aq_st 0 2 5) := rfl
theorem i_X3_read_5 : aq_T 28 5 = some (aq_ld 4 0 6) := rfl
theorem i_X3_read_6 : aq_T 28 6 = some (aq_push (.int (0)) 7) := rfl
theorem i_X3_read_7 : aq_T 28 7 = some (aq_pf 3 1 0 10) := rfl
theorem i_X3_read_10 : aq_T 28 10 = some (aq_ld 4 0 11) := rfl
theorem i_X3_read_11 : aq_T 28 11 = some (aq_gf 3 3 14) := rfl
theorem i_X3_read_14 : aq_T 28 14 = some (aq_call 53 1 (some 5) 17) := rfl
theorem i_X3_read_17 : aq_T 28 17 = some (aq_ld 4 0 18) := rfl
theorem i_X3_read_18 : aq_T 28 18 = some (aq_push (.int (0)) 19) := rfl
theorem i_X3_read_19 : aq_T 28 19 = some (aq_pf 3 4 5 22) := rfl
theorem i_X3_read_22 : aq_T 28 22 = some (aq_ld 4 0 23) := rfl
theorem i_X3_read_23 : aq_T 28 23 = some (aq_push (.int (0)) 24) := rfl
theorem i_X3_read_24 : aq_T 28 24 = some (aq_pf 3 6 0 27) := rfl
theorem i_X3_read_27 : aq_T 28 27 = some (aq_ld 4 0 28) := rfl
theorem i_X3_read_28 : aq_T 28 28 = some (aq_push (.int (0)) 29) := rfl
theorem i_X3_read_29 : aq_T 28 29 = some (aq_pf 3 8 5 32) := rfl
theorem i_X3_read_32 : aq_T 28 32 = some (aq_push (.int (0)) 33) := rfl
theorem i_X3_read_33 : aq_T 28 33 = some (aq_st 0 3 34) := rfl
theorem i_X3_read_34 : aq_T 28 34 = some (aq_ld 0 3 35) := rfl
theorem i_X3_read_35 : aq_T 28 35 = some (aq_ld 0 2 36) := rfl
theorem i_X3_read_36 : aq_T 28 36 = some (aq_if ai_ge 75 39) := rfl
theorem i_X3_read_39 : aq_T 28 39 = some (aq_ld 0 3 40) := rfl
theorem i_X3_read_40 : aq_T 28 40 = some (aq_ld 4 0 41) := rfl
theorem i_X3_read_41 : aq_T 28 41 = some (aq_gf 3 0 44) := rfl
theorem i_X3_read_44 : aq_T 28 44 = some (aq_len 45) := rfl
theorem i_X3_read_45 : aq_T 28 45 = some (aq_if ai_ge 75 48) := rfl
theorem i_X3_read_48 : aq_T 28 48 = some (aq_ld 4 0 49) := rfl
theorem i_X3_read_49 : aq_T 28 49 = some (aq_ld 4 0 50) := rfl
theorem i_X3_read_50 : aq_T 28 50 = some (aq_gf 3 0 53) := rfl
theorem i_X3_read_53 : aq_T 28 53 = some (aq_ld 0 3 54) := rfl
theorem i_X3_read_54 : aq_T 28 54 = some (aq_ldi 0 55) := rfl
theorem i_X3_read_55 : aq_T 28 55 = some (aq_ld 0 1 56) := rfl
theorem i_X3_read_56 : aq_T 28 56 = some (aq_call 29 3 (some 3) 59) := rfl
theorem i_X3_read_59 : aq_T 28 59 = some (aq_if ai_ne0 69 62) := rfl
theorem i_X3_read_62 : aq_T 28 62 = some (aq_ld 4 0 63) := rfl
theorem i_X3_read_63 : aq_T 28 63 = some (aq_ld 0 3 64) := rfl
theorem i_X3_read_64 : aq_T 28 64 = some (aq_pf 3 2 0 67) := rfl
theorem i_X3_read_67 : aq_T 28 67 = some (aq_push (.int (0)) 68) := rfl
theorem i_X3_read_68 : aq_T 28 68 = some (aq_ret 5) := rfl
theorem i_X3_read_69 : aq_T 28 69 = some (aq_inc 3 (1) 72) := rfl
theorem i_X3_read_72 : aq_T 28 72 = some (aq_go 34) := rfl
theorem i_X3_read_75 : aq_T 28 75 = some (aq_ld 4 0 76) := rfl
theorem i_X3_read_76 : aq_T 28 76 = some (aq_gf 3 6 79) := rfl
theorem i_X3_read_79 : aq_T 28 79 = some (aq_if ai_le0 89 82) := rfl
theorem i_X3_read_82 : aq_T 28 82 = some (aq_ld 4 0 83) := rfl
theorem i_X3_read_83 : aq_T 28 83 = some (aq_ld 0 2 84) := rfl
theorem i_X3_read_84 : aq_T 28 84 = some (aq_pf 3 2 0 87) := rfl
theorem i_X3_read_87 : aq_T 28 87 = some (aq_push (.int (0)) 88) := rfl
theorem i_X3_read_88 : aq_T 28 88 = some (aq_ret 5) := rfl
theorem i_X3_read_89 : aq_T 28 89 = some (aq_push (.int (1)) 90) := rfl
theorem i_X3_read_90 : aq_T 28 90 = some (aq_ret 5) := rfl
theorem i_X3_take_0 : aq_T 29 0 = some (aq_ld 0 1 1) := rfl
theorem i_X3_take_1 : aq_T 29 1 = some (aq_push (.int (40)) 3) := rfl
theorem i_X3_take_3 : aq_T 29 3 = some (aq_if ai_ne 11 6) := rfl
theorem i_X3_take_6 : aq_T 29 6 = some (aq_ld 4 0 7) := rfl
theorem i_X3_take_7 : aq_T 29 7 = some (aq_call 32 1 (some 3) 10) := rfl
theorem i_X3_take_10 : aq_T 29 10 = some (aq_ret 5) := rfl
theorem i_X3_take_11 : aq_T 29 11 = some (aq_ld 0 1 12) := rfl
theorem i_X3_take_12 : aq_T 29 12 = some (aq_push (.int (41)) 14) := rfl
theorem i_X3_take_14 : aq_T 29 14 = some (aq_if ai_ne 22 17) := rfl
theorem i_X3_take_17 : aq_T 29 17 = some (aq_ld 4 0 18) := rfl
theorem i_X3_take_18 : aq_T 29 18 = some (aq_call 33 1 (some 3) 21) := rfl
theorem i_X3_take_21 : aq_T 29 21 = some (aq_ret 5) := rfl
theorem i_X3_take_22 : aq_T 29 22 = some (aq_ld 0 1 23) := rfl
theorem i_X3_take_23 : aq_T 29 23 = some (aq_push (.int (50)) 25) := rfl
theorem i_X3_take_25 : aq_T 29 25 = some (aq_if ai_lt 43 28) := rfl
theorem i_X3_take_28 : aq_T 29 28 = some (aq_ld 0 1 29) := rfl
theorem i_X3_take_29 : aq_T 29 29 = some (aq_push (.int (57)) 31) := rfl
theorem i_X3_take_31 : aq_T 29 31 = some (aq_if ai_gt 43 34) := rfl
theorem i_X3_take_34 : aq_T 29 34 = some (aq_ld 4 0 35) := rfl
theorem i_X3_take_35 : aq_T 29 35 = some (aq_ld 0 1 36) := rfl
theorem i_X3_take_36 : aq_T 29 36 = some (aq_push (.int (48)) 38) := rfl
theorem i_X3_take_38 : aq_T 29 38 = some (aq_ar af_isub 39) := rfl
theorem i_X3_take_39 : aq_T 29 39 = some (aq_call 34 2 (some 3) 42) := rfl
theorem i_X3_take_42 : aq_T 29 42 = some (aq_ret 5) := rfl
theorem i_X3_take_43 : aq_T 29 43 = some (aq_ld 0 1 44) := rfl
theorem i_X3_take_44 : aq_T 29 44 = some (aq_push (.int (95)) 46) := rfl
theorem i_X3_take_46 : aq_T 29 46 = some (aq_if ai_ne 55 49) := rfl
theorem i_X3_take_49 : aq_T 29 49 = some (aq_ld 4 0 50) := rfl
theorem i_X3_take_50 : aq_T 29 50 = some (aq_push (.int (-1)) 51) := rfl
theorem i_X3_take_51 : aq_T 29 51 = some (aq_call 30 2 (some 3) 54) := rfl
theorem i_X3_take_54 : aq_T 29 54 = some (aq_ret 5) := rfl
theorem i_X3_take_55 : aq_T 29 55 = some (aq_ld 0 1 56) := rfl
theorem i_X3_take_56 : aq_T 29 56 = some (aq_push (.int (97)) 58) := rfl
theorem i_X3_take_58 : aq_T 29 58 = some (aq_ar af_isub 59) := rfl
theorem i_X3_take_59 : aq_T 29 59 = some (aq_st 0 3 60) := rfl
theorem i_X3_take_60 : aq_T 29 60 = some (aq_ld 0 3 61) := rfl
theorem i_X3_take_61 : aq_T 29 61 = some (aq_if ai_lt0 81 64) := rfl
theorem i_X3_take_64 : aq_T 29 64 = some (aq_ld 0 3 65) := rfl
theorem i_X3_take_65 : aq_T 29 65 = some (aq_ld 0 2 66) := rfl
theorem i_X3_take_66 : aq_T 29 66 = some (aq_if ai_ge 81 69) := rfl
theorem i_X3_take_69 : aq_T 29 69 = some (aq_ld 4 0 70) := rfl
theorem i_X3_take_70 : aq_T 29 70 = some (aq_ld 0 3 71) := rfl
theorem i_X3_take_71 : aq_T 29 71 = some (aq_call 30 2 (some 3) 74) := rfl
theorem i_X3_take_74 : aq_T 29 74 = some (aq_if ai_eq0 81 77) := rfl
theorem i_X3_take_77 : aq_T 29 77 = some (aq_push (.int (1)) 78) := rfl
theorem i_X3_take_78 : aq_T 29 78 = some (aq_go 82) := rfl
theorem i_X3_take_81 : aq_T 29 81 = some (aq_push (.int (0)) 82) := rfl
theorem i_X3_take_82 : aq_T 29 82 = some (aq_ret 5) := rfl
theorem i_X3_addItem_0 : aq_T 30 0 = some (aq_ld 4 0 1) := rfl
theorem i_X3_addItem_1 : aq_T 30 1 = some (aq_ld 4 0 2) := rfl
theorem i_X3_addItem_2 : aq_T 30 2 = some (aq_gf 3 3 5) := rfl
theorem i_X3_addItem_5 : aq_T 30 5 = some (aq_call 49 1 (some 5) 8) := rfl
theorem i_X3_addItem_8 : aq_T 30 8 = some (aq_pf 3 7 0 11) := rfl
theorem i_X3_addItem_11 : aq_T 30 11 = some (aq_ld 4 0 12) := rfl
theorem i_X3_addItem_12 : aq_T 30 12 = some (aq_ld 0 1 13) := rfl
theorem i_X3_addItem_13 : aq_T 30 13 = some (aq_call 31 2 (some 3) 16) := rfl
theorem i_X3_addItem_16 : aq_T 30 16 = some (aq_ld 4 0 17) := rfl
theorem i_X3_addItem_17 : aq_T 30 17 = some (aq_push (.int (1)) 18) := rfl
theorem i_X3_addItem_18 : aq_T 30 18 = some (aq_pf 3 8 5 21) := rfl
theorem i_X3_addItem_21 : aq_T 30 21 = some (aq_ld 4 0 22) := rfl
theorem i_X3_addItem_22 : aq_T 30 22 = some (aq_push (.int (1)) 23) := rfl
theorem i_X3_addItem_23 : aq_T 30 23 = some (aq_pf 3 9 5 26) := rfl
theorem i_X3_addItem_26 : aq_T 30 26 = some (aq_push (.int (1)) 27) := rfl
theorem i_X3_addItem_27 : aq_T 30 27 = some (aq_ret 5) := rfl
theorem i_X3_addSymbol_0 : aq_T 31 0 = some (aq_ld 4 0 1) := rfl
theorem i_X3_addSymbol_1 : aq_T 31 1 = some (aq_gf 3 3 4) := rfl
theorem i_X3_addSymbol_4 : aq_T 31 4 = some (aq_ld 0 1 5) := rfl
theorem i_X3_addSymbol_5 : aq_T 31 5 = some (aq_call 52 2 (some 5) 8) := rfl
theorem i_X3_addSymbol_8 : aq_T 31 8 = some (aq_if ai_ne0 16 11) := rfl
theorem i_X3_addSymbol_11 : aq_T 31 11 = some (aq_ld 4 0 12) := rfl
theorem i_X3_addSymbol_12 : aq_T 31 12 = some (aq_push (.int (1)) 13) := rfl
theorem i_X3_addSymbol_13 : aq_T 31 13 = some (aq_pf 3 4 5 16) := rfl
theorem i_X3_addSymbol_16 : aq_T 31 16 = some (aq_retv) := rfl
theorem i_X3_open_0 : aq_T 32 0 = some (aq_ld 4 0 1) := rfl
theorem i_X3_open_1 : aq_T 32 1 = some (aq_gf 3 6 4) := rfl
theorem i_X3_open_4 : aq_T 32 4 = some (aq_if ai_lt0 19 7) := rfl
theorem i_X3_open_7 : aq_T 32 7 = some (aq_ld 4 0 8) := rfl
theorem i_X3_open_8 : aq_T 32 8 = some (aq_gf 3 6 11) := rfl
theorem i_X3_open_11 : aq_T 32 11 = some (aq_ld 4 0 12) := rfl
theorem i_X3_open_12 : aq_T 32 12 = some (aq_gf 3 5 15) := rfl
theorem i_X3_open_15 : aq_T 32 15 = some (aq_len 16) := rfl
theorem i_X3_open_16 : aq_T 32 16 = some (aq_if ai_lt 21 19) := rfl
theorem i_X3_open_19 : aq_T 32 19 = some (aq_push (.int (0)) 20) := rfl
theorem i_X3_open_20 : aq_T 32 20 = some (aq_ret 5) := rfl
theorem i_X3_open_21 : aq_T 32 21 = some (aq_ld 4 0 22) := rfl
theorem i_X3_open_22 : aq_T 32 22 = some (aq_gf 3 5 25) := rfl
theorem i_X3_open_25 : aq_T 32 25 = some (aq_ld 4 0 26) := rfl
theorem i_X3_open_26 : aq_T 32 26 = some (aq_gf 3 6 29) := rfl
theorem i_X3_open_29 : aq_T 32 29 = some (aq_ld 4 0 30) := rfl
theorem i_X3_open_30 : aq_T 32 30 = some (aq_gf 3 3 33) := rfl
theorem i_X3_open_33 : aq_T 32 33 = some (aq_call 49 1 (some 5) 36) := rfl
theorem i_X3_open_36 : aq_T 32 36 = some (aq_sti 37) := rfl
theorem i_X3_open_37 : aq_T 32 37 = some (aq_ld 4 0 38) := rfl
theorem i_X3_open_38 : aq_T 32 38 = some (aq_ar af_dup 39) := rfl
theorem i_X3_open_39 : aq_T 32 39 = some (aq_gf 3 6 42) := rfl
theorem i_X3_open_42 : aq_T 32 42 = some (aq_push (.int (1)) 43) := rfl
theorem i_X3_open_43 : aq_T 32 43 = some (aq_ar af_iadd 44) := rfl
theorem i_X3_open_44 : aq_T 32 44 = some (aq_pf 3 6 0 47) := rfl
theorem i_X3_open_47 : aq_T 32 47 = some (aq_ld 4 0 48) := rfl
theorem i_X3_open_48 : aq_T 32 48 = some (aq_push (.int (0)) 49) := rfl
theorem i_X3_open_49 : aq_T 32 49 = some (aq_pf 3 8 5 52) := rfl
theorem i_X3_open_52 : aq_T 32 52 = some (aq_ld 4 0 53) := rfl
theorem i_X3_open_53 : aq_T 32 53 = some (aq_push (.int (0)) 54) := rfl
theorem i_X3_open_54 : aq_T 32 54 = some (aq_pf 3 9 5 57) := rfl
theorem i_X3_open_57 : aq_T 32 57 = some (aq_push (.int (1)) 58) := rfl
theorem i_X3_open_58 : aq_T 32 58 = some (aq_ret 5) := rfl
theorem i_X3_close_0 : aq_T 33 0 = some (aq_ld 4 0 1) := rfl
theorem i_X3_close_1 : aq_T 33 1 = some (aq_gf 3 6 4) := rfl
theorem i_X3_close_4 : aq_T 33 4 = some (aq_push (.int (1)) 5) := rfl
theorem i_X3_close_5 : aq_T 33 5 = some (aq_if ai_lt 27 8) := rfl
theorem i_X3_close_8 : aq_T 33 8 = some (aq_ld 4 0 9) := rfl
theorem i_X3_close_9 : aq_T 33 9 = some (aq_gf 3 6 12) := rfl
theorem i_X3_close_12 : aq_T 33 12 = some (aq_ld 4 0 13) := rfl
theorem i_X3_close_13 : aq_T 33 13 = some (aq_gf 3 5 16) := rfl
theorem i_X3_close_16 : aq_T 33 16 = some (aq_len 17) := rfl
theorem i_X3_close_17 : aq_T 33 17 = some (aq_if ai_gt 27 20) := rfl
theorem i_X3_close_20 : aq_T 33 20 = some (aq_ld 4 0 21) := rfl
theorem i_X3_close_21 : aq_T 33 21 = some (aq_gf 3 9 24) := rfl
theorem i_X3_close_24 : aq_T 33 24 = some (aq_if ai_ne0 29 27) := rfl
theorem i_X3_close_27 : aq_T 33 27 = some (aq_push (.int (0)) 28) := rfl
theorem i_X3_close_28 : aq_T 33 28 = some (aq_ret 5) := rfl
theorem i_X3_close_29 : aq_T 33 29 = some (aq_ld 4 0 30) := rfl
theorem i_X3_close_30 : aq_T 33 30 = some (aq_ar af_dup 31) := rfl
theorem i_X3_close_31 : aq_T 33 31 = some (aq_gf 3 6 34) := rfl
theorem i_X3_close_34 : aq_T 33 34 = some (aq_push (.int (1)) 35) := rfl
theorem i_X3_close_35 : aq_T 33 35 = some (aq_ar af_isub 36) := rfl
theorem i_X3_close_36 : aq_T 33 36 = some (aq_pf 3 6 0 39) := rfl
theorem i_X3_close_39 : aq_T 33 39 = some (aq_ld 4 0 40) := rfl
theorem i_X3_close_40 : aq_T 33 40 = some (aq_ld 4 0 41) := rfl
theorem i_X3_close_41 : aq_T 33 41 = some (aq_gf 3 5 44) := rfl
theorem i_X3_close_44 : aq_T 33 44 = some (aq_ld 4 0 45) := rfl
theorem i_X3_close_45 : aq_T 33 45 = some (aq_gf 3 6 48) := rfl
theorem i_X3_close_48 : aq_T 33 48 = some (aq_ldi 0 49) := rfl
theorem i_X3_close_49 : aq_T 33 49 = some (aq_pf 3 7 0 52) := rfl
theorem i_X3_close_52 : aq_T 33 52 = some (aq_ld 4 0 53) := rfl
theorem i_X3_close_53 : aq_T 33 53 = some (aq_push (.int (1)) 54) := rfl
theorem i_X3_close_54 : aq_T 33 54 = some (aq_pf 3 8 5 57) := rfl
theorem i_X3_close_57 : aq_T 33 57 = some (aq_push (.int (1)) 58) := rfl
theorem i_X3_close_58 : aq_T 33 58 = some (aq_ret 5) := rfl
theorem i_X3_repeat_0 : aq_T 34 0 = some (aq_ld 4 0 1) := rfl
theorem i_X3_repeat_1 : aq_T 34 1 = some (aq_gf 3 8 4) := rfl
theorem i_X3_repeat_4 : aq_T 34 4 = some (aq_if ai_ne0 9 7) := rfl
theorem i_X3_repeat_7 : aq_T 34 7 = some (aq_push (.int (0)) 8) := rfl
theorem i_X3_repeat_8 : aq_T 34 8 = some (aq_ret 5) := rfl
theorem i_X3_repeat_9 : aq_T 34 9 = some (aq_ld 4 0 10) := rfl
theorem i_X3_repeat_10 : aq_T 34 10 = some (aq_gf 3 3 13) := rfl
theorem i_X3_repeat_13 : aq_T 34 13 = some (aq_call 49 1 (some 5) 16) := rfl
theorem i_X3_repeat_16 : aq_T 34 16 = some (aq_st 0 2 17) := rfl
theorem i_X3_repeat_17 : aq_T 34 17 = some (aq_push (.int (1)) 18) := rfl
theorem i_X3_repeat_18 : aq_T 34 18 = some (aq_st 0 3 19) := rfl
theorem i_X3_repeat_19 : aq_T 34 19 = some (aq_ld 0 3 20) := rfl
theorem i_X3_repeat_20 : aq_T 34 20 = some (aq_ld 0 1 21) := rfl
theorem i_X3_repeat_21 : aq_T 34 21 = some (aq_if ai_ge 61 24) := rfl
theorem i_X3_repeat_24 : aq_T 34 24 = some (aq_ld 4 0 25) := rfl
theorem i_X3_repeat_25 : aq_T 34 25 = some (aq_gf 3 7 28) := rfl
theorem i_X3_repeat_28 : aq_T 34 28 = some (aq_st 0 4 30) := rfl
theorem i_X3_repeat_30 : aq_T 34 30 = some (aq_ld 0 4 32) := rfl
theorem i_X3_repeat_32 : aq_T 34 32 = some (aq_ld 0 2 33) := rfl
theorem i_X3_repeat_33 : aq_T 34 33 = some (aq_if ai_ge 55 36) := rfl
theorem i_X3_repeat_36 : aq_T 34 36 = some (aq_ld 4 0 37) := rfl
theorem i_X3_repeat_37 : aq_T 34 37 = some (aq_ld 4 0 38) := rfl
theorem i_X3_repeat_38 : aq_T 34 38 = some (aq_gf 3 3 41) := rfl
theorem i_X3_repeat_41 : aq_T 34 41 = some (aq_ld 0 4 43) := rfl
theorem i_X3_repeat_43 : aq_T 34 43 = some (aq_call 50 2 (some 5) 46) := rfl
theorem i_X3_repeat_46 : aq_T 34 46 = some (aq_call 31 2 (some 3) 49) := rfl
theorem i_X3_repeat_49 : aq_T 34 49 = some (aq_inc 4 (1) 52) := rfl
theorem i_X3_repeat_52 : aq_T 34 52 = some (aq_go 30) := rfl
theorem i_X3_repeat_55 : aq_T 34 55 = some (aq_inc 3 (1) 58) := rfl
theorem i_X3_repeat_58 : aq_T 34 58 = some (aq_go 19) := rfl
theorem i_X3_repeat_61 : aq_T 34 61 = some (aq_ld 4 0 62) := rfl
theorem i_X3_repeat_62 : aq_T 34 62 = some (aq_push (.int (0)) 63) := rfl
theorem i_X3_repeat_63 : aq_T 34 63 = some (aq_pf 3 8 5 66) := rfl
theorem i_X3_repeat_66 : aq_T 34 66 = some (aq_push (.int (1)) 67) := rfl
theorem i_X3_repeat_67 : aq_T 34 67 = some (aq_ret 5) := rfl
theorem i_X5_init_0 : aq_T 48 0 = some (aq_ld 4 0 1) := rfl
theorem i_X5_init_1 : aq_T 48 1 = some (aq_oi 4) := rfl
theorem i_X5_init_4 : aq_T 48 4 = some (aq_ld 4 0 5) := rfl
theorem i_X5_init_5 : aq_T 48 5 = some (aq_push (.int (40)) 7) := rfl
theorem i_X5_init_7 : aq_T 48 7 = some (aq_newa 0 9) := rfl
theorem i_X5_init_9 : aq_T 48 9 = some (aq_pf 5 0 4 12) := rfl
theorem i_X5_init_12 : aq_T 48 12 = some (aq_retv) := rfl
theorem i_X5_size_0 : aq_T 49 0 = some (aq_ld 4 0 1) := rfl
theorem i_X5_size_1 : aq_T 49 1 = some (aq_gf 5 1 4) := rfl
theorem i_X5_size_4 : aq_T 49 4 = some (aq_ret 0) := rfl
theorem i_X5_at_0 : aq_T 50 0 = some (aq_ld 0 1 1) := rfl
theorem i_X5_at_1 : aq_T 50 1 = some (aq_if ai_lt0 21 4) := rfl
theorem i_X5_at_4 : aq_T 50 4 = some (aq_ld 0 1 5) := rfl
theorem i_X5_at_5 : aq_T 50 5 = some (aq_ld 4 0 6) := rfl
theorem i_X5_at_6 : aq_T 50 6 = some (aq_gf 5 1 9) := rfl
theorem i_X5_at_9 : aq_T 50 9 = some (aq_if ai_ge 21 12) := rfl
theorem i_X5_at_12 : aq_T 50 12 = some (aq_ld 0 1 13) := rfl
theorem i_X5_at_13 : aq_T 50 13 = some (aq_ld 4 0 14) := rfl
theorem i_X5_at_14 : aq_T 50 14 = some (aq_gf 5 0 17) := rfl
theorem i_X5_at_17 : aq_T 50 17 = some (aq_len 18) := rfl
theorem i_X5_at_18 : aq_T 50 18 = some (aq_if ai_lt 25 21) := rfl
theorem i_X5_at_21 : aq_T 50 21 = some (aq_push (.int (-1)) 22) := rfl
theorem i_X5_at_22 : aq_T 50 22 = some (aq_go 31) := rfl
theorem i_X5_at_25 : aq_T 50 25 = some (aq_ld 4 0 26) := rfl
theorem i_X5_at_26 : aq_T 50 26 = some (aq_gf 5 0 29) := rfl
theorem i_X5_at_29 : aq_T 50 29 = some (aq_ld 0 1 30) := rfl
theorem i_X5_at_30 : aq_T 50 30 = some (aq_ldi 0 31) := rfl
theorem i_X5_at_31 : aq_T 50 31 = some (aq_ret 0) := rfl
theorem i_X5_put_0 : aq_T 51 0 = some (aq_ld 0 1 1) := rfl
theorem i_X5_put_1 : aq_T 51 1 = some (aq_if ai_lt0 28 4) := rfl
theorem i_X5_put_4 : aq_T 51 4 = some (aq_ld 0 1 5) := rfl
theorem i_X5_put_5 : aq_T 51 5 = some (aq_ld 4 0 6) := rfl
theorem i_X5_put_6 : aq_T 51 6 = some (aq_gf 5 1 9) := rfl
theorem i_X5_put_9 : aq_T 51 9 = some (aq_if ai_ge 28 12) := rfl
theorem i_X5_put_12 : aq_T 51 12 = some (aq_ld 0 1 13) := rfl
theorem i_X5_put_13 : aq_T 51 13 = some (aq_ld 4 0 14) := rfl
theorem i_X5_put_14 : aq_T 51 14 = some (aq_gf 5 0 17) := rfl
theorem i_X5_put_17 : aq_T 51 17 = some (aq_len 18) := rfl
theorem i_X5_put_18 : aq_T 51 18 = some (aq_if ai_ge 28 21) := rfl
theorem i_X5_put_21 : aq_T 51 21 = some (aq_ld 4 0 22) := rfl
theorem i_X5_put_22 : aq_T 51 22 = some (aq_gf 5 0 25) := rfl
theorem i_X5_put_25 : aq_T 51 25 = some (aq_ld 0 1 26) := rfl
theorem i_X5_put_26 : aq_T 51 26 = some (aq_ld 0 2 27) := rfl
theorem i_X5_put_27 : aq_T 51 27 = some (aq_sti 28) := rfl
theorem i_X5_put_28 : aq_T 51 28 = some (aq_retv) := rfl
theorem i_X5_add_0 : aq_T 52 0 = some (aq_ld 4 0 1) := rfl
theorem i_X5_add_1 : aq_T 52 1 = some (aq_gf 5 1 4) := rfl
theorem i_X5_add_4 : aq_T 52 4 = some (aq_if ai_lt0 19 7) := rfl
theorem i_X5_add_7 : aq_T 52 7 = some (aq_ld 4 0 8) := rfl
theorem i_X5_add_8 : aq_T 52 8 = some (aq_gf 5 1 11) := rfl
theorem i_X5_add_11 : aq_T 52 11 = some (aq_ld 4 0 12) := rfl
theorem i_X5_add_12 : aq_T 52 12 = some (aq_gf 5 0 15) := rfl
theorem i_X5_add_15 : aq_T 52 15 = some (aq_len 16) := rfl
theorem i_X5_add_16 : aq_T 52 16 = some (aq_if ai_lt 21 19) := rfl
theorem i_X5_add_19 : aq_T 52 19 = some (aq_push (.int (0)) 20) := rfl
theorem i_X5_add_20 : aq_T 52 20 = some (aq_ret 5) := rfl
theorem i_X5_add_21 : aq_T 52 21 = some (aq_ld 4 0 22) := rfl
theorem i_X5_add_22 : aq_T 52 22 = some (aq_gf 5 0 25) := rfl
theorem i_X5_add_25 : aq_T 52 25 = some (aq_ld 4 0 26) := rfl
theorem i_X5_add_26 : aq_T 52 26 = some (aq_gf 5 1 29) := rfl
theorem i_X5_add_29 : aq_T 52 29 = some (aq_ld 0 1 30) := rfl
theorem i_X5_add_30 : aq_T 52 30 = some (aq_sti 31) := rfl
theorem i_X5_add_31 : aq_T 52 31 = some (aq_ld 4 0 32) := rfl
theorem i_X5_add_32 : aq_T 52 32 = some (aq_ar af_dup 33) := rfl
theorem i_X5_add_33 : aq_T 52 33 = some (aq_gf 5 1 36) := rfl
theorem i_X5_add_36 : aq_T 52 36 = some (aq_push (.int (1)) 37) := rfl
theorem i_X5_add_37 : aq_T 52 37 = some (aq_ar af_iadd 38) := rfl
theorem i_X5_add_38 : aq_T 52 38 = some (aq_pf 5 1 0 41) := rfl
theorem i_X5_add_41 : aq_T 52 41 = some (aq_push (.int (1)) 42) := rfl
theorem i_X5_add_42 : aq_T 52 42 = some (aq_ret 5) := rfl
theorem i_X5_makeEmpty_0 : aq_T 53 0 = some (aq_ld 4 0 1) := rfl
theorem i_X5_makeEmpty_1 : aq_T 53 1 = some (aq_push (.int (0)) 2) := rfl
theorem i_X5_makeEmpty_2 : aq_T 53 2 = some (aq_pf 5 1 0 5) := rfl
theorem i_X5_makeEmpty_5 : aq_T 53 5 = some (aq_retv) := rfl
theorem i_X5_copyFrom_0 : aq_T 54 0 = some (aq_ld 4 0 1) := rfl
theorem i_X5_copyFrom_1 : aq_T 54 1 = some (aq_ld 4 1 2) := rfl
theorem i_X5_copyFrom_2 : aq_T 54 2 = some (aq_gf 5 1 5) := rfl
theorem i_X5_copyFrom_5 : aq_T 54 5 = some (aq_pf 5 1 0 8) := rfl
theorem i_X5_copyFrom_8 : aq_T 54 8 = some (aq_push (.int (0)) 9) := rfl
theorem i_X5_copyFrom_9 : aq_T 54 9 = some (aq_st 0 2 10) := rfl
theorem i_X5_copyFrom_10 : aq_T 54 10 = some (aq_ld 0 2 11) := rfl
theorem i_X5_copyFrom_11 : aq_T 54 11 = some (aq_ld 4 0 12) := rfl
theorem i_X5_copyFrom_12 : aq_T 54 12 = some (aq_gf 5 1 15) := rfl
theorem i_X5_copyFrom_15 : aq_T 54 15 = some (aq_if ai_ge 34 18) := rfl
theorem i_X5_copyFrom_18 : aq_T 54 18 = some (aq_ld 4 0 19) := rfl
theorem i_X5_copyFrom_19 : aq_T 54 19 = some (aq_ld 0 2 20) := rfl
theorem i_X5_copyFrom_20 : aq_T 54 20 = some (aq_ld 4 1 21) := rfl
theorem i_X5_copyFrom_21 : aq_T 54 21 = some (aq_ld 0 2 22) := rfl
theorem i_X5_copyFrom_22 : aq_T 54 22 = some (aq_call 50 2 (some 5) 25) := rfl
theorem i_X5_copyFrom_25 : aq_T 54 25 = some (aq_call 51 3 (some 5) 28) := rfl
theorem i_X5_copyFrom_28 : aq_T 54 28 = some (aq_inc 2 (1) 31) := rfl
theorem i_X5_copyFrom_31 : aq_T 54 31 = some (aq_go 10) := rfl
theorem i_X5_copyFrom_34 : aq_T 54 34 = some (aq_retv) := rfl
theorem i_X5_isSameAs_0 : aq_T 55 0 = some (aq_push (.int (0)) 1) := rfl
theorem i_X5_isSameAs_1 : aq_T 55 1 = some (aq_st 0 2 2) := rfl
theorem i_X5_isSameAs_2 : aq_T 55 2 = some (aq_ld 0 2 3) := rfl
theorem i_X5_isSameAs_3 : aq_T 55 3 = some (aq_ld 4 0 4) := rfl
theorem i_X5_isSameAs_4 : aq_T 55 4 = some (aq_gf 5 1 7) := rfl
theorem i_X5_isSameAs_7 : aq_T 55 7 = some (aq_if ai_ge 31 10) := rfl
theorem i_X5_isSameAs_10 : aq_T 55 10 = some (aq_ld 4 0 11) := rfl
theorem i_X5_isSameAs_11 : aq_T 55 11 = some (aq_ld 0 2 12) := rfl
theorem i_X5_isSameAs_12 : aq_T 55 12 = some (aq_call 50 2 (some 5) 15) := rfl
theorem i_X5_isSameAs_15 : aq_T 55 15 = some (aq_ld 4 1 16) := rfl
theorem i_X5_isSameAs_16 : aq_T 55 16 = some (aq_ld 0 2 17) := rfl
theorem i_X5_isSameAs_17 : aq_T 55 17 = some (aq_call 50 2 (some 5) 20) := rfl
theorem i_X5_isSameAs_20 : aq_T 55 20 = some (aq_if ai_eq 25 23) := rfl
theorem i_X5_isSameAs_23 : aq_T 55 23 = some (aq_push (.int (0)) 24) := rfl
theorem i_X5_isSameAs_24 : aq_T 55 24 = some (aq_ret 5) := rfl
theorem i_X5_isSameAs_25 : aq_T 55 25 = some (aq_inc 2 (1) 28) := rfl
theorem i_X5_isSameAs_28 : aq_T 55 28 = some (aq_go 2) := rfl
theorem i_X5_isSameAs_31 : aq_T 55 31 = some (aq_ld 4 0 32) := rfl
theorem i_X5_isSameAs_32 : aq_T 55 32 = some (aq_gf 5 1 35) := rfl
theorem i_X5_isSameAs_35 : aq_T 55 35 = some (aq_ld 4 1 36) := rfl
theorem i_X5_isSameAs_36 : aq_T 55 36 = some (aq_gf 5 1 39) := rfl
theorem i_X5_isSameAs_39 : aq_T 55 39 = some (aq_if ai_ne 46 42) := rfl
theorem i_X5_isSameAs_42 : aq_T 55 42 = some (aq_push (.int (1)) 43) := rfl
theorem i_X5_isSameAs_43 : aq_T 55 43 = some (aq_go 47) := rfl
theorem i_X5_isSameAs_46 : aq_T 55 46 = some (aq_push (.int (0)) 47) := rfl
theorem i_X5_isSameAs_47 : aq_T 55 47 = some (aq_ret 5) := rfl
theorem i_X5_isBefore_0 : aq_T 56 0 = some (aq_ld 4 0 1) := rfl
theorem i_X5_isBefore_1 : aq_T 56 1 = some (aq_gf 5 1 4) := rfl
theorem i_X5_isBefore_4 : aq_T 56 4 = some (aq_ld 4 1 5) := rfl
theorem i_X5_isBefore_5 : aq_T 56 5 = some (aq_gf 5 1 8) := rfl
theorem i_X5_isBefore_8 : aq_T 56 8 = some (aq_if ai_eq 28 11) := rfl
theorem i_X5_isBefore_11 : aq_T 56 11 = some (aq_ld 4 0 12) := rfl
theorem i_X5_isBefore_12 : aq_T 56 12 = some (aq_gf 5 1 15) := rfl
theorem i_X5_isBefore_15 : aq_T 56 15 = some (aq_ld 4 1 16) := rfl
theorem i_X5_isBefore_16 : aq_T 56 16 = some (aq_gf 5 1 19) := rfl
theorem i_X5_isBefore_19 : aq_T 56 19 = some (aq_if ai_ge 26 22) := rfl
theorem i_X5_isBefore_22 : aq_T 56 22 = some (aq_push (.int (1)) 23) := rfl
theorem i_X5_isBefore_23 : aq_T 56 23 = some (aq_go 27) := rfl
theorem i_X5_isBefore_26 : aq_T 56 26 = some (aq_push (.int (0)) 27) := rfl
theorem i_X5_isBefore_27 : aq_T 56 27 = some (aq_ret 5) := rfl
theorem i_X5_isBefore_28 : aq_T 56 28 = some (aq_push (.int (0)) 29) := rfl
theorem i_X5_isBefore_29 : aq_T 56 29 = some (aq_st 0 2 30) := rfl
theorem i_X5_isBefore_30 : aq_T 56 30 = some (aq_ld 0 2 31) := rfl
theorem i_X5_isBefore_31 : aq_T 56 31 = some (aq_ld 4 0 32) := rfl
theorem i_X5_isBefore_32 : aq_T 56 32 = some (aq_gf 5 1 35) := rfl
theorem i_X5_isBefore_35 : aq_T 56 35 = some (aq_if ai_ge 76 38) := rfl
theorem i_X5_isBefore_38 : aq_T 56 38 = some (aq_ld 4 0 39) := rfl
theorem i_X5_isBefore_39 : aq_T 56 39 = some (aq_ld 0 2 40) := rfl
theorem i_X5_isBefore_40 : aq_T 56 40 = some (aq_call 50 2 (some 5) 43) := rfl
theorem i_X5_isBefore_43 : aq_T 56 43 = some (aq_ld 4 1 44) := rfl
theorem i_X5_isBefore_44 : aq_T 56 44 = some (aq_ld 0 2 45) := rfl
theorem i_X5_isBefore_45 : aq_T 56 45 = some (aq_call 50 2 (some 5) 48) := rfl
theorem i_X5_isBefore_48 : aq_T 56 48 = some (aq_if ai_eq 70 51) := rfl
theorem i_X5_isBefore_51 : aq_T 56 51 = some (aq_ld 4 0 52) := rfl
theorem i_X5_isBefore_52 : aq_T 56 52 = some (aq_ld 0 2 53) := rfl
theorem i_X5_isBefore_53 : aq_T 56 53 = some (aq_call 50 2 (some 5) 56) := rfl
theorem i_X5_isBefore_56 : aq_T 56 56 = some (aq_ld 4 1 57) := rfl
theorem i_X5_isBefore_57 : aq_T 56 57 = some (aq_ld 0 2 58) := rfl
theorem i_X5_isBefore_58 : aq_T 56 58 = some (aq_call 50 2 (some 5) 61) := rfl
theorem i_X5_isBefore_61 : aq_T 56 61 = some (aq_if ai_ge 68 64) := rfl
theorem i_X5_isBefore_64 : aq_T 56 64 = some (aq_push (.int (1)) 65) := rfl
theorem i_X5_isBefore_65 : aq_T 56 65 = some (aq_go 69) := rfl
theorem i_X5_isBefore_68 : aq_T 56 68 = some (aq_push (.int (0)) 69) := rfl
theorem i_X5_isBefore_69 : aq_T 56 69 = some (aq_ret 5) := rfl
theorem i_X5_isBefore_70 : aq_T 56 70 = some (aq_inc 2 (1) 73) := rfl
theorem i_X5_isBefore_73 : aq_T 56 73 = some (aq_go 30) := rfl
theorem i_X5_isBefore_76 : aq_T 56 76 = some (aq_push (.int (0)) 77) := rfl
theorem i_X5_isBefore_77 : aq_T 56 77 = some (aq_ret 5) := rfl
theorem i_X5_holeCount_0 : aq_T 57 0 = some (aq_push (.int (0)) 1) := rfl
theorem i_X5_holeCount_1 : aq_T 57 1 = some (aq_st 0 1 2) := rfl
theorem i_X5_holeCount_2 : aq_T 57 2 = some (aq_push (.int (0)) 3) := rfl
theorem i_X5_holeCount_3 : aq_T 57 3 = some (aq_st 0 2 4) := rfl
theorem i_X5_holeCount_4 : aq_T 57 4 = some (aq_ld 0 2 5) := rfl
theorem i_X5_holeCount_5 : aq_T 57 5 = some (aq_ld 4 0 6) := rfl
theorem i_X5_holeCount_6 : aq_T 57 6 = some (aq_gf 5 1 9) := rfl
theorem i_X5_holeCount_9 : aq_T 57 9 = some (aq_if ai_ge 30 12) := rfl
theorem i_X5_holeCount_12 : aq_T 57 12 = some (aq_ld 4 0 13) := rfl
theorem i_X5_holeCount_13 : aq_T 57 13 = some (aq_ld 0 2 14) := rfl
theorem i_X5_holeCount_14 : aq_T 57 14 = some (aq_call 50 2 (some 5) 17) := rfl
theorem i_X5_holeCount_17 : aq_T 57 17 = some (aq_push (.int (-1)) 18) := rfl
theorem i_X5_holeCount_18 : aq_T 57 18 = some (aq_if ai_ne 24 21) := rfl
theorem i_X5_holeCount_21 : aq_T 57 21 = some (aq_inc 1 (1) 24) := rfl
theorem i_X5_holeCount_24 : aq_T 57 24 = some (aq_inc 2 (1) 27) := rfl
theorem i_X5_holeCount_27 : aq_T 57 27 = some (aq_go 4) := rfl
theorem i_X5_holeCount_30 : aq_T 57 30 = some (aq_ld 0 1 31) := rfl
theorem i_X5_holeCount_31 : aq_T 57 31 = some (aq_ret 0) := rfl
theorem i_X5_agreesWith_0 : aq_T 58 0 = some (aq_ld 4 0 1) := rfl
theorem i_X5_agreesWith_1 : aq_T 58 1 = some (aq_gf 5 1 4) := rfl
theorem i_X5_agreesWith_4 : aq_T 58 4 = some (aq_ld 4 1 5) := rfl
theorem i_X5_agreesWith_5 : aq_T 58 5 = some (aq_gf 5 1 8) := rfl
theorem i_X5_agreesWith_8 : aq_T 58 8 = some (aq_if ai_ne 24 11) := rfl
theorem i_X5_agreesWith_11 : aq_T 58 11 = some (aq_ld 4 0 12) := rfl
theorem i_X5_agreesWith_12 : aq_T 58 12 = some (aq_push (.int (0)) 13) := rfl
theorem i_X5_agreesWith_13 : aq_T 58 13 = some (aq_ld 4 1 14) := rfl
theorem i_X5_agreesWith_14 : aq_T 58 14 = some (aq_call 59 3 (some 5) 17) := rfl
theorem i_X5_agreesWith_17 : aq_T 58 17 = some (aq_if ai_eq0 24 20) := rfl
theorem i_X5_agreesWith_20 : aq_T 58 20 = some (aq_push (.int (1)) 21) := rfl
theorem i_X5_agreesWith_21 : aq_T 58 21 = some (aq_go 25) := rfl
theorem i_X5_agreesWith_24 : aq_T 58 24 = some (aq_push (.int (0)) 25) := rfl
theorem i_X5_agreesWith_25 : aq_T 58 25 = some (aq_ret 5) := rfl
theorem i_X5_agreesAt_0 : aq_T 59 0 = some (aq_push (.int (0)) 1) := rfl
theorem i_X5_agreesAt_1 : aq_T 59 1 = some (aq_st 0 3 2) := rfl
theorem i_X5_agreesAt_2 : aq_T 59 2 = some (aq_ld 0 3 3) := rfl
theorem i_X5_agreesAt_3 : aq_T 59 3 = some (aq_ld 4 2 4) := rfl
theorem i_X5_agreesAt_4 : aq_T 59 4 = some (aq_gf 5 1 7) := rfl
theorem i_X5_agreesAt_7 : aq_T 59 7 = some (aq_if ai_ge 36 10) := rfl
theorem i_X5_agreesAt_10 : aq_T 59 10 = some (aq_ld 4 0 11) := rfl
theorem i_X5_agreesAt_11 : aq_T 59 11 = some (aq_ld 0 1 12) := rfl
theorem i_X5_agreesAt_12 : aq_T 59 12 = some (aq_ld 0 3 13) := rfl
theorem i_X5_agreesAt_13 : aq_T 59 13 = some (aq_ar af_iadd 14) := rfl
theorem i_X5_agreesAt_14 : aq_T 59 14 = some (aq_call 50 2 (some 5) 17) := rfl
theorem i_X5_agreesAt_17 : aq_T 59 17 = some (aq_ld 4 2 18) := rfl
theorem i_X5_agreesAt_18 : aq_T 59 18 = some (aq_ld 0 3 19) := rfl
theorem i_X5_agreesAt_19 : aq_T 59 19 = some (aq_call 50 2 (some 5) 22) := rfl
theorem i_X5_agreesAt_22 : aq_T 59 22 = some (aq_call 116 2 none 25) := rfl
theorem i_X5_agreesAt_25 : aq_T 59 25 = some (aq_if ai_eq0 30 28) := rfl
theorem i_X5_agreesAt_28 : aq_T 59 28 = some (aq_push (.int (0)) 29) := rfl
theorem i_X5_agreesAt_29 : aq_T 59 29 = some (aq_ret 5) := rfl
theorem i_X5_agreesAt_30 : aq_T 59 30 = some (aq_inc 3 (1) 33) := rfl
theorem i_X5_agreesAt_33 : aq_T 59 33 = some (aq_go 2) := rfl
theorem i_X5_agreesAt_36 : aq_T 59 36 = some (aq_push (.int (1)) 37) := rfl
theorem i_X5_agreesAt_37 : aq_T 59 37 = some (aq_ret 5) := rfl
theorem i_X5_isHoleAtEach_0 : aq_T 60 0 = some (aq_ld 0 1 1) := rfl
theorem i_X5_isHoleAtEach_1 : aq_T 60 1 = some (aq_st 0 3 2) := rfl
theorem i_X5_isHoleAtEach_2 : aq_T 60 2 = some (aq_ld 0 3 3) := rfl
theorem i_X5_isHoleAtEach_3 : aq_T 60 3 = some (aq_ld 4 0 4) := rfl
theorem i_X5_isHoleAtEach_4 : aq_T 60 4 = some (aq_gf 5 1 7) := rfl
theorem i_X5_isHoleAtEach_7 : aq_T 60 7 = some (aq_if ai_ge 32 10) := rfl
theorem i_X5_isHoleAtEach_10 : aq_T 60 10 = some (aq_ld 0 2 11) := rfl
theorem i_X5_isHoleAtEach_11 : aq_T 60 11 = some (aq_if ai_le0 32 14) := rfl
theorem i_X5_isHoleAtEach_14 : aq_T 60 14 = some (aq_ld 4 0 15) := rfl
theorem i_X5_isHoleAtEach_15 : aq_T 60 15 = some (aq_ld 0 3 16) := rfl
theorem i_X5_isHoleAtEach_16 : aq_T 60 16 = some (aq_call 50 2 (some 5) 19) := rfl
theorem i_X5_isHoleAtEach_19 : aq_T 60 19 = some (aq_push (.int (-1)) 20) := rfl
theorem i_X5_isHoleAtEach_20 : aq_T 60 20 = some (aq_if ai_eq 25 23) := rfl
theorem i_X5_isHoleAtEach_23 : aq_T 60 23 = some (aq_push (.int (0)) 24) := rfl
theorem i_X5_isHoleAtEach_24 : aq_T 60 24 = some (aq_ret 5) := rfl
theorem i_X5_isHoleAtEach_25 : aq_T 60 25 = some (aq_ld 0 3 26) := rfl
theorem i_X5_isHoleAtEach_26 : aq_T 60 26 = some (aq_ld 0 2 27) := rfl
theorem i_X5_isHoleAtEach_27 : aq_T 60 27 = some (aq_ar af_iadd 28) := rfl
theorem i_X5_isHoleAtEach_28 : aq_T 60 28 = some (aq_st 0 3 29) := rfl
theorem i_X5_isHoleAtEach_29 : aq_T 60 29 = some (aq_go 2) := rfl
theorem i_X5_isHoleAtEach_32 : aq_T 60 32 = some (aq_push (.int (1)) 33) := rfl
theorem i_X5_isHoleAtEach_33 : aq_T 60 33 = some (aq_ret 5) := rfl
theorem i_X5_placesFor_0 : aq_T 61 0 = some (aq_push (.long 0) 1) := rfl
theorem i_X5_placesFor_1 : aq_T 61 1 = some (aq_st 1 2 2) := rfl
theorem i_X5_placesFor_2 : aq_T 61 2 = some (aq_push (.int (0)) 3) := rfl
theorem i_X5_placesFor_3 : aq_T 61 3 = some (aq_st 0 4 5) := rfl
theorem i_X5_placesFor_5 : aq_T 61 5 = some (aq_ld 0 4 7) := rfl
theorem i_X5_placesFor_7 : aq_T 61 7 = some (aq_ld 4 0 8) := rfl
theorem i_X5_placesFor_8 : aq_T 61 8 = some (aq_gf 5 1 11) := rfl
theorem i_X5_placesFor_11 : aq_T 61 11 = some (aq_if ai_ge 40 14) := rfl
theorem i_X5_placesFor_14 : aq_T 61 14 = some (aq_ld 4 0 15) := rfl
theorem i_X5_placesFor_15 : aq_T 61 15 = some (aq_ld 0 4 17) := rfl
theorem i_X5_placesFor_17 : aq_T 61 17 = some (aq_call 50 2 (some 5) 20) := rfl
theorem i_X5_placesFor_20 : aq_T 61 20 = some (aq_ld 0 1 21) := rfl
theorem i_X5_placesFor_21 : aq_T 61 21 = some (aq_call 116 2 none 24) := rfl
theorem i_X5_placesFor_24 : aq_T 61 24 = some (aq_if ai_ne0 34 27) := rfl
theorem i_X5_placesFor_27 : aq_T 61 27 = some (aq_ld 1 2 28) := rfl
theorem i_X5_placesFor_28 : aq_T 61 28 = some (aq_push (.long 1) 29) := rfl
theorem i_X5_placesFor_29 : aq_T 61 29 = some (aq_ld 0 4 31) := rfl
theorem i_X5_placesFor_31 : aq_T 61 31 = some (aq_ar af_lshl 32) := rfl
theorem i_X5_placesFor_32 : aq_T 61 32 = some (aq_ar af_lor 33) := rfl
theorem i_X5_placesFor_33 : aq_T 61 33 = some (aq_st 1 2 34) := rfl
theorem i_X5_placesFor_34 : aq_T 61 34 = some (aq_inc 4 (1) 37) := rfl
theorem i_X5_placesFor_37 : aq_T 61 37 = some (aq_go 5) := rfl
theorem i_X5_placesFor_40 : aq_T 61 40 = some (aq_ld 1 2 41) := rfl
theorem i_X5_placesFor_41 : aq_T 61 41 = some (aq_ret 1) := rfl
theorem i_X5_hasPeriod_0 : aq_T 62 0 = some (aq_ld 0 2 1) := rfl
theorem i_X5_hasPeriod_1 : aq_T 62 1 = some (aq_if ai_eq0 10 4) := rfl
theorem i_X5_hasPeriod_4 : aq_T 62 4 = some (aq_ld 4 0 5) := rfl
theorem i_X5_hasPeriod_5 : aq_T 62 5 = some (aq_ld 0 1 6) := rfl
theorem i_X5_hasPeriod_6 : aq_T 62 6 = some (aq_call 63 2 (some 5) 9) := rfl
theorem i_X5_hasPeriod_9 : aq_T 62 9 = some (aq_ret 5) := rfl
theorem i_X5_hasPeriod_10 : aq_T 62 10 = some (aq_ld 0 1 11) := rfl
theorem i_X5_hasPeriod_11 : aq_T 62 11 = some (aq_st 0 3 12) := rfl
theorem i_X5_hasPeriod_12 : aq_T 62 12 = some (aq_ld 0 3 13) := rfl
theorem i_X5_hasPeriod_13 : aq_T 62 13 = some (aq_ld 4 0 14) := rfl
theorem i_X5_hasPeriod_14 : aq_T 62 14 = some (aq_gf 5 1 17) := rfl
theorem i_X5_hasPeriod_17 : aq_T 62 17 = some (aq_if ai_ge 41 20) := rfl
theorem i_X5_hasPeriod_20 : aq_T 62 20 = some (aq_ld 0 3 21) := rfl
theorem i_X5_hasPeriod_21 : aq_T 62 21 = some (aq_if ai_le0 41 24) := rfl
theorem i_X5_hasPeriod_24 : aq_T 62 24 = some (aq_ld 4 0 25) := rfl
theorem i_X5_hasPeriod_25 : aq_T 62 25 = some (aq_ld 0 3 26) := rfl
theorem i_X5_hasPeriod_26 : aq_T 62 26 = some (aq_call 63 2 (some 5) 29) := rfl
theorem i_X5_hasPeriod_29 : aq_T 62 29 = some (aq_if ai_ne0 34 32) := rfl
theorem i_X5_hasPeriod_32 : aq_T 62 32 = some (aq_push (.int (0)) 33) := rfl
theorem i_X5_hasPeriod_33 : aq_T 62 33 = some (aq_ret 5) := rfl
theorem i_X5_hasPeriod_34 : aq_T 62 34 = some (aq_ld 0 3 35) := rfl
theorem i_X5_hasPeriod_35 : aq_T 62 35 = some (aq_ld 0 1 36) := rfl
theorem i_X5_hasPeriod_36 : aq_T 62 36 = some (aq_ar af_iadd 37) := rfl
theorem i_X5_hasPeriod_37 : aq_T 62 37 = some (aq_st 0 3 38) := rfl
theorem i_X5_hasPeriod_38 : aq_T 62 38 = some (aq_go 12) := rfl
theorem i_X5_hasPeriod_41 : aq_T 62 41 = some (aq_push (.int (1)) 42) := rfl
theorem i_X5_hasPeriod_42 : aq_T 62 42 = some (aq_ret 5) := rfl
theorem i_X5_agreesAfter_0 : aq_T 63 0 = some (aq_ld 0 1 1) := rfl
theorem i_X5_agreesAfter_1 : aq_T 63 1 = some (aq_st 0 2 2) := rfl
theorem i_X5_agreesAfter_2 : aq_T 63 2 = some (aq_ld 0 2 3) := rfl
theorem i_X5_agreesAfter_3 : aq_T 63 3 = some (aq_ld 4 0 4) := rfl
theorem i_X5_agreesAfter_4 : aq_T 63 4 = some (aq_gf 5 1 7) := rfl
theorem i_X5_agreesAfter_7 : aq_T 63 7 = some (aq_if ai_ge 36 10) := rfl
theorem i_X5_agreesAfter_10 : aq_T 63 10 = some (aq_ld 4 0 11) := rfl
theorem i_X5_agreesAfter_11 : aq_T 63 11 = some (aq_ld 0 2 12) := rfl
theorem i_X5_agreesAfter_12 : aq_T 63 12 = some (aq_ld 0 1 13) := rfl
theorem i_X5_agreesAfter_13 : aq_T 63 13 = some (aq_ar af_isub 14) := rfl
theorem i_X5_agreesAfter_14 : aq_T 63 14 = some (aq_call 50 2 (some 5) 17) := rfl
theorem i_X5_agreesAfter_17 : aq_T 63 17 = some (aq_ld 4 0 18) := rfl
theorem i_X5_agreesAfter_18 : aq_T 63 18 = some (aq_ld 0 2 19) := rfl
theorem i_X5_agreesAfter_19 : aq_T 63 19 = some (aq_call 50 2 (some 5) 22) := rfl
theorem i_X5_agreesAfter_22 : aq_T 63 22 = some (aq_call 116 2 none 25) := rfl
theorem i_X5_agreesAfter_25 : aq_T 63 25 = some (aq_if ai_eq0 30 28) := rfl
theorem i_X5_agreesAfter_28 : aq_T 63 28 = some (aq_push (.int (0)) 29) := rfl
theorem i_X5_agreesAfter_29 : aq_T 63 29 = some (aq_ret 5) := rfl
theorem i_X5_agreesAfter_30 : aq_T 63 30 = some (aq_inc 2 (1) 33) := rfl
theorem i_X5_agreesAfter_33 : aq_T 63 33 = some (aq_go 2) := rfl
theorem i_X5_agreesAfter_36 : aq_T 63 36 = some (aq_push (.int (1)) 37) := rfl
theorem i_X5_agreesAfter_37 : aq_T 63 37 = some (aq_ret 5) := rfl
theorem i_X5_firstPeriod_0 : aq_T 64 0 = some (aq_push (.int (1)) 1) := rfl
theorem i_X5_firstPeriod_1 : aq_T 64 1 = some (aq_st 0 2 2) := rfl
theorem i_X5_firstPeriod_2 : aq_T 64 2 = some (aq_ld 0 2 3) := rfl
theorem i_X5_firstPeriod_3 : aq_T 64 3 = some (aq_ld 4 0 4) := rfl
theorem i_X5_firstPeriod_4 : aq_T 64 4 = some (aq_gf 5 1 7) := rfl
theorem i_X5_firstPeriod_7 : aq_T 64 7 = some (aq_if ai_ge 27 10) := rfl
theorem i_X5_firstPeriod_10 : aq_T 64 10 = some (aq_ld 4 0 11) := rfl
theorem i_X5_firstPeriod_11 : aq_T 64 11 = some (aq_ld 0 2 12) := rfl
theorem i_X5_firstPeriod_12 : aq_T 64 12 = some (aq_ld 0 1 13) := rfl
theorem i_X5_firstPeriod_13 : aq_T 64 13 = some (aq_call 62 3 (some 5) 16) := rfl
theorem i_X5_firstPeriod_16 : aq_T 64 16 = some (aq_if ai_eq0 21 19) := rfl
theorem i_X5_firstPeriod_19 : aq_T 64 19 = some (aq_ld 0 2 20) := rfl
theorem i_X5_firstPeriod_20 : aq_T 64 20 = some (aq_ret 0) := rfl
theorem i_X5_firstPeriod_21 : aq_T 64 21 = some (aq_inc 2 (1) 24) := rfl
theorem i_X5_firstPeriod_24 : aq_T 64 24 = some (aq_go 2) := rfl
theorem i_X5_firstPeriod_27 : aq_T 64 27 = some (aq_ld 4 0 28) := rfl
theorem i_X5_firstPeriod_28 : aq_T 64 28 = some (aq_gf 5 1 31) := rfl
theorem i_X5_firstPeriod_31 : aq_T 64 31 = some (aq_ret 0) := rfl
theorem i_X5_repetitions_0 : aq_T 65 0 = some (aq_push (.int (1)) 1) := rfl
theorem i_X5_repetitions_1 : aq_T 65 1 = some (aq_st 0 1 2) := rfl
theorem i_X5_repetitions_2 : aq_T 65 2 = some (aq_ld 0 1 3) := rfl
theorem i_X5_repetitions_3 : aq_T 65 3 = some (aq_ld 4 0 4) := rfl
theorem i_X5_repetitions_4 : aq_T 65 4 = some (aq_gf 5 1 7) := rfl
theorem i_X5_repetitions_7 : aq_T 65 7 = some (aq_if ai_ge 41 10) := rfl
theorem i_X5_repetitions_10 : aq_T 65 10 = some (aq_ld 4 0 11) := rfl
theorem i_X5_repetitions_11 : aq_T 65 11 = some (aq_gf 5 1 14) := rfl
theorem i_X5_repetitions_14 : aq_T 65 14 = some (aq_ld 0 1 15) := rfl
theorem i_X5_repetitions_15 : aq_T 65 15 = some (aq_arc ac_irem 16) := rfl
theorem i_X5_repetitions_16 : aq_T 65 16 = some (aq_if ai_ne0 35 19) := rfl
theorem i_X5_repetitions_19 : aq_T 65 19 = some (aq_ld 4 0 20) := rfl
theorem i_X5_repetitions_20 : aq_T 65 20 = some (aq_ld 0 1 21) := rfl
theorem i_X5_repetitions_21 : aq_T 65 21 = some (aq_push (.int (0)) 22) := rfl
theorem i_X5_repetitions_22 : aq_T 65 22 = some (aq_call 62 3 (some 5) 25) := rfl
theorem i_X5_repetitions_25 : aq_T 65 25 = some (aq_if ai_eq0 35 28) := rfl
theorem i_X5_repetitions_28 : aq_T 65 28 = some (aq_ld 4 0 29) := rfl
theorem i_X5_repetitions_29 : aq_T 65 29 = some (aq_gf 5 1 32) := rfl
theorem i_X5_repetitions_32 : aq_T 65 32 = some (aq_ld 0 1 33) := rfl
theorem i_X5_repetitions_33 : aq_T 65 33 = some (aq_arc ac_idiv 34) := rfl
theorem i_X5_repetitions_34 : aq_T 65 34 = some (aq_ret 0) := rfl
theorem i_X5_repetitions_35 : aq_T 65 35 = some (aq_inc 1 (1) 38) := rfl
theorem i_X5_repetitions_38 : aq_T 65 38 = some (aq_go 2) := rfl
theorem i_X5_repetitions_41 : aq_T 65 41 = some (aq_push (.int (1)) 42) := rfl
theorem i_X5_repetitions_42 : aq_T 65 42 = some (aq_ret 0) := rfl
theorem i_Jxe99ae_isNaN_b9ae7_0 : aq_T 252 0 = some (aq_ld 3 0 1) := rfl
theorem i_Jxe99ae_isNaN_b9ae7_1 : aq_T 252 1 = some (aq_ld 3 0 2) := rfl
theorem i_Jxe99ae_isNaN_b9ae7_2 : aq_T 252 2 = some (aq_ar (af_dcmp .l) 3) := rfl
theorem i_Jxe99ae_isNaN_b9ae7_3 : aq_T 252 3 = some (aq_if ai_eq0 10 6) := rfl
theorem i_Jxe99ae_isNaN_b9ae7_6 : aq_T 252 6 = some (aq_push (.int (1)) 7) := rfl
theorem i_Jxe99ae_isNaN_b9ae7_7 : aq_T 252 7 = some (aq_go 11) := rfl
theorem i_Jxe99ae_isNaN_b9ae7_10 : aq_T 252 10 = some (aq_push (.int (0)) 11) := rfl
theorem i_Jxe99ae_isNaN_b9ae7_11 : aq_T 252 11 = some (aq_ret 5) := rfl
theorem i_Jxe99ae_doubleToLongBits_ccdee_0 : aq_T 253 0 = some (aq_ld 3 0 1) := rfl
theorem i_Jxe99ae_doubleToLongBits_ccdee_1 : aq_T 253 1 = some (aq_call 252 1 none 4) := rfl
theorem i_Jxe99ae_doubleToLongBits_ccdee_4 : aq_T 253 4 = some (aq_if ai_ne0 12 7) := rfl
theorem i_Jxe99ae_doubleToLongBits_ccdee_7 : aq_T 253 7 = some (aq_ld 3 0 8) := rfl
theorem i_Jxe99ae_doubleToLongBits_ccdee_8 : aq_T 253 8 = some (aq_ar af_d2bits 11) := rfl
theorem i_Jxe99ae_doubleToLongBits_ccdee_11 : aq_T 253 11 = some (aq_ret 1) := rfl
theorem i_Jxe99ae_doubleToLongBits_ccdee_12 : aq_T 253 12 = some (aq_push (.long (9221120237041090560)) 15) := rfl
theorem i_Jxe99ae_doubleToLongBits_ccdee_15 : aq_T 253 15 = some (aq_ret 1) := rfl
theorem i_Jxf58ca_isNaN_12338_0 : aq_T 254 0 = some (aq_ld 2 0 1) := rfl
theorem i_Jxf58ca_isNaN_12338_1 : aq_T 254 1 = some (aq_ld 2 0 2) := rfl
theorem i_Jxf58ca_isNaN_12338_2 : aq_T 254 2 = some (aq_ar (af_fcmp .l) 3) := rfl
theorem i_Jxf58ca_isNaN_12338_3 : aq_T 254 3 = some (aq_if ai_eq0 10 6) := rfl
theorem i_Jxf58ca_isNaN_12338_6 : aq_T 254 6 = some (aq_push (.int (1)) 7) := rfl
theorem i_Jxf58ca_isNaN_12338_7 : aq_T 254 7 = some (aq_go 11) := rfl
theorem i_Jxf58ca_isNaN_12338_10 : aq_T 254 10 = some (aq_push (.int (0)) 11) := rfl
theorem i_Jxf58ca_isNaN_12338_11 : aq_T 254 11 = some (aq_ret 5) := rfl
theorem i_Jxf58ca_floatToIntBits_5c35a_0 : aq_T 255 0 = some (aq_ld 2 0 1) := rfl
theorem i_Jxf58ca_floatToIntBits_5c35a_1 : aq_T 255 1 = some (aq_call 254 1 none 4) := rfl
theorem i_Jxf58ca_floatToIntBits_5c35a_4 : aq_T 255 4 = some (aq_if ai_ne0 12 7) := rfl
theorem i_Jxf58ca_floatToIntBits_5c35a_7 : aq_T 255 7 = some (aq_ld 2 0 8) := rfl
theorem i_Jxf58ca_floatToIntBits_5c35a_8 : aq_T 255 8 = some (aq_ar af_f2bits 11) := rfl
theorem i_Jxf58ca_floatToIntBits_5c35a_11 : aq_T 255 11 = some (aq_ret 0) := rfl
theorem i_Jxf58ca_floatToIntBits_5c35a_12 : aq_T 255 12 = some (aq_push (.int (2143289344)) 14) := rfl
theorem i_Jxf58ca_floatToIntBits_5c35a_14 : aq_T 255 14 = some (aq_ret 0) := rfl
end
