/-! ===== printed by wip/whole/gen2.py: a row an instruction ===== -/
section
theorem i_X4_init_0 : aq_T 35 0 = some (aq_ld 4 0 1) := rfl
theorem i_X4_init_1 : aq_T 35 1 = some (aq_oi 4) := rfl
theorem i_X4_init_4 : aq_T 35 4 = some (aq_ld 4 0 5) := rfl
theorem i_X4_init_5 : aq_T 35 5 = some (aq_push (.int (363)) 8) := rfl
theorem i_X4_init_8 : aq_T 35 8 = some (aq_newa 0 10) := rfl
theorem i_X4_init_10 : aq_T 35 10 = some (aq_pf 4 2 4 13) := rfl
theorem i_X4_init_13 : aq_T 35 13 = some (aq_ld 4 0 14) := rfl
theorem i_X4_init_14 : aq_T 35 14 = some (aq_push (.int (121)) 16) := rfl
theorem i_X4_init_16 : aq_T 35 16 = some (aq_newa 0 18) := rfl
theorem i_X4_init_18 : aq_T 35 18 = some (aq_pf 4 3 4 21) := rfl
theorem i_X4_init_21 : aq_T 35 21 = some (aq_ld 4 0 22) := rfl
theorem i_X4_init_22 : aq_T 35 22 = some (aq_push (.int (121)) 24) := rfl
theorem i_X4_init_24 : aq_T 35 24 = some (aq_newa 0 26) := rfl
theorem i_X4_init_26 : aq_T 35 26 = some (aq_pf 4 4 4 29) := rfl
theorem i_X4_init_29 : aq_T 35 29 = some (aq_ld 4 0 30) := rfl
theorem i_X4_init_30 : aq_T 35 30 = some (aq_push (.int (121)) 32) := rfl
theorem i_X4_init_32 : aq_T 35 32 = some (aq_newa 1 34) := rfl
theorem i_X4_init_34 : aq_T 35 34 = some (aq_pf 4 5 4 37) := rfl
theorem i_X4_init_37 : aq_T 35 37 = some (aq_ld 4 0 38) := rfl
theorem i_X4_init_38 : aq_T 35 38 = some (aq_push (.int (121)) 40) := rfl
theorem i_X4_init_40 : aq_T 35 40 = some (aq_newa 0 42) := rfl
theorem i_X4_init_42 : aq_T 35 42 = some (aq_pf 4 6 4 45) := rfl
theorem i_X4_init_45 : aq_T 35 45 = some (aq_ld 4 0 46) := rfl
theorem i_X4_init_46 : aq_T 35 46 = some (aq_push (.int (121)) 48) := rfl
theorem i_X4_init_48 : aq_T 35 48 = some (aq_newa 0 50) := rfl
theorem i_X4_init_50 : aq_T 35 50 = some (aq_pf 4 7 4 53) := rfl
theorem i_X4_init_53 : aq_T 35 53 = some (aq_ld 4 0 54) := rfl
theorem i_X4_init_54 : aq_T 35 54 = some (aq_push (.int (121)) 56) := rfl
theorem i_X4_init_56 : aq_T 35 56 = some (aq_newa 0 58) := rfl
theorem i_X4_init_58 : aq_T 35 58 = some (aq_pf 4 8 4 61) := rfl
theorem i_X4_init_61 : aq_T 35 61 = some (aq_ld 4 0 62) := rfl
theorem i_X4_init_62 : aq_T 35 62 = some (aq_push (.int (121)) 64) := rfl
theorem i_X4_init_64 : aq_T 35 64 = some (aq_newa 0 66) := rfl
theorem i_X4_init_66 : aq_T 35 66 = some (aq_pf 4 9 4 69) := rfl
theorem i_X4_init_69 : aq_T 35 69 = some (aq_ld 4 0 70) := rfl
theorem i_X4_init_70 : aq_T 35 70 = some (aq_push (.int (121)) 72) := rfl
theorem i_X4_init_72 : aq_T 35 72 = some (aq_newa 1 74) := rfl
theorem i_X4_init_74 : aq_T 35 74 = some (aq_pf 4 10 4 77) := rfl
theorem i_X4_init_77 : aq_T 35 77 = some (aq_ld 4 0 78) := rfl
theorem i_X4_init_78 : aq_T 35 78 = some (aq_push (.int (121)) 80) := rfl
theorem i_X4_init_80 : aq_T 35 80 = some (aq_newa 1 82) := rfl
theorem i_X4_init_82 : aq_T 35 82 = some (aq_pf 4 11 4 85) := rfl
theorem i_X4_init_85 : aq_T 35 85 = some (aq_retv) := rfl
theorem i_X4_build_0 : aq_T 36 0 = some (aq_ld 4 0 1) := rfl
theorem i_X4_build_1 : aq_T 36 1 = some (aq_ld 0 1 2) := rfl
theorem i_X4_build_2 : aq_T 36 2 = some (aq_call 37 2 (some 4) 5) := rfl
theorem i_X4_build_5 : aq_T 36 5 = some (aq_push (.int (0)) 6) := rfl
theorem i_X4_build_6 : aq_T 36 6 = some (aq_st 0 5 8) := rfl
theorem i_X4_build_8 : aq_T 36 8 = some (aq_ld 0 5 10) := rfl
theorem i_X4_build_10 : aq_T 36 10 = some (aq_ld 4 0 11) := rfl
theorem i_X4_build_11 : aq_T 36 11 = some (aq_gf 4 1 14) := rfl
theorem i_X4_build_14 : aq_T 36 14 = some (aq_if ai_ge 196 17) := rfl
theorem i_X4_build_17 : aq_T 36 17 = some (aq_ld 0 5 19) := rfl
theorem i_X4_build_19 : aq_T 36 19 = some (aq_ld 4 0 20) := rfl
theorem i_X4_build_20 : aq_T 36 20 = some (aq_gf 4 5 23) := rfl
theorem i_X4_build_23 : aq_T 36 23 = some (aq_len 24) := rfl
theorem i_X4_build_24 : aq_T 36 24 = some (aq_if ai_ge 196 27) := rfl
theorem i_X4_build_27 : aq_T 36 27 = some (aq_push (.int (0)) 28) := rfl
theorem i_X4_build_28 : aq_T 36 28 = some (aq_st 0 6 30) := rfl
theorem i_X4_build_30 : aq_T 36 30 = some (aq_ld 0 6 32) := rfl
theorem i_X4_build_32 : aq_T 36 32 = some (aq_ld 4 0 33) := rfl
theorem i_X4_build_33 : aq_T 36 33 = some (aq_gf 4 0 36) := rfl
theorem i_X4_build_36 : aq_T 36 36 = some (aq_if ai_ge 190 39) := rfl
theorem i_X4_build_39 : aq_T 36 39 = some (aq_ld 4 2 40) := rfl
theorem i_X4_build_40 : aq_T 36 40 = some (aq_ld 4 0 41) := rfl
theorem i_X4_build_41 : aq_T 36 41 = some (aq_gf 4 5 44) := rfl
theorem i_X4_build_44 : aq_T 36 44 = some (aq_ld 0 5 46) := rfl
theorem i_X4_build_46 : aq_T 36 46 = some (aq_ldl 47) := rfl
theorem i_X4_build_47 : aq_T 36 47 = some (aq_ld 0 6 49) := rfl
theorem i_X4_build_49 : aq_T 36 49 = some (aq_call 9 3 (some 0) 52) := rfl
theorem i_X4_build_52 : aq_T 36 52 = some (aq_st 1 7 54) := rfl
theorem i_X4_build_54 : aq_T 36 54 = some (aq_ld 0 5 56) := rfl
theorem i_X4_build_56 : aq_T 36 56 = some (aq_ld 4 0 57) := rfl
theorem i_X4_build_57 : aq_T 36 57 = some (aq_gf 4 0 60) := rfl
theorem i_X4_build_60 : aq_T 36 60 = some (aq_ar af_imul 61) := rfl
theorem i_X4_build_61 : aq_T 36 61 = some (aq_ld 0 6 63) := rfl
theorem i_X4_build_63 : aq_T 36 63 = some (aq_ar af_iadd 64) := rfl
theorem i_X4_build_64 : aq_T 36 64 = some (aq_push (.int (1)) 65) := rfl
theorem i_X4_build_65 : aq_T 36 65 = some (aq_ar af_iadd 66) := rfl
theorem i_X4_build_66 : aq_T 36 66 = some (aq_st 0 9 68) := rfl
theorem i_X4_build_68 : aq_T 36 68 = some (aq_ld 0 5 70) := rfl
theorem i_X4_build_70 : aq_T 36 70 = some (aq_if ai_ne0 77 73) := rfl
theorem i_X4_build_73 : aq_T 36 73 = some (aq_push (.int (0)) 74) := rfl
theorem i_X4_build_74 : aq_T 36 74 = some (aq_go 96) := rfl
theorem i_X4_build_77 : aq_T 36 77 = some (aq_ld 4 0 78) := rfl
theorem i_X4_build_78 : aq_T 36 78 = some (aq_gf 4 4 81) := rfl
theorem i_X4_build_81 : aq_T 36 81 = some (aq_ld 0 5 83) := rfl
theorem i_X4_build_83 : aq_T 36 83 = some (aq_call 46 2 none 86) := rfl
theorem i_X4_build_86 : aq_T 36 86 = some (aq_ld 4 0 87) := rfl
theorem i_X4_build_87 : aq_T 36 87 = some (aq_gf 4 0 90) := rfl
theorem i_X4_build_90 : aq_T 36 90 = some (aq_ar af_imul 91) := rfl
theorem i_X4_build_91 : aq_T 36 91 = some (aq_ld 0 6 93) := rfl
theorem i_X4_build_93 : aq_T 36 93 = some (aq_ar af_iadd 94) := rfl
theorem i_X4_build_94 : aq_T 36 94 = some (aq_push (.int (1)) 95) := rfl
theorem i_X4_build_95 : aq_T 36 95 = some (aq_ar af_iadd 96) := rfl
theorem i_X4_build_96 : aq_T 36 96 = some (aq_st 0 10 98) := rfl
theorem i_X4_build_98 : aq_T 36 98 = some (aq_ld 0 9 100) := rfl
theorem i_X4_build_100 : aq_T 36 100 = some (aq_ld 4 0 101) := rfl
theorem i_X4_build_101 : aq_T 36 101 = some (aq_gf 4 1 104) := rfl
theorem i_X4_build_104 : aq_T 36 104 = some (aq_if ai_ge 151 107) := rfl
theorem i_X4_build_107 : aq_T 36 107 = some (aq_ld 0 9 109) := rfl
theorem i_X4_build_109 : aq_T 36 109 = some (aq_ld 4 0 110) := rfl
theorem i_X4_build_110 : aq_T 36 110 = some (aq_gf 4 5 113) := rfl
theorem i_X4_build_113 : aq_T 36 113 = some (aq_len 114) := rfl
theorem i_X4_build_114 : aq_T 36 114 = some (aq_if ai_ge 151 117) := rfl
theorem i_X4_build_117 : aq_T 36 117 = some (aq_ld 4 0 118) := rfl
theorem i_X4_build_118 : aq_T 36 118 = some (aq_gf 4 5 121) := rfl
theorem i_X4_build_121 : aq_T 36 121 = some (aq_ld 0 9 123) := rfl
theorem i_X4_build_123 : aq_T 36 123 = some (aq_ld 1 7 125) := rfl
theorem i_X4_build_125 : aq_T 36 125 = some (aq_stl 126) := rfl
theorem i_X4_build_126 : aq_T 36 126 = some (aq_ld 4 0 127) := rfl
theorem i_X4_build_127 : aq_T 36 127 = some (aq_gf 4 4 130) := rfl
theorem i_X4_build_130 : aq_T 36 130 = some (aq_ld 0 9 132) := rfl
theorem i_X4_build_132 : aq_T 36 132 = some (aq_ld 0 10 134) := rfl
theorem i_X4_build_134 : aq_T 36 134 = some (aq_call 47 3 none 137) := rfl
theorem i_X4_build_137 : aq_T 36 137 = some (aq_ld 4 0 138) := rfl
theorem i_X4_build_138 : aq_T 36 138 = some (aq_gf 4 3 141) := rfl
theorem i_X4_build_141 : aq_T 36 141 = some (aq_ld 0 9 143) := rfl
theorem i_X4_build_143 : aq_T 36 143 = some (aq_ld 0 6 145) := rfl
theorem i_X4_build_145 : aq_T 36 145 = some (aq_call 47 3 none 148) := rfl
theorem i_X4_build_148 : aq_T 36 148 = some (aq_go 155) := rfl
theorem i_X4_build_151 : aq_T 36 151 = some (aq_ld 0 10 153) := rfl
theorem i_X4_build_153 : aq_T 36 153 = some (aq_st 0 9 155) := rfl
theorem i_X4_build_155 : aq_T 36 155 = some (aq_ld 4 0 156) := rfl
theorem i_X4_build_156 : aq_T 36 156 = some (aq_gf 4 2 159) := rfl
theorem i_X4_build_159 : aq_T 36 159 = some (aq_ld 0 5 161) := rfl
theorem i_X4_build_161 : aq_T 36 161 = some (aq_push (.int (3)) 162) := rfl
theorem i_X4_build_162 : aq_T 36 162 = some (aq_ar af_imul 163) := rfl
theorem i_X4_build_163 : aq_T 36 163 = some (aq_ld 0 6 165) := rfl
theorem i_X4_build_165 : aq_T 36 165 = some (aq_ar af_iadd 166) := rfl
theorem i_X4_build_166 : aq_T 36 166 = some (aq_ld 1 7 168) := rfl
theorem i_X4_build_168 : aq_T 36 168 = some (aq_ld 1 3 169) := rfl
theorem i_X4_build_169 : aq_T 36 169 = some (aq_ar af_land 170) := rfl
theorem i_X4_build_170 : aq_T 36 170 = some (aq_push (.long 0) 171) := rfl
theorem i_X4_build_171 : aq_T 36 171 = some (aq_ar af_lcmp 172) := rfl
theorem i_X4_build_172 : aq_T 36 172 = some (aq_if ai_eq0 179 175) := rfl
theorem i_X4_build_175 : aq_T 36 175 = some (aq_push (.int (-1)) 176) := rfl
theorem i_X4_build_176 : aq_T 36 176 = some (aq_go 181) := rfl
theorem i_X4_build_179 : aq_T 36 179 = some (aq_ld 0 9 181) := rfl
theorem i_X4_build_181 : aq_T 36 181 = some (aq_call 47 3 none 184) := rfl
theorem i_X4_build_184 : aq_T 36 184 = some (aq_inc 6 (1) 187) := rfl
theorem i_X4_build_187 : aq_T 36 187 = some (aq_go 30) := rfl
theorem i_X4_build_190 : aq_T 36 190 = some (aq_inc 5 (1) 193) := rfl
theorem i_X4_build_193 : aq_T 36 193 = some (aq_go 8) := rfl
theorem i_X4_build_196 : aq_T 36 196 = some (aq_retv) := rfl
theorem i_X4_setSize_0 : aq_T 37 0 = some (aq_ld 4 0 1) := rfl
theorem i_X4_setSize_1 : aq_T 37 1 = some (aq_ld 0 1 2) := rfl
theorem i_X4_setSize_2 : aq_T 37 2 = some (aq_pf 4 0 0 5) := rfl
theorem i_X4_setSize_5 : aq_T 37 5 = some (aq_ld 4 0 6) := rfl
theorem i_X4_setSize_6 : aq_T 37 6 = some (aq_push (.int (1)) 7) := rfl
theorem i_X4_setSize_7 : aq_T 37 7 = some (aq_pf 4 1 0 10) := rfl
theorem i_X4_setSize_10 : aq_T 37 10 = some (aq_push (.int (1)) 11) := rfl
theorem i_X4_setSize_11 : aq_T 37 11 = some (aq_st 0 2 12) := rfl
theorem i_X4_setSize_12 : aq_T 37 12 = some (aq_push (.int (0)) 13) := rfl
theorem i_X4_setSize_13 : aq_T 37 13 = some (aq_st 0 3 14) := rfl
theorem i_X4_setSize_14 : aq_T 37 14 = some (aq_ld 0 3 15) := rfl
theorem i_X4_setSize_15 : aq_T 37 15 = some (aq_push (.int (4)) 16) := rfl
theorem i_X4_setSize_16 : aq_T 37 16 = some (aq_if ai_ge 42 19) := rfl
theorem i_X4_setSize_19 : aq_T 37 19 = some (aq_ld 0 2 20) := rfl
theorem i_X4_setSize_20 : aq_T 37 20 = some (aq_ld 4 0 21) := rfl
theorem i_X4_setSize_21 : aq_T 37 21 = some (aq_gf 4 0 24) := rfl
theorem i_X4_setSize_24 : aq_T 37 24 = some (aq_ar af_imul 25) := rfl
theorem i_X4_setSize_25 : aq_T 37 25 = some (aq_st 0 2 26) := rfl
theorem i_X4_setSize_26 : aq_T 37 26 = some (aq_ld 4 0 27) := rfl
theorem i_X4_setSize_27 : aq_T 37 27 = some (aq_ar af_dup 28) := rfl
theorem i_X4_setSize_28 : aq_T 37 28 = some (aq_gf 4 1 31) := rfl
theorem i_X4_setSize_31 : aq_T 37 31 = some (aq_ld 0 2 32) := rfl
theorem i_X4_setSize_32 : aq_T 37 32 = some (aq_ar af_iadd 33) := rfl
theorem i_X4_setSize_33 : aq_T 37 33 = some (aq_pf 4 1 0 36) := rfl
theorem i_X4_setSize_36 : aq_T 37 36 = some (aq_inc 3 (1) 39) := rfl
theorem i_X4_setSize_39 : aq_T 37 39 = some (aq_go 14) := rfl
theorem i_X4_setSize_42 : aq_T 37 42 = some (aq_retv) := rfl
theorem i_X4_target_0 : aq_T 38 0 = some (aq_ld 4 0 1) := rfl
theorem i_X4_target_1 : aq_T 38 1 = some (aq_gf 4 2 4) := rfl
theorem i_X4_target_4 : aq_T 38 4 = some (aq_ld 0 1 5) := rfl
theorem i_X4_target_5 : aq_T 38 5 = some (aq_push (.int (3)) 6) := rfl
theorem i_X4_target_6 : aq_T 38 6 = some (aq_ar af_imul 7) := rfl
theorem i_X4_target_7 : aq_T 38 7 = some (aq_ld 0 2 8) := rfl
theorem i_X4_target_8 : aq_T 38 8 = some (aq_ar af_iadd 9) := rfl
theorem i_X4_target_9 : aq_T 38 9 = some (aq_call 46 2 none 12) := rfl
theorem i_X4_target_12 : aq_T 38 12 = some (aq_ret 0) := rfl
theorem i_X4_longest_0 : aq_T 39 0 = some (aq_ld 4 0 1) := rfl
theorem i_X4_longest_1 : aq_T 39 1 = some (aq_call 40 1 (some 4) 4) := rfl
theorem i_X4_longest_4 : aq_T 39 4 = some (aq_st 0 1 5) := rfl
theorem i_X4_longest_5 : aq_T 39 5 = some (aq_push (.int (1)) 6) := rfl
theorem i_X4_longest_6 : aq_T 39 6 = some (aq_st 0 2 7) := rfl
theorem i_X4_longest_7 : aq_T 39 7 = some (aq_push (.int (0)) 8) := rfl
theorem i_X4_longest_8 : aq_T 39 8 = some (aq_st 0 3 9) := rfl
theorem i_X4_longest_9 : aq_T 39 9 = some (aq_ld 4 0 10) := rfl
theorem i_X4_longest_10 : aq_T 39 10 = some (aq_gf 4 6 13) := rfl
theorem i_X4_longest_13 : aq_T 39 13 = some (aq_push (.int (0)) 14) := rfl
theorem i_X4_longest_14 : aq_T 39 14 = some (aq_push (.int (0)) 15) := rfl
theorem i_X4_longest_15 : aq_T 39 15 = some (aq_call 47 3 none 18) := rfl
theorem i_X4_longest_18 : aq_T 39 18 = some (aq_ld 4 0 19) := rfl
theorem i_X4_longest_19 : aq_T 39 19 = some (aq_gf 4 7 22) := rfl
theorem i_X4_longest_22 : aq_T 39 22 = some (aq_push (.int (0)) 23) := rfl
theorem i_X4_longest_23 : aq_T 39 23 = some (aq_push (.int (0)) 24) := rfl
theorem i_X4_longest_24 : aq_T 39 24 = some (aq_call 47 3 none 27) := rfl
theorem i_X4_longest_27 : aq_T 39 27 = some (aq_push (.int (0)) 28) := rfl
theorem i_X4_longest_28 : aq_T 39 28 = some (aq_st 0 4 30) := rfl
theorem i_X4_longest_30 : aq_T 39 30 = some (aq_ld 0 4 32) := rfl
theorem i_X4_longest_32 : aq_T 39 32 = some (aq_ld 0 2 33) := rfl
theorem i_X4_longest_33 : aq_T 39 33 = some (aq_if ai_ge 162 36) := rfl
theorem i_X4_longest_36 : aq_T 39 36 = some (aq_ld 0 4 38) := rfl
theorem i_X4_longest_38 : aq_T 39 38 = some (aq_ld 4 0 39) := rfl
theorem i_X4_longest_39 : aq_T 39 39 = some (aq_gf 4 6 42) := rfl
theorem i_X4_longest_42 : aq_T 39 42 = some (aq_len 43) := rfl
theorem i_X4_longest_43 : aq_T 39 43 = some (aq_if ai_ge 162 46) := rfl
theorem i_X4_longest_46 : aq_T 39 46 = some (aq_ld 4 0 47) := rfl
theorem i_X4_longest_47 : aq_T 39 47 = some (aq_gf 4 6 50) := rfl
theorem i_X4_longest_50 : aq_T 39 50 = some (aq_ld 0 4 52) := rfl
theorem i_X4_longest_52 : aq_T 39 52 = some (aq_ldi 0 53) := rfl
theorem i_X4_longest_53 : aq_T 39 53 = some (aq_st 0 5 55) := rfl
theorem i_X4_longest_55 : aq_T 39 55 = some (aq_ld 4 0 56) := rfl
theorem i_X4_longest_56 : aq_T 39 56 = some (aq_gf 4 7 59) := rfl
theorem i_X4_longest_59 : aq_T 39 59 = some (aq_ld 0 5 61) := rfl
theorem i_X4_longest_61 : aq_T 39 61 = some (aq_call 46 2 none 64) := rfl
theorem i_X4_longest_64 : aq_T 39 64 = some (aq_st 0 3 65) := rfl
theorem i_X4_longest_65 : aq_T 39 65 = some (aq_push (.int (0)) 66) := rfl
theorem i_X4_longest_66 : aq_T 39 66 = some (aq_st 0 6 68) := rfl
theorem i_X4_longest_68 : aq_T 39 68 = some (aq_ld 0 6 70) := rfl
theorem i_X4_longest_70 : aq_T 39 70 = some (aq_ld 4 0 71) := rfl
theorem i_X4_longest_71 : aq_T 39 71 = some (aq_gf 4 0 74) := rfl
theorem i_X4_longest_74 : aq_T 39 74 = some (aq_if ai_ge 156 77) := rfl
theorem i_X4_longest_77 : aq_T 39 77 = some (aq_ld 4 0 78) := rfl
theorem i_X4_longest_78 : aq_T 39 78 = some (aq_ld 0 5 80) := rfl
theorem i_X4_longest_80 : aq_T 39 80 = some (aq_ld 0 6 82) := rfl
theorem i_X4_longest_82 : aq_T 39 82 = some (aq_call 38 3 (some 4) 85) := rfl
theorem i_X4_longest_85 : aq_T 39 85 = some (aq_st 0 7 87) := rfl
theorem i_X4_longest_87 : aq_T 39 87 = some (aq_ld 0 7 89) := rfl
theorem i_X4_longest_89 : aq_T 39 89 = some (aq_push (.int (-1)) 90) := rfl
theorem i_X4_longest_90 : aq_T 39 90 = some (aq_if ai_eq 150 93) := rfl
theorem i_X4_longest_93 : aq_T 39 93 = some (aq_ld 4 0 94) := rfl
theorem i_X4_longest_94 : aq_T 39 94 = some (aq_gf 4 8 97) := rfl
theorem i_X4_longest_97 : aq_T 39 97 = some (aq_ld 0 7 99) := rfl
theorem i_X4_longest_99 : aq_T 39 99 = some (aq_ld 4 0 100) := rfl
theorem i_X4_longest_100 : aq_T 39 100 = some (aq_gf 4 8 103) := rfl
theorem i_X4_longest_103 : aq_T 39 103 = some (aq_ld 0 7 105) := rfl
theorem i_X4_longest_105 : aq_T 39 105 = some (aq_call 46 2 none 108) := rfl
theorem i_X4_longest_108 : aq_T 39 108 = some (aq_push (.int (1)) 109) := rfl
theorem i_X4_longest_109 : aq_T 39 109 = some (aq_ar af_isub 110) := rfl
theorem i_X4_longest_110 : aq_T 39 110 = some (aq_call 47 3 none 113) := rfl
theorem i_X4_longest_113 : aq_T 39 113 = some (aq_ld 4 0 114) := rfl
theorem i_X4_longest_114 : aq_T 39 114 = some (aq_gf 4 8 117) := rfl
theorem i_X4_longest_117 : aq_T 39 117 = some (aq_ld 0 7 119) := rfl
theorem i_X4_longest_119 : aq_T 39 119 = some (aq_call 46 2 none 122) := rfl
theorem i_X4_longest_122 : aq_T 39 122 = some (aq_if ai_ne0 150 125) := rfl
theorem i_X4_longest_125 : aq_T 39 125 = some (aq_ld 4 0 126) := rfl
theorem i_X4_longest_126 : aq_T 39 126 = some (aq_gf 4 7 129) := rfl
theorem i_X4_longest_129 : aq_T 39 129 = some (aq_ld 0 7 131) := rfl
theorem i_X4_longest_131 : aq_T 39 131 = some (aq_ld 0 3 132) := rfl
theorem i_X4_longest_132 : aq_T 39 132 = some (aq_push (.int (1)) 133) := rfl
theorem i_X4_longest_133 : aq_T 39 133 = some (aq_ar af_iadd 134) := rfl
theorem i_X4_longest_134 : aq_T 39 134 = some (aq_call 47 3 none 137) := rfl
theorem i_X4_longest_137 : aq_T 39 137 = some (aq_ld 4 0 138) := rfl
theorem i_X4_longest_138 : aq_T 39 138 = some (aq_gf 4 6 141) := rfl
theorem i_X4_longest_141 : aq_T 39 141 = some (aq_ld 0 2 142) := rfl
theorem i_X4_longest_142 : aq_T 39 142 = some (aq_ld 0 7 144) := rfl
theorem i_X4_longest_144 : aq_T 39 144 = some (aq_call 47 3 none 147) := rfl
theorem i_X4_longest_147 : aq_T 39 147 = some (aq_inc 2 (1) 150) := rfl
theorem i_X4_longest_150 : aq_T 39 150 = some (aq_inc 6 (1) 153) := rfl
theorem i_X4_longest_153 : aq_T 39 153 = some (aq_go 68) := rfl
theorem i_X4_longest_156 : aq_T 39 156 = some (aq_inc 4 (1) 159) := rfl
theorem i_X4_longest_159 : aq_T 39 159 = some (aq_go 30) := rfl
theorem i_X4_longest_162 : aq_T 39 162 = some (aq_ld 0 2 163) := rfl
theorem i_X4_longest_163 : aq_T 39 163 = some (aq_ld 0 1 164) := rfl
theorem i_X4_longest_164 : aq_T 39 164 = some (aq_if ai_ge 171 167) := rfl
theorem i_X4_longest_167 : aq_T 39 167 = some (aq_push (.int (-1)) 168) := rfl
theorem i_X4_longest_168 : aq_T 39 168 = some (aq_go 172) := rfl
theorem i_X4_longest_171 : aq_T 39 171 = some (aq_ld 0 3 172) := rfl
theorem i_X4_longest_172 : aq_T 39 172 = some (aq_ret 0) := rfl
theorem i_X4_countArrivals_0 : aq_T 40 0 = some (aq_push (.int (0)) 1) := rfl
theorem i_X4_countArrivals_1 : aq_T 40 1 = some (aq_st 0 1 2) := rfl
theorem i_X4_countArrivals_2 : aq_T 40 2 = some (aq_ld 0 1 3) := rfl
theorem i_X4_countArrivals_3 : aq_T 40 3 = some (aq_ld 4 0 4) := rfl
theorem i_X4_countArrivals_4 : aq_T 40 4 = some (aq_gf 4 8 7) := rfl
theorem i_X4_countArrivals_7 : aq_T 40 7 = some (aq_len 8) := rfl
theorem i_X4_countArrivals_8 : aq_T 40 8 = some (aq_if ai_ge 24 11) := rfl
theorem i_X4_countArrivals_11 : aq_T 40 11 = some (aq_ld 4 0 12) := rfl
theorem i_X4_countArrivals_12 : aq_T 40 12 = some (aq_gf 4 8 15) := rfl
theorem i_X4_countArrivals_15 : aq_T 40 15 = some (aq_ld 0 1 16) := rfl
theorem i_X4_countArrivals_16 : aq_T 40 16 = some (aq_push (.int (0)) 17) := rfl
theorem i_X4_countArrivals_17 : aq_T 40 17 = some (aq_sti 18) := rfl
theorem i_X4_countArrivals_18 : aq_T 40 18 = some (aq_inc 1 (1) 21) := rfl
theorem i_X4_countArrivals_21 : aq_T 40 21 = some (aq_go 2) := rfl
theorem i_X4_countArrivals_24 : aq_T 40 24 = some (aq_push (.int (1)) 25) := rfl
theorem i_X4_countArrivals_25 : aq_T 40 25 = some (aq_st 0 1 26) := rfl
theorem i_X4_countArrivals_26 : aq_T 40 26 = some (aq_ld 4 0 27) := rfl
theorem i_X4_countArrivals_27 : aq_T 40 27 = some (aq_gf 4 6 30) := rfl
theorem i_X4_countArrivals_30 : aq_T 40 30 = some (aq_push (.int (0)) 31) := rfl
theorem i_X4_countArrivals_31 : aq_T 40 31 = some (aq_push (.int (0)) 32) := rfl
theorem i_X4_countArrivals_32 : aq_T 40 32 = some (aq_call 47 3 none 35) := rfl
theorem i_X4_countArrivals_35 : aq_T 40 35 = some (aq_push (.int (0)) 36) := rfl
theorem i_X4_countArrivals_36 : aq_T 40 36 = some (aq_st 0 2 37) := rfl
theorem i_X4_countArrivals_37 : aq_T 40 37 = some (aq_ld 0 2 38) := rfl
theorem i_X4_countArrivals_38 : aq_T 40 38 = some (aq_ld 0 1 39) := rfl
theorem i_X4_countArrivals_39 : aq_T 40 39 = some (aq_if ai_ge 137 42) := rfl
theorem i_X4_countArrivals_42 : aq_T 40 42 = some (aq_ld 0 2 43) := rfl
theorem i_X4_countArrivals_43 : aq_T 40 43 = some (aq_ld 4 0 44) := rfl
theorem i_X4_countArrivals_44 : aq_T 40 44 = some (aq_gf 4 6 47) := rfl
theorem i_X4_countArrivals_47 : aq_T 40 47 = some (aq_len 48) := rfl
theorem i_X4_countArrivals_48 : aq_T 40 48 = some (aq_if ai_ge 137 51) := rfl
theorem i_X4_countArrivals_51 : aq_T 40 51 = some (aq_push (.int (0)) 52) := rfl
theorem i_X4_countArrivals_52 : aq_T 40 52 = some (aq_st 0 3 53) := rfl
theorem i_X4_countArrivals_53 : aq_T 40 53 = some (aq_ld 0 3 54) := rfl
theorem i_X4_countArrivals_54 : aq_T 40 54 = some (aq_ld 4 0 55) := rfl
theorem i_X4_countArrivals_55 : aq_T 40 55 = some (aq_gf 4 0 58) := rfl
theorem i_X4_countArrivals_58 : aq_T 40 58 = some (aq_if ai_ge 131 61) := rfl
theorem i_X4_countArrivals_61 : aq_T 40 61 = some (aq_ld 4 0 62) := rfl
theorem i_X4_countArrivals_62 : aq_T 40 62 = some (aq_ld 4 0 63) := rfl
theorem i_X4_countArrivals_63 : aq_T 40 63 = some (aq_gf 4 6 66) := rfl
theorem i_X4_countArrivals_66 : aq_T 40 66 = some (aq_ld 0 2 67) := rfl
theorem i_X4_countArrivals_67 : aq_T 40 67 = some (aq_ldi 0 68) := rfl
theorem i_X4_countArrivals_68 : aq_T 40 68 = some (aq_ld 0 3 69) := rfl
theorem i_X4_countArrivals_69 : aq_T 40 69 = some (aq_call 38 3 (some 4) 72) := rfl
theorem i_X4_countArrivals_72 : aq_T 40 72 = some (aq_st 0 4 74) := rfl
theorem i_X4_countArrivals_74 : aq_T 40 74 = some (aq_ld 0 4 76) := rfl
theorem i_X4_countArrivals_76 : aq_T 40 76 = some (aq_push (.int (-1)) 77) := rfl
theorem i_X4_countArrivals_77 : aq_T 40 77 = some (aq_if ai_eq 125 80) := rfl
theorem i_X4_countArrivals_80 : aq_T 40 80 = some (aq_ld 4 0 81) := rfl
theorem i_X4_countArrivals_81 : aq_T 40 81 = some (aq_gf 4 8 84) := rfl
theorem i_X4_countArrivals_84 : aq_T 40 84 = some (aq_ld 0 4 86) := rfl
theorem i_X4_countArrivals_86 : aq_T 40 86 = some (aq_call 46 2 none 89) := rfl
theorem i_X4_countArrivals_89 : aq_T 40 89 = some (aq_if ai_ne0 105 92) := rfl
theorem i_X4_countArrivals_92 : aq_T 40 92 = some (aq_ld 4 0 93) := rfl
theorem i_X4_countArrivals_93 : aq_T 40 93 = some (aq_gf 4 6 96) := rfl
theorem i_X4_countArrivals_96 : aq_T 40 96 = some (aq_ld 0 1 97) := rfl
theorem i_X4_countArrivals_97 : aq_T 40 97 = some (aq_ld 0 4 99) := rfl
theorem i_X4_countArrivals_99 : aq_T 40 99 = some (aq_call 47 3 none 102) := rfl
theorem i_X4_countArrivals_102 : aq_T 40 102 = some (aq_inc 1 (1) 105) := rfl
theorem i_X4_countArrivals_105 : aq_T 40 105 = some (aq_ld 4 0 106) := rfl
theorem i_X4_countArrivals_106 : aq_T 40 106 = some (aq_gf 4 8 109) := rfl
theorem i_X4_countArrivals_109 : aq_T 40 109 = some (aq_ld 0 4 111) := rfl
theorem i_X4_countArrivals_111 : aq_T 40 111 = some (aq_ld 4 0 112) := rfl
theorem i_X4_countArrivals_112 : aq_T 40 112 = some (aq_gf 4 8 115) := rfl
theorem i_X4_countArrivals_115 : aq_T 40 115 = some (aq_ld 0 4 117) := rfl
theorem i_X4_countArrivals_117 : aq_T 40 117 = some (aq_call 46 2 none 120) := rfl
theorem i_X4_countArrivals_120 : aq_T 40 120 = some (aq_push (.int (1)) 121) := rfl
theorem i_X4_countArrivals_121 : aq_T 40 121 = some (aq_ar af_iadd 122) := rfl
theorem i_X4_countArrivals_122 : aq_T 40 122 = some (aq_call 47 3 none 125) := rfl
theorem i_X4_countArrivals_125 : aq_T 40 125 = some (aq_inc 3 (1) 128) := rfl
theorem i_X4_countArrivals_128 : aq_T 40 128 = some (aq_go 53) := rfl
theorem i_X4_countArrivals_131 : aq_T 40 131 = some (aq_inc 2 (1) 134) := rfl
theorem i_X4_countArrivals_134 : aq_T 40 134 = some (aq_go 37) := rfl
theorem i_X4_countArrivals_137 : aq_T 40 137 = some (aq_ld 0 1 138) := rfl
theorem i_X4_countArrivals_138 : aq_T 40 138 = some (aq_ret 0) := rfl
theorem i_X4_countOfLength_0 : aq_T 41 0 = some (aq_push (.int (0)) 1) := rfl
theorem i_X4_countOfLength_1 : aq_T 41 1 = some (aq_st 0 2 2) := rfl
theorem i_X4_countOfLength_2 : aq_T 41 2 = some (aq_ld 0 2 3) := rfl
theorem i_X4_countOfLength_3 : aq_T 41 3 = some (aq_ld 4 0 4) := rfl
theorem i_X4_countOfLength_4 : aq_T 41 4 = some (aq_gf 4 10 7) := rfl
theorem i_X4_countOfLength_7 : aq_T 41 7 = some (aq_len 8) := rfl
theorem i_X4_countOfLength_8 : aq_T 41 8 = some (aq_if ai_ge 32 11) := rfl
theorem i_X4_countOfLength_11 : aq_T 41 11 = some (aq_ld 4 0 12) := rfl
theorem i_X4_countOfLength_12 : aq_T 41 12 = some (aq_gf 4 10 15) := rfl
theorem i_X4_countOfLength_15 : aq_T 41 15 = some (aq_ld 0 2 16) := rfl
theorem i_X4_countOfLength_16 : aq_T 41 16 = some (aq_ld 0 2 17) := rfl
theorem i_X4_countOfLength_17 : aq_T 41 17 = some (aq_if ai_ne0 24 20) := rfl
theorem i_X4_countOfLength_20 : aq_T 41 20 = some (aq_push (.long 1) 21) := rfl
theorem i_X4_countOfLength_21 : aq_T 41 21 = some (aq_go 25) := rfl
theorem i_X4_countOfLength_24 : aq_T 41 24 = some (aq_push (.long 0) 25) := rfl
theorem i_X4_countOfLength_25 : aq_T 41 25 = some (aq_stl 26) := rfl
theorem i_X4_countOfLength_26 : aq_T 41 26 = some (aq_inc 2 (1) 29) := rfl
theorem i_X4_countOfLength_29 : aq_T 41 29 = some (aq_go 2) := rfl
theorem i_X4_countOfLength_32 : aq_T 41 32 = some (aq_push (.int (0)) 33) := rfl
theorem i_X4_countOfLength_33 : aq_T 41 33 = some (aq_st 0 2 34) := rfl
theorem i_X4_countOfLength_34 : aq_T 41 34 = some (aq_ld 0 2 35) := rfl
theorem i_X4_countOfLength_35 : aq_T 41 35 = some (aq_ld 0 1 36) := rfl
theorem i_X4_countOfLength_36 : aq_T 41 36 = some (aq_if ai_ge 49 39) := rfl
theorem i_X4_countOfLength_39 : aq_T 41 39 = some (aq_ld 4 0 40) := rfl
theorem i_X4_countOfLength_40 : aq_T 41 40 = some (aq_call 42 1 (some 4) 43) := rfl
theorem i_X4_countOfLength_43 : aq_T 41 43 = some (aq_inc 2 (1) 46) := rfl
theorem i_X4_countOfLength_46 : aq_T 41 46 = some (aq_go 34) := rfl
theorem i_X4_countOfLength_49 : aq_T 41 49 = some (aq_push (.long 0) 50) := rfl
theorem i_X4_countOfLength_50 : aq_T 41 50 = some (aq_st 1 2 51) := rfl
theorem i_X4_countOfLength_51 : aq_T 41 51 = some (aq_push (.int (0)) 52) := rfl
theorem i_X4_countOfLength_52 : aq_T 41 52 = some (aq_st 0 4 54) := rfl
theorem i_X4_countOfLength_54 : aq_T 41 54 = some (aq_ld 0 4 56) := rfl
theorem i_X4_countOfLength_56 : aq_T 41 56 = some (aq_ld 4 0 57) := rfl
theorem i_X4_countOfLength_57 : aq_T 41 57 = some (aq_gf 4 10 60) := rfl
theorem i_X4_countOfLength_60 : aq_T 41 60 = some (aq_len 61) := rfl
theorem i_X4_countOfLength_61 : aq_T 41 61 = some (aq_if ai_ge 80 64) := rfl
theorem i_X4_countOfLength_64 : aq_T 41 64 = some (aq_ld 1 2 65) := rfl
theorem i_X4_countOfLength_65 : aq_T 41 65 = some (aq_ld 4 0 66) := rfl
theorem i_X4_countOfLength_66 : aq_T 41 66 = some (aq_gf 4 10 69) := rfl
theorem i_X4_countOfLength_69 : aq_T 41 69 = some (aq_ld 0 4 71) := rfl
theorem i_X4_countOfLength_71 : aq_T 41 71 = some (aq_ldl 72) := rfl
theorem i_X4_countOfLength_72 : aq_T 41 72 = some (aq_ar af_ladd 73) := rfl
theorem i_X4_countOfLength_73 : aq_T 41 73 = some (aq_st 1 2 74) := rfl
theorem i_X4_countOfLength_74 : aq_T 41 74 = some (aq_inc 4 (1) 77) := rfl
theorem i_X4_countOfLength_77 : aq_T 41 77 = some (aq_go 54) := rfl
theorem i_X4_countOfLength_80 : aq_T 41 80 = some (aq_ld 1 2 81) := rfl
theorem i_X4_countOfLength_81 : aq_T 41 81 = some (aq_ret 1) := rfl
theorem i_X4_countOneMore_0 : aq_T 42 0 = some (aq_push (.int (0)) 1) := rfl
theorem i_X4_countOneMore_1 : aq_T 42 1 = some (aq_st 0 1 2) := rfl
theorem i_X4_countOneMore_2 : aq_T 42 2 = some (aq_ld 0 1 3) := rfl
theorem i_X4_countOneMore_3 : aq_T 42 3 = some (aq_ld 4 0 4) := rfl
theorem i_X4_countOneMore_4 : aq_T 42 4 = some (aq_gf 4 11 7) := rfl
theorem i_X4_countOneMore_7 : aq_T 42 7 = some (aq_len 8) := rfl
theorem i_X4_countOneMore_8 : aq_T 42 8 = some (aq_if ai_ge 24 11) := rfl
theorem i_X4_countOneMore_11 : aq_T 42 11 = some (aq_ld 4 0 12) := rfl
theorem i_X4_countOneMore_12 : aq_T 42 12 = some (aq_gf 4 11 15) := rfl
theorem i_X4_countOneMore_15 : aq_T 42 15 = some (aq_ld 0 1 16) := rfl
theorem i_X4_countOneMore_16 : aq_T 42 16 = some (aq_push (.long 0) 17) := rfl
theorem i_X4_countOneMore_17 : aq_T 42 17 = some (aq_stl 18) := rfl
theorem i_X4_countOneMore_18 : aq_T 42 18 = some (aq_inc 1 (1) 21) := rfl
theorem i_X4_countOneMore_21 : aq_T 42 21 = some (aq_go 2) := rfl
theorem i_X4_countOneMore_24 : aq_T 42 24 = some (aq_push (.int (0)) 25) := rfl
theorem i_X4_countOneMore_25 : aq_T 42 25 = some (aq_st 0 1 26) := rfl
theorem i_X4_countOneMore_26 : aq_T 42 26 = some (aq_ld 0 1 27) := rfl
theorem i_X4_countOneMore_27 : aq_T 42 27 = some (aq_ld 4 0 28) := rfl
theorem i_X4_countOneMore_28 : aq_T 42 28 = some (aq_gf 4 1 31) := rfl
theorem i_X4_countOneMore_31 : aq_T 42 31 = some (aq_if ai_ge 111 34) := rfl
theorem i_X4_countOneMore_34 : aq_T 42 34 = some (aq_ld 0 1 35) := rfl
theorem i_X4_countOneMore_35 : aq_T 42 35 = some (aq_ld 4 0 36) := rfl
theorem i_X4_countOneMore_36 : aq_T 42 36 = some (aq_gf 4 10 39) := rfl
theorem i_X4_countOneMore_39 : aq_T 42 39 = some (aq_len 40) := rfl
theorem i_X4_countOneMore_40 : aq_T 42 40 = some (aq_if ai_ge 111 43) := rfl
theorem i_X4_countOneMore_43 : aq_T 42 43 = some (aq_push (.int (0)) 44) := rfl
theorem i_X4_countOneMore_44 : aq_T 42 44 = some (aq_st 0 2 45) := rfl
theorem i_X4_countOneMore_45 : aq_T 42 45 = some (aq_ld 0 2 46) := rfl
theorem i_X4_countOneMore_46 : aq_T 42 46 = some (aq_ld 4 0 47) := rfl
theorem i_X4_countOneMore_47 : aq_T 42 47 = some (aq_gf 4 0 50) := rfl
theorem i_X4_countOneMore_50 : aq_T 42 50 = some (aq_if ai_ge 105 53) := rfl
theorem i_X4_countOneMore_53 : aq_T 42 53 = some (aq_ld 4 0 54) := rfl
theorem i_X4_countOneMore_54 : aq_T 42 54 = some (aq_gf 4 10 57) := rfl
theorem i_X4_countOneMore_57 : aq_T 42 57 = some (aq_ld 0 1 58) := rfl
theorem i_X4_countOneMore_58 : aq_T 42 58 = some (aq_ldl 59) := rfl
theorem i_X4_countOneMore_59 : aq_T 42 59 = some (aq_push (.long 0) 60) := rfl
theorem i_X4_countOneMore_60 : aq_T 42 60 = some (aq_ar af_lcmp 61) := rfl
theorem i_X4_countOneMore_61 : aq_T 42 61 = some (aq_if ai_eq0 105 64) := rfl
theorem i_X4_countOneMore_64 : aq_T 42 64 = some (aq_ld 4 0 65) := rfl
theorem i_X4_countOneMore_65 : aq_T 42 65 = some (aq_ld 0 1 66) := rfl
theorem i_X4_countOneMore_66 : aq_T 42 66 = some (aq_ld 0 2 67) := rfl
theorem i_X4_countOneMore_67 : aq_T 42 67 = some (aq_call 38 3 (some 4) 70) := rfl
theorem i_X4_countOneMore_70 : aq_T 42 70 = some (aq_st 0 3 71) := rfl
theorem i_X4_countOneMore_71 : aq_T 42 71 = some (aq_ld 0 3 72) := rfl
theorem i_X4_countOneMore_72 : aq_T 42 72 = some (aq_if ai_lt0 99 75) := rfl
theorem i_X4_countOneMore_75 : aq_T 42 75 = some (aq_ld 0 3 76) := rfl
theorem i_X4_countOneMore_76 : aq_T 42 76 = some (aq_ld 4 0 77) := rfl
theorem i_X4_countOneMore_77 : aq_T 42 77 = some (aq_gf 4 11 80) := rfl
theorem i_X4_countOneMore_80 : aq_T 42 80 = some (aq_len 81) := rfl
theorem i_X4_countOneMore_81 : aq_T 42 81 = some (aq_if ai_ge 99 84) := rfl
theorem i_X4_countOneMore_84 : aq_T 42 84 = some (aq_ld 4 0 85) := rfl
theorem i_X4_countOneMore_85 : aq_T 42 85 = some (aq_gf 4 11 88) := rfl
theorem i_X4_countOneMore_88 : aq_T 42 88 = some (aq_ld 0 3 89) := rfl
theorem i_X4_countOneMore_89 : aq_T 42 89 = some (aq_ar af_dup11 90) := rfl
theorem i_X4_countOneMore_90 : aq_T 42 90 = some (aq_ldl 91) := rfl
theorem i_X4_countOneMore_91 : aq_T 42 91 = some (aq_ld 4 0 92) := rfl
theorem i_X4_countOneMore_92 : aq_T 42 92 = some (aq_gf 4 10 95) := rfl
theorem i_X4_countOneMore_95 : aq_T 42 95 = some (aq_ld 0 1 96) := rfl
theorem i_X4_countOneMore_96 : aq_T 42 96 = some (aq_ldl 97) := rfl
theorem i_X4_countOneMore_97 : aq_T 42 97 = some (aq_ar af_ladd 98) := rfl
theorem i_X4_countOneMore_98 : aq_T 42 98 = some (aq_stl 99) := rfl
theorem i_X4_countOneMore_99 : aq_T 42 99 = some (aq_inc 2 (1) 102) := rfl
theorem i_X4_countOneMore_102 : aq_T 42 102 = some (aq_go 45) := rfl
theorem i_X4_countOneMore_105 : aq_T 42 105 = some (aq_inc 1 (1) 108) := rfl
theorem i_X4_countOneMore_108 : aq_T 42 108 = some (aq_go 26) := rfl
theorem i_X4_countOneMore_111 : aq_T 42 111 = some (aq_push (.int (0)) 112) := rfl
theorem i_X4_countOneMore_112 : aq_T 42 112 = some (aq_st 0 1 113) := rfl
theorem i_X4_countOneMore_113 : aq_T 42 113 = some (aq_ld 0 1 114) := rfl
theorem i_X4_countOneMore_114 : aq_T 42 114 = some (aq_ld 4 0 115) := rfl
theorem i_X4_countOneMore_115 : aq_T 42 115 = some (aq_gf 4 10 118) := rfl
theorem i_X4_countOneMore_118 : aq_T 42 118 = some (aq_len 119) := rfl
theorem i_X4_countOneMore_119 : aq_T 42 119 = some (aq_if ai_ge 149 122) := rfl
theorem i_X4_countOneMore_122 : aq_T 42 122 = some (aq_ld 0 1 123) := rfl
theorem i_X4_countOneMore_123 : aq_T 42 123 = some (aq_ld 4 0 124) := rfl
theorem i_X4_countOneMore_124 : aq_T 42 124 = some (aq_gf 4 11 127) := rfl
theorem i_X4_countOneMore_127 : aq_T 42 127 = some (aq_len 128) := rfl
theorem i_X4_countOneMore_128 : aq_T 42 128 = some (aq_if ai_ge 149 131) := rfl
theorem i_X4_countOneMore_131 : aq_T 42 131 = some (aq_ld 4 0 132) := rfl
theorem i_X4_countOneMore_132 : aq_T 42 132 = some (aq_gf 4 10 135) := rfl
theorem i_X4_countOneMore_135 : aq_T 42 135 = some (aq_ld 0 1 136) := rfl
theorem i_X4_countOneMore_136 : aq_T 42 136 = some (aq_ld 4 0 137) := rfl
theorem i_X4_countOneMore_137 : aq_T 42 137 = some (aq_gf 4 11 140) := rfl
theorem i_X4_countOneMore_140 : aq_T 42 140 = some (aq_ld 0 1 141) := rfl
theorem i_X4_countOneMore_141 : aq_T 42 141 = some (aq_ldl 142) := rfl
theorem i_X4_countOneMore_142 : aq_T 42 142 = some (aq_stl 143) := rfl
theorem i_X4_countOneMore_143 : aq_T 42 143 = some (aq_inc 1 (1) 146) := rfl
theorem i_X4_countOneMore_146 : aq_T 42 146 = some (aq_go 113) := rfl
theorem i_X4_countOneMore_149 : aq_T 42 149 = some (aq_retv) := rfl
theorem i_X4_findCycle_0 : aq_T 43 0 = some (aq_ld 4 1 1) := rfl
theorem i_X4_findCycle_1 : aq_T 43 1 = some (aq_call 53 1 (some 5) 4) := rfl
theorem i_X4_findCycle_4 : aq_T 43 4 = some (aq_push (.int (0)) 5) := rfl
theorem i_X4_findCycle_5 : aq_T 43 5 = some (aq_st 0 3 6) := rfl
theorem i_X4_findCycle_6 : aq_T 43 6 = some (aq_ld 0 3 7) := rfl
theorem i_X4_findCycle_7 : aq_T 43 7 = some (aq_ld 4 0 8) := rfl
theorem i_X4_findCycle_8 : aq_T 43 8 = some (aq_gf 4 1 11) := rfl
theorem i_X4_findCycle_11 : aq_T 43 11 = some (aq_if ai_ge 77 14) := rfl
theorem i_X4_findCycle_14 : aq_T 43 14 = some (aq_ld 4 0 15) := rfl
theorem i_X4_findCycle_15 : aq_T 43 15 = some (aq_ld 0 3 16) := rfl
theorem i_X4_findCycle_16 : aq_T 43 16 = some (aq_ld 4 1 17) := rfl
theorem i_X4_findCycle_17 : aq_T 43 17 = some (aq_call 49 1 (some 5) 20) := rfl
theorem i_X4_findCycle_20 : aq_T 43 20 = some (aq_if ai_ne0 28 23) := rfl
theorem i_X4_findCycle_23 : aq_T 43 23 = some (aq_push (.int (40)) 25) := rfl
theorem i_X4_findCycle_25 : aq_T 43 25 = some (aq_go 32) := rfl
theorem i_X4_findCycle_28 : aq_T 43 28 = some (aq_ld 4 1 29) := rfl
theorem i_X4_findCycle_29 : aq_T 43 29 = some (aq_call 49 1 (some 5) 32) := rfl
theorem i_X4_findCycle_32 : aq_T 43 32 = some (aq_call 44 3 (some 4) 35) := rfl
theorem i_X4_findCycle_35 : aq_T 43 35 = some (aq_st 0 4 37) := rfl
theorem i_X4_findCycle_37 : aq_T 43 37 = some (aq_ld 0 4 39) := rfl
theorem i_X4_findCycle_39 : aq_T 43 39 = some (aq_push (.int (-1)) 40) := rfl
theorem i_X4_findCycle_40 : aq_T 43 40 = some (aq_if ai_eq 71 43) := rfl
theorem i_X4_findCycle_43 : aq_T 43 43 = some (aq_ld 4 0 44) := rfl
theorem i_X4_findCycle_44 : aq_T 43 44 = some (aq_ld 0 3 45) := rfl
theorem i_X4_findCycle_45 : aq_T 43 45 = some (aq_ld 0 4 47) := rfl
theorem i_X4_findCycle_47 : aq_T 43 47 = some (aq_ld 4 2 48) := rfl
theorem i_X4_findCycle_48 : aq_T 43 48 = some (aq_call 45 4 (some 4) 51) := rfl
theorem i_X4_findCycle_51 : aq_T 43 51 = some (aq_ld 4 1 52) := rfl
theorem i_X4_findCycle_52 : aq_T 43 52 = some (aq_call 49 1 (some 5) 55) := rfl
theorem i_X4_findCycle_55 : aq_T 43 55 = some (aq_if ai_eq0 66 58) := rfl
theorem i_X4_findCycle_58 : aq_T 43 58 = some (aq_ld 4 2 59) := rfl
theorem i_X4_findCycle_59 : aq_T 43 59 = some (aq_ld 4 1 60) := rfl
theorem i_X4_findCycle_60 : aq_T 43 60 = some (aq_call 56 2 (some 5) 63) := rfl
theorem i_X4_findCycle_63 : aq_T 43 63 = some (aq_if ai_eq0 71 66) := rfl
theorem i_X4_findCycle_66 : aq_T 43 66 = some (aq_ld 4 1 67) := rfl
theorem i_X4_findCycle_67 : aq_T 43 67 = some (aq_ld 4 2 68) := rfl
theorem i_X4_findCycle_68 : aq_T 43 68 = some (aq_call 54 2 (some 5) 71) := rfl
theorem i_X4_findCycle_71 : aq_T 43 71 = some (aq_inc 3 (1) 74) := rfl
theorem i_X4_findCycle_74 : aq_T 43 74 = some (aq_go 6) := rfl
theorem i_X4_findCycle_77 : aq_T 43 77 = some (aq_retv) := rfl
theorem i_X4_lastBeforeReturn_0 : aq_T 44 0 = some (aq_push (.int (0)) 1) := rfl
theorem i_X4_lastBeforeReturn_1 : aq_T 44 1 = some (aq_st 0 3 2) := rfl
theorem i_X4_lastBeforeReturn_2 : aq_T 44 2 = some (aq_ld 0 3 3) := rfl
theorem i_X4_lastBeforeReturn_3 : aq_T 44 3 = some (aq_ld 4 0 4) := rfl
theorem i_X4_lastBeforeReturn_4 : aq_T 44 4 = some (aq_gf 4 7 7) := rfl
theorem i_X4_lastBeforeReturn_7 : aq_T 44 7 = some (aq_len 8) := rfl
theorem i_X4_lastBeforeReturn_8 : aq_T 44 8 = some (aq_if ai_ge 24 11) := rfl
theorem i_X4_lastBeforeReturn_11 : aq_T 44 11 = some (aq_ld 4 0 12) := rfl
theorem i_X4_lastBeforeReturn_12 : aq_T 44 12 = some (aq_gf 4 7 15) := rfl
theorem i_X4_lastBeforeReturn_15 : aq_T 44 15 = some (aq_ld 0 3 16) := rfl
theorem i_X4_lastBeforeReturn_16 : aq_T 44 16 = some (aq_push (.int (-1)) 17) := rfl
theorem i_X4_lastBeforeReturn_17 : aq_T 44 17 = some (aq_sti 18) := rfl
theorem i_X4_lastBeforeReturn_18 : aq_T 44 18 = some (aq_inc 3 (1) 21) := rfl
theorem i_X4_lastBeforeReturn_21 : aq_T 44 21 = some (aq_go 2) := rfl
theorem i_X4_lastBeforeReturn_24 : aq_T 44 24 = some (aq_push (.int (1)) 25) := rfl
theorem i_X4_lastBeforeReturn_25 : aq_T 44 25 = some (aq_st 0 3 26) := rfl
theorem i_X4_lastBeforeReturn_26 : aq_T 44 26 = some (aq_ld 4 0 27) := rfl
theorem i_X4_lastBeforeReturn_27 : aq_T 44 27 = some (aq_gf 4 6 30) := rfl
theorem i_X4_lastBeforeReturn_30 : aq_T 44 30 = some (aq_push (.int (0)) 31) := rfl
theorem i_X4_lastBeforeReturn_31 : aq_T 44 31 = some (aq_ld 0 1 32) := rfl
theorem i_X4_lastBeforeReturn_32 : aq_T 44 32 = some (aq_call 47 3 none 35) := rfl
theorem i_X4_lastBeforeReturn_35 : aq_T 44 35 = some (aq_ld 4 0 36) := rfl
theorem i_X4_lastBeforeReturn_36 : aq_T 44 36 = some (aq_gf 4 7 39) := rfl
theorem i_X4_lastBeforeReturn_39 : aq_T 44 39 = some (aq_ld 0 1 40) := rfl
theorem i_X4_lastBeforeReturn_40 : aq_T 44 40 = some (aq_push (.int (0)) 41) := rfl
theorem i_X4_lastBeforeReturn_41 : aq_T 44 41 = some (aq_call 47 3 none 44) := rfl
theorem i_X4_lastBeforeReturn_44 : aq_T 44 44 = some (aq_push (.int (0)) 45) := rfl
theorem i_X4_lastBeforeReturn_45 : aq_T 44 45 = some (aq_st 0 4 47) := rfl
theorem i_X4_lastBeforeReturn_47 : aq_T 44 47 = some (aq_ld 0 4 49) := rfl
theorem i_X4_lastBeforeReturn_49 : aq_T 44 49 = some (aq_ld 0 3 50) := rfl
theorem i_X4_lastBeforeReturn_50 : aq_T 44 50 = some (aq_if ai_ge 188 53) := rfl
theorem i_X4_lastBeforeReturn_53 : aq_T 44 53 = some (aq_ld 0 4 55) := rfl
theorem i_X4_lastBeforeReturn_55 : aq_T 44 55 = some (aq_ld 4 0 56) := rfl
theorem i_X4_lastBeforeReturn_56 : aq_T 44 56 = some (aq_gf 4 6 59) := rfl
theorem i_X4_lastBeforeReturn_59 : aq_T 44 59 = some (aq_len 60) := rfl
theorem i_X4_lastBeforeReturn_60 : aq_T 44 60 = some (aq_if ai_ge 188 63) := rfl
theorem i_X4_lastBeforeReturn_63 : aq_T 44 63 = some (aq_ld 4 0 64) := rfl
theorem i_X4_lastBeforeReturn_64 : aq_T 44 64 = some (aq_gf 4 6 67) := rfl
theorem i_X4_lastBeforeReturn_67 : aq_T 44 67 = some (aq_ld 0 4 69) := rfl
theorem i_X4_lastBeforeReturn_69 : aq_T 44 69 = some (aq_ldi 0 70) := rfl
theorem i_X4_lastBeforeReturn_70 : aq_T 44 70 = some (aq_st 0 5 72) := rfl
theorem i_X4_lastBeforeReturn_72 : aq_T 44 72 = some (aq_ld 4 0 73) := rfl
theorem i_X4_lastBeforeReturn_73 : aq_T 44 73 = some (aq_gf 4 7 76) := rfl
theorem i_X4_lastBeforeReturn_76 : aq_T 44 76 = some (aq_ld 0 5 78) := rfl
theorem i_X4_lastBeforeReturn_78 : aq_T 44 78 = some (aq_call 46 2 none 81) := rfl
theorem i_X4_lastBeforeReturn_81 : aq_T 44 81 = some (aq_push (.int (1)) 82) := rfl
theorem i_X4_lastBeforeReturn_82 : aq_T 44 82 = some (aq_ar af_iadd 83) := rfl
theorem i_X4_lastBeforeReturn_83 : aq_T 44 83 = some (aq_st 0 6 85) := rfl
theorem i_X4_lastBeforeReturn_85 : aq_T 44 85 = some (aq_push (.int (0)) 86) := rfl
theorem i_X4_lastBeforeReturn_86 : aq_T 44 86 = some (aq_st 0 7 88) := rfl
theorem i_X4_lastBeforeReturn_88 : aq_T 44 88 = some (aq_ld 0 7 90) := rfl
theorem i_X4_lastBeforeReturn_90 : aq_T 44 90 = some (aq_ld 4 0 91) := rfl
theorem i_X4_lastBeforeReturn_91 : aq_T 44 91 = some (aq_gf 4 0 94) := rfl
theorem i_X4_lastBeforeReturn_94 : aq_T 44 94 = some (aq_if ai_ge 182 97) := rfl
theorem i_X4_lastBeforeReturn_97 : aq_T 44 97 = some (aq_ld 0 6 99) := rfl
theorem i_X4_lastBeforeReturn_99 : aq_T 44 99 = some (aq_ld 0 2 100) := rfl
theorem i_X4_lastBeforeReturn_100 : aq_T 44 100 = some (aq_if ai_gt 182 103) := rfl
theorem i_X4_lastBeforeReturn_103 : aq_T 44 103 = some (aq_ld 4 0 104) := rfl
theorem i_X4_lastBeforeReturn_104 : aq_T 44 104 = some (aq_ld 0 5 106) := rfl
theorem i_X4_lastBeforeReturn_106 : aq_T 44 106 = some (aq_ld 0 7 108) := rfl
theorem i_X4_lastBeforeReturn_108 : aq_T 44 108 = some (aq_call 38 3 (some 4) 111) := rfl
theorem i_X4_lastBeforeReturn_111 : aq_T 44 111 = some (aq_st 0 8 113) := rfl
theorem i_X4_lastBeforeReturn_113 : aq_T 44 113 = some (aq_ld 0 8 115) := rfl
theorem i_X4_lastBeforeReturn_115 : aq_T 44 115 = some (aq_ld 0 1 116) := rfl
theorem i_X4_lastBeforeReturn_116 : aq_T 44 116 = some (aq_if ai_ne 122 119) := rfl
theorem i_X4_lastBeforeReturn_119 : aq_T 44 119 = some (aq_ld 0 5 121) := rfl
theorem i_X4_lastBeforeReturn_121 : aq_T 44 121 = some (aq_ret 0) := rfl
theorem i_X4_lastBeforeReturn_122 : aq_T 44 122 = some (aq_ld 0 8 124) := rfl
theorem i_X4_lastBeforeReturn_124 : aq_T 44 124 = some (aq_push (.int (-1)) 125) := rfl
theorem i_X4_lastBeforeReturn_125 : aq_T 44 125 = some (aq_if ai_eq 176 128) := rfl
theorem i_X4_lastBeforeReturn_128 : aq_T 44 128 = some (aq_ld 4 0 129) := rfl
theorem i_X4_lastBeforeReturn_129 : aq_T 44 129 = some (aq_gf 4 7 132) := rfl
theorem i_X4_lastBeforeReturn_132 : aq_T 44 132 = some (aq_ld 0 8 134) := rfl
theorem i_X4_lastBeforeReturn_134 : aq_T 44 134 = some (aq_call 46 2 none 137) := rfl
theorem i_X4_lastBeforeReturn_137 : aq_T 44 137 = some (aq_push (.int (-1)) 138) := rfl
theorem i_X4_lastBeforeReturn_138 : aq_T 44 138 = some (aq_if ai_ne 176 141) := rfl
theorem i_X4_lastBeforeReturn_141 : aq_T 44 141 = some (aq_ld 4 0 142) := rfl
theorem i_X4_lastBeforeReturn_142 : aq_T 44 142 = some (aq_gf 4 7 145) := rfl
theorem i_X4_lastBeforeReturn_145 : aq_T 44 145 = some (aq_ld 0 8 147) := rfl
theorem i_X4_lastBeforeReturn_147 : aq_T 44 147 = some (aq_ld 0 6 149) := rfl
theorem i_X4_lastBeforeReturn_149 : aq_T 44 149 = some (aq_call 47 3 none 152) := rfl
theorem i_X4_lastBeforeReturn_152 : aq_T 44 152 = some (aq_ld 4 0 153) := rfl
theorem i_X4_lastBeforeReturn_153 : aq_T 44 153 = some (aq_gf 4 9 156) := rfl
theorem i_X4_lastBeforeReturn_156 : aq_T 44 156 = some (aq_ld 0 8 158) := rfl
theorem i_X4_lastBeforeReturn_158 : aq_T 44 158 = some (aq_ld 0 5 160) := rfl
theorem i_X4_lastBeforeReturn_160 : aq_T 44 160 = some (aq_call 47 3 none 163) := rfl
theorem i_X4_lastBeforeReturn_163 : aq_T 44 163 = some (aq_ld 4 0 164) := rfl
theorem i_X4_lastBeforeReturn_164 : aq_T 44 164 = some (aq_gf 4 6 167) := rfl
theorem i_X4_lastBeforeReturn_167 : aq_T 44 167 = some (aq_ld 0 3 168) := rfl
theorem i_X4_lastBeforeReturn_168 : aq_T 44 168 = some (aq_ld 0 8 170) := rfl
theorem i_X4_lastBeforeReturn_170 : aq_T 44 170 = some (aq_call 47 3 none 173) := rfl
theorem i_X4_lastBeforeReturn_173 : aq_T 44 173 = some (aq_inc 3 (1) 176) := rfl
theorem i_X4_lastBeforeReturn_176 : aq_T 44 176 = some (aq_inc 7 (1) 179) := rfl
theorem i_X4_lastBeforeReturn_179 : aq_T 44 179 = some (aq_go 88) := rfl
theorem i_X4_lastBeforeReturn_182 : aq_T 44 182 = some (aq_inc 4 (1) 185) := rfl
theorem i_X4_lastBeforeReturn_185 : aq_T 44 185 = some (aq_go 47) := rfl
theorem i_X4_lastBeforeReturn_188 : aq_T 44 188 = some (aq_push (.int (-1)) 189) := rfl
theorem i_X4_lastBeforeReturn_189 : aq_T 44 189 = some (aq_ret 0) := rfl
theorem i_X4_readCycle_0 : aq_T 45 0 = some (aq_ld 4 0 1) := rfl
theorem i_X4_readCycle_1 : aq_T 45 1 = some (aq_gf 4 7 4) := rfl
theorem i_X4_readCycle_4 : aq_T 45 4 = some (aq_ld 0 2 5) := rfl
theorem i_X4_readCycle_5 : aq_T 45 5 = some (aq_call 46 2 none 8) := rfl
theorem i_X4_readCycle_8 : aq_T 45 8 = some (aq_push (.int (1)) 9) := rfl
theorem i_X4_readCycle_9 : aq_T 45 9 = some (aq_ar af_iadd 10) := rfl
theorem i_X4_readCycle_10 : aq_T 45 10 = some (aq_st 0 4 12) := rfl
theorem i_X4_readCycle_12 : aq_T 45 12 = some (aq_ld 4 3 13) := rfl
theorem i_X4_readCycle_13 : aq_T 45 13 = some (aq_call 53 1 (some 5) 16) := rfl
theorem i_X4_readCycle_16 : aq_T 45 16 = some (aq_push (.int (0)) 17) := rfl
theorem i_X4_readCycle_17 : aq_T 45 17 = some (aq_st 0 5 19) := rfl
theorem i_X4_readCycle_19 : aq_T 45 19 = some (aq_ld 0 5 21) := rfl
theorem i_X4_readCycle_21 : aq_T 45 21 = some (aq_ld 0 4 23) := rfl
theorem i_X4_readCycle_23 : aq_T 45 23 = some (aq_if ai_ge 45 26) := rfl
theorem i_X4_readCycle_26 : aq_T 45 26 = some (aq_ld 4 3 27) := rfl
theorem i_X4_readCycle_27 : aq_T 45 27 = some (aq_ld 4 0 28) := rfl
theorem i_X4_readCycle_28 : aq_T 45 28 = some (aq_gf 4 3 31) := rfl
theorem i_X4_readCycle_31 : aq_T 45 31 = some (aq_ld 0 1 32) := rfl
theorem i_X4_readCycle_32 : aq_T 45 32 = some (aq_call 46 2 none 35) := rfl
theorem i_X4_readCycle_35 : aq_T 45 35 = some (aq_call 52 2 (some 5) 38) := rfl
theorem i_X4_readCycle_38 : aq_T 45 38 = some (aq_ar af_pop 39) := rfl
theorem i_X4_readCycle_39 : aq_T 45 39 = some (aq_inc 5 (1) 42) := rfl
theorem i_X4_readCycle_42 : aq_T 45 42 = some (aq_go 19) := rfl
theorem i_X4_readCycle_45 : aq_T 45 45 = some (aq_ld 0 2 46) := rfl
theorem i_X4_readCycle_46 : aq_T 45 46 = some (aq_st 0 5 48) := rfl
theorem i_X4_readCycle_48 : aq_T 45 48 = some (aq_ld 0 4 50) := rfl
theorem i_X4_readCycle_50 : aq_T 45 50 = some (aq_push (.int (2)) 51) := rfl
theorem i_X4_readCycle_51 : aq_T 45 51 = some (aq_ar af_isub 52) := rfl
theorem i_X4_readCycle_52 : aq_T 45 52 = some (aq_st 0 6 54) := rfl
theorem i_X4_readCycle_54 : aq_T 45 54 = some (aq_ld 0 6 56) := rfl
theorem i_X4_readCycle_56 : aq_T 45 56 = some (aq_if ai_lt0 91 59) := rfl
theorem i_X4_readCycle_59 : aq_T 45 59 = some (aq_ld 4 3 60) := rfl
theorem i_X4_readCycle_60 : aq_T 45 60 = some (aq_ld 0 6 62) := rfl
theorem i_X4_readCycle_62 : aq_T 45 62 = some (aq_ld 4 0 63) := rfl
theorem i_X4_readCycle_63 : aq_T 45 63 = some (aq_gf 4 3 66) := rfl
theorem i_X4_readCycle_66 : aq_T 45 66 = some (aq_ld 0 5 68) := rfl
theorem i_X4_readCycle_68 : aq_T 45 68 = some (aq_call 46 2 none 71) := rfl
theorem i_X4_readCycle_71 : aq_T 45 71 = some (aq_call 51 3 (some 5) 74) := rfl
theorem i_X4_readCycle_74 : aq_T 45 74 = some (aq_ld 4 0 75) := rfl
theorem i_X4_readCycle_75 : aq_T 45 75 = some (aq_gf 4 9 78) := rfl
theorem i_X4_readCycle_78 : aq_T 45 78 = some (aq_ld 0 5 80) := rfl
theorem i_X4_readCycle_80 : aq_T 45 80 = some (aq_call 46 2 none 83) := rfl
theorem i_X4_readCycle_83 : aq_T 45 83 = some (aq_st 0 5 85) := rfl
theorem i_X4_readCycle_85 : aq_T 45 85 = some (aq_inc 6 (-1) 88) := rfl
theorem i_X4_readCycle_88 : aq_T 45 88 = some (aq_go 54) := rfl
theorem i_X4_readCycle_91 : aq_T 45 91 = some (aq_retv) := rfl
theorem i_X4_peek_0 : aq_T 46 0 = some (aq_ld 0 1 1) := rfl
theorem i_X4_peek_1 : aq_T 46 1 = some (aq_if ai_lt0 16 4) := rfl
theorem i_X4_peek_4 : aq_T 46 4 = some (aq_ld 0 1 5) := rfl
theorem i_X4_peek_5 : aq_T 46 5 = some (aq_ld 4 0 6) := rfl
theorem i_X4_peek_6 : aq_T 46 6 = some (aq_len 7) := rfl
theorem i_X4_peek_7 : aq_T 46 7 = some (aq_if ai_ge 16 10) := rfl
theorem i_X4_peek_10 : aq_T 46 10 = some (aq_ld 4 0 11) := rfl
theorem i_X4_peek_11 : aq_T 46 11 = some (aq_ld 0 1 12) := rfl
theorem i_X4_peek_12 : aq_T 46 12 = some (aq_ldi 0 13) := rfl
theorem i_X4_peek_13 : aq_T 46 13 = some (aq_go 17) := rfl
theorem i_X4_peek_16 : aq_T 46 16 = some (aq_push (.int (-1)) 17) := rfl
theorem i_X4_peek_17 : aq_T 46 17 = some (aq_ret 0) := rfl
theorem i_X4_poke_0 : aq_T 47 0 = some (aq_ld 0 1 1) := rfl
theorem i_X4_poke_1 : aq_T 47 1 = some (aq_if ai_lt0 14 4) := rfl
theorem i_X4_poke_4 : aq_T 47 4 = some (aq_ld 0 1 5) := rfl
theorem i_X4_poke_5 : aq_T 47 5 = some (aq_ld 4 0 6) := rfl
theorem i_X4_poke_6 : aq_T 47 6 = some (aq_len 7) := rfl
theorem i_X4_poke_7 : aq_T 47 7 = some (aq_if ai_ge 14 10) := rfl
theorem i_X4_poke_10 : aq_T 47 10 = some (aq_ld 4 0 11) := rfl
theorem i_X4_poke_11 : aq_T 47 11 = some (aq_ld 0 1 12) := rfl
theorem i_X4_poke_12 : aq_T 47 12 = some (aq_ld 0 2 13) := rfl
theorem i_X4_poke_13 : aq_T 47 13 = some (aq_sti 14) := rfl
theorem i_X4_poke_14 : aq_T 47 14 = some (aq_retv) := rfl
theorem i_X6_init_0 : aq_T 66 0 = some (aq_ld 4 0 1) := rfl
theorem i_X6_init_1 : aq_T 66 1 = some (aq_oi 4) := rfl
theorem i_X6_init_4 : aq_T 66 4 = some (aq_ld 4 0 5) := rfl
theorem i_X6_init_5 : aq_T 66 5 = some (aq_new 2 3 [.null, .null, .int 0] 8) := rfl
theorem i_X6_init_8 : aq_T 66 8 = some (aq_ar af_dup 9) := rfl
theorem i_X6_init_9 : aq_T 66 9 = some (aq_call 18 1 (some 2) 12) := rfl
theorem i_X6_init_12 : aq_T 66 12 = some (aq_pf 6 0 4 15) := rfl
theorem i_X6_init_15 : aq_T 66 15 = some (aq_ld 4 0 16) := rfl
theorem i_X6_init_16 : aq_T 66 16 = some (aq_new 2 3 [.null, .null, .int 0] 19) := rfl
theorem i_X6_init_19 : aq_T 66 19 = some (aq_ar af_dup 20) := rfl
theorem i_X6_init_20 : aq_T 66 20 = some (aq_call 18 1 (some 2) 23) := rfl
theorem i_X6_init_23 : aq_T 66 23 = some (aq_pf 6 1 4 26) := rfl
theorem i_X6_init_26 : aq_T 66 26 = some (aq_ld 4 0 27) := rfl
theorem i_X6_init_27 : aq_T 66 27 = some (aq_new 3 10 [.null, .int 0, .int 0, .null, .int 0, .null, .int 0, .int 0, .int 0, .int 0] 30) := rfl
theorem i_X6_init_30 : aq_T 66 30 = some (aq_ar af_dup 31) := rfl
theorem i_X6_init_31 : aq_T 66 31 = some (aq_call 22 1 (some 3) 34) := rfl
theorem i_X6_init_34 : aq_T 66 34 = some (aq_pf 6 2 4 37) := rfl
theorem i_X6_init_37 : aq_T 66 37 = some (aq_ld 4 0 38) := rfl
theorem i_X6_init_38 : aq_T 66 38 = some (aq_new 4 12 [.int 0, .int 0, .null, .null, .null, .null, .null, .null, .null, .null, .null, .null] 41) := rfl
theorem i_X6_init_41 : aq_T 66 41 = some (aq_ar af_dup 42) := rfl
theorem i_X6_init_42 : aq_T 66 42 = some (aq_call 35 1 (some 4) 45) := rfl
theorem i_X6_init_45 : aq_T 66 45 = some (aq_pf 6 3 4 48) := rfl
theorem i_X6_init_48 : aq_T 66 48 = some (aq_ld 4 0 49) := rfl
theorem i_X6_init_49 : aq_T 66 49 = some (aq_push (.int (2)) 50) := rfl
theorem i_X6_init_50 : aq_T 66 50 = some (aq_newa 4 53) := rfl
theorem i_X6_init_53 : aq_T 66 53 = some (aq_pf 6 4 4 56) := rfl
theorem i_X6_init_56 : aq_T 66 56 = some (aq_ld 4 0 57) := rfl
theorem i_X6_init_57 : aq_T 66 57 = some (aq_new 5 2 [.null, .int 0] 60) := rfl
theorem i_X6_init_60 : aq_T 66 60 = some (aq_ar af_dup 61) := rfl
theorem i_X6_init_61 : aq_T 66 61 = some (aq_call 48 1 (some 5) 64) := rfl
theorem i_X6_init_64 : aq_T 66 64 = some (aq_pf 6 5 4 67) := rfl
theorem i_X6_init_67 : aq_T 66 67 = some (aq_ld 4 0 68) := rfl
theorem i_X6_init_68 : aq_T 66 68 = some (aq_new 5 2 [.null, .int 0] 71) := rfl
theorem i_X6_init_71 : aq_T 66 71 = some (aq_ar af_dup 72) := rfl
theorem i_X6_init_72 : aq_T 66 72 = some (aq_call 48 1 (some 5) 75) := rfl
theorem i_X6_init_75 : aq_T 66 75 = some (aq_pf 6 6 4 78) := rfl
theorem i_X6_init_78 : aq_T 66 78 = some (aq_ld 4 0 79) := rfl
theorem i_X6_init_79 : aq_T 66 79 = some (aq_push (.int (3)) 80) := rfl
theorem i_X6_init_80 : aq_T 66 80 = some (aq_newa 1 82) := rfl
theorem i_X6_init_82 : aq_T 66 82 = some (aq_pf 6 7 4 85) := rfl
theorem i_X6_init_85 : aq_T 66 85 = some (aq_push (.int (0)) 86) := rfl
theorem i_X6_init_86 : aq_T 66 86 = some (aq_st 0 1 87) := rfl
theorem i_X6_init_87 : aq_T 66 87 = some (aq_ld 0 1 88) := rfl
theorem i_X6_init_88 : aq_T 66 88 = some (aq_ld 4 0 89) := rfl
theorem i_X6_init_89 : aq_T 66 89 = some (aq_gf 6 4 92) := rfl
theorem i_X6_init_92 : aq_T 66 92 = some (aq_len 93) := rfl
theorem i_X6_init_93 : aq_T 66 93 = some (aq_if ai_ge 115 96) := rfl
theorem i_X6_init_96 : aq_T 66 96 = some (aq_ld 4 0 97) := rfl
theorem i_X6_init_97 : aq_T 66 97 = some (aq_gf 6 4 100) := rfl
theorem i_X6_init_100 : aq_T 66 100 = some (aq_ld 0 1 101) := rfl
theorem i_X6_init_101 : aq_T 66 101 = some (aq_new 1 4 [.null, .int 0, .int 0, .int 0] 104) := rfl
theorem i_X6_init_104 : aq_T 66 104 = some (aq_ar af_dup 105) := rfl
theorem i_X6_init_105 : aq_T 66 105 = some (aq_call 10 1 (some 1) 108) := rfl
theorem i_X6_init_108 : aq_T 66 108 = some (aq_sta 4 1 109) := rfl
theorem i_X6_init_109 : aq_T 66 109 = some (aq_inc 1 (1) 112) := rfl
theorem i_X6_init_112 : aq_T 66 112 = some (aq_go 87) := rfl
theorem i_X6_init_115 : aq_T 66 115 = some (aq_retv) := rfl
theorem i_X6_setLetters_0 : aq_T 67 0 = some (aq_ld 0 1 1) := rfl
theorem i_X6_setLetters_1 : aq_T 67 1 = some (aq_push (.int (1)) 2) := rfl
theorem i_X6_setLetters_2 : aq_T 67 2 = some (aq_if ai_lt 10 5) := rfl
theorem i_X6_setLetters_5 : aq_T 67 5 = some (aq_ld 0 1 6) := rfl
theorem i_X6_setLetters_6 : aq_T 67 6 = some (aq_push (.int (3)) 7) := rfl
theorem i_X6_setLetters_7 : aq_T 67 7 = some (aq_if ai_le 20 10) := rfl
theorem i_X6_setLetters_10 : aq_T 67 10 = some (aq_thr "java/lang/IllegalArgumentException") := rfl
theorem i_X6_setLetters_20 : aq_T 67 20 = some (aq_ld 4 0 21) := rfl
theorem i_X6_setLetters_21 : aq_T 67 21 = some (aq_gf 6 0 24) := rfl
theorem i_X6_setLetters_24 : aq_T 67 24 = some (aq_gf 2 2 27) := rfl
theorem i_X6_setLetters_27 : aq_T 67 27 = some (aq_st 0 2 28) := rfl
theorem i_X6_setLetters_28 : aq_T 67 28 = some (aq_ld 4 0 29) := rfl
theorem i_X6_setLetters_29 : aq_T 67 29 = some (aq_gf 6 0 32) := rfl
theorem i_X6_setLetters_32 : aq_T 67 32 = some (aq_ld 0 1 33) := rfl
theorem i_X6_setLetters_33 : aq_T 67 33 = some (aq_call 20 2 (some 2) 36) := rfl
theorem i_X6_setLetters_36 : aq_T 67 36 = some (aq_ld 0 2 37) := rfl
theorem i_X6_setLetters_37 : aq_T 67 37 = some (aq_ret 0) := rfl
theorem i_X6_append_0 : aq_T 68 0 = some (aq_ld 4 0 1) := rfl
theorem i_X6_append_1 : aq_T 68 1 = some (aq_ld 0 1 2) := rfl
theorem i_X6_append_2 : aq_T 68 2 = some (aq_call 110 2 (some 6) 5) := rfl
theorem i_X6_append_5 : aq_T 68 5 = some (aq_st 4 3 6) := rfl
theorem i_X6_append_6 : aq_T 68 6 = some (aq_ld 4 0 7) := rfl
theorem i_X6_append_7 : aq_T 68 7 = some (aq_ld 0 2 8) := rfl
theorem i_X6_append_8 : aq_T 68 8 = some (aq_call 112 2 (some 6) 11) := rfl
theorem i_X6_append_11 : aq_T 68 11 = some (aq_ld 4 3 12) := rfl
theorem i_X6_append_12 : aq_T 68 12 = some (aq_ld 0 2 13) := rfl
theorem i_X6_append_13 : aq_T 68 13 = some (aq_call 52 2 (some 5) 16) := rfl
theorem i_X6_append_16 : aq_T 68 16 = some (aq_if ai_ne0 29 19) := rfl
theorem i_X6_append_19 : aq_T 68 19 = some (aq_thr "java/lang/IllegalStateException") := rfl
theorem i_X6_append_29 : aq_T 68 29 = some (aq_ld 4 3 30) := rfl
theorem i_X6_append_30 : aq_T 68 30 = some (aq_call 49 1 (some 5) 33) := rfl
theorem i_X6_append_33 : aq_T 68 33 = some (aq_ret 0) := rfl
theorem i_X6_feed_0 : aq_T 69 0 = some (aq_ld 0 1 1) := rfl
theorem i_X6_feed_1 : aq_T 69 1 = some (aq_push (.int (33)) 3) := rfl
theorem i_X6_feed_3 : aq_T 69 3 = some (aq_if ai_lt 12 6) := rfl
theorem i_X6_feed_6 : aq_T 69 6 = some (aq_ld 0 1 7) := rfl
theorem i_X6_feed_7 : aq_T 69 7 = some (aq_push (.int (126)) 9) := rfl
theorem i_X6_feed_9 : aq_T 69 9 = some (aq_if ai_le 22 12) := rfl
theorem i_X6_feed_12 : aq_T 69 12 = some (aq_thr "java/lang/IllegalArgumentException") := rfl
theorem i_X6_feed_22 : aq_T 69 22 = some (aq_ld 4 0 23) := rfl
theorem i_X6_feed_23 : aq_T 69 23 = some (aq_gf 6 2 26) := rfl
theorem i_X6_feed_26 : aq_T 69 26 = some (aq_ld 0 1 27) := rfl
theorem i_X6_feed_27 : aq_T 69 27 = some (aq_call 27 2 (some 3) 30) := rfl
theorem i_X6_feed_30 : aq_T 69 30 = some (aq_if ai_ne0 43 33) := rfl
theorem i_X6_feed_33 : aq_T 69 33 = some (aq_thr "java/lang/IllegalStateException") := rfl
theorem i_X6_feed_43 : aq_T 69 43 = some (aq_ld 4 0 44) := rfl
theorem i_X6_feed_44 : aq_T 69 44 = some (aq_gf 6 2 47) := rfl
theorem i_X6_feed_47 : aq_T 69 47 = some (aq_call 23 1 (some 3) 50) := rfl
theorem i_X6_feed_50 : aq_T 69 50 = some (aq_ret 0) := rfl
theorem i_X6_parseWord_0 : aq_T 70 0 = some (aq_ld 4 0 1) := rfl
theorem i_X6_parseWord_1 : aq_T 70 1 = some (aq_ld 0 1 2) := rfl
theorem i_X6_parseWord_2 : aq_T 70 2 = some (aq_call 110 2 (some 6) 5) := rfl
theorem i_X6_parseWord_5 : aq_T 70 5 = some (aq_st 4 2 6) := rfl
theorem i_X6_parseWord_6 : aq_T 70 6 = some (aq_ld 4 0 7) := rfl
theorem i_X6_parseWord_7 : aq_T 70 7 = some (aq_gf 6 2 10) := rfl
theorem i_X6_parseWord_10 : aq_T 70 10 = some (aq_ld 4 0 11) := rfl
theorem i_X6_parseWord_11 : aq_T 70 11 = some (aq_gf 6 0 14) := rfl
theorem i_X6_parseWord_14 : aq_T 70 14 = some (aq_gf 2 2 17) := rfl
theorem i_X6_parseWord_17 : aq_T 70 17 = some (aq_call 28 2 (some 3) 20) := rfl
theorem i_X6_parseWord_20 : aq_T 70 20 = some (aq_if ai_ne0 33 23) := rfl
theorem i_X6_parseWord_23 : aq_T 70 23 = some (aq_thr "java/lang/IllegalStateException") := rfl
theorem i_X6_parseWord_33 : aq_T 70 33 = some (aq_ld 4 0 34) := rfl
theorem i_X6_parseWord_34 : aq_T 70 34 = some (aq_gf 6 2 37) := rfl
theorem i_X6_parseWord_37 : aq_T 70 37 = some (aq_call 26 1 (some 3) 40) := rfl
theorem i_X6_parseWord_40 : aq_T 70 40 = some (aq_if ai_eq0 53 43) := rfl
theorem i_X6_parseWord_43 : aq_T 70 43 = some (aq_thr "java/lang/IllegalStateException") := rfl
theorem i_X6_parseWord_53 : aq_T 70 53 = some (aq_ld 4 2 54) := rfl
theorem i_X6_parseWord_54 : aq_T 70 54 = some (aq_ld 4 0 55) := rfl
theorem i_X6_parseWord_55 : aq_T 70 55 = some (aq_gf 6 2 58) := rfl
theorem i_X6_parseWord_58 : aq_T 70 58 = some (aq_call 25 1 (some 3) 61) := rfl
theorem i_X6_parseWord_61 : aq_T 70 61 = some (aq_call 54 2 (some 5) 64) := rfl
theorem i_X6_parseWord_64 : aq_T 70 64 = some (aq_ld 4 2 65) := rfl
theorem i_X6_parseWord_65 : aq_T 70 65 = some (aq_call 49 1 (some 5) 68) := rfl
theorem i_X6_parseWord_68 : aq_T 70 68 = some (aq_ret 0) := rfl
theorem i_X6_errorPosition_0 : aq_T 71 0 = some (aq_ld 4 0 1) := rfl
theorem i_X6_errorPosition_1 : aq_T 71 1 = some (aq_gf 6 2 4) := rfl
theorem i_X6_errorPosition_4 : aq_T 71 4 = some (aq_call 24 1 (some 3) 7) := rfl
theorem i_X6_errorPosition_7 : aq_T 71 7 = some (aq_push (.int (-1)) 8) := rfl
theorem i_X6_errorPosition_8 : aq_T 71 8 = some (aq_if ai_ne 21 11) := rfl
theorem i_X6_errorPosition_11 : aq_T 71 11 = some (aq_thr "java/util/NoSuchElementException") := rfl
theorem i_X6_errorPosition_21 : aq_T 71 21 = some (aq_ld 4 0 22) := rfl
theorem i_X6_errorPosition_22 : aq_T 71 22 = some (aq_gf 6 2 25) := rfl
theorem i_X6_errorPosition_25 : aq_T 71 25 = some (aq_call 24 1 (some 3) 28) := rfl
theorem i_X6_errorPosition_28 : aq_T 71 28 = some (aq_ret 0) := rfl
theorem i_X6_length_0 : aq_T 72 0 = some (aq_ld 4 0 1) := rfl
theorem i_X6_length_1 : aq_T 72 1 = some (aq_ld 0 1 2) := rfl
theorem i_X6_length_2 : aq_T 72 2 = some (aq_call 110 2 (some 6) 5) := rfl
theorem i_X6_length_5 : aq_T 72 5 = some (aq_call 49 1 (some 5) 8) := rfl
theorem i_X6_length_8 : aq_T 72 8 = some (aq_ret 0) := rfl
theorem i_X6_symbol_0 : aq_T 73 0 = some (aq_ld 4 0 1) := rfl
theorem i_X6_symbol_1 : aq_T 73 1 = some (aq_ld 0 1 2) := rfl
theorem i_X6_symbol_2 : aq_T 73 2 = some (aq_call 110 2 (some 6) 5) := rfl
theorem i_X6_symbol_5 : aq_T 73 5 = some (aq_st 4 3 6) := rfl
theorem i_X6_symbol_6 : aq_T 73 6 = some (aq_ld 4 3 7) := rfl
theorem i_X6_symbol_7 : aq_T 73 7 = some (aq_ld 0 2 8) := rfl
theorem i_X6_symbol_8 : aq_T 73 8 = some (aq_call 113 2 none 11) := rfl
theorem i_X6_symbol_11 : aq_T 73 11 = some (aq_ld 4 3 12) := rfl
theorem i_X6_symbol_12 : aq_T 73 12 = some (aq_ld 0 2 13) := rfl
theorem i_X6_symbol_13 : aq_T 73 13 = some (aq_call 50 2 (some 5) 16) := rfl
theorem i_X6_symbol_16 : aq_T 73 16 = some (aq_ret 0) := rfl
theorem i_X6_setSymbol_0 : aq_T 74 0 = some (aq_ld 4 0 1) := rfl
theorem i_X6_setSymbol_1 : aq_T 74 1 = some (aq_ld 0 1 2) := rfl
theorem i_X6_setSymbol_2 : aq_T 74 2 = some (aq_call 110 2 (some 6) 5) := rfl
theorem i_X6_setSymbol_5 : aq_T 74 5 = some (aq_st 4 4 7) := rfl
theorem i_X6_setSymbol_7 : aq_T 74 7 = some (aq_ld 4 0 8) := rfl
theorem i_X6_setSymbol_8 : aq_T 74 8 = some (aq_ld 0 3 9) := rfl
theorem i_X6_setSymbol_9 : aq_T 74 9 = some (aq_call 112 2 (some 6) 12) := rfl
theorem i_X6_setSymbol_12 : aq_T 74 12 = some (aq_ld 4 4 14) := rfl
theorem i_X6_setSymbol_14 : aq_T 74 14 = some (aq_ld 0 2 15) := rfl
theorem i_X6_setSymbol_15 : aq_T 74 15 = some (aq_call 113 2 none 18) := rfl
theorem i_X6_setSymbol_18 : aq_T 74 18 = some (aq_ld 4 4 20) := rfl
theorem i_X6_setSymbol_20 : aq_T 74 20 = some (aq_ld 0 2 21) := rfl
theorem i_X6_setSymbol_21 : aq_T 74 21 = some (aq_call 50 2 (some 5) 24) := rfl
theorem i_X6_setSymbol_24 : aq_T 74 24 = some (aq_st 0 5 26) := rfl
theorem i_X6_setSymbol_26 : aq_T 74 26 = some (aq_ld 4 4 28) := rfl
theorem i_X6_setSymbol_28 : aq_T 74 28 = some (aq_ld 0 2 29) := rfl
theorem i_X6_setSymbol_29 : aq_T 74 29 = some (aq_ld 0 3 30) := rfl
theorem i_X6_setSymbol_30 : aq_T 74 30 = some (aq_call 51 3 (some 5) 33) := rfl
theorem i_X6_setSymbol_33 : aq_T 74 33 = some (aq_ld 0 5 35) := rfl
theorem i_X6_setSymbol_35 : aq_T 74 35 = some (aq_ret 0) := rfl
theorem i_X6_clear_0 : aq_T 75 0 = some (aq_ld 4 0 1) := rfl
theorem i_X6_clear_1 : aq_T 75 1 = some (aq_ld 0 1 2) := rfl
theorem i_X6_clear_2 : aq_T 75 2 = some (aq_call 110 2 (some 6) 5) := rfl
theorem i_X6_clear_5 : aq_T 75 5 = some (aq_st 4 2 6) := rfl
theorem i_X6_clear_6 : aq_T 75 6 = some (aq_ld 4 2 7) := rfl
theorem i_X6_clear_7 : aq_T 75 7 = some (aq_call 49 1 (some 5) 10) := rfl
theorem i_X6_clear_10 : aq_T 75 10 = some (aq_st 0 3 11) := rfl
theorem i_X6_clear_11 : aq_T 75 11 = some (aq_ld 4 2 12) := rfl
theorem i_X6_clear_12 : aq_T 75 12 = some (aq_call 53 1 (some 5) 15) := rfl
theorem i_X6_clear_15 : aq_T 75 15 = some (aq_ld 0 3 16) := rfl
theorem i_X6_clear_16 : aq_T 75 16 = some (aq_ret 0) := rfl
theorem i_X6_concatenate_0 : aq_T 76 0 = some (aq_ld 4 0 1) := rfl
theorem i_X6_concatenate_1 : aq_T 76 1 = some (aq_ld 0 1 2) := rfl
theorem i_X6_concatenate_2 : aq_T 76 2 = some (aq_call 110 2 (some 6) 5) := rfl
theorem i_X6_concatenate_5 : aq_T 76 5 = some (aq_st 4 3 6) := rfl
theorem i_X6_concatenate_6 : aq_T 76 6 = some (aq_ld 4 0 7) := rfl
theorem i_X6_concatenate_7 : aq_T 76 7 = some (aq_ld 0 2 8) := rfl
theorem i_X6_concatenate_8 : aq_T 76 8 = some (aq_call 110 2 (some 6) 11) := rfl
theorem i_X6_concatenate_11 : aq_T 76 11 = some (aq_st 4 4 13) := rfl
theorem i_X6_concatenate_13 : aq_T 76 13 = some (aq_ld 4 4 15) := rfl
theorem i_X6_concatenate_15 : aq_T 76 15 = some (aq_call 49 1 (some 5) 18) := rfl
theorem i_X6_concatenate_18 : aq_T 76 18 = some (aq_st 0 5 20) := rfl
theorem i_X6_concatenate_20 : aq_T 76 20 = some (aq_ld 4 3 21) := rfl
theorem i_X6_concatenate_21 : aq_T 76 21 = some (aq_call 49 1 (some 5) 24) := rfl
theorem i_X6_concatenate_24 : aq_T 76 24 = some (aq_ld 0 5 26) := rfl
theorem i_X6_concatenate_26 : aq_T 76 26 = some (aq_ar af_iadd 27) := rfl
theorem i_X6_concatenate_27 : aq_T 76 27 = some (aq_push (.int (40)) 29) := rfl
theorem i_X6_concatenate_29 : aq_T 76 29 = some (aq_if ai_le 42 32) := rfl
theorem i_X6_concatenate_32 : aq_T 76 32 = some (aq_thr "java/lang/IllegalStateException") := rfl
theorem i_X6_concatenate_42 : aq_T 76 42 = some (aq_push (.int (0)) 43) := rfl
theorem i_X6_concatenate_43 : aq_T 76 43 = some (aq_st 0 6 45) := rfl
theorem i_X6_concatenate_45 : aq_T 76 45 = some (aq_ld 0 6 47) := rfl
theorem i_X6_concatenate_47 : aq_T 76 47 = some (aq_ld 0 5 49) := rfl
theorem i_X6_concatenate_49 : aq_T 76 49 = some (aq_if ai_ge 70 52) := rfl
theorem i_X6_concatenate_52 : aq_T 76 52 = some (aq_ld 4 3 53) := rfl
theorem i_X6_concatenate_53 : aq_T 76 53 = some (aq_ld 4 4 55) := rfl
theorem i_X6_concatenate_55 : aq_T 76 55 = some (aq_ld 0 6 57) := rfl
theorem i_X6_concatenate_57 : aq_T 76 57 = some (aq_call 50 2 (some 5) 60) := rfl
theorem i_X6_concatenate_60 : aq_T 76 60 = some (aq_call 52 2 (some 5) 63) := rfl
theorem i_X6_concatenate_63 : aq_T 76 63 = some (aq_ar af_pop 64) := rfl
theorem i_X6_concatenate_64 : aq_T 76 64 = some (aq_inc 6 (1) 67) := rfl
theorem i_X6_concatenate_67 : aq_T 76 67 = some (aq_go 45) := rfl
theorem i_X6_concatenate_70 : aq_T 76 70 = some (aq_ld 4 3 71) := rfl
theorem i_X6_concatenate_71 : aq_T 76 71 = some (aq_call 49 1 (some 5) 74) := rfl
theorem i_X6_concatenate_74 : aq_T 76 74 = some (aq_ret 0) := rfl
theorem i_X6_reverse_0 : aq_T 77 0 = some (aq_ld 4 0 1) := rfl
theorem i_X6_reverse_1 : aq_T 77 1 = some (aq_ld 0 1 2) := rfl
theorem i_X6_reverse_2 : aq_T 77 2 = some (aq_call 110 2 (some 6) 5) := rfl
theorem i_X6_reverse_5 : aq_T 77 5 = some (aq_st 4 2 6) := rfl
theorem i_X6_reverse_6 : aq_T 77 6 = some (aq_ld 4 0 7) := rfl
theorem i_X6_reverse_7 : aq_T 77 7 = some (aq_gf 6 5 10) := rfl
theorem i_X6_reverse_10 : aq_T 77 10 = some (aq_ld 4 2 11) := rfl
theorem i_X6_reverse_11 : aq_T 77 11 = some (aq_call 54 2 (some 5) 14) := rfl
theorem i_X6_reverse_14 : aq_T 77 14 = some (aq_push (.int (0)) 15) := rfl
theorem i_X6_reverse_15 : aq_T 77 15 = some (aq_st 0 3 16) := rfl
theorem i_X6_reverse_16 : aq_T 77 16 = some (aq_ld 0 3 17) := rfl
theorem i_X6_reverse_17 : aq_T 77 17 = some (aq_ld 4 2 18) := rfl
theorem i_X6_reverse_18 : aq_T 77 18 = some (aq_call 49 1 (some 5) 21) := rfl
theorem i_X6_reverse_21 : aq_T 77 21 = some (aq_if ai_ge 50 24) := rfl
theorem i_X6_reverse_24 : aq_T 77 24 = some (aq_ld 4 2 25) := rfl
theorem i_X6_reverse_25 : aq_T 77 25 = some (aq_ld 0 3 26) := rfl
theorem i_X6_reverse_26 : aq_T 77 26 = some (aq_ld 4 0 27) := rfl
theorem i_X6_reverse_27 : aq_T 77 27 = some (aq_gf 6 5 30) := rfl
theorem i_X6_reverse_30 : aq_T 77 30 = some (aq_ld 4 2 31) := rfl
theorem i_X6_reverse_31 : aq_T 77 31 = some (aq_call 49 1 (some 5) 34) := rfl
theorem i_X6_reverse_34 : aq_T 77 34 = some (aq_push (.int (1)) 35) := rfl
theorem i_X6_reverse_35 : aq_T 77 35 = some (aq_ar af_isub 36) := rfl
theorem i_X6_reverse_36 : aq_T 77 36 = some (aq_ld 0 3 37) := rfl
theorem i_X6_reverse_37 : aq_T 77 37 = some (aq_ar af_isub 38) := rfl
theorem i_X6_reverse_38 : aq_T 77 38 = some (aq_call 50 2 (some 5) 41) := rfl
theorem i_X6_reverse_41 : aq_T 77 41 = some (aq_call 51 3 (some 5) 44) := rfl
theorem i_X6_reverse_44 : aq_T 77 44 = some (aq_inc 3 (1) 47) := rfl
theorem i_X6_reverse_47 : aq_T 77 47 = some (aq_go 16) := rfl
theorem i_X6_reverse_50 : aq_T 77 50 = some (aq_ld 4 2 51) := rfl
theorem i_X6_reverse_51 : aq_T 77 51 = some (aq_ld 4 0 52) := rfl
theorem i_X6_reverse_52 : aq_T 77 52 = some (aq_gf 6 5 55) := rfl
theorem i_X6_reverse_55 : aq_T 77 55 = some (aq_call 55 2 (some 5) 58) := rfl
theorem i_X6_reverse_58 : aq_T 77 58 = some (aq_ret 5) := rfl
theorem i_X6_rotate_0 : aq_T 78 0 = some (aq_ld 4 0 1) := rfl
theorem i_X6_rotate_1 : aq_T 78 1 = some (aq_ld 0 1 2) := rfl
theorem i_X6_rotate_2 : aq_T 78 2 = some (aq_call 110 2 (some 6) 5) := rfl
theorem i_X6_rotate_5 : aq_T 78 5 = some (aq_st 4 3 6) := rfl
theorem i_X6_rotate_6 : aq_T 78 6 = some (aq_ld 4 3 7) := rfl
theorem i_X6_rotate_7 : aq_T 78 7 = some (aq_call 49 1 (some 5) 10) := rfl
theorem i_X6_rotate_10 : aq_T 78 10 = some (aq_st 0 4 12) := rfl
theorem i_X6_rotate_12 : aq_T 78 12 = some (aq_ld 0 2 13) := rfl
theorem i_X6_rotate_13 : aq_T 78 13 = some (aq_if ai_lt0 22 16) := rfl
theorem i_X6_rotate_16 : aq_T 78 16 = some (aq_ld 0 2 17) := rfl
theorem i_X6_rotate_17 : aq_T 78 17 = some (aq_ld 0 4 19) := rfl
theorem i_X6_rotate_19 : aq_T 78 19 = some (aq_if ai_le 32 22) := rfl
theorem i_X6_rotate_22 : aq_T 78 22 = some (aq_thr "java/lang/IndexOutOfBoundsException") := rfl
theorem i_X6_rotate_32 : aq_T 78 32 = some (aq_ld 4 0 33) := rfl
theorem i_X6_rotate_33 : aq_T 78 33 = some (aq_gf 6 5 36) := rfl
theorem i_X6_rotate_36 : aq_T 78 36 = some (aq_ld 4 3 37) := rfl
theorem i_X6_rotate_37 : aq_T 78 37 = some (aq_call 54 2 (some 5) 40) := rfl
theorem i_X6_rotate_40 : aq_T 78 40 = some (aq_push (.int (0)) 41) := rfl
theorem i_X6_rotate_41 : aq_T 78 41 = some (aq_st 0 5 43) := rfl
theorem i_X6_rotate_43 : aq_T 78 43 = some (aq_ld 0 5 45) := rfl
theorem i_X6_rotate_45 : aq_T 78 45 = some (aq_ld 0 4 47) := rfl
theorem i_X6_rotate_47 : aq_T 78 47 = some (aq_if ai_ge 92 50) := rfl
theorem i_X6_rotate_50 : aq_T 78 50 = some (aq_ld 4 3 51) := rfl
theorem i_X6_rotate_51 : aq_T 78 51 = some (aq_ld 0 5 53) := rfl
theorem i_X6_rotate_53 : aq_T 78 53 = some (aq_ld 4 0 54) := rfl
theorem i_X6_rotate_54 : aq_T 78 54 = some (aq_gf 6 5 57) := rfl
theorem i_X6_rotate_57 : aq_T 78 57 = some (aq_ld 0 5 59) := rfl
theorem i_X6_rotate_59 : aq_T 78 59 = some (aq_ld 0 2 60) := rfl
theorem i_X6_rotate_60 : aq_T 78 60 = some (aq_ar af_iadd 61) := rfl
theorem i_X6_rotate_61 : aq_T 78 61 = some (aq_ld 0 4 63) := rfl
theorem i_X6_rotate_63 : aq_T 78 63 = some (aq_if ai_ge 73 66) := rfl
theorem i_X6_rotate_66 : aq_T 78 66 = some (aq_ld 0 5 68) := rfl
theorem i_X6_rotate_68 : aq_T 78 68 = some (aq_ld 0 2 69) := rfl
theorem i_X6_rotate_69 : aq_T 78 69 = some (aq_ar af_iadd 70) := rfl
theorem i_X6_rotate_70 : aq_T 78 70 = some (aq_go 80) := rfl
theorem i_X6_rotate_73 : aq_T 78 73 = some (aq_ld 0 5 75) := rfl
theorem i_X6_rotate_75 : aq_T 78 75 = some (aq_ld 0 2 76) := rfl
theorem i_X6_rotate_76 : aq_T 78 76 = some (aq_ar af_iadd 77) := rfl
theorem i_X6_rotate_77 : aq_T 78 77 = some (aq_ld 0 4 79) := rfl
theorem i_X6_rotate_79 : aq_T 78 79 = some (aq_ar af_isub 80) := rfl
theorem i_X6_rotate_80 : aq_T 78 80 = some (aq_call 50 2 (some 5) 83) := rfl
theorem i_X6_rotate_83 : aq_T 78 83 = some (aq_call 51 3 (some 5) 86) := rfl
theorem i_X6_rotate_86 : aq_T 78 86 = some (aq_inc 5 (1) 89) := rfl
theorem i_X6_rotate_89 : aq_T 78 89 = some (aq_go 43) := rfl
theorem i_X6_rotate_92 : aq_T 78 92 = some (aq_ld 4 3 93) := rfl
theorem i_X6_rotate_93 : aq_T 78 93 = some (aq_ld 4 0 94) := rfl
theorem i_X6_rotate_94 : aq_T 78 94 = some (aq_gf 6 5 97) := rfl
theorem i_X6_rotate_97 : aq_T 78 97 = some (aq_call 55 2 (some 5) 100) := rfl
theorem i_X6_rotate_100 : aq_T 78 100 = some (aq_ret 5) := rfl
theorem i_X6_holes_0 : aq_T 79 0 = some (aq_ld 4 0 1) := rfl
theorem i_X6_holes_1 : aq_T 79 1 = some (aq_ld 0 1 2) := rfl
theorem i_X6_holes_2 : aq_T 79 2 = some (aq_call 110 2 (some 6) 5) := rfl
theorem i_X6_holes_5 : aq_T 79 5 = some (aq_call 57 1 (some 5) 8) := rfl
theorem i_X6_holes_8 : aq_T 79 8 = some (aq_ret 0) := rfl
theorem i_X6_isCompatible_0 : aq_T 80 0 = some (aq_ld 4 0 1) := rfl
theorem i_X6_isCompatible_1 : aq_T 80 1 = some (aq_ld 0 1 2) := rfl
theorem i_X6_isCompatible_2 : aq_T 80 2 = some (aq_call 110 2 (some 6) 5) := rfl
theorem i_X6_isCompatible_5 : aq_T 80 5 = some (aq_ld 4 0 6) := rfl
theorem i_X6_isCompatible_6 : aq_T 80 6 = some (aq_ld 0 2 7) := rfl
theorem i_X6_isCompatible_7 : aq_T 80 7 = some (aq_call 110 2 (some 6) 10) := rfl
theorem i_X6_isCompatible_10 : aq_T 80 10 = some (aq_call 58 2 (some 5) 13) := rfl
theorem i_X6_isCompatible_13 : aq_T 80 13 = some (aq_ret 5) := rfl
theorem i_X6_isContained_0 : aq_T 81 0 = some (aq_ld 4 0 1) := rfl
theorem i_X6_isContained_1 : aq_T 81 1 = some (aq_ld 0 1 2) := rfl
theorem i_X6_isContained_2 : aq_T 81 2 = some (aq_call 110 2 (some 6) 5) := rfl
theorem i_X6_isContained_5 : aq_T 81 5 = some (aq_st 4 3 6) := rfl
theorem i_X6_isContained_6 : aq_T 81 6 = some (aq_ld 4 0 7) := rfl
theorem i_X6_isContained_7 : aq_T 81 7 = some (aq_ld 0 2 8) := rfl
theorem i_X6_isContained_8 : aq_T 81 8 = some (aq_call 110 2 (some 6) 11) := rfl
theorem i_X6_isContained_11 : aq_T 81 11 = some (aq_st 4 4 13) := rfl
theorem i_X6_isContained_13 : aq_T 81 13 = some (aq_ld 4 3 14) := rfl
theorem i_X6_isContained_14 : aq_T 81 14 = some (aq_call 49 1 (some 5) 17) := rfl
theorem i_X6_isContained_17 : aq_T 81 17 = some (aq_ld 4 4 19) := rfl
theorem i_X6_isContained_19 : aq_T 81 19 = some (aq_call 49 1 (some 5) 22) := rfl
theorem i_X6_isContained_22 : aq_T 81 22 = some (aq_if ai_eq 27 25) := rfl
theorem i_X6_isContained_25 : aq_T 81 25 = some (aq_push (.int (0)) 26) := rfl
theorem i_X6_isContained_26 : aq_T 81 26 = some (aq_ret 5) := rfl
theorem i_X6_isContained_27 : aq_T 81 27 = some (aq_push (.int (0)) 28) := rfl
theorem i_X6_isContained_28 : aq_T 81 28 = some (aq_st 0 5 30) := rfl
theorem i_X6_isContained_30 : aq_T 81 30 = some (aq_ld 0 5 32) := rfl
theorem i_X6_isContained_32 : aq_T 81 32 = some (aq_ld 4 3 33) := rfl
theorem i_X6_isContained_33 : aq_T 81 33 = some (aq_call 49 1 (some 5) 36) := rfl
theorem i_X6_isContained_36 : aq_T 81 36 = some (aq_if ai_ge 73 39) := rfl
theorem i_X6_isContained_39 : aq_T 81 39 = some (aq_ld 4 3 40) := rfl
theorem i_X6_isContained_40 : aq_T 81 40 = some (aq_ld 0 5 42) := rfl
theorem i_X6_isContained_42 : aq_T 81 42 = some (aq_call 50 2 (some 5) 45) := rfl
theorem i_X6_isContained_45 : aq_T 81 45 = some (aq_push (.int (-1)) 46) := rfl
theorem i_X6_isContained_46 : aq_T 81 46 = some (aq_if ai_eq 67 49) := rfl
theorem i_X6_isContained_49 : aq_T 81 49 = some (aq_ld 4 3 50) := rfl
theorem i_X6_isContained_50 : aq_T 81 50 = some (aq_ld 0 5 52) := rfl
theorem i_X6_isContained_52 : aq_T 81 52 = some (aq_call 50 2 (some 5) 55) := rfl
theorem i_X6_isContained_55 : aq_T 81 55 = some (aq_ld 4 4 57) := rfl
theorem i_X6_isContained_57 : aq_T 81 57 = some (aq_ld 0 5 59) := rfl
theorem i_X6_isContained_59 : aq_T 81 59 = some (aq_call 50 2 (some 5) 62) := rfl
theorem i_X6_isContained_62 : aq_T 81 62 = some (aq_if ai_eq 67 65) := rfl
theorem i_X6_isContained_65 : aq_T 81 65 = some (aq_push (.int (0)) 66) := rfl
theorem i_X6_isContained_66 : aq_T 81 66 = some (aq_ret 5) := rfl
theorem i_X6_isContained_67 : aq_T 81 67 = some (aq_inc 5 (1) 70) := rfl
theorem i_X6_isContained_70 : aq_T 81 70 = some (aq_go 30) := rfl
theorem i_X6_isContained_73 : aq_T 81 73 = some (aq_push (.int (1)) 74) := rfl
theorem i_X6_isContained_74 : aq_T 81 74 = some (aq_ret 5) := rfl
theorem i_X6_conflict_0 : aq_T 82 0 = some (aq_ld 4 0 1) := rfl
theorem i_X6_conflict_1 : aq_T 82 1 = some (aq_ld 0 1 2) := rfl
theorem i_X6_conflict_2 : aq_T 82 2 = some (aq_call 110 2 (some 6) 5) := rfl
theorem i_X6_conflict_5 : aq_T 82 5 = some (aq_st 4 3 6) := rfl
theorem i_X6_conflict_6 : aq_T 82 6 = some (aq_ld 4 0 7) := rfl
theorem i_X6_conflict_7 : aq_T 82 7 = some (aq_ld 0 2 8) := rfl
theorem i_X6_conflict_8 : aq_T 82 8 = some (aq_call 110 2 (some 6) 11) := rfl
theorem i_X6_conflict_11 : aq_T 82 11 = some (aq_st 4 4 13) := rfl
theorem i_X6_conflict_13 : aq_T 82 13 = some (aq_ld 4 3 14) := rfl
theorem i_X6_conflict_14 : aq_T 82 14 = some (aq_call 49 1 (some 5) 17) := rfl
theorem i_X6_conflict_17 : aq_T 82 17 = some (aq_ld 4 4 19) := rfl
theorem i_X6_conflict_19 : aq_T 82 19 = some (aq_call 49 1 (some 5) 22) := rfl
theorem i_X6_conflict_22 : aq_T 82 22 = some (aq_if ai_eq 35 25) := rfl
theorem i_X6_conflict_25 : aq_T 82 25 = some (aq_thr "java/lang/IllegalStateException") := rfl
theorem i_X6_conflict_35 : aq_T 82 35 = some (aq_push (.int (0)) 36) := rfl
theorem i_X6_conflict_36 : aq_T 82 36 = some (aq_st 0 5 38) := rfl
theorem i_X6_conflict_38 : aq_T 82 38 = some (aq_ld 0 5 40) := rfl
theorem i_X6_conflict_40 : aq_T 82 40 = some (aq_ld 4 3 41) := rfl
theorem i_X6_conflict_41 : aq_T 82 41 = some (aq_call 49 1 (some 5) 44) := rfl
theorem i_X6_conflict_44 : aq_T 82 44 = some (aq_if ai_ge 75 47) := rfl
theorem i_X6_conflict_47 : aq_T 82 47 = some (aq_ld 4 3 48) := rfl
theorem i_X6_conflict_48 : aq_T 82 48 = some (aq_ld 0 5 50) := rfl
theorem i_X6_conflict_50 : aq_T 82 50 = some (aq_call 50 2 (some 5) 53) := rfl
theorem i_X6_conflict_53 : aq_T 82 53 = some (aq_ld 4 4 55) := rfl
theorem i_X6_conflict_55 : aq_T 82 55 = some (aq_ld 0 5 57) := rfl
theorem i_X6_conflict_57 : aq_T 82 57 = some (aq_call 50 2 (some 5) 60) := rfl
theorem i_X6_conflict_60 : aq_T 82 60 = some (aq_call 116 2 none 63) := rfl
theorem i_X6_conflict_63 : aq_T 82 63 = some (aq_if ai_eq0 69 66) := rfl
theorem i_X6_conflict_66 : aq_T 82 66 = some (aq_ld 0 5 68) := rfl
theorem i_X6_conflict_68 : aq_T 82 68 = some (aq_ret 0) := rfl
theorem i_X6_conflict_69 : aq_T 82 69 = some (aq_inc 5 (1) 72) := rfl
theorem i_X6_conflict_72 : aq_T 82 72 = some (aq_go 38) := rfl
theorem i_X6_conflict_75 : aq_T 82 75 = some (aq_push (.int (-1)) 76) := rfl
theorem i_X6_conflict_76 : aq_T 82 76 = some (aq_ret 0) := rfl
theorem i_X6_join_0 : aq_T 83 0 = some (aq_ld 4 0 1) := rfl
theorem i_X6_join_1 : aq_T 83 1 = some (aq_ld 0 1 2) := rfl
theorem i_X6_join_2 : aq_T 83 2 = some (aq_call 110 2 (some 6) 5) := rfl
theorem i_X6_join_5 : aq_T 83 5 = some (aq_st 4 4 7) := rfl
theorem i_X6_join_7 : aq_T 83 7 = some (aq_ld 4 0 8) := rfl
theorem i_X6_join_8 : aq_T 83 8 = some (aq_ld 0 2 9) := rfl
theorem i_X6_join_9 : aq_T 83 9 = some (aq_call 110 2 (some 6) 12) := rfl
theorem i_X6_join_12 : aq_T 83 12 = some (aq_st 4 5 14) := rfl
theorem i_X6_join_14 : aq_T 83 14 = some (aq_ld 4 0 15) := rfl
theorem i_X6_join_15 : aq_T 83 15 = some (aq_ld 0 3 16) := rfl
theorem i_X6_join_16 : aq_T 83 16 = some (aq_call 110 2 (some 6) 19) := rfl
theorem i_X6_join_19 : aq_T 83 19 = some (aq_st 4 6 21) := rfl
theorem i_X6_join_21 : aq_T 83 21 = some (aq_ld 4 4 23) := rfl
theorem i_X6_join_23 : aq_T 83 23 = some (aq_ld 4 5 25) := rfl
theorem i_X6_join_25 : aq_T 83 25 = some (aq_call 58 2 (some 5) 28) := rfl
theorem i_X6_join_28 : aq_T 83 28 = some (aq_if ai_ne0 41 31) := rfl
theorem i_X6_join_31 : aq_T 83 31 = some (aq_thr "java/lang/IllegalStateException") := rfl
theorem i_X6_join_41 : aq_T 83 41 = some (aq_ld 4 0 42) := rfl
theorem i_X6_join_42 : aq_T 83 42 = some (aq_gf 6 5 45) := rfl
theorem i_X6_join_45 : aq_T 83 45 = some (aq_ld 4 4 47) := rfl
theorem i_X6_join_47 : aq_T 83 47 = some (aq_call 54 2 (some 5) 50) := rfl
theorem i_X6_join_50 : aq_T 83 50 = some (aq_push (.int (0)) 51) := rfl
theorem i_X6_join_51 : aq_T 83 51 = some (aq_st 0 7 53) := rfl
theorem i_X6_join_53 : aq_T 83 53 = some (aq_ld 0 7 55) := rfl
theorem i_X6_join_55 : aq_T 83 55 = some (aq_ld 4 0 56) := rfl
theorem i_X6_join_56 : aq_T 83 56 = some (aq_gf 6 5 59) := rfl
theorem i_X6_join_59 : aq_T 83 59 = some (aq_call 49 1 (some 5) 62) := rfl
theorem i_X6_join_62 : aq_T 83 62 = some (aq_if ai_ge 100 65) := rfl
theorem i_X6_join_65 : aq_T 83 65 = some (aq_ld 4 0 66) := rfl
theorem i_X6_join_66 : aq_T 83 66 = some (aq_gf 6 5 69) := rfl
theorem i_X6_join_69 : aq_T 83 69 = some (aq_ld 0 7 71) := rfl
theorem i_X6_join_71 : aq_T 83 71 = some (aq_call 50 2 (some 5) 74) := rfl
theorem i_X6_join_74 : aq_T 83 74 = some (aq_push (.int (-1)) 75) := rfl
theorem i_X6_join_75 : aq_T 83 75 = some (aq_if ai_ne 94 78) := rfl
theorem i_X6_join_78 : aq_T 83 78 = some (aq_ld 4 0 79) := rfl
theorem i_X6_join_79 : aq_T 83 79 = some (aq_gf 6 5 82) := rfl
theorem i_X6_join_82 : aq_T 83 82 = some (aq_ld 0 7 84) := rfl
theorem i_X6_join_84 : aq_T 83 84 = some (aq_ld 4 5 86) := rfl
theorem i_X6_join_86 : aq_T 83 86 = some (aq_ld 0 7 88) := rfl
theorem i_X6_join_88 : aq_T 83 88 = some (aq_call 50 2 (some 5) 91) := rfl
theorem i_X6_join_91 : aq_T 83 91 = some (aq_call 51 3 (some 5) 94) := rfl
theorem i_X6_join_94 : aq_T 83 94 = some (aq_inc 7 (1) 97) := rfl
theorem i_X6_join_97 : aq_T 83 97 = some (aq_go 53) := rfl
theorem i_X6_join_100 : aq_T 83 100 = some (aq_ld 4 6 102) := rfl
theorem i_X6_join_102 : aq_T 83 102 = some (aq_ld 4 0 103) := rfl
theorem i_X6_join_103 : aq_T 83 103 = some (aq_gf 6 5 106) := rfl
theorem i_X6_join_106 : aq_T 83 106 = some (aq_call 54 2 (some 5) 109) := rfl
theorem i_X6_join_109 : aq_T 83 109 = some (aq_ld 4 6 111) := rfl
theorem i_X6_join_111 : aq_T 83 111 = some (aq_call 57 1 (some 5) 114) := rfl
theorem i_X6_join_114 : aq_T 83 114 = some (aq_ret 0) := rfl
theorem i_X6_isPeriod_0 : aq_T 84 0 = some (aq_ld 4 0 1) := rfl
theorem i_X6_isPeriod_1 : aq_T 84 1 = some (aq_ld 0 1 2) := rfl
theorem i_X6_isPeriod_2 : aq_T 84 2 = some (aq_call 110 2 (some 6) 5) := rfl
theorem i_X6_isPeriod_5 : aq_T 84 5 = some (aq_st 4 4 7) := rfl
theorem i_X6_isPeriod_7 : aq_T 84 7 = some (aq_ld 0 2 8) := rfl
theorem i_X6_isPeriod_8 : aq_T 84 8 = some (aq_push (.int (1)) 9) := rfl
theorem i_X6_isPeriod_9 : aq_T 84 9 = some (aq_if ai_lt 21 12) := rfl
theorem i_X6_isPeriod_12 : aq_T 84 12 = some (aq_ld 0 2 13) := rfl
theorem i_X6_isPeriod_13 : aq_T 84 13 = some (aq_ld 4 4 15) := rfl
theorem i_X6_isPeriod_15 : aq_T 84 15 = some (aq_call 49 1 (some 5) 18) := rfl
theorem i_X6_isPeriod_18 : aq_T 84 18 = some (aq_if ai_le 31 21) := rfl
theorem i_X6_isPeriod_21 : aq_T 84 21 = some (aq_thr "java/lang/IllegalArgumentException") := rfl
theorem i_X6_isPeriod_31 : aq_T 84 31 = some (aq_ld 4 4 33) := rfl
theorem i_X6_isPeriod_33 : aq_T 84 33 = some (aq_ld 0 2 34) := rfl
theorem i_X6_isPeriod_34 : aq_T 84 34 = some (aq_ld 0 3 35) := rfl
theorem i_X6_isPeriod_35 : aq_T 84 35 = some (aq_call 62 3 (some 5) 38) := rfl
theorem i_X6_isPeriod_38 : aq_T 84 38 = some (aq_ret 5) := rfl
theorem i_X6_smallestPeriod_0 : aq_T 85 0 = some (aq_ld 4 0 1) := rfl
theorem i_X6_smallestPeriod_1 : aq_T 85 1 = some (aq_ld 0 1 2) := rfl
theorem i_X6_smallestPeriod_2 : aq_T 85 2 = some (aq_call 110 2 (some 6) 5) := rfl
theorem i_X6_smallestPeriod_5 : aq_T 85 5 = some (aq_st 4 3 6) := rfl
theorem i_X6_smallestPeriod_6 : aq_T 85 6 = some (aq_ld 4 3 7) := rfl
theorem i_X6_smallestPeriod_7 : aq_T 85 7 = some (aq_call 49 1 (some 5) 10) := rfl
theorem i_X6_smallestPeriod_10 : aq_T 85 10 = some (aq_if ai_ne0 23 13) := rfl
theorem i_X6_smallestPeriod_13 : aq_T 85 13 = some (aq_thr "java/util/NoSuchElementException") := rfl
theorem i_X6_smallestPeriod_23 : aq_T 85 23 = some (aq_ld 4 3 24) := rfl
theorem i_X6_smallestPeriod_24 : aq_T 85 24 = some (aq_ld 0 2 25) := rfl
theorem i_X6_smallestPeriod_25 : aq_T 85 25 = some (aq_call 64 2 (some 5) 28) := rfl
theorem i_X6_smallestPeriod_28 : aq_T 85 28 = some (aq_ret 0) := rfl
theorem i_X6_periodBound_0 : aq_T 86 0 = some (aq_ld 0 1 1) := rfl
theorem i_X6_periodBound_1 : aq_T 86 1 = some (aq_push (.int (1)) 2) := rfl
theorem i_X6_periodBound_2 : aq_T 86 2 = some (aq_if ai_lt 33 5) := rfl
theorem i_X6_periodBound_5 : aq_T 86 5 = some (aq_ld 0 1 6) := rfl
theorem i_X6_periodBound_6 : aq_T 86 6 = some (aq_push (.int (1000)) 9) := rfl
theorem i_X6_periodBound_9 : aq_T 86 9 = some (aq_if ai_gt 33 12) := rfl
theorem i_X6_periodBound_12 : aq_T 86 12 = some (aq_ld 0 2 13) := rfl
theorem i_X6_periodBound_13 : aq_T 86 13 = some (aq_push (.int (1)) 14) := rfl
theorem i_X6_periodBound_14 : aq_T 86 14 = some (aq_if ai_lt 33 17) := rfl
theorem i_X6_periodBound_17 : aq_T 86 17 = some (aq_ld 0 2 18) := rfl
theorem i_X6_periodBound_18 : aq_T 86 18 = some (aq_push (.int (1000)) 21) := rfl
theorem i_X6_periodBound_21 : aq_T 86 21 = some (aq_if ai_gt 33 24) := rfl
theorem i_X6_periodBound_24 : aq_T 86 24 = some (aq_ld 0 3 25) := rfl
theorem i_X6_periodBound_25 : aq_T 86 25 = some (aq_if ai_lt0 33 28) := rfl
theorem i_X6_periodBound_28 : aq_T 86 28 = some (aq_ld 0 3 29) := rfl
theorem i_X6_periodBound_29 : aq_T 86 29 = some (aq_push (.int (1)) 30) := rfl
theorem i_X6_periodBound_30 : aq_T 86 30 = some (aq_if ai_le 43 33) := rfl
theorem i_X6_periodBound_33 : aq_T 86 33 = some (aq_thr "java/lang/IllegalArgumentException") := rfl
theorem i_X6_periodBound_43 : aq_T 86 43 = some (aq_ld 0 3 44) := rfl
theorem i_X6_periodBound_44 : aq_T 86 44 = some (aq_push (.int (1)) 45) := rfl
theorem i_X6_periodBound_45 : aq_T 86 45 = some (aq_if ai_ne 54 48) := rfl
theorem i_X6_periodBound_48 : aq_T 86 48 = some (aq_ld 0 1 49) := rfl
theorem i_X6_periodBound_49 : aq_T 86 49 = some (aq_ld 0 2 50) := rfl
theorem i_X6_periodBound_50 : aq_T 86 50 = some (aq_ar af_iadd 51) := rfl
theorem i_X6_periodBound_51 : aq_T 86 51 = some (aq_go 63) := rfl
theorem i_X6_periodBound_54 : aq_T 86 54 = some (aq_ld 0 1 55) := rfl
theorem i_X6_periodBound_55 : aq_T 86 55 = some (aq_ld 0 2 56) := rfl
theorem i_X6_periodBound_56 : aq_T 86 56 = some (aq_ar af_iadd 57) := rfl
theorem i_X6_periodBound_57 : aq_T 86 57 = some (aq_ld 0 1 58) := rfl
theorem i_X6_periodBound_58 : aq_T 86 58 = some (aq_ld 0 2 59) := rfl
theorem i_X6_periodBound_59 : aq_T 86 59 = some (aq_call 117 2 none 62) := rfl
theorem i_X6_periodBound_62 : aq_T 86 62 = some (aq_ar af_isub 63) := rfl
theorem i_X6_periodBound_63 : aq_T 86 63 = some (aq_ret 0) := rfl
theorem i_X6_longestBorder_0 : aq_T 87 0 = some (aq_ld 4 0 1) := rfl
theorem i_X6_longestBorder_1 : aq_T 87 1 = some (aq_ld 0 1 2) := rfl
theorem i_X6_longestBorder_2 : aq_T 87 2 = some (aq_call 110 2 (some 6) 5) := rfl
theorem i_X6_longestBorder_5 : aq_T 87 5 = some (aq_st 4 2 6) := rfl
theorem i_X6_longestBorder_6 : aq_T 87 6 = some (aq_ld 4 2 7) := rfl
theorem i_X6_longestBorder_7 : aq_T 87 7 = some (aq_call 49 1 (some 5) 10) := rfl
theorem i_X6_longestBorder_10 : aq_T 87 10 = some (aq_ld 4 2 11) := rfl
theorem i_X6_longestBorder_11 : aq_T 87 11 = some (aq_push (.int (1)) 12) := rfl
theorem i_X6_longestBorder_12 : aq_T 87 12 = some (aq_call 64 2 (some 5) 15) := rfl
theorem i_X6_longestBorder_15 : aq_T 87 15 = some (aq_ar af_isub 16) := rfl
theorem i_X6_longestBorder_16 : aq_T 87 16 = some (aq_ret 0) := rfl
theorem i_X6_isPrimitive_0 : aq_T 88 0 = some (aq_ld 4 0 1) := rfl
theorem i_X6_isPrimitive_1 : aq_T 88 1 = some (aq_ld 0 1 2) := rfl
theorem i_X6_isPrimitive_2 : aq_T 88 2 = some (aq_call 110 2 (some 6) 5) := rfl
theorem i_X6_isPrimitive_5 : aq_T 88 5 = some (aq_st 4 2 6) := rfl
theorem i_X6_isPrimitive_6 : aq_T 88 6 = some (aq_ld 4 2 7) := rfl
theorem i_X6_isPrimitive_7 : aq_T 88 7 = some (aq_call 49 1 (some 5) 10) := rfl
theorem i_X6_isPrimitive_10 : aq_T 88 10 = some (aq_if ai_le0 25 13) := rfl
theorem i_X6_isPrimitive_13 : aq_T 88 13 = some (aq_ld 4 2 14) := rfl
theorem i_X6_isPrimitive_14 : aq_T 88 14 = some (aq_call 65 1 (some 5) 17) := rfl
theorem i_X6_isPrimitive_17 : aq_T 88 17 = some (aq_push (.int (1)) 18) := rfl
theorem i_X6_isPrimitive_18 : aq_T 88 18 = some (aq_if ai_ne 25 21) := rfl
theorem i_X6_isPrimitive_21 : aq_T 88 21 = some (aq_push (.int (1)) 22) := rfl
theorem i_X6_isPrimitive_22 : aq_T 88 22 = some (aq_go 26) := rfl
theorem i_X6_isPrimitive_25 : aq_T 88 25 = some (aq_push (.int (0)) 26) := rfl
theorem i_X6_isPrimitive_26 : aq_T 88 26 = some (aq_ret 5) := rfl
theorem i_X6_exponent_0 : aq_T 89 0 = some (aq_ld 4 0 1) := rfl
theorem i_X6_exponent_1 : aq_T 89 1 = some (aq_ld 0 1 2) := rfl
theorem i_X6_exponent_2 : aq_T 89 2 = some (aq_call 110 2 (some 6) 5) := rfl
theorem i_X6_exponent_5 : aq_T 89 5 = some (aq_st 4 2 6) := rfl
theorem i_X6_exponent_6 : aq_T 89 6 = some (aq_ld 4 2 7) := rfl
theorem i_X6_exponent_7 : aq_T 89 7 = some (aq_call 49 1 (some 5) 10) := rfl
theorem i_X6_exponent_10 : aq_T 89 10 = some (aq_if ai_ne0 23 13) := rfl
theorem i_X6_exponent_13 : aq_T 89 13 = some (aq_thr "java/util/NoSuchElementException") := rfl
theorem i_X6_exponent_23 : aq_T 89 23 = some (aq_ld 4 2 24) := rfl
theorem i_X6_exponent_24 : aq_T 89 24 = some (aq_call 65 1 (some 5) 27) := rfl
theorem i_X6_exponent_27 : aq_T 89 27 = some (aq_ret 0) := rfl
theorem i_X6_completionCount_0 : aq_T 90 0 = some (aq_ld 4 0 1) := rfl
theorem i_X6_completionCount_1 : aq_T 90 1 = some (aq_ld 0 1 2) := rfl
theorem i_X6_completionCount_2 : aq_T 90 2 = some (aq_call 110 2 (some 6) 5) := rfl
theorem i_X6_completionCount_5 : aq_T 90 5 = some (aq_ld 4 0 6) := rfl
theorem i_X6_completionCount_6 : aq_T 90 6 = some (aq_gf 6 0 9) := rfl
theorem i_X6_completionCount_9 : aq_T 90 9 = some (aq_gf 2 2 12) := rfl
theorem i_X6_completionCount_12 : aq_T 90 12 = some (aq_call 119 2 none 15) := rfl
theorem i_X6_completionCount_15 : aq_T 90 15 = some (aq_st 1 2 16) := rfl
theorem i_X6_completionCount_16 : aq_T 90 16 = some (aq_ld 1 2 17) := rfl
theorem i_X6_completionCount_17 : aq_T 90 17 = some (aq_push (.long (-1)) 20) := rfl
theorem i_X6_completionCount_20 : aq_T 90 20 = some (aq_ar af_lcmp 21) := rfl
theorem i_X6_completionCount_21 : aq_T 90 21 = some (aq_if ai_ne0 34 24) := rfl
theorem i_X6_completionCount_24 : aq_T 90 24 = some (aq_thr "java/lang/ArithmeticException") := rfl
theorem i_X6_completionCount_34 : aq_T 90 34 = some (aq_ld 1 2 35) := rfl
theorem i_X6_completionCount_35 : aq_T 90 35 = some (aq_ret 1) := rfl
theorem i_X6_complete_0 : aq_T 91 0 = some (aq_ld 4 0 1) := rfl
theorem i_X6_complete_1 : aq_T 91 1 = some (aq_ld 0 1 2) := rfl
theorem i_X6_complete_2 : aq_T 91 2 = some (aq_call 110 2 (some 6) 5) := rfl
theorem i_X6_complete_5 : aq_T 91 5 = some (aq_st 4 5 7) := rfl
theorem i_X6_complete_7 : aq_T 91 7 = some (aq_ld 4 0 8) := rfl
theorem i_X6_complete_8 : aq_T 91 8 = some (aq_ld 0 4 10) := rfl
theorem i_X6_complete_10 : aq_T 91 10 = some (aq_call 110 2 (some 6) 13) := rfl
theorem i_X6_complete_13 : aq_T 91 13 = some (aq_st 4 6 15) := rfl
theorem i_X6_complete_15 : aq_T 91 15 = some (aq_ld 4 5 17) := rfl
theorem i_X6_complete_17 : aq_T 91 17 = some (aq_ld 4 0 18) := rfl
theorem i_X6_complete_18 : aq_T 91 18 = some (aq_gf 6 0 21) := rfl
theorem i_X6_complete_21 : aq_T 91 21 = some (aq_gf 2 2 24) := rfl
theorem i_X6_complete_24 : aq_T 91 24 = some (aq_call 119 2 none 27) := rfl
theorem i_X6_complete_27 : aq_T 91 27 = some (aq_st 1 7 29) := rfl
theorem i_X6_complete_29 : aq_T 91 29 = some (aq_ld 1 7 31) := rfl
theorem i_X6_complete_31 : aq_T 91 31 = some (aq_push (.long (-1)) 34) := rfl
theorem i_X6_complete_34 : aq_T 91 34 = some (aq_ar af_lcmp 35) := rfl
theorem i_X6_complete_35 : aq_T 91 35 = some (aq_if ai_ne0 48 38) := rfl
theorem i_X6_complete_38 : aq_T 91 38 = some (aq_thr "java/lang/ArithmeticException") := rfl
theorem i_X6_complete_48 : aq_T 91 48 = some (aq_ld 1 2 49) := rfl
theorem i_X6_complete_49 : aq_T 91 49 = some (aq_push (.long 0) 50) := rfl
theorem i_X6_complete_50 : aq_T 91 50 = some (aq_ar af_lcmp 51) := rfl
theorem i_X6_complete_51 : aq_T 91 51 = some (aq_if ai_lt0 61 54) := rfl
theorem i_X6_complete_54 : aq_T 91 54 = some (aq_ld 1 2 55) := rfl
theorem i_X6_complete_55 : aq_T 91 55 = some (aq_ld 1 7 57) := rfl
theorem i_X6_complete_57 : aq_T 91 57 = some (aq_ar af_lcmp 58) := rfl
theorem i_X6_complete_58 : aq_T 91 58 = some (aq_if ai_lt0 71 61) := rfl
theorem i_X6_complete_61 : aq_T 91 61 = some (aq_thr "java/util/NoSuchElementException") := rfl
theorem i_X6_complete_71 : aq_T 91 71 = some (aq_ld 4 6 73) := rfl
theorem i_X6_complete_73 : aq_T 91 73 = some (aq_ld 4 5 75) := rfl
theorem i_X6_complete_75 : aq_T 91 75 = some (aq_call 54 2 (some 5) 78) := rfl
theorem i_X6_complete_78 : aq_T 91 78 = some (aq_ld 4 6 80) := rfl
theorem i_X6_complete_80 : aq_T 91 80 = some (aq_ld 1 2 81) := rfl
theorem i_X6_complete_81 : aq_T 91 81 = some (aq_ld 4 0 82) := rfl
theorem i_X6_complete_82 : aq_T 91 82 = some (aq_gf 6 0 85) := rfl
theorem i_X6_complete_85 : aq_T 91 85 = some (aq_gf 2 2 88) := rfl
theorem i_X6_complete_88 : aq_T 91 88 = some (aq_call 120 3 none 91) := rfl
theorem i_X6_complete_91 : aq_T 91 91 = some (aq_ld 4 6 93) := rfl
theorem i_X6_complete_93 : aq_T 91 93 = some (aq_call 49 1 (some 5) 96) := rfl
theorem i_X6_complete_96 : aq_T 91 96 = some (aq_ret 0) := rfl
theorem i_X6_primitiveCompletions_0 : aq_T 92 0 = some (aq_ld 4 0 1) := rfl
theorem i_X6_primitiveCompletions_1 : aq_T 92 1 = some (aq_ld 0 1 2) := rfl
theorem i_X6_primitiveCompletions_2 : aq_T 92 2 = some (aq_call 110 2 (some 6) 5) := rfl
theorem i_X6_primitiveCompletions_5 : aq_T 92 5 = some (aq_st 4 2 6) := rfl
theorem i_X6_primitiveCompletions_6 : aq_T 92 6 = some (aq_ld 4 2 7) := rfl
theorem i_X6_primitiveCompletions_7 : aq_T 92 7 = some (aq_call 57 1 (some 5) 10) := rfl
theorem i_X6_primitiveCompletions_10 : aq_T 92 10 = some (aq_push (.int (7)) 12) := rfl
theorem i_X6_primitiveCompletions_12 : aq_T 92 12 = some (aq_if ai_le 25 15) := rfl
theorem i_X6_primitiveCompletions_15 : aq_T 92 15 = some (aq_thr "java/lang/IllegalStateException") := rfl
theorem i_X6_primitiveCompletions_25 : aq_T 92 25 = some (aq_ld 4 2 26) := rfl
theorem i_X6_primitiveCompletions_26 : aq_T 92 26 = some (aq_call 49 1 (some 5) 29) := rfl
theorem i_X6_primitiveCompletions_29 : aq_T 92 29 = some (aq_st 0 3 30) := rfl
theorem i_X6_primitiveCompletions_30 : aq_T 92 30 = some (aq_push (.int (0)) 31) := rfl
theorem i_X6_primitiveCompletions_31 : aq_T 92 31 = some (aq_st 0 4 33) := rfl
theorem i_X6_primitiveCompletions_33 : aq_T 92 33 = some (aq_push (.int (1)) 34) := rfl
theorem i_X6_primitiveCompletions_34 : aq_T 92 34 = some (aq_st 0 5 36) := rfl
theorem i_X6_primitiveCompletions_36 : aq_T 92 36 = some (aq_ld 0 5 38) := rfl
theorem i_X6_primitiveCompletions_38 : aq_T 92 38 = some (aq_ld 0 3 39) := rfl
theorem i_X6_primitiveCompletions_39 : aq_T 92 39 = some (aq_if ai_gt 81 42) := rfl
theorem i_X6_primitiveCompletions_42 : aq_T 92 42 = some (aq_ld 0 3 43) := rfl
theorem i_X6_primitiveCompletions_43 : aq_T 92 43 = some (aq_ld 0 5 45) := rfl
theorem i_X6_primitiveCompletions_45 : aq_T 92 45 = some (aq_arc ac_irem 46) := rfl
theorem i_X6_primitiveCompletions_46 : aq_T 92 46 = some (aq_if ai_ne0 75 49) := rfl
theorem i_X6_primitiveCompletions_49 : aq_T 92 49 = some (aq_ld 0 4 51) := rfl
theorem i_X6_primitiveCompletions_51 : aq_T 92 51 = some (aq_ld 0 3 52) := rfl
theorem i_X6_primitiveCompletions_52 : aq_T 92 52 = some (aq_ld 0 5 54) := rfl
theorem i_X6_primitiveCompletions_54 : aq_T 92 54 = some (aq_arc ac_idiv 55) := rfl
theorem i_X6_primitiveCompletions_55 : aq_T 92 55 = some (aq_call 118 1 none 58) := rfl
theorem i_X6_primitiveCompletions_58 : aq_T 92 58 = some (aq_ld 4 2 59) := rfl
theorem i_X6_primitiveCompletions_59 : aq_T 92 59 = some (aq_ld 0 5 61) := rfl
theorem i_X6_primitiveCompletions_61 : aq_T 92 61 = some (aq_ld 4 0 62) := rfl
theorem i_X6_primitiveCompletions_62 : aq_T 92 62 = some (aq_gf 6 0 65) := rfl
theorem i_X6_primitiveCompletions_65 : aq_T 92 65 = some (aq_gf 2 2 68) := rfl
theorem i_X6_primitiveCompletions_68 : aq_T 92 68 = some (aq_call 121 3 none 71) := rfl
theorem i_X6_primitiveCompletions_71 : aq_T 92 71 = some (aq_ar af_imul 72) := rfl
theorem i_X6_primitiveCompletions_72 : aq_T 92 72 = some (aq_ar af_iadd 73) := rfl
theorem i_X6_primitiveCompletions_73 : aq_T 92 73 = some (aq_st 0 4 75) := rfl
theorem i_X6_primitiveCompletions_75 : aq_T 92 75 = some (aq_inc 5 (1) 78) := rfl
theorem i_X6_primitiveCompletions_78 : aq_T 92 78 = some (aq_go 36) := rfl
theorem i_X6_primitiveCompletions_81 : aq_T 92 81 = some (aq_ld 0 4 83) := rfl
theorem i_X6_primitiveCompletions_83 : aq_T 92 83 = some (aq_ret 0) := rfl
theorem i_X6_complexity_0 : aq_T 93 0 = some (aq_ld 4 0 1) := rfl
theorem i_X6_complexity_1 : aq_T 93 1 = some (aq_ld 0 1 2) := rfl
theorem i_X6_complexity_2 : aq_T 93 2 = some (aq_call 110 2 (some 6) 5) := rfl
theorem i_X6_complexity_5 : aq_T 93 5 = some (aq_st 4 3 6) := rfl
theorem i_X6_complexity_6 : aq_T 93 6 = some (aq_ld 0 2 7) := rfl
theorem i_X6_complexity_7 : aq_T 93 7 = some (aq_if ai_lt0 16 10) := rfl
theorem i_X6_complexity_10 : aq_T 93 10 = some (aq_ld 0 2 11) := rfl
theorem i_X6_complexity_11 : aq_T 93 11 = some (aq_push (.int (6)) 13) := rfl
theorem i_X6_complexity_13 : aq_T 93 13 = some (aq_if ai_le 26 16) := rfl
theorem i_X6_complexity_16 : aq_T 93 16 = some (aq_thr "java/lang/IllegalArgumentException") := rfl
theorem i_X6_complexity_26 : aq_T 93 26 = some (aq_ld 0 2 27) := rfl
theorem i_X6_complexity_27 : aq_T 93 27 = some (aq_ld 4 3 28) := rfl
theorem i_X6_complexity_28 : aq_T 93 28 = some (aq_call 49 1 (some 5) 31) := rfl
theorem i_X6_complexity_31 : aq_T 93 31 = some (aq_if ai_le 36 34) := rfl
theorem i_X6_complexity_34 : aq_T 93 34 = some (aq_push (.int (0)) 35) := rfl
theorem i_X6_complexity_35 : aq_T 93 35 = some (aq_ret 0) := rfl
theorem i_X6_complexity_36 : aq_T 93 36 = some (aq_push (.int (0)) 37) := rfl
theorem i_X6_complexity_37 : aq_T 93 37 = some (aq_st 0 4 39) := rfl
theorem i_X6_complexity_39 : aq_T 93 39 = some (aq_ld 0 4 41) := rfl
theorem i_X6_complexity_41 : aq_T 93 41 = some (aq_ld 4 0 42) := rfl
theorem i_X6_complexity_42 : aq_T 93 42 = some (aq_gf 6 7 45) := rfl
theorem i_X6_complexity_45 : aq_T 93 45 = some (aq_len 46) := rfl
theorem i_X6_complexity_46 : aq_T 93 46 = some (aq_if ai_ge 68 49) := rfl
theorem i_X6_complexity_49 : aq_T 93 49 = some (aq_ld 4 0 50) := rfl
theorem i_X6_complexity_50 : aq_T 93 50 = some (aq_gf 6 7 53) := rfl
theorem i_X6_complexity_53 : aq_T 93 53 = some (aq_ld 0 4 55) := rfl
theorem i_X6_complexity_55 : aq_T 93 55 = some (aq_ld 4 3 56) := rfl
theorem i_X6_complexity_56 : aq_T 93 56 = some (aq_ld 0 4 58) := rfl
theorem i_X6_complexity_58 : aq_T 93 58 = some (aq_call 61 2 (some 5) 61) := rfl
theorem i_X6_complexity_61 : aq_T 93 61 = some (aq_stl 62) := rfl
theorem i_X6_complexity_62 : aq_T 93 62 = some (aq_inc 4 (1) 65) := rfl
theorem i_X6_complexity_65 : aq_T 93 65 = some (aq_go 39) := rfl
theorem i_X6_complexity_68 : aq_T 93 68 = some (aq_push (.long 1) 69) := rfl
theorem i_X6_complexity_69 : aq_T 93 69 = some (aq_ld 4 3 70) := rfl
theorem i_X6_complexity_70 : aq_T 93 70 = some (aq_call 49 1 (some 5) 73) := rfl
theorem i_X6_complexity_73 : aq_T 93 73 = some (aq_ld 0 2 74) := rfl
theorem i_X6_complexity_74 : aq_T 93 74 = some (aq_ar af_isub 75) := rfl
theorem i_X6_complexity_75 : aq_T 93 75 = some (aq_push (.int (1)) 76) := rfl
theorem i_X6_complexity_76 : aq_T 93 76 = some (aq_ar af_iadd 77) := rfl
theorem i_X6_complexity_77 : aq_T 93 77 = some (aq_ar af_lshl 78) := rfl
theorem i_X6_complexity_78 : aq_T 93 78 = some (aq_push (.long 1) 79) := rfl
theorem i_X6_complexity_79 : aq_T 93 79 = some (aq_ar af_lsub 80) := rfl
theorem i_X6_complexity_80 : aq_T 93 80 = some (aq_st 1 4 82) := rfl
theorem i_X6_complexity_82 : aq_T 93 82 = some (aq_ld 4 0 83) := rfl
theorem i_X6_complexity_83 : aq_T 93 83 = some (aq_gf 6 7 86) := rfl
theorem i_X6_complexity_86 : aq_T 93 86 = some (aq_ld 4 0 87) := rfl
theorem i_X6_complexity_87 : aq_T 93 87 = some (aq_gf 6 0 90) := rfl
theorem i_X6_complexity_90 : aq_T 93 90 = some (aq_gf 2 2 93) := rfl
theorem i_X6_complexity_93 : aq_T 93 93 = some (aq_ld 1 4 95) := rfl
theorem i_X6_complexity_95 : aq_T 93 95 = some (aq_push (.int (0)) 96) := rfl
theorem i_X6_complexity_96 : aq_T 93 96 = some (aq_ld 0 2 97) := rfl
theorem i_X6_complexity_97 : aq_T 93 97 = some (aq_call 122 5 none 100) := rfl
theorem i_X6_complexity_100 : aq_T 93 100 = some (aq_ret 0) := rfl
theorem i_X6_occurrences_0 : aq_T 94 0 = some (aq_ld 4 0 1) := rfl
theorem i_X6_occurrences_1 : aq_T 94 1 = some (aq_ld 0 1 2) := rfl
theorem i_X6_occurrences_2 : aq_T 94 2 = some (aq_call 110 2 (some 6) 5) := rfl
theorem i_X6_occurrences_5 : aq_T 94 5 = some (aq_st 4 3 6) := rfl
theorem i_X6_occurrences_6 : aq_T 94 6 = some (aq_ld 4 0 7) := rfl
theorem i_X6_occurrences_7 : aq_T 94 7 = some (aq_ld 0 2 8) := rfl
theorem i_X6_occurrences_8 : aq_T 94 8 = some (aq_call 110 2 (some 6) 11) := rfl
theorem i_X6_occurrences_11 : aq_T 94 11 = some (aq_st 4 4 13) := rfl
theorem i_X6_occurrences_13 : aq_T 94 13 = some (aq_push (.int (0)) 14) := rfl
theorem i_X6_occurrences_14 : aq_T 94 14 = some (aq_st 0 5 16) := rfl
theorem i_X6_occurrences_16 : aq_T 94 16 = some (aq_push (.int (0)) 17) := rfl
theorem i_X6_occurrences_17 : aq_T 94 17 = some (aq_st 0 6 19) := rfl
theorem i_X6_occurrences_19 : aq_T 94 19 = some (aq_ld 0 6 21) := rfl
theorem i_X6_occurrences_21 : aq_T 94 21 = some (aq_ld 4 4 23) := rfl
theorem i_X6_occurrences_23 : aq_T 94 23 = some (aq_call 49 1 (some 5) 26) := rfl
theorem i_X6_occurrences_26 : aq_T 94 26 = some (aq_ld 4 3 27) := rfl
theorem i_X6_occurrences_27 : aq_T 94 27 = some (aq_call 49 1 (some 5) 30) := rfl
theorem i_X6_occurrences_30 : aq_T 94 30 = some (aq_ar af_isub 31) := rfl
theorem i_X6_occurrences_31 : aq_T 94 31 = some (aq_if ai_gt 54 34) := rfl
theorem i_X6_occurrences_34 : aq_T 94 34 = some (aq_ld 4 4 36) := rfl
theorem i_X6_occurrences_36 : aq_T 94 36 = some (aq_ld 0 6 38) := rfl
theorem i_X6_occurrences_38 : aq_T 94 38 = some (aq_ld 4 3 39) := rfl
theorem i_X6_occurrences_39 : aq_T 94 39 = some (aq_call 59 3 (some 5) 42) := rfl
theorem i_X6_occurrences_42 : aq_T 94 42 = some (aq_if ai_eq0 48 45) := rfl
theorem i_X6_occurrences_45 : aq_T 94 45 = some (aq_inc 5 (1) 48) := rfl
theorem i_X6_occurrences_48 : aq_T 94 48 = some (aq_inc 6 (1) 51) := rfl
theorem i_X6_occurrences_51 : aq_T 94 51 = some (aq_go 19) := rfl
theorem i_X6_occurrences_54 : aq_T 94 54 = some (aq_ld 0 5 56) := rfl
theorem i_X6_occurrences_56 : aq_T 94 56 = some (aq_ret 0) := rfl
theorem i_X6_addPattern_0 : aq_T 95 0 = some (aq_ld 4 0 1) := rfl
theorem i_X6_addPattern_1 : aq_T 95 1 = some (aq_ld 0 1 2) := rfl
theorem i_X6_addPattern_2 : aq_T 95 2 = some (aq_call 110 2 (some 6) 5) := rfl
theorem i_X6_addPattern_5 : aq_T 95 5 = some (aq_st 4 2 6) := rfl
theorem i_X6_addPattern_6 : aq_T 95 6 = some (aq_ld 4 0 7) := rfl
theorem i_X6_addPattern_7 : aq_T 95 7 = some (aq_gf 6 0 10) := rfl
theorem i_X6_addPattern_10 : aq_T 95 10 = some (aq_gf 2 1 13) := rfl
theorem i_X6_addPattern_13 : aq_T 95 13 = some (aq_call 1 1 (some 0) 16) := rfl
theorem i_X6_addPattern_16 : aq_T 95 16 = some (aq_push (.int (12)) 18) := rfl
theorem i_X6_addPattern_18 : aq_T 95 18 = some (aq_if ai_lt 31 21) := rfl
theorem i_X6_addPattern_21 : aq_T 95 21 = some (aq_thr "java/lang/IllegalStateException") := rfl
theorem i_X6_addPattern_31 : aq_T 95 31 = some (aq_ld 4 2 32) := rfl
theorem i_X6_addPattern_32 : aq_T 95 32 = some (aq_call 49 1 (some 5) 35) := rfl
theorem i_X6_addPattern_35 : aq_T 95 35 = some (aq_push (.int (1)) 36) := rfl
theorem i_X6_addPattern_36 : aq_T 95 36 = some (aq_if ai_lt 47 39) := rfl
theorem i_X6_addPattern_39 : aq_T 95 39 = some (aq_ld 4 2 40) := rfl
theorem i_X6_addPattern_40 : aq_T 95 40 = some (aq_call 49 1 (some 5) 43) := rfl
theorem i_X6_addPattern_43 : aq_T 95 43 = some (aq_push (.int (5)) 44) := rfl
theorem i_X6_addPattern_44 : aq_T 95 44 = some (aq_if ai_le 57 47) := rfl
theorem i_X6_addPattern_47 : aq_T 95 47 = some (aq_thr "java/lang/IllegalStateException") := rfl
theorem i_X6_addPattern_57 : aq_T 95 57 = some (aq_ld 4 0 58) := rfl
theorem i_X6_addPattern_58 : aq_T 95 58 = some (aq_gf 6 0 61) := rfl
theorem i_X6_addPattern_61 : aq_T 95 61 = some (aq_gf 2 1 64) := rfl
theorem i_X6_addPattern_64 : aq_T 95 64 = some (aq_ld 4 2 65) := rfl
theorem i_X6_addPattern_65 : aq_T 95 65 = some (aq_call 6 2 (some 0) 68) := rfl
theorem i_X6_addPattern_68 : aq_T 95 68 = some (aq_ld 4 0 69) := rfl
theorem i_X6_addPattern_69 : aq_T 95 69 = some (aq_gf 6 0 72) := rfl
theorem i_X6_addPattern_72 : aq_T 95 72 = some (aq_gf 2 1 75) := rfl
theorem i_X6_addPattern_75 : aq_T 95 75 = some (aq_call 1 1 (some 0) 78) := rfl
theorem i_X6_addPattern_78 : aq_T 95 78 = some (aq_push (.int (1)) 79) := rfl
theorem i_X6_addPattern_79 : aq_T 95 79 = some (aq_ar af_isub 80) := rfl
theorem i_X6_addPattern_80 : aq_T 95 80 = some (aq_ret 0) := rfl
theorem i_X6_removePattern_0 : aq_T 96 0 = some (aq_ld 0 1 1) := rfl
theorem i_X6_removePattern_1 : aq_T 96 1 = some (aq_if ai_lt0 18 4) := rfl
theorem i_X6_removePattern_4 : aq_T 96 4 = some (aq_ld 0 1 5) := rfl
theorem i_X6_removePattern_5 : aq_T 96 5 = some (aq_ld 4 0 6) := rfl
theorem i_X6_removePattern_6 : aq_T 96 6 = some (aq_gf 6 0 9) := rfl
theorem i_X6_removePattern_9 : aq_T 96 9 = some (aq_gf 2 1 12) := rfl
theorem i_X6_removePattern_12 : aq_T 96 12 = some (aq_call 1 1 (some 0) 15) := rfl
theorem i_X6_removePattern_15 : aq_T 96 15 = some (aq_if ai_lt 28 18) := rfl
theorem i_X6_removePattern_18 : aq_T 96 18 = some (aq_thr "java/lang/IndexOutOfBoundsException") := rfl
theorem i_X6_removePattern_28 : aq_T 96 28 = some (aq_ld 4 0 29) := rfl
theorem i_X6_removePattern_29 : aq_T 96 29 = some (aq_gf 6 0 32) := rfl
theorem i_X6_removePattern_32 : aq_T 96 32 = some (aq_gf 2 1 35) := rfl
theorem i_X6_removePattern_35 : aq_T 96 35 = some (aq_ld 0 1 36) := rfl
theorem i_X6_removePattern_36 : aq_T 96 36 = some (aq_call 7 2 (some 0) 39) := rfl
theorem i_X6_removePattern_39 : aq_T 96 39 = some (aq_ld 4 0 40) := rfl
theorem i_X6_removePattern_40 : aq_T 96 40 = some (aq_gf 6 0 43) := rfl
theorem i_X6_removePattern_43 : aq_T 96 43 = some (aq_gf 2 1 46) := rfl
theorem i_X6_removePattern_46 : aq_T 96 46 = some (aq_call 1 1 (some 0) 49) := rfl
theorem i_X6_removePattern_49 : aq_T 96 49 = some (aq_ret 0) := rfl
theorem i_X6_patternCount_0 : aq_T 97 0 = some (aq_ld 4 0 1) := rfl
theorem i_X6_patternCount_1 : aq_T 97 1 = some (aq_gf 6 0 4) := rfl
theorem i_X6_patternCount_4 : aq_T 97 4 = some (aq_gf 2 1 7) := rfl
theorem i_X6_patternCount_7 : aq_T 97 7 = some (aq_call 1 1 (some 0) 10) := rfl
theorem i_X6_patternCount_10 : aq_T 97 10 = some (aq_ret 0) := rfl
theorem i_X6_avoids_0 : aq_T 98 0 = some (aq_ld 4 0 1) := rfl
theorem i_X6_avoids_1 : aq_T 98 1 = some (aq_ld 0 1 2) := rfl
theorem i_X6_avoids_2 : aq_T 98 2 = some (aq_call 110 2 (some 6) 5) := rfl
theorem i_X6_avoids_5 : aq_T 98 5 = some (aq_st 4 2 6) := rfl
theorem i_X6_avoids_6 : aq_T 98 6 = some (aq_push (.long 0) 7) := rfl
theorem i_X6_avoids_7 : aq_T 98 7 = some (aq_st 1 3 8) := rfl
theorem i_X6_avoids_8 : aq_T 98 8 = some (aq_push (.int (0)) 9) := rfl
theorem i_X6_avoids_9 : aq_T 98 9 = some (aq_st 0 5 11) := rfl
theorem i_X6_avoids_11 : aq_T 98 11 = some (aq_ld 0 5 13) := rfl
theorem i_X6_avoids_13 : aq_T 98 13 = some (aq_ld 4 2 14) := rfl
theorem i_X6_avoids_14 : aq_T 98 14 = some (aq_call 49 1 (some 5) 17) := rfl
theorem i_X6_avoids_17 : aq_T 98 17 = some (aq_if ai_ge 63 20) := rfl
theorem i_X6_avoids_20 : aq_T 98 20 = some (aq_ld 4 0 21) := rfl
theorem i_X6_avoids_21 : aq_T 98 21 = some (aq_gf 6 0 24) := rfl
theorem i_X6_avoids_24 : aq_T 98 24 = some (aq_gf 2 1 27) := rfl
theorem i_X6_avoids_27 : aq_T 98 27 = some (aq_ld 1 3 28) := rfl
theorem i_X6_avoids_28 : aq_T 98 28 = some (aq_ld 4 2 29) := rfl
theorem i_X6_avoids_29 : aq_T 98 29 = some (aq_ld 0 5 31) := rfl
theorem i_X6_avoids_31 : aq_T 98 31 = some (aq_call 50 2 (some 5) 34) := rfl
theorem i_X6_avoids_34 : aq_T 98 34 = some (aq_call 9 3 (some 0) 37) := rfl
theorem i_X6_avoids_37 : aq_T 98 37 = some (aq_st 1 3 38) := rfl
theorem i_X6_avoids_38 : aq_T 98 38 = some (aq_ld 1 3 39) := rfl
theorem i_X6_avoids_39 : aq_T 98 39 = some (aq_ld 4 0 40) := rfl
theorem i_X6_avoids_40 : aq_T 98 40 = some (aq_gf 6 0 43) := rfl
theorem i_X6_avoids_43 : aq_T 98 43 = some (aq_gf 2 1 46) := rfl
theorem i_X6_avoids_46 : aq_T 98 46 = some (aq_call 2 1 (some 0) 49) := rfl
theorem i_X6_avoids_49 : aq_T 98 49 = some (aq_ar af_land 50) := rfl
theorem i_X6_avoids_50 : aq_T 98 50 = some (aq_push (.long 0) 51) := rfl
theorem i_X6_avoids_51 : aq_T 98 51 = some (aq_ar af_lcmp 52) := rfl
theorem i_X6_avoids_52 : aq_T 98 52 = some (aq_if ai_eq0 57 55) := rfl
theorem i_X6_avoids_55 : aq_T 98 55 = some (aq_push (.int (0)) 56) := rfl
theorem i_X6_avoids_56 : aq_T 98 56 = some (aq_ret 5) := rfl
theorem i_X6_avoids_57 : aq_T 98 57 = some (aq_inc 5 (1) 60) := rfl
theorem i_X6_avoids_60 : aq_T 98 60 = some (aq_go 11) := rfl
theorem i_X6_avoids_63 : aq_T 98 63 = some (aq_push (.int (1)) 64) := rfl
theorem i_X6_avoids_64 : aq_T 98 64 = some (aq_ret 5) := rfl
theorem i_X6_isUnavoidable_0 : aq_T 99 0 = some (aq_ld 4 0 1) := rfl
theorem i_X6_isUnavoidable_1 : aq_T 99 1 = some (aq_gf 6 3 4) := rfl
theorem i_X6_isUnavoidable_4 : aq_T 99 4 = some (aq_ld 4 0 5) := rfl
theorem i_X6_isUnavoidable_5 : aq_T 99 5 = some (aq_gf 6 0 8) := rfl
theorem i_X6_isUnavoidable_8 : aq_T 99 8 = some (aq_gf 2 2 11) := rfl
theorem i_X6_isUnavoidable_11 : aq_T 99 11 = some (aq_ld 4 0 12) := rfl
theorem i_X6_isUnavoidable_12 : aq_T 99 12 = some (aq_gf 6 0 15) := rfl
theorem i_X6_isUnavoidable_15 : aq_T 99 15 = some (aq_gf 2 1 18) := rfl
theorem i_X6_isUnavoidable_18 : aq_T 99 18 = some (aq_ld 4 0 19) := rfl
theorem i_X6_isUnavoidable_19 : aq_T 99 19 = some (aq_gf 6 0 22) := rfl
theorem i_X6_isUnavoidable_22 : aq_T 99 22 = some (aq_gf 2 1 25) := rfl
theorem i_X6_isUnavoidable_25 : aq_T 99 25 = some (aq_call 2 1 (some 0) 28) := rfl
theorem i_X6_isUnavoidable_28 : aq_T 99 28 = some (aq_call 36 4 (some 4) 31) := rfl
theorem i_X6_isUnavoidable_31 : aq_T 99 31 = some (aq_ld 4 0 32) := rfl
theorem i_X6_isUnavoidable_32 : aq_T 99 32 = some (aq_gf 6 3 35) := rfl
theorem i_X6_isUnavoidable_35 : aq_T 99 35 = some (aq_call 39 1 (some 4) 38) := rfl
theorem i_X6_isUnavoidable_38 : aq_T 99 38 = some (aq_push (.int (-1)) 39) := rfl
theorem i_X6_isUnavoidable_39 : aq_T 99 39 = some (aq_if ai_eq 46 42) := rfl
theorem i_X6_isUnavoidable_42 : aq_T 99 42 = some (aq_push (.int (1)) 43) := rfl
theorem i_X6_isUnavoidable_43 : aq_T 99 43 = some (aq_go 47) := rfl
theorem i_X6_isUnavoidable_46 : aq_T 99 46 = some (aq_push (.int (0)) 47) := rfl
theorem i_X6_isUnavoidable_47 : aq_T 99 47 = some (aq_ret 5) := rfl
theorem i_X6_isMinimal_0 : aq_T 100 0 = some (aq_ld 4 0 1) := rfl
theorem i_X6_isMinimal_1 : aq_T 100 1 = some (aq_gf 6 3 4) := rfl
theorem i_X6_isMinimal_4 : aq_T 100 4 = some (aq_ld 4 0 5) := rfl
theorem i_X6_isMinimal_5 : aq_T 100 5 = some (aq_gf 6 0 8) := rfl
theorem i_X6_isMinimal_8 : aq_T 100 8 = some (aq_gf 2 2 11) := rfl
theorem i_X6_isMinimal_11 : aq_T 100 11 = some (aq_ld 4 0 12) := rfl
theorem i_X6_isMinimal_12 : aq_T 100 12 = some (aq_gf 6 0 15) := rfl
theorem i_X6_isMinimal_15 : aq_T 100 15 = some (aq_gf 2 1 18) := rfl
theorem i_X6_isMinimal_18 : aq_T 100 18 = some (aq_ld 4 0 19) := rfl
theorem i_X6_isMinimal_19 : aq_T 100 19 = some (aq_gf 6 0 22) := rfl
theorem i_X6_isMinimal_22 : aq_T 100 22 = some (aq_gf 2 1 25) := rfl
theorem i_X6_isMinimal_25 : aq_T 100 25 = some (aq_call 2 1 (some 0) 28) := rfl
theorem i_X6_isMinimal_28 : aq_T 100 28 = some (aq_call 36 4 (some 4) 31) := rfl
theorem i_X6_isMinimal_31 : aq_T 100 31 = some (aq_ld 4 0 32) := rfl
theorem i_X6_isMinimal_32 : aq_T 100 32 = some (aq_gf 6 3 35) := rfl
theorem i_X6_isMinimal_35 : aq_T 100 35 = some (aq_call 39 1 (some 4) 38) := rfl
theorem i_X6_isMinimal_38 : aq_T 100 38 = some (aq_push (.int (-1)) 39) := rfl
theorem i_X6_isMinimal_39 : aq_T 100 39 = some (aq_if ai_ne 44 42) := rfl
theorem i_X6_isMinimal_42 : aq_T 100 42 = some (aq_push (.int (0)) 43) := rfl
theorem i_X6_isMinimal_43 : aq_T 100 43 = some (aq_ret 5) := rfl
theorem i_X6_isMinimal_44 : aq_T 100 44 = some (aq_push (.int (0)) 45) := rfl
theorem i_X6_isMinimal_45 : aq_T 100 45 = some (aq_st 0 1 46) := rfl
theorem i_X6_isMinimal_46 : aq_T 100 46 = some (aq_ld 0 1 47) := rfl
theorem i_X6_isMinimal_47 : aq_T 100 47 = some (aq_ld 4 0 48) := rfl
theorem i_X6_isMinimal_48 : aq_T 100 48 = some (aq_gf 6 0 51) := rfl
theorem i_X6_isMinimal_51 : aq_T 100 51 = some (aq_gf 2 1 54) := rfl
theorem i_X6_isMinimal_54 : aq_T 100 54 = some (aq_call 1 1 (some 0) 57) := rfl
theorem i_X6_isMinimal_57 : aq_T 100 57 = some (aq_if ai_ge 111 60) := rfl
theorem i_X6_isMinimal_60 : aq_T 100 60 = some (aq_ld 4 0 61) := rfl
theorem i_X6_isMinimal_61 : aq_T 100 61 = some (aq_gf 6 3 64) := rfl
theorem i_X6_isMinimal_64 : aq_T 100 64 = some (aq_ld 4 0 65) := rfl
theorem i_X6_isMinimal_65 : aq_T 100 65 = some (aq_gf 6 0 68) := rfl
theorem i_X6_isMinimal_68 : aq_T 100 68 = some (aq_gf 2 2 71) := rfl
theorem i_X6_isMinimal_71 : aq_T 100 71 = some (aq_ld 4 0 72) := rfl
theorem i_X6_isMinimal_72 : aq_T 100 72 = some (aq_gf 6 0 75) := rfl
theorem i_X6_isMinimal_75 : aq_T 100 75 = some (aq_gf 2 1 78) := rfl
theorem i_X6_isMinimal_78 : aq_T 100 78 = some (aq_ld 4 0 79) := rfl
theorem i_X6_isMinimal_79 : aq_T 100 79 = some (aq_gf 6 0 82) := rfl
theorem i_X6_isMinimal_82 : aq_T 100 82 = some (aq_gf 2 1 85) := rfl
theorem i_X6_isMinimal_85 : aq_T 100 85 = some (aq_ld 0 1 86) := rfl
theorem i_X6_isMinimal_86 : aq_T 100 86 = some (aq_call 3 2 (some 0) 89) := rfl
theorem i_X6_isMinimal_89 : aq_T 100 89 = some (aq_call 36 4 (some 4) 92) := rfl
theorem i_X6_isMinimal_92 : aq_T 100 92 = some (aq_ld 4 0 93) := rfl
theorem i_X6_isMinimal_93 : aq_T 100 93 = some (aq_gf 6 3 96) := rfl
theorem i_X6_isMinimal_96 : aq_T 100 96 = some (aq_call 39 1 (some 4) 99) := rfl
theorem i_X6_isMinimal_99 : aq_T 100 99 = some (aq_push (.int (-1)) 100) := rfl
theorem i_X6_isMinimal_100 : aq_T 100 100 = some (aq_if ai_eq 105 103) := rfl
theorem i_X6_isMinimal_103 : aq_T 100 103 = some (aq_push (.int (0)) 104) := rfl
theorem i_X6_isMinimal_104 : aq_T 100 104 = some (aq_ret 5) := rfl
theorem i_X6_isMinimal_105 : aq_T 100 105 = some (aq_inc 1 (1) 108) := rfl
theorem i_X6_isMinimal_108 : aq_T 100 108 = some (aq_go 46) := rfl
theorem i_X6_isMinimal_111 : aq_T 100 111 = some (aq_push (.int (1)) 112) := rfl
theorem i_X6_isMinimal_112 : aq_T 100 112 = some (aq_ret 5) := rfl
theorem i_X6_longestAvoiding_0 : aq_T 101 0 = some (aq_ld 4 0 1) := rfl
theorem i_X6_longestAvoiding_1 : aq_T 101 1 = some (aq_gf 6 3 4) := rfl
theorem i_X6_longestAvoiding_4 : aq_T 101 4 = some (aq_ld 4 0 5) := rfl
theorem i_X6_longestAvoiding_5 : aq_T 101 5 = some (aq_gf 6 0 8) := rfl
theorem i_X6_longestAvoiding_8 : aq_T 101 8 = some (aq_gf 2 2 11) := rfl
theorem i_X6_longestAvoiding_11 : aq_T 101 11 = some (aq_ld 4 0 12) := rfl
theorem i_X6_longestAvoiding_12 : aq_T 101 12 = some (aq_gf 6 0 15) := rfl
theorem i_X6_longestAvoiding_15 : aq_T 101 15 = some (aq_gf 2 1 18) := rfl
theorem i_X6_longestAvoiding_18 : aq_T 101 18 = some (aq_ld 4 0 19) := rfl
theorem i_X6_longestAvoiding_19 : aq_T 101 19 = some (aq_gf 6 0 22) := rfl
theorem i_X6_longestAvoiding_22 : aq_T 101 22 = some (aq_gf 2 1 25) := rfl
theorem i_X6_longestAvoiding_25 : aq_T 101 25 = some (aq_call 2 1 (some 0) 28) := rfl
theorem i_X6_longestAvoiding_28 : aq_T 101 28 = some (aq_call 36 4 (some 4) 31) := rfl
theorem i_X6_longestAvoiding_31 : aq_T 101 31 = some (aq_ld 4 0 32) := rfl
theorem i_X6_longestAvoiding_32 : aq_T 101 32 = some (aq_gf 6 3 35) := rfl
theorem i_X6_longestAvoiding_35 : aq_T 101 35 = some (aq_call 39 1 (some 4) 38) := rfl
theorem i_X6_longestAvoiding_38 : aq_T 101 38 = some (aq_st 0 1 39) := rfl
theorem i_X6_longestAvoiding_39 : aq_T 101 39 = some (aq_ld 0 1 40) := rfl
theorem i_X6_longestAvoiding_40 : aq_T 101 40 = some (aq_push (.int (-1)) 41) := rfl
theorem i_X6_longestAvoiding_41 : aq_T 101 41 = some (aq_if ai_ne 55 44) := rfl
theorem i_X6_longestAvoiding_44 : aq_T 101 44 = some (aq_thr "java/util/NoSuchElementException") := rfl
theorem i_X6_longestAvoiding_55 : aq_T 101 55 = some (aq_ld 0 1 56) := rfl
theorem i_X6_longestAvoiding_56 : aq_T 101 56 = some (aq_ret 0) := rfl
theorem i_X6_countAvoiding_0 : aq_T 102 0 = some (aq_ld 0 1 1) := rfl
theorem i_X6_countAvoiding_1 : aq_T 102 1 = some (aq_if ai_lt0 10 4) := rfl
theorem i_X6_countAvoiding_4 : aq_T 102 4 = some (aq_ld 0 1 5) := rfl
theorem i_X6_countAvoiding_5 : aq_T 102 5 = some (aq_push (.int (30)) 7) := rfl
theorem i_X6_countAvoiding_7 : aq_T 102 7 = some (aq_if ai_le 21 10) := rfl
theorem i_X6_countAvoiding_10 : aq_T 102 10 = some (aq_thr "java/lang/IllegalArgumentException") := rfl
theorem i_X6_countAvoiding_21 : aq_T 102 21 = some (aq_ld 4 0 22) := rfl
theorem i_X6_countAvoiding_22 : aq_T 102 22 = some (aq_gf 6 3 25) := rfl
theorem i_X6_countAvoiding_25 : aq_T 102 25 = some (aq_ld 4 0 26) := rfl
theorem i_X6_countAvoiding_26 : aq_T 102 26 = some (aq_gf 6 0 29) := rfl
theorem i_X6_countAvoiding_29 : aq_T 102 29 = some (aq_gf 2 2 32) := rfl
theorem i_X6_countAvoiding_32 : aq_T 102 32 = some (aq_ld 4 0 33) := rfl
theorem i_X6_countAvoiding_33 : aq_T 102 33 = some (aq_gf 6 0 36) := rfl
theorem i_X6_countAvoiding_36 : aq_T 102 36 = some (aq_gf 2 1 39) := rfl
theorem i_X6_countAvoiding_39 : aq_T 102 39 = some (aq_ld 4 0 40) := rfl
theorem i_X6_countAvoiding_40 : aq_T 102 40 = some (aq_gf 6 0 43) := rfl
theorem i_X6_countAvoiding_43 : aq_T 102 43 = some (aq_gf 2 1 46) := rfl
theorem i_X6_countAvoiding_46 : aq_T 102 46 = some (aq_call 2 1 (some 0) 49) := rfl
theorem i_X6_countAvoiding_49 : aq_T 102 49 = some (aq_call 36 4 (some 4) 52) := rfl
theorem i_X6_countAvoiding_52 : aq_T 102 52 = some (aq_ld 4 0 53) := rfl
theorem i_X6_countAvoiding_53 : aq_T 102 53 = some (aq_gf 6 3 56) := rfl
theorem i_X6_countAvoiding_56 : aq_T 102 56 = some (aq_ld 0 1 57) := rfl
theorem i_X6_countAvoiding_57 : aq_T 102 57 = some (aq_call 41 2 (some 4) 60) := rfl
theorem i_X6_countAvoiding_60 : aq_T 102 60 = some (aq_ret 1) := rfl
theorem i_X6_avoidingCycle_0 : aq_T 103 0 = some (aq_ld 4 0 1) := rfl
theorem i_X6_avoidingCycle_1 : aq_T 103 1 = some (aq_ld 0 1 2) := rfl
theorem i_X6_avoidingCycle_2 : aq_T 103 2 = some (aq_call 110 2 (some 6) 5) := rfl
theorem i_X6_avoidingCycle_5 : aq_T 103 5 = some (aq_st 4 2 6) := rfl
theorem i_X6_avoidingCycle_6 : aq_T 103 6 = some (aq_ld 4 0 7) := rfl
theorem i_X6_avoidingCycle_7 : aq_T 103 7 = some (aq_gf 6 3 10) := rfl
theorem i_X6_avoidingCycle_10 : aq_T 103 10 = some (aq_ld 4 0 11) := rfl
theorem i_X6_avoidingCycle_11 : aq_T 103 11 = some (aq_gf 6 0 14) := rfl
theorem i_X6_avoidingCycle_14 : aq_T 103 14 = some (aq_gf 2 2 17) := rfl
theorem i_X6_avoidingCycle_17 : aq_T 103 17 = some (aq_ld 4 0 18) := rfl
theorem i_X6_avoidingCycle_18 : aq_T 103 18 = some (aq_gf 6 0 21) := rfl
theorem i_X6_avoidingCycle_21 : aq_T 103 21 = some (aq_gf 2 1 24) := rfl
theorem i_X6_avoidingCycle_24 : aq_T 103 24 = some (aq_ld 4 0 25) := rfl
theorem i_X6_avoidingCycle_25 : aq_T 103 25 = some (aq_gf 6 0 28) := rfl
theorem i_X6_avoidingCycle_28 : aq_T 103 28 = some (aq_gf 2 1 31) := rfl
theorem i_X6_avoidingCycle_31 : aq_T 103 31 = some (aq_call 2 1 (some 0) 34) := rfl
theorem i_X6_avoidingCycle_34 : aq_T 103 34 = some (aq_call 36 4 (some 4) 37) := rfl
theorem i_X6_avoidingCycle_37 : aq_T 103 37 = some (aq_ld 4 0 38) := rfl
theorem i_X6_avoidingCycle_38 : aq_T 103 38 = some (aq_gf 6 3 41) := rfl
theorem i_X6_avoidingCycle_41 : aq_T 103 41 = some (aq_ld 4 0 42) := rfl
theorem i_X6_avoidingCycle_42 : aq_T 103 42 = some (aq_gf 6 6 45) := rfl
theorem i_X6_avoidingCycle_45 : aq_T 103 45 = some (aq_ld 4 0 46) := rfl
theorem i_X6_avoidingCycle_46 : aq_T 103 46 = some (aq_gf 6 5 49) := rfl
theorem i_X6_avoidingCycle_49 : aq_T 103 49 = some (aq_call 43 3 (some 4) 52) := rfl
theorem i_X6_avoidingCycle_52 : aq_T 103 52 = some (aq_ld 4 0 53) := rfl
theorem i_X6_avoidingCycle_53 : aq_T 103 53 = some (aq_gf 6 6 56) := rfl
theorem i_X6_avoidingCycle_56 : aq_T 103 56 = some (aq_call 49 1 (some 5) 59) := rfl
theorem i_X6_avoidingCycle_59 : aq_T 103 59 = some (aq_if ai_ne0 73 62) := rfl
theorem i_X6_avoidingCycle_62 : aq_T 103 62 = some (aq_thr "java/util/NoSuchElementException") := rfl
theorem i_X6_avoidingCycle_73 : aq_T 103 73 = some (aq_ld 4 2 74) := rfl
theorem i_X6_avoidingCycle_74 : aq_T 103 74 = some (aq_ld 4 0 75) := rfl
theorem i_X6_avoidingCycle_75 : aq_T 103 75 = some (aq_gf 6 6 78) := rfl
theorem i_X6_avoidingCycle_78 : aq_T 103 78 = some (aq_call 54 2 (some 5) 81) := rfl
theorem i_X6_avoidingCycle_81 : aq_T 103 81 = some (aq_ld 4 2 82) := rfl
theorem i_X6_avoidingCycle_82 : aq_T 103 82 = some (aq_call 49 1 (some 5) 85) := rfl
theorem i_X6_avoidingCycle_85 : aq_T 103 85 = some (aq_ret 0) := rfl
theorem i_X6_newRow_0 : aq_T 104 0 = some (aq_ld 4 0 1) := rfl
theorem i_X6_newRow_1 : aq_T 104 1 = some (aq_ld 0 1 2) := rfl
theorem i_X6_newRow_2 : aq_T 104 2 = some (aq_call 111 2 (some 6) 5) := rfl
theorem i_X6_newRow_5 : aq_T 104 5 = some (aq_st 4 4 7) := rfl
theorem i_X6_newRow_7 : aq_T 104 7 = some (aq_ld 0 2 8) := rfl
theorem i_X6_newRow_8 : aq_T 104 8 = some (aq_if ai_lt0 16 11) := rfl
theorem i_X6_newRow_11 : aq_T 104 11 = some (aq_ld 0 2 12) := rfl
theorem i_X6_newRow_12 : aq_T 104 12 = some (aq_push (.int (1)) 13) := rfl
theorem i_X6_newRow_13 : aq_T 104 13 = some (aq_if ai_le 27 16) := rfl
theorem i_X6_newRow_16 : aq_T 104 16 = some (aq_thr "java/lang/IllegalArgumentException") := rfl
theorem i_X6_newRow_27 : aq_T 104 27 = some (aq_ld 0 3 28) := rfl
theorem i_X6_newRow_28 : aq_T 104 28 = some (aq_if ai_lt0 37 31) := rfl
theorem i_X6_newRow_31 : aq_T 104 31 = some (aq_ld 0 3 32) := rfl
theorem i_X6_newRow_32 : aq_T 104 32 = some (aq_push (.int (41)) 34) := rfl
theorem i_X6_newRow_34 : aq_T 104 34 = some (aq_if ai_le 48 37) := rfl
theorem i_X6_newRow_37 : aq_T 104 37 = some (aq_thr "java/lang/IllegalArgumentException") := rfl
theorem i_X6_newRow_48 : aq_T 104 48 = some (aq_ld 4 4 50) := rfl
theorem i_X6_newRow_50 : aq_T 104 50 = some (aq_ld 0 2 51) := rfl
theorem i_X6_newRow_51 : aq_T 104 51 = some (aq_push (.int (1)) 52) := rfl
theorem i_X6_newRow_52 : aq_T 104 52 = some (aq_if ai_ne 59 55) := rfl
theorem i_X6_newRow_55 : aq_T 104 55 = some (aq_push (.int (1)) 56) := rfl
theorem i_X6_newRow_56 : aq_T 104 56 = some (aq_go 60) := rfl
theorem i_X6_newRow_59 : aq_T 104 59 = some (aq_push (.int (0)) 60) := rfl
theorem i_X6_newRow_60 : aq_T 104 60 = some (aq_ld 0 3 61) := rfl
theorem i_X6_newRow_61 : aq_T 104 61 = some (aq_call 14 3 (some 1) 64) := rfl
theorem i_X6_newRow_64 : aq_T 104 64 = some (aq_ld 0 3 65) := rfl
theorem i_X6_newRow_65 : aq_T 104 65 = some (aq_ret 0) := rfl
theorem i_X6_fillDensities_0 : aq_T 105 0 = some (aq_ld 4 0 1) := rfl
theorem i_X6_fillDensities_1 : aq_T 105 1 = some (aq_ld 0 1 2) := rfl
theorem i_X6_fillDensities_2 : aq_T 105 2 = some (aq_call 111 2 (some 6) 5) := rfl
theorem i_X6_fillDensities_5 : aq_T 105 5 = some (aq_st 4 3 6) := rfl
theorem i_X6_fillDensities_6 : aq_T 105 6 = some (aq_ld 4 0 7) := rfl
theorem i_X6_fillDensities_7 : aq_T 105 7 = some (aq_ld 0 2 8) := rfl
theorem i_X6_fillDensities_8 : aq_T 105 8 = some (aq_call 110 2 (some 6) 11) := rfl
theorem i_X6_fillDensities_11 : aq_T 105 11 = some (aq_st 4 4 13) := rfl
theorem i_X6_fillDensities_13 : aq_T 105 13 = some (aq_ld 4 3 14) := rfl
theorem i_X6_fillDensities_14 : aq_T 105 14 = some (aq_call 114 1 none 17) := rfl
theorem i_X6_fillDensities_17 : aq_T 105 17 = some (aq_ld 4 3 18) := rfl
theorem i_X6_fillDensities_18 : aq_T 105 18 = some (aq_call 13 1 (some 1) 21) := rfl
theorem i_X6_fillDensities_21 : aq_T 105 21 = some (aq_ld 4 4 23) := rfl
theorem i_X6_fillDensities_23 : aq_T 105 23 = some (aq_call 49 1 (some 5) 26) := rfl
theorem i_X6_fillDensities_26 : aq_T 105 26 = some (aq_if ai_ge 40 29) := rfl
theorem i_X6_fillDensities_29 : aq_T 105 29 = some (aq_thr "java/lang/IllegalStateException") := rfl
theorem i_X6_fillDensities_40 : aq_T 105 40 = some (aq_ld 4 4 42) := rfl
theorem i_X6_fillDensities_42 : aq_T 105 42 = some (aq_push (.int (1)) 43) := rfl
theorem i_X6_fillDensities_43 : aq_T 105 43 = some (aq_call 64 2 (some 5) 46) := rfl
theorem i_X6_fillDensities_46 : aq_T 105 46 = some (aq_st 0 5 48) := rfl
theorem i_X6_fillDensities_48 : aq_T 105 48 = some (aq_push (.int (0)) 49) := rfl
theorem i_X6_fillDensities_49 : aq_T 105 49 = some (aq_st 0 6 51) := rfl
theorem i_X6_fillDensities_51 : aq_T 105 51 = some (aq_push (.int (1)) 52) := rfl
theorem i_X6_fillDensities_52 : aq_T 105 52 = some (aq_st 0 7 54) := rfl
theorem i_X6_fillDensities_54 : aq_T 105 54 = some (aq_ld 0 7 56) := rfl
theorem i_X6_fillDensities_56 : aq_T 105 56 = some (aq_ld 4 4 58) := rfl
theorem i_X6_fillDensities_58 : aq_T 105 58 = some (aq_call 49 1 (some 5) 61) := rfl
theorem i_X6_fillDensities_61 : aq_T 105 61 = some (aq_if ai_gt 100 64) := rfl
theorem i_X6_fillDensities_64 : aq_T 105 64 = some (aq_ld 4 4 66) := rfl
theorem i_X6_fillDensities_66 : aq_T 105 66 = some (aq_ld 0 7 68) := rfl
theorem i_X6_fillDensities_68 : aq_T 105 68 = some (aq_push (.int (1)) 69) := rfl
theorem i_X6_fillDensities_69 : aq_T 105 69 = some (aq_ar af_isub 70) := rfl
theorem i_X6_fillDensities_70 : aq_T 105 70 = some (aq_call 50 2 (some 5) 73) := rfl
theorem i_X6_fillDensities_73 : aq_T 105 73 = some (aq_push (.int (-1)) 74) := rfl
theorem i_X6_fillDensities_74 : aq_T 105 74 = some (aq_if ai_ne 80 77) := rfl
theorem i_X6_fillDensities_77 : aq_T 105 77 = some (aq_inc 6 (1) 80) := rfl
theorem i_X6_fillDensities_80 : aq_T 105 80 = some (aq_ld 4 3 81) := rfl
theorem i_X6_fillDensities_81 : aq_T 105 81 = some (aq_ld 0 7 83) := rfl
theorem i_X6_fillDensities_83 : aq_T 105 83 = some (aq_push (.int (1)) 84) := rfl
theorem i_X6_fillDensities_84 : aq_T 105 84 = some (aq_ar af_isub 85) := rfl
theorem i_X6_fillDensities_85 : aq_T 105 85 = some (aq_ld 0 6 87) := rfl
theorem i_X6_fillDensities_87 : aq_T 105 87 = some (aq_ld 0 7 89) := rfl
theorem i_X6_fillDensities_89 : aq_T 105 89 = some (aq_ld 0 5 91) := rfl
theorem i_X6_fillDensities_91 : aq_T 105 91 = some (aq_call 17 5 (some 1) 94) := rfl
theorem i_X6_fillDensities_94 : aq_T 105 94 = some (aq_inc 7 (1) 97) := rfl
theorem i_X6_fillDensities_97 : aq_T 105 97 = some (aq_go 54) := rfl
theorem i_X6_fillDensities_100 : aq_T 105 100 = some (aq_ld 4 4 102) := rfl
theorem i_X6_fillDensities_102 : aq_T 105 102 = some (aq_call 49 1 (some 5) 105) := rfl
theorem i_X6_fillDensities_105 : aq_T 105 105 = some (aq_ret 0) := rfl
theorem i_X6_takeRemainder_0 : aq_T 106 0 = some (aq_ld 4 0 1) := rfl
theorem i_X6_takeRemainder_1 : aq_T 106 1 = some (aq_ld 0 1 2) := rfl
theorem i_X6_takeRemainder_2 : aq_T 106 2 = some (aq_call 111 2 (some 6) 5) := rfl
theorem i_X6_takeRemainder_5 : aq_T 106 5 = some (aq_st 4 4 7) := rfl
theorem i_X6_takeRemainder_7 : aq_T 106 7 = some (aq_ld 4 4 9) := rfl
theorem i_X6_takeRemainder_9 : aq_T 106 9 = some (aq_call 114 1 none 12) := rfl
theorem i_X6_takeRemainder_12 : aq_T 106 12 = some (aq_ld 4 4 14) := rfl
theorem i_X6_takeRemainder_14 : aq_T 106 14 = some (aq_ld 0 2 15) := rfl
theorem i_X6_takeRemainder_15 : aq_T 106 15 = some (aq_call 115 2 none 18) := rfl
theorem i_X6_takeRemainder_18 : aq_T 106 18 = some (aq_ld 4 4 20) := rfl
theorem i_X6_takeRemainder_20 : aq_T 106 20 = some (aq_ld 0 3 21) := rfl
theorem i_X6_takeRemainder_21 : aq_T 106 21 = some (aq_call 115 2 none 24) := rfl
theorem i_X6_takeRemainder_24 : aq_T 106 24 = some (aq_ld 4 4 26) := rfl
theorem i_X6_takeRemainder_26 : aq_T 106 26 = some (aq_ld 0 3 27) := rfl
theorem i_X6_takeRemainder_27 : aq_T 106 27 = some (aq_call 15 2 (some 1) 30) := rfl
theorem i_X6_takeRemainder_30 : aq_T 106 30 = some (aq_st 3 5 32) := rfl
theorem i_X6_takeRemainder_32 : aq_T 106 32 = some (aq_ld 3 5 34) := rfl
theorem i_X6_takeRemainder_34 : aq_T 106 34 = some (aq_push (.double FP.dconst0) 35) := rfl
theorem i_X6_takeRemainder_35 : aq_T 106 35 = some (aq_ar (af_dcmp .l) 36) := rfl
theorem i_X6_takeRemainder_36 : aq_T 106 36 = some (aq_if ai_ne0 50 39) := rfl
theorem i_X6_takeRemainder_39 : aq_T 106 39 = some (aq_thr "java/lang/ArithmeticException") := rfl
theorem i_X6_takeRemainder_50 : aq_T 106 50 = some (aq_ld 4 4 52) := rfl
theorem i_X6_takeRemainder_52 : aq_T 106 52 = some (aq_ld 0 2 53) := rfl
theorem i_X6_takeRemainder_53 : aq_T 106 53 = some (aq_call 15 2 (some 1) 56) := rfl
theorem i_X6_takeRemainder_56 : aq_T 106 56 = some (aq_ld 3 5 58) := rfl
theorem i_X6_takeRemainder_58 : aq_T 106 58 = some (aq_call 123 2 none 61) := rfl
theorem i_X6_takeRemainder_61 : aq_T 106 61 = some (aq_st 3 7 63) := rfl
theorem i_X6_takeRemainder_63 : aq_T 106 63 = some (aq_ld 4 4 65) := rfl
theorem i_X6_takeRemainder_65 : aq_T 106 65 = some (aq_ld 0 2 66) := rfl
theorem i_X6_takeRemainder_66 : aq_T 106 66 = some (aq_ld 3 7 68) := rfl
theorem i_X6_takeRemainder_68 : aq_T 106 68 = some (aq_call 16 3 (some 1) 71) := rfl
theorem i_X6_takeRemainder_71 : aq_T 106 71 = some (aq_ld 3 7 73) := rfl
theorem i_X6_takeRemainder_73 : aq_T 106 73 = some (aq_push (.double 4696837146684686336) 76) := rfl
theorem i_X6_takeRemainder_76 : aq_T 106 76 = some (aq_arc ac_dmul 77) := rfl
theorem i_X6_takeRemainder_77 : aq_T 106 77 = some (aq_ar af_d2i 78) := rfl
theorem i_X6_takeRemainder_78 : aq_T 106 78 = some (aq_ret 0) := rfl
theorem i_X6_elementBits_0 : aq_T 107 0 = some (aq_ld 4 0 1) := rfl
theorem i_X6_elementBits_1 : aq_T 107 1 = some (aq_ld 0 1 2) := rfl
theorem i_X6_elementBits_2 : aq_T 107 2 = some (aq_call 111 2 (some 6) 5) := rfl
theorem i_X6_elementBits_5 : aq_T 107 5 = some (aq_st 4 3 6) := rfl
theorem i_X6_elementBits_6 : aq_T 107 6 = some (aq_ld 4 3 7) := rfl
theorem i_X6_elementBits_7 : aq_T 107 7 = some (aq_call 114 1 none 10) := rfl
theorem i_X6_elementBits_10 : aq_T 107 10 = some (aq_ld 4 3 11) := rfl
theorem i_X6_elementBits_11 : aq_T 107 11 = some (aq_ld 0 2 12) := rfl
theorem i_X6_elementBits_12 : aq_T 107 12 = some (aq_call 115 2 none 15) := rfl
theorem i_X6_elementBits_15 : aq_T 107 15 = some (aq_ld 4 3 16) := rfl
theorem i_X6_elementBits_16 : aq_T 107 16 = some (aq_call 12 1 (some 1) 19) := rfl
theorem i_X6_elementBits_19 : aq_T 107 19 = some (aq_if ai_eq0 38 22) := rfl
theorem i_X6_elementBits_22 : aq_T 107 22 = some (aq_ld 4 3 23) := rfl
theorem i_X6_elementBits_23 : aq_T 107 23 = some (aq_ld 0 2 24) := rfl
theorem i_X6_elementBits_24 : aq_T 107 24 = some (aq_call 15 2 (some 1) 27) := rfl
theorem i_X6_elementBits_27 : aq_T 107 27 = some (aq_push (.int (1023)) 30) := rfl
theorem i_X6_elementBits_30 : aq_T 107 30 = some (aq_push (.int (52)) 32) := rfl
theorem i_X6_elementBits_32 : aq_T 107 32 = some (aq_call 124 3 none 35) := rfl
theorem i_X6_elementBits_35 : aq_T 107 35 = some (aq_go 50) := rfl
theorem i_X6_elementBits_38 : aq_T 107 38 = some (aq_ld 4 3 39) := rfl
theorem i_X6_elementBits_39 : aq_T 107 39 = some (aq_ld 0 2 40) := rfl
theorem i_X6_elementBits_40 : aq_T 107 40 = some (aq_call 15 2 (some 1) 43) := rfl
theorem i_X6_elementBits_43 : aq_T 107 43 = some (aq_push (.int (127)) 45) := rfl
theorem i_X6_elementBits_45 : aq_T 107 45 = some (aq_push (.int (23)) 47) := rfl
theorem i_X6_elementBits_47 : aq_T 107 47 = some (aq_call 124 3 none 50) := rfl
theorem i_X6_elementBits_50 : aq_T 107 50 = some (aq_ret 1) := rfl
theorem i_X6_saveSnapshot_0 : aq_T 108 0 = some (aq_ld 4 0 1) := rfl
theorem i_X6_saveSnapshot_1 : aq_T 108 1 = some (aq_gf 6 1 4) := rfl
theorem i_X6_saveSnapshot_4 : aq_T 108 4 = some (aq_ld 4 0 5) := rfl
theorem i_X6_saveSnapshot_5 : aq_T 108 5 = some (aq_gf 6 0 8) := rfl
theorem i_X6_saveSnapshot_8 : aq_T 108 8 = some (aq_call 21 2 (some 2) 11) := rfl
theorem i_X6_saveSnapshot_11 : aq_T 108 11 = some (aq_ld 4 0 12) := rfl
theorem i_X6_saveSnapshot_12 : aq_T 108 12 = some (aq_push (.int (1)) 13) := rfl
theorem i_X6_saveSnapshot_13 : aq_T 108 13 = some (aq_pf 6 8 5 16) := rfl
theorem i_X6_saveSnapshot_16 : aq_T 108 16 = some (aq_ld 4 0 17) := rfl
theorem i_X6_saveSnapshot_17 : aq_T 108 17 = some (aq_gf 6 0 20) := rfl
theorem i_X6_saveSnapshot_20 : aq_T 108 20 = some (aq_gf 2 1 23) := rfl
theorem i_X6_saveSnapshot_23 : aq_T 108 23 = some (aq_call 1 1 (some 0) 26) := rfl
theorem i_X6_saveSnapshot_26 : aq_T 108 26 = some (aq_ret 0) := rfl
theorem i_X6_restoreSnapshot_0 : aq_T 109 0 = some (aq_ld 4 0 1) := rfl
theorem i_X6_restoreSnapshot_1 : aq_T 109 1 = some (aq_gf 6 8 4) := rfl
theorem i_X6_restoreSnapshot_4 : aq_T 109 4 = some (aq_if ai_ne0 18 7) := rfl
theorem i_X6_restoreSnapshot_7 : aq_T 109 7 = some (aq_thr "java/lang/IllegalStateException") := rfl
theorem i_X6_restoreSnapshot_18 : aq_T 109 18 = some (aq_ld 4 0 19) := rfl
theorem i_X6_restoreSnapshot_19 : aq_T 109 19 = some (aq_gf 6 0 22) := rfl
theorem i_X6_restoreSnapshot_22 : aq_T 109 22 = some (aq_ld 4 0 23) := rfl
theorem i_X6_restoreSnapshot_23 : aq_T 109 23 = some (aq_gf 6 1 26) := rfl
theorem i_X6_restoreSnapshot_26 : aq_T 109 26 = some (aq_call 21 2 (some 2) 29) := rfl
theorem i_X6_restoreSnapshot_29 : aq_T 109 29 = some (aq_ld 4 0 30) := rfl
theorem i_X6_restoreSnapshot_30 : aq_T 109 30 = some (aq_gf 6 0 33) := rfl
theorem i_X6_restoreSnapshot_33 : aq_T 109 33 = some (aq_gf 2 1 36) := rfl
theorem i_X6_restoreSnapshot_36 : aq_T 109 36 = some (aq_call 1 1 (some 0) 39) := rfl
theorem i_X6_restoreSnapshot_39 : aq_T 109 39 = some (aq_ret 0) := rfl
theorem i_X6_wordIn_0 : aq_T 110 0 = some (aq_ld 4 0 1) := rfl
theorem i_X6_wordIn_1 : aq_T 110 1 = some (aq_gf 6 0 4) := rfl
theorem i_X6_wordIn_4 : aq_T 110 4 = some (aq_ld 0 1 5) := rfl
theorem i_X6_wordIn_5 : aq_T 110 5 = some (aq_call 19 2 (some 2) 8) := rfl
theorem i_X6_wordIn_8 : aq_T 110 8 = some (aq_st 4 2 9) := rfl
theorem i_X6_wordIn_9 : aq_T 110 9 = some (aq_ld 4 2 10) := rfl
theorem i_X6_wordIn_10 : aq_T 110 10 = some (aq_if ai_nonnull 24 13) := rfl
theorem i_X6_wordIn_13 : aq_T 110 13 = some (aq_thr "java/lang/IllegalArgumentException") := rfl
theorem i_X6_wordIn_24 : aq_T 110 24 = some (aq_ld 4 2 25) := rfl
theorem i_X6_wordIn_25 : aq_T 110 25 = some (aq_ret 4) := rfl
theorem i_X6_rowAt_0 : aq_T 111 0 = some (aq_ld 0 1 1) := rfl
theorem i_X6_rowAt_1 : aq_T 111 1 = some (aq_if ai_lt0 13 4) := rfl
theorem i_X6_rowAt_4 : aq_T 111 4 = some (aq_ld 0 1 5) := rfl
theorem i_X6_rowAt_5 : aq_T 111 5 = some (aq_ld 4 0 6) := rfl
theorem i_X6_rowAt_6 : aq_T 111 6 = some (aq_gf 6 4 9) := rfl
theorem i_X6_rowAt_9 : aq_T 111 9 = some (aq_len 10) := rfl
theorem i_X6_rowAt_10 : aq_T 111 10 = some (aq_if ai_lt 17 13) := rfl
theorem i_X6_rowAt_13 : aq_T 111 13 = some (aq_push .null 14) := rfl
theorem i_X6_rowAt_14 : aq_T 111 14 = some (aq_go 23) := rfl
theorem i_X6_rowAt_17 : aq_T 111 17 = some (aq_ld 4 0 18) := rfl
theorem i_X6_rowAt_18 : aq_T 111 18 = some (aq_gf 6 4 21) := rfl
theorem i_X6_rowAt_21 : aq_T 111 21 = some (aq_ld 0 1 22) := rfl
theorem i_X6_rowAt_22 : aq_T 111 22 = some (aq_lda 4 23) := rfl
theorem i_X6_rowAt_23 : aq_T 111 23 = some (aq_st 4 2 24) := rfl
theorem i_X6_rowAt_24 : aq_T 111 24 = some (aq_ld 4 2 25) := rfl
theorem i_X6_rowAt_25 : aq_T 111 25 = some (aq_if ai_nonnull 39 28) := rfl
theorem i_X6_rowAt_28 : aq_T 111 28 = some (aq_thr "java/lang/IllegalArgumentException") := rfl
theorem i_X6_rowAt_39 : aq_T 111 39 = some (aq_ld 4 2 40) := rfl
theorem i_X6_rowAt_40 : aq_T 111 40 = some (aq_ret 4) := rfl
theorem i_X6_requireSymbol_0 : aq_T 112 0 = some (aq_ld 0 1 1) := rfl
theorem i_X6_requireSymbol_1 : aq_T 112 1 = some (aq_push (.int (-1)) 2) := rfl
theorem i_X6_requireSymbol_2 : aq_T 112 2 = some (aq_if ai_eq 31 5) := rfl
theorem i_X6_requireSymbol_5 : aq_T 112 5 = some (aq_ld 0 1 6) := rfl
theorem i_X6_requireSymbol_6 : aq_T 112 6 = some (aq_if ai_lt0 20 9) := rfl
theorem i_X6_requireSymbol_9 : aq_T 112 9 = some (aq_ld 0 1 10) := rfl
theorem i_X6_requireSymbol_10 : aq_T 112 10 = some (aq_ld 4 0 11) := rfl
theorem i_X6_requireSymbol_11 : aq_T 112 11 = some (aq_gf 6 0 14) := rfl
theorem i_X6_requireSymbol_14 : aq_T 112 14 = some (aq_gf 2 2 17) := rfl
theorem i_X6_requireSymbol_17 : aq_T 112 17 = some (aq_if ai_lt 31 20) := rfl
theorem i_X6_requireSymbol_20 : aq_T 112 20 = some (aq_thr "java/lang/IllegalArgumentException") := rfl
theorem i_X6_requireSymbol_31 : aq_T 112 31 = some (aq_retv) := rfl
theorem i_X6_requirePosition_0 : aq_T 113 0 = some (aq_ld 0 1 1) := rfl
theorem i_X6_requirePosition_1 : aq_T 113 1 = some (aq_if ai_lt0 12 4) := rfl
theorem i_X6_requirePosition_4 : aq_T 113 4 = some (aq_ld 0 1 5) := rfl
theorem i_X6_requirePosition_5 : aq_T 113 5 = some (aq_ld 4 0 6) := rfl
theorem i_X6_requirePosition_6 : aq_T 113 6 = some (aq_call 49 1 (some 5) 9) := rfl
theorem i_X6_requirePosition_9 : aq_T 113 9 = some (aq_if ai_lt 23 12) := rfl
theorem i_X6_requirePosition_12 : aq_T 113 12 = some (aq_thr "java/lang/IndexOutOfBoundsException") := rfl
theorem i_X6_requirePosition_23 : aq_T 113 23 = some (aq_retv) := rfl
theorem i_X6_requireRow_0 : aq_T 114 0 = some (aq_ld 4 0 1) := rfl
theorem i_X6_requireRow_1 : aq_T 114 1 = some (aq_call 11 1 (some 1) 4) := rfl
theorem i_X6_requireRow_4 : aq_T 114 4 = some (aq_if ai_eq0 18 7) := rfl
theorem i_X6_requireRow_7 : aq_T 114 7 = some (aq_thr "java/lang/IllegalStateException") := rfl
theorem i_X6_requireRow_18 : aq_T 114 18 = some (aq_retv) := rfl
theorem i_X6_requireElement_0 : aq_T 115 0 = some (aq_ld 0 1 1) := rfl
theorem i_X6_requireElement_1 : aq_T 115 1 = some (aq_if ai_lt0 12 4) := rfl
theorem i_X6_requireElement_4 : aq_T 115 4 = some (aq_ld 0 1 5) := rfl
theorem i_X6_requireElement_5 : aq_T 115 5 = some (aq_ld 4 0 6) := rfl
theorem i_X6_requireElement_6 : aq_T 115 6 = some (aq_call 13 1 (some 1) 9) := rfl
theorem i_X6_requireElement_9 : aq_T 115 9 = some (aq_if ai_lt 23 12) := rfl
theorem i_X6_requireElement_12 : aq_T 115 12 = some (aq_thr "java/lang/IndexOutOfBoundsException") := rfl
theorem i_X6_requireElement_23 : aq_T 115 23 = some (aq_retv) := rfl
theorem i_X6_differ_0 : aq_T 116 0 = some (aq_ld 0 0 1) := rfl
theorem i_X6_differ_1 : aq_T 116 1 = some (aq_push (.int (-1)) 2) := rfl
theorem i_X6_differ_2 : aq_T 116 2 = some (aq_if ai_eq 19 5) := rfl
theorem i_X6_differ_5 : aq_T 116 5 = some (aq_ld 0 1 6) := rfl
theorem i_X6_differ_6 : aq_T 116 6 = some (aq_push (.int (-1)) 7) := rfl
theorem i_X6_differ_7 : aq_T 116 7 = some (aq_if ai_eq 19 10) := rfl
theorem i_X6_differ_10 : aq_T 116 10 = some (aq_ld 0 0 11) := rfl
theorem i_X6_differ_11 : aq_T 116 11 = some (aq_ld 0 1 12) := rfl
theorem i_X6_differ_12 : aq_T 116 12 = some (aq_if ai_eq 19 15) := rfl
theorem i_X6_differ_15 : aq_T 116 15 = some (aq_push (.int (1)) 16) := rfl
theorem i_X6_differ_16 : aq_T 116 16 = some (aq_go 20) := rfl
theorem i_X6_differ_19 : aq_T 116 19 = some (aq_push (.int (0)) 20) := rfl
theorem i_X6_differ_20 : aq_T 116 20 = some (aq_ret 5) := rfl
theorem i_X6_commonDivisor_0 : aq_T 117 0 = some (aq_ld 0 0 1) := rfl
theorem i_X6_commonDivisor_1 : aq_T 117 1 = some (aq_ld 0 1 2) := rfl
theorem i_X6_commonDivisor_2 : aq_T 117 2 = some (aq_ar af_imin 5) := rfl
theorem i_X6_commonDivisor_5 : aq_T 117 5 = some (aq_st 0 2 6) := rfl
theorem i_X6_commonDivisor_6 : aq_T 117 6 = some (aq_ld 0 2 7) := rfl
theorem i_X6_commonDivisor_7 : aq_T 117 7 = some (aq_push (.int (1)) 8) := rfl
theorem i_X6_commonDivisor_8 : aq_T 117 8 = some (aq_if ai_le 31 11) := rfl
theorem i_X6_commonDivisor_11 : aq_T 117 11 = some (aq_ld 0 0 12) := rfl
theorem i_X6_commonDivisor_12 : aq_T 117 12 = some (aq_ld 0 2 13) := rfl
theorem i_X6_commonDivisor_13 : aq_T 117 13 = some (aq_arc ac_irem 14) := rfl
theorem i_X6_commonDivisor_14 : aq_T 117 14 = some (aq_if ai_ne0 25 17) := rfl
theorem i_X6_commonDivisor_17 : aq_T 117 17 = some (aq_ld 0 1 18) := rfl
theorem i_X6_commonDivisor_18 : aq_T 117 18 = some (aq_ld 0 2 19) := rfl
theorem i_X6_commonDivisor_19 : aq_T 117 19 = some (aq_arc ac_irem 20) := rfl
theorem i_X6_commonDivisor_20 : aq_T 117 20 = some (aq_if ai_ne0 25 23) := rfl
theorem i_X6_commonDivisor_23 : aq_T 117 23 = some (aq_ld 0 2 24) := rfl
theorem i_X6_commonDivisor_24 : aq_T 117 24 = some (aq_ret 0) := rfl
theorem i_X6_commonDivisor_25 : aq_T 117 25 = some (aq_inc 2 (-1) 28) := rfl
theorem i_X6_commonDivisor_28 : aq_T 117 28 = some (aq_go 6) := rfl
theorem i_X6_commonDivisor_31 : aq_T 117 31 = some (aq_push (.int (1)) 32) := rfl
theorem i_X6_commonDivisor_32 : aq_T 117 32 = some (aq_ret 0) := rfl
theorem i_X6_moebius_0 : aq_T 118 0 = some (aq_ld 0 0 1) := rfl
theorem i_X6_moebius_1 : aq_T 118 1 = some (aq_st 0 1 2) := rfl
theorem i_X6_moebius_2 : aq_T 118 2 = some (aq_push (.int (1)) 3) := rfl
theorem i_X6_moebius_3 : aq_T 118 3 = some (aq_st 0 2 4) := rfl
theorem i_X6_moebius_4 : aq_T 118 4 = some (aq_push (.int (2)) 5) := rfl
theorem i_X6_moebius_5 : aq_T 118 5 = some (aq_st 0 3 6) := rfl
theorem i_X6_moebius_6 : aq_T 118 6 = some (aq_ld 0 3 7) := rfl
theorem i_X6_moebius_7 : aq_T 118 7 = some (aq_ld 0 0 8) := rfl
theorem i_X6_moebius_8 : aq_T 118 8 = some (aq_if ai_gt 38 11) := rfl
theorem i_X6_moebius_11 : aq_T 118 11 = some (aq_ld 0 1 12) := rfl
theorem i_X6_moebius_12 : aq_T 118 12 = some (aq_ld 0 3 13) := rfl
theorem i_X6_moebius_13 : aq_T 118 13 = some (aq_arc ac_irem 14) := rfl
theorem i_X6_moebius_14 : aq_T 118 14 = some (aq_if ai_ne0 32 17) := rfl
theorem i_X6_moebius_17 : aq_T 118 17 = some (aq_ld 0 1 18) := rfl
theorem i_X6_moebius_18 : aq_T 118 18 = some (aq_ld 0 3 19) := rfl
theorem i_X6_moebius_19 : aq_T 118 19 = some (aq_arc ac_idiv 20) := rfl
theorem i_X6_moebius_20 : aq_T 118 20 = some (aq_st 0 1 21) := rfl
theorem i_X6_moebius_21 : aq_T 118 21 = some (aq_ld 0 1 22) := rfl
theorem i_X6_moebius_22 : aq_T 118 22 = some (aq_ld 0 3 23) := rfl
theorem i_X6_moebius_23 : aq_T 118 23 = some (aq_arc ac_irem 24) := rfl
theorem i_X6_moebius_24 : aq_T 118 24 = some (aq_if ai_ne0 29 27) := rfl
theorem i_X6_moebius_27 : aq_T 118 27 = some (aq_push (.int (0)) 28) := rfl
theorem i_X6_moebius_28 : aq_T 118 28 = some (aq_ret 0) := rfl
theorem i_X6_moebius_29 : aq_T 118 29 = some (aq_ld 0 2 30) := rfl
theorem i_X6_moebius_30 : aq_T 118 30 = some (aq_ar af_ineg 31) := rfl
theorem i_X6_moebius_31 : aq_T 118 31 = some (aq_st 0 2 32) := rfl
theorem i_X6_moebius_32 : aq_T 118 32 = some (aq_inc 3 (1) 35) := rfl
theorem i_X6_moebius_35 : aq_T 118 35 = some (aq_go 6) := rfl
theorem i_X6_moebius_38 : aq_T 118 38 = some (aq_ld 0 2 39) := rfl
theorem i_X6_moebius_39 : aq_T 118 39 = some (aq_ret 0) := rfl
theorem i_X6_completionsOf_0 : aq_T 119 0 = some (aq_push (.long 1) 1) := rfl
theorem i_X6_completionsOf_1 : aq_T 119 1 = some (aq_st 1 2 2) := rfl
theorem i_X6_completionsOf_2 : aq_T 119 2 = some (aq_ld 4 0 3) := rfl
theorem i_X6_completionsOf_3 : aq_T 119 3 = some (aq_call 57 1 (some 5) 6) := rfl
theorem i_X6_completionsOf_6 : aq_T 119 6 = some (aq_st 0 4 8) := rfl
theorem i_X6_completionsOf_8 : aq_T 119 8 = some (aq_ld 0 4 10) := rfl
theorem i_X6_completionsOf_10 : aq_T 119 10 = some (aq_if ai_le0 44 13) := rfl
theorem i_X6_completionsOf_13 : aq_T 119 13 = some (aq_ld 0 1 14) := rfl
theorem i_X6_completionsOf_14 : aq_T 119 14 = some (aq_push (.int (1)) 15) := rfl
theorem i_X6_completionsOf_15 : aq_T 119 15 = some (aq_if ai_le 33 18) := rfl
theorem i_X6_completionsOf_18 : aq_T 119 18 = some (aq_ld 1 2 19) := rfl
theorem i_X6_completionsOf_19 : aq_T 119 19 = some (aq_push (.long (9223372036854775807)) 22) := rfl
theorem i_X6_completionsOf_22 : aq_T 119 22 = some (aq_ld 0 1 23) := rfl
theorem i_X6_completionsOf_23 : aq_T 119 23 = some (aq_ar af_i2l 24) := rfl
theorem i_X6_completionsOf_24 : aq_T 119 24 = some (aq_arc ac_ldiv 25) := rfl
theorem i_X6_completionsOf_25 : aq_T 119 25 = some (aq_ar af_lcmp 26) := rfl
theorem i_X6_completionsOf_26 : aq_T 119 26 = some (aq_if ai_le0 33 29) := rfl
theorem i_X6_completionsOf_29 : aq_T 119 29 = some (aq_push (.long (-1)) 32) := rfl
theorem i_X6_completionsOf_32 : aq_T 119 32 = some (aq_ret 1) := rfl
theorem i_X6_completionsOf_33 : aq_T 119 33 = some (aq_ld 1 2 34) := rfl
theorem i_X6_completionsOf_34 : aq_T 119 34 = some (aq_ld 0 1 35) := rfl
theorem i_X6_completionsOf_35 : aq_T 119 35 = some (aq_ar af_i2l 36) := rfl
theorem i_X6_completionsOf_36 : aq_T 119 36 = some (aq_ar af_lmul 37) := rfl
theorem i_X6_completionsOf_37 : aq_T 119 37 = some (aq_st 1 2 38) := rfl
theorem i_X6_completionsOf_38 : aq_T 119 38 = some (aq_inc 4 (-1) 41) := rfl
theorem i_X6_completionsOf_41 : aq_T 119 41 = some (aq_go 8) := rfl
theorem i_X6_completionsOf_44 : aq_T 119 44 = some (aq_ld 1 2 45) := rfl
theorem i_X6_completionsOf_45 : aq_T 119 45 = some (aq_ret 1) := rfl
theorem i_X6_fillHoles_0 : aq_T 120 0 = some (aq_ld 1 1 1) := rfl
theorem i_X6_fillHoles_1 : aq_T 120 1 = some (aq_st 1 4 3) := rfl
theorem i_X6_fillHoles_3 : aq_T 120 3 = some (aq_ld 4 0 4) := rfl
theorem i_X6_fillHoles_4 : aq_T 120 4 = some (aq_call 49 1 (some 5) 7) := rfl
theorem i_X6_fillHoles_7 : aq_T 120 7 = some (aq_push (.int (1)) 8) := rfl
theorem i_X6_fillHoles_8 : aq_T 120 8 = some (aq_ar af_isub 9) := rfl
theorem i_X6_fillHoles_9 : aq_T 120 9 = some (aq_st 0 6 11) := rfl
theorem i_X6_fillHoles_11 : aq_T 120 11 = some (aq_ld 0 6 13) := rfl
theorem i_X6_fillHoles_13 : aq_T 120 13 = some (aq_if ai_lt0 55 16) := rfl
theorem i_X6_fillHoles_16 : aq_T 120 16 = some (aq_ld 4 0 17) := rfl
theorem i_X6_fillHoles_17 : aq_T 120 17 = some (aq_ld 0 6 19) := rfl
theorem i_X6_fillHoles_19 : aq_T 120 19 = some (aq_call 50 2 (some 5) 22) := rfl
theorem i_X6_fillHoles_22 : aq_T 120 22 = some (aq_push (.int (-1)) 23) := rfl
theorem i_X6_fillHoles_23 : aq_T 120 23 = some (aq_if ai_ne 49 26) := rfl
theorem i_X6_fillHoles_26 : aq_T 120 26 = some (aq_ld 0 3 27) := rfl
theorem i_X6_fillHoles_27 : aq_T 120 27 = some (aq_if ai_le0 49 30) := rfl
theorem i_X6_fillHoles_30 : aq_T 120 30 = some (aq_ld 4 0 31) := rfl
theorem i_X6_fillHoles_31 : aq_T 120 31 = some (aq_ld 0 6 33) := rfl
theorem i_X6_fillHoles_33 : aq_T 120 33 = some (aq_ld 1 4 35) := rfl
theorem i_X6_fillHoles_35 : aq_T 120 35 = some (aq_ld 0 3 36) := rfl
theorem i_X6_fillHoles_36 : aq_T 120 36 = some (aq_ar af_i2l 37) := rfl
theorem i_X6_fillHoles_37 : aq_T 120 37 = some (aq_arc ac_lrem 38) := rfl
theorem i_X6_fillHoles_38 : aq_T 120 38 = some (aq_ar af_l2i 39) := rfl
theorem i_X6_fillHoles_39 : aq_T 120 39 = some (aq_call 51 3 (some 5) 42) := rfl
theorem i_X6_fillHoles_42 : aq_T 120 42 = some (aq_ld 1 4 44) := rfl
theorem i_X6_fillHoles_44 : aq_T 120 44 = some (aq_ld 0 3 45) := rfl
theorem i_X6_fillHoles_45 : aq_T 120 45 = some (aq_ar af_i2l 46) := rfl
theorem i_X6_fillHoles_46 : aq_T 120 46 = some (aq_arc ac_ldiv 47) := rfl
theorem i_X6_fillHoles_47 : aq_T 120 47 = some (aq_st 1 4 49) := rfl
theorem i_X6_fillHoles_49 : aq_T 120 49 = some (aq_inc 6 (-1) 52) := rfl
theorem i_X6_fillHoles_52 : aq_T 120 52 = some (aq_go 11) := rfl
theorem i_X6_fillHoles_55 : aq_T 120 55 = some (aq_retv) := rfl
theorem i_X6_periodicCompletions_0 : aq_T 121 0 = some (aq_ld 4 0 1) := rfl
theorem i_X6_periodicCompletions_1 : aq_T 121 1 = some (aq_ld 0 1 2) := rfl
theorem i_X6_periodicCompletions_2 : aq_T 121 2 = some (aq_push (.int (0)) 3) := rfl
theorem i_X6_periodicCompletions_3 : aq_T 121 3 = some (aq_call 62 3 (some 5) 6) := rfl
theorem i_X6_periodicCompletions_6 : aq_T 121 6 = some (aq_if ai_ne0 11 9) := rfl
theorem i_X6_periodicCompletions_9 : aq_T 121 9 = some (aq_push (.int (0)) 10) := rfl
theorem i_X6_periodicCompletions_10 : aq_T 121 10 = some (aq_ret 0) := rfl
theorem i_X6_periodicCompletions_11 : aq_T 121 11 = some (aq_push (.int (1)) 12) := rfl
theorem i_X6_periodicCompletions_12 : aq_T 121 12 = some (aq_st 0 3 13) := rfl
theorem i_X6_periodicCompletions_13 : aq_T 121 13 = some (aq_push (.int (0)) 14) := rfl
theorem i_X6_periodicCompletions_14 : aq_T 121 14 = some (aq_st 0 4 16) := rfl
theorem i_X6_periodicCompletions_16 : aq_T 121 16 = some (aq_ld 0 4 18) := rfl
theorem i_X6_periodicCompletions_18 : aq_T 121 18 = some (aq_ld 0 1 19) := rfl
theorem i_X6_periodicCompletions_19 : aq_T 121 19 = some (aq_if ai_ge 42 22) := rfl
theorem i_X6_periodicCompletions_22 : aq_T 121 22 = some (aq_ld 4 0 23) := rfl
theorem i_X6_periodicCompletions_23 : aq_T 121 23 = some (aq_ld 0 4 25) := rfl
theorem i_X6_periodicCompletions_25 : aq_T 121 25 = some (aq_ld 0 1 26) := rfl
theorem i_X6_periodicCompletions_26 : aq_T 121 26 = some (aq_call 60 3 (some 5) 29) := rfl
theorem i_X6_periodicCompletions_29 : aq_T 121 29 = some (aq_if ai_eq0 36 32) := rfl
theorem i_X6_periodicCompletions_32 : aq_T 121 32 = some (aq_ld 0 3 33) := rfl
theorem i_X6_periodicCompletions_33 : aq_T 121 33 = some (aq_ld 0 2 34) := rfl
theorem i_X6_periodicCompletions_34 : aq_T 121 34 = some (aq_ar af_imul 35) := rfl
theorem i_X6_periodicCompletions_35 : aq_T 121 35 = some (aq_st 0 3 36) := rfl
theorem i_X6_periodicCompletions_36 : aq_T 121 36 = some (aq_inc 4 (1) 39) := rfl
theorem i_X6_periodicCompletions_39 : aq_T 121 39 = some (aq_go 16) := rfl
theorem i_X6_periodicCompletions_42 : aq_T 121 42 = some (aq_ld 0 3 43) := rfl
theorem i_X6_periodicCompletions_43 : aq_T 121 43 = some (aq_ret 0) := rfl
theorem i_X6_distinctFactors_0 : aq_T 122 0 = some (aq_ld 1 2 1) := rfl
theorem i_X6_distinctFactors_1 : aq_T 122 1 = some (aq_push (.long 0) 2) := rfl
theorem i_X6_distinctFactors_2 : aq_T 122 2 = some (aq_ar af_lcmp 3) := rfl
theorem i_X6_distinctFactors_3 : aq_T 122 3 = some (aq_if ai_ne0 8 6) := rfl
theorem i_X6_distinctFactors_6 : aq_T 122 6 = some (aq_push (.int (0)) 7) := rfl
theorem i_X6_distinctFactors_7 : aq_T 122 7 = some (aq_ret 0) := rfl
theorem i_X6_distinctFactors_8 : aq_T 122 8 = some (aq_ld 0 4 10) := rfl
theorem i_X6_distinctFactors_10 : aq_T 122 10 = some (aq_ld 0 5 12) := rfl
theorem i_X6_distinctFactors_12 : aq_T 122 12 = some (aq_if ai_ge 22 15) := rfl
theorem i_X6_distinctFactors_15 : aq_T 122 15 = some (aq_ld 0 4 17) := rfl
theorem i_X6_distinctFactors_17 : aq_T 122 17 = some (aq_push (.int (6)) 19) := rfl
theorem i_X6_distinctFactors_19 : aq_T 122 19 = some (aq_if ai_lt 24 22) := rfl
theorem i_X6_distinctFactors_22 : aq_T 122 22 = some (aq_push (.int (1)) 23) := rfl
theorem i_X6_distinctFactors_23 : aq_T 122 23 = some (aq_ret 0) := rfl
theorem i_X6_distinctFactors_24 : aq_T 122 24 = some (aq_push (.int (0)) 25) := rfl
theorem i_X6_distinctFactors_25 : aq_T 122 25 = some (aq_st 0 6 27) := rfl
theorem i_X6_distinctFactors_27 : aq_T 122 27 = some (aq_push (.int (0)) 28) := rfl
theorem i_X6_distinctFactors_28 : aq_T 122 28 = some (aq_st 0 7 30) := rfl
theorem i_X6_distinctFactors_30 : aq_T 122 30 = some (aq_ld 0 7 32) := rfl
theorem i_X6_distinctFactors_32 : aq_T 122 32 = some (aq_ld 0 1 33) := rfl
theorem i_X6_distinctFactors_33 : aq_T 122 33 = some (aq_if ai_ge 74 36) := rfl
theorem i_X6_distinctFactors_36 : aq_T 122 36 = some (aq_ld 0 7 38) := rfl
theorem i_X6_distinctFactors_38 : aq_T 122 38 = some (aq_ld 4 0 39) := rfl
theorem i_X6_distinctFactors_39 : aq_T 122 39 = some (aq_len 40) := rfl
theorem i_X6_distinctFactors_40 : aq_T 122 40 = some (aq_if ai_ge 74 43) := rfl
theorem i_X6_distinctFactors_43 : aq_T 122 43 = some (aq_ld 0 6 45) := rfl
theorem i_X6_distinctFactors_45 : aq_T 122 45 = some (aq_ld 4 0 46) := rfl
theorem i_X6_distinctFactors_46 : aq_T 122 46 = some (aq_ld 0 1 47) := rfl
theorem i_X6_distinctFactors_47 : aq_T 122 47 = some (aq_ld 1 2 48) := rfl
theorem i_X6_distinctFactors_48 : aq_T 122 48 = some (aq_ld 4 0 49) := rfl
theorem i_X6_distinctFactors_49 : aq_T 122 49 = some (aq_ld 0 7 51) := rfl
theorem i_X6_distinctFactors_51 : aq_T 122 51 = some (aq_ldl 52) := rfl
theorem i_X6_distinctFactors_52 : aq_T 122 52 = some (aq_ld 0 4 54) := rfl
theorem i_X6_distinctFactors_54 : aq_T 122 54 = some (aq_ar af_lushr 55) := rfl
theorem i_X6_distinctFactors_55 : aq_T 122 55 = some (aq_ar af_land 56) := rfl
theorem i_X6_distinctFactors_56 : aq_T 122 56 = some (aq_ld 0 4 58) := rfl
theorem i_X6_distinctFactors_58 : aq_T 122 58 = some (aq_push (.int (1)) 59) := rfl
theorem i_X6_distinctFactors_59 : aq_T 122 59 = some (aq_ar af_iadd 60) := rfl
theorem i_X6_distinctFactors_60 : aq_T 122 60 = some (aq_ld 0 5 62) := rfl
theorem i_X6_distinctFactors_62 : aq_T 122 62 = some (aq_call 122 5 none 65) := rfl
theorem i_X6_distinctFactors_65 : aq_T 122 65 = some (aq_ar af_iadd 66) := rfl
theorem i_X6_distinctFactors_66 : aq_T 122 66 = some (aq_st 0 6 68) := rfl
theorem i_X6_distinctFactors_68 : aq_T 122 68 = some (aq_inc 7 (1) 71) := rfl
theorem i_X6_distinctFactors_71 : aq_T 122 71 = some (aq_go 30) := rfl
theorem i_X6_distinctFactors_74 : aq_T 122 74 = some (aq_ld 0 6 76) := rfl
theorem i_X6_distinctFactors_76 : aq_T 122 76 = some (aq_ret 0) := rfl
theorem i_X6_remainder_0 : aq_T 123 0 = some (aq_ld 3 0 1) := rfl
theorem i_X6_remainder_1 : aq_T 123 1 = some (aq_st 3 4 3) := rfl
theorem i_X6_remainder_3 : aq_T 123 3 = some (aq_ld 3 2 4) := rfl
theorem i_X6_remainder_4 : aq_T 123 4 = some (aq_st 3 6 6) := rfl
theorem i_X6_remainder_6 : aq_T 123 6 = some (aq_push (.int (0)) 7) := rfl
theorem i_X6_remainder_7 : aq_T 123 7 = some (aq_st 0 8 9) := rfl
theorem i_X6_remainder_9 : aq_T 123 9 = some (aq_ld 0 8 11) := rfl
theorem i_X6_remainder_11 : aq_T 123 11 = some (aq_push (.int (1100)) 14) := rfl
theorem i_X6_remainder_14 : aq_T 123 14 = some (aq_if ai_ge 41 17) := rfl
theorem i_X6_remainder_17 : aq_T 123 17 = some (aq_ld 3 6 19) := rfl
theorem i_X6_remainder_19 : aq_T 123 19 = some (aq_ld 3 6 21) := rfl
theorem i_X6_remainder_21 : aq_T 123 21 = some (aq_arc ac_dadd 22) := rfl
theorem i_X6_remainder_22 : aq_T 123 22 = some (aq_ld 3 4 24) := rfl
theorem i_X6_remainder_24 : aq_T 123 24 = some (aq_ar (af_dcmp .g) 25) := rfl
theorem i_X6_remainder_25 : aq_T 123 25 = some (aq_if ai_gt0 41 28) := rfl
theorem i_X6_remainder_28 : aq_T 123 28 = some (aq_ld 3 6 30) := rfl
theorem i_X6_remainder_30 : aq_T 123 30 = some (aq_ld 3 6 32) := rfl
theorem i_X6_remainder_32 : aq_T 123 32 = some (aq_arc ac_dadd 33) := rfl
theorem i_X6_remainder_33 : aq_T 123 33 = some (aq_st 3 6 35) := rfl
theorem i_X6_remainder_35 : aq_T 123 35 = some (aq_inc 8 (1) 38) := rfl
theorem i_X6_remainder_38 : aq_T 123 38 = some (aq_go 9) := rfl
theorem i_X6_remainder_41 : aq_T 123 41 = some (aq_ld 0 8 43) := rfl
theorem i_X6_remainder_43 : aq_T 123 43 = some (aq_st 0 9 45) := rfl
theorem i_X6_remainder_45 : aq_T 123 45 = some (aq_ld 0 9 47) := rfl
theorem i_X6_remainder_47 : aq_T 123 47 = some (aq_if ai_lt0 79 50) := rfl
theorem i_X6_remainder_50 : aq_T 123 50 = some (aq_ld 3 6 52) := rfl
theorem i_X6_remainder_52 : aq_T 123 52 = some (aq_ld 3 4 54) := rfl
theorem i_X6_remainder_54 : aq_T 123 54 = some (aq_ar (af_dcmp .g) 55) := rfl
theorem i_X6_remainder_55 : aq_T 123 55 = some (aq_if ai_gt0 65 58) := rfl
theorem i_X6_remainder_58 : aq_T 123 58 = some (aq_ld 3 4 60) := rfl
theorem i_X6_remainder_60 : aq_T 123 60 = some (aq_ld 3 6 62) := rfl
theorem i_X6_remainder_62 : aq_T 123 62 = some (aq_arc ac_dsub 63) := rfl
theorem i_X6_remainder_63 : aq_T 123 63 = some (aq_st 3 4 65) := rfl
theorem i_X6_remainder_65 : aq_T 123 65 = some (aq_ld 3 6 67) := rfl
theorem i_X6_remainder_67 : aq_T 123 67 = some (aq_push (.double 4611686018427387904) 70) := rfl
theorem i_X6_remainder_70 : aq_T 123 70 = some (aq_arc ac_ddiv 71) := rfl
theorem i_X6_remainder_71 : aq_T 123 71 = some (aq_st 3 6 73) := rfl
theorem i_X6_remainder_73 : aq_T 123 73 = some (aq_inc 9 (-1) 76) := rfl
theorem i_X6_remainder_76 : aq_T 123 76 = some (aq_go 45) := rfl
theorem i_X6_remainder_79 : aq_T 123 79 = some (aq_ld 3 4 81) := rfl
theorem i_X6_remainder_81 : aq_T 123 81 = some (aq_ret 3) := rfl
theorem i_X6_bits_0 : aq_T 124 0 = some (aq_ld 3 0 1) := rfl
theorem i_X6_bits_1 : aq_T 124 1 = some (aq_push (.double FP.dconst0) 2) := rfl
theorem i_X6_bits_2 : aq_T 124 2 = some (aq_ar (af_dcmp .g) 3) := rfl
theorem i_X6_bits_3 : aq_T 124 3 = some (aq_if ai_gt0 8 6) := rfl
theorem i_X6_bits_6 : aq_T 124 6 = some (aq_push (.long 0) 7) := rfl
theorem i_X6_bits_7 : aq_T 124 7 = some (aq_ret 1) := rfl
theorem i_X6_bits_8 : aq_T 124 8 = some (aq_ld 3 0 9) := rfl
theorem i_X6_bits_9 : aq_T 124 9 = some (aq_st 3 4 11) := rfl
theorem i_X6_bits_11 : aq_T 124 11 = some (aq_ld 0 2 12) := rfl
theorem i_X6_bits_12 : aq_T 124 12 = some (aq_st 0 6 14) := rfl
theorem i_X6_bits_14 : aq_T 124 14 = some (aq_push (.int (0)) 15) := rfl
theorem i_X6_bits_15 : aq_T 124 15 = some (aq_st 0 7 17) := rfl
theorem i_X6_bits_17 : aq_T 124 17 = some (aq_ld 0 7 19) := rfl
theorem i_X6_bits_19 : aq_T 124 19 = some (aq_push (.int (1100)) 22) := rfl
theorem i_X6_bits_22 : aq_T 124 22 = some (aq_if ai_ge 49 25) := rfl
theorem i_X6_bits_25 : aq_T 124 25 = some (aq_ld 3 4 27) := rfl
theorem i_X6_bits_27 : aq_T 124 27 = some (aq_push (.double FP.dconst1) 28) := rfl
theorem i_X6_bits_28 : aq_T 124 28 = some (aq_ar (af_dcmp .g) 29) := rfl
theorem i_X6_bits_29 : aq_T 124 29 = some (aq_if ai_ge0 49 32) := rfl
theorem i_X6_bits_32 : aq_T 124 32 = some (aq_ld 3 4 34) := rfl
theorem i_X6_bits_34 : aq_T 124 34 = some (aq_push (.double 4611686018427387904) 37) := rfl
theorem i_X6_bits_37 : aq_T 124 37 = some (aq_arc ac_dmul 38) := rfl
theorem i_X6_bits_38 : aq_T 124 38 = some (aq_st 3 4 40) := rfl
theorem i_X6_bits_40 : aq_T 124 40 = some (aq_inc 6 (-1) 43) := rfl
theorem i_X6_bits_43 : aq_T 124 43 = some (aq_inc 7 (1) 46) := rfl
theorem i_X6_bits_46 : aq_T 124 46 = some (aq_go 17) := rfl
theorem i_X6_bits_49 : aq_T 124 49 = some (aq_ld 3 4 51) := rfl
theorem i_X6_bits_51 : aq_T 124 51 = some (aq_push (.double FP.dconst1) 52) := rfl
theorem i_X6_bits_52 : aq_T 124 52 = some (aq_arc ac_dsub 53) := rfl
theorem i_X6_bits_53 : aq_T 124 53 = some (aq_push (.long 1) 54) := rfl
theorem i_X6_bits_54 : aq_T 124 54 = some (aq_ld 0 3 55) := rfl
theorem i_X6_bits_55 : aq_T 124 55 = some (aq_ar af_lshl 56) := rfl
theorem i_X6_bits_56 : aq_T 124 56 = some (aq_ar af_l2d 57) := rfl
theorem i_X6_bits_57 : aq_T 124 57 = some (aq_arc ac_dmul 58) := rfl
theorem i_X6_bits_58 : aq_T 124 58 = some (aq_ar af_d2l 59) := rfl
theorem i_X6_bits_59 : aq_T 124 59 = some (aq_st 1 7 61) := rfl
theorem i_X6_bits_61 : aq_T 124 61 = some (aq_ld 0 6 63) := rfl
theorem i_X6_bits_63 : aq_T 124 63 = some (aq_ar af_i2l 64) := rfl
theorem i_X6_bits_64 : aq_T 124 64 = some (aq_ld 0 3 65) := rfl
theorem i_X6_bits_65 : aq_T 124 65 = some (aq_ar af_lshl 66) := rfl
theorem i_X6_bits_66 : aq_T 124 66 = some (aq_ld 1 7 68) := rfl
theorem i_X6_bits_68 : aq_T 124 68 = some (aq_ar af_ladd 69) := rfl
theorem i_X6_bits_69 : aq_T 124 69 = some (aq_ret 1) := rfl
end
