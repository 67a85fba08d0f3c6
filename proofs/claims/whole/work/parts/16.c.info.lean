/-! ===== printed by wip/whole/gen2.py: a row an instruction ===== -/
section
theorem i_X7_init_0 : aq_T 125 0 = some (aq_ld 4 0 1) := rfl
theorem i_X7_init_1 : aq_T 125 1 = some (aq_oi 4) := rfl
theorem i_X7_init_4 : aq_T 125 4 = some (aq_ld 4 0 5) := rfl
theorem i_X7_init_5 : aq_T 125 5 = some (aq_push (.int (2)) 6) := rfl
theorem i_X7_init_6 : aq_T 125 6 = some (aq_pf 7 1 0 9) := rfl
theorem i_X7_init_9 : aq_T 125 9 = some (aq_ld 4 0 10) := rfl
theorem i_X7_init_10 : aq_T 125 10 = some (aq_push (.int (4)) 11) := rfl
theorem i_X7_init_11 : aq_T 125 11 = some (aq_newa 0 13) := rfl
theorem i_X7_init_13 : aq_T 125 13 = some (aq_pf 7 2 4 16) := rfl
theorem i_X7_init_16 : aq_T 125 16 = some (aq_ld 4 0 17) := rfl
theorem i_X7_init_17 : aq_T 125 17 = some (aq_push (.int (160)) 20) := rfl
theorem i_X7_init_20 : aq_T 125 20 = some (aq_newa 0 22) := rfl
theorem i_X7_init_22 : aq_T 125 22 = some (aq_pf 7 3 4 25) := rfl
theorem i_X7_init_25 : aq_T 125 25 = some (aq_ld 4 0 26) := rfl
theorem i_X7_init_26 : aq_T 125 26 = some (aq_push (.int (40)) 28) := rfl
theorem i_X7_init_28 : aq_T 125 28 = some (aq_newa 0 30) := rfl
theorem i_X7_init_30 : aq_T 125 30 = some (aq_pf 7 4 4 33) := rfl
theorem i_X7_init_33 : aq_T 125 33 = some (aq_ld 4 0 34) := rfl
theorem i_X7_init_34 : aq_T 125 34 = some (aq_push (.int (30)) 36) := rfl
theorem i_X7_init_36 : aq_T 125 36 = some (aq_newa 0 38) := rfl
theorem i_X7_init_38 : aq_T 125 38 = some (aq_pf 7 5 4 41) := rfl
theorem i_X7_init_41 : aq_T 125 41 = some (aq_ld 4 0 42) := rfl
theorem i_X7_init_42 : aq_T 125 42 = some (aq_push (.int (5)) 43) := rfl
theorem i_X7_init_43 : aq_T 125 43 = some (aq_newa 0 45) := rfl
theorem i_X7_init_45 : aq_T 125 45 = some (aq_pf 7 6 4 48) := rfl
theorem i_X7_init_48 : aq_T 125 48 = some (aq_ld 4 0 49) := rfl
theorem i_X7_init_49 : aq_T 125 49 = some (aq_push (.int (-1)) 50) := rfl
theorem i_X7_init_50 : aq_T 125 50 = some (aq_pf 7 8 0 53) := rfl
theorem i_X7_init_53 : aq_T 125 53 = some (aq_ld 4 0 54) := rfl
theorem i_X7_init_54 : aq_T 125 54 = some (aq_push (.int (12)) 56) := rfl
theorem i_X7_init_56 : aq_T 125 56 = some (aq_newa 0 58) := rfl
theorem i_X7_init_58 : aq_T 125 58 = some (aq_pf 7 11 4 61) := rfl
theorem i_X7_init_61 : aq_T 125 61 = some (aq_ld 4 0 62) := rfl
theorem i_X7_init_62 : aq_T 125 62 = some (aq_push (.int (60)) 64) := rfl
theorem i_X7_init_64 : aq_T 125 64 = some (aq_newa 0 66) := rfl
theorem i_X7_init_66 : aq_T 125 66 = some (aq_pf 7 12 4 69) := rfl
theorem i_X7_init_69 : aq_T 125 69 = some (aq_ld 4 0 70) := rfl
theorem i_X7_init_70 : aq_T 125 70 = some (aq_push (.int (-1)) 71) := rfl
theorem i_X7_init_71 : aq_T 125 71 = some (aq_pf 7 14 0 74) := rfl
theorem i_X7_init_74 : aq_T 125 74 = some (aq_ld 4 0 75) := rfl
theorem i_X7_init_75 : aq_T 125 75 = some (aq_push (.int (81)) 77) := rfl
theorem i_X7_init_77 : aq_T 125 77 = some (aq_newa 3 79) := rfl
theorem i_X7_init_79 : aq_T 125 79 = some (aq_pf 7 15 4 82) := rfl
theorem i_X7_init_82 : aq_T 125 82 = some (aq_ld 4 0 83) := rfl
theorem i_X7_init_83 : aq_T 125 83 = some (aq_push (.int (243)) 86) := rfl
theorem i_X7_init_86 : aq_T 125 86 = some (aq_newa 3 88) := rfl
theorem i_X7_init_88 : aq_T 125 88 = some (aq_pf 7 16 4 91) := rfl
theorem i_X7_init_91 : aq_T 125 91 = some (aq_ld 4 0 92) := rfl
theorem i_X7_init_92 : aq_T 125 92 = some (aq_push (.int (81)) 94) := rfl
theorem i_X7_init_94 : aq_T 125 94 = some (aq_newa 1 96) := rfl
theorem i_X7_init_96 : aq_T 125 96 = some (aq_pf 7 17 4 99) := rfl
theorem i_X7_init_99 : aq_T 125 99 = some (aq_ld 4 0 100) := rfl
theorem i_X7_init_100 : aq_T 125 100 = some (aq_push (.int (81)) 102) := rfl
theorem i_X7_init_102 : aq_T 125 102 = some (aq_newa 1 104) := rfl
theorem i_X7_init_104 : aq_T 125 104 = some (aq_pf 7 18 4 107) := rfl
theorem i_X7_init_107 : aq_T 125 107 = some (aq_ld 4 0 108) := rfl
theorem i_X7_init_108 : aq_T 125 108 = some (aq_push (.int (81)) 110) := rfl
theorem i_X7_init_110 : aq_T 125 110 = some (aq_newa 0 112) := rfl
theorem i_X7_init_112 : aq_T 125 112 = some (aq_pf 7 19 4 115) := rfl
theorem i_X7_init_115 : aq_T 125 115 = some (aq_ld 4 0 116) := rfl
theorem i_X7_init_116 : aq_T 125 116 = some (aq_push (.int (40)) 118) := rfl
theorem i_X7_init_118 : aq_T 125 118 = some (aq_newa 0 120) := rfl
theorem i_X7_init_120 : aq_T 125 120 = some (aq_pf 7 20 4 123) := rfl
theorem i_X7_init_123 : aq_T 125 123 = some (aq_ld 4 0 124) := rfl
theorem i_X7_init_124 : aq_T 125 124 = some (aq_push (.int (40)) 126) := rfl
theorem i_X7_init_126 : aq_T 125 126 = some (aq_newa 0 128) := rfl
theorem i_X7_init_128 : aq_T 125 128 = some (aq_pf 7 21 4 131) := rfl
theorem i_X7_init_131 : aq_T 125 131 = some (aq_ld 4 0 132) := rfl
theorem i_X7_init_132 : aq_T 125 132 = some (aq_push (.int (82)) 134) := rfl
theorem i_X7_init_134 : aq_T 125 134 = some (aq_newa 2 136) := rfl
theorem i_X7_init_136 : aq_T 125 136 = some (aq_pf 7 22 4 139) := rfl
theorem i_X7_init_139 : aq_T 125 139 = some (aq_ld 4 0 140) := rfl
theorem i_X7_init_140 : aq_T 125 140 = some (aq_push (.int (2)) 141) := rfl
theorem i_X7_init_141 : aq_T 125 141 = some (aq_newa 0 143) := rfl
theorem i_X7_init_143 : aq_T 125 143 = some (aq_ar af_dup 144) := rfl
theorem i_X7_init_144 : aq_T 125 144 = some (aq_push (.int (0)) 145) := rfl
theorem i_X7_init_145 : aq_T 125 145 = some (aq_push (.int (-1)) 146) := rfl
theorem i_X7_init_146 : aq_T 125 146 = some (aq_sti 147) := rfl
theorem i_X7_init_147 : aq_T 125 147 = some (aq_ar af_dup 148) := rfl
theorem i_X7_init_148 : aq_T 125 148 = some (aq_push (.int (1)) 149) := rfl
theorem i_X7_init_149 : aq_T 125 149 = some (aq_push (.int (-1)) 150) := rfl
theorem i_X7_init_150 : aq_T 125 150 = some (aq_sti 151) := rfl
theorem i_X7_init_151 : aq_T 125 151 = some (aq_pf 7 23 4 154) := rfl
theorem i_X7_init_154 : aq_T 125 154 = some (aq_ld 4 0 155) := rfl
theorem i_X7_init_155 : aq_T 125 155 = some (aq_push (.int (2)) 156) := rfl
theorem i_X7_init_156 : aq_T 125 156 = some (aq_newa 0 158) := rfl
theorem i_X7_init_158 : aq_T 125 158 = some (aq_pf 7 24 4 161) := rfl
theorem i_X7_init_161 : aq_T 125 161 = some (aq_ld 4 0 162) := rfl
theorem i_X7_init_162 : aq_T 125 162 = some (aq_push (.int (240)) 165) := rfl
theorem i_X7_init_165 : aq_T 125 165 = some (aq_newa 0 167) := rfl
theorem i_X7_init_167 : aq_T 125 167 = some (aq_pf 7 25 4 170) := rfl
theorem i_X7_init_170 : aq_T 125 170 = some (aq_retv) := rfl
theorem i_X7_thrown_0 : aq_T 126 0 = some (aq_ld 4 0 1) := rfl
theorem i_X7_thrown_1 : aq_T 126 1 = some (aq_gf 7 0 4) := rfl
theorem i_X7_thrown_4 : aq_T 126 4 = some (aq_ret 0) := rfl
theorem i_X7_fails_0 : aq_T 127 0 = some (aq_ld 4 0 1) := rfl
theorem i_X7_fails_1 : aq_T 127 1 = some (aq_ld 0 1 2) := rfl
theorem i_X7_fails_2 : aq_T 127 2 = some (aq_pf 7 0 0 5) := rfl
theorem i_X7_fails_5 : aq_T 127 5 = some (aq_push (.int (0)) 6) := rfl
theorem i_X7_fails_6 : aq_T 127 6 = some (aq_ret 0) := rfl
theorem i_X7_refuses_0 : aq_T 128 0 = some (aq_ld 4 0 1) := rfl
theorem i_X7_refuses_1 : aq_T 128 1 = some (aq_ld 0 1 2) := rfl
theorem i_X7_refuses_2 : aq_T 128 2 = some (aq_pf 7 0 0 5) := rfl
theorem i_X7_refuses_5 : aq_T 128 5 = some (aq_push (.int (0)) 6) := rfl
theorem i_X7_refuses_6 : aq_T 128 6 = some (aq_ret 5) := rfl
theorem i_X7_isBetween_0 : aq_T 129 0 = some (aq_ld 1 0 1) := rfl
theorem i_X7_isBetween_1 : aq_T 129 1 = some (aq_ld 1 2 2) := rfl
theorem i_X7_isBetween_2 : aq_T 129 2 = some (aq_ar af_lcmp 3) := rfl
theorem i_X7_isBetween_3 : aq_T 129 3 = some (aq_if ai_lt0 17 6) := rfl
theorem i_X7_isBetween_6 : aq_T 129 6 = some (aq_ld 1 0 7) := rfl
theorem i_X7_isBetween_7 : aq_T 129 7 = some (aq_ld 1 4 9) := rfl
theorem i_X7_isBetween_9 : aq_T 129 9 = some (aq_ar af_lcmp 10) := rfl
theorem i_X7_isBetween_10 : aq_T 129 10 = some (aq_if ai_gt0 17 13) := rfl
theorem i_X7_isBetween_13 : aq_T 129 13 = some (aq_push (.int (1)) 14) := rfl
theorem i_X7_isBetween_14 : aq_T 129 14 = some (aq_go 18) := rfl
theorem i_X7_isBetween_17 : aq_T 129 17 = some (aq_push (.int (0)) 18) := rfl
theorem i_X7_isBetween_18 : aq_T 129 18 = some (aq_ret 5) := rfl
theorem i_X7_isRegister_0 : aq_T 130 0 = some (aq_ld 0 0 1) := rfl
theorem i_X7_isRegister_1 : aq_T 130 1 = some (aq_if ai_lt0 13 4) := rfl
theorem i_X7_isRegister_4 : aq_T 130 4 = some (aq_ld 0 0 5) := rfl
theorem i_X7_isRegister_5 : aq_T 130 5 = some (aq_push (.int (4)) 6) := rfl
theorem i_X7_isRegister_6 : aq_T 130 6 = some (aq_if ai_ge 13 9) := rfl
theorem i_X7_isRegister_9 : aq_T 130 9 = some (aq_push (.int (1)) 10) := rfl
theorem i_X7_isRegister_10 : aq_T 130 10 = some (aq_go 14) := rfl
theorem i_X7_isRegister_13 : aq_T 130 13 = some (aq_push (.int (0)) 14) := rfl
theorem i_X7_isRegister_14 : aq_T 130 14 = some (aq_ret 5) := rfl
theorem i_X7_isSymbol_0 : aq_T 131 0 = some (aq_ld 0 1 1) := rfl
theorem i_X7_isSymbol_1 : aq_T 131 1 = some (aq_push (.int (-1)) 2) := rfl
theorem i_X7_isSymbol_2 : aq_T 131 2 = some (aq_if ai_lt 17 5) := rfl
theorem i_X7_isSymbol_5 : aq_T 131 5 = some (aq_ld 0 1 6) := rfl
theorem i_X7_isSymbol_6 : aq_T 131 6 = some (aq_ld 4 0 7) := rfl
theorem i_X7_isSymbol_7 : aq_T 131 7 = some (aq_gf 7 1 10) := rfl
theorem i_X7_isSymbol_10 : aq_T 131 10 = some (aq_if ai_ge 17 13) := rfl
theorem i_X7_isSymbol_13 : aq_T 131 13 = some (aq_push (.int (1)) 14) := rfl
theorem i_X7_isSymbol_14 : aq_T 131 14 = some (aq_go 18) := rfl
theorem i_X7_isSymbol_17 : aq_T 131 17 = some (aq_push (.int (0)) 18) := rfl
theorem i_X7_isSymbol_18 : aq_T 131 18 = some (aq_ret 5) := rfl
theorem i_X7_at_0 : aq_T 132 0 = some (aq_ld 4 0 1) := rfl
theorem i_X7_at_1 : aq_T 132 1 = some (aq_gf 7 3 4) := rfl
theorem i_X7_at_4 : aq_T 132 4 = some (aq_push (.int (40)) 6) := rfl
theorem i_X7_at_6 : aq_T 132 6 = some (aq_ld 0 1 7) := rfl
theorem i_X7_at_7 : aq_T 132 7 = some (aq_ar af_imul 8) := rfl
theorem i_X7_at_8 : aq_T 132 8 = some (aq_ld 0 2 9) := rfl
theorem i_X7_at_9 : aq_T 132 9 = some (aq_ar af_iadd 10) := rfl
theorem i_X7_at_10 : aq_T 132 10 = some (aq_ldi 0 11) := rfl
theorem i_X7_at_11 : aq_T 132 11 = some (aq_ret 0) := rfl
theorem i_X7_setLetters_0 : aq_T 133 0 = some (aq_ld 0 1 1) := rfl
theorem i_X7_setLetters_1 : aq_T 133 1 = some (aq_ar af_i2l 2) := rfl
theorem i_X7_setLetters_2 : aq_T 133 2 = some (aq_push (.long 1) 3) := rfl
theorem i_X7_setLetters_3 : aq_T 133 3 = some (aq_push (.long (3)) 6) := rfl
theorem i_X7_setLetters_6 : aq_T 133 6 = some (aq_call 129 3 none 9) := rfl
theorem i_X7_setLetters_9 : aq_T 133 9 = some (aq_if ai_ne0 18 12) := rfl
theorem i_X7_setLetters_12 : aq_T 133 12 = some (aq_ld 4 0 13) := rfl
theorem i_X7_setLetters_13 : aq_T 133 13 = some (aq_push (.int (1)) 14) := rfl
theorem i_X7_setLetters_14 : aq_T 133 14 = some (aq_call 127 2 (some 7) 17) := rfl
theorem i_X7_setLetters_17 : aq_T 133 17 = some (aq_ret 0) := rfl
theorem i_X7_setLetters_18 : aq_T 133 18 = some (aq_ld 4 0 19) := rfl
theorem i_X7_setLetters_19 : aq_T 133 19 = some (aq_push (.int (0)) 20) := rfl
theorem i_X7_setLetters_20 : aq_T 133 20 = some (aq_pf 7 0 0 23) := rfl
theorem i_X7_setLetters_23 : aq_T 133 23 = some (aq_ld 4 0 24) := rfl
theorem i_X7_setLetters_24 : aq_T 133 24 = some (aq_gf 7 1 27) := rfl
theorem i_X7_setLetters_27 : aq_T 133 27 = some (aq_st 0 2 28) := rfl
theorem i_X7_setLetters_28 : aq_T 133 28 = some (aq_ld 4 0 29) := rfl
theorem i_X7_setLetters_29 : aq_T 133 29 = some (aq_ld 0 1 30) := rfl
theorem i_X7_setLetters_30 : aq_T 133 30 = some (aq_pf 7 1 0 33) := rfl
theorem i_X7_setLetters_33 : aq_T 133 33 = some (aq_push (.int (0)) 34) := rfl
theorem i_X7_setLetters_34 : aq_T 133 34 = some (aq_st 0 3 35) := rfl
theorem i_X7_setLetters_35 : aq_T 133 35 = some (aq_ld 0 3 36) := rfl
theorem i_X7_setLetters_36 : aq_T 133 36 = some (aq_push (.int (4)) 37) := rfl
theorem i_X7_setLetters_37 : aq_T 133 37 = some (aq_if ai_ge 53 40) := rfl
theorem i_X7_setLetters_40 : aq_T 133 40 = some (aq_ld 4 0 41) := rfl
theorem i_X7_setLetters_41 : aq_T 133 41 = some (aq_gf 7 2 44) := rfl
theorem i_X7_setLetters_44 : aq_T 133 44 = some (aq_ld 0 3 45) := rfl
theorem i_X7_setLetters_45 : aq_T 133 45 = some (aq_push (.int (0)) 46) := rfl
theorem i_X7_setLetters_46 : aq_T 133 46 = some (aq_sti 47) := rfl
theorem i_X7_setLetters_47 : aq_T 133 47 = some (aq_inc 3 (1) 50) := rfl
theorem i_X7_setLetters_50 : aq_T 133 50 = some (aq_go 35) := rfl
theorem i_X7_setLetters_53 : aq_T 133 53 = some (aq_ld 4 0 54) := rfl
theorem i_X7_setLetters_54 : aq_T 133 54 = some (aq_push (.int (0)) 55) := rfl
theorem i_X7_setLetters_55 : aq_T 133 55 = some (aq_pf 7 13 0 58) := rfl
theorem i_X7_setLetters_58 : aq_T 133 58 = some (aq_ld 0 2 59) := rfl
theorem i_X7_setLetters_59 : aq_T 133 59 = some (aq_ret 0) := rfl
theorem i_X7_append_0 : aq_T 134 0 = some (aq_ld 0 1 1) := rfl
theorem i_X7_append_1 : aq_T 134 1 = some (aq_call 130 1 none 4) := rfl
theorem i_X7_append_4 : aq_T 134 4 = some (aq_if ai_eq0 15 7) := rfl
theorem i_X7_append_7 : aq_T 134 7 = some (aq_ld 4 0 8) := rfl
theorem i_X7_append_8 : aq_T 134 8 = some (aq_ld 0 2 9) := rfl
theorem i_X7_append_9 : aq_T 134 9 = some (aq_call 131 2 (some 7) 12) := rfl
theorem i_X7_append_12 : aq_T 134 12 = some (aq_if ai_ne0 21 15) := rfl
theorem i_X7_append_15 : aq_T 134 15 = some (aq_ld 4 0 16) := rfl
theorem i_X7_append_16 : aq_T 134 16 = some (aq_push (.int (1)) 17) := rfl
theorem i_X7_append_17 : aq_T 134 17 = some (aq_call 127 2 (some 7) 20) := rfl
theorem i_X7_append_20 : aq_T 134 20 = some (aq_ret 0) := rfl
theorem i_X7_append_21 : aq_T 134 21 = some (aq_ld 4 0 22) := rfl
theorem i_X7_append_22 : aq_T 134 22 = some (aq_gf 7 2 25) := rfl
theorem i_X7_append_25 : aq_T 134 25 = some (aq_ld 0 1 26) := rfl
theorem i_X7_append_26 : aq_T 134 26 = some (aq_ldi 0 27) := rfl
theorem i_X7_append_27 : aq_T 134 27 = some (aq_push (.int (40)) 29) := rfl
theorem i_X7_append_29 : aq_T 134 29 = some (aq_if ai_ne 38 32) := rfl
theorem i_X7_append_32 : aq_T 134 32 = some (aq_ld 4 0 33) := rfl
theorem i_X7_append_33 : aq_T 134 33 = some (aq_push (.int (2)) 34) := rfl
theorem i_X7_append_34 : aq_T 134 34 = some (aq_call 127 2 (some 7) 37) := rfl
theorem i_X7_append_37 : aq_T 134 37 = some (aq_ret 0) := rfl
theorem i_X7_append_38 : aq_T 134 38 = some (aq_ld 4 0 39) := rfl
theorem i_X7_append_39 : aq_T 134 39 = some (aq_push (.int (0)) 40) := rfl
theorem i_X7_append_40 : aq_T 134 40 = some (aq_pf 7 0 0 43) := rfl
theorem i_X7_append_43 : aq_T 134 43 = some (aq_ld 4 0 44) := rfl
theorem i_X7_append_44 : aq_T 134 44 = some (aq_gf 7 3 47) := rfl
theorem i_X7_append_47 : aq_T 134 47 = some (aq_push (.int (40)) 49) := rfl
theorem i_X7_append_49 : aq_T 134 49 = some (aq_ld 0 1 50) := rfl
theorem i_X7_append_50 : aq_T 134 50 = some (aq_ar af_imul 51) := rfl
theorem i_X7_append_51 : aq_T 134 51 = some (aq_ld 4 0 52) := rfl
theorem i_X7_append_52 : aq_T 134 52 = some (aq_gf 7 2 55) := rfl
theorem i_X7_append_55 : aq_T 134 55 = some (aq_ld 0 1 56) := rfl
theorem i_X7_append_56 : aq_T 134 56 = some (aq_ldi 0 57) := rfl
theorem i_X7_append_57 : aq_T 134 57 = some (aq_ar af_iadd 58) := rfl
theorem i_X7_append_58 : aq_T 134 58 = some (aq_ld 0 2 59) := rfl
theorem i_X7_append_59 : aq_T 134 59 = some (aq_sti 60) := rfl
theorem i_X7_append_60 : aq_T 134 60 = some (aq_ld 4 0 61) := rfl
theorem i_X7_append_61 : aq_T 134 61 = some (aq_gf 7 2 64) := rfl
theorem i_X7_append_64 : aq_T 134 64 = some (aq_ld 0 1 65) := rfl
theorem i_X7_append_65 : aq_T 134 65 = some (aq_ar af_dup11 66) := rfl
theorem i_X7_append_66 : aq_T 134 66 = some (aq_ldi 0 67) := rfl
theorem i_X7_append_67 : aq_T 134 67 = some (aq_push (.int (1)) 68) := rfl
theorem i_X7_append_68 : aq_T 134 68 = some (aq_ar af_iadd 69) := rfl
theorem i_X7_append_69 : aq_T 134 69 = some (aq_sti 70) := rfl
theorem i_X7_append_70 : aq_T 134 70 = some (aq_ld 4 0 71) := rfl
theorem i_X7_append_71 : aq_T 134 71 = some (aq_gf 7 2 74) := rfl
theorem i_X7_append_74 : aq_T 134 74 = some (aq_ld 0 1 75) := rfl
theorem i_X7_append_75 : aq_T 134 75 = some (aq_ldi 0 76) := rfl
theorem i_X7_append_76 : aq_T 134 76 = some (aq_ret 0) := rfl
theorem i_X7_feed_0 : aq_T 135 0 = some (aq_ld 0 1 1) := rfl
theorem i_X7_feed_1 : aq_T 135 1 = some (aq_ar af_i2l 2) := rfl
theorem i_X7_feed_2 : aq_T 135 2 = some (aq_push (.long (33)) 5) := rfl
theorem i_X7_feed_5 : aq_T 135 5 = some (aq_push (.long (126)) 8) := rfl
theorem i_X7_feed_8 : aq_T 135 8 = some (aq_call 129 3 none 11) := rfl
theorem i_X7_feed_11 : aq_T 135 11 = some (aq_if ai_ne0 20 14) := rfl
theorem i_X7_feed_14 : aq_T 135 14 = some (aq_ld 4 0 15) := rfl
theorem i_X7_feed_15 : aq_T 135 15 = some (aq_push (.int (1)) 16) := rfl
theorem i_X7_feed_16 : aq_T 135 16 = some (aq_call 127 2 (some 7) 19) := rfl
theorem i_X7_feed_19 : aq_T 135 19 = some (aq_ret 0) := rfl
theorem i_X7_feed_20 : aq_T 135 20 = some (aq_ld 4 0 21) := rfl
theorem i_X7_feed_21 : aq_T 135 21 = some (aq_gf 7 7 24) := rfl
theorem i_X7_feed_24 : aq_T 135 24 = some (aq_push (.int (30)) 26) := rfl
theorem i_X7_feed_26 : aq_T 135 26 = some (aq_if ai_ne 35 29) := rfl
theorem i_X7_feed_29 : aq_T 135 29 = some (aq_ld 4 0 30) := rfl
theorem i_X7_feed_30 : aq_T 135 30 = some (aq_push (.int (2)) 31) := rfl
theorem i_X7_feed_31 : aq_T 135 31 = some (aq_call 127 2 (some 7) 34) := rfl
theorem i_X7_feed_34 : aq_T 135 34 = some (aq_ret 0) := rfl
theorem i_X7_feed_35 : aq_T 135 35 = some (aq_ld 4 0 36) := rfl
theorem i_X7_feed_36 : aq_T 135 36 = some (aq_push (.int (0)) 37) := rfl
theorem i_X7_feed_37 : aq_T 135 37 = some (aq_pf 7 0 0 40) := rfl
theorem i_X7_feed_40 : aq_T 135 40 = some (aq_ld 4 0 41) := rfl
theorem i_X7_feed_41 : aq_T 135 41 = some (aq_gf 7 5 44) := rfl
theorem i_X7_feed_44 : aq_T 135 44 = some (aq_ld 4 0 45) := rfl
theorem i_X7_feed_45 : aq_T 135 45 = some (aq_gf 7 7 48) := rfl
theorem i_X7_feed_48 : aq_T 135 48 = some (aq_ld 0 1 49) := rfl
theorem i_X7_feed_49 : aq_T 135 49 = some (aq_sti 50) := rfl
theorem i_X7_feed_50 : aq_T 135 50 = some (aq_ld 4 0 51) := rfl
theorem i_X7_feed_51 : aq_T 135 51 = some (aq_ar af_dup 52) := rfl
theorem i_X7_feed_52 : aq_T 135 52 = some (aq_gf 7 7 55) := rfl
theorem i_X7_feed_55 : aq_T 135 55 = some (aq_push (.int (1)) 56) := rfl
theorem i_X7_feed_56 : aq_T 135 56 = some (aq_ar af_iadd 57) := rfl
theorem i_X7_feed_57 : aq_T 135 57 = some (aq_pf 7 7 0 60) := rfl
theorem i_X7_feed_60 : aq_T 135 60 = some (aq_ld 4 0 61) := rfl
theorem i_X7_feed_61 : aq_T 135 61 = some (aq_gf 7 7 64) := rfl
theorem i_X7_feed_64 : aq_T 135 64 = some (aq_ret 0) := rfl
theorem i_X7_puts_0 : aq_T 136 0 = some (aq_ld 4 0 1) := rfl
theorem i_X7_puts_1 : aq_T 136 1 = some (aq_gf 7 9 4) := rfl
theorem i_X7_puts_4 : aq_T 136 4 = some (aq_push (.int (40)) 6) := rfl
theorem i_X7_puts_6 : aq_T 136 6 = some (aq_if ai_ne 15 9) := rfl
theorem i_X7_puts_9 : aq_T 136 9 = some (aq_ld 4 0 10) := rfl
theorem i_X7_puts_10 : aq_T 136 10 = some (aq_push (.int (1)) 11) := rfl
theorem i_X7_puts_11 : aq_T 136 11 = some (aq_pf 7 10 5 14) := rfl
theorem i_X7_puts_14 : aq_T 136 14 = some (aq_retv) := rfl
theorem i_X7_puts_15 : aq_T 136 15 = some (aq_ld 4 0 16) := rfl
theorem i_X7_puts_16 : aq_T 136 16 = some (aq_gf 7 4 19) := rfl
theorem i_X7_puts_19 : aq_T 136 19 = some (aq_ld 4 0 20) := rfl
theorem i_X7_puts_20 : aq_T 136 20 = some (aq_gf 7 9 23) := rfl
theorem i_X7_puts_23 : aq_T 136 23 = some (aq_ld 0 1 24) := rfl
theorem i_X7_puts_24 : aq_T 136 24 = some (aq_sti 25) := rfl
theorem i_X7_puts_25 : aq_T 136 25 = some (aq_ld 4 0 26) := rfl
theorem i_X7_puts_26 : aq_T 136 26 = some (aq_ar af_dup 27) := rfl
theorem i_X7_puts_27 : aq_T 136 27 = some (aq_gf 7 9 30) := rfl
theorem i_X7_puts_30 : aq_T 136 30 = some (aq_push (.int (1)) 31) := rfl
theorem i_X7_puts_31 : aq_T 136 31 = some (aq_ar af_iadd 32) := rfl
theorem i_X7_puts_32 : aq_T 136 32 = some (aq_pf 7 9 0 35) := rfl
theorem i_X7_puts_35 : aq_T 136 35 = some (aq_retv) := rfl
theorem i_X7_repeats_0 : aq_T 137 0 = some (aq_ld 4 0 1) := rfl
theorem i_X7_repeats_1 : aq_T 137 1 = some (aq_gf 7 9 4) := rfl
theorem i_X7_repeats_4 : aq_T 137 4 = some (aq_ld 0 1 5) := rfl
theorem i_X7_repeats_5 : aq_T 137 5 = some (aq_ar af_isub 6) := rfl
theorem i_X7_repeats_6 : aq_T 137 6 = some (aq_st 0 3 7) := rfl
theorem i_X7_repeats_7 : aq_T 137 7 = some (aq_ld 0 3 8) := rfl
theorem i_X7_repeats_8 : aq_T 137 8 = some (aq_st 0 4 10) := rfl
theorem i_X7_repeats_10 : aq_T 137 10 = some (aq_ld 0 4 12) := rfl
theorem i_X7_repeats_12 : aq_T 137 12 = some (aq_ld 0 2 13) := rfl
theorem i_X7_repeats_13 : aq_T 137 13 = some (aq_ld 0 3 14) := rfl
theorem i_X7_repeats_14 : aq_T 137 14 = some (aq_ar af_imul 15) := rfl
theorem i_X7_repeats_15 : aq_T 137 15 = some (aq_if ai_ge 39 18) := rfl
theorem i_X7_repeats_18 : aq_T 137 18 = some (aq_ld 4 0 19) := rfl
theorem i_X7_repeats_19 : aq_T 137 19 = some (aq_ld 4 0 20) := rfl
theorem i_X7_repeats_20 : aq_T 137 20 = some (aq_gf 7 4 23) := rfl
theorem i_X7_repeats_23 : aq_T 137 23 = some (aq_ld 0 1 24) := rfl
theorem i_X7_repeats_24 : aq_T 137 24 = some (aq_ld 0 4 26) := rfl
theorem i_X7_repeats_26 : aq_T 137 26 = some (aq_ld 0 3 27) := rfl
theorem i_X7_repeats_27 : aq_T 137 27 = some (aq_arc ac_irem 28) := rfl
theorem i_X7_repeats_28 : aq_T 137 28 = some (aq_ar af_iadd 29) := rfl
theorem i_X7_repeats_29 : aq_T 137 29 = some (aq_ldi 0 30) := rfl
theorem i_X7_repeats_30 : aq_T 137 30 = some (aq_call 136 2 (some 7) 33) := rfl
theorem i_X7_repeats_33 : aq_T 137 33 = some (aq_inc 4 (1) 36) := rfl
theorem i_X7_repeats_36 : aq_T 137 36 = some (aq_go 10) := rfl
theorem i_X7_repeats_39 : aq_T 137 39 = some (aq_retv) := rfl
theorem i_X7_reads_0 : aq_T 138 0 = some (aq_ld 4 0 1) := rfl
theorem i_X7_reads_1 : aq_T 138 1 = some (aq_push (.int (0)) 2) := rfl
theorem i_X7_reads_2 : aq_T 138 2 = some (aq_pf 7 9 0 5) := rfl
theorem i_X7_reads_5 : aq_T 138 5 = some (aq_ld 4 0 6) := rfl
theorem i_X7_reads_6 : aq_T 138 6 = some (aq_push (.int (0)) 7) := rfl
theorem i_X7_reads_7 : aq_T 138 7 = some (aq_pf 7 10 5 10) := rfl
theorem i_X7_reads_10 : aq_T 138 10 = some (aq_push (.int (0)) 11) := rfl
theorem i_X7_reads_11 : aq_T 138 11 = some (aq_st 0 1 12) := rfl
theorem i_X7_reads_12 : aq_T 138 12 = some (aq_push (.int (-1)) 13) := rfl
theorem i_X7_reads_13 : aq_T 138 13 = some (aq_st 0 2 14) := rfl
theorem i_X7_reads_14 : aq_T 138 14 = some (aq_push (.int (0)) 15) := rfl
theorem i_X7_reads_15 : aq_T 138 15 = some (aq_st 0 3 16) := rfl
theorem i_X7_reads_16 : aq_T 138 16 = some (aq_push (.int (0)) 17) := rfl
theorem i_X7_reads_17 : aq_T 138 17 = some (aq_st 0 4 19) := rfl
theorem i_X7_reads_19 : aq_T 138 19 = some (aq_ld 0 4 21) := rfl
theorem i_X7_reads_21 : aq_T 138 21 = some (aq_ld 4 0 22) := rfl
theorem i_X7_reads_22 : aq_T 138 22 = some (aq_gf 7 7 25) := rfl
theorem i_X7_reads_25 : aq_T 138 25 = some (aq_if ai_ge 213 28) := rfl
theorem i_X7_reads_28 : aq_T 138 28 = some (aq_ld 4 0 29) := rfl
theorem i_X7_reads_29 : aq_T 138 29 = some (aq_gf 7 5 32) := rfl
theorem i_X7_reads_32 : aq_T 138 32 = some (aq_ld 0 4 34) := rfl
theorem i_X7_reads_34 : aq_T 138 34 = some (aq_ldi 0 35) := rfl
theorem i_X7_reads_35 : aq_T 138 35 = some (aq_st 0 5 37) := rfl
theorem i_X7_reads_37 : aq_T 138 37 = some (aq_ld 0 5 39) := rfl
theorem i_X7_reads_39 : aq_T 138 39 = some (aq_push (.int (95)) 41) := rfl
theorem i_X7_reads_41 : aq_T 138 41 = some (aq_if ai_eq 66 44) := rfl
theorem i_X7_reads_44 : aq_T 138 44 = some (aq_ld 0 5 46) := rfl
theorem i_X7_reads_46 : aq_T 138 46 = some (aq_ar af_i2l 47) := rfl
theorem i_X7_reads_47 : aq_T 138 47 = some (aq_push (.long (97)) 50) := rfl
theorem i_X7_reads_50 : aq_T 138 50 = some (aq_push (.int (97)) 52) := rfl
theorem i_X7_reads_52 : aq_T 138 52 = some (aq_ld 4 0 53) := rfl
theorem i_X7_reads_53 : aq_T 138 53 = some (aq_gf 7 1 56) := rfl
theorem i_X7_reads_56 : aq_T 138 56 = some (aq_ar af_iadd 57) := rfl
theorem i_X7_reads_57 : aq_T 138 57 = some (aq_push (.int (1)) 58) := rfl
theorem i_X7_reads_58 : aq_T 138 58 = some (aq_ar af_isub 59) := rfl
theorem i_X7_reads_59 : aq_T 138 59 = some (aq_ar af_i2l 60) := rfl
theorem i_X7_reads_60 : aq_T 138 60 = some (aq_call 129 3 none 63) := rfl
theorem i_X7_reads_63 : aq_T 138 63 = some (aq_if ai_eq0 96 66) := rfl
theorem i_X7_reads_66 : aq_T 138 66 = some (aq_ld 4 0 67) := rfl
theorem i_X7_reads_67 : aq_T 138 67 = some (aq_gf 7 9 70) := rfl
theorem i_X7_reads_70 : aq_T 138 70 = some (aq_st 0 2 71) := rfl
theorem i_X7_reads_71 : aq_T 138 71 = some (aq_ld 4 0 72) := rfl
theorem i_X7_reads_72 : aq_T 138 72 = some (aq_ld 0 5 74) := rfl
theorem i_X7_reads_74 : aq_T 138 74 = some (aq_push (.int (95)) 76) := rfl
theorem i_X7_reads_76 : aq_T 138 76 = some (aq_if ai_ne 83 79) := rfl
theorem i_X7_reads_79 : aq_T 138 79 = some (aq_push (.int (-1)) 80) := rfl
theorem i_X7_reads_80 : aq_T 138 80 = some (aq_go 88) := rfl
theorem i_X7_reads_83 : aq_T 138 83 = some (aq_ld 0 5 85) := rfl
theorem i_X7_reads_85 : aq_T 138 85 = some (aq_push (.int (97)) 87) := rfl
theorem i_X7_reads_87 : aq_T 138 87 = some (aq_ar af_isub 88) := rfl
theorem i_X7_reads_88 : aq_T 138 88 = some (aq_call 136 2 (some 7) 91) := rfl
theorem i_X7_reads_91 : aq_T 138 91 = some (aq_push (.int (0)) 92) := rfl
theorem i_X7_reads_92 : aq_T 138 92 = some (aq_st 0 3 93) := rfl
theorem i_X7_reads_93 : aq_T 138 93 = some (aq_go 207) := rfl
theorem i_X7_reads_96 : aq_T 138 96 = some (aq_ld 0 5 98) := rfl
theorem i_X7_reads_98 : aq_T 138 98 = some (aq_push (.int (40)) 100) := rfl
theorem i_X7_reads_100 : aq_T 138 100 = some (aq_if ai_ne 131 103) := rfl
theorem i_X7_reads_103 : aq_T 138 103 = some (aq_ld 0 1 104) := rfl
theorem i_X7_reads_104 : aq_T 138 104 = some (aq_push (.int (4)) 105) := rfl
theorem i_X7_reads_105 : aq_T 138 105 = some (aq_if ai_ne 111 108) := rfl
theorem i_X7_reads_108 : aq_T 138 108 = some (aq_ld 0 4 110) := rfl
theorem i_X7_reads_110 : aq_T 138 110 = some (aq_ret 0) := rfl
theorem i_X7_reads_111 : aq_T 138 111 = some (aq_ld 4 0 112) := rfl
theorem i_X7_reads_112 : aq_T 138 112 = some (aq_gf 7 6 115) := rfl
theorem i_X7_reads_115 : aq_T 138 115 = some (aq_ld 0 1 116) := rfl
theorem i_X7_reads_116 : aq_T 138 116 = some (aq_ld 4 0 117) := rfl
theorem i_X7_reads_117 : aq_T 138 117 = some (aq_gf 7 9 120) := rfl
theorem i_X7_reads_120 : aq_T 138 120 = some (aq_sti 121) := rfl
theorem i_X7_reads_121 : aq_T 138 121 = some (aq_inc 1 (1) 124) := rfl
theorem i_X7_reads_124 : aq_T 138 124 = some (aq_push (.int (-1)) 125) := rfl
theorem i_X7_reads_125 : aq_T 138 125 = some (aq_st 0 2 126) := rfl
theorem i_X7_reads_126 : aq_T 138 126 = some (aq_push (.int (1)) 127) := rfl
theorem i_X7_reads_127 : aq_T 138 127 = some (aq_st 0 3 128) := rfl
theorem i_X7_reads_128 : aq_T 138 128 = some (aq_go 207) := rfl
theorem i_X7_reads_131 : aq_T 138 131 = some (aq_ld 0 5 133) := rfl
theorem i_X7_reads_133 : aq_T 138 133 = some (aq_push (.int (41)) 135) := rfl
theorem i_X7_reads_135 : aq_T 138 135 = some (aq_if ai_ne 162 138) := rfl
theorem i_X7_reads_138 : aq_T 138 138 = some (aq_ld 0 1 139) := rfl
theorem i_X7_reads_139 : aq_T 138 139 = some (aq_if ai_eq0 146 142) := rfl
theorem i_X7_reads_142 : aq_T 138 142 = some (aq_ld 0 3 143) := rfl
theorem i_X7_reads_143 : aq_T 138 143 = some (aq_if ai_eq0 149 146) := rfl
theorem i_X7_reads_146 : aq_T 138 146 = some (aq_ld 0 4 148) := rfl
theorem i_X7_reads_148 : aq_T 138 148 = some (aq_ret 0) := rfl
theorem i_X7_reads_149 : aq_T 138 149 = some (aq_inc 1 (-1) 152) := rfl
theorem i_X7_reads_152 : aq_T 138 152 = some (aq_ld 4 0 153) := rfl
theorem i_X7_reads_153 : aq_T 138 153 = some (aq_gf 7 6 156) := rfl
theorem i_X7_reads_156 : aq_T 138 156 = some (aq_ld 0 1 157) := rfl
theorem i_X7_reads_157 : aq_T 138 157 = some (aq_ldi 0 158) := rfl
theorem i_X7_reads_158 : aq_T 138 158 = some (aq_st 0 2 159) := rfl
theorem i_X7_reads_159 : aq_T 138 159 = some (aq_go 207) := rfl
theorem i_X7_reads_162 : aq_T 138 162 = some (aq_ld 0 5 164) := rfl
theorem i_X7_reads_164 : aq_T 138 164 = some (aq_ar af_i2l 165) := rfl
theorem i_X7_reads_165 : aq_T 138 165 = some (aq_push (.long (50)) 168) := rfl
theorem i_X7_reads_168 : aq_T 138 168 = some (aq_push (.long (57)) 171) := rfl
theorem i_X7_reads_171 : aq_T 138 171 = some (aq_call 129 3 none 174) := rfl
theorem i_X7_reads_174 : aq_T 138 174 = some (aq_if ai_eq0 204 177) := rfl
theorem i_X7_reads_177 : aq_T 138 177 = some (aq_ld 0 2 178) := rfl
theorem i_X7_reads_178 : aq_T 138 178 = some (aq_if ai_lt0 204 181) := rfl
theorem i_X7_reads_181 : aq_T 138 181 = some (aq_ld 0 2 182) := rfl
theorem i_X7_reads_182 : aq_T 138 182 = some (aq_ld 4 0 183) := rfl
theorem i_X7_reads_183 : aq_T 138 183 = some (aq_gf 7 9 186) := rfl
theorem i_X7_reads_186 : aq_T 138 186 = some (aq_if ai_ge 199 189) := rfl
theorem i_X7_reads_189 : aq_T 138 189 = some (aq_ld 4 0 190) := rfl
theorem i_X7_reads_190 : aq_T 138 190 = some (aq_ld 0 2 191) := rfl
theorem i_X7_reads_191 : aq_T 138 191 = some (aq_ld 0 5 193) := rfl
theorem i_X7_reads_193 : aq_T 138 193 = some (aq_push (.int (48)) 195) := rfl
theorem i_X7_reads_195 : aq_T 138 195 = some (aq_ar af_isub 196) := rfl
theorem i_X7_reads_196 : aq_T 138 196 = some (aq_call 137 3 (some 7) 199) := rfl
theorem i_X7_reads_199 : aq_T 138 199 = some (aq_push (.int (-1)) 200) := rfl
theorem i_X7_reads_200 : aq_T 138 200 = some (aq_st 0 2 201) := rfl
theorem i_X7_reads_201 : aq_T 138 201 = some (aq_go 207) := rfl
theorem i_X7_reads_204 : aq_T 138 204 = some (aq_ld 0 4 206) := rfl
theorem i_X7_reads_206 : aq_T 138 206 = some (aq_ret 0) := rfl
theorem i_X7_reads_207 : aq_T 138 207 = some (aq_inc 4 (1) 210) := rfl
theorem i_X7_reads_210 : aq_T 138 210 = some (aq_go 19) := rfl
theorem i_X7_reads_213 : aq_T 138 213 = some (aq_ld 0 1 214) := rfl
theorem i_X7_reads_214 : aq_T 138 214 = some (aq_if ai_le0 224 217) := rfl
theorem i_X7_reads_217 : aq_T 138 217 = some (aq_ld 4 0 218) := rfl
theorem i_X7_reads_218 : aq_T 138 218 = some (aq_gf 7 7 221) := rfl
theorem i_X7_reads_221 : aq_T 138 221 = some (aq_go 225) := rfl
theorem i_X7_reads_224 : aq_T 138 224 = some (aq_push (.int (-1)) 225) := rfl
theorem i_X7_reads_225 : aq_T 138 225 = some (aq_ret 0) := rfl
theorem i_X7_parseWord_0 : aq_T 139 0 = some (aq_ld 0 1 1) := rfl
theorem i_X7_parseWord_1 : aq_T 139 1 = some (aq_call 130 1 none 4) := rfl
theorem i_X7_parseWord_4 : aq_T 139 4 = some (aq_if ai_ne0 13 7) := rfl
theorem i_X7_parseWord_7 : aq_T 139 7 = some (aq_ld 4 0 8) := rfl
theorem i_X7_parseWord_8 : aq_T 139 8 = some (aq_push (.int (1)) 9) := rfl
theorem i_X7_parseWord_9 : aq_T 139 9 = some (aq_call 127 2 (some 7) 12) := rfl
theorem i_X7_parseWord_12 : aq_T 139 12 = some (aq_ret 0) := rfl
theorem i_X7_parseWord_13 : aq_T 139 13 = some (aq_ld 4 0 14) := rfl
theorem i_X7_parseWord_14 : aq_T 139 14 = some (aq_call 138 1 (some 7) 17) := rfl
theorem i_X7_parseWord_17 : aq_T 139 17 = some (aq_st 0 2 18) := rfl
theorem i_X7_parseWord_18 : aq_T 139 18 = some (aq_ld 4 0 19) := rfl
theorem i_X7_parseWord_19 : aq_T 139 19 = some (aq_push (.int (0)) 20) := rfl
theorem i_X7_parseWord_20 : aq_T 139 20 = some (aq_pf 7 7 0 23) := rfl
theorem i_X7_parseWord_23 : aq_T 139 23 = some (aq_ld 0 2 24) := rfl
theorem i_X7_parseWord_24 : aq_T 139 24 = some (aq_if ai_lt0 32 27) := rfl
theorem i_X7_parseWord_27 : aq_T 139 27 = some (aq_ld 4 0 28) := rfl
theorem i_X7_parseWord_28 : aq_T 139 28 = some (aq_ld 0 2 29) := rfl
theorem i_X7_parseWord_29 : aq_T 139 29 = some (aq_pf 7 8 0 32) := rfl
theorem i_X7_parseWord_32 : aq_T 139 32 = some (aq_ld 0 2 33) := rfl
theorem i_X7_parseWord_33 : aq_T 139 33 = some (aq_if ai_ge0 43 36) := rfl
theorem i_X7_parseWord_36 : aq_T 139 36 = some (aq_ld 4 0 37) := rfl
theorem i_X7_parseWord_37 : aq_T 139 37 = some (aq_gf 7 10 40) := rfl
theorem i_X7_parseWord_40 : aq_T 139 40 = some (aq_if ai_eq0 49 43) := rfl
theorem i_X7_parseWord_43 : aq_T 139 43 = some (aq_ld 4 0 44) := rfl
theorem i_X7_parseWord_44 : aq_T 139 44 = some (aq_push (.int (2)) 45) := rfl
theorem i_X7_parseWord_45 : aq_T 139 45 = some (aq_call 127 2 (some 7) 48) := rfl
theorem i_X7_parseWord_48 : aq_T 139 48 = some (aq_ret 0) := rfl
theorem i_X7_parseWord_49 : aq_T 139 49 = some (aq_ld 4 0 50) := rfl
theorem i_X7_parseWord_50 : aq_T 139 50 = some (aq_push (.int (0)) 51) := rfl
theorem i_X7_parseWord_51 : aq_T 139 51 = some (aq_pf 7 0 0 54) := rfl
theorem i_X7_parseWord_54 : aq_T 139 54 = some (aq_ld 4 0 55) := rfl
theorem i_X7_parseWord_55 : aq_T 139 55 = some (aq_gf 7 2 58) := rfl
theorem i_X7_parseWord_58 : aq_T 139 58 = some (aq_ld 0 1 59) := rfl
theorem i_X7_parseWord_59 : aq_T 139 59 = some (aq_ld 4 0 60) := rfl
theorem i_X7_parseWord_60 : aq_T 139 60 = some (aq_gf 7 9 63) := rfl
theorem i_X7_parseWord_63 : aq_T 139 63 = some (aq_sti 64) := rfl
theorem i_X7_parseWord_64 : aq_T 139 64 = some (aq_push (.int (0)) 65) := rfl
theorem i_X7_parseWord_65 : aq_T 139 65 = some (aq_st 0 3 66) := rfl
theorem i_X7_parseWord_66 : aq_T 139 66 = some (aq_ld 0 3 67) := rfl
theorem i_X7_parseWord_67 : aq_T 139 67 = some (aq_ld 4 0 68) := rfl
theorem i_X7_parseWord_68 : aq_T 139 68 = some (aq_gf 7 9 71) := rfl
theorem i_X7_parseWord_71 : aq_T 139 71 = some (aq_if ai_ge 97 74) := rfl
theorem i_X7_parseWord_74 : aq_T 139 74 = some (aq_ld 4 0 75) := rfl
theorem i_X7_parseWord_75 : aq_T 139 75 = some (aq_gf 7 3 78) := rfl
theorem i_X7_parseWord_78 : aq_T 139 78 = some (aq_push (.int (40)) 80) := rfl
theorem i_X7_parseWord_80 : aq_T 139 80 = some (aq_ld 0 1 81) := rfl
theorem i_X7_parseWord_81 : aq_T 139 81 = some (aq_ar af_imul 82) := rfl
theorem i_X7_parseWord_82 : aq_T 139 82 = some (aq_ld 0 3 83) := rfl
theorem i_X7_parseWord_83 : aq_T 139 83 = some (aq_ar af_iadd 84) := rfl
theorem i_X7_parseWord_84 : aq_T 139 84 = some (aq_ld 4 0 85) := rfl
theorem i_X7_parseWord_85 : aq_T 139 85 = some (aq_gf 7 4 88) := rfl
theorem i_X7_parseWord_88 : aq_T 139 88 = some (aq_ld 0 3 89) := rfl
theorem i_X7_parseWord_89 : aq_T 139 89 = some (aq_ldi 0 90) := rfl
theorem i_X7_parseWord_90 : aq_T 139 90 = some (aq_sti 91) := rfl
theorem i_X7_parseWord_91 : aq_T 139 91 = some (aq_inc 3 (1) 94) := rfl
theorem i_X7_parseWord_94 : aq_T 139 94 = some (aq_go 66) := rfl
theorem i_X7_parseWord_97 : aq_T 139 97 = some (aq_ld 4 0 98) := rfl
theorem i_X7_parseWord_98 : aq_T 139 98 = some (aq_gf 7 9 101) := rfl
theorem i_X7_parseWord_101 : aq_T 139 101 = some (aq_ret 0) := rfl
theorem i_X7_errorPosition_0 : aq_T 140 0 = some (aq_ld 4 0 1) := rfl
theorem i_X7_errorPosition_1 : aq_T 140 1 = some (aq_gf 7 8 4) := rfl
theorem i_X7_errorPosition_4 : aq_T 140 4 = some (aq_if ai_ge0 13 7) := rfl
theorem i_X7_errorPosition_7 : aq_T 140 7 = some (aq_ld 4 0 8) := rfl
theorem i_X7_errorPosition_8 : aq_T 140 8 = some (aq_push (.int (1)) 9) := rfl
theorem i_X7_errorPosition_9 : aq_T 140 9 = some (aq_call 127 2 (some 7) 12) := rfl
theorem i_X7_errorPosition_12 : aq_T 140 12 = some (aq_ret 0) := rfl
theorem i_X7_errorPosition_13 : aq_T 140 13 = some (aq_ld 4 0 14) := rfl
theorem i_X7_errorPosition_14 : aq_T 140 14 = some (aq_push (.int (0)) 15) := rfl
theorem i_X7_errorPosition_15 : aq_T 140 15 = some (aq_pf 7 0 0 18) := rfl
theorem i_X7_errorPosition_18 : aq_T 140 18 = some (aq_ld 4 0 19) := rfl
theorem i_X7_errorPosition_19 : aq_T 140 19 = some (aq_gf 7 8 22) := rfl
theorem i_X7_errorPosition_22 : aq_T 140 22 = some (aq_ret 0) := rfl
theorem i_X7_length_0 : aq_T 141 0 = some (aq_ld 0 1 1) := rfl
theorem i_X7_length_1 : aq_T 141 1 = some (aq_call 130 1 none 4) := rfl
theorem i_X7_length_4 : aq_T 141 4 = some (aq_if ai_ne0 13 7) := rfl
theorem i_X7_length_7 : aq_T 141 7 = some (aq_ld 4 0 8) := rfl
theorem i_X7_length_8 : aq_T 141 8 = some (aq_push (.int (1)) 9) := rfl
theorem i_X7_length_9 : aq_T 141 9 = some (aq_call 127 2 (some 7) 12) := rfl
theorem i_X7_length_12 : aq_T 141 12 = some (aq_ret 0) := rfl
theorem i_X7_length_13 : aq_T 141 13 = some (aq_ld 4 0 14) := rfl
theorem i_X7_length_14 : aq_T 141 14 = some (aq_push (.int (0)) 15) := rfl
theorem i_X7_length_15 : aq_T 141 15 = some (aq_pf 7 0 0 18) := rfl
theorem i_X7_length_18 : aq_T 141 18 = some (aq_ld 4 0 19) := rfl
theorem i_X7_length_19 : aq_T 141 19 = some (aq_gf 7 2 22) := rfl
theorem i_X7_length_22 : aq_T 141 22 = some (aq_ld 0 1 23) := rfl
theorem i_X7_length_23 : aq_T 141 23 = some (aq_ldi 0 24) := rfl
theorem i_X7_length_24 : aq_T 141 24 = some (aq_ret 0) := rfl
theorem i_X7_notAt_0 : aq_T 142 0 = some (aq_ld 0 1 1) := rfl
theorem i_X7_notAt_1 : aq_T 142 1 = some (aq_call 130 1 none 4) := rfl
theorem i_X7_notAt_4 : aq_T 142 4 = some (aq_if ai_ne0 11 7) := rfl
theorem i_X7_notAt_7 : aq_T 142 7 = some (aq_push (.int (1)) 8) := rfl
theorem i_X7_notAt_8 : aq_T 142 8 = some (aq_go 34) := rfl
theorem i_X7_notAt_11 : aq_T 142 11 = some (aq_ld 0 2 12) := rfl
theorem i_X7_notAt_12 : aq_T 142 12 = some (aq_ar af_i2l 13) := rfl
theorem i_X7_notAt_13 : aq_T 142 13 = some (aq_push (.long 0) 14) := rfl
theorem i_X7_notAt_14 : aq_T 142 14 = some (aq_ld 4 0 15) := rfl
theorem i_X7_notAt_15 : aq_T 142 15 = some (aq_gf 7 2 18) := rfl
theorem i_X7_notAt_18 : aq_T 142 18 = some (aq_ld 0 1 19) := rfl
theorem i_X7_notAt_19 : aq_T 142 19 = some (aq_ldi 0 20) := rfl
theorem i_X7_notAt_20 : aq_T 142 20 = some (aq_push (.int (1)) 21) := rfl
theorem i_X7_notAt_21 : aq_T 142 21 = some (aq_ar af_isub 22) := rfl
theorem i_X7_notAt_22 : aq_T 142 22 = some (aq_ar af_i2l 23) := rfl
theorem i_X7_notAt_23 : aq_T 142 23 = some (aq_call 129 3 none 26) := rfl
theorem i_X7_notAt_26 : aq_T 142 26 = some (aq_if ai_ne0 33 29) := rfl
theorem i_X7_notAt_29 : aq_T 142 29 = some (aq_push (.int (2)) 30) := rfl
theorem i_X7_notAt_30 : aq_T 142 30 = some (aq_go 34) := rfl
theorem i_X7_notAt_33 : aq_T 142 33 = some (aq_push (.int (0)) 34) := rfl
theorem i_X7_notAt_34 : aq_T 142 34 = some (aq_ret 0) := rfl
theorem i_X7_symbol_0 : aq_T 143 0 = some (aq_ld 4 0 1) := rfl
theorem i_X7_symbol_1 : aq_T 143 1 = some (aq_ld 4 0 2) := rfl
theorem i_X7_symbol_2 : aq_T 143 2 = some (aq_ld 0 1 3) := rfl
theorem i_X7_symbol_3 : aq_T 143 3 = some (aq_ld 0 2 4) := rfl
theorem i_X7_symbol_4 : aq_T 143 4 = some (aq_call 142 3 (some 7) 7) := rfl
theorem i_X7_symbol_7 : aq_T 143 7 = some (aq_pf 7 0 0 10) := rfl
theorem i_X7_symbol_10 : aq_T 143 10 = some (aq_ld 4 0 11) := rfl
theorem i_X7_symbol_11 : aq_T 143 11 = some (aq_gf 7 0 14) := rfl
theorem i_X7_symbol_14 : aq_T 143 14 = some (aq_if ai_le0 21 17) := rfl
theorem i_X7_symbol_17 : aq_T 143 17 = some (aq_push (.int (0)) 18) := rfl
theorem i_X7_symbol_18 : aq_T 143 18 = some (aq_go 27) := rfl
theorem i_X7_symbol_21 : aq_T 143 21 = some (aq_ld 4 0 22) := rfl
theorem i_X7_symbol_22 : aq_T 143 22 = some (aq_ld 0 1 23) := rfl
theorem i_X7_symbol_23 : aq_T 143 23 = some (aq_ld 0 2 24) := rfl
theorem i_X7_symbol_24 : aq_T 143 24 = some (aq_call 132 3 (some 7) 27) := rfl
theorem i_X7_symbol_27 : aq_T 143 27 = some (aq_ret 0) := rfl
theorem i_X7_setSymbol_0 : aq_T 144 0 = some (aq_ld 0 1 1) := rfl
theorem i_X7_setSymbol_1 : aq_T 144 1 = some (aq_call 130 1 none 4) := rfl
theorem i_X7_setSymbol_4 : aq_T 144 4 = some (aq_if ai_eq0 15 7) := rfl
theorem i_X7_setSymbol_7 : aq_T 144 7 = some (aq_ld 4 0 8) := rfl
theorem i_X7_setSymbol_8 : aq_T 144 8 = some (aq_ld 0 3 9) := rfl
theorem i_X7_setSymbol_9 : aq_T 144 9 = some (aq_call 131 2 (some 7) 12) := rfl
theorem i_X7_setSymbol_12 : aq_T 144 12 = some (aq_if ai_ne0 21 15) := rfl
theorem i_X7_setSymbol_15 : aq_T 144 15 = some (aq_ld 4 0 16) := rfl
theorem i_X7_setSymbol_16 : aq_T 144 16 = some (aq_push (.int (1)) 17) := rfl
theorem i_X7_setSymbol_17 : aq_T 144 17 = some (aq_call 127 2 (some 7) 20) := rfl
theorem i_X7_setSymbol_20 : aq_T 144 20 = some (aq_ret 0) := rfl
theorem i_X7_setSymbol_21 : aq_T 144 21 = some (aq_ld 4 0 22) := rfl
theorem i_X7_setSymbol_22 : aq_T 144 22 = some (aq_ld 4 0 23) := rfl
theorem i_X7_setSymbol_23 : aq_T 144 23 = some (aq_ld 0 1 24) := rfl
theorem i_X7_setSymbol_24 : aq_T 144 24 = some (aq_ld 0 2 25) := rfl
theorem i_X7_setSymbol_25 : aq_T 144 25 = some (aq_call 142 3 (some 7) 28) := rfl
theorem i_X7_setSymbol_28 : aq_T 144 28 = some (aq_pf 7 0 0 31) := rfl
theorem i_X7_setSymbol_31 : aq_T 144 31 = some (aq_ld 4 0 32) := rfl
theorem i_X7_setSymbol_32 : aq_T 144 32 = some (aq_gf 7 0 35) := rfl
theorem i_X7_setSymbol_35 : aq_T 144 35 = some (aq_if ai_le0 40 38) := rfl
theorem i_X7_setSymbol_38 : aq_T 144 38 = some (aq_push (.int (0)) 39) := rfl
theorem i_X7_setSymbol_39 : aq_T 144 39 = some (aq_ret 0) := rfl
theorem i_X7_setSymbol_40 : aq_T 144 40 = some (aq_ld 4 0 41) := rfl
theorem i_X7_setSymbol_41 : aq_T 144 41 = some (aq_ld 0 1 42) := rfl
theorem i_X7_setSymbol_42 : aq_T 144 42 = some (aq_ld 0 2 43) := rfl
theorem i_X7_setSymbol_43 : aq_T 144 43 = some (aq_call 132 3 (some 7) 46) := rfl
theorem i_X7_setSymbol_46 : aq_T 144 46 = some (aq_st 0 4 48) := rfl
theorem i_X7_setSymbol_48 : aq_T 144 48 = some (aq_ld 4 0 49) := rfl
theorem i_X7_setSymbol_49 : aq_T 144 49 = some (aq_gf 7 3 52) := rfl
theorem i_X7_setSymbol_52 : aq_T 144 52 = some (aq_push (.int (40)) 54) := rfl
theorem i_X7_setSymbol_54 : aq_T 144 54 = some (aq_ld 0 1 55) := rfl
theorem i_X7_setSymbol_55 : aq_T 144 55 = some (aq_ar af_imul 56) := rfl
theorem i_X7_setSymbol_56 : aq_T 144 56 = some (aq_ld 0 2 57) := rfl
theorem i_X7_setSymbol_57 : aq_T 144 57 = some (aq_ar af_iadd 58) := rfl
theorem i_X7_setSymbol_58 : aq_T 144 58 = some (aq_ld 0 3 59) := rfl
theorem i_X7_setSymbol_59 : aq_T 144 59 = some (aq_sti 60) := rfl
theorem i_X7_setSymbol_60 : aq_T 144 60 = some (aq_ld 0 4 62) := rfl
theorem i_X7_setSymbol_62 : aq_T 144 62 = some (aq_ret 0) := rfl
theorem i_X7_clear_0 : aq_T 145 0 = some (aq_ld 0 1 1) := rfl
theorem i_X7_clear_1 : aq_T 145 1 = some (aq_call 130 1 none 4) := rfl
theorem i_X7_clear_4 : aq_T 145 4 = some (aq_if ai_ne0 13 7) := rfl
theorem i_X7_clear_7 : aq_T 145 7 = some (aq_ld 4 0 8) := rfl
theorem i_X7_clear_8 : aq_T 145 8 = some (aq_push (.int (1)) 9) := rfl
theorem i_X7_clear_9 : aq_T 145 9 = some (aq_call 127 2 (some 7) 12) := rfl
theorem i_X7_clear_12 : aq_T 145 12 = some (aq_ret 0) := rfl
theorem i_X7_clear_13 : aq_T 145 13 = some (aq_ld 4 0 14) := rfl
theorem i_X7_clear_14 : aq_T 145 14 = some (aq_push (.int (0)) 15) := rfl
theorem i_X7_clear_15 : aq_T 145 15 = some (aq_pf 7 0 0 18) := rfl
theorem i_X7_clear_18 : aq_T 145 18 = some (aq_ld 4 0 19) := rfl
theorem i_X7_clear_19 : aq_T 145 19 = some (aq_gf 7 2 22) := rfl
theorem i_X7_clear_22 : aq_T 145 22 = some (aq_ld 0 1 23) := rfl
theorem i_X7_clear_23 : aq_T 145 23 = some (aq_ldi 0 24) := rfl
theorem i_X7_clear_24 : aq_T 145 24 = some (aq_st 0 2 25) := rfl
theorem i_X7_clear_25 : aq_T 145 25 = some (aq_ld 4 0 26) := rfl
theorem i_X7_clear_26 : aq_T 145 26 = some (aq_gf 7 2 29) := rfl
theorem i_X7_clear_29 : aq_T 145 29 = some (aq_ld 0 1 30) := rfl
theorem i_X7_clear_30 : aq_T 145 30 = some (aq_push (.int (0)) 31) := rfl
theorem i_X7_clear_31 : aq_T 145 31 = some (aq_sti 32) := rfl
theorem i_X7_clear_32 : aq_T 145 32 = some (aq_ld 0 2 33) := rfl
theorem i_X7_clear_33 : aq_T 145 33 = some (aq_ret 0) := rfl
theorem i_X7_concatenate_0 : aq_T 146 0 = some (aq_ld 0 1 1) := rfl
theorem i_X7_concatenate_1 : aq_T 146 1 = some (aq_call 130 1 none 4) := rfl
theorem i_X7_concatenate_4 : aq_T 146 4 = some (aq_if ai_eq0 14 7) := rfl
theorem i_X7_concatenate_7 : aq_T 146 7 = some (aq_ld 0 2 8) := rfl
theorem i_X7_concatenate_8 : aq_T 146 8 = some (aq_call 130 1 none 11) := rfl
theorem i_X7_concatenate_11 : aq_T 146 11 = some (aq_if ai_ne0 20 14) := rfl
theorem i_X7_concatenate_14 : aq_T 146 14 = some (aq_ld 4 0 15) := rfl
theorem i_X7_concatenate_15 : aq_T 146 15 = some (aq_push (.int (1)) 16) := rfl
theorem i_X7_concatenate_16 : aq_T 146 16 = some (aq_call 127 2 (some 7) 19) := rfl
theorem i_X7_concatenate_19 : aq_T 146 19 = some (aq_ret 0) := rfl
theorem i_X7_concatenate_20 : aq_T 146 20 = some (aq_ld 4 0 21) := rfl
theorem i_X7_concatenate_21 : aq_T 146 21 = some (aq_gf 7 2 24) := rfl
theorem i_X7_concatenate_24 : aq_T 146 24 = some (aq_ld 0 2 25) := rfl
theorem i_X7_concatenate_25 : aq_T 146 25 = some (aq_ldi 0 26) := rfl
theorem i_X7_concatenate_26 : aq_T 146 26 = some (aq_st 0 3 27) := rfl
theorem i_X7_concatenate_27 : aq_T 146 27 = some (aq_ld 4 0 28) := rfl
theorem i_X7_concatenate_28 : aq_T 146 28 = some (aq_gf 7 2 31) := rfl
theorem i_X7_concatenate_31 : aq_T 146 31 = some (aq_ld 0 1 32) := rfl
theorem i_X7_concatenate_32 : aq_T 146 32 = some (aq_ldi 0 33) := rfl
theorem i_X7_concatenate_33 : aq_T 146 33 = some (aq_ld 0 3 34) := rfl
theorem i_X7_concatenate_34 : aq_T 146 34 = some (aq_ar af_iadd 35) := rfl
theorem i_X7_concatenate_35 : aq_T 146 35 = some (aq_push (.int (40)) 37) := rfl
theorem i_X7_concatenate_37 : aq_T 146 37 = some (aq_if ai_le 46 40) := rfl
theorem i_X7_concatenate_40 : aq_T 146 40 = some (aq_ld 4 0 41) := rfl
theorem i_X7_concatenate_41 : aq_T 146 41 = some (aq_push (.int (2)) 42) := rfl
theorem i_X7_concatenate_42 : aq_T 146 42 = some (aq_call 127 2 (some 7) 45) := rfl
theorem i_X7_concatenate_45 : aq_T 146 45 = some (aq_ret 0) := rfl
theorem i_X7_concatenate_46 : aq_T 146 46 = some (aq_ld 4 0 47) := rfl
theorem i_X7_concatenate_47 : aq_T 146 47 = some (aq_push (.int (0)) 48) := rfl
theorem i_X7_concatenate_48 : aq_T 146 48 = some (aq_pf 7 0 0 51) := rfl
theorem i_X7_concatenate_51 : aq_T 146 51 = some (aq_push (.int (0)) 52) := rfl
theorem i_X7_concatenate_52 : aq_T 146 52 = some (aq_st 0 4 54) := rfl
theorem i_X7_concatenate_54 : aq_T 146 54 = some (aq_ld 0 4 56) := rfl
theorem i_X7_concatenate_56 : aq_T 146 56 = some (aq_ld 0 3 57) := rfl
theorem i_X7_concatenate_57 : aq_T 146 57 = some (aq_if ai_ge 92 60) := rfl
theorem i_X7_concatenate_60 : aq_T 146 60 = some (aq_ld 4 0 61) := rfl
theorem i_X7_concatenate_61 : aq_T 146 61 = some (aq_gf 7 3 64) := rfl
theorem i_X7_concatenate_64 : aq_T 146 64 = some (aq_push (.int (40)) 66) := rfl
theorem i_X7_concatenate_66 : aq_T 146 66 = some (aq_ld 0 1 67) := rfl
theorem i_X7_concatenate_67 : aq_T 146 67 = some (aq_ar af_imul 68) := rfl
theorem i_X7_concatenate_68 : aq_T 146 68 = some (aq_ld 4 0 69) := rfl
theorem i_X7_concatenate_69 : aq_T 146 69 = some (aq_gf 7 2 72) := rfl
theorem i_X7_concatenate_72 : aq_T 146 72 = some (aq_ld 0 1 73) := rfl
theorem i_X7_concatenate_73 : aq_T 146 73 = some (aq_ldi 0 74) := rfl
theorem i_X7_concatenate_74 : aq_T 146 74 = some (aq_ar af_iadd 75) := rfl
theorem i_X7_concatenate_75 : aq_T 146 75 = some (aq_ld 0 4 77) := rfl
theorem i_X7_concatenate_77 : aq_T 146 77 = some (aq_ar af_iadd 78) := rfl
theorem i_X7_concatenate_78 : aq_T 146 78 = some (aq_ld 4 0 79) := rfl
theorem i_X7_concatenate_79 : aq_T 146 79 = some (aq_ld 0 2 80) := rfl
theorem i_X7_concatenate_80 : aq_T 146 80 = some (aq_ld 0 4 82) := rfl
theorem i_X7_concatenate_82 : aq_T 146 82 = some (aq_call 132 3 (some 7) 85) := rfl
theorem i_X7_concatenate_85 : aq_T 146 85 = some (aq_sti 86) := rfl
theorem i_X7_concatenate_86 : aq_T 146 86 = some (aq_inc 4 (1) 89) := rfl
theorem i_X7_concatenate_89 : aq_T 146 89 = some (aq_go 54) := rfl
theorem i_X7_concatenate_92 : aq_T 146 92 = some (aq_ld 4 0 93) := rfl
theorem i_X7_concatenate_93 : aq_T 146 93 = some (aq_gf 7 2 96) := rfl
theorem i_X7_concatenate_96 : aq_T 146 96 = some (aq_ld 0 1 97) := rfl
theorem i_X7_concatenate_97 : aq_T 146 97 = some (aq_ar af_dup11 98) := rfl
theorem i_X7_concatenate_98 : aq_T 146 98 = some (aq_ldi 0 99) := rfl
theorem i_X7_concatenate_99 : aq_T 146 99 = some (aq_ld 0 3 100) := rfl
theorem i_X7_concatenate_100 : aq_T 146 100 = some (aq_ar af_iadd 101) := rfl
theorem i_X7_concatenate_101 : aq_T 146 101 = some (aq_sti 102) := rfl
theorem i_X7_concatenate_102 : aq_T 146 102 = some (aq_ld 4 0 103) := rfl
theorem i_X7_concatenate_103 : aq_T 146 103 = some (aq_gf 7 2 106) := rfl
theorem i_X7_concatenate_106 : aq_T 146 106 = some (aq_ld 0 1 107) := rfl
theorem i_X7_concatenate_107 : aq_T 146 107 = some (aq_ldi 0 108) := rfl
theorem i_X7_concatenate_108 : aq_T 146 108 = some (aq_ret 0) := rfl
theorem i_X7_replaces_0 : aq_T 147 0 = some (aq_push (.int (1)) 1) := rfl
theorem i_X7_replaces_1 : aq_T 147 1 = some (aq_st 0 2 2) := rfl
theorem i_X7_replaces_2 : aq_T 147 2 = some (aq_push (.int (0)) 3) := rfl
theorem i_X7_replaces_3 : aq_T 147 3 = some (aq_st 0 3 4) := rfl
theorem i_X7_replaces_4 : aq_T 147 4 = some (aq_ld 0 3 5) := rfl
theorem i_X7_replaces_5 : aq_T 147 5 = some (aq_ld 4 0 6) := rfl
theorem i_X7_replaces_6 : aq_T 147 6 = some (aq_gf 7 2 9) := rfl
theorem i_X7_replaces_9 : aq_T 147 9 = some (aq_ld 0 1 10) := rfl
theorem i_X7_replaces_10 : aq_T 147 10 = some (aq_ldi 0 11) := rfl
theorem i_X7_replaces_11 : aq_T 147 11 = some (aq_if ai_ge 62 14) := rfl
theorem i_X7_replaces_14 : aq_T 147 14 = some (aq_ld 0 2 15) := rfl
theorem i_X7_replaces_15 : aq_T 147 15 = some (aq_if ai_eq0 37 18) := rfl
theorem i_X7_replaces_18 : aq_T 147 18 = some (aq_ld 4 0 19) := rfl
theorem i_X7_replaces_19 : aq_T 147 19 = some (aq_ld 0 1 20) := rfl
theorem i_X7_replaces_20 : aq_T 147 20 = some (aq_ld 0 3 21) := rfl
theorem i_X7_replaces_21 : aq_T 147 21 = some (aq_call 132 3 (some 7) 24) := rfl
theorem i_X7_replaces_24 : aq_T 147 24 = some (aq_ld 4 0 25) := rfl
theorem i_X7_replaces_25 : aq_T 147 25 = some (aq_gf 7 4 28) := rfl
theorem i_X7_replaces_28 : aq_T 147 28 = some (aq_ld 0 3 29) := rfl
theorem i_X7_replaces_29 : aq_T 147 29 = some (aq_ldi 0 30) := rfl
theorem i_X7_replaces_30 : aq_T 147 30 = some (aq_if ai_ne 37 33) := rfl
theorem i_X7_replaces_33 : aq_T 147 33 = some (aq_push (.int (1)) 34) := rfl
theorem i_X7_replaces_34 : aq_T 147 34 = some (aq_go 38) := rfl
theorem i_X7_replaces_37 : aq_T 147 37 = some (aq_push (.int (0)) 38) := rfl
theorem i_X7_replaces_38 : aq_T 147 38 = some (aq_st 0 2 39) := rfl
theorem i_X7_replaces_39 : aq_T 147 39 = some (aq_ld 4 0 40) := rfl
theorem i_X7_replaces_40 : aq_T 147 40 = some (aq_gf 7 3 43) := rfl
theorem i_X7_replaces_43 : aq_T 147 43 = some (aq_push (.int (40)) 45) := rfl
theorem i_X7_replaces_45 : aq_T 147 45 = some (aq_ld 0 1 46) := rfl
theorem i_X7_replaces_46 : aq_T 147 46 = some (aq_ar af_imul 47) := rfl
theorem i_X7_replaces_47 : aq_T 147 47 = some (aq_ld 0 3 48) := rfl
theorem i_X7_replaces_48 : aq_T 147 48 = some (aq_ar af_iadd 49) := rfl
theorem i_X7_replaces_49 : aq_T 147 49 = some (aq_ld 4 0 50) := rfl
theorem i_X7_replaces_50 : aq_T 147 50 = some (aq_gf 7 4 53) := rfl
theorem i_X7_replaces_53 : aq_T 147 53 = some (aq_ld 0 3 54) := rfl
theorem i_X7_replaces_54 : aq_T 147 54 = some (aq_ldi 0 55) := rfl
theorem i_X7_replaces_55 : aq_T 147 55 = some (aq_sti 56) := rfl
theorem i_X7_replaces_56 : aq_T 147 56 = some (aq_inc 3 (1) 59) := rfl
theorem i_X7_replaces_59 : aq_T 147 59 = some (aq_go 4) := rfl
theorem i_X7_replaces_62 : aq_T 147 62 = some (aq_ld 0 2 63) := rfl
theorem i_X7_replaces_63 : aq_T 147 63 = some (aq_ret 5) := rfl
theorem i_X7_reverse_0 : aq_T 148 0 = some (aq_ld 0 1 1) := rfl
theorem i_X7_reverse_1 : aq_T 148 1 = some (aq_call 130 1 none 4) := rfl
theorem i_X7_reverse_4 : aq_T 148 4 = some (aq_if ai_ne0 13 7) := rfl
theorem i_X7_reverse_7 : aq_T 148 7 = some (aq_ld 4 0 8) := rfl
theorem i_X7_reverse_8 : aq_T 148 8 = some (aq_push (.int (1)) 9) := rfl
theorem i_X7_reverse_9 : aq_T 148 9 = some (aq_call 128 2 (some 7) 12) := rfl
theorem i_X7_reverse_12 : aq_T 148 12 = some (aq_ret 5) := rfl
theorem i_X7_reverse_13 : aq_T 148 13 = some (aq_ld 4 0 14) := rfl
theorem i_X7_reverse_14 : aq_T 148 14 = some (aq_push (.int (0)) 15) := rfl
theorem i_X7_reverse_15 : aq_T 148 15 = some (aq_pf 7 0 0 18) := rfl
theorem i_X7_reverse_18 : aq_T 148 18 = some (aq_ld 4 0 19) := rfl
theorem i_X7_reverse_19 : aq_T 148 19 = some (aq_gf 7 2 22) := rfl
theorem i_X7_reverse_22 : aq_T 148 22 = some (aq_ld 0 1 23) := rfl
theorem i_X7_reverse_23 : aq_T 148 23 = some (aq_ldi 0 24) := rfl
theorem i_X7_reverse_24 : aq_T 148 24 = some (aq_st 0 2 25) := rfl
theorem i_X7_reverse_25 : aq_T 148 25 = some (aq_push (.int (0)) 26) := rfl
theorem i_X7_reverse_26 : aq_T 148 26 = some (aq_st 0 3 27) := rfl
theorem i_X7_reverse_27 : aq_T 148 27 = some (aq_ld 0 3 28) := rfl
theorem i_X7_reverse_28 : aq_T 148 28 = some (aq_ld 0 2 29) := rfl
theorem i_X7_reverse_29 : aq_T 148 29 = some (aq_if ai_ge 54 32) := rfl
theorem i_X7_reverse_32 : aq_T 148 32 = some (aq_ld 4 0 33) := rfl
theorem i_X7_reverse_33 : aq_T 148 33 = some (aq_gf 7 4 36) := rfl
theorem i_X7_reverse_36 : aq_T 148 36 = some (aq_ld 0 3 37) := rfl
theorem i_X7_reverse_37 : aq_T 148 37 = some (aq_ld 4 0 38) := rfl
theorem i_X7_reverse_38 : aq_T 148 38 = some (aq_ld 0 1 39) := rfl
theorem i_X7_reverse_39 : aq_T 148 39 = some (aq_ld 0 2 40) := rfl
theorem i_X7_reverse_40 : aq_T 148 40 = some (aq_push (.int (1)) 41) := rfl
theorem i_X7_reverse_41 : aq_T 148 41 = some (aq_ar af_isub 42) := rfl
theorem i_X7_reverse_42 : aq_T 148 42 = some (aq_ld 0 3 43) := rfl
theorem i_X7_reverse_43 : aq_T 148 43 = some (aq_ar af_isub 44) := rfl
theorem i_X7_reverse_44 : aq_T 148 44 = some (aq_call 132 3 (some 7) 47) := rfl
theorem i_X7_reverse_47 : aq_T 148 47 = some (aq_sti 48) := rfl
theorem i_X7_reverse_48 : aq_T 148 48 = some (aq_inc 3 (1) 51) := rfl
theorem i_X7_reverse_51 : aq_T 148 51 = some (aq_go 27) := rfl
theorem i_X7_reverse_54 : aq_T 148 54 = some (aq_ld 4 0 55) := rfl
theorem i_X7_reverse_55 : aq_T 148 55 = some (aq_ld 0 1 56) := rfl
theorem i_X7_reverse_56 : aq_T 148 56 = some (aq_call 147 2 (some 7) 59) := rfl
theorem i_X7_reverse_59 : aq_T 148 59 = some (aq_ret 5) := rfl
theorem i_X7_rotate_0 : aq_T 149 0 = some (aq_ld 0 1 1) := rfl
theorem i_X7_rotate_1 : aq_T 149 1 = some (aq_call 130 1 none 4) := rfl
theorem i_X7_rotate_4 : aq_T 149 4 = some (aq_if ai_ne0 13 7) := rfl
theorem i_X7_rotate_7 : aq_T 149 7 = some (aq_ld 4 0 8) := rfl
theorem i_X7_rotate_8 : aq_T 149 8 = some (aq_push (.int (1)) 9) := rfl
theorem i_X7_rotate_9 : aq_T 149 9 = some (aq_call 128 2 (some 7) 12) := rfl
theorem i_X7_rotate_12 : aq_T 149 12 = some (aq_ret 5) := rfl
theorem i_X7_rotate_13 : aq_T 149 13 = some (aq_ld 4 0 14) := rfl
theorem i_X7_rotate_14 : aq_T 149 14 = some (aq_gf 7 2 17) := rfl
theorem i_X7_rotate_17 : aq_T 149 17 = some (aq_ld 0 1 18) := rfl
theorem i_X7_rotate_18 : aq_T 149 18 = some (aq_ldi 0 19) := rfl
theorem i_X7_rotate_19 : aq_T 149 19 = some (aq_st 0 3 20) := rfl
theorem i_X7_rotate_20 : aq_T 149 20 = some (aq_ld 0 2 21) := rfl
theorem i_X7_rotate_21 : aq_T 149 21 = some (aq_ar af_i2l 22) := rfl
theorem i_X7_rotate_22 : aq_T 149 22 = some (aq_push (.long 0) 23) := rfl
theorem i_X7_rotate_23 : aq_T 149 23 = some (aq_ld 0 3 24) := rfl
theorem i_X7_rotate_24 : aq_T 149 24 = some (aq_ar af_i2l 25) := rfl
theorem i_X7_rotate_25 : aq_T 149 25 = some (aq_call 129 3 none 28) := rfl
theorem i_X7_rotate_28 : aq_T 149 28 = some (aq_if ai_ne0 37 31) := rfl
theorem i_X7_rotate_31 : aq_T 149 31 = some (aq_ld 4 0 32) := rfl
theorem i_X7_rotate_32 : aq_T 149 32 = some (aq_push (.int (2)) 33) := rfl
theorem i_X7_rotate_33 : aq_T 149 33 = some (aq_call 128 2 (some 7) 36) := rfl
theorem i_X7_rotate_36 : aq_T 149 36 = some (aq_ret 5) := rfl
theorem i_X7_rotate_37 : aq_T 149 37 = some (aq_ld 4 0 38) := rfl
theorem i_X7_rotate_38 : aq_T 149 38 = some (aq_push (.int (0)) 39) := rfl
theorem i_X7_rotate_39 : aq_T 149 39 = some (aq_pf 7 0 0 42) := rfl
theorem i_X7_rotate_42 : aq_T 149 42 = some (aq_push (.int (0)) 43) := rfl
theorem i_X7_rotate_43 : aq_T 149 43 = some (aq_st 0 4 45) := rfl
theorem i_X7_rotate_45 : aq_T 149 45 = some (aq_ld 0 4 47) := rfl
theorem i_X7_rotate_47 : aq_T 149 47 = some (aq_ld 0 3 48) := rfl
theorem i_X7_rotate_48 : aq_T 149 48 = some (aq_if ai_ge 75 51) := rfl
theorem i_X7_rotate_51 : aq_T 149 51 = some (aq_ld 4 0 52) := rfl
theorem i_X7_rotate_52 : aq_T 149 52 = some (aq_gf 7 4 55) := rfl
theorem i_X7_rotate_55 : aq_T 149 55 = some (aq_ld 0 4 57) := rfl
theorem i_X7_rotate_57 : aq_T 149 57 = some (aq_ld 4 0 58) := rfl
theorem i_X7_rotate_58 : aq_T 149 58 = some (aq_ld 0 1 59) := rfl
theorem i_X7_rotate_59 : aq_T 149 59 = some (aq_ld 0 4 61) := rfl
theorem i_X7_rotate_61 : aq_T 149 61 = some (aq_ld 0 2 62) := rfl
theorem i_X7_rotate_62 : aq_T 149 62 = some (aq_ar af_iadd 63) := rfl
theorem i_X7_rotate_63 : aq_T 149 63 = some (aq_ld 0 3 64) := rfl
theorem i_X7_rotate_64 : aq_T 149 64 = some (aq_arc ac_irem 65) := rfl
theorem i_X7_rotate_65 : aq_T 149 65 = some (aq_call 132 3 (some 7) 68) := rfl
theorem i_X7_rotate_68 : aq_T 149 68 = some (aq_sti 69) := rfl
theorem i_X7_rotate_69 : aq_T 149 69 = some (aq_inc 4 (1) 72) := rfl
theorem i_X7_rotate_72 : aq_T 149 72 = some (aq_go 45) := rfl
theorem i_X7_rotate_75 : aq_T 149 75 = some (aq_ld 4 0 76) := rfl
theorem i_X7_rotate_76 : aq_T 149 76 = some (aq_ld 0 1 77) := rfl
theorem i_X7_rotate_77 : aq_T 149 77 = some (aq_call 147 2 (some 7) 80) := rfl
theorem i_X7_rotate_80 : aq_T 149 80 = some (aq_ret 5) := rfl
theorem i_X7_holesOf_0 : aq_T 150 0 = some (aq_push (.int (0)) 1) := rfl
theorem i_X7_holesOf_1 : aq_T 150 1 = some (aq_st 0 2 2) := rfl
theorem i_X7_holesOf_2 : aq_T 150 2 = some (aq_push (.int (0)) 3) := rfl
theorem i_X7_holesOf_3 : aq_T 150 3 = some (aq_st 0 3 4) := rfl
theorem i_X7_holesOf_4 : aq_T 150 4 = some (aq_ld 0 3 5) := rfl
theorem i_X7_holesOf_5 : aq_T 150 5 = some (aq_ld 4 0 6) := rfl
theorem i_X7_holesOf_6 : aq_T 150 6 = some (aq_gf 7 2 9) := rfl
theorem i_X7_holesOf_9 : aq_T 150 9 = some (aq_ld 0 1 10) := rfl
theorem i_X7_holesOf_10 : aq_T 150 10 = some (aq_ldi 0 11) := rfl
theorem i_X7_holesOf_11 : aq_T 150 11 = some (aq_if ai_ge 38 14) := rfl
theorem i_X7_holesOf_14 : aq_T 150 14 = some (aq_ld 0 2 15) := rfl
theorem i_X7_holesOf_15 : aq_T 150 15 = some (aq_ld 4 0 16) := rfl
theorem i_X7_holesOf_16 : aq_T 150 16 = some (aq_ld 0 1 17) := rfl
theorem i_X7_holesOf_17 : aq_T 150 17 = some (aq_ld 0 3 18) := rfl
theorem i_X7_holesOf_18 : aq_T 150 18 = some (aq_call 132 3 (some 7) 21) := rfl
theorem i_X7_holesOf_21 : aq_T 150 21 = some (aq_push (.int (-1)) 22) := rfl
theorem i_X7_holesOf_22 : aq_T 150 22 = some (aq_if ai_ne 29 25) := rfl
theorem i_X7_holesOf_25 : aq_T 150 25 = some (aq_push (.int (1)) 26) := rfl
theorem i_X7_holesOf_26 : aq_T 150 26 = some (aq_go 30) := rfl
theorem i_X7_holesOf_29 : aq_T 150 29 = some (aq_push (.int (0)) 30) := rfl
theorem i_X7_holesOf_30 : aq_T 150 30 = some (aq_ar af_iadd 31) := rfl
theorem i_X7_holesOf_31 : aq_T 150 31 = some (aq_st 0 2 32) := rfl
theorem i_X7_holesOf_32 : aq_T 150 32 = some (aq_inc 3 (1) 35) := rfl
theorem i_X7_holesOf_35 : aq_T 150 35 = some (aq_go 4) := rfl
theorem i_X7_holesOf_38 : aq_T 150 38 = some (aq_ld 0 2 39) := rfl
theorem i_X7_holesOf_39 : aq_T 150 39 = some (aq_ret 0) := rfl
theorem i_X7_holes_0 : aq_T 151 0 = some (aq_ld 0 1 1) := rfl
theorem i_X7_holes_1 : aq_T 151 1 = some (aq_call 130 1 none 4) := rfl
theorem i_X7_holes_4 : aq_T 151 4 = some (aq_if ai_ne0 13 7) := rfl
theorem i_X7_holes_7 : aq_T 151 7 = some (aq_ld 4 0 8) := rfl
theorem i_X7_holes_8 : aq_T 151 8 = some (aq_push (.int (1)) 9) := rfl
theorem i_X7_holes_9 : aq_T 151 9 = some (aq_call 127 2 (some 7) 12) := rfl
theorem i_X7_holes_12 : aq_T 151 12 = some (aq_ret 0) := rfl
theorem i_X7_holes_13 : aq_T 151 13 = some (aq_ld 4 0 14) := rfl
theorem i_X7_holes_14 : aq_T 151 14 = some (aq_push (.int (0)) 15) := rfl
theorem i_X7_holes_15 : aq_T 151 15 = some (aq_pf 7 0 0 18) := rfl
theorem i_X7_holes_18 : aq_T 151 18 = some (aq_ld 4 0 19) := rfl
theorem i_X7_holes_19 : aq_T 151 19 = some (aq_ld 0 1 20) := rfl
theorem i_X7_holes_20 : aq_T 151 20 = some (aq_call 150 2 (some 7) 23) := rfl
theorem i_X7_holes_23 : aq_T 151 23 = some (aq_ret 0) := rfl
theorem i_X7_differ_0 : aq_T 152 0 = some (aq_ld 0 0 1) := rfl
theorem i_X7_differ_1 : aq_T 152 1 = some (aq_push (.int (-1)) 2) := rfl
theorem i_X7_differ_2 : aq_T 152 2 = some (aq_if ai_eq 19 5) := rfl
theorem i_X7_differ_5 : aq_T 152 5 = some (aq_ld 0 1 6) := rfl
theorem i_X7_differ_6 : aq_T 152 6 = some (aq_push (.int (-1)) 7) := rfl
theorem i_X7_differ_7 : aq_T 152 7 = some (aq_if ai_eq 19 10) := rfl
theorem i_X7_differ_10 : aq_T 152 10 = some (aq_ld 0 0 11) := rfl
theorem i_X7_differ_11 : aq_T 152 11 = some (aq_ld 0 1 12) := rfl
theorem i_X7_differ_12 : aq_T 152 12 = some (aq_if ai_eq 19 15) := rfl
theorem i_X7_differ_15 : aq_T 152 15 = some (aq_push (.int (1)) 16) := rfl
theorem i_X7_differ_16 : aq_T 152 16 = some (aq_go 20) := rfl
theorem i_X7_differ_19 : aq_T 152 19 = some (aq_push (.int (0)) 20) := rfl
theorem i_X7_differ_20 : aq_T 152 20 = some (aq_ret 5) := rfl
theorem i_X7_conflictOf_0 : aq_T 153 0 = some (aq_push (.int (0)) 1) := rfl
theorem i_X7_conflictOf_1 : aq_T 153 1 = some (aq_st 0 3 2) := rfl
theorem i_X7_conflictOf_2 : aq_T 153 2 = some (aq_ld 0 3 3) := rfl
theorem i_X7_conflictOf_3 : aq_T 153 3 = some (aq_ld 4 0 4) := rfl
theorem i_X7_conflictOf_4 : aq_T 153 4 = some (aq_gf 7 2 7) := rfl
theorem i_X7_conflictOf_7 : aq_T 153 7 = some (aq_ld 0 1 8) := rfl
theorem i_X7_conflictOf_8 : aq_T 153 8 = some (aq_ldi 0 9) := rfl
theorem i_X7_conflictOf_9 : aq_T 153 9 = some (aq_if ai_ge 48 12) := rfl
theorem i_X7_conflictOf_12 : aq_T 153 12 = some (aq_ld 0 3 13) := rfl
theorem i_X7_conflictOf_13 : aq_T 153 13 = some (aq_ld 4 0 14) := rfl
theorem i_X7_conflictOf_14 : aq_T 153 14 = some (aq_gf 7 2 17) := rfl
theorem i_X7_conflictOf_17 : aq_T 153 17 = some (aq_ld 0 2 18) := rfl
theorem i_X7_conflictOf_18 : aq_T 153 18 = some (aq_ldi 0 19) := rfl
theorem i_X7_conflictOf_19 : aq_T 153 19 = some (aq_if ai_ge 48 22) := rfl
theorem i_X7_conflictOf_22 : aq_T 153 22 = some (aq_ld 4 0 23) := rfl
theorem i_X7_conflictOf_23 : aq_T 153 23 = some (aq_ld 0 1 24) := rfl
theorem i_X7_conflictOf_24 : aq_T 153 24 = some (aq_ld 0 3 25) := rfl
theorem i_X7_conflictOf_25 : aq_T 153 25 = some (aq_call 132 3 (some 7) 28) := rfl
theorem i_X7_conflictOf_28 : aq_T 153 28 = some (aq_ld 4 0 29) := rfl
theorem i_X7_conflictOf_29 : aq_T 153 29 = some (aq_ld 0 2 30) := rfl
theorem i_X7_conflictOf_30 : aq_T 153 30 = some (aq_ld 0 3 31) := rfl
theorem i_X7_conflictOf_31 : aq_T 153 31 = some (aq_call 132 3 (some 7) 34) := rfl
theorem i_X7_conflictOf_34 : aq_T 153 34 = some (aq_call 152 2 none 37) := rfl
theorem i_X7_conflictOf_37 : aq_T 153 37 = some (aq_if ai_eq0 42 40) := rfl
theorem i_X7_conflictOf_40 : aq_T 153 40 = some (aq_ld 0 3 41) := rfl
theorem i_X7_conflictOf_41 : aq_T 153 41 = some (aq_ret 0) := rfl
theorem i_X7_conflictOf_42 : aq_T 153 42 = some (aq_inc 3 (1) 45) := rfl
theorem i_X7_conflictOf_45 : aq_T 153 45 = some (aq_go 2) := rfl
theorem i_X7_conflictOf_48 : aq_T 153 48 = some (aq_push (.int (-1)) 49) := rfl
theorem i_X7_conflictOf_49 : aq_T 153 49 = some (aq_ret 0) := rfl
theorem i_X7_areCompatible_0 : aq_T 154 0 = some (aq_ld 4 0 1) := rfl
theorem i_X7_areCompatible_1 : aq_T 154 1 = some (aq_gf 7 2 4) := rfl
theorem i_X7_areCompatible_4 : aq_T 154 4 = some (aq_ld 0 1 5) := rfl
theorem i_X7_areCompatible_5 : aq_T 154 5 = some (aq_ldi 0 6) := rfl
theorem i_X7_areCompatible_6 : aq_T 154 6 = some (aq_ld 4 0 7) := rfl
theorem i_X7_areCompatible_7 : aq_T 154 7 = some (aq_gf 7 2 10) := rfl
theorem i_X7_areCompatible_10 : aq_T 154 10 = some (aq_ld 0 2 11) := rfl
theorem i_X7_areCompatible_11 : aq_T 154 11 = some (aq_ldi 0 12) := rfl
theorem i_X7_areCompatible_12 : aq_T 154 12 = some (aq_if ai_ne 28 15) := rfl
theorem i_X7_areCompatible_15 : aq_T 154 15 = some (aq_ld 4 0 16) := rfl
theorem i_X7_areCompatible_16 : aq_T 154 16 = some (aq_ld 0 1 17) := rfl
theorem i_X7_areCompatible_17 : aq_T 154 17 = some (aq_ld 0 2 18) := rfl
theorem i_X7_areCompatible_18 : aq_T 154 18 = some (aq_call 153 3 (some 7) 21) := rfl
theorem i_X7_areCompatible_21 : aq_T 154 21 = some (aq_if ai_ge0 28 24) := rfl
theorem i_X7_areCompatible_24 : aq_T 154 24 = some (aq_push (.int (1)) 25) := rfl
theorem i_X7_areCompatible_25 : aq_T 154 25 = some (aq_go 29) := rfl
theorem i_X7_areCompatible_28 : aq_T 154 28 = some (aq_push (.int (0)) 29) := rfl
theorem i_X7_areCompatible_29 : aq_T 154 29 = some (aq_ret 5) := rfl
theorem i_X7_isCompatible_0 : aq_T 155 0 = some (aq_ld 0 1 1) := rfl
theorem i_X7_isCompatible_1 : aq_T 155 1 = some (aq_call 130 1 none 4) := rfl
theorem i_X7_isCompatible_4 : aq_T 155 4 = some (aq_if ai_eq0 14 7) := rfl
theorem i_X7_isCompatible_7 : aq_T 155 7 = some (aq_ld 0 2 8) := rfl
theorem i_X7_isCompatible_8 : aq_T 155 8 = some (aq_call 130 1 none 11) := rfl
theorem i_X7_isCompatible_11 : aq_T 155 11 = some (aq_if ai_ne0 20 14) := rfl
theorem i_X7_isCompatible_14 : aq_T 155 14 = some (aq_ld 4 0 15) := rfl
theorem i_X7_isCompatible_15 : aq_T 155 15 = some (aq_push (.int (1)) 16) := rfl
theorem i_X7_isCompatible_16 : aq_T 155 16 = some (aq_call 128 2 (some 7) 19) := rfl
theorem i_X7_isCompatible_19 : aq_T 155 19 = some (aq_ret 5) := rfl
theorem i_X7_isCompatible_20 : aq_T 155 20 = some (aq_ld 4 0 21) := rfl
theorem i_X7_isCompatible_21 : aq_T 155 21 = some (aq_push (.int (0)) 22) := rfl
theorem i_X7_isCompatible_22 : aq_T 155 22 = some (aq_pf 7 0 0 25) := rfl
theorem i_X7_isCompatible_25 : aq_T 155 25 = some (aq_ld 4 0 26) := rfl
theorem i_X7_isCompatible_26 : aq_T 155 26 = some (aq_ld 0 1 27) := rfl
theorem i_X7_isCompatible_27 : aq_T 155 27 = some (aq_ld 0 2 28) := rfl
theorem i_X7_isCompatible_28 : aq_T 155 28 = some (aq_call 154 3 (some 7) 31) := rfl
theorem i_X7_isCompatible_31 : aq_T 155 31 = some (aq_ret 5) := rfl
theorem i_X7_isContained_0 : aq_T 156 0 = some (aq_ld 0 1 1) := rfl
theorem i_X7_isContained_1 : aq_T 156 1 = some (aq_call 130 1 none 4) := rfl
theorem i_X7_isContained_4 : aq_T 156 4 = some (aq_if ai_eq0 14 7) := rfl
theorem i_X7_isContained_7 : aq_T 156 7 = some (aq_ld 0 2 8) := rfl
theorem i_X7_isContained_8 : aq_T 156 8 = some (aq_call 130 1 none 11) := rfl
theorem i_X7_isContained_11 : aq_T 156 11 = some (aq_if ai_ne0 20 14) := rfl
theorem i_X7_isContained_14 : aq_T 156 14 = some (aq_ld 4 0 15) := rfl
theorem i_X7_isContained_15 : aq_T 156 15 = some (aq_push (.int (1)) 16) := rfl
theorem i_X7_isContained_16 : aq_T 156 16 = some (aq_call 128 2 (some 7) 19) := rfl
theorem i_X7_isContained_19 : aq_T 156 19 = some (aq_ret 5) := rfl
theorem i_X7_isContained_20 : aq_T 156 20 = some (aq_ld 4 0 21) := rfl
theorem i_X7_isContained_21 : aq_T 156 21 = some (aq_push (.int (0)) 22) := rfl
theorem i_X7_isContained_22 : aq_T 156 22 = some (aq_pf 7 0 0 25) := rfl
theorem i_X7_isContained_25 : aq_T 156 25 = some (aq_ld 4 0 26) := rfl
theorem i_X7_isContained_26 : aq_T 156 26 = some (aq_gf 7 2 29) := rfl
theorem i_X7_isContained_29 : aq_T 156 29 = some (aq_ld 0 1 30) := rfl
theorem i_X7_isContained_30 : aq_T 156 30 = some (aq_ldi 0 31) := rfl
theorem i_X7_isContained_31 : aq_T 156 31 = some (aq_ld 4 0 32) := rfl
theorem i_X7_isContained_32 : aq_T 156 32 = some (aq_gf 7 2 35) := rfl
theorem i_X7_isContained_35 : aq_T 156 35 = some (aq_ld 0 2 36) := rfl
theorem i_X7_isContained_36 : aq_T 156 36 = some (aq_ldi 0 37) := rfl
theorem i_X7_isContained_37 : aq_T 156 37 = some (aq_if ai_eq 42 40) := rfl
theorem i_X7_isContained_40 : aq_T 156 40 = some (aq_push (.int (0)) 41) := rfl
theorem i_X7_isContained_41 : aq_T 156 41 = some (aq_ret 5) := rfl
theorem i_X7_isContained_42 : aq_T 156 42 = some (aq_push (.int (0)) 43) := rfl
theorem i_X7_isContained_43 : aq_T 156 43 = some (aq_st 0 3 44) := rfl
theorem i_X7_isContained_44 : aq_T 156 44 = some (aq_ld 0 3 45) := rfl
theorem i_X7_isContained_45 : aq_T 156 45 = some (aq_ld 4 0 46) := rfl
theorem i_X7_isContained_46 : aq_T 156 46 = some (aq_gf 7 2 49) := rfl
theorem i_X7_isContained_49 : aq_T 156 49 = some (aq_ld 0 1 50) := rfl
theorem i_X7_isContained_50 : aq_T 156 50 = some (aq_ldi 0 51) := rfl
theorem i_X7_isContained_51 : aq_T 156 51 = some (aq_if ai_ge 87 54) := rfl
theorem i_X7_isContained_54 : aq_T 156 54 = some (aq_ld 4 0 55) := rfl
theorem i_X7_isContained_55 : aq_T 156 55 = some (aq_ld 0 1 56) := rfl
theorem i_X7_isContained_56 : aq_T 156 56 = some (aq_ld 0 3 57) := rfl
theorem i_X7_isContained_57 : aq_T 156 57 = some (aq_call 132 3 (some 7) 60) := rfl
theorem i_X7_isContained_60 : aq_T 156 60 = some (aq_push (.int (-1)) 61) := rfl
theorem i_X7_isContained_61 : aq_T 156 61 = some (aq_if ai_eq 81 64) := rfl
theorem i_X7_isContained_64 : aq_T 156 64 = some (aq_ld 4 0 65) := rfl
theorem i_X7_isContained_65 : aq_T 156 65 = some (aq_ld 0 1 66) := rfl
theorem i_X7_isContained_66 : aq_T 156 66 = some (aq_ld 0 3 67) := rfl
theorem i_X7_isContained_67 : aq_T 156 67 = some (aq_call 132 3 (some 7) 70) := rfl
theorem i_X7_isContained_70 : aq_T 156 70 = some (aq_ld 4 0 71) := rfl
theorem i_X7_isContained_71 : aq_T 156 71 = some (aq_ld 0 2 72) := rfl
theorem i_X7_isContained_72 : aq_T 156 72 = some (aq_ld 0 3 73) := rfl
theorem i_X7_isContained_73 : aq_T 156 73 = some (aq_call 132 3 (some 7) 76) := rfl
theorem i_X7_isContained_76 : aq_T 156 76 = some (aq_if ai_eq 81 79) := rfl
theorem i_X7_isContained_79 : aq_T 156 79 = some (aq_push (.int (0)) 80) := rfl
theorem i_X7_isContained_80 : aq_T 156 80 = some (aq_ret 5) := rfl
theorem i_X7_isContained_81 : aq_T 156 81 = some (aq_inc 3 (1) 84) := rfl
theorem i_X7_isContained_84 : aq_T 156 84 = some (aq_go 44) := rfl
theorem i_X7_isContained_87 : aq_T 156 87 = some (aq_push (.int (1)) 88) := rfl
theorem i_X7_isContained_88 : aq_T 156 88 = some (aq_ret 5) := rfl
theorem i_X7_conflict_0 : aq_T 157 0 = some (aq_ld 0 1 1) := rfl
theorem i_X7_conflict_1 : aq_T 157 1 = some (aq_call 130 1 none 4) := rfl
theorem i_X7_conflict_4 : aq_T 157 4 = some (aq_if ai_eq0 14 7) := rfl
theorem i_X7_conflict_7 : aq_T 157 7 = some (aq_ld 0 2 8) := rfl
theorem i_X7_conflict_8 : aq_T 157 8 = some (aq_call 130 1 none 11) := rfl
theorem i_X7_conflict_11 : aq_T 157 11 = some (aq_if ai_ne0 20 14) := rfl
theorem i_X7_conflict_14 : aq_T 157 14 = some (aq_ld 4 0 15) := rfl
theorem i_X7_conflict_15 : aq_T 157 15 = some (aq_push (.int (1)) 16) := rfl
theorem i_X7_conflict_16 : aq_T 157 16 = some (aq_call 127 2 (some 7) 19) := rfl
theorem i_X7_conflict_19 : aq_T 157 19 = some (aq_ret 0) := rfl
theorem i_X7_conflict_20 : aq_T 157 20 = some (aq_ld 4 0 21) := rfl
theorem i_X7_conflict_21 : aq_T 157 21 = some (aq_gf 7 2 24) := rfl
theorem i_X7_conflict_24 : aq_T 157 24 = some (aq_ld 0 1 25) := rfl
theorem i_X7_conflict_25 : aq_T 157 25 = some (aq_ldi 0 26) := rfl
theorem i_X7_conflict_26 : aq_T 157 26 = some (aq_ld 4 0 27) := rfl
theorem i_X7_conflict_27 : aq_T 157 27 = some (aq_gf 7 2 30) := rfl
theorem i_X7_conflict_30 : aq_T 157 30 = some (aq_ld 0 2 31) := rfl
theorem i_X7_conflict_31 : aq_T 157 31 = some (aq_ldi 0 32) := rfl
theorem i_X7_conflict_32 : aq_T 157 32 = some (aq_if ai_eq 41 35) := rfl
theorem i_X7_conflict_35 : aq_T 157 35 = some (aq_ld 4 0 36) := rfl
theorem i_X7_conflict_36 : aq_T 157 36 = some (aq_push (.int (2)) 37) := rfl
theorem i_X7_conflict_37 : aq_T 157 37 = some (aq_call 127 2 (some 7) 40) := rfl
theorem i_X7_conflict_40 : aq_T 157 40 = some (aq_ret 0) := rfl
theorem i_X7_conflict_41 : aq_T 157 41 = some (aq_ld 4 0 42) := rfl
theorem i_X7_conflict_42 : aq_T 157 42 = some (aq_push (.int (0)) 43) := rfl
theorem i_X7_conflict_43 : aq_T 157 43 = some (aq_pf 7 0 0 46) := rfl
theorem i_X7_conflict_46 : aq_T 157 46 = some (aq_ld 4 0 47) := rfl
theorem i_X7_conflict_47 : aq_T 157 47 = some (aq_ld 0 1 48) := rfl
theorem i_X7_conflict_48 : aq_T 157 48 = some (aq_ld 0 2 49) := rfl
theorem i_X7_conflict_49 : aq_T 157 49 = some (aq_call 153 3 (some 7) 52) := rfl
theorem i_X7_conflict_52 : aq_T 157 52 = some (aq_ret 0) := rfl
theorem i_X7_join_0 : aq_T 158 0 = some (aq_ld 0 1 1) := rfl
theorem i_X7_join_1 : aq_T 158 1 = some (aq_call 130 1 none 4) := rfl
theorem i_X7_join_4 : aq_T 158 4 = some (aq_if ai_eq0 21 7) := rfl
theorem i_X7_join_7 : aq_T 158 7 = some (aq_ld 0 2 8) := rfl
theorem i_X7_join_8 : aq_T 158 8 = some (aq_call 130 1 none 11) := rfl
theorem i_X7_join_11 : aq_T 158 11 = some (aq_if ai_eq0 21 14) := rfl
theorem i_X7_join_14 : aq_T 158 14 = some (aq_ld 0 3 15) := rfl
theorem i_X7_join_15 : aq_T 158 15 = some (aq_call 130 1 none 18) := rfl
theorem i_X7_join_18 : aq_T 158 18 = some (aq_if ai_ne0 27 21) := rfl
theorem i_X7_join_21 : aq_T 158 21 = some (aq_ld 4 0 22) := rfl
theorem i_X7_join_22 : aq_T 158 22 = some (aq_push (.int (1)) 23) := rfl
theorem i_X7_join_23 : aq_T 158 23 = some (aq_call 127 2 (some 7) 26) := rfl
theorem i_X7_join_26 : aq_T 158 26 = some (aq_ret 0) := rfl
theorem i_X7_join_27 : aq_T 158 27 = some (aq_ld 4 0 28) := rfl
theorem i_X7_join_28 : aq_T 158 28 = some (aq_ld 0 1 29) := rfl
theorem i_X7_join_29 : aq_T 158 29 = some (aq_ld 0 2 30) := rfl
theorem i_X7_join_30 : aq_T 158 30 = some (aq_call 154 3 (some 7) 33) := rfl
theorem i_X7_join_33 : aq_T 158 33 = some (aq_if ai_ne0 42 36) := rfl
theorem i_X7_join_36 : aq_T 158 36 = some (aq_ld 4 0 37) := rfl
theorem i_X7_join_37 : aq_T 158 37 = some (aq_push (.int (2)) 38) := rfl
theorem i_X7_join_38 : aq_T 158 38 = some (aq_call 127 2 (some 7) 41) := rfl
theorem i_X7_join_41 : aq_T 158 41 = some (aq_ret 0) := rfl
theorem i_X7_join_42 : aq_T 158 42 = some (aq_ld 4 0 43) := rfl
theorem i_X7_join_43 : aq_T 158 43 = some (aq_push (.int (0)) 44) := rfl
theorem i_X7_join_44 : aq_T 158 44 = some (aq_pf 7 0 0 47) := rfl
theorem i_X7_join_47 : aq_T 158 47 = some (aq_push (.int (0)) 48) := rfl
theorem i_X7_join_48 : aq_T 158 48 = some (aq_st 0 4 50) := rfl
theorem i_X7_join_50 : aq_T 158 50 = some (aq_ld 0 4 52) := rfl
theorem i_X7_join_52 : aq_T 158 52 = some (aq_ld 4 0 53) := rfl
theorem i_X7_join_53 : aq_T 158 53 = some (aq_gf 7 2 56) := rfl
theorem i_X7_join_56 : aq_T 158 56 = some (aq_ld 0 1 57) := rfl
theorem i_X7_join_57 : aq_T 158 57 = some (aq_ldi 0 58) := rfl
theorem i_X7_join_58 : aq_T 158 58 = some (aq_if ai_ge 102 61) := rfl
theorem i_X7_join_61 : aq_T 158 61 = some (aq_ld 4 0 62) := rfl
theorem i_X7_join_62 : aq_T 158 62 = some (aq_gf 7 4 65) := rfl
theorem i_X7_join_65 : aq_T 158 65 = some (aq_ld 0 4 67) := rfl
theorem i_X7_join_67 : aq_T 158 67 = some (aq_ld 4 0 68) := rfl
theorem i_X7_join_68 : aq_T 158 68 = some (aq_ld 0 1 69) := rfl
theorem i_X7_join_69 : aq_T 158 69 = some (aq_ld 0 4 71) := rfl
theorem i_X7_join_71 : aq_T 158 71 = some (aq_call 132 3 (some 7) 74) := rfl
theorem i_X7_join_74 : aq_T 158 74 = some (aq_push (.int (-1)) 75) := rfl
theorem i_X7_join_75 : aq_T 158 75 = some (aq_if ai_ne 88 78) := rfl
theorem i_X7_join_78 : aq_T 158 78 = some (aq_ld 4 0 79) := rfl
theorem i_X7_join_79 : aq_T 158 79 = some (aq_ld 0 2 80) := rfl
theorem i_X7_join_80 : aq_T 158 80 = some (aq_ld 0 4 82) := rfl
theorem i_X7_join_82 : aq_T 158 82 = some (aq_call 132 3 (some 7) 85) := rfl
theorem i_X7_join_85 : aq_T 158 85 = some (aq_go 95) := rfl
theorem i_X7_join_88 : aq_T 158 88 = some (aq_ld 4 0 89) := rfl
theorem i_X7_join_89 : aq_T 158 89 = some (aq_ld 0 1 90) := rfl
theorem i_X7_join_90 : aq_T 158 90 = some (aq_ld 0 4 92) := rfl
theorem i_X7_join_92 : aq_T 158 92 = some (aq_call 132 3 (some 7) 95) := rfl
theorem i_X7_join_95 : aq_T 158 95 = some (aq_sti 96) := rfl
theorem i_X7_join_96 : aq_T 158 96 = some (aq_inc 4 (1) 99) := rfl
theorem i_X7_join_99 : aq_T 158 99 = some (aq_go 50) := rfl
theorem i_X7_join_102 : aq_T 158 102 = some (aq_ld 4 0 103) := rfl
theorem i_X7_join_103 : aq_T 158 103 = some (aq_gf 7 2 106) := rfl
theorem i_X7_join_106 : aq_T 158 106 = some (aq_ld 0 3 107) := rfl
theorem i_X7_join_107 : aq_T 158 107 = some (aq_ld 4 0 108) := rfl
theorem i_X7_join_108 : aq_T 158 108 = some (aq_gf 7 2 111) := rfl
theorem i_X7_join_111 : aq_T 158 111 = some (aq_ld 0 1 112) := rfl
theorem i_X7_join_112 : aq_T 158 112 = some (aq_ldi 0 113) := rfl
theorem i_X7_join_113 : aq_T 158 113 = some (aq_sti 114) := rfl
theorem i_X7_join_114 : aq_T 158 114 = some (aq_ld 4 0 115) := rfl
theorem i_X7_join_115 : aq_T 158 115 = some (aq_ld 0 3 116) := rfl
theorem i_X7_join_116 : aq_T 158 116 = some (aq_call 147 2 (some 7) 119) := rfl
theorem i_X7_join_119 : aq_T 158 119 = some (aq_ar af_pop 120) := rfl
theorem i_X7_join_120 : aq_T 158 120 = some (aq_ld 4 0 121) := rfl
theorem i_X7_join_121 : aq_T 158 121 = some (aq_ld 0 3 122) := rfl
theorem i_X7_join_122 : aq_T 158 122 = some (aq_call 150 2 (some 7) 125) := rfl
theorem i_X7_join_125 : aq_T 158 125 = some (aq_ret 0) := rfl
theorem i_X7_hasPeriod_0 : aq_T 159 0 = some (aq_push (.int (0)) 1) := rfl
theorem i_X7_hasPeriod_1 : aq_T 159 1 = some (aq_st 0 5 3) := rfl
theorem i_X7_hasPeriod_3 : aq_T 159 3 = some (aq_ld 0 5 5) := rfl
theorem i_X7_hasPeriod_5 : aq_T 159 5 = some (aq_ld 0 2 6) := rfl
theorem i_X7_hasPeriod_6 : aq_T 159 6 = some (aq_if ai_ge 70 9) := rfl
theorem i_X7_hasPeriod_9 : aq_T 159 9 = some (aq_ld 0 5 11) := rfl
theorem i_X7_hasPeriod_11 : aq_T 159 11 = some (aq_ld 0 3 12) := rfl
theorem i_X7_hasPeriod_12 : aq_T 159 12 = some (aq_ar af_iadd 13) := rfl
theorem i_X7_hasPeriod_13 : aq_T 159 13 = some (aq_st 0 6 15) := rfl
theorem i_X7_hasPeriod_15 : aq_T 159 15 = some (aq_ld 0 6 17) := rfl
theorem i_X7_hasPeriod_17 : aq_T 159 17 = some (aq_ld 0 2 18) := rfl
theorem i_X7_hasPeriod_18 : aq_T 159 18 = some (aq_if ai_ge 64 21) := rfl
theorem i_X7_hasPeriod_21 : aq_T 159 21 = some (aq_ld 0 4 23) := rfl
theorem i_X7_hasPeriod_23 : aq_T 159 23 = some (aq_if ai_eq0 35 26) := rfl
theorem i_X7_hasPeriod_26 : aq_T 159 26 = some (aq_ld 0 6 28) := rfl
theorem i_X7_hasPeriod_28 : aq_T 159 28 = some (aq_ld 0 5 30) := rfl
theorem i_X7_hasPeriod_30 : aq_T 159 30 = some (aq_ld 0 3 31) := rfl
theorem i_X7_hasPeriod_31 : aq_T 159 31 = some (aq_ar af_iadd 32) := rfl
theorem i_X7_hasPeriod_32 : aq_T 159 32 = some (aq_if ai_ne 64 35) := rfl
theorem i_X7_hasPeriod_35 : aq_T 159 35 = some (aq_ld 4 0 36) := rfl
theorem i_X7_hasPeriod_36 : aq_T 159 36 = some (aq_ld 0 1 37) := rfl
theorem i_X7_hasPeriod_37 : aq_T 159 37 = some (aq_ld 0 5 39) := rfl
theorem i_X7_hasPeriod_39 : aq_T 159 39 = some (aq_ar af_iadd 40) := rfl
theorem i_X7_hasPeriod_40 : aq_T 159 40 = some (aq_ldi 0 41) := rfl
theorem i_X7_hasPeriod_41 : aq_T 159 41 = some (aq_ld 4 0 42) := rfl
theorem i_X7_hasPeriod_42 : aq_T 159 42 = some (aq_ld 0 1 43) := rfl
theorem i_X7_hasPeriod_43 : aq_T 159 43 = some (aq_ld 0 6 45) := rfl
theorem i_X7_hasPeriod_45 : aq_T 159 45 = some (aq_ar af_iadd 46) := rfl
theorem i_X7_hasPeriod_46 : aq_T 159 46 = some (aq_ldi 0 47) := rfl
theorem i_X7_hasPeriod_47 : aq_T 159 47 = some (aq_call 152 2 none 50) := rfl
theorem i_X7_hasPeriod_50 : aq_T 159 50 = some (aq_if ai_eq0 55 53) := rfl
theorem i_X7_hasPeriod_53 : aq_T 159 53 = some (aq_push (.int (0)) 54) := rfl
theorem i_X7_hasPeriod_54 : aq_T 159 54 = some (aq_ret 5) := rfl
theorem i_X7_hasPeriod_55 : aq_T 159 55 = some (aq_ld 0 6 57) := rfl
theorem i_X7_hasPeriod_57 : aq_T 159 57 = some (aq_ld 0 3 58) := rfl
theorem i_X7_hasPeriod_58 : aq_T 159 58 = some (aq_ar af_iadd 59) := rfl
theorem i_X7_hasPeriod_59 : aq_T 159 59 = some (aq_st 0 6 61) := rfl
theorem i_X7_hasPeriod_61 : aq_T 159 61 = some (aq_go 15) := rfl
theorem i_X7_hasPeriod_64 : aq_T 159 64 = some (aq_inc 5 (1) 67) := rfl
theorem i_X7_hasPeriod_67 : aq_T 159 67 = some (aq_go 3) := rfl
theorem i_X7_hasPeriod_70 : aq_T 159 70 = some (aq_push (.int (1)) 71) := rfl
theorem i_X7_hasPeriod_71 : aq_T 159 71 = some (aq_ret 5) := rfl
theorem i_X7_isPeriod_0 : aq_T 160 0 = some (aq_ld 0 1 1) := rfl
theorem i_X7_isPeriod_1 : aq_T 160 1 = some (aq_call 130 1 none 4) := rfl
theorem i_X7_isPeriod_4 : aq_T 160 4 = some (aq_if ai_eq0 23 7) := rfl
theorem i_X7_isPeriod_7 : aq_T 160 7 = some (aq_ld 0 2 8) := rfl
theorem i_X7_isPeriod_8 : aq_T 160 8 = some (aq_ar af_i2l 9) := rfl
theorem i_X7_isPeriod_9 : aq_T 160 9 = some (aq_push (.long 1) 10) := rfl
theorem i_X7_isPeriod_10 : aq_T 160 10 = some (aq_ld 4 0 11) := rfl
theorem i_X7_isPeriod_11 : aq_T 160 11 = some (aq_gf 7 2 14) := rfl
theorem i_X7_isPeriod_14 : aq_T 160 14 = some (aq_ld 0 1 15) := rfl
theorem i_X7_isPeriod_15 : aq_T 160 15 = some (aq_ldi 0 16) := rfl
theorem i_X7_isPeriod_16 : aq_T 160 16 = some (aq_ar af_i2l 17) := rfl
theorem i_X7_isPeriod_17 : aq_T 160 17 = some (aq_call 129 3 none 20) := rfl
theorem i_X7_isPeriod_20 : aq_T 160 20 = some (aq_if ai_ne0 29 23) := rfl
theorem i_X7_isPeriod_23 : aq_T 160 23 = some (aq_ld 4 0 24) := rfl
theorem i_X7_isPeriod_24 : aq_T 160 24 = some (aq_push (.int (1)) 25) := rfl
theorem i_X7_isPeriod_25 : aq_T 160 25 = some (aq_call 128 2 (some 7) 28) := rfl
theorem i_X7_isPeriod_28 : aq_T 160 28 = some (aq_ret 5) := rfl
theorem i_X7_isPeriod_29 : aq_T 160 29 = some (aq_ld 4 0 30) := rfl
theorem i_X7_isPeriod_30 : aq_T 160 30 = some (aq_push (.int (0)) 31) := rfl
theorem i_X7_isPeriod_31 : aq_T 160 31 = some (aq_pf 7 0 0 34) := rfl
theorem i_X7_isPeriod_34 : aq_T 160 34 = some (aq_ld 4 0 35) := rfl
theorem i_X7_isPeriod_35 : aq_T 160 35 = some (aq_gf 7 3 38) := rfl
theorem i_X7_isPeriod_38 : aq_T 160 38 = some (aq_push (.int (40)) 40) := rfl
theorem i_X7_isPeriod_40 : aq_T 160 40 = some (aq_ld 0 1 41) := rfl
theorem i_X7_isPeriod_41 : aq_T 160 41 = some (aq_ar af_imul 42) := rfl
theorem i_X7_isPeriod_42 : aq_T 160 42 = some (aq_ld 4 0 43) := rfl
theorem i_X7_isPeriod_43 : aq_T 160 43 = some (aq_gf 7 2 46) := rfl
theorem i_X7_isPeriod_46 : aq_T 160 46 = some (aq_ld 0 1 47) := rfl
theorem i_X7_isPeriod_47 : aq_T 160 47 = some (aq_ldi 0 48) := rfl
theorem i_X7_isPeriod_48 : aq_T 160 48 = some (aq_ld 0 2 49) := rfl
theorem i_X7_isPeriod_49 : aq_T 160 49 = some (aq_ld 0 3 50) := rfl
theorem i_X7_isPeriod_50 : aq_T 160 50 = some (aq_call 159 5 none 53) := rfl
theorem i_X7_isPeriod_53 : aq_T 160 53 = some (aq_ret 5) := rfl
theorem i_X7_smallest_0 : aq_T 161 0 = some (aq_push (.int (1)) 1) := rfl
theorem i_X7_smallest_1 : aq_T 161 1 = some (aq_st 0 3 2) := rfl
theorem i_X7_smallest_2 : aq_T 161 2 = some (aq_ld 4 0 3) := rfl
theorem i_X7_smallest_3 : aq_T 161 3 = some (aq_gf 7 3 6) := rfl
theorem i_X7_smallest_6 : aq_T 161 6 = some (aq_push (.int (40)) 8) := rfl
theorem i_X7_smallest_8 : aq_T 161 8 = some (aq_ld 0 1 9) := rfl
theorem i_X7_smallest_9 : aq_T 161 9 = some (aq_ar af_imul 10) := rfl
theorem i_X7_smallest_10 : aq_T 161 10 = some (aq_ld 4 0 11) := rfl
theorem i_X7_smallest_11 : aq_T 161 11 = some (aq_gf 7 2 14) := rfl
theorem i_X7_smallest_14 : aq_T 161 14 = some (aq_ld 0 1 15) := rfl
theorem i_X7_smallest_15 : aq_T 161 15 = some (aq_ldi 0 16) := rfl
theorem i_X7_smallest_16 : aq_T 161 16 = some (aq_ld 0 3 17) := rfl
theorem i_X7_smallest_17 : aq_T 161 17 = some (aq_ld 0 2 18) := rfl
theorem i_X7_smallest_18 : aq_T 161 18 = some (aq_call 159 5 none 21) := rfl
theorem i_X7_smallest_21 : aq_T 161 21 = some (aq_if ai_ne0 30 24) := rfl
theorem i_X7_smallest_24 : aq_T 161 24 = some (aq_inc 3 (1) 27) := rfl
theorem i_X7_smallest_27 : aq_T 161 27 = some (aq_go 2) := rfl
theorem i_X7_smallest_30 : aq_T 161 30 = some (aq_ld 0 3 31) := rfl
theorem i_X7_smallest_31 : aq_T 161 31 = some (aq_ret 0) := rfl
theorem i_X7_smallestPeriod_0 : aq_T 162 0 = some (aq_ld 0 1 1) := rfl
theorem i_X7_smallestPeriod_1 : aq_T 162 1 = some (aq_call 130 1 none 4) := rfl
theorem i_X7_smallestPeriod_4 : aq_T 162 4 = some (aq_if ai_ne0 13 7) := rfl
theorem i_X7_smallestPeriod_7 : aq_T 162 7 = some (aq_ld 4 0 8) := rfl
theorem i_X7_smallestPeriod_8 : aq_T 162 8 = some (aq_push (.int (1)) 9) := rfl
theorem i_X7_smallestPeriod_9 : aq_T 162 9 = some (aq_call 127 2 (some 7) 12) := rfl
theorem i_X7_smallestPeriod_12 : aq_T 162 12 = some (aq_ret 0) := rfl
theorem i_X7_smallestPeriod_13 : aq_T 162 13 = some (aq_ld 4 0 14) := rfl
theorem i_X7_smallestPeriod_14 : aq_T 162 14 = some (aq_gf 7 2 17) := rfl
theorem i_X7_smallestPeriod_17 : aq_T 162 17 = some (aq_ld 0 1 18) := rfl
theorem i_X7_smallestPeriod_18 : aq_T 162 18 = some (aq_ldi 0 19) := rfl
theorem i_X7_smallestPeriod_19 : aq_T 162 19 = some (aq_if ai_ne0 28 22) := rfl
theorem i_X7_smallestPeriod_22 : aq_T 162 22 = some (aq_ld 4 0 23) := rfl
theorem i_X7_smallestPeriod_23 : aq_T 162 23 = some (aq_push (.int (2)) 24) := rfl
theorem i_X7_smallestPeriod_24 : aq_T 162 24 = some (aq_call 127 2 (some 7) 27) := rfl
theorem i_X7_smallestPeriod_27 : aq_T 162 27 = some (aq_ret 0) := rfl
theorem i_X7_smallestPeriod_28 : aq_T 162 28 = some (aq_ld 4 0 29) := rfl
theorem i_X7_smallestPeriod_29 : aq_T 162 29 = some (aq_push (.int (0)) 30) := rfl
theorem i_X7_smallestPeriod_30 : aq_T 162 30 = some (aq_pf 7 0 0 33) := rfl
theorem i_X7_smallestPeriod_33 : aq_T 162 33 = some (aq_ld 4 0 34) := rfl
theorem i_X7_smallestPeriod_34 : aq_T 162 34 = some (aq_ld 0 1 35) := rfl
theorem i_X7_smallestPeriod_35 : aq_T 162 35 = some (aq_ld 0 2 36) := rfl
theorem i_X7_smallestPeriod_36 : aq_T 162 36 = some (aq_call 161 3 (some 7) 39) := rfl
theorem i_X7_smallestPeriod_39 : aq_T 162 39 = some (aq_ret 0) := rfl
theorem i_X7_periodBound_0 : aq_T 163 0 = some (aq_ld 0 1 1) := rfl
theorem i_X7_periodBound_1 : aq_T 163 1 = some (aq_ar af_i2l 2) := rfl
theorem i_X7_periodBound_2 : aq_T 163 2 = some (aq_push (.long 1) 3) := rfl
theorem i_X7_periodBound_3 : aq_T 163 3 = some (aq_push (.long (1000)) 6) := rfl
theorem i_X7_periodBound_6 : aq_T 163 6 = some (aq_call 129 3 none 9) := rfl
theorem i_X7_periodBound_9 : aq_T 163 9 = some (aq_if ai_eq0 34 12) := rfl
theorem i_X7_periodBound_12 : aq_T 163 12 = some (aq_ld 0 2 13) := rfl
theorem i_X7_periodBound_13 : aq_T 163 13 = some (aq_ar af_i2l 14) := rfl
theorem i_X7_periodBound_14 : aq_T 163 14 = some (aq_push (.long 1) 15) := rfl
theorem i_X7_periodBound_15 : aq_T 163 15 = some (aq_push (.long (1000)) 18) := rfl
theorem i_X7_periodBound_18 : aq_T 163 18 = some (aq_call 129 3 none 21) := rfl
theorem i_X7_periodBound_21 : aq_T 163 21 = some (aq_if ai_eq0 34 24) := rfl
theorem i_X7_periodBound_24 : aq_T 163 24 = some (aq_ld 0 3 25) := rfl
theorem i_X7_periodBound_25 : aq_T 163 25 = some (aq_ar af_i2l 26) := rfl
theorem i_X7_periodBound_26 : aq_T 163 26 = some (aq_push (.long 0) 27) := rfl
theorem i_X7_periodBound_27 : aq_T 163 27 = some (aq_push (.long 1) 28) := rfl
theorem i_X7_periodBound_28 : aq_T 163 28 = some (aq_call 129 3 none 31) := rfl
theorem i_X7_periodBound_31 : aq_T 163 31 = some (aq_if ai_ne0 40 34) := rfl
theorem i_X7_periodBound_34 : aq_T 163 34 = some (aq_ld 4 0 35) := rfl
theorem i_X7_periodBound_35 : aq_T 163 35 = some (aq_push (.int (1)) 36) := rfl
theorem i_X7_periodBound_36 : aq_T 163 36 = some (aq_call 127 2 (some 7) 39) := rfl
theorem i_X7_periodBound_39 : aq_T 163 39 = some (aq_ret 0) := rfl
theorem i_X7_periodBound_40 : aq_T 163 40 = some (aq_ld 4 0 41) := rfl
theorem i_X7_periodBound_41 : aq_T 163 41 = some (aq_push (.int (0)) 42) := rfl
theorem i_X7_periodBound_42 : aq_T 163 42 = some (aq_pf 7 0 0 45) := rfl
theorem i_X7_periodBound_45 : aq_T 163 45 = some (aq_ld 0 1 46) := rfl
theorem i_X7_periodBound_46 : aq_T 163 46 = some (aq_st 0 4 48) := rfl
theorem i_X7_periodBound_48 : aq_T 163 48 = some (aq_ld 0 2 49) := rfl
theorem i_X7_periodBound_49 : aq_T 163 49 = some (aq_st 0 5 51) := rfl
theorem i_X7_periodBound_51 : aq_T 163 51 = some (aq_ld 0 5 53) := rfl
theorem i_X7_periodBound_53 : aq_T 163 53 = some (aq_if ai_eq0 74 56) := rfl
theorem i_X7_periodBound_56 : aq_T 163 56 = some (aq_ld 0 4 58) := rfl
theorem i_X7_periodBound_58 : aq_T 163 58 = some (aq_ld 0 5 60) := rfl
theorem i_X7_periodBound_60 : aq_T 163 60 = some (aq_arc ac_irem 61) := rfl
theorem i_X7_periodBound_61 : aq_T 163 61 = some (aq_st 0 6 63) := rfl
theorem i_X7_periodBound_63 : aq_T 163 63 = some (aq_ld 0 5 65) := rfl
theorem i_X7_periodBound_65 : aq_T 163 65 = some (aq_st 0 4 67) := rfl
theorem i_X7_periodBound_67 : aq_T 163 67 = some (aq_ld 0 6 69) := rfl
theorem i_X7_periodBound_69 : aq_T 163 69 = some (aq_st 0 5 71) := rfl
theorem i_X7_periodBound_71 : aq_T 163 71 = some (aq_go 51) := rfl
theorem i_X7_periodBound_74 : aq_T 163 74 = some (aq_ld 0 1 75) := rfl
theorem i_X7_periodBound_75 : aq_T 163 75 = some (aq_ld 0 2 76) := rfl
theorem i_X7_periodBound_76 : aq_T 163 76 = some (aq_ar af_iadd 77) := rfl
theorem i_X7_periodBound_77 : aq_T 163 77 = some (aq_ld 0 3 78) := rfl
theorem i_X7_periodBound_78 : aq_T 163 78 = some (aq_if ai_ne0 86 81) := rfl
theorem i_X7_periodBound_81 : aq_T 163 81 = some (aq_ld 0 4 83) := rfl
theorem i_X7_periodBound_83 : aq_T 163 83 = some (aq_go 87) := rfl
theorem i_X7_periodBound_86 : aq_T 163 86 = some (aq_push (.int (0)) 87) := rfl
theorem i_X7_periodBound_87 : aq_T 163 87 = some (aq_ar af_isub 88) := rfl
theorem i_X7_periodBound_88 : aq_T 163 88 = some (aq_ret 0) := rfl
theorem i_X7_longestBorder_0 : aq_T 164 0 = some (aq_ld 0 1 1) := rfl
theorem i_X7_longestBorder_1 : aq_T 164 1 = some (aq_call 130 1 none 4) := rfl
theorem i_X7_longestBorder_4 : aq_T 164 4 = some (aq_if ai_ne0 13 7) := rfl
theorem i_X7_longestBorder_7 : aq_T 164 7 = some (aq_ld 4 0 8) := rfl
theorem i_X7_longestBorder_8 : aq_T 164 8 = some (aq_push (.int (1)) 9) := rfl
theorem i_X7_longestBorder_9 : aq_T 164 9 = some (aq_call 127 2 (some 7) 12) := rfl
theorem i_X7_longestBorder_12 : aq_T 164 12 = some (aq_ret 0) := rfl
theorem i_X7_longestBorder_13 : aq_T 164 13 = some (aq_ld 4 0 14) := rfl
theorem i_X7_longestBorder_14 : aq_T 164 14 = some (aq_push (.int (0)) 15) := rfl
theorem i_X7_longestBorder_15 : aq_T 164 15 = some (aq_pf 7 0 0 18) := rfl
theorem i_X7_longestBorder_18 : aq_T 164 18 = some (aq_ld 4 0 19) := rfl
theorem i_X7_longestBorder_19 : aq_T 164 19 = some (aq_gf 7 2 22) := rfl
theorem i_X7_longestBorder_22 : aq_T 164 22 = some (aq_ld 0 1 23) := rfl
theorem i_X7_longestBorder_23 : aq_T 164 23 = some (aq_ldi 0 24) := rfl
theorem i_X7_longestBorder_24 : aq_T 164 24 = some (aq_st 0 2 25) := rfl
theorem i_X7_longestBorder_25 : aq_T 164 25 = some (aq_ld 0 2 26) := rfl
theorem i_X7_longestBorder_26 : aq_T 164 26 = some (aq_push (.int (1)) 27) := rfl
theorem i_X7_longestBorder_27 : aq_T 164 27 = some (aq_ar af_isub 28) := rfl
theorem i_X7_longestBorder_28 : aq_T 164 28 = some (aq_st 0 3 29) := rfl
theorem i_X7_longestBorder_29 : aq_T 164 29 = some (aq_ld 0 3 30) := rfl
theorem i_X7_longestBorder_30 : aq_T 164 30 = some (aq_if ai_le0 86 33) := rfl
theorem i_X7_longestBorder_33 : aq_T 164 33 = some (aq_push (.int (0)) 34) := rfl
theorem i_X7_longestBorder_34 : aq_T 164 34 = some (aq_st 0 4 36) := rfl
theorem i_X7_longestBorder_36 : aq_T 164 36 = some (aq_ld 0 4 38) := rfl
theorem i_X7_longestBorder_38 : aq_T 164 38 = some (aq_ld 0 3 39) := rfl
theorem i_X7_longestBorder_39 : aq_T 164 39 = some (aq_if ai_ge 72 42) := rfl
theorem i_X7_longestBorder_42 : aq_T 164 42 = some (aq_ld 4 0 43) := rfl
theorem i_X7_longestBorder_43 : aq_T 164 43 = some (aq_ld 0 1 44) := rfl
theorem i_X7_longestBorder_44 : aq_T 164 44 = some (aq_ld 0 4 46) := rfl
theorem i_X7_longestBorder_46 : aq_T 164 46 = some (aq_call 132 3 (some 7) 49) := rfl
theorem i_X7_longestBorder_49 : aq_T 164 49 = some (aq_ld 4 0 50) := rfl
theorem i_X7_longestBorder_50 : aq_T 164 50 = some (aq_ld 0 1 51) := rfl
theorem i_X7_longestBorder_51 : aq_T 164 51 = some (aq_ld 0 2 52) := rfl
theorem i_X7_longestBorder_52 : aq_T 164 52 = some (aq_ld 0 3 53) := rfl
theorem i_X7_longestBorder_53 : aq_T 164 53 = some (aq_ar af_isub 54) := rfl
theorem i_X7_longestBorder_54 : aq_T 164 54 = some (aq_ld 0 4 56) := rfl
theorem i_X7_longestBorder_56 : aq_T 164 56 = some (aq_ar af_iadd 57) := rfl
theorem i_X7_longestBorder_57 : aq_T 164 57 = some (aq_call 132 3 (some 7) 60) := rfl
theorem i_X7_longestBorder_60 : aq_T 164 60 = some (aq_call 152 2 none 63) := rfl
theorem i_X7_longestBorder_63 : aq_T 164 63 = some (aq_if ai_ne0 72 66) := rfl
theorem i_X7_longestBorder_66 : aq_T 164 66 = some (aq_inc 4 (1) 69) := rfl
theorem i_X7_longestBorder_69 : aq_T 164 69 = some (aq_go 36) := rfl
theorem i_X7_longestBorder_72 : aq_T 164 72 = some (aq_ld 0 4 74) := rfl
theorem i_X7_longestBorder_74 : aq_T 164 74 = some (aq_ld 0 3 75) := rfl
theorem i_X7_longestBorder_75 : aq_T 164 75 = some (aq_if ai_ne 80 78) := rfl
theorem i_X7_longestBorder_78 : aq_T 164 78 = some (aq_ld 0 3 79) := rfl
theorem i_X7_longestBorder_79 : aq_T 164 79 = some (aq_ret 0) := rfl
theorem i_X7_longestBorder_80 : aq_T 164 80 = some (aq_inc 3 (-1) 83) := rfl
theorem i_X7_longestBorder_83 : aq_T 164 83 = some (aq_go 29) := rfl
theorem i_X7_longestBorder_86 : aq_T 164 86 = some (aq_push (.int (0)) 87) := rfl
theorem i_X7_longestBorder_87 : aq_T 164 87 = some (aq_ret 0) := rfl
theorem i_X7_exponentOf_0 : aq_T 165 0 = some (aq_push (.int (1)) 1) := rfl
theorem i_X7_exponentOf_1 : aq_T 165 1 = some (aq_st 0 3 2) := rfl
theorem i_X7_exponentOf_2 : aq_T 165 2 = some (aq_ld 0 2 3) := rfl
theorem i_X7_exponentOf_3 : aq_T 165 3 = some (aq_ld 0 3 4) := rfl
theorem i_X7_exponentOf_4 : aq_T 165 4 = some (aq_arc ac_irem 5) := rfl
theorem i_X7_exponentOf_5 : aq_T 165 5 = some (aq_if ai_ne0 19 8) := rfl
theorem i_X7_exponentOf_8 : aq_T 165 8 = some (aq_ld 4 0 9) := rfl
theorem i_X7_exponentOf_9 : aq_T 165 9 = some (aq_ld 0 1 10) := rfl
theorem i_X7_exponentOf_10 : aq_T 165 10 = some (aq_ld 0 2 11) := rfl
theorem i_X7_exponentOf_11 : aq_T 165 11 = some (aq_ld 0 3 12) := rfl
theorem i_X7_exponentOf_12 : aq_T 165 12 = some (aq_push (.int (0)) 13) := rfl
theorem i_X7_exponentOf_13 : aq_T 165 13 = some (aq_call 159 5 none 16) := rfl
theorem i_X7_exponentOf_16 : aq_T 165 16 = some (aq_if ai_ne0 25 19) := rfl
theorem i_X7_exponentOf_19 : aq_T 165 19 = some (aq_inc 3 (1) 22) := rfl
theorem i_X7_exponentOf_22 : aq_T 165 22 = some (aq_go 2) := rfl
theorem i_X7_exponentOf_25 : aq_T 165 25 = some (aq_ld 0 2 26) := rfl
theorem i_X7_exponentOf_26 : aq_T 165 26 = some (aq_ld 0 3 27) := rfl
theorem i_X7_exponentOf_27 : aq_T 165 27 = some (aq_arc ac_idiv 28) := rfl
theorem i_X7_exponentOf_28 : aq_T 165 28 = some (aq_ret 0) := rfl
theorem i_X7_isPrimitive_0 : aq_T 166 0 = some (aq_ld 0 1 1) := rfl
theorem i_X7_isPrimitive_1 : aq_T 166 1 = some (aq_call 130 1 none 4) := rfl
theorem i_X7_isPrimitive_4 : aq_T 166 4 = some (aq_if ai_ne0 13 7) := rfl
theorem i_X7_isPrimitive_7 : aq_T 166 7 = some (aq_ld 4 0 8) := rfl
theorem i_X7_isPrimitive_8 : aq_T 166 8 = some (aq_push (.int (1)) 9) := rfl
theorem i_X7_isPrimitive_9 : aq_T 166 9 = some (aq_call 128 2 (some 7) 12) := rfl
theorem i_X7_isPrimitive_12 : aq_T 166 12 = some (aq_ret 5) := rfl
theorem i_X7_isPrimitive_13 : aq_T 166 13 = some (aq_ld 4 0 14) := rfl
theorem i_X7_isPrimitive_14 : aq_T 166 14 = some (aq_push (.int (0)) 15) := rfl
theorem i_X7_isPrimitive_15 : aq_T 166 15 = some (aq_pf 7 0 0 18) := rfl
theorem i_X7_isPrimitive_18 : aq_T 166 18 = some (aq_ld 4 0 19) := rfl
theorem i_X7_isPrimitive_19 : aq_T 166 19 = some (aq_gf 7 2 22) := rfl
theorem i_X7_isPrimitive_22 : aq_T 166 22 = some (aq_ld 0 1 23) := rfl
theorem i_X7_isPrimitive_23 : aq_T 166 23 = some (aq_ldi 0 24) := rfl
theorem i_X7_isPrimitive_24 : aq_T 166 24 = some (aq_if ai_le0 52 27) := rfl
theorem i_X7_isPrimitive_27 : aq_T 166 27 = some (aq_ld 4 0 28) := rfl
theorem i_X7_isPrimitive_28 : aq_T 166 28 = some (aq_gf 7 3 31) := rfl
theorem i_X7_isPrimitive_31 : aq_T 166 31 = some (aq_push (.int (40)) 33) := rfl
theorem i_X7_isPrimitive_33 : aq_T 166 33 = some (aq_ld 0 1 34) := rfl
theorem i_X7_isPrimitive_34 : aq_T 166 34 = some (aq_ar af_imul 35) := rfl
theorem i_X7_isPrimitive_35 : aq_T 166 35 = some (aq_ld 4 0 36) := rfl
theorem i_X7_isPrimitive_36 : aq_T 166 36 = some (aq_gf 7 2 39) := rfl
theorem i_X7_isPrimitive_39 : aq_T 166 39 = some (aq_ld 0 1 40) := rfl
theorem i_X7_isPrimitive_40 : aq_T 166 40 = some (aq_ldi 0 41) := rfl
theorem i_X7_isPrimitive_41 : aq_T 166 41 = some (aq_call 165 3 none 44) := rfl
theorem i_X7_isPrimitive_44 : aq_T 166 44 = some (aq_push (.int (1)) 45) := rfl
theorem i_X7_isPrimitive_45 : aq_T 166 45 = some (aq_if ai_ne 52 48) := rfl
theorem i_X7_isPrimitive_48 : aq_T 166 48 = some (aq_push (.int (1)) 49) := rfl
theorem i_X7_isPrimitive_49 : aq_T 166 49 = some (aq_go 53) := rfl
theorem i_X7_isPrimitive_52 : aq_T 166 52 = some (aq_push (.int (0)) 53) := rfl
theorem i_X7_isPrimitive_53 : aq_T 166 53 = some (aq_ret 5) := rfl
theorem i_X7_exponent_0 : aq_T 167 0 = some (aq_ld 0 1 1) := rfl
theorem i_X7_exponent_1 : aq_T 167 1 = some (aq_call 130 1 none 4) := rfl
theorem i_X7_exponent_4 : aq_T 167 4 = some (aq_if ai_ne0 13 7) := rfl
theorem i_X7_exponent_7 : aq_T 167 7 = some (aq_ld 4 0 8) := rfl
theorem i_X7_exponent_8 : aq_T 167 8 = some (aq_push (.int (1)) 9) := rfl
theorem i_X7_exponent_9 : aq_T 167 9 = some (aq_call 127 2 (some 7) 12) := rfl
theorem i_X7_exponent_12 : aq_T 167 12 = some (aq_ret 0) := rfl
theorem i_X7_exponent_13 : aq_T 167 13 = some (aq_ld 4 0 14) := rfl
theorem i_X7_exponent_14 : aq_T 167 14 = some (aq_gf 7 2 17) := rfl
theorem i_X7_exponent_17 : aq_T 167 17 = some (aq_ld 0 1 18) := rfl
theorem i_X7_exponent_18 : aq_T 167 18 = some (aq_ldi 0 19) := rfl
theorem i_X7_exponent_19 : aq_T 167 19 = some (aq_if ai_ne0 28 22) := rfl
theorem i_X7_exponent_22 : aq_T 167 22 = some (aq_ld 4 0 23) := rfl
theorem i_X7_exponent_23 : aq_T 167 23 = some (aq_push (.int (2)) 24) := rfl
theorem i_X7_exponent_24 : aq_T 167 24 = some (aq_call 127 2 (some 7) 27) := rfl
theorem i_X7_exponent_27 : aq_T 167 27 = some (aq_ret 0) := rfl
theorem i_X7_exponent_28 : aq_T 167 28 = some (aq_ld 4 0 29) := rfl
theorem i_X7_exponent_29 : aq_T 167 29 = some (aq_push (.int (0)) 30) := rfl
theorem i_X7_exponent_30 : aq_T 167 30 = some (aq_pf 7 0 0 33) := rfl
theorem i_X7_exponent_33 : aq_T 167 33 = some (aq_ld 4 0 34) := rfl
theorem i_X7_exponent_34 : aq_T 167 34 = some (aq_gf 7 3 37) := rfl
theorem i_X7_exponent_37 : aq_T 167 37 = some (aq_push (.int (40)) 39) := rfl
theorem i_X7_exponent_39 : aq_T 167 39 = some (aq_ld 0 1 40) := rfl
theorem i_X7_exponent_40 : aq_T 167 40 = some (aq_ar af_imul 41) := rfl
theorem i_X7_exponent_41 : aq_T 167 41 = some (aq_ld 4 0 42) := rfl
theorem i_X7_exponent_42 : aq_T 167 42 = some (aq_gf 7 2 45) := rfl
theorem i_X7_exponent_45 : aq_T 167 45 = some (aq_ld 0 1 46) := rfl
theorem i_X7_exponent_46 : aq_T 167 46 = some (aq_ldi 0 47) := rfl
theorem i_X7_exponent_47 : aq_T 167 47 = some (aq_call 165 3 none 50) := rfl
theorem i_X7_exponent_50 : aq_T 167 50 = some (aq_ret 0) := rfl
theorem i_X7_isBeyond_0 : aq_T 168 0 = some (aq_ld 4 0 1) := rfl
theorem i_X7_isBeyond_1 : aq_T 168 1 = some (aq_gf 7 1 4) := rfl
theorem i_X7_isBeyond_4 : aq_T 168 4 = some (aq_push (.int (3)) 5) := rfl
theorem i_X7_isBeyond_5 : aq_T 168 5 = some (aq_if ai_ne 22 8) := rfl
theorem i_X7_isBeyond_8 : aq_T 168 8 = some (aq_ld 4 0 9) := rfl
theorem i_X7_isBeyond_9 : aq_T 168 9 = some (aq_ld 0 1 10) := rfl
theorem i_X7_isBeyond_10 : aq_T 168 10 = some (aq_call 150 2 (some 7) 13) := rfl
theorem i_X7_isBeyond_13 : aq_T 168 13 = some (aq_push (.int (40)) 15) := rfl
theorem i_X7_isBeyond_15 : aq_T 168 15 = some (aq_if ai_ne 22 18) := rfl
theorem i_X7_isBeyond_18 : aq_T 168 18 = some (aq_push (.int (1)) 19) := rfl
theorem i_X7_isBeyond_19 : aq_T 168 19 = some (aq_go 23) := rfl
theorem i_X7_isBeyond_22 : aq_T 168 22 = some (aq_push (.int (0)) 23) := rfl
theorem i_X7_isBeyond_23 : aq_T 168 23 = some (aq_ret 5) := rfl
theorem i_X7_completionsOf_0 : aq_T 169 0 = some (aq_push (.long 1) 1) := rfl
theorem i_X7_completionsOf_1 : aq_T 169 1 = some (aq_st 1 2 2) := rfl
theorem i_X7_completionsOf_2 : aq_T 169 2 = some (aq_ld 4 0 3) := rfl
theorem i_X7_completionsOf_3 : aq_T 169 3 = some (aq_ld 0 1 4) := rfl
theorem i_X7_completionsOf_4 : aq_T 169 4 = some (aq_call 150 2 (some 7) 7) := rfl
theorem i_X7_completionsOf_7 : aq_T 169 7 = some (aq_st 0 4 9) := rfl
theorem i_X7_completionsOf_9 : aq_T 169 9 = some (aq_ld 0 4 11) := rfl
theorem i_X7_completionsOf_11 : aq_T 169 11 = some (aq_if ai_le0 28 14) := rfl
theorem i_X7_completionsOf_14 : aq_T 169 14 = some (aq_ld 1 2 15) := rfl
theorem i_X7_completionsOf_15 : aq_T 169 15 = some (aq_ld 4 0 16) := rfl
theorem i_X7_completionsOf_16 : aq_T 169 16 = some (aq_gf 7 1 19) := rfl
theorem i_X7_completionsOf_19 : aq_T 169 19 = some (aq_ar af_i2l 20) := rfl
theorem i_X7_completionsOf_20 : aq_T 169 20 = some (aq_ar af_lmul 21) := rfl
theorem i_X7_completionsOf_21 : aq_T 169 21 = some (aq_st 1 2 22) := rfl
theorem i_X7_completionsOf_22 : aq_T 169 22 = some (aq_inc 4 (-1) 25) := rfl
theorem i_X7_completionsOf_25 : aq_T 169 25 = some (aq_go 9) := rfl
theorem i_X7_completionsOf_28 : aq_T 169 28 = some (aq_ld 1 2 29) := rfl
theorem i_X7_completionsOf_29 : aq_T 169 29 = some (aq_ret 1) := rfl
theorem i_X7_completionCount_0 : aq_T 170 0 = some (aq_ld 0 1 1) := rfl
theorem i_X7_completionCount_1 : aq_T 170 1 = some (aq_call 130 1 none 4) := rfl
theorem i_X7_completionCount_4 : aq_T 170 4 = some (aq_if ai_ne0 14 7) := rfl
theorem i_X7_completionCount_7 : aq_T 170 7 = some (aq_ld 4 0 8) := rfl
theorem i_X7_completionCount_8 : aq_T 170 8 = some (aq_push (.int (1)) 9) := rfl
theorem i_X7_completionCount_9 : aq_T 170 9 = some (aq_call 127 2 (some 7) 12) := rfl
theorem i_X7_completionCount_12 : aq_T 170 12 = some (aq_ar af_i2l 13) := rfl
theorem i_X7_completionCount_13 : aq_T 170 13 = some (aq_ret 1) := rfl
theorem i_X7_completionCount_14 : aq_T 170 14 = some (aq_ld 4 0 15) := rfl
theorem i_X7_completionCount_15 : aq_T 170 15 = some (aq_ld 0 1 16) := rfl
theorem i_X7_completionCount_16 : aq_T 170 16 = some (aq_call 168 2 (some 7) 19) := rfl
theorem i_X7_completionCount_19 : aq_T 170 19 = some (aq_if ai_eq0 29 22) := rfl
theorem i_X7_completionCount_22 : aq_T 170 22 = some (aq_ld 4 0 23) := rfl
theorem i_X7_completionCount_23 : aq_T 170 23 = some (aq_push (.int (2)) 24) := rfl
theorem i_X7_completionCount_24 : aq_T 170 24 = some (aq_call 127 2 (some 7) 27) := rfl
theorem i_X7_completionCount_27 : aq_T 170 27 = some (aq_ar af_i2l 28) := rfl
theorem i_X7_completionCount_28 : aq_T 170 28 = some (aq_ret 1) := rfl
theorem i_X7_completionCount_29 : aq_T 170 29 = some (aq_ld 4 0 30) := rfl
theorem i_X7_completionCount_30 : aq_T 170 30 = some (aq_push (.int (0)) 31) := rfl
theorem i_X7_completionCount_31 : aq_T 170 31 = some (aq_pf 7 0 0 34) := rfl
theorem i_X7_completionCount_34 : aq_T 170 34 = some (aq_ld 4 0 35) := rfl
theorem i_X7_completionCount_35 : aq_T 170 35 = some (aq_ld 0 1 36) := rfl
theorem i_X7_completionCount_36 : aq_T 170 36 = some (aq_call 169 2 (some 7) 39) := rfl
theorem i_X7_completionCount_39 : aq_T 170 39 = some (aq_ret 1) := rfl
theorem i_X7_completes_0 : aq_T 171 0 = some (aq_ld 1 2 1) := rfl
theorem i_X7_completes_1 : aq_T 171 1 = some (aq_st 1 4 3) := rfl
theorem i_X7_completes_3 : aq_T 171 3 = some (aq_ld 4 0 4) := rfl
theorem i_X7_completes_4 : aq_T 171 4 = some (aq_gf 7 2 7) := rfl
theorem i_X7_completes_7 : aq_T 171 7 = some (aq_ld 0 1 8) := rfl
theorem i_X7_completes_8 : aq_T 171 8 = some (aq_ldi 0 9) := rfl
theorem i_X7_completes_9 : aq_T 171 9 = some (aq_push (.int (1)) 10) := rfl
theorem i_X7_completes_10 : aq_T 171 10 = some (aq_ar af_isub 11) := rfl
theorem i_X7_completes_11 : aq_T 171 11 = some (aq_st 0 6 13) := rfl
theorem i_X7_completes_13 : aq_T 171 13 = some (aq_ld 0 6 15) := rfl
theorem i_X7_completes_15 : aq_T 171 15 = some (aq_if ai_lt0 78 18) := rfl
theorem i_X7_completes_18 : aq_T 171 18 = some (aq_ld 4 0 19) := rfl
theorem i_X7_completes_19 : aq_T 171 19 = some (aq_gf 7 4 22) := rfl
theorem i_X7_completes_22 : aq_T 171 22 = some (aq_ld 0 6 24) := rfl
theorem i_X7_completes_24 : aq_T 171 24 = some (aq_ld 4 0 25) := rfl
theorem i_X7_completes_25 : aq_T 171 25 = some (aq_ld 0 1 26) := rfl
theorem i_X7_completes_26 : aq_T 171 26 = some (aq_ld 0 6 28) := rfl
theorem i_X7_completes_28 : aq_T 171 28 = some (aq_call 132 3 (some 7) 31) := rfl
theorem i_X7_completes_31 : aq_T 171 31 = some (aq_sti 32) := rfl
theorem i_X7_completes_32 : aq_T 171 32 = some (aq_ld 4 0 33) := rfl
theorem i_X7_completes_33 : aq_T 171 33 = some (aq_gf 7 4 36) := rfl
theorem i_X7_completes_36 : aq_T 171 36 = some (aq_ld 0 6 38) := rfl
theorem i_X7_completes_38 : aq_T 171 38 = some (aq_ldi 0 39) := rfl
theorem i_X7_completes_39 : aq_T 171 39 = some (aq_push (.int (-1)) 40) := rfl
theorem i_X7_completes_40 : aq_T 171 40 = some (aq_if ai_eq 46 43) := rfl
theorem i_X7_completes_43 : aq_T 171 43 = some (aq_go 72) := rfl
theorem i_X7_completes_46 : aq_T 171 46 = some (aq_ld 4 0 47) := rfl
theorem i_X7_completes_47 : aq_T 171 47 = some (aq_gf 7 4 50) := rfl
theorem i_X7_completes_50 : aq_T 171 50 = some (aq_ld 0 6 52) := rfl
theorem i_X7_completes_52 : aq_T 171 52 = some (aq_ld 1 4 54) := rfl
theorem i_X7_completes_54 : aq_T 171 54 = some (aq_ld 4 0 55) := rfl
theorem i_X7_completes_55 : aq_T 171 55 = some (aq_gf 7 1 58) := rfl
theorem i_X7_completes_58 : aq_T 171 58 = some (aq_ar af_i2l 59) := rfl
theorem i_X7_completes_59 : aq_T 171 59 = some (aq_arc ac_lrem 60) := rfl
theorem i_X7_completes_60 : aq_T 171 60 = some (aq_ar af_l2i 61) := rfl
theorem i_X7_completes_61 : aq_T 171 61 = some (aq_sti 62) := rfl
theorem i_X7_completes_62 : aq_T 171 62 = some (aq_ld 1 4 64) := rfl
theorem i_X7_completes_64 : aq_T 171 64 = some (aq_ld 4 0 65) := rfl
theorem i_X7_completes_65 : aq_T 171 65 = some (aq_gf 7 1 68) := rfl
theorem i_X7_completes_68 : aq_T 171 68 = some (aq_ar af_i2l 69) := rfl
theorem i_X7_completes_69 : aq_T 171 69 = some (aq_arc ac_ldiv 70) := rfl
theorem i_X7_completes_70 : aq_T 171 70 = some (aq_st 1 4 72) := rfl
theorem i_X7_completes_72 : aq_T 171 72 = some (aq_inc 6 (-1) 75) := rfl
theorem i_X7_completes_75 : aq_T 171 75 = some (aq_go 13) := rfl
theorem i_X7_completes_78 : aq_T 171 78 = some (aq_retv) := rfl
theorem i_X7_complete_0 : aq_T 172 0 = some (aq_ld 0 1 1) := rfl
theorem i_X7_complete_1 : aq_T 172 1 = some (aq_call 130 1 none 4) := rfl
theorem i_X7_complete_4 : aq_T 172 4 = some (aq_if ai_eq0 15 7) := rfl
theorem i_X7_complete_7 : aq_T 172 7 = some (aq_ld 0 4 9) := rfl
theorem i_X7_complete_9 : aq_T 172 9 = some (aq_call 130 1 none 12) := rfl
theorem i_X7_complete_12 : aq_T 172 12 = some (aq_if ai_ne0 21 15) := rfl
theorem i_X7_complete_15 : aq_T 172 15 = some (aq_ld 4 0 16) := rfl
theorem i_X7_complete_16 : aq_T 172 16 = some (aq_push (.int (1)) 17) := rfl
theorem i_X7_complete_17 : aq_T 172 17 = some (aq_call 127 2 (some 7) 20) := rfl
theorem i_X7_complete_20 : aq_T 172 20 = some (aq_ret 0) := rfl
theorem i_X7_complete_21 : aq_T 172 21 = some (aq_ld 4 0 22) := rfl
theorem i_X7_complete_22 : aq_T 172 22 = some (aq_ld 0 1 23) := rfl
theorem i_X7_complete_23 : aq_T 172 23 = some (aq_call 168 2 (some 7) 26) := rfl
theorem i_X7_complete_26 : aq_T 172 26 = some (aq_if ai_eq0 35 29) := rfl
theorem i_X7_complete_29 : aq_T 172 29 = some (aq_ld 4 0 30) := rfl
theorem i_X7_complete_30 : aq_T 172 30 = some (aq_push (.int (2)) 31) := rfl
theorem i_X7_complete_31 : aq_T 172 31 = some (aq_call 127 2 (some 7) 34) := rfl
theorem i_X7_complete_34 : aq_T 172 34 = some (aq_ret 0) := rfl
theorem i_X7_complete_35 : aq_T 172 35 = some (aq_ld 1 2 36) := rfl
theorem i_X7_complete_36 : aq_T 172 36 = some (aq_push (.long 0) 37) := rfl
theorem i_X7_complete_37 : aq_T 172 37 = some (aq_ld 4 0 38) := rfl
theorem i_X7_complete_38 : aq_T 172 38 = some (aq_ld 0 1 39) := rfl
theorem i_X7_complete_39 : aq_T 172 39 = some (aq_call 169 2 (some 7) 42) := rfl
theorem i_X7_complete_42 : aq_T 172 42 = some (aq_push (.long 1) 43) := rfl
theorem i_X7_complete_43 : aq_T 172 43 = some (aq_ar af_lsub 44) := rfl
theorem i_X7_complete_44 : aq_T 172 44 = some (aq_call 129 3 none 47) := rfl
theorem i_X7_complete_47 : aq_T 172 47 = some (aq_if ai_ne0 56 50) := rfl
theorem i_X7_complete_50 : aq_T 172 50 = some (aq_ld 4 0 51) := rfl
theorem i_X7_complete_51 : aq_T 172 51 = some (aq_push (.int (3)) 52) := rfl
theorem i_X7_complete_52 : aq_T 172 52 = some (aq_call 127 2 (some 7) 55) := rfl
theorem i_X7_complete_55 : aq_T 172 55 = some (aq_ret 0) := rfl
theorem i_X7_complete_56 : aq_T 172 56 = some (aq_ld 4 0 57) := rfl
theorem i_X7_complete_57 : aq_T 172 57 = some (aq_push (.int (0)) 58) := rfl
theorem i_X7_complete_58 : aq_T 172 58 = some (aq_pf 7 0 0 61) := rfl
theorem i_X7_complete_61 : aq_T 172 61 = some (aq_ld 4 0 62) := rfl
theorem i_X7_complete_62 : aq_T 172 62 = some (aq_ld 0 1 63) := rfl
theorem i_X7_complete_63 : aq_T 172 63 = some (aq_ld 1 2 64) := rfl
theorem i_X7_complete_64 : aq_T 172 64 = some (aq_call 171 3 (some 7) 67) := rfl
theorem i_X7_complete_67 : aq_T 172 67 = some (aq_ld 4 0 68) := rfl
theorem i_X7_complete_68 : aq_T 172 68 = some (aq_gf 7 2 71) := rfl
theorem i_X7_complete_71 : aq_T 172 71 = some (aq_ld 0 4 73) := rfl
theorem i_X7_complete_73 : aq_T 172 73 = some (aq_ld 4 0 74) := rfl
theorem i_X7_complete_74 : aq_T 172 74 = some (aq_gf 7 2 77) := rfl
theorem i_X7_complete_77 : aq_T 172 77 = some (aq_ld 0 1 78) := rfl
theorem i_X7_complete_78 : aq_T 172 78 = some (aq_ldi 0 79) := rfl
theorem i_X7_complete_79 : aq_T 172 79 = some (aq_sti 80) := rfl
theorem i_X7_complete_80 : aq_T 172 80 = some (aq_ld 4 0 81) := rfl
theorem i_X7_complete_81 : aq_T 172 81 = some (aq_ld 0 4 83) := rfl
theorem i_X7_complete_83 : aq_T 172 83 = some (aq_call 147 2 (some 7) 86) := rfl
theorem i_X7_complete_86 : aq_T 172 86 = some (aq_ar af_pop 87) := rfl
theorem i_X7_complete_87 : aq_T 172 87 = some (aq_ld 4 0 88) := rfl
theorem i_X7_complete_88 : aq_T 172 88 = some (aq_gf 7 2 91) := rfl
theorem i_X7_complete_91 : aq_T 172 91 = some (aq_ld 0 4 93) := rfl
theorem i_X7_complete_93 : aq_T 172 93 = some (aq_ldi 0 94) := rfl
theorem i_X7_complete_94 : aq_T 172 94 = some (aq_ret 0) := rfl
theorem i_X7_primitiveCompletions_0 : aq_T 173 0 = some (aq_ld 0 1 1) := rfl
theorem i_X7_primitiveCompletions_1 : aq_T 173 1 = some (aq_call 130 1 none 4) := rfl
theorem i_X7_primitiveCompletions_4 : aq_T 173 4 = some (aq_if ai_ne0 13 7) := rfl
theorem i_X7_primitiveCompletions_7 : aq_T 173 7 = some (aq_ld 4 0 8) := rfl
theorem i_X7_primitiveCompletions_8 : aq_T 173 8 = some (aq_push (.int (1)) 9) := rfl
theorem i_X7_primitiveCompletions_9 : aq_T 173 9 = some (aq_call 127 2 (some 7) 12) := rfl
theorem i_X7_primitiveCompletions_12 : aq_T 173 12 = some (aq_ret 0) := rfl
theorem i_X7_primitiveCompletions_13 : aq_T 173 13 = some (aq_ld 4 0 14) := rfl
theorem i_X7_primitiveCompletions_14 : aq_T 173 14 = some (aq_ld 0 1 15) := rfl
theorem i_X7_primitiveCompletions_15 : aq_T 173 15 = some (aq_call 150 2 (some 7) 18) := rfl
theorem i_X7_primitiveCompletions_18 : aq_T 173 18 = some (aq_push (.int (7)) 20) := rfl
theorem i_X7_primitiveCompletions_20 : aq_T 173 20 = some (aq_if ai_le 29 23) := rfl
theorem i_X7_primitiveCompletions_23 : aq_T 173 23 = some (aq_ld 4 0 24) := rfl
theorem i_X7_primitiveCompletions_24 : aq_T 173 24 = some (aq_push (.int (2)) 25) := rfl
theorem i_X7_primitiveCompletions_25 : aq_T 173 25 = some (aq_call 127 2 (some 7) 28) := rfl
theorem i_X7_primitiveCompletions_28 : aq_T 173 28 = some (aq_ret 0) := rfl
theorem i_X7_primitiveCompletions_29 : aq_T 173 29 = some (aq_ld 4 0 30) := rfl
theorem i_X7_primitiveCompletions_30 : aq_T 173 30 = some (aq_push (.int (0)) 31) := rfl
theorem i_X7_primitiveCompletions_31 : aq_T 173 31 = some (aq_pf 7 0 0 34) := rfl
theorem i_X7_primitiveCompletions_34 : aq_T 173 34 = some (aq_push (.int (0)) 35) := rfl
theorem i_X7_primitiveCompletions_35 : aq_T 173 35 = some (aq_st 0 2 36) := rfl
theorem i_X7_primitiveCompletions_36 : aq_T 173 36 = some (aq_ld 4 0 37) := rfl
theorem i_X7_primitiveCompletions_37 : aq_T 173 37 = some (aq_gf 7 2 40) := rfl
theorem i_X7_primitiveCompletions_40 : aq_T 173 40 = some (aq_ld 0 1 41) := rfl
theorem i_X7_primitiveCompletions_41 : aq_T 173 41 = some (aq_ldi 0 42) := rfl
theorem i_X7_primitiveCompletions_42 : aq_T 173 42 = some (aq_if ai_ne0 49 45) := rfl
theorem i_X7_primitiveCompletions_45 : aq_T 173 45 = some (aq_push (.long 0) 46) := rfl
theorem i_X7_primitiveCompletions_46 : aq_T 173 46 = some (aq_go 54) := rfl
theorem i_X7_primitiveCompletions_49 : aq_T 173 49 = some (aq_ld 4 0 50) := rfl
theorem i_X7_primitiveCompletions_50 : aq_T 173 50 = some (aq_ld 0 1 51) := rfl
theorem i_X7_primitiveCompletions_51 : aq_T 173 51 = some (aq_call 169 2 (some 7) 54) := rfl
theorem i_X7_primitiveCompletions_54 : aq_T 173 54 = some (aq_st 1 3 55) := rfl
theorem i_X7_primitiveCompletions_55 : aq_T 173 55 = some (aq_push (.long 0) 56) := rfl
theorem i_X7_primitiveCompletions_56 : aq_T 173 56 = some (aq_st 1 5 58) := rfl
theorem i_X7_primitiveCompletions_58 : aq_T 173 58 = some (aq_ld 1 5 60) := rfl
theorem i_X7_primitiveCompletions_60 : aq_T 173 60 = some (aq_ld 1 3 61) := rfl
theorem i_X7_primitiveCompletions_61 : aq_T 173 61 = some (aq_ar af_lcmp 62) := rfl
theorem i_X7_primitiveCompletions_62 : aq_T 173 62 = some (aq_if ai_ge0 107 65) := rfl
theorem i_X7_primitiveCompletions_65 : aq_T 173 65 = some (aq_ld 4 0 66) := rfl
theorem i_X7_primitiveCompletions_66 : aq_T 173 66 = some (aq_ld 0 1 67) := rfl
theorem i_X7_primitiveCompletions_67 : aq_T 173 67 = some (aq_ld 1 5 69) := rfl
theorem i_X7_primitiveCompletions_69 : aq_T 173 69 = some (aq_call 171 3 (some 7) 72) := rfl
theorem i_X7_primitiveCompletions_72 : aq_T 173 72 = some (aq_ld 0 2 73) := rfl
theorem i_X7_primitiveCompletions_73 : aq_T 173 73 = some (aq_ld 4 0 74) := rfl
theorem i_X7_primitiveCompletions_74 : aq_T 173 74 = some (aq_gf 7 4 77) := rfl
theorem i_X7_primitiveCompletions_77 : aq_T 173 77 = some (aq_push (.int (0)) 78) := rfl
theorem i_X7_primitiveCompletions_78 : aq_T 173 78 = some (aq_ld 4 0 79) := rfl
theorem i_X7_primitiveCompletions_79 : aq_T 173 79 = some (aq_gf 7 2 82) := rfl
theorem i_X7_primitiveCompletions_82 : aq_T 173 82 = some (aq_ld 0 1 83) := rfl
theorem i_X7_primitiveCompletions_83 : aq_T 173 83 = some (aq_ldi 0 84) := rfl
theorem i_X7_primitiveCompletions_84 : aq_T 173 84 = some (aq_call 165 3 none 87) := rfl
theorem i_X7_primitiveCompletions_87 : aq_T 173 87 = some (aq_push (.int (1)) 88) := rfl
theorem i_X7_primitiveCompletions_88 : aq_T 173 88 = some (aq_if ai_ne 95 91) := rfl
theorem i_X7_primitiveCompletions_91 : aq_T 173 91 = some (aq_push (.int (1)) 92) := rfl
theorem i_X7_primitiveCompletions_92 : aq_T 173 92 = some (aq_go 96) := rfl
theorem i_X7_primitiveCompletions_95 : aq_T 173 95 = some (aq_push (.int (0)) 96) := rfl
theorem i_X7_primitiveCompletions_96 : aq_T 173 96 = some (aq_ar af_iadd 97) := rfl
theorem i_X7_primitiveCompletions_97 : aq_T 173 97 = some (aq_st 0 2 98) := rfl
theorem i_X7_primitiveCompletions_98 : aq_T 173 98 = some (aq_ld 1 5 100) := rfl
theorem i_X7_primitiveCompletions_100 : aq_T 173 100 = some (aq_push (.long 1) 101) := rfl
theorem i_X7_primitiveCompletions_101 : aq_T 173 101 = some (aq_ar af_ladd 102) := rfl
theorem i_X7_primitiveCompletions_102 : aq_T 173 102 = some (aq_st 1 5 104) := rfl
theorem i_X7_primitiveCompletions_104 : aq_T 173 104 = some (aq_go 58) := rfl
theorem i_X7_primitiveCompletions_107 : aq_T 173 107 = some (aq_ld 0 2 108) := rfl
theorem i_X7_primitiveCompletions_108 : aq_T 173 108 = some (aq_ret 0) := rfl
theorem i_X7_power_0 : aq_T 174 0 = some (aq_push (.int (1)) 1) := rfl
theorem i_X7_power_1 : aq_T 174 1 = some (aq_st 0 2 2) := rfl
theorem i_X7_power_2 : aq_T 174 2 = some (aq_push (.int (0)) 3) := rfl
theorem i_X7_power_3 : aq_T 174 3 = some (aq_st 0 3 4) := rfl
theorem i_X7_power_4 : aq_T 174 4 = some (aq_ld 0 3 5) := rfl
theorem i_X7_power_5 : aq_T 174 5 = some (aq_ld 0 1 6) := rfl
theorem i_X7_power_6 : aq_T 174 6 = some (aq_if ai_ge 22 9) := rfl
theorem i_X7_power_9 : aq_T 174 9 = some (aq_ld 0 2 10) := rfl
theorem i_X7_power_10 : aq_T 174 10 = some (aq_ld 4 0 11) := rfl
theorem i_X7_power_11 : aq_T 174 11 = some (aq_gf 7 1 14) := rfl
theorem i_X7_power_14 : aq_T 174 14 = some (aq_ar af_imul 15) := rfl
theorem i_X7_power_15 : aq_T 174 15 = some (aq_st 0 2 16) := rfl
theorem i_X7_power_16 : aq_T 174 16 = some (aq_inc 3 (1) 19) := rfl
theorem i_X7_power_19 : aq_T 174 19 = some (aq_go 4) := rfl
theorem i_X7_power_22 : aq_T 174 22 = some (aq_ld 0 2 23) := rfl
theorem i_X7_power_23 : aq_T 174 23 = some (aq_ret 0) := rfl
theorem i_X7_spells_0 : aq_T 175 0 = some (aq_ld 0 1 1) := rfl
theorem i_X7_spells_1 : aq_T 175 1 = some (aq_st 0 3 2) := rfl
theorem i_X7_spells_2 : aq_T 175 2 = some (aq_ld 0 2 3) := rfl
theorem i_X7_spells_3 : aq_T 175 3 = some (aq_push (.int (1)) 4) := rfl
theorem i_X7_spells_4 : aq_T 175 4 = some (aq_ar af_isub 5) := rfl
theorem i_X7_spells_5 : aq_T 175 5 = some (aq_st 0 4 7) := rfl
theorem i_X7_spells_7 : aq_T 175 7 = some (aq_ld 0 4 9) := rfl
theorem i_X7_spells_9 : aq_T 175 9 = some (aq_if ai_lt0 38 12) := rfl
theorem i_X7_spells_12 : aq_T 175 12 = some (aq_ld 4 0 13) := rfl
theorem i_X7_spells_13 : aq_T 175 13 = some (aq_gf 7 4 16) := rfl
theorem i_X7_spells_16 : aq_T 175 16 = some (aq_ld 0 4 18) := rfl
theorem i_X7_spells_18 : aq_T 175 18 = some (aq_ld 0 3 19) := rfl
theorem i_X7_spells_19 : aq_T 175 19 = some (aq_ld 4 0 20) := rfl
theorem i_X7_spells_20 : aq_T 175 20 = some (aq_gf 7 1 23) := rfl
theorem i_X7_spells_23 : aq_T 175 23 = some (aq_arc ac_irem 24) := rfl
theorem i_X7_spells_24 : aq_T 175 24 = some (aq_sti 25) := rfl
theorem i_X7_spells_25 : aq_T 175 25 = some (aq_ld 0 3 26) := rfl
theorem i_X7_spells_26 : aq_T 175 26 = some (aq_ld 4 0 27) := rfl
theorem i_X7_spells_27 : aq_T 175 27 = some (aq_gf 7 1 30) := rfl
theorem i_X7_spells_30 : aq_T 175 30 = some (aq_arc ac_idiv 31) := rfl
theorem i_X7_spells_31 : aq_T 175 31 = some (aq_st 0 3 32) := rfl
theorem i_X7_spells_32 : aq_T 175 32 = some (aq_inc 4 (-1) 35) := rfl
theorem i_X7_spells_35 : aq_T 175 35 = some (aq_go 7) := rfl
theorem i_X7_spells_38 : aq_T 175 38 = some (aq_retv) := rfl
theorem i_X7_isFactor_0 : aq_T 176 0 = some (aq_push (.int (0)) 1) := rfl
theorem i_X7_isFactor_1 : aq_T 176 1 = some (aq_st 0 4 3) := rfl
theorem i_X7_isFactor_3 : aq_T 176 3 = some (aq_ld 0 4 5) := rfl
theorem i_X7_isFactor_5 : aq_T 176 5 = some (aq_ld 0 3 6) := rfl
theorem i_X7_isFactor_6 : aq_T 176 6 = some (aq_if ai_ge 36 9) := rfl
theorem i_X7_isFactor_9 : aq_T 176 9 = some (aq_ld 4 0 10) := rfl
theorem i_X7_isFactor_10 : aq_T 176 10 = some (aq_gf 7 4 13) := rfl
theorem i_X7_isFactor_13 : aq_T 176 13 = some (aq_ld 0 4 15) := rfl
theorem i_X7_isFactor_15 : aq_T 176 15 = some (aq_ldi 0 16) := rfl
theorem i_X7_isFactor_16 : aq_T 176 16 = some (aq_ld 4 1 17) := rfl
theorem i_X7_isFactor_17 : aq_T 176 17 = some (aq_ld 0 2 18) := rfl
theorem i_X7_isFactor_18 : aq_T 176 18 = some (aq_ld 0 4 20) := rfl
theorem i_X7_isFactor_20 : aq_T 176 20 = some (aq_ar af_iadd 21) := rfl
theorem i_X7_isFactor_21 : aq_T 176 21 = some (aq_ldi 0 22) := rfl
theorem i_X7_isFactor_22 : aq_T 176 22 = some (aq_call 152 2 none 25) := rfl
theorem i_X7_isFactor_25 : aq_T 176 25 = some (aq_if ai_eq0 30 28) := rfl
theorem i_X7_isFactor_28 : aq_T 176 28 = some (aq_push (.int (0)) 29) := rfl
theorem i_X7_isFactor_29 : aq_T 176 29 = some (aq_ret 5) := rfl
theorem i_X7_isFactor_30 : aq_T 176 30 = some (aq_inc 4 (1) 33) := rfl
theorem i_X7_isFactor_33 : aq_T 176 33 = some (aq_go 3) := rfl
theorem i_X7_isFactor_36 : aq_T 176 36 = some (aq_push (.int (1)) 37) := rfl
theorem i_X7_isFactor_37 : aq_T 176 37 = some (aq_ret 5) := rfl
theorem i_X7_complexity_0 : aq_T 177 0 = some (aq_ld 0 1 1) := rfl
theorem i_X7_complexity_1 : aq_T 177 1 = some (aq_call 130 1 none 4) := rfl
theorem i_X7_complexity_4 : aq_T 177 4 = some (aq_if ai_eq0 19 7) := rfl
theorem i_X7_complexity_7 : aq_T 177 7 = some (aq_ld 0 2 8) := rfl
theorem i_X7_complexity_8 : aq_T 177 8 = some (aq_ar af_i2l 9) := rfl
theorem i_X7_complexity_9 : aq_T 177 9 = some (aq_push (.long 0) 10) := rfl
theorem i_X7_complexity_10 : aq_T 177 10 = some (aq_push (.long (6)) 13) := rfl
theorem i_X7_complexity_13 : aq_T 177 13 = some (aq_call 129 3 none 16) := rfl
theorem i_X7_complexity_16 : aq_T 177 16 = some (aq_if ai_ne0 25 19) := rfl
theorem i_X7_complexity_19 : aq_T 177 19 = some (aq_ld 4 0 20) := rfl
theorem i_X7_complexity_20 : aq_T 177 20 = some (aq_push (.int (1)) 21) := rfl
theorem i_X7_complexity_21 : aq_T 177 21 = some (aq_call 127 2 (some 7) 24) := rfl
theorem i_X7_complexity_24 : aq_T 177 24 = some (aq_ret 0) := rfl
theorem i_X7_complexity_25 : aq_T 177 25 = some (aq_ld 4 0 26) := rfl
theorem i_X7_complexity_26 : aq_T 177 26 = some (aq_push (.int (0)) 27) := rfl
theorem i_X7_complexity_27 : aq_T 177 27 = some (aq_pf 7 0 0 30) := rfl
theorem i_X7_complexity_30 : aq_T 177 30 = some (aq_push (.int (0)) 31) := rfl
theorem i_X7_complexity_31 : aq_T 177 31 = some (aq_st 0 3 32) := rfl
theorem i_X7_complexity_32 : aq_T 177 32 = some (aq_push (.int (0)) 33) := rfl
theorem i_X7_complexity_33 : aq_T 177 33 = some (aq_st 0 4 35) := rfl
theorem i_X7_complexity_35 : aq_T 177 35 = some (aq_ld 0 4 37) := rfl
theorem i_X7_complexity_37 : aq_T 177 37 = some (aq_ld 4 0 38) := rfl
theorem i_X7_complexity_38 : aq_T 177 38 = some (aq_ld 0 2 39) := rfl
theorem i_X7_complexity_39 : aq_T 177 39 = some (aq_call 174 2 (some 7) 42) := rfl
theorem i_X7_complexity_42 : aq_T 177 42 = some (aq_if ai_ge 119 45) := rfl
theorem i_X7_complexity_45 : aq_T 177 45 = some (aq_ld 4 0 46) := rfl
theorem i_X7_complexity_46 : aq_T 177 46 = some (aq_ld 0 4 48) := rfl
theorem i_X7_complexity_48 : aq_T 177 48 = some (aq_ld 0 2 49) := rfl
theorem i_X7_complexity_49 : aq_T 177 49 = some (aq_call 175 3 (some 7) 52) := rfl
theorem i_X7_complexity_52 : aq_T 177 52 = some (aq_push (.int (0)) 53) := rfl
theorem i_X7_complexity_53 : aq_T 177 53 = some (aq_st 0 5 55) := rfl
theorem i_X7_complexity_55 : aq_T 177 55 = some (aq_push (.int (0)) 56) := rfl
theorem i_X7_complexity_56 : aq_T 177 56 = some (aq_st 0 6 58) := rfl
theorem i_X7_complexity_58 : aq_T 177 58 = some (aq_ld 0 6 60) := rfl
theorem i_X7_complexity_60 : aq_T 177 60 = some (aq_ld 0 2 61) := rfl
theorem i_X7_complexity_61 : aq_T 177 61 = some (aq_ar af_iadd 62) := rfl
theorem i_X7_complexity_62 : aq_T 177 62 = some (aq_ld 4 0 63) := rfl
theorem i_X7_complexity_63 : aq_T 177 63 = some (aq_gf 7 2 66) := rfl
theorem i_X7_complexity_66 : aq_T 177 66 = some (aq_ld 0 1 67) := rfl
theorem i_X7_complexity_67 : aq_T 177 67 = some (aq_ldi 0 68) := rfl
theorem i_X7_complexity_68 : aq_T 177 68 = some (aq_if ai_gt 100 71) := rfl
theorem i_X7_complexity_71 : aq_T 177 71 = some (aq_ld 0 5 73) := rfl
theorem i_X7_complexity_73 : aq_T 177 73 = some (aq_if ai_ne0 100 76) := rfl
theorem i_X7_complexity_76 : aq_T 177 76 = some (aq_ld 4 0 77) := rfl
theorem i_X7_complexity_77 : aq_T 177 77 = some (aq_ld 4 0 78) := rfl
theorem i_X7_complexity_78 : aq_T 177 78 = some (aq_gf 7 3 81) := rfl
theorem i_X7_complexity_81 : aq_T 177 81 = some (aq_push (.int (40)) 83) := rfl
theorem i_X7_complexity_83 : aq_T 177 83 = some (aq_ld 0 1 84) := rfl
theorem i_X7_complexity_84 : aq_T 177 84 = some (aq_ar af_imul 85) := rfl
theorem i_X7_complexity_85 : aq_T 177 85 = some (aq_ld 0 6 87) := rfl
theorem i_X7_complexity_87 : aq_T 177 87 = some (aq_ar af_iadd 88) := rfl
theorem i_X7_complexity_88 : aq_T 177 88 = some (aq_ld 0 2 89) := rfl
theorem i_X7_complexity_89 : aq_T 177 89 = some (aq_call 176 4 (some 7) 92) := rfl
theorem i_X7_complexity_92 : aq_T 177 92 = some (aq_st 0 5 94) := rfl
theorem i_X7_complexity_94 : aq_T 177 94 = some (aq_inc 6 (1) 97) := rfl
theorem i_X7_complexity_97 : aq_T 177 97 = some (aq_go 58) := rfl
theorem i_X7_complexity_100 : aq_T 177 100 = some (aq_ld 0 3 101) := rfl
theorem i_X7_complexity_101 : aq_T 177 101 = some (aq_ld 0 5 103) := rfl
theorem i_X7_complexity_103 : aq_T 177 103 = some (aq_if ai_eq0 110 106) := rfl
theorem i_X7_complexity_106 : aq_T 177 106 = some (aq_push (.int (1)) 107) := rfl
theorem i_X7_complexity_107 : aq_T 177 107 = some (aq_go 111) := rfl
theorem i_X7_complexity_110 : aq_T 177 110 = some (aq_push (.int (0)) 111) := rfl
theorem i_X7_complexity_111 : aq_T 177 111 = some (aq_ar af_iadd 112) := rfl
theorem i_X7_complexity_112 : aq_T 177 112 = some (aq_st 0 3 113) := rfl
theorem i_X7_complexity_113 : aq_T 177 113 = some (aq_inc 4 (1) 116) := rfl
theorem i_X7_complexity_116 : aq_T 177 116 = some (aq_go 35) := rfl
theorem i_X7_complexity_119 : aq_T 177 119 = some (aq_ld 0 3 120) := rfl
theorem i_X7_complexity_120 : aq_T 177 120 = some (aq_ret 0) := rfl
theorem i_X7_occurrences_0 : aq_T 178 0 = some (aq_ld 0 1 1) := rfl
theorem i_X7_occurrences_1 : aq_T 178 1 = some (aq_call 130 1 none 4) := rfl
theorem i_X7_occurrences_4 : aq_T 178 4 = some (aq_if ai_eq0 14 7) := rfl
theorem i_X7_occurrences_7 : aq_T 178 7 = some (aq_ld 0 2 8) := rfl
theorem i_X7_occurrences_8 : aq_T 178 8 = some (aq_call 130 1 none 11) := rfl
theorem i_X7_occurrences_11 : aq_T 178 11 = some (aq_if ai_ne0 20 14) := rfl
theorem i_X7_occurrences_14 : aq_T 178 14 = some (aq_ld 4 0 15) := rfl
theorem i_X7_occurrences_15 : aq_T 178 15 = some (aq_push (.int (1)) 16) := rfl
theorem i_X7_occurrences_16 : aq_T 178 16 = some (aq_call 127 2 (some 7) 19) := rfl
theorem i_X7_occurrences_19 : aq_T 178 19 = some (aq_ret 0) := rfl
theorem i_X7_occurrences_20 : aq_T 178 20 = some (aq_ld 4 0 21) := rfl
theorem i_X7_occurrences_21 : aq_T 178 21 = some (aq_push (.int (0)) 22) := rfl
theorem i_X7_occurrences_22 : aq_T 178 22 = some (aq_pf 7 0 0 25) := rfl
theorem i_X7_occurrences_25 : aq_T 178 25 = some (aq_ld 4 0 26) := rfl
theorem i_X7_occurrences_26 : aq_T 178 26 = some (aq_gf 7 2 29) := rfl
theorem i_X7_occurrences_29 : aq_T 178 29 = some (aq_ld 0 1 30) := rfl
theorem i_X7_occurrences_30 : aq_T 178 30 = some (aq_ldi 0 31) := rfl
theorem i_X7_occurrences_31 : aq_T 178 31 = some (aq_st 0 3 32) := rfl
theorem i_X7_occurrences_32 : aq_T 178 32 = some (aq_push (.int (0)) 33) := rfl
theorem i_X7_occurrences_33 : aq_T 178 33 = some (aq_st 0 4 35) := rfl
theorem i_X7_occurrences_35 : aq_T 178 35 = some (aq_ld 0 4 37) := rfl
theorem i_X7_occurrences_37 : aq_T 178 37 = some (aq_ld 0 3 38) := rfl
theorem i_X7_occurrences_38 : aq_T 178 38 = some (aq_if ai_ge 61 41) := rfl
theorem i_X7_occurrences_41 : aq_T 178 41 = some (aq_ld 4 0 42) := rfl
theorem i_X7_occurrences_42 : aq_T 178 42 = some (aq_gf 7 4 45) := rfl
theorem i_X7_occurrences_45 : aq_T 178 45 = some (aq_ld 0 4 47) := rfl
theorem i_X7_occurrences_47 : aq_T 178 47 = some (aq_ld 4 0 48) := rfl
theorem i_X7_occurrences_48 : aq_T 178 48 = some (aq_ld 0 1 49) := rfl
theorem i_X7_occurrences_49 : aq_T 178 49 = some (aq_ld 0 4 51) := rfl
theorem i_X7_occurrences_51 : aq_T 178 51 = some (aq_call 132 3 (some 7) 54) := rfl
theorem i_X7_occurrences_54 : aq_T 178 54 = some (aq_sti 55) := rfl
theorem i_X7_occurrences_55 : aq_T 178 55 = some (aq_inc 4 (1) 58) := rfl
theorem i_X7_occurrences_58 : aq_T 178 58 = some (aq_go 35) := rfl
theorem i_X7_occurrences_61 : aq_T 178 61 = some (aq_push (.int (0)) 62) := rfl
theorem i_X7_occurrences_62 : aq_T 178 62 = some (aq_st 0 4 64) := rfl
theorem i_X7_occurrences_64 : aq_T 178 64 = some (aq_push (.int (0)) 65) := rfl
theorem i_X7_occurrences_65 : aq_T 178 65 = some (aq_st 0 5 67) := rfl
theorem i_X7_occurrences_67 : aq_T 178 67 = some (aq_ld 0 5 69) := rfl
theorem i_X7_occurrences_69 : aq_T 178 69 = some (aq_ld 0 3 70) := rfl
theorem i_X7_occurrences_70 : aq_T 178 70 = some (aq_ar af_iadd 71) := rfl
theorem i_X7_occurrences_71 : aq_T 178 71 = some (aq_ld 4 0 72) := rfl
theorem i_X7_occurrences_72 : aq_T 178 72 = some (aq_gf 7 2 75) := rfl
theorem i_X7_occurrences_75 : aq_T 178 75 = some (aq_ld 0 2 76) := rfl
theorem i_X7_occurrences_76 : aq_T 178 76 = some (aq_ldi 0 77) := rfl
theorem i_X7_occurrences_77 : aq_T 178 77 = some (aq_if ai_gt 115 80) := rfl
theorem i_X7_occurrences_80 : aq_T 178 80 = some (aq_ld 0 4 82) := rfl
theorem i_X7_occurrences_82 : aq_T 178 82 = some (aq_ld 4 0 83) := rfl
theorem i_X7_occurrences_83 : aq_T 178 83 = some (aq_ld 4 0 84) := rfl
theorem i_X7_occurrences_84 : aq_T 178 84 = some (aq_gf 7 3 87) := rfl
theorem i_X7_occurrences_87 : aq_T 178 87 = some (aq_push (.int (40)) 89) := rfl
theorem i_X7_occurrences_89 : aq_T 178 89 = some (aq_ld 0 2 90) := rfl
theorem i_X7_occurrences_90 : aq_T 178 90 = some (aq_ar af_imul 91) := rfl
theorem i_X7_occurrences_91 : aq_T 178 91 = some (aq_ld 0 5 93) := rfl
theorem i_X7_occurrences_93 : aq_T 178 93 = some (aq_ar af_iadd 94) := rfl
theorem i_X7_occurrences_94 : aq_T 178 94 = some (aq_ld 0 3 95) := rfl
theorem i_X7_occurrences_95 : aq_T 178 95 = some (aq_call 176 4 (some 7) 98) := rfl
theorem i_X7_occurrences_98 : aq_T 178 98 = some (aq_if ai_eq0 105 101) := rfl
theorem i_X7_occurrences_101 : aq_T 178 101 = some (aq_push (.int (1)) 102) := rfl
theorem i_X7_occurrences_102 : aq_T 178 102 = some (aq_go 106) := rfl
theorem i_X7_occurrences_105 : aq_T 178 105 = some (aq_push (.int (0)) 106) := rfl
theorem i_X7_occurrences_106 : aq_T 178 106 = some (aq_ar af_iadd 107) := rfl
theorem i_X7_occurrences_107 : aq_T 178 107 = some (aq_st 0 4 109) := rfl
theorem i_X7_occurrences_109 : aq_T 178 109 = some (aq_inc 5 (1) 112) := rfl
theorem i_X7_occurrences_112 : aq_T 178 112 = some (aq_go 67) := rfl
theorem i_X7_occurrences_115 : aq_T 178 115 = some (aq_ld 0 4 117) := rfl
theorem i_X7_occurrences_117 : aq_T 178 117 = some (aq_ret 0) := rfl
theorem i_X7_addPattern_0 : aq_T 179 0 = some (aq_ld 0 1 1) := rfl
theorem i_X7_addPattern_1 : aq_T 179 1 = some (aq_call 130 1 none 4) := rfl
theorem i_X7_addPattern_4 : aq_T 179 4 = some (aq_if ai_ne0 13 7) := rfl
theorem i_X7_addPattern_7 : aq_T 179 7 = some (aq_ld 4 0 8) := rfl
theorem i_X7_addPattern_8 : aq_T 179 8 = some (aq_push (.int (1)) 9) := rfl
theorem i_X7_addPattern_9 : aq_T 179 9 = some (aq_call 127 2 (some 7) 12) := rfl
theorem i_X7_addPattern_12 : aq_T 179 12 = some (aq_ret 0) := rfl
theorem i_X7_addPattern_13 : aq_T 179 13 = some (aq_ld 4 0 14) := rfl
theorem i_X7_addPattern_14 : aq_T 179 14 = some (aq_gf 7 13 17) := rfl
theorem i_X7_addPattern_17 : aq_T 179 17 = some (aq_push (.int (12)) 19) := rfl
theorem i_X7_addPattern_19 : aq_T 179 19 = some (aq_if ai_eq 39 22) := rfl
theorem i_X7_addPattern_22 : aq_T 179 22 = some (aq_ld 4 0 23) := rfl
theorem i_X7_addPattern_23 : aq_T 179 23 = some (aq_gf 7 2 26) := rfl
theorem i_X7_addPattern_26 : aq_T 179 26 = some (aq_ld 0 1 27) := rfl
theorem i_X7_addPattern_27 : aq_T 179 27 = some (aq_ldi 0 28) := rfl
theorem i_X7_addPattern_28 : aq_T 179 28 = some (aq_ar af_i2l 29) := rfl
theorem i_X7_addPattern_29 : aq_T 179 29 = some (aq_push (.long 1) 30) := rfl
theorem i_X7_addPattern_30 : aq_T 179 30 = some (aq_push (.long (5)) 33) := rfl
theorem i_X7_addPattern_33 : aq_T 179 33 = some (aq_call 129 3 none 36) := rfl
theorem i_X7_addPattern_36 : aq_T 179 36 = some (aq_if ai_ne0 45 39) := rfl
theorem i_X7_addPattern_39 : aq_T 179 39 = some (aq_ld 4 0 40) := rfl
theorem i_X7_addPattern_40 : aq_T 179 40 = some (aq_push (.int (2)) 41) := rfl
theorem i_X7_addPattern_41 : aq_T 179 41 = some (aq_call 127 2 (some 7) 44) := rfl
theorem i_X7_addPattern_44 : aq_T 179 44 = some (aq_ret 0) := rfl
theorem i_X7_addPattern_45 : aq_T 179 45 = some (aq_ld 4 0 46) := rfl
theorem i_X7_addPattern_46 : aq_T 179 46 = some (aq_push (.int (0)) 47) := rfl
theorem i_X7_addPattern_47 : aq_T 179 47 = some (aq_pf 7 0 0 50) := rfl
theorem i_X7_addPattern_50 : aq_T 179 50 = some (aq_ld 4 0 51) := rfl
theorem i_X7_addPattern_51 : aq_T 179 51 = some (aq_gf 7 11 54) := rfl
theorem i_X7_addPattern_54 : aq_T 179 54 = some (aq_ld 4 0 55) := rfl
theorem i_X7_addPattern_55 : aq_T 179 55 = some (aq_gf 7 13 58) := rfl
theorem i_X7_addPattern_58 : aq_T 179 58 = some (aq_ld 4 0 59) := rfl
theorem i_X7_addPattern_59 : aq_T 179 59 = some (aq_gf 7 2 62) := rfl
theorem i_X7_addPattern_62 : aq_T 179 62 = some (aq_ld 0 1 63) := rfl
theorem i_X7_addPattern_63 : aq_T 179 63 = some (aq_ldi 0 64) := rfl
theorem i_X7_addPattern_64 : aq_T 179 64 = some (aq_sti 65) := rfl
theorem i_X7_addPattern_65 : aq_T 179 65 = some (aq_push (.int (0)) 66) := rfl
theorem i_X7_addPattern_66 : aq_T 179 66 = some (aq_st 0 2 67) := rfl
theorem i_X7_addPattern_67 : aq_T 179 67 = some (aq_ld 0 2 68) := rfl
theorem i_X7_addPattern_68 : aq_T 179 68 = some (aq_ld 4 0 69) := rfl
theorem i_X7_addPattern_69 : aq_T 179 69 = some (aq_gf 7 2 72) := rfl
theorem i_X7_addPattern_72 : aq_T 179 72 = some (aq_ld 0 1 73) := rfl
theorem i_X7_addPattern_73 : aq_T 179 73 = some (aq_ldi 0 74) := rfl
theorem i_X7_addPattern_74 : aq_T 179 74 = some (aq_if ai_ge 102 77) := rfl
theorem i_X7_addPattern_77 : aq_T 179 77 = some (aq_ld 4 0 78) := rfl
theorem i_X7_addPattern_78 : aq_T 179 78 = some (aq_gf 7 12 81) := rfl
theorem i_X7_addPattern_81 : aq_T 179 81 = some (aq_push (.int (5)) 82) := rfl
theorem i_X7_addPattern_82 : aq_T 179 82 = some (aq_ld 4 0 83) := rfl
theorem i_X7_addPattern_83 : aq_T 179 83 = some (aq_gf 7 13 86) := rfl
theorem i_X7_addPattern_86 : aq_T 179 86 = some (aq_ar af_imul 87) := rfl
theorem i_X7_addPattern_87 : aq_T 179 87 = some (aq_ld 0 2 88) := rfl
theorem i_X7_addPattern_88 : aq_T 179 88 = some (aq_ar af_iadd 89) := rfl
theorem i_X7_addPattern_89 : aq_T 179 89 = some (aq_ld 4 0 90) := rfl
theorem i_X7_addPattern_90 : aq_T 179 90 = some (aq_ld 0 1 91) := rfl
theorem i_X7_addPattern_91 : aq_T 179 91 = some (aq_ld 0 2 92) := rfl
theorem i_X7_addPattern_92 : aq_T 179 92 = some (aq_call 132 3 (some 7) 95) := rfl
theorem i_X7_addPattern_95 : aq_T 179 95 = some (aq_sti 96) := rfl
theorem i_X7_addPattern_96 : aq_T 179 96 = some (aq_inc 2 (1) 99) := rfl
theorem i_X7_addPattern_99 : aq_T 179 99 = some (aq_go 67) := rfl
theorem i_X7_addPattern_102 : aq_T 179 102 = some (aq_ld 4 0 103) := rfl
theorem i_X7_addPattern_103 : aq_T 179 103 = some (aq_ar af_dup 104) := rfl
theorem i_X7_addPattern_104 : aq_T 179 104 = some (aq_gf 7 13 107) := rfl
theorem i_X7_addPattern_107 : aq_T 179 107 = some (aq_push (.int (1)) 108) := rfl
theorem i_X7_addPattern_108 : aq_T 179 108 = some (aq_ar af_iadd 109) := rfl
theorem i_X7_addPattern_109 : aq_T 179 109 = some (aq_pf 7 13 0 112) := rfl
theorem i_X7_addPattern_112 : aq_T 179 112 = some (aq_ld 4 0 113) := rfl
theorem i_X7_addPattern_113 : aq_T 179 113 = some (aq_gf 7 13 116) := rfl
theorem i_X7_addPattern_116 : aq_T 179 116 = some (aq_push (.int (1)) 117) := rfl
theorem i_X7_addPattern_117 : aq_T 179 117 = some (aq_ar af_isub 118) := rfl
theorem i_X7_addPattern_118 : aq_T 179 118 = some (aq_ret 0) := rfl
theorem i_X7_removePattern_0 : aq_T 180 0 = some (aq_ld 0 1 1) := rfl
theorem i_X7_removePattern_1 : aq_T 180 1 = some (aq_ar af_i2l 2) := rfl
theorem i_X7_removePattern_2 : aq_T 180 2 = some (aq_push (.long 0) 3) := rfl
theorem i_X7_removePattern_3 : aq_T 180 3 = some (aq_ld 4 0 4) := rfl
theorem i_X7_removePattern_4 : aq_T 180 4 = some (aq_gf 7 13 7) := rfl
theorem i_X7_removePattern_7 : aq_T 180 7 = some (aq_push (.int (1)) 8) := rfl
theorem i_X7_removePattern_8 : aq_T 180 8 = some (aq_ar af_isub 9) := rfl
theorem i_X7_removePattern_9 : aq_T 180 9 = some (aq_ar af_i2l 10) := rfl
theorem i_X7_removePattern_10 : aq_T 180 10 = some (aq_call 129 3 none 13) := rfl
theorem i_X7_removePattern_13 : aq_T 180 13 = some (aq_if ai_ne0 22 16) := rfl
theorem i_X7_removePattern_16 : aq_T 180 16 = some (aq_ld 4 0 17) := rfl
theorem i_X7_removePattern_17 : aq_T 180 17 = some (aq_push (.int (1)) 18) := rfl
theorem i_X7_removePattern_18 : aq_T 180 18 = some (aq_call 127 2 (some 7) 21) := rfl
theorem i_X7_removePattern_21 : aq_T 180 21 = some (aq_ret 0) := rfl
theorem i_X7_removePattern_22 : aq_T 180 22 = some (aq_ld 4 0 23) := rfl
theorem i_X7_removePattern_23 : aq_T 180 23 = some (aq_push (.int (0)) 24) := rfl
theorem i_X7_removePattern_24 : aq_T 180 24 = some (aq_pf 7 0 0 27) := rfl
theorem i_X7_removePattern_27 : aq_T 180 27 = some (aq_ld 4 0 28) := rfl
theorem i_X7_removePattern_28 : aq_T 180 28 = some (aq_ar af_dup 29) := rfl
theorem i_X7_removePattern_29 : aq_T 180 29 = some (aq_gf 7 13 32) := rfl
theorem i_X7_removePattern_32 : aq_T 180 32 = some (aq_push (.int (1)) 33) := rfl
theorem i_X7_removePattern_33 : aq_T 180 33 = some (aq_ar af_isub 34) := rfl
theorem i_X7_removePattern_34 : aq_T 180 34 = some (aq_pf 7 13 0 37) := rfl
theorem i_X7_removePattern_37 : aq_T 180 37 = some (aq_ld 0 1 38) := rfl
theorem i_X7_removePattern_38 : aq_T 180 38 = some (aq_st 0 2 39) := rfl
theorem i_X7_removePattern_39 : aq_T 180 39 = some (aq_ld 0 2 40) := rfl
theorem i_X7_removePattern_40 : aq_T 180 40 = some (aq_ld 4 0 41) := rfl
theorem i_X7_removePattern_41 : aq_T 180 41 = some (aq_gf 7 13 44) := rfl
theorem i_X7_removePattern_44 : aq_T 180 44 = some (aq_if ai_ge 102 47) := rfl
theorem i_X7_removePattern_47 : aq_T 180 47 = some (aq_ld 4 0 48) := rfl
theorem i_X7_removePattern_48 : aq_T 180 48 = some (aq_gf 7 11 51) := rfl
theorem i_X7_removePattern_51 : aq_T 180 51 = some (aq_ld 0 2 52) := rfl
theorem i_X7_removePattern_52 : aq_T 180 52 = some (aq_ld 4 0 53) := rfl
theorem i_X7_removePattern_53 : aq_T 180 53 = some (aq_gf 7 11 56) := rfl
theorem i_X7_removePattern_56 : aq_T 180 56 = some (aq_ld 0 2 57) := rfl
theorem i_X7_removePattern_57 : aq_T 180 57 = some (aq_push (.int (1)) 58) := rfl
theorem i_X7_removePattern_58 : aq_T 180 58 = some (aq_ar af_iadd 59) := rfl
theorem i_X7_removePattern_59 : aq_T 180 59 = some (aq_ldi 0 60) := rfl
theorem i_X7_removePattern_60 : aq_T 180 60 = some (aq_sti 61) := rfl
theorem i_X7_removePattern_61 : aq_T 180 61 = some (aq_push (.int (0)) 62) := rfl
theorem i_X7_removePattern_62 : aq_T 180 62 = some (aq_st 0 3 63) := rfl
theorem i_X7_removePattern_63 : aq_T 180 63 = some (aq_ld 0 3 64) := rfl
theorem i_X7_removePattern_64 : aq_T 180 64 = some (aq_push (.int (5)) 65) := rfl
theorem i_X7_removePattern_65 : aq_T 180 65 = some (aq_if ai_ge 96 68) := rfl
theorem i_X7_removePattern_68 : aq_T 180 68 = some (aq_ld 4 0 69) := rfl
theorem i_X7_removePattern_69 : aq_T 180 69 = some (aq_gf 7 12 72) := rfl
theorem i_X7_removePattern_72 : aq_T 180 72 = some (aq_push (.int (5)) 73) := rfl
theorem i_X7_removePattern_73 : aq_T 180 73 = some (aq_ld 0 2 74) := rfl
theorem i_X7_removePattern_74 : aq_T 180 74 = some (aq_ar af_imul 75) := rfl
theorem i_X7_removePattern_75 : aq_T 180 75 = some (aq_ld 0 3 76) := rfl
theorem i_X7_removePattern_76 : aq_T 180 76 = some (aq_ar af_iadd 77) := rfl
theorem i_X7_removePattern_77 : aq_T 180 77 = some (aq_ld 4 0 78) := rfl
theorem i_X7_removePattern_78 : aq_T 180 78 = some (aq_gf 7 12 81) := rfl
theorem i_X7_removePattern_81 : aq_T 180 81 = some (aq_push (.int (5)) 82) := rfl
theorem i_X7_removePattern_82 : aq_T 180 82 = some (aq_ld 0 2 83) := rfl
theorem i_X7_removePattern_83 : aq_T 180 83 = some (aq_ar af_imul 84) := rfl
theorem i_X7_removePattern_84 : aq_T 180 84 = some (aq_push (.int (5)) 85) := rfl
theorem i_X7_removePattern_85 : aq_T 180 85 = some (aq_ar af_iadd 86) := rfl
theorem i_X7_removePattern_86 : aq_T 180 86 = some (aq_ld 0 3 87) := rfl
theorem i_X7_removePattern_87 : aq_T 180 87 = some (aq_ar af_iadd 88) := rfl
theorem i_X7_removePattern_88 : aq_T 180 88 = some (aq_ldi 0 89) := rfl
theorem i_X7_removePattern_89 : aq_T 180 89 = some (aq_sti 90) := rfl
theorem i_X7_removePattern_90 : aq_T 180 90 = some (aq_inc 3 (1) 93) := rfl
theorem i_X7_removePattern_93 : aq_T 180 93 = some (aq_go 63) := rfl
theorem i_X7_removePattern_96 : aq_T 180 96 = some (aq_inc 2 (1) 99) := rfl
theorem i_X7_removePattern_99 : aq_T 180 99 = some (aq_go 39) := rfl
theorem i_X7_removePattern_102 : aq_T 180 102 = some (aq_ld 4 0 103) := rfl
theorem i_X7_removePattern_103 : aq_T 180 103 = some (aq_gf 7 13 106) := rfl
theorem i_X7_removePattern_106 : aq_T 180 106 = some (aq_ret 0) := rfl
theorem i_X7_patternCount_0 : aq_T 181 0 = some (aq_ld 4 0 1) := rfl
theorem i_X7_patternCount_1 : aq_T 181 1 = some (aq_push (.int (0)) 2) := rfl
theorem i_X7_patternCount_2 : aq_T 181 2 = some (aq_pf 7 0 0 5) := rfl
theorem i_X7_patternCount_5 : aq_T 181 5 = some (aq_ld 4 0 6) := rfl
theorem i_X7_patternCount_6 : aq_T 181 6 = some (aq_gf 7 13 9) := rfl
theorem i_X7_patternCount_9 : aq_T 181 9 = some (aq_ret 0) := rfl
theorem i_X7_doesAvoid_0 : aq_T 182 0 = some (aq_push (.int (0)) 1) := rfl
theorem i_X7_doesAvoid_1 : aq_T 182 1 = some (aq_st 0 4 3) := rfl
theorem i_X7_doesAvoid_3 : aq_T 182 3 = some (aq_ld 0 4 5) := rfl
theorem i_X7_doesAvoid_5 : aq_T 182 5 = some (aq_ld 4 0 6) := rfl
theorem i_X7_doesAvoid_6 : aq_T 182 6 = some (aq_gf 7 13 9) := rfl
theorem i_X7_doesAvoid_9 : aq_T 182 9 = some (aq_if ai_ge 112 12) := rfl
theorem i_X7_doesAvoid_12 : aq_T 182 12 = some (aq_push (.int (0)) 13) := rfl
theorem i_X7_doesAvoid_13 : aq_T 182 13 = some (aq_st 0 5 15) := rfl
theorem i_X7_doesAvoid_15 : aq_T 182 15 = some (aq_ld 0 5 17) := rfl
theorem i_X7_doesAvoid_17 : aq_T 182 17 = some (aq_ld 4 0 18) := rfl
theorem i_X7_doesAvoid_18 : aq_T 182 18 = some (aq_gf 7 11 21) := rfl
theorem i_X7_doesAvoid_21 : aq_T 182 21 = some (aq_ld 0 4 23) := rfl
theorem i_X7_doesAvoid_23 : aq_T 182 23 = some (aq_ldi 0 24) := rfl
theorem i_X7_doesAvoid_24 : aq_T 182 24 = some (aq_ar af_iadd 25) := rfl
theorem i_X7_doesAvoid_25 : aq_T 182 25 = some (aq_ld 0 3 26) := rfl
theorem i_X7_doesAvoid_26 : aq_T 182 26 = some (aq_if ai_gt 106 29) := rfl
theorem i_X7_doesAvoid_29 : aq_T 182 29 = some (aq_ld 0 4 31) := rfl
theorem i_X7_doesAvoid_31 : aq_T 182 31 = some (aq_ld 4 0 32) := rfl
theorem i_X7_doesAvoid_32 : aq_T 182 32 = some (aq_gf 7 14 35) := rfl
theorem i_X7_doesAvoid_35 : aq_T 182 35 = some (aq_if ai_eq 106 38) := rfl
theorem i_X7_doesAvoid_38 : aq_T 182 38 = some (aq_push (.int (0)) 39) := rfl
theorem i_X7_doesAvoid_39 : aq_T 182 39 = some (aq_st 0 6 41) := rfl
theorem i_X7_doesAvoid_41 : aq_T 182 41 = some (aq_ld 0 6 43) := rfl
theorem i_X7_doesAvoid_43 : aq_T 182 43 = some (aq_ld 4 0 44) := rfl
theorem i_X7_doesAvoid_44 : aq_T 182 44 = some (aq_gf 7 11 47) := rfl
theorem i_X7_doesAvoid_47 : aq_T 182 47 = some (aq_ld 0 4 49) := rfl
theorem i_X7_doesAvoid_49 : aq_T 182 49 = some (aq_ldi 0 50) := rfl
theorem i_X7_doesAvoid_50 : aq_T 182 50 = some (aq_if ai_ge 86 53) := rfl
theorem i_X7_doesAvoid_53 : aq_T 182 53 = some (aq_ld 4 1 54) := rfl
theorem i_X7_doesAvoid_54 : aq_T 182 54 = some (aq_ld 0 2 55) := rfl
theorem i_X7_doesAvoid_55 : aq_T 182 55 = some (aq_ld 0 5 57) := rfl
theorem i_X7_doesAvoid_57 : aq_T 182 57 = some (aq_ar af_iadd 58) := rfl
theorem i_X7_doesAvoid_58 : aq_T 182 58 = some (aq_ld 0 6 60) := rfl
theorem i_X7_doesAvoid_60 : aq_T 182 60 = some (aq_ar af_iadd 61) := rfl
theorem i_X7_doesAvoid_61 : aq_T 182 61 = some (aq_ldi 0 62) := rfl
theorem i_X7_doesAvoid_62 : aq_T 182 62 = some (aq_ld 4 0 63) := rfl
theorem i_X7_doesAvoid_63 : aq_T 182 63 = some (aq_gf 7 12 66) := rfl
theorem i_X7_doesAvoid_66 : aq_T 182 66 = some (aq_push (.int (5)) 67) := rfl
theorem i_X7_doesAvoid_67 : aq_T 182 67 = some (aq_ld 0 4 69) := rfl
theorem i_X7_doesAvoid_69 : aq_T 182 69 = some (aq_ar af_imul 70) := rfl
theorem i_X7_doesAvoid_70 : aq_T 182 70 = some (aq_ld 0 6 72) := rfl
theorem i_X7_doesAvoid_72 : aq_T 182 72 = some (aq_ar af_iadd 73) := rfl
theorem i_X7_doesAvoid_73 : aq_T 182 73 = some (aq_ldi 0 74) := rfl
theorem i_X7_doesAvoid_74 : aq_T 182 74 = some (aq_call 152 2 none 77) := rfl
theorem i_X7_doesAvoid_77 : aq_T 182 77 = some (aq_if ai_ne0 86 80) := rfl
theorem i_X7_doesAvoid_80 : aq_T 182 80 = some (aq_inc 6 (1) 83) := rfl
theorem i_X7_doesAvoid_83 : aq_T 182 83 = some (aq_go 41) := rfl
theorem i_X7_doesAvoid_86 : aq_T 182 86 = some (aq_ld 0 6 88) := rfl
theorem i_X7_doesAvoid_88 : aq_T 182 88 = some (aq_ld 4 0 89) := rfl
theorem i_X7_doesAvoid_89 : aq_T 182 89 = some (aq_gf 7 11 92) := rfl
theorem i_X7_doesAvoid_92 : aq_T 182 92 = some (aq_ld 0 4 94) := rfl
theorem i_X7_doesAvoid_94 : aq_T 182 94 = some (aq_ldi 0 95) := rfl
theorem i_X7_doesAvoid_95 : aq_T 182 95 = some (aq_if ai_ne 100 98) := rfl
theorem i_X7_doesAvoid_98 : aq_T 182 98 = some (aq_push (.int (0)) 99) := rfl
theorem i_X7_doesAvoid_99 : aq_T 182 99 = some (aq_ret 5) := rfl
theorem i_X7_doesAvoid_100 : aq_T 182 100 = some (aq_inc 5 (1) 103) := rfl
theorem i_X7_doesAvoid_103 : aq_T 182 103 = some (aq_go 15) := rfl
theorem i_X7_doesAvoid_106 : aq_T 182 106 = some (aq_inc 4 (1) 109) := rfl
theorem i_X7_doesAvoid_109 : aq_T 182 109 = some (aq_go 3) := rfl
theorem i_X7_doesAvoid_112 : aq_T 182 112 = some (aq_push (.int (1)) 113) := rfl
theorem i_X7_doesAvoid_113 : aq_T 182 113 = some (aq_ret 5) := rfl
theorem i_X7_avoids_0 : aq_T 183 0 = some (aq_ld 0 1 1) := rfl
theorem i_X7_avoids_1 : aq_T 183 1 = some (aq_call 130 1 none 4) := rfl
theorem i_X7_avoids_4 : aq_T 183 4 = some (aq_if ai_ne0 13 7) := rfl
theorem i_X7_avoids_7 : aq_T 183 7 = some (aq_ld 4 0 8) := rfl
theorem i_X7_avoids_8 : aq_T 183 8 = some (aq_push (.int (1)) 9) := rfl
theorem i_X7_avoids_9 : aq_T 183 9 = some (aq_call 128 2 (some 7) 12) := rfl
theorem i_X7_avoids_12 : aq_T 183 12 = some (aq_ret 5) := rfl
theorem i_X7_avoids_13 : aq_T 183 13 = some (aq_ld 4 0 14) := rfl
theorem i_X7_avoids_14 : aq_T 183 14 = some (aq_push (.int (0)) 15) := rfl
theorem i_X7_avoids_15 : aq_T 183 15 = some (aq_pf 7 0 0 18) := rfl
theorem i_X7_avoids_18 : aq_T 183 18 = some (aq_ld 4 0 19) := rfl
theorem i_X7_avoids_19 : aq_T 183 19 = some (aq_ld 4 0 20) := rfl
theorem i_X7_avoids_20 : aq_T 183 20 = some (aq_gf 7 3 23) := rfl
theorem i_X7_avoids_23 : aq_T 183 23 = some (aq_push (.int (40)) 25) := rfl
theorem i_X7_avoids_25 : aq_T 183 25 = some (aq_ld 0 1 26) := rfl
theorem i_X7_avoids_26 : aq_T 183 26 = some (aq_ar af_imul 27) := rfl
theorem i_X7_avoids_27 : aq_T 183 27 = some (aq_ld 4 0 28) := rfl
theorem i_X7_avoids_28 : aq_T 183 28 = some (aq_gf 7 2 31) := rfl
theorem i_X7_avoids_31 : aq_T 183 31 = some (aq_ld 0 1 32) := rfl
theorem i_X7_avoids_32 : aq_T 183 32 = some (aq_ldi 0 33) := rfl
theorem i_X7_avoids_33 : aq_T 183 33 = some (aq_call 182 4 (some 7) 36) := rfl
theorem i_X7_avoids_36 : aq_T 183 36 = some (aq_ret 5) := rfl
theorem i_X7_nodes_0 : aq_T 184 0 = some (aq_ld 4 0 1) := rfl
theorem i_X7_nodes_1 : aq_T 184 1 = some (aq_push (.int (4)) 2) := rfl
theorem i_X7_nodes_2 : aq_T 184 2 = some (aq_call 174 2 (some 7) 5) := rfl
theorem i_X7_nodes_5 : aq_T 184 5 = some (aq_ret 0) := rfl
theorem i_X7_behind_0 : aq_T 185 0 = some (aq_ld 0 1 1) := rfl
theorem i_X7_behind_1 : aq_T 185 1 = some (aq_ld 4 0 2) := rfl
theorem i_X7_behind_2 : aq_T 185 2 = some (aq_gf 7 1 5) := rfl
theorem i_X7_behind_5 : aq_T 185 5 = some (aq_ar af_imul 6) := rfl
theorem i_X7_behind_6 : aq_T 185 6 = some (aq_ld 0 2 7) := rfl
theorem i_X7_behind_7 : aq_T 185 7 = some (aq_ar af_iadd 8) := rfl
theorem i_X7_behind_8 : aq_T 185 8 = some (aq_ld 4 0 9) := rfl
theorem i_X7_behind_9 : aq_T 185 9 = some (aq_call 184 1 (some 7) 12) := rfl
theorem i_X7_behind_12 : aq_T 185 12 = some (aq_arc ac_irem 13) := rfl
theorem i_X7_behind_13 : aq_T 185 13 = some (aq_ret 0) := rfl
theorem i_X7_findGraph_0 : aq_T 186 0 = some (aq_push (.int (0)) 1) := rfl
theorem i_X7_findGraph_1 : aq_T 186 1 = some (aq_st 0 1 2) := rfl
theorem i_X7_findGraph_2 : aq_T 186 2 = some (aq_ld 0 1 3) := rfl
theorem i_X7_findGraph_3 : aq_T 186 3 = some (aq_ld 4 0 4) := rfl
theorem i_X7_findGraph_4 : aq_T 186 4 = some (aq_call 184 1 (some 7) 7) := rfl
theorem i_X7_findGraph_7 : aq_T 186 7 = some (aq_if ai_ge 81 10) := rfl
theorem i_X7_findGraph_10 : aq_T 186 10 = some (aq_ld 4 0 11) := rfl
theorem i_X7_findGraph_11 : aq_T 186 11 = some (aq_ld 0 1 12) := rfl
theorem i_X7_findGraph_12 : aq_T 186 12 = some (aq_push (.int (4)) 13) := rfl
theorem i_X7_findGraph_13 : aq_T 186 13 = some (aq_call 175 3 (some 7) 16) := rfl
theorem i_X7_findGraph_16 : aq_T 186 16 = some (aq_ld 4 0 17) := rfl
theorem i_X7_findGraph_17 : aq_T 186 17 = some (aq_gf 7 15 20) := rfl
theorem i_X7_findGraph_20 : aq_T 186 20 = some (aq_ld 0 1 21) := rfl
theorem i_X7_findGraph_21 : aq_T 186 21 = some (aq_ld 4 0 22) := rfl
theorem i_X7_findGraph_22 : aq_T 186 22 = some (aq_ld 4 0 23) := rfl
theorem i_X7_findGraph_23 : aq_T 186 23 = some (aq_gf 7 4 26) := rfl
theorem i_X7_findGraph_26 : aq_T 186 26 = some (aq_push (.int (0)) 27) := rfl
theorem i_X7_findGraph_27 : aq_T 186 27 = some (aq_push (.int (4)) 28) := rfl
theorem i_X7_findGraph_28 : aq_T 186 28 = some (aq_call 182 4 (some 7) 31) := rfl
theorem i_X7_findGraph_31 : aq_T 186 31 = some (aq_stz 32) := rfl
theorem i_X7_findGraph_32 : aq_T 186 32 = some (aq_push (.int (0)) 33) := rfl
theorem i_X7_findGraph_33 : aq_T 186 33 = some (aq_st 0 2 34) := rfl
theorem i_X7_findGraph_34 : aq_T 186 34 = some (aq_ld 0 2 35) := rfl
theorem i_X7_findGraph_35 : aq_T 186 35 = some (aq_ld 4 0 36) := rfl
theorem i_X7_findGraph_36 : aq_T 186 36 = some (aq_gf 7 1 39) := rfl
theorem i_X7_findGraph_39 : aq_T 186 39 = some (aq_if ai_ge 75 42) := rfl
theorem i_X7_findGraph_42 : aq_T 186 42 = some (aq_ld 4 0 43) := rfl
theorem i_X7_findGraph_43 : aq_T 186 43 = some (aq_gf 7 4 46) := rfl
theorem i_X7_findGraph_46 : aq_T 186 46 = some (aq_push (.int (4)) 47) := rfl
theorem i_X7_findGraph_47 : aq_T 186 47 = some (aq_ld 0 2 48) := rfl
theorem i_X7_findGraph_48 : aq_T 186 48 = some (aq_sti 49) := rfl
theorem i_X7_findGraph_49 : aq_T 186 49 = some (aq_ld 4 0 50) := rfl
theorem i_X7_findGraph_50 : aq_T 186 50 = some (aq_gf 7 16 53) := rfl
theorem i_X7_findGraph_53 : aq_T 186 53 = some (aq_push (.int (3)) 54) := rfl
theorem i_X7_findGraph_54 : aq_T 186 54 = some (aq_ld 0 1 55) := rfl
theorem i_X7_findGraph_55 : aq_T 186 55 = some (aq_ar af_imul 56) := rfl
theorem i_X7_findGraph_56 : aq_T 186 56 = some (aq_ld 0 2 57) := rfl
theorem i_X7_findGraph_57 : aq_T 186 57 = some (aq_ar af_iadd 58) := rfl
theorem i_X7_findGraph_58 : aq_T 186 58 = some (aq_ld 4 0 59) := rfl
theorem i_X7_findGraph_59 : aq_T 186 59 = some (aq_ld 4 0 60) := rfl
theorem i_X7_findGraph_60 : aq_T 186 60 = some (aq_gf 7 4 63) := rfl
theorem i_X7_findGraph_63 : aq_T 186 63 = some (aq_push (.int (0)) 64) := rfl
theorem i_X7_findGraph_64 : aq_T 186 64 = some (aq_push (.int (5)) 65) := rfl
theorem i_X7_findGraph_65 : aq_T 186 65 = some (aq_call 182 4 (some 7) 68) := rfl
theorem i_X7_findGraph_68 : aq_T 186 68 = some (aq_stz 69) := rfl
theorem i_X7_findGraph_69 : aq_T 186 69 = some (aq_inc 2 (1) 72) := rfl
theorem i_X7_findGraph_72 : aq_T 186 72 = some (aq_go 34) := rfl
theorem i_X7_findGraph_75 : aq_T 186 75 = some (aq_inc 1 (1) 78) := rfl
theorem i_X7_findGraph_78 : aq_T 186 78 = some (aq_go 2) := rfl
theorem i_X7_findGraph_81 : aq_T 186 81 = some (aq_retv) := rfl
theorem i_X7_goesOn_0 : aq_T 187 0 = some (aq_push (.long 0) 1) := rfl
theorem i_X7_goesOn_1 : aq_T 187 1 = some (aq_st 1 1 2) := rfl
theorem i_X7_goesOn_2 : aq_T 187 2 = some (aq_push (.int (0)) 3) := rfl
theorem i_X7_goesOn_3 : aq_T 187 3 = some (aq_st 0 3 4) := rfl
theorem i_X7_goesOn_4 : aq_T 187 4 = some (aq_ld 0 3 5) := rfl
theorem i_X7_goesOn_5 : aq_T 187 5 = some (aq_ld 4 0 6) := rfl
theorem i_X7_goesOn_6 : aq_T 187 6 = some (aq_call 184 1 (some 7) 9) := rfl
theorem i_X7_goesOn_9 : aq_T 187 9 = some (aq_if ai_ge 25 12) := rfl
theorem i_X7_goesOn_12 : aq_T 187 12 = some (aq_ld 4 0 13) := rfl
theorem i_X7_goesOn_13 : aq_T 187 13 = some (aq_gf 7 18 16) := rfl
theorem i_X7_goesOn_16 : aq_T 187 16 = some (aq_ld 0 3 17) := rfl
theorem i_X7_goesOn_17 : aq_T 187 17 = some (aq_push (.long 0) 18) := rfl
theorem i_X7_goesOn_18 : aq_T 187 18 = some (aq_stl 19) := rfl
theorem i_X7_goesOn_19 : aq_T 187 19 = some (aq_inc 3 (1) 22) := rfl
theorem i_X7_goesOn_22 : aq_T 187 22 = some (aq_go 4) := rfl
theorem i_X7_goesOn_25 : aq_T 187 25 = some (aq_push (.int (0)) 26) := rfl
theorem i_X7_goesOn_26 : aq_T 187 26 = some (aq_st 0 3 27) := rfl
theorem i_X7_goesOn_27 : aq_T 187 27 = some (aq_ld 0 3 28) := rfl
theorem i_X7_goesOn_28 : aq_T 187 28 = some (aq_ld 4 0 29) := rfl
theorem i_X7_goesOn_29 : aq_T 187 29 = some (aq_call 184 1 (some 7) 32) := rfl
theorem i_X7_goesOn_32 : aq_T 187 32 = some (aq_if ai_ge 98 35) := rfl
theorem i_X7_goesOn_35 : aq_T 187 35 = some (aq_push (.int (0)) 36) := rfl
theorem i_X7_goesOn_36 : aq_T 187 36 = some (aq_st 0 4 38) := rfl
theorem i_X7_goesOn_38 : aq_T 187 38 = some (aq_ld 0 4 40) := rfl
theorem i_X7_goesOn_40 : aq_T 187 40 = some (aq_ld 4 0 41) := rfl
theorem i_X7_goesOn_41 : aq_T 187 41 = some (aq_gf 7 1 44) := rfl
theorem i_X7_goesOn_44 : aq_T 187 44 = some (aq_if ai_ge 92 47) := rfl
theorem i_X7_goesOn_47 : aq_T 187 47 = some (aq_ld 4 0 48) := rfl
theorem i_X7_goesOn_48 : aq_T 187 48 = some (aq_gf 7 18 51) := rfl
theorem i_X7_goesOn_51 : aq_T 187 51 = some (aq_ld 4 0 52) := rfl
theorem i_X7_goesOn_52 : aq_T 187 52 = some (aq_ld 0 3 53) := rfl
theorem i_X7_goesOn_53 : aq_T 187 53 = some (aq_ld 0 4 55) := rfl
theorem i_X7_goesOn_55 : aq_T 187 55 = some (aq_call 185 3 (some 7) 58) := rfl
theorem i_X7_goesOn_58 : aq_T 187 58 = some (aq_ar af_dup11 59) := rfl
theorem i_X7_goesOn_59 : aq_T 187 59 = some (aq_ldl 60) := rfl
theorem i_X7_goesOn_60 : aq_T 187 60 = some (aq_ld 4 0 61) := rfl
theorem i_X7_goesOn_61 : aq_T 187 61 = some (aq_gf 7 16 64) := rfl
theorem i_X7_goesOn_64 : aq_T 187 64 = some (aq_push (.int (3)) 65) := rfl
theorem i_X7_goesOn_65 : aq_T 187 65 = some (aq_ld 0 3 66) := rfl
theorem i_X7_goesOn_66 : aq_T 187 66 = some (aq_ar af_imul 67) := rfl
theorem i_X7_goesOn_67 : aq_T 187 67 = some (aq_ld 0 4 69) := rfl
theorem i_X7_goesOn_69 : aq_T 187 69 = some (aq_ar af_iadd 70) := rfl
theorem i_X7_goesOn_70 : aq_T 187 70 = some (aq_ldi 3 71) := rfl
theorem i_X7_goesOn_71 : aq_T 187 71 = some (aq_if ai_eq0 83 74) := rfl
theorem i_X7_goesOn_74 : aq_T 187 74 = some (aq_ld 4 0 75) := rfl
theorem i_X7_goesOn_75 : aq_T 187 75 = some (aq_gf 7 17 78) := rfl
theorem i_X7_goesOn_78 : aq_T 187 78 = some (aq_ld 0 3 79) := rfl
theorem i_X7_goesOn_79 : aq_T 187 79 = some (aq_ldl 80) := rfl
theorem i_X7_goesOn_80 : aq_T 187 80 = some (aq_go 84) := rfl
theorem i_X7_goesOn_83 : aq_T 187 83 = some (aq_push (.long 0) 84) := rfl
theorem i_X7_goesOn_84 : aq_T 187 84 = some (aq_ar af_ladd 85) := rfl
theorem i_X7_goesOn_85 : aq_T 187 85 = some (aq_stl 86) := rfl
theorem i_X7_goesOn_86 : aq_T 187 86 = some (aq_inc 4 (1) 89) := rfl
theorem i_X7_goesOn_89 : aq_T 187 89 = some (aq_go 38) := rfl
theorem i_X7_goesOn_92 : aq_T 187 92 = some (aq_inc 3 (1) 95) := rfl
theorem i_X7_goesOn_95 : aq_T 187 95 = some (aq_go 27) := rfl
theorem i_X7_goesOn_98 : aq_T 187 98 = some (aq_push (.int (0)) 99) := rfl
theorem i_X7_goesOn_99 : aq_T 187 99 = some (aq_st 0 3 100) := rfl
theorem i_X7_goesOn_100 : aq_T 187 100 = some (aq_ld 0 3 101) := rfl
theorem i_X7_goesOn_101 : aq_T 187 101 = some (aq_ld 4 0 102) := rfl
theorem i_X7_goesOn_102 : aq_T 187 102 = some (aq_call 184 1 (some 7) 105) := rfl
theorem i_X7_goesOn_105 : aq_T 187 105 = some (aq_if ai_ge 135 108) := rfl
theorem i_X7_goesOn_108 : aq_T 187 108 = some (aq_ld 4 0 109) := rfl
theorem i_X7_goesOn_109 : aq_T 187 109 = some (aq_gf 7 17 112) := rfl
theorem i_X7_goesOn_112 : aq_T 187 112 = some (aq_ld 0 3 113) := rfl
theorem i_X7_goesOn_113 : aq_T 187 113 = some (aq_ld 4 0 114) := rfl
theorem i_X7_goesOn_114 : aq_T 187 114 = some (aq_gf 7 18 117) := rfl
theorem i_X7_goesOn_117 : aq_T 187 117 = some (aq_ld 0 3 118) := rfl
theorem i_X7_goesOn_118 : aq_T 187 118 = some (aq_ldl 119) := rfl
theorem i_X7_goesOn_119 : aq_T 187 119 = some (aq_stl 120) := rfl
theorem i_X7_goesOn_120 : aq_T 187 120 = some (aq_ld 1 1 121) := rfl
theorem i_X7_goesOn_121 : aq_T 187 121 = some (aq_ld 4 0 122) := rfl
theorem i_X7_goesOn_122 : aq_T 187 122 = some (aq_gf 7 17 125) := rfl
theorem i_X7_goesOn_125 : aq_T 187 125 = some (aq_ld 0 3 126) := rfl
theorem i_X7_goesOn_126 : aq_T 187 126 = some (aq_ldl 127) := rfl
theorem i_X7_goesOn_127 : aq_T 187 127 = some (aq_ar af_ladd 128) := rfl
theorem i_X7_goesOn_128 : aq_T 187 128 = some (aq_st 1 1 129) := rfl
theorem i_X7_goesOn_129 : aq_T 187 129 = some (aq_inc 3 (1) 132) := rfl
theorem i_X7_goesOn_132 : aq_T 187 132 = some (aq_go 100) := rfl
theorem i_X7_goesOn_135 : aq_T 187 135 = some (aq_ld 1 1 136) := rfl
theorem i_X7_goesOn_136 : aq_T 187 136 = some (aq_ret 1) := rfl
theorem i_X7_shortOnes_0 : aq_T 188 0 = some (aq_push (.int (0)) 1) := rfl
theorem i_X7_shortOnes_1 : aq_T 188 1 = some (aq_st 0 2 2) := rfl
theorem i_X7_shortOnes_2 : aq_T 188 2 = some (aq_push (.int (0)) 3) := rfl
theorem i_X7_shortOnes_3 : aq_T 188 3 = some (aq_st 0 3 4) := rfl
theorem i_X7_shortOnes_4 : aq_T 188 4 = some (aq_ld 0 3 5) := rfl
theorem i_X7_shortOnes_5 : aq_T 188 5 = some (aq_ld 4 0 6) := rfl
theorem i_X7_shortOnes_6 : aq_T 188 6 = some (aq_ld 0 1 7) := rfl
theorem i_X7_shortOnes_7 : aq_T 188 7 = some (aq_call 174 2 (some 7) 10) := rfl
theorem i_X7_shortOnes_10 : aq_T 188 10 = some (aq_if ai_ge 46 13) := rfl
theorem i_X7_shortOnes_13 : aq_T 188 13 = some (aq_ld 4 0 14) := rfl
theorem i_X7_shortOnes_14 : aq_T 188 14 = some (aq_ld 0 3 15) := rfl
theorem i_X7_shortOnes_15 : aq_T 188 15 = some (aq_ld 0 1 16) := rfl
theorem i_X7_shortOnes_16 : aq_T 188 16 = some (aq_call 175 3 (some 7) 19) := rfl
theorem i_X7_shortOnes_19 : aq_T 188 19 = some (aq_ld 0 2 20) := rfl
theorem i_X7_shortOnes_20 : aq_T 188 20 = some (aq_ld 4 0 21) := rfl
theorem i_X7_shortOnes_21 : aq_T 188 21 = some (aq_ld 4 0 22) := rfl
theorem i_X7_shortOnes_22 : aq_T 188 22 = some (aq_gf 7 4 25) := rfl
theorem i_X7_shortOnes_25 : aq_T 188 25 = some (aq_push (.int (0)) 26) := rfl
theorem i_X7_shortOnes_26 : aq_T 188 26 = some (aq_ld 0 1 27) := rfl
theorem i_X7_shortOnes_27 : aq_T 188 27 = some (aq_call 182 4 (some 7) 30) := rfl
theorem i_X7_shortOnes_30 : aq_T 188 30 = some (aq_if ai_eq0 37 33) := rfl
theorem i_X7_shortOnes_33 : aq_T 188 33 = some (aq_push (.int (1)) 34) := rfl
theorem i_X7_shortOnes_34 : aq_T 188 34 = some (aq_go 38) := rfl
theorem i_X7_shortOnes_37 : aq_T 188 37 = some (aq_push (.int (0)) 38) := rfl
theorem i_X7_shortOnes_38 : aq_T 188 38 = some (aq_ar af_iadd 39) := rfl
theorem i_X7_shortOnes_39 : aq_T 188 39 = some (aq_st 0 2 40) := rfl
theorem i_X7_shortOnes_40 : aq_T 188 40 = some (aq_inc 3 (1) 43) := rfl
theorem i_X7_shortOnes_43 : aq_T 188 43 = some (aq_go 4) := rfl
theorem i_X7_shortOnes_46 : aq_T 188 46 = some (aq_ld 0 2 47) := rfl
theorem i_X7_shortOnes_47 : aq_T 188 47 = some (aq_ret 0) := rfl
theorem i_X7_begins_0 : aq_T 189 0 = some (aq_ld 4 0 1) := rfl
theorem i_X7_begins_1 : aq_T 189 1 = some (aq_call 186 1 (some 7) 4) := rfl
theorem i_X7_begins_4 : aq_T 189 4 = some (aq_push (.int (0)) 5) := rfl
theorem i_X7_begins_5 : aq_T 189 5 = some (aq_st 0 1 6) := rfl
theorem i_X7_begins_6 : aq_T 189 6 = some (aq_ld 0 1 7) := rfl
theorem i_X7_begins_7 : aq_T 189 7 = some (aq_ld 4 0 8) := rfl
theorem i_X7_begins_8 : aq_T 189 8 = some (aq_call 184 1 (some 7) 11) := rfl
theorem i_X7_begins_11 : aq_T 189 11 = some (aq_if ai_ge 40 14) := rfl
theorem i_X7_begins_14 : aq_T 189 14 = some (aq_ld 4 0 15) := rfl
theorem i_X7_begins_15 : aq_T 189 15 = some (aq_gf 7 17 18) := rfl
theorem i_X7_begins_18 : aq_T 189 18 = some (aq_ld 0 1 19) := rfl
theorem i_X7_begins_19 : aq_T 189 19 = some (aq_ld 4 0 20) := rfl
theorem i_X7_begins_20 : aq_T 189 20 = some (aq_gf 7 15 23) := rfl
theorem i_X7_begins_23 : aq_T 189 23 = some (aq_ld 0 1 24) := rfl
theorem i_X7_begins_24 : aq_T 189 24 = some (aq_ldi 3 25) := rfl
theorem i_X7_begins_25 : aq_T 189 25 = some (aq_if ai_eq0 32 28) := rfl
theorem i_X7_begins_28 : aq_T 189 28 = some (aq_push (.long 1) 29) := rfl
theorem i_X7_begins_29 : aq_T 189 29 = some (aq_go 33) := rfl
theorem i_X7_begins_32 : aq_T 189 32 = some (aq_push (.long 0) 33) := rfl
theorem i_X7_begins_33 : aq_T 189 33 = some (aq_stl 34) := rfl
theorem i_X7_begins_34 : aq_T 189 34 = some (aq_inc 1 (1) 37) := rfl
theorem i_X7_begins_37 : aq_T 189 37 = some (aq_go 6) := rfl
theorem i_X7_begins_40 : aq_T 189 40 = some (aq_retv) := rfl
theorem i_X7_longest_0 : aq_T 190 0 = some (aq_push (.int (0)) 1) := rfl
theorem i_X7_longest_1 : aq_T 190 1 = some (aq_st 0 1 2) := rfl
theorem i_X7_longest_2 : aq_T 190 2 = some (aq_ld 0 1 3) := rfl
theorem i_X7_longest_3 : aq_T 190 3 = some (aq_push (.int (4)) 4) := rfl
theorem i_X7_longest_4 : aq_T 190 4 = some (aq_if ai_ge 25 7) := rfl
theorem i_X7_longest_7 : aq_T 190 7 = some (aq_ld 4 0 8) := rfl
theorem i_X7_longest_8 : aq_T 190 8 = some (aq_ld 0 1 9) := rfl
theorem i_X7_longest_9 : aq_T 190 9 = some (aq_push (.int (1)) 10) := rfl
theorem i_X7_longest_10 : aq_T 190 10 = some (aq_ar af_iadd 11) := rfl
theorem i_X7_longest_11 : aq_T 190 11 = some (aq_call 188 2 (some 7) 14) := rfl
theorem i_X7_longest_14 : aq_T 190 14 = some (aq_if ai_ne0 19 17) := rfl
theorem i_X7_longest_17 : aq_T 190 17 = some (aq_ld 0 1 18) := rfl
theorem i_X7_longest_18 : aq_T 190 18 = some (aq_ret 0) := rfl
theorem i_X7_longest_19 : aq_T 190 19 = some (aq_inc 1 (1) 22) := rfl
theorem i_X7_longest_22 : aq_T 190 22 = some (aq_go 2) := rfl
theorem i_X7_longest_25 : aq_T 190 25 = some (aq_ld 4 0 26) := rfl
theorem i_X7_longest_26 : aq_T 190 26 = some (aq_call 189 1 (some 7) 29) := rfl
theorem i_X7_longest_29 : aq_T 190 29 = some (aq_push (.int (4)) 30) := rfl
theorem i_X7_longest_30 : aq_T 190 30 = some (aq_st 0 1 31) := rfl
theorem i_X7_longest_31 : aq_T 190 31 = some (aq_ld 0 1 32) := rfl
theorem i_X7_longest_32 : aq_T 190 32 = some (aq_push (.int (85)) 34) := rfl
theorem i_X7_longest_34 : aq_T 190 34 = some (aq_if ai_ge 98 37) := rfl
theorem i_X7_longest_37 : aq_T 190 37 = some (aq_ld 4 0 38) := rfl
theorem i_X7_longest_38 : aq_T 190 38 = some (aq_call 187 1 (some 7) 41) := rfl
theorem i_X7_longest_41 : aq_T 190 41 = some (aq_st 1 2 42) := rfl
theorem i_X7_longest_42 : aq_T 190 42 = some (aq_push (.int (0)) 43) := rfl
theorem i_X7_longest_43 : aq_T 190 43 = some (aq_st 0 4 45) := rfl
theorem i_X7_longest_45 : aq_T 190 45 = some (aq_ld 0 4 47) := rfl
theorem i_X7_longest_47 : aq_T 190 47 = some (aq_ld 4 0 48) := rfl
theorem i_X7_longest_48 : aq_T 190 48 = some (aq_call 184 1 (some 7) 51) := rfl
theorem i_X7_longest_51 : aq_T 190 51 = some (aq_if ai_ge 84 54) := rfl
theorem i_X7_longest_54 : aq_T 190 54 = some (aq_ld 4 0 55) := rfl
theorem i_X7_longest_55 : aq_T 190 55 = some (aq_gf 7 17 58) := rfl
theorem i_X7_longest_58 : aq_T 190 58 = some (aq_ld 0 4 60) := rfl
theorem i_X7_longest_60 : aq_T 190 60 = some (aq_ld 4 0 61) := rfl
theorem i_X7_longest_61 : aq_T 190 61 = some (aq_gf 7 17 64) := rfl
theorem i_X7_longest_64 : aq_T 190 64 = some (aq_ld 0 4 66) := rfl
theorem i_X7_longest_66 : aq_T 190 66 = some (aq_ldl 67) := rfl
theorem i_X7_longest_67 : aq_T 190 67 = some (aq_push (.long 0) 68) := rfl
theorem i_X7_longest_68 : aq_T 190 68 = some (aq_ar af_lcmp 69) := rfl
theorem i_X7_longest_69 : aq_T 190 69 = some (aq_if ai_le0 76 72) := rfl
theorem i_X7_longest_72 : aq_T 190 72 = some (aq_push (.long 1) 73) := rfl
theorem i_X7_longest_73 : aq_T 190 73 = some (aq_go 77) := rfl
theorem i_X7_longest_76 : aq_T 190 76 = some (aq_push (.long 0) 77) := rfl
theorem i_X7_longest_77 : aq_T 190 77 = some (aq_stl 78) := rfl
theorem i_X7_longest_78 : aq_T 190 78 = some (aq_inc 4 (1) 81) := rfl
theorem i_X7_longest_81 : aq_T 190 81 = some (aq_go 45) := rfl
theorem i_X7_longest_84 : aq_T 190 84 = some (aq_ld 1 2 85) := rfl
theorem i_X7_longest_85 : aq_T 190 85 = some (aq_push (.long 0) 86) := rfl
theorem i_X7_longest_86 : aq_T 190 86 = some (aq_ar af_lcmp 87) := rfl
theorem i_X7_longest_87 : aq_T 190 87 = some (aq_if ai_ne0 92 90) := rfl
theorem i_X7_longest_90 : aq_T 190 90 = some (aq_ld 0 1 91) := rfl
theorem i_X7_longest_91 : aq_T 190 91 = some (aq_ret 0) := rfl
theorem i_X7_longest_92 : aq_T 190 92 = some (aq_inc 1 (1) 95) := rfl
theorem i_X7_longest_95 : aq_T 190 95 = some (aq_go 31) := rfl
theorem i_X7_longest_98 : aq_T 190 98 = some (aq_push (.int (1000)) 101) := rfl
theorem i_X7_longest_101 : aq_T 190 101 = some (aq_ret 0) := rfl
theorem i_X7_isUnavoidable_0 : aq_T 191 0 = some (aq_ld 4 0 1) := rfl
theorem i_X7_isUnavoidable_1 : aq_T 191 1 = some (aq_push (.int (0)) 2) := rfl
theorem i_X7_isUnavoidable_2 : aq_T 191 2 = some (aq_pf 7 0 0 5) := rfl
theorem i_X7_isUnavoidable_5 : aq_T 191 5 = some (aq_ld 4 0 6) := rfl
theorem i_X7_isUnavoidable_6 : aq_T 191 6 = some (aq_call 190 1 (some 7) 9) := rfl
theorem i_X7_isUnavoidable_9 : aq_T 191 9 = some (aq_push (.int (1000)) 12) := rfl
theorem i_X7_isUnavoidable_12 : aq_T 191 12 = some (aq_if ai_ge 19 15) := rfl
theorem i_X7_isUnavoidable_15 : aq_T 191 15 = some (aq_push (.int (1)) 16) := rfl
theorem i_X7_isUnavoidable_16 : aq_T 191 16 = some (aq_go 20) := rfl
theorem i_X7_isUnavoidable_19 : aq_T 191 19 = some (aq_push (.int (0)) 20) := rfl
theorem i_X7_isUnavoidable_20 : aq_T 191 20 = some (aq_ret 5) := rfl
theorem i_X7_isMinimal_0 : aq_T 192 0 = some (aq_ld 4 0 1) := rfl
theorem i_X7_isMinimal_1 : aq_T 192 1 = some (aq_push (.int (0)) 2) := rfl
theorem i_X7_isMinimal_2 : aq_T 192 2 = some (aq_pf 7 0 0 5) := rfl
theorem i_X7_isMinimal_5 : aq_T 192 5 = some (aq_ld 4 0 6) := rfl
theorem i_X7_isMinimal_6 : aq_T 192 6 = some (aq_call 190 1 (some 7) 9) := rfl
theorem i_X7_isMinimal_9 : aq_T 192 9 = some (aq_push (.int (1000)) 12) := rfl
theorem i_X7_isMinimal_12 : aq_T 192 12 = some (aq_if ai_ge 19 15) := rfl
theorem i_X7_isMinimal_15 : aq_T 192 15 = some (aq_push (.int (1)) 16) := rfl
theorem i_X7_isMinimal_16 : aq_T 192 16 = some (aq_go 20) := rfl
theorem i_X7_isMinimal_19 : aq_T 192 19 = some (aq_push (.int (0)) 20) := rfl
theorem i_X7_isMinimal_20 : aq_T 192 20 = some (aq_st 0 1 21) := rfl
theorem i_X7_isMinimal_21 : aq_T 192 21 = some (aq_push (.int (0)) 22) := rfl
theorem i_X7_isMinimal_22 : aq_T 192 22 = some (aq_st 0 2 23) := rfl
theorem i_X7_isMinimal_23 : aq_T 192 23 = some (aq_ld 0 2 24) := rfl
theorem i_X7_isMinimal_24 : aq_T 192 24 = some (aq_ld 4 0 25) := rfl
theorem i_X7_isMinimal_25 : aq_T 192 25 = some (aq_gf 7 13 28) := rfl
theorem i_X7_isMinimal_28 : aq_T 192 28 = some (aq_if ai_ge 62 31) := rfl
theorem i_X7_isMinimal_31 : aq_T 192 31 = some (aq_ld 0 1 32) := rfl
theorem i_X7_isMinimal_32 : aq_T 192 32 = some (aq_if ai_eq0 62 35) := rfl
theorem i_X7_isMinimal_35 : aq_T 192 35 = some (aq_ld 4 0 36) := rfl
theorem i_X7_isMinimal_36 : aq_T 192 36 = some (aq_ld 0 2 37) := rfl
theorem i_X7_isMinimal_37 : aq_T 192 37 = some (aq_pf 7 14 0 40) := rfl
theorem i_X7_isMinimal_40 : aq_T 192 40 = some (aq_ld 4 0 41) := rfl
theorem i_X7_isMinimal_41 : aq_T 192 41 = some (aq_call 190 1 (some 7) 44) := rfl
theorem i_X7_isMinimal_44 : aq_T 192 44 = some (aq_push (.int (1000)) 47) := rfl
theorem i_X7_isMinimal_47 : aq_T 192 47 = some (aq_if ai_ne 54 50) := rfl
theorem i_X7_isMinimal_50 : aq_T 192 50 = some (aq_push (.int (1)) 51) := rfl
theorem i_X7_isMinimal_51 : aq_T 192 51 = some (aq_go 55) := rfl
theorem i_X7_isMinimal_54 : aq_T 192 54 = some (aq_push (.int (0)) 55) := rfl
theorem i_X7_isMinimal_55 : aq_T 192 55 = some (aq_st 0 1 56) := rfl
theorem i_X7_isMinimal_56 : aq_T 192 56 = some (aq_inc 2 (1) 59) := rfl
theorem i_X7_isMinimal_59 : aq_T 192 59 = some (aq_go 23) := rfl
theorem i_X7_isMinimal_62 : aq_T 192 62 = some (aq_ld 4 0 63) := rfl
theorem i_X7_isMinimal_63 : aq_T 192 63 = some (aq_push (.int (-1)) 64) := rfl
theorem i_X7_isMinimal_64 : aq_T 192 64 = some (aq_pf 7 14 0 67) := rfl
theorem i_X7_isMinimal_67 : aq_T 192 67 = some (aq_ld 0 1 68) := rfl
theorem i_X7_isMinimal_68 : aq_T 192 68 = some (aq_ret 5) := rfl
theorem i_X7_longestAvoiding_0 : aq_T 193 0 = some (aq_ld 4 0 1) := rfl
theorem i_X7_longestAvoiding_1 : aq_T 193 1 = some (aq_call 190 1 (some 7) 4) := rfl
theorem i_X7_longestAvoiding_4 : aq_T 193 4 = some (aq_st 0 1 5) := rfl
theorem i_X7_longestAvoiding_5 : aq_T 193 5 = some (aq_ld 0 1 6) := rfl
theorem i_X7_longestAvoiding_6 : aq_T 193 6 = some (aq_push (.int (1000)) 9) := rfl
theorem i_X7_longestAvoiding_9 : aq_T 193 9 = some (aq_if ai_ne 18 12) := rfl
theorem i_X7_longestAvoiding_12 : aq_T 193 12 = some (aq_ld 4 0 13) := rfl
theorem i_X7_longestAvoiding_13 : aq_T 193 13 = some (aq_push (.int (1)) 14) := rfl
theorem i_X7_longestAvoiding_14 : aq_T 193 14 = some (aq_call 127 2 (some 7) 17) := rfl
theorem i_X7_longestAvoiding_17 : aq_T 193 17 = some (aq_ret 0) := rfl
theorem i_X7_longestAvoiding_18 : aq_T 193 18 = some (aq_ld 4 0 19) := rfl
theorem i_X7_longestAvoiding_19 : aq_T 193 19 = some (aq_push (.int (0)) 20) := rfl
theorem i_X7_longestAvoiding_20 : aq_T 193 20 = some (aq_pf 7 0 0 23) := rfl
theorem i_X7_longestAvoiding_23 : aq_T 193 23 = some (aq_ld 0 1 24) := rfl
theorem i_X7_longestAvoiding_24 : aq_T 193 24 = some (aq_ret 0) := rfl
theorem i_X7_countAvoiding_0 : aq_T 194 0 = some (aq_ld 0 1 1) := rfl
theorem i_X7_countAvoiding_1 : aq_T 194 1 = some (aq_ar af_i2l 2) := rfl
theorem i_X7_countAvoiding_2 : aq_T 194 2 = some (aq_push (.long 0) 3) := rfl
theorem i_X7_countAvoiding_3 : aq_T 194 3 = some (aq_push (.long (30)) 6) := rfl
theorem i_X7_countAvoiding_6 : aq_T 194 6 = some (aq_call 129 3 none 9) := rfl
theorem i_X7_countAvoiding_9 : aq_T 194 9 = some (aq_if ai_ne0 19 12) := rfl
theorem i_X7_countAvoiding_12 : aq_T 194 12 = some (aq_ld 4 0 13) := rfl
theorem i_X7_countAvoiding_13 : aq_T 194 13 = some (aq_push (.int (1)) 14) := rfl
theorem i_X7_countAvoiding_14 : aq_T 194 14 = some (aq_call 127 2 (some 7) 17) := rfl
theorem i_X7_countAvoiding_17 : aq_T 194 17 = some (aq_ar af_i2l 18) := rfl
theorem i_X7_countAvoiding_18 : aq_T 194 18 = some (aq_ret 1) := rfl
theorem i_X7_countAvoiding_19 : aq_T 194 19 = some (aq_ld 4 0 20) := rfl
theorem i_X7_countAvoiding_20 : aq_T 194 20 = some (aq_push (.int (0)) 21) := rfl
theorem i_X7_countAvoiding_21 : aq_T 194 21 = some (aq_pf 7 0 0 24) := rfl
theorem i_X7_countAvoiding_24 : aq_T 194 24 = some (aq_ld 0 1 25) := rfl
theorem i_X7_countAvoiding_25 : aq_T 194 25 = some (aq_push (.int (4)) 26) := rfl
theorem i_X7_countAvoiding_26 : aq_T 194 26 = some (aq_if ai_gt 36 29) := rfl
theorem i_X7_countAvoiding_29 : aq_T 194 29 = some (aq_ld 4 0 30) := rfl
theorem i_X7_countAvoiding_30 : aq_T 194 30 = some (aq_ld 0 1 31) := rfl
theorem i_X7_countAvoiding_31 : aq_T 194 31 = some (aq_call 188 2 (some 7) 34) := rfl
theorem i_X7_countAvoiding_34 : aq_T 194 34 = some (aq_ar af_i2l 35) := rfl
theorem i_X7_countAvoiding_35 : aq_T 194 35 = some (aq_ret 1) := rfl
theorem i_X7_countAvoiding_36 : aq_T 194 36 = some (aq_ld 4 0 37) := rfl
theorem i_X7_countAvoiding_37 : aq_T 194 37 = some (aq_call 189 1 (some 7) 40) := rfl
theorem i_X7_countAvoiding_40 : aq_T 194 40 = some (aq_push (.long 0) 41) := rfl
theorem i_X7_countAvoiding_41 : aq_T 194 41 = some (aq_st 1 2 42) := rfl
theorem i_X7_countAvoiding_42 : aq_T 194 42 = some (aq_push (.int (4)) 43) := rfl
theorem i_X7_countAvoiding_43 : aq_T 194 43 = some (aq_st 0 4 45) := rfl
theorem i_X7_countAvoiding_45 : aq_T 194 45 = some (aq_ld 0 4 47) := rfl
theorem i_X7_countAvoiding_47 : aq_T 194 47 = some (aq_ld 0 1 48) := rfl
theorem i_X7_countAvoiding_48 : aq_T 194 48 = some (aq_if ai_ge 62 51) := rfl
theorem i_X7_countAvoiding_51 : aq_T 194 51 = some (aq_ld 4 0 52) := rfl
theorem i_X7_countAvoiding_52 : aq_T 194 52 = some (aq_call 187 1 (some 7) 55) := rfl
theorem i_X7_countAvoiding_55 : aq_T 194 55 = some (aq_st 1 2 56) := rfl
theorem i_X7_countAvoiding_56 : aq_T 194 56 = some (aq_inc 4 (1) 59) := rfl
theorem i_X7_countAvoiding_59 : aq_T 194 59 = some (aq_go 45) := rfl
theorem i_X7_countAvoiding_62 : aq_T 194 62 = some (aq_ld 1 2 63) := rfl
theorem i_X7_countAvoiding_63 : aq_T 194 63 = some (aq_ret 1) := rfl
theorem i_X7_findDistances_0 : aq_T 195 0 = some (aq_push (.int (0)) 1) := rfl
theorem i_X7_findDistances_1 : aq_T 195 1 = some (aq_st 0 2 2) := rfl
theorem i_X7_findDistances_2 : aq_T 195 2 = some (aq_ld 0 2 3) := rfl
theorem i_X7_findDistances_3 : aq_T 195 3 = some (aq_ld 4 0 4) := rfl
theorem i_X7_findDistances_4 : aq_T 195 4 = some (aq_call 184 1 (some 7) 7) := rfl
theorem i_X7_findDistances_7 : aq_T 195 7 = some (aq_if ai_ge 34 10) := rfl
theorem i_X7_findDistances_10 : aq_T 195 10 = some (aq_ld 4 0 11) := rfl
theorem i_X7_findDistances_11 : aq_T 195 11 = some (aq_gf 7 19 14) := rfl
theorem i_X7_findDistances_14 : aq_T 195 14 = some (aq_ld 0 2 15) := rfl
theorem i_X7_findDistances_15 : aq_T 195 15 = some (aq_ld 0 2 16) := rfl
theorem i_X7_findDistances_16 : aq_T 195 16 = some (aq_ld 0 1 17) := rfl
theorem i_X7_findDistances_17 : aq_T 195 17 = some (aq_if ai_ne 24 20) := rfl
theorem i_X7_findDistances_20 : aq_T 195 20 = some (aq_push (.int (0)) 21) := rfl
theorem i_X7_findDistances_21 : aq_T 195 21 = some (aq_go 27) := rfl
theorem i_X7_findDistances_24 : aq_T 195 24 = some (aq_push (.int (1000)) 27) := rfl
theorem i_X7_findDistances_27 : aq_T 195 27 = some (aq_sti 28) := rfl
theorem i_X7_findDistances_28 : aq_T 195 28 = some (aq_inc 2 (1) 31) := rfl
theorem i_X7_findDistances_31 : aq_T 195 31 = some (aq_go 2) := rfl
theorem i_X7_findDistances_34 : aq_T 195 34 = some (aq_push (.int (1)) 35) := rfl
theorem i_X7_findDistances_35 : aq_T 195 35 = some (aq_st 0 2 36) := rfl
theorem i_X7_findDistances_36 : aq_T 195 36 = some (aq_ld 0 2 37) := rfl
theorem i_X7_findDistances_37 : aq_T 195 37 = some (aq_if ai_eq0 133 40) := rfl
theorem i_X7_findDistances_40 : aq_T 195 40 = some (aq_push (.int (0)) 41) := rfl
theorem i_X7_findDistances_41 : aq_T 195 41 = some (aq_st 0 2 42) := rfl
theorem i_X7_findDistances_42 : aq_T 195 42 = some (aq_push (.int (0)) 43) := rfl
theorem i_X7_findDistances_43 : aq_T 195 43 = some (aq_st 0 3 44) := rfl
theorem i_X7_findDistances_44 : aq_T 195 44 = some (aq_ld 0 3 45) := rfl
theorem i_X7_findDistances_45 : aq_T 195 45 = some (aq_ld 4 0 46) := rfl
theorem i_X7_findDistances_46 : aq_T 195 46 = some (aq_call 184 1 (some 7) 49) := rfl
theorem i_X7_findDistances_49 : aq_T 195 49 = some (aq_if ai_ge 130 52) := rfl
theorem i_X7_findDistances_52 : aq_T 195 52 = some (aq_push (.int (0)) 53) := rfl
theorem i_X7_findDistances_53 : aq_T 195 53 = some (aq_st 0 4 55) := rfl
theorem i_X7_findDistances_55 : aq_T 195 55 = some (aq_ld 0 4 57) := rfl
theorem i_X7_findDistances_57 : aq_T 195 57 = some (aq_ld 4 0 58) := rfl
theorem i_X7_findDistances_58 : aq_T 195 58 = some (aq_gf 7 1 61) := rfl
theorem i_X7_findDistances_61 : aq_T 195 61 = some (aq_if ai_ge 124 64) := rfl
theorem i_X7_findDistances_64 : aq_T 195 64 = some (aq_ld 4 0 65) := rfl
theorem i_X7_findDistances_65 : aq_T 195 65 = some (aq_gf 7 19 68) := rfl
theorem i_X7_findDistances_68 : aq_T 195 68 = some (aq_ld 4 0 69) := rfl
theorem i_X7_findDistances_69 : aq_T 195 69 = some (aq_ld 0 3 70) := rfl
theorem i_X7_findDistances_70 : aq_T 195 70 = some (aq_ld 0 4 72) := rfl
theorem i_X7_findDistances_72 : aq_T 195 72 = some (aq_call 185 3 (some 7) 75) := rfl
theorem i_X7_findDistances_75 : aq_T 195 75 = some (aq_ldi 0 76) := rfl
theorem i_X7_findDistances_76 : aq_T 195 76 = some (aq_push (.int (1)) 77) := rfl
theorem i_X7_findDistances_77 : aq_T 195 77 = some (aq_ar af_iadd 78) := rfl
theorem i_X7_findDistances_78 : aq_T 195 78 = some (aq_st 0 5 80) := rfl
theorem i_X7_findDistances_80 : aq_T 195 80 = some (aq_ld 4 0 81) := rfl
theorem i_X7_findDistances_81 : aq_T 195 81 = some (aq_gf 7 16 84) := rfl
theorem i_X7_findDistances_84 : aq_T 195 84 = some (aq_push (.int (3)) 85) := rfl
theorem i_X7_findDistances_85 : aq_T 195 85 = some (aq_ld 0 3 86) := rfl
theorem i_X7_findDistances_86 : aq_T 195 86 = some (aq_ar af_imul 87) := rfl
theorem i_X7_findDistances_87 : aq_T 195 87 = some (aq_ld 0 4 89) := rfl
theorem i_X7_findDistances_89 : aq_T 195 89 = some (aq_ar af_iadd 90) := rfl
theorem i_X7_findDistances_90 : aq_T 195 90 = some (aq_ldi 3 91) := rfl
theorem i_X7_findDistances_91 : aq_T 195 91 = some (aq_if ai_eq0 118 94) := rfl
theorem i_X7_findDistances_94 : aq_T 195 94 = some (aq_ld 0 5 96) := rfl
theorem i_X7_findDistances_96 : aq_T 195 96 = some (aq_ld 4 0 97) := rfl
theorem i_X7_findDistances_97 : aq_T 195 97 = some (aq_gf 7 19 100) := rfl
theorem i_X7_findDistances_100 : aq_T 195 100 = some (aq_ld 0 3 101) := rfl
theorem i_X7_findDistances_101 : aq_T 195 101 = some (aq_ldi 0 102) := rfl
theorem i_X7_findDistances_102 : aq_T 195 102 = some (aq_if ai_lt 108 105) := rfl
theorem i_X7_findDistances_105 : aq_T 195 105 = some (aq_go 118) := rfl
theorem i_X7_findDistances_108 : aq_T 195 108 = some (aq_ld 4 0 109) := rfl
theorem i_X7_findDistances_109 : aq_T 195 109 = some (aq_gf 7 19 112) := rfl
theorem i_X7_findDistances_112 : aq_T 195 112 = some (aq_ld 0 3 113) := rfl
theorem i_X7_findDistances_113 : aq_T 195 113 = some (aq_ld 0 5 115) := rfl
theorem i_X7_findDistances_115 : aq_T 195 115 = some (aq_sti 116) := rfl
theorem i_X7_findDistances_116 : aq_T 195 116 = some (aq_push (.int (1)) 117) := rfl
theorem i_X7_findDistances_117 : aq_T 195 117 = some (aq_st 0 2 118) := rfl
theorem i_X7_findDistances_118 : aq_T 195 118 = some (aq_inc 4 (1) 121) := rfl
theorem i_X7_findDistances_121 : aq_T 195 121 = some (aq_go 55) := rfl
theorem i_X7_findDistances_124 : aq_T 195 124 = some (aq_inc 3 (1) 127) := rfl
theorem i_X7_findDistances_127 : aq_T 195 127 = some (aq_go 44) := rfl
theorem i_X7_findDistances_130 : aq_T 195 130 = some (aq_go 36) := rfl
theorem i_X7_findDistances_133 : aq_T 195 133 = some (aq_retv) := rfl
theorem i_X7_roundOf_0 : aq_T 196 0 = some (aq_push (.int (1000)) 3) := rfl
theorem i_X7_roundOf_3 : aq_T 196 3 = some (aq_st 0 2 4) := rfl
theorem i_X7_roundOf_4 : aq_T 196 4 = some (aq_push (.int (0)) 5) := rfl
theorem i_X7_roundOf_5 : aq_T 196 5 = some (aq_st 0 3 6) := rfl
theorem i_X7_roundOf_6 : aq_T 196 6 = some (aq_ld 0 3 7) := rfl
theorem i_X7_roundOf_7 : aq_T 196 7 = some (aq_ld 4 0 8) := rfl
theorem i_X7_roundOf_8 : aq_T 196 8 = some (aq_gf 7 1 11) := rfl
theorem i_X7_roundOf_11 : aq_T 196 11 = some (aq_if ai_ge 61 14) := rfl
theorem i_X7_roundOf_14 : aq_T 196 14 = some (aq_ld 4 0 15) := rfl
theorem i_X7_roundOf_15 : aq_T 196 15 = some (aq_gf 7 19 18) := rfl
theorem i_X7_roundOf_18 : aq_T 196 18 = some (aq_ld 4 0 19) := rfl
theorem i_X7_roundOf_19 : aq_T 196 19 = some (aq_ld 0 1 20) := rfl
theorem i_X7_roundOf_20 : aq_T 196 20 = some (aq_ld 0 3 21) := rfl
theorem i_X7_roundOf_21 : aq_T 196 21 = some (aq_call 185 3 (some 7) 24) := rfl
theorem i_X7_roundOf_24 : aq_T 196 24 = some (aq_ldi 0 25) := rfl
theorem i_X7_roundOf_25 : aq_T 196 25 = some (aq_push (.int (1)) 26) := rfl
theorem i_X7_roundOf_26 : aq_T 196 26 = some (aq_ar af_iadd 27) := rfl
theorem i_X7_roundOf_27 : aq_T 196 27 = some (aq_st 0 4 29) := rfl
theorem i_X7_roundOf_29 : aq_T 196 29 = some (aq_ld 4 0 30) := rfl
theorem i_X7_roundOf_30 : aq_T 196 30 = some (aq_gf 7 16 33) := rfl
theorem i_X7_roundOf_33 : aq_T 196 33 = some (aq_push (.int (3)) 34) := rfl
theorem i_X7_roundOf_34 : aq_T 196 34 = some (aq_ld 0 1 35) := rfl
theorem i_X7_roundOf_35 : aq_T 196 35 = some (aq_ar af_imul 36) := rfl
theorem i_X7_roundOf_36 : aq_T 196 36 = some (aq_ld 0 3 37) := rfl
theorem i_X7_roundOf_37 : aq_T 196 37 = some (aq_ar af_iadd 38) := rfl
theorem i_X7_roundOf_38 : aq_T 196 38 = some (aq_ldi 3 39) := rfl
theorem i_X7_roundOf_39 : aq_T 196 39 = some (aq_if ai_eq0 53 42) := rfl
theorem i_X7_roundOf_42 : aq_T 196 42 = some (aq_ld 0 4 44) := rfl
theorem i_X7_roundOf_44 : aq_T 196 44 = some (aq_ld 0 2 45) := rfl
theorem i_X7_roundOf_45 : aq_T 196 45 = some (aq_if ai_ge 53 48) := rfl
theorem i_X7_roundOf_48 : aq_T 196 48 = some (aq_ld 0 4 50) := rfl
theorem i_X7_roundOf_50 : aq_T 196 50 = some (aq_go 54) := rfl
theorem i_X7_roundOf_53 : aq_T 196 53 = some (aq_ld 0 2 54) := rfl
theorem i_X7_roundOf_54 : aq_T 196 54 = some (aq_st 0 2 55) := rfl
theorem i_X7_roundOf_55 : aq_T 196 55 = some (aq_inc 3 (1) 58) := rfl
theorem i_X7_roundOf_58 : aq_T 196 58 = some (aq_go 6) := rfl
theorem i_X7_roundOf_61 : aq_T 196 61 = some (aq_ld 0 2 62) := rfl
theorem i_X7_roundOf_62 : aq_T 196 62 = some (aq_ret 0) := rfl
theorem i_X7_spellsCycle_0 : aq_T 197 0 = some (aq_ld 0 1 1) := rfl
theorem i_X7_spellsCycle_1 : aq_T 197 1 = some (aq_st 0 3 2) := rfl
theorem i_X7_spellsCycle_2 : aq_T 197 2 = some (aq_push (.int (0)) 3) := rfl
theorem i_X7_spellsCycle_3 : aq_T 197 3 = some (aq_st 0 4 5) := rfl
theorem i_X7_spellsCycle_5 : aq_T 197 5 = some (aq_ld 0 4 7) := rfl
theorem i_X7_spellsCycle_7 : aq_T 197 7 = some (aq_ld 0 2 8) := rfl
theorem i_X7_spellsCycle_8 : aq_T 197 8 = some (aq_if ai_ge 78 11) := rfl
theorem i_X7_spellsCycle_11 : aq_T 197 11 = some (aq_push (.int (0)) 12) := rfl
theorem i_X7_spellsCycle_12 : aq_T 197 12 = some (aq_st 0 5 14) := rfl
theorem i_X7_spellsCycle_14 : aq_T 197 14 = some (aq_ld 4 0 15) := rfl
theorem i_X7_spellsCycle_15 : aq_T 197 15 = some (aq_gf 7 16 18) := rfl
theorem i_X7_spellsCycle_18 : aq_T 197 18 = some (aq_push (.int (3)) 19) := rfl
theorem i_X7_spellsCycle_19 : aq_T 197 19 = some (aq_ld 0 3 20) := rfl
theorem i_X7_spellsCycle_20 : aq_T 197 20 = some (aq_ar af_imul 21) := rfl
theorem i_X7_spellsCycle_21 : aq_T 197 21 = some (aq_ld 0 5 23) := rfl
theorem i_X7_spellsCycle_23 : aq_T 197 23 = some (aq_ar af_iadd 24) := rfl
theorem i_X7_spellsCycle_24 : aq_T 197 24 = some (aq_ldi 3 25) := rfl
theorem i_X7_spellsCycle_25 : aq_T 197 25 = some (aq_if ai_eq0 49 28) := rfl
theorem i_X7_spellsCycle_28 : aq_T 197 28 = some (aq_ld 4 0 29) := rfl
theorem i_X7_spellsCycle_29 : aq_T 197 29 = some (aq_gf 7 19 32) := rfl
theorem i_X7_spellsCycle_32 : aq_T 197 32 = some (aq_ld 4 0 33) := rfl
theorem i_X7_spellsCycle_33 : aq_T 197 33 = some (aq_ld 0 3 34) := rfl
theorem i_X7_spellsCycle_34 : aq_T 197 34 = some (aq_ld 0 5 36) := rfl
theorem i_X7_spellsCycle_36 : aq_T 197 36 = some (aq_call 185 3 (some 7) 39) := rfl
theorem i_X7_spellsCycle_39 : aq_T 197 39 = some (aq_ldi 0 40) := rfl
theorem i_X7_spellsCycle_40 : aq_T 197 40 = some (aq_ld 0 2 41) := rfl
theorem i_X7_spellsCycle_41 : aq_T 197 41 = some (aq_push (.int (1)) 42) := rfl
theorem i_X7_spellsCycle_42 : aq_T 197 42 = some (aq_ar af_isub 43) := rfl
theorem i_X7_spellsCycle_43 : aq_T 197 43 = some (aq_ld 0 4 45) := rfl
theorem i_X7_spellsCycle_45 : aq_T 197 45 = some (aq_ar af_isub 46) := rfl
theorem i_X7_spellsCycle_46 : aq_T 197 46 = some (aq_if ai_eq 55 49) := rfl
theorem i_X7_spellsCycle_49 : aq_T 197 49 = some (aq_inc 5 (1) 52) := rfl
theorem i_X7_spellsCycle_52 : aq_T 197 52 = some (aq_go 14) := rfl
theorem i_X7_spellsCycle_55 : aq_T 197 55 = some (aq_ld 4 0 56) := rfl
theorem i_X7_spellsCycle_56 : aq_T 197 56 = some (aq_gf 7 20 59) := rfl
theorem i_X7_spellsCycle_59 : aq_T 197 59 = some (aq_ld 0 4 61) := rfl
theorem i_X7_spellsCycle_61 : aq_T 197 61 = some (aq_ld 0 5 63) := rfl
theorem i_X7_spellsCycle_63 : aq_T 197 63 = some (aq_sti 64) := rfl
theorem i_X7_spellsCycle_64 : aq_T 197 64 = some (aq_ld 4 0 65) := rfl
theorem i_X7_spellsCycle_65 : aq_T 197 65 = some (aq_ld 0 3 66) := rfl
theorem i_X7_spellsCycle_66 : aq_T 197 66 = some (aq_ld 0 5 68) := rfl
theorem i_X7_spellsCycle_68 : aq_T 197 68 = some (aq_call 185 3 (some 7) 71) := rfl
theorem i_X7_spellsCycle_71 : aq_T 197 71 = some (aq_st 0 3 72) := rfl
theorem i_X7_spellsCycle_72 : aq_T 197 72 = some (aq_inc 4 (1) 75) := rfl
theorem i_X7_spellsCycle_75 : aq_T 197 75 = some (aq_go 5) := rfl
theorem i_X7_spellsCycle_78 : aq_T 197 78 = some (aq_retv) := rfl
theorem i_X7_isSmaller_0 : aq_T 198 0 = some (aq_push (.int (0)) 1) := rfl
theorem i_X7_isSmaller_1 : aq_T 198 1 = some (aq_st 0 2 2) := rfl
theorem i_X7_isSmaller_2 : aq_T 198 2 = some (aq_ld 0 2 3) := rfl
theorem i_X7_isSmaller_3 : aq_T 198 3 = some (aq_ld 0 1 4) := rfl
theorem i_X7_isSmaller_4 : aq_T 198 4 = some (aq_push (.int (1)) 5) := rfl
theorem i_X7_isSmaller_5 : aq_T 198 5 = some (aq_ar af_isub 6) := rfl
theorem i_X7_isSmaller_6 : aq_T 198 6 = some (aq_if ai_ge 30 9) := rfl
theorem i_X7_isSmaller_9 : aq_T 198 9 = some (aq_ld 4 0 10) := rfl
theorem i_X7_isSmaller_10 : aq_T 198 10 = some (aq_gf 7 20 13) := rfl
theorem i_X7_isSmaller_13 : aq_T 198 13 = some (aq_ld 0 2 14) := rfl
theorem i_X7_isSmaller_14 : aq_T 198 14 = some (aq_ldi 0 15) := rfl
theorem i_X7_isSmaller_15 : aq_T 198 15 = some (aq_ld 4 0 16) := rfl
theorem i_X7_isSmaller_16 : aq_T 198 16 = some (aq_gf 7 21 19) := rfl
theorem i_X7_isSmaller_19 : aq_T 198 19 = some (aq_ld 0 2 20) := rfl
theorem i_X7_isSmaller_20 : aq_T 198 20 = some (aq_ldi 0 21) := rfl
theorem i_X7_isSmaller_21 : aq_T 198 21 = some (aq_if ai_ne 30 24) := rfl
theorem i_X7_isSmaller_24 : aq_T 198 24 = some (aq_inc 2 (1) 27) := rfl
theorem i_X7_isSmaller_27 : aq_T 198 27 = some (aq_go 2) := rfl
theorem i_X7_isSmaller_30 : aq_T 198 30 = some (aq_ld 4 0 31) := rfl
theorem i_X7_isSmaller_31 : aq_T 198 31 = some (aq_gf 7 20 34) := rfl
theorem i_X7_isSmaller_34 : aq_T 198 34 = some (aq_ld 0 2 35) := rfl
theorem i_X7_isSmaller_35 : aq_T 198 35 = some (aq_ldi 0 36) := rfl
theorem i_X7_isSmaller_36 : aq_T 198 36 = some (aq_ld 4 0 37) := rfl
theorem i_X7_isSmaller_37 : aq_T 198 37 = some (aq_gf 7 21 40) := rfl
theorem i_X7_isSmaller_40 : aq_T 198 40 = some (aq_ld 0 2 41) := rfl
theorem i_X7_isSmaller_41 : aq_T 198 41 = some (aq_ldi 0 42) := rfl
theorem i_X7_isSmaller_42 : aq_T 198 42 = some (aq_if ai_ge 49 45) := rfl
theorem i_X7_isSmaller_45 : aq_T 198 45 = some (aq_push (.int (1)) 46) := rfl
theorem i_X7_isSmaller_46 : aq_T 198 46 = some (aq_go 50) := rfl
theorem i_X7_isSmaller_49 : aq_T 198 49 = some (aq_push (.int (0)) 50) := rfl
theorem i_X7_isSmaller_50 : aq_T 198 50 = some (aq_ret 5) := rfl
theorem i_X7_avoidingCycle_0 : aq_T 199 0 = some (aq_ld 0 1 1) := rfl
theorem i_X7_avoidingCycle_1 : aq_T 199 1 = some (aq_call 130 1 none 4) := rfl
theorem i_X7_avoidingCycle_4 : aq_T 199 4 = some (aq_if ai_ne0 13 7) := rfl
theorem i_X7_avoidingCycle_7 : aq_T 199 7 = some (aq_ld 4 0 8) := rfl
theorem i_X7_avoidingCycle_8 : aq_T 199 8 = some (aq_push (.int (1)) 9) := rfl
theorem i_X7_avoidingCycle_9 : aq_T 199 9 = some (aq_call 127 2 (some 7) 12) := rfl
theorem i_X7_avoidingCycle_12 : aq_T 199 12 = some (aq_ret 0) := rfl
theorem i_X7_avoidingCycle_13 : aq_T 199 13 = some (aq_ld 4 0 14) := rfl
theorem i_X7_avoidingCycle_14 : aq_T 199 14 = some (aq_call 186 1 (some 7) 17) := rfl
theorem i_X7_avoidingCycle_17 : aq_T 199 17 = some (aq_push (.int (1000)) 20) := rfl
theorem i_X7_avoidingCycle_20 : aq_T 199 20 = some (aq_st 0 2 21) := rfl
theorem i_X7_avoidingCycle_21 : aq_T 199 21 = some (aq_push (.int (0)) 22) := rfl
theorem i_X7_avoidingCycle_22 : aq_T 199 22 = some (aq_st 0 3 23) := rfl
theorem i_X7_avoidingCycle_23 : aq_T 199 23 = some (aq_ld 0 3 24) := rfl
theorem i_X7_avoidingCycle_24 : aq_T 199 24 = some (aq_ld 4 0 25) := rfl
theorem i_X7_avoidingCycle_25 : aq_T 199 25 = some (aq_call 184 1 (some 7) 28) := rfl
theorem i_X7_avoidingCycle_28 : aq_T 199 28 = some (aq_if ai_ge 120 31) := rfl
theorem i_X7_avoidingCycle_31 : aq_T 199 31 = some (aq_ld 4 0 32) := rfl
theorem i_X7_avoidingCycle_32 : aq_T 199 32 = some (aq_ld 0 3 33) := rfl
theorem i_X7_avoidingCycle_33 : aq_T 199 33 = some (aq_call 195 2 (some 7) 36) := rfl
theorem i_X7_avoidingCycle_36 : aq_T 199 36 = some (aq_ld 4 0 37) := rfl
theorem i_X7_avoidingCycle_37 : aq_T 199 37 = some (aq_ld 0 3 38) := rfl
theorem i_X7_avoidingCycle_38 : aq_T 199 38 = some (aq_call 196 2 (some 7) 41) := rfl
theorem i_X7_avoidingCycle_41 : aq_T 199 41 = some (aq_st 0 4 43) := rfl
theorem i_X7_avoidingCycle_43 : aq_T 199 43 = some (aq_ld 0 4 45) := rfl
theorem i_X7_avoidingCycle_45 : aq_T 199 45 = some (aq_push (.int (40)) 47) := rfl
theorem i_X7_avoidingCycle_47 : aq_T 199 47 = some (aq_if ai_gt 114 50) := rfl
theorem i_X7_avoidingCycle_50 : aq_T 199 50 = some (aq_ld 0 4 52) := rfl
theorem i_X7_avoidingCycle_52 : aq_T 199 52 = some (aq_ld 0 2 53) := rfl
theorem i_X7_avoidingCycle_53 : aq_T 199 53 = some (aq_if ai_le 59 56) := rfl
theorem i_X7_avoidingCycle_56 : aq_T 199 56 = some (aq_go 114) := rfl
theorem i_X7_avoidingCycle_59 : aq_T 199 59 = some (aq_ld 4 0 60) := rfl
theorem i_X7_avoidingCycle_60 : aq_T 199 60 = some (aq_ld 0 3 61) := rfl
theorem i_X7_avoidingCycle_61 : aq_T 199 61 = some (aq_ld 0 4 63) := rfl
theorem i_X7_avoidingCycle_63 : aq_T 199 63 = some (aq_call 197 3 (some 7) 66) := rfl
theorem i_X7_avoidingCycle_66 : aq_T 199 66 = some (aq_ld 0 4 68) := rfl
theorem i_X7_avoidingCycle_68 : aq_T 199 68 = some (aq_ld 0 2 69) := rfl
theorem i_X7_avoidingCycle_69 : aq_T 199 69 = some (aq_if ai_lt 81 72) := rfl
theorem i_X7_avoidingCycle_72 : aq_T 199 72 = some (aq_ld 4 0 73) := rfl
theorem i_X7_avoidingCycle_73 : aq_T 199 73 = some (aq_ld 0 4 75) := rfl
theorem i_X7_avoidingCycle_75 : aq_T 199 75 = some (aq_call 198 2 (some 7) 78) := rfl
theorem i_X7_avoidingCycle_78 : aq_T 199 78 = some (aq_if ai_eq0 111 81) := rfl
theorem i_X7_avoidingCycle_81 : aq_T 199 81 = some (aq_push (.int (0)) 82) := rfl
theorem i_X7_avoidingCycle_82 : aq_T 199 82 = some (aq_st 0 5 84) := rfl
theorem i_X7_avoidingCycle_84 : aq_T 199 84 = some (aq_ld 0 5 86) := rfl
theorem i_X7_avoidingCycle_86 : aq_T 199 86 = some (aq_ld 0 4 88) := rfl
theorem i_X7_avoidingCycle_88 : aq_T 199 88 = some (aq_if ai_ge 111 91) := rfl
theorem i_X7_avoidingCycle_91 : aq_T 199 91 = some (aq_ld 4 0 92) := rfl
theorem i_X7_avoidingCycle_92 : aq_T 199 92 = some (aq_gf 7 21 95) := rfl
theorem i_X7_avoidingCycle_95 : aq_T 199 95 = some (aq_ld 0 5 97) := rfl
theorem i_X7_avoidingCycle_97 : aq_T 199 97 = some (aq_ld 4 0 98) := rfl
theorem i_X7_avoidingCycle_98 : aq_T 199 98 = some (aq_gf 7 20 101) := rfl
theorem i_X7_avoidingCycle_101 : aq_T 199 101 = some (aq_ld 0 5 103) := rfl
theorem i_X7_avoidingCycle_103 : aq_T 199 103 = some (aq_ldi 0 104) := rfl
theorem i_X7_avoidingCycle_104 : aq_T 199 104 = some (aq_sti 105) := rfl
theorem i_X7_avoidingCycle_105 : aq_T 199 105 = some (aq_inc 5 (1) 108) := rfl
theorem i_X7_avoidingCycle_108 : aq_T 199 108 = some (aq_go 84) := rfl
theorem i_X7_avoidingCycle_111 : aq_T 199 111 = some (aq_ld 0 4 113) := rfl
theorem i_X7_avoidingCycle_113 : aq_T 199 113 = some (aq_st 0 2 114) := rfl
theorem i_X7_avoidingCycle_114 : aq_T 199 114 = some (aq_inc 3 (1) 117) := rfl
theorem i_X7_avoidingCycle_117 : aq_T 199 117 = some (aq_go 23) := rfl
theorem i_X7_avoidingCycle_120 : aq_T 199 120 = some (aq_ld 0 2 121) := rfl
theorem i_X7_avoidingCycle_121 : aq_T 199 121 = some (aq_push (.int (1000)) 124) := rfl
theorem i_X7_avoidingCycle_124 : aq_T 199 124 = some (aq_if ai_ne 133 127) := rfl
theorem i_X7_avoidingCycle_127 : aq_T 199 127 = some (aq_ld 4 0 128) := rfl
theorem i_X7_avoidingCycle_128 : aq_T 199 128 = some (aq_push (.int (2)) 129) := rfl
theorem i_X7_avoidingCycle_129 : aq_T 199 129 = some (aq_call 127 2 (some 7) 132) := rfl
theorem i_X7_avoidingCycle_132 : aq_T 199 132 = some (aq_ret 0) := rfl
theorem i_X7_avoidingCycle_133 : aq_T 199 133 = some (aq_ld 4 0 134) := rfl
theorem i_X7_avoidingCycle_134 : aq_T 199 134 = some (aq_push (.int (0)) 135) := rfl
theorem i_X7_avoidingCycle_135 : aq_T 199 135 = some (aq_pf 7 0 0 138) := rfl
theorem i_X7_avoidingCycle_138 : aq_T 199 138 = some (aq_ld 4 0 139) := rfl
theorem i_X7_avoidingCycle_139 : aq_T 199 139 = some (aq_gf 7 2 142) := rfl
theorem i_X7_avoidingCycle_142 : aq_T 199 142 = some (aq_ld 0 1 143) := rfl
theorem i_X7_avoidingCycle_143 : aq_T 199 143 = some (aq_ld 0 2 144) := rfl
theorem i_X7_avoidingCycle_144 : aq_T 199 144 = some (aq_sti 145) := rfl
theorem i_X7_avoidingCycle_145 : aq_T 199 145 = some (aq_push (.int (0)) 146) := rfl
theorem i_X7_avoidingCycle_146 : aq_T 199 146 = some (aq_st 0 3 147) := rfl
theorem i_X7_avoidingCycle_147 : aq_T 199 147 = some (aq_ld 0 3 148) := rfl
theorem i_X7_avoidingCycle_148 : aq_T 199 148 = some (aq_ld 0 2 149) := rfl
theorem i_X7_avoidingCycle_149 : aq_T 199 149 = some (aq_if ai_ge 175 152) := rfl
theorem i_X7_avoidingCycle_152 : aq_T 199 152 = some (aq_ld 4 0 153) := rfl
theorem i_X7_avoidingCycle_153 : aq_T 199 153 = some (aq_gf 7 3 156) := rfl
theorem i_X7_avoidingCycle_156 : aq_T 199 156 = some (aq_push (.int (40)) 158) := rfl
theorem i_X7_avoidingCycle_158 : aq_T 199 158 = some (aq_ld 0 1 159) := rfl
theorem i_X7_avoidingCycle_159 : aq_T 199 159 = some (aq_ar af_imul 160) := rfl
theorem i_X7_avoidingCycle_160 : aq_T 199 160 = some (aq_ld 0 3 161) := rfl
theorem i_X7_avoidingCycle_161 : aq_T 199 161 = some (aq_ar af_iadd 162) := rfl
theorem i_X7_avoidingCycle_162 : aq_T 199 162 = some (aq_ld 4 0 163) := rfl
theorem i_X7_avoidingCycle_163 : aq_T 199 163 = some (aq_gf 7 21 166) := rfl
theorem i_X7_avoidingCycle_166 : aq_T 199 166 = some (aq_ld 0 3 167) := rfl
theorem i_X7_avoidingCycle_167 : aq_T 199 167 = some (aq_ldi 0 168) := rfl
theorem i_X7_avoidingCycle_168 : aq_T 199 168 = some (aq_sti 169) := rfl
theorem i_X7_avoidingCycle_169 : aq_T 199 169 = some (aq_inc 3 (1) 172) := rfl
theorem i_X7_avoidingCycle_172 : aq_T 199 172 = some (aq_go 147) := rfl
theorem i_X7_avoidingCycle_175 : aq_T 199 175 = some (aq_ld 0 2 176) := rfl
theorem i_X7_avoidingCycle_176 : aq_T 199 176 = some (aq_ret 0) := rfl
theorem i_X7_isRow_0 : aq_T 200 0 = some (aq_ld 0 0 1) := rfl
theorem i_X7_isRow_1 : aq_T 200 1 = some (aq_if ai_lt0 13 4) := rfl
theorem i_X7_isRow_4 : aq_T 200 4 = some (aq_ld 0 0 5) := rfl
theorem i_X7_isRow_5 : aq_T 200 5 = some (aq_push (.int (2)) 6) := rfl
theorem i_X7_isRow_6 : aq_T 200 6 = some (aq_if ai_ge 13 9) := rfl
theorem i_X7_isRow_9 : aq_T 200 9 = some (aq_push (.int (1)) 10) := rfl
theorem i_X7_isRow_10 : aq_T 200 10 = some (aq_go 14) := rfl
theorem i_X7_isRow_13 : aq_T 200 13 = some (aq_push (.int (0)) 14) := rfl
theorem i_X7_isRow_14 : aq_T 200 14 = some (aq_ret 5) := rfl
theorem i_X7_setNumber_0 : aq_T 201 0 = some (aq_ld 4 0 1) := rfl
theorem i_X7_setNumber_1 : aq_T 201 1 = some (aq_gf 7 22 4) := rfl
theorem i_X7_setNumber_4 : aq_T 201 4 = some (aq_push (.int (41)) 6) := rfl
theorem i_X7_setNumber_6 : aq_T 201 6 = some (aq_ld 0 1 7) := rfl
theorem i_X7_setNumber_7 : aq_T 201 7 = some (aq_ar af_imul 8) := rfl
theorem i_X7_setNumber_8 : aq_T 201 8 = some (aq_ld 0 2 9) := rfl
theorem i_X7_setNumber_9 : aq_T 201 9 = some (aq_ar af_iadd 10) := rfl
theorem i_X7_setNumber_10 : aq_T 201 10 = some (aq_ld 4 0 11) := rfl
theorem i_X7_setNumber_11 : aq_T 201 11 = some (aq_gf 7 23 14) := rfl
theorem i_X7_setNumber_14 : aq_T 201 14 = some (aq_ld 0 1 15) := rfl
theorem i_X7_setNumber_15 : aq_T 201 15 = some (aq_ldi 0 16) := rfl
theorem i_X7_setNumber_16 : aq_T 201 16 = some (aq_if ai_ne0 25 19) := rfl
theorem i_X7_setNumber_19 : aq_T 201 19 = some (aq_ld 3 3 20) := rfl
theorem i_X7_setNumber_20 : aq_T 201 20 = some (aq_arc ac_d2f 21) := rfl
theorem i_X7_setNumber_21 : aq_T 201 21 = some (aq_arc ac_f2d 22) := rfl
theorem i_X7_setNumber_22 : aq_T 201 22 = some (aq_go 26) := rfl
theorem i_X7_setNumber_25 : aq_T 201 25 = some (aq_ld 3 3 26) := rfl
theorem i_X7_setNumber_26 : aq_T 201 26 = some (aq_std 27) := rfl
theorem i_X7_setNumber_27 : aq_T 201 27 = some (aq_retv) := rfl
theorem i_X7_newRow_0 : aq_T 202 0 = some (aq_ld 0 1 1) := rfl
theorem i_X7_newRow_1 : aq_T 202 1 = some (aq_call 200 1 none 4) := rfl
theorem i_X7_newRow_4 : aq_T 202 4 = some (aq_if ai_eq0 29 7) := rfl
theorem i_X7_newRow_7 : aq_T 202 7 = some (aq_ld 0 2 8) := rfl
theorem i_X7_newRow_8 : aq_T 202 8 = some (aq_ar af_i2l 9) := rfl
theorem i_X7_newRow_9 : aq_T 202 9 = some (aq_push (.long 0) 10) := rfl
theorem i_X7_newRow_10 : aq_T 202 10 = some (aq_push (.long 1) 11) := rfl
theorem i_X7_newRow_11 : aq_T 202 11 = some (aq_call 129 3 none 14) := rfl
theorem i_X7_newRow_14 : aq_T 202 14 = some (aq_if ai_eq0 29 17) := rfl
theorem i_X7_newRow_17 : aq_T 202 17 = some (aq_ld 0 3 18) := rfl
theorem i_X7_newRow_18 : aq_T 202 18 = some (aq_ar af_i2l 19) := rfl
theorem i_X7_newRow_19 : aq_T 202 19 = some (aq_push (.long 0) 20) := rfl
theorem i_X7_newRow_20 : aq_T 202 20 = some (aq_push (.long (41)) 23) := rfl
theorem i_X7_newRow_23 : aq_T 202 23 = some (aq_call 129 3 none 26) := rfl
theorem i_X7_newRow_26 : aq_T 202 26 = some (aq_if ai_ne0 35 29) := rfl
theorem i_X7_newRow_29 : aq_T 202 29 = some (aq_ld 4 0 30) := rfl
theorem i_X7_newRow_30 : aq_T 202 30 = some (aq_push (.int (1)) 31) := rfl
theorem i_X7_newRow_31 : aq_T 202 31 = some (aq_call 127 2 (some 7) 34) := rfl
theorem i_X7_newRow_34 : aq_T 202 34 = some (aq_ret 0) := rfl
theorem i_X7_newRow_35 : aq_T 202 35 = some (aq_ld 4 0 36) := rfl
theorem i_X7_newRow_36 : aq_T 202 36 = some (aq_push (.int (0)) 37) := rfl
theorem i_X7_newRow_37 : aq_T 202 37 = some (aq_pf 7 0 0 40) := rfl
theorem i_X7_newRow_40 : aq_T 202 40 = some (aq_ld 4 0 41) := rfl
theorem i_X7_newRow_41 : aq_T 202 41 = some (aq_gf 7 23 44) := rfl
theorem i_X7_newRow_44 : aq_T 202 44 = some (aq_ld 0 1 45) := rfl
theorem i_X7_newRow_45 : aq_T 202 45 = some (aq_ld 0 2 46) := rfl
theorem i_X7_newRow_46 : aq_T 202 46 = some (aq_sti 47) := rfl
theorem i_X7_newRow_47 : aq_T 202 47 = some (aq_ld 4 0 48) := rfl
theorem i_X7_newRow_48 : aq_T 202 48 = some (aq_gf 7 24 51) := rfl
theorem i_X7_newRow_51 : aq_T 202 51 = some (aq_ld 0 1 52) := rfl
theorem i_X7_newRow_52 : aq_T 202 52 = some (aq_ld 0 3 53) := rfl
theorem i_X7_newRow_53 : aq_T 202 53 = some (aq_sti 54) := rfl
theorem i_X7_newRow_54 : aq_T 202 54 = some (aq_push (.int (0)) 55) := rfl
theorem i_X7_newRow_55 : aq_T 202 55 = some (aq_st 0 4 57) := rfl
theorem i_X7_newRow_57 : aq_T 202 57 = some (aq_ld 0 4 59) := rfl
theorem i_X7_newRow_59 : aq_T 202 59 = some (aq_push (.int (41)) 61) := rfl
theorem i_X7_newRow_61 : aq_T 202 61 = some (aq_if ai_ge 83 64) := rfl
theorem i_X7_newRow_64 : aq_T 202 64 = some (aq_ld 4 0 65) := rfl
theorem i_X7_newRow_65 : aq_T 202 65 = some (aq_gf 7 22 68) := rfl
theorem i_X7_newRow_68 : aq_T 202 68 = some (aq_push (.int (41)) 70) := rfl
theorem i_X7_newRow_70 : aq_T 202 70 = some (aq_ld 0 1 71) := rfl
theorem i_X7_newRow_71 : aq_T 202 71 = some (aq_ar af_imul 72) := rfl
theorem i_X7_newRow_72 : aq_T 202 72 = some (aq_ld 0 4 74) := rfl
theorem i_X7_newRow_74 : aq_T 202 74 = some (aq_ar af_iadd 75) := rfl
theorem i_X7_newRow_75 : aq_T 202 75 = some (aq_push (.double FP.dconst0) 76) := rfl
theorem i_X7_newRow_76 : aq_T 202 76 = some (aq_std 77) := rfl
theorem i_X7_newRow_77 : aq_T 202 77 = some (aq_inc 4 (1) 80) := rfl
theorem i_X7_newRow_80 : aq_T 202 80 = some (aq_go 57) := rfl
theorem i_X7_newRow_83 : aq_T 202 83 = some (aq_ld 0 3 84) := rfl
theorem i_X7_newRow_84 : aq_T 202 84 = some (aq_ret 0) := rfl
theorem i_X7_fillDensities_0 : aq_T 203 0 = some (aq_ld 0 1 1) := rfl
theorem i_X7_fillDensities_1 : aq_T 203 1 = some (aq_call 200 1 none 4) := rfl
theorem i_X7_fillDensities_4 : aq_T 203 4 = some (aq_if ai_eq0 14 7) := rfl
theorem i_X7_fillDensities_7 : aq_T 203 7 = some (aq_ld 0 2 8) := rfl
theorem i_X7_fillDensities_8 : aq_T 203 8 = some (aq_call 130 1 none 11) := rfl
theorem i_X7_fillDensities_11 : aq_T 203 11 = some (aq_if ai_ne0 20 14) := rfl
theorem i_X7_fillDensities_14 : aq_T 203 14 = some (aq_ld 4 0 15) := rfl
theorem i_X7_fillDensities_15 : aq_T 203 15 = some (aq_push (.int (1)) 16) := rfl
theorem i_X7_fillDensities_16 : aq_T 203 16 = some (aq_call 127 2 (some 7) 19) := rfl
theorem i_X7_fillDensities_19 : aq_T 203 19 = some (aq_ret 0) := rfl
theorem i_X7_fillDensities_20 : aq_T 203 20 = some (aq_ld 4 0 21) := rfl
theorem i_X7_fillDensities_21 : aq_T 203 21 = some (aq_gf 7 2 24) := rfl
theorem i_X7_fillDensities_24 : aq_T 203 24 = some (aq_ld 0 2 25) := rfl
theorem i_X7_fillDensities_25 : aq_T 203 25 = some (aq_ldi 0 26) := rfl
theorem i_X7_fillDensities_26 : aq_T 203 26 = some (aq_st 0 3 27) := rfl
theorem i_X7_fillDensities_27 : aq_T 203 27 = some (aq_ld 4 0 28) := rfl
theorem i_X7_fillDensities_28 : aq_T 203 28 = some (aq_gf 7 23 31) := rfl
theorem i_X7_fillDensities_31 : aq_T 203 31 = some (aq_ld 0 1 32) := rfl
theorem i_X7_fillDensities_32 : aq_T 203 32 = some (aq_ldi 0 33) := rfl
theorem i_X7_fillDensities_33 : aq_T 203 33 = some (aq_if ai_lt0 46 36) := rfl
theorem i_X7_fillDensities_36 : aq_T 203 36 = some (aq_ld 4 0 37) := rfl
theorem i_X7_fillDensities_37 : aq_T 203 37 = some (aq_gf 7 24 40) := rfl
theorem i_X7_fillDensities_40 : aq_T 203 40 = some (aq_ld 0 1 41) := rfl
theorem i_X7_fillDensities_41 : aq_T 203 41 = some (aq_ldi 0 42) := rfl
theorem i_X7_fillDensities_42 : aq_T 203 42 = some (aq_ld 0 3 43) := rfl
theorem i_X7_fillDensities_43 : aq_T 203 43 = some (aq_if ai_ge 52 46) := rfl
theorem i_X7_fillDensities_46 : aq_T 203 46 = some (aq_ld 4 0 47) := rfl
theorem i_X7_fillDensities_47 : aq_T 203 47 = some (aq_push (.int (2)) 48) := rfl
theorem i_X7_fillDensities_48 : aq_T 203 48 = some (aq_call 127 2 (some 7) 51) := rfl
theorem i_X7_fillDensities_51 : aq_T 203 51 = some (aq_ret 0) := rfl
theorem i_X7_fillDensities_52 : aq_T 203 52 = some (aq_ld 4 0 53) := rfl
theorem i_X7_fillDensities_53 : aq_T 203 53 = some (aq_push (.int (0)) 54) := rfl
theorem i_X7_fillDensities_54 : aq_T 203 54 = some (aq_pf 7 0 0 57) := rfl
theorem i_X7_fillDensities_57 : aq_T 203 57 = some (aq_push (.int (0)) 58) := rfl
theorem i_X7_fillDensities_58 : aq_T 203 58 = some (aq_st 0 4 60) := rfl
theorem i_X7_fillDensities_60 : aq_T 203 60 = some (aq_ld 0 3 61) := rfl
theorem i_X7_fillDensities_61 : aq_T 203 61 = some (aq_if ai_ne0 68 64) := rfl
theorem i_X7_fillDensities_64 : aq_T 203 64 = some (aq_push (.int (1)) 65) := rfl
theorem i_X7_fillDensities_65 : aq_T 203 65 = some (aq_go 74) := rfl
theorem i_X7_fillDensities_68 : aq_T 203 68 = some (aq_ld 4 0 69) := rfl
theorem i_X7_fillDensities_69 : aq_T 203 69 = some (aq_ld 0 2 70) := rfl
theorem i_X7_fillDensities_70 : aq_T 203 70 = some (aq_push (.int (1)) 71) := rfl
theorem i_X7_fillDensities_71 : aq_T 203 71 = some (aq_call 161 3 (some 7) 74) := rfl
theorem i_X7_fillDensities_74 : aq_T 203 74 = some (aq_st 0 5 76) := rfl
theorem i_X7_fillDensities_76 : aq_T 203 76 = some (aq_push (.int (1)) 77) := rfl
theorem i_X7_fillDensities_77 : aq_T 203 77 = some (aq_st 0 6 79) := rfl
theorem i_X7_fillDensities_79 : aq_T 203 79 = some (aq_ld 0 6 81) := rfl
theorem i_X7_fillDensities_81 : aq_T 203 81 = some (aq_ld 0 3 82) := rfl
theorem i_X7_fillDensities_82 : aq_T 203 82 = some (aq_if ai_gt 177 85) := rfl
theorem i_X7_fillDensities_85 : aq_T 203 85 = some (aq_ld 0 4 87) := rfl
theorem i_X7_fillDensities_87 : aq_T 203 87 = some (aq_ld 4 0 88) := rfl
theorem i_X7_fillDensities_88 : aq_T 203 88 = some (aq_ld 0 2 89) := rfl
theorem i_X7_fillDensities_89 : aq_T 203 89 = some (aq_ld 0 6 91) := rfl
theorem i_X7_fillDensities_91 : aq_T 203 91 = some (aq_push (.int (1)) 92) := rfl
theorem i_X7_fillDensities_92 : aq_T 203 92 = some (aq_ar af_isub 93) := rfl
theorem i_X7_fillDensities_93 : aq_T 203 93 = some (aq_call 132 3 (some 7) 96) := rfl
theorem i_X7_fillDensities_96 : aq_T 203 96 = some (aq_push (.int (-1)) 97) := rfl
theorem i_X7_fillDensities_97 : aq_T 203 97 = some (aq_if ai_ne 104 100) := rfl
theorem i_X7_fillDensities_100 : aq_T 203 100 = some (aq_push (.int (1)) 101) := rfl
theorem i_X7_fillDensities_101 : aq_T 203 101 = some (aq_go 105) := rfl
theorem i_X7_fillDensities_104 : aq_T 203 104 = some (aq_push (.int (0)) 105) := rfl
theorem i_X7_fillDensities_105 : aq_T 203 105 = some (aq_ar af_iadd 106) := rfl
theorem i_X7_fillDensities_106 : aq_T 203 106 = some (aq_st 0 4 108) := rfl
theorem i_X7_fillDensities_108 : aq_T 203 108 = some (aq_ld 4 0 109) := rfl
theorem i_X7_fillDensities_109 : aq_T 203 109 = some (aq_gf 7 23 112) := rfl
theorem i_X7_fillDensities_112 : aq_T 203 112 = some (aq_ld 0 1 113) := rfl
theorem i_X7_fillDensities_113 : aq_T 203 113 = some (aq_ldi 0 114) := rfl
theorem i_X7_fillDensities_114 : aq_T 203 114 = some (aq_if ai_ne0 146 117) := rfl
theorem i_X7_fillDensities_117 : aq_T 203 117 = some (aq_ld 4 0 118) := rfl
theorem i_X7_fillDensities_118 : aq_T 203 118 = some (aq_gf 7 22 121) := rfl
theorem i_X7_fillDensities_121 : aq_T 203 121 = some (aq_push (.int (41)) 123) := rfl
theorem i_X7_fillDensities_123 : aq_T 203 123 = some (aq_ld 0 1 124) := rfl
theorem i_X7_fillDensities_124 : aq_T 203 124 = some (aq_ar af_imul 125) := rfl
theorem i_X7_fillDensities_125 : aq_T 203 125 = some (aq_ld 0 6 127) := rfl
theorem i_X7_fillDensities_127 : aq_T 203 127 = some (aq_ar af_iadd 128) := rfl
theorem i_X7_fillDensities_128 : aq_T 203 128 = some (aq_push (.int (1)) 129) := rfl
theorem i_X7_fillDensities_129 : aq_T 203 129 = some (aq_ar af_isub 130) := rfl
theorem i_X7_fillDensities_130 : aq_T 203 130 = some (aq_ld 0 4 132) := rfl
theorem i_X7_fillDensities_132 : aq_T 203 132 = some (aq_ar af_i2f 133) := rfl
theorem i_X7_fillDensities_133 : aq_T 203 133 = some (aq_ld 0 6 135) := rfl
theorem i_X7_fillDensities_135 : aq_T 203 135 = some (aq_ar af_i2f 136) := rfl
theorem i_X7_fillDensities_136 : aq_T 203 136 = some (aq_arc ac_fdiv 137) := rfl
theorem i_X7_fillDensities_137 : aq_T 203 137 = some (aq_ld 0 5 139) := rfl
theorem i_X7_fillDensities_139 : aq_T 203 139 = some (aq_ar af_i2f 140) := rfl
theorem i_X7_fillDensities_140 : aq_T 203 140 = some (aq_arc ac_fdiv 141) := rfl
theorem i_X7_fillDensities_141 : aq_T 203 141 = some (aq_arc ac_f2d 142) := rfl
theorem i_X7_fillDensities_142 : aq_T 203 142 = some (aq_std 143) := rfl
theorem i_X7_fillDensities_143 : aq_T 203 143 = some (aq_go 171) := rfl
theorem i_X7_fillDensities_146 : aq_T 203 146 = some (aq_ld 4 0 147) := rfl
theorem i_X7_fillDensities_147 : aq_T 203 147 = some (aq_gf 7 22 150) := rfl
theorem i_X7_fillDensities_150 : aq_T 203 150 = some (aq_push (.int (41)) 152) := rfl
theorem i_X7_fillDensities_152 : aq_T 203 152 = some (aq_ld 0 1 153) := rfl
theorem i_X7_fillDensities_153 : aq_T 203 153 = some (aq_ar af_imul 154) := rfl
theorem i_X7_fillDensities_154 : aq_T 203 154 = some (aq_ld 0 6 156) := rfl
theorem i_X7_fillDensities_156 : aq_T 203 156 = some (aq_ar af_iadd 157) := rfl
theorem i_X7_fillDensities_157 : aq_T 203 157 = some (aq_push (.int (1)) 158) := rfl
theorem i_X7_fillDensities_158 : aq_T 203 158 = some (aq_ar af_isub 159) := rfl
theorem i_X7_fillDensities_159 : aq_T 203 159 = some (aq_ld 0 4 161) := rfl
theorem i_X7_fillDensities_161 : aq_T 203 161 = some (aq_ar af_i2d 162) := rfl
theorem i_X7_fillDensities_162 : aq_T 203 162 = some (aq_ld 0 6 164) := rfl
theorem i_X7_fillDensities_164 : aq_T 203 164 = some (aq_ar af_i2d 165) := rfl
theorem i_X7_fillDensities_165 : aq_T 203 165 = some (aq_arc ac_ddiv 166) := rfl
theorem i_X7_fillDensities_166 : aq_T 203 166 = some (aq_ld 0 5 168) := rfl
theorem i_X7_fillDensities_168 : aq_T 203 168 = some (aq_ar af_i2d 169) := rfl
theorem i_X7_fillDensities_169 : aq_T 203 169 = some (aq_arc ac_ddiv 170) := rfl
theorem i_X7_fillDensities_170 : aq_T 203 170 = some (aq_std 171) := rfl
theorem i_X7_fillDensities_171 : aq_T 203 171 = some (aq_inc 6 (1) 174) := rfl
theorem i_X7_fillDensities_174 : aq_T 203 174 = some (aq_go 79) := rfl
theorem i_X7_fillDensities_177 : aq_T 203 177 = some (aq_ld 0 3 178) := rfl
theorem i_X7_fillDensities_178 : aq_T 203 178 = some (aq_ret 0) := rfl
theorem i_X7_notElement_0 : aq_T 204 0 = some (aq_ld 0 1 1) := rfl
theorem i_X7_notElement_1 : aq_T 204 1 = some (aq_call 200 1 none 4) := rfl
theorem i_X7_notElement_4 : aq_T 204 4 = some (aq_if ai_ne0 11 7) := rfl
theorem i_X7_notElement_7 : aq_T 204 7 = some (aq_push (.int (1)) 8) := rfl
theorem i_X7_notElement_8 : aq_T 204 8 = some (aq_go 47) := rfl
theorem i_X7_notElement_11 : aq_T 204 11 = some (aq_ld 4 0 12) := rfl
theorem i_X7_notElement_12 : aq_T 204 12 = some (aq_gf 7 23 15) := rfl
theorem i_X7_notElement_15 : aq_T 204 15 = some (aq_ld 0 1 16) := rfl
theorem i_X7_notElement_16 : aq_T 204 16 = some (aq_ldi 0 17) := rfl
theorem i_X7_notElement_17 : aq_T 204 17 = some (aq_if ai_ge0 24 20) := rfl
theorem i_X7_notElement_20 : aq_T 204 20 = some (aq_push (.int (2)) 21) := rfl
theorem i_X7_notElement_21 : aq_T 204 21 = some (aq_go 47) := rfl
theorem i_X7_notElement_24 : aq_T 204 24 = some (aq_ld 0 2 25) := rfl
theorem i_X7_notElement_25 : aq_T 204 25 = some (aq_ar af_i2l 26) := rfl
theorem i_X7_notElement_26 : aq_T 204 26 = some (aq_push (.long 0) 27) := rfl
theorem i_X7_notElement_27 : aq_T 204 27 = some (aq_ld 4 0 28) := rfl
theorem i_X7_notElement_28 : aq_T 204 28 = some (aq_gf 7 24 31) := rfl
theorem i_X7_notElement_31 : aq_T 204 31 = some (aq_ld 0 1 32) := rfl
theorem i_X7_notElement_32 : aq_T 204 32 = some (aq_ldi 0 33) := rfl
theorem i_X7_notElement_33 : aq_T 204 33 = some (aq_push (.int (1)) 34) := rfl
theorem i_X7_notElement_34 : aq_T 204 34 = some (aq_ar af_isub 35) := rfl
theorem i_X7_notElement_35 : aq_T 204 35 = some (aq_ar af_i2l 36) := rfl
theorem i_X7_notElement_36 : aq_T 204 36 = some (aq_call 129 3 none 39) := rfl
theorem i_X7_notElement_39 : aq_T 204 39 = some (aq_if ai_ne0 46 42) := rfl
theorem i_X7_notElement_42 : aq_T 204 42 = some (aq_push (.int (3)) 43) := rfl
theorem i_X7_notElement_43 : aq_T 204 43 = some (aq_go 47) := rfl
theorem i_X7_notElement_46 : aq_T 204 46 = some (aq_push (.int (0)) 47) := rfl
theorem i_X7_notElement_47 : aq_T 204 47 = some (aq_ret 0) := rfl
theorem i_X7_takeRemainder_0 : aq_T 205 0 = some (aq_ld 4 0 1) := rfl
theorem i_X7_takeRemainder_1 : aq_T 205 1 = some (aq_ld 4 0 2) := rfl
theorem i_X7_takeRemainder_2 : aq_T 205 2 = some (aq_ld 0 1 3) := rfl
theorem i_X7_takeRemainder_3 : aq_T 205 3 = some (aq_ld 0 2 4) := rfl
theorem i_X7_takeRemainder_4 : aq_T 205 4 = some (aq_call 204 3 (some 7) 7) := rfl
theorem i_X7_takeRemainder_7 : aq_T 205 7 = some (aq_pf 7 0 0 10) := rfl
theorem i_X7_takeRemainder_10 : aq_T 205 10 = some (aq_ld 4 0 11) := rfl
theorem i_X7_takeRemainder_11 : aq_T 205 11 = some (aq_gf 7 0 14) := rfl
theorem i_X7_takeRemainder_14 : aq_T 205 14 = some (aq_if ai_ne0 27 17) := rfl
theorem i_X7_takeRemainder_17 : aq_T 205 17 = some (aq_ld 4 0 18) := rfl
theorem i_X7_takeRemainder_18 : aq_T 205 18 = some (aq_ld 4 0 19) := rfl
theorem i_X7_takeRemainder_19 : aq_T 205 19 = some (aq_ld 0 1 20) := rfl
theorem i_X7_takeRemainder_20 : aq_T 205 20 = some (aq_ld 0 3 21) := rfl
theorem i_X7_takeRemainder_21 : aq_T 205 21 = some (aq_call 204 3 (some 7) 24) := rfl
theorem i_X7_takeRemainder_24 : aq_T 205 24 = some (aq_pf 7 0 0 27) := rfl
theorem i_X7_takeRemainder_27 : aq_T 205 27 = some (aq_ld 4 0 28) := rfl
theorem i_X7_takeRemainder_28 : aq_T 205 28 = some (aq_gf 7 0 31) := rfl
theorem i_X7_takeRemainder_31 : aq_T 205 31 = some (aq_if ai_le0 36 34) := rfl
theorem i_X7_takeRemainder_34 : aq_T 205 34 = some (aq_push (.int (0)) 35) := rfl
theorem i_X7_takeRemainder_35 : aq_T 205 35 = some (aq_ret 0) := rfl
theorem i_X7_takeRemainder_36 : aq_T 205 36 = some (aq_ld 4 0 37) := rfl
theorem i_X7_takeRemainder_37 : aq_T 205 37 = some (aq_gf 7 22 40) := rfl
theorem i_X7_takeRemainder_40 : aq_T 205 40 = some (aq_push (.int (41)) 42) := rfl
theorem i_X7_takeRemainder_42 : aq_T 205 42 = some (aq_ld 0 1 43) := rfl
theorem i_X7_takeRemainder_43 : aq_T 205 43 = some (aq_ar af_imul 44) := rfl
theorem i_X7_takeRemainder_44 : aq_T 205 44 = some (aq_ld 0 3 45) := rfl
theorem i_X7_takeRemainder_45 : aq_T 205 45 = some (aq_ar af_iadd 46) := rfl
theorem i_X7_takeRemainder_46 : aq_T 205 46 = some (aq_ldd 47) := rfl
theorem i_X7_takeRemainder_47 : aq_T 205 47 = some (aq_st 3 4 49) := rfl
theorem i_X7_takeRemainder_49 : aq_T 205 49 = some (aq_ld 3 4 51) := rfl
theorem i_X7_takeRemainder_51 : aq_T 205 51 = some (aq_push (.double FP.dconst0) 52) := rfl
theorem i_X7_takeRemainder_52 : aq_T 205 52 = some (aq_ar (af_dcmp .l) 53) := rfl
theorem i_X7_takeRemainder_53 : aq_T 205 53 = some (aq_if ai_ne0 62 56) := rfl
theorem i_X7_takeRemainder_56 : aq_T 205 56 = some (aq_ld 4 0 57) := rfl
theorem i_X7_takeRemainder_57 : aq_T 205 57 = some (aq_push (.int (4)) 58) := rfl
theorem i_X7_takeRemainder_58 : aq_T 205 58 = some (aq_call 127 2 (some 7) 61) := rfl
theorem i_X7_takeRemainder_61 : aq_T 205 61 = some (aq_ret 0) := rfl
theorem i_X7_takeRemainder_62 : aq_T 205 62 = some (aq_ld 4 0 63) := rfl
theorem i_X7_takeRemainder_63 : aq_T 205 63 = some (aq_ld 0 1 64) := rfl
theorem i_X7_takeRemainder_64 : aq_T 205 64 = some (aq_ld 0 2 65) := rfl
theorem i_X7_takeRemainder_65 : aq_T 205 65 = some (aq_ld 4 0 66) := rfl
theorem i_X7_takeRemainder_66 : aq_T 205 66 = some (aq_gf 7 22 69) := rfl
theorem i_X7_takeRemainder_69 : aq_T 205 69 = some (aq_push (.int (41)) 71) := rfl
theorem i_X7_takeRemainder_71 : aq_T 205 71 = some (aq_ld 0 1 72) := rfl
theorem i_X7_takeRemainder_72 : aq_T 205 72 = some (aq_ar af_imul 73) := rfl
theorem i_X7_takeRemainder_73 : aq_T 205 73 = some (aq_ld 0 2 74) := rfl
theorem i_X7_takeRemainder_74 : aq_T 205 74 = some (aq_ar af_iadd 75) := rfl
theorem i_X7_takeRemainder_75 : aq_T 205 75 = some (aq_ldd 76) := rfl
theorem i_X7_takeRemainder_76 : aq_T 205 76 = some (aq_ld 3 4 78) := rfl
theorem i_X7_takeRemainder_78 : aq_T 205 78 = some (aq_arc ac_drem 79) := rfl
theorem i_X7_takeRemainder_79 : aq_T 205 79 = some (aq_call 201 4 (some 7) 82) := rfl
theorem i_X7_takeRemainder_82 : aq_T 205 82 = some (aq_ld 4 0 83) := rfl
theorem i_X7_takeRemainder_83 : aq_T 205 83 = some (aq_gf 7 22 86) := rfl
theorem i_X7_takeRemainder_86 : aq_T 205 86 = some (aq_push (.int (41)) 88) := rfl
theorem i_X7_takeRemainder_88 : aq_T 205 88 = some (aq_ld 0 1 89) := rfl
theorem i_X7_takeRemainder_89 : aq_T 205 89 = some (aq_ar af_imul 90) := rfl
theorem i_X7_takeRemainder_90 : aq_T 205 90 = some (aq_ld 0 2 91) := rfl
theorem i_X7_takeRemainder_91 : aq_T 205 91 = some (aq_ar af_iadd 92) := rfl
theorem i_X7_takeRemainder_92 : aq_T 205 92 = some (aq_ldd 93) := rfl
theorem i_X7_takeRemainder_93 : aq_T 205 93 = some (aq_push (.double 4696837146684686336) 96) := rfl
theorem i_X7_takeRemainder_96 : aq_T 205 96 = some (aq_arc ac_dmul 97) := rfl
theorem i_X7_takeRemainder_97 : aq_T 205 97 = some (aq_ar af_d2i 98) := rfl
theorem i_X7_takeRemainder_98 : aq_T 205 98 = some (aq_ret 0) := rfl
theorem i_X7_elementBits_0 : aq_T 206 0 = some (aq_ld 4 0 1) := rfl
theorem i_X7_elementBits_1 : aq_T 206 1 = some (aq_ld 4 0 2) := rfl
theorem i_X7_elementBits_2 : aq_T 206 2 = some (aq_ld 0 1 3) := rfl
theorem i_X7_elementBits_3 : aq_T 206 3 = some (aq_ld 0 2 4) := rfl
theorem i_X7_elementBits_4 : aq_T 206 4 = some (aq_call 204 3 (some 7) 7) := rfl
theorem i_X7_elementBits_7 : aq_T 206 7 = some (aq_pf 7 0 0 10) := rfl
theorem i_X7_elementBits_10 : aq_T 206 10 = some (aq_ld 4 0 11) := rfl
theorem i_X7_elementBits_11 : aq_T 206 11 = some (aq_gf 7 0 14) := rfl
theorem i_X7_elementBits_14 : aq_T 206 14 = some (aq_if ai_le0 19 17) := rfl
theorem i_X7_elementBits_17 : aq_T 206 17 = some (aq_push (.long 0) 18) := rfl
theorem i_X7_elementBits_18 : aq_T 206 18 = some (aq_ret 1) := rfl
theorem i_X7_elementBits_19 : aq_T 206 19 = some (aq_ld 4 0 20) := rfl
theorem i_X7_elementBits_20 : aq_T 206 20 = some (aq_gf 7 22 23) := rfl
theorem i_X7_elementBits_23 : aq_T 206 23 = some (aq_push (.int (41)) 25) := rfl
theorem i_X7_elementBits_25 : aq_T 206 25 = some (aq_ld 0 1 26) := rfl
theorem i_X7_elementBits_26 : aq_T 206 26 = some (aq_ar af_imul 27) := rfl
theorem i_X7_elementBits_27 : aq_T 206 27 = some (aq_ld 0 2 28) := rfl
theorem i_X7_elementBits_28 : aq_T 206 28 = some (aq_ar af_iadd 29) := rfl
theorem i_X7_elementBits_29 : aq_T 206 29 = some (aq_ldd 30) := rfl
theorem i_X7_elementBits_30 : aq_T 206 30 = some (aq_st 3 3 31) := rfl
theorem i_X7_elementBits_31 : aq_T 206 31 = some (aq_ld 4 0 32) := rfl
theorem i_X7_elementBits_32 : aq_T 206 32 = some (aq_gf 7 23 35) := rfl
theorem i_X7_elementBits_35 : aq_T 206 35 = some (aq_ld 0 1 36) := rfl
theorem i_X7_elementBits_36 : aq_T 206 36 = some (aq_ldi 0 37) := rfl
theorem i_X7_elementBits_37 : aq_T 206 37 = some (aq_if ai_ne0 49 40) := rfl
theorem i_X7_elementBits_40 : aq_T 206 40 = some (aq_ld 3 3 41) := rfl
theorem i_X7_elementBits_41 : aq_T 206 41 = some (aq_arc ac_d2f 42) := rfl
theorem i_X7_elementBits_42 : aq_T 206 42 = some (aq_call 255 1 none 45) := rfl
theorem i_X7_elementBits_45 : aq_T 206 45 = some (aq_ar af_i2l 46) := rfl
theorem i_X7_elementBits_46 : aq_T 206 46 = some (aq_go 53) := rfl
theorem i_X7_elementBits_49 : aq_T 206 49 = some (aq_ld 3 3 50) := rfl
theorem i_X7_elementBits_50 : aq_T 206 50 = some (aq_call 253 1 none 53) := rfl
theorem i_X7_elementBits_53 : aq_T 206 53 = some (aq_ret 1) := rfl
theorem i_X7_passes_0 : aq_T 207 0 = some (aq_ld 4 0 1) := rfl
theorem i_X7_passes_1 : aq_T 207 1 = some (aq_gf 7 28 4) := rfl
theorem i_X7_passes_4 : aq_T 207 4 = some (aq_if ai_eq0 11 7) := rfl
theorem i_X7_passes_7 : aq_T 207 7 = some (aq_ld 0 1 8) := rfl
theorem i_X7_passes_8 : aq_T 207 8 = some (aq_go 20) := rfl
theorem i_X7_passes_11 : aq_T 207 11 = some (aq_ld 4 0 12) := rfl
theorem i_X7_passes_12 : aq_T 207 12 = some (aq_gf 7 25 15) := rfl
theorem i_X7_passes_15 : aq_T 207 15 = some (aq_ld 4 0 16) := rfl
theorem i_X7_passes_16 : aq_T 207 16 = some (aq_gf 7 26 19) := rfl
theorem i_X7_passes_19 : aq_T 207 19 = some (aq_ldi 0 20) := rfl
theorem i_X7_passes_20 : aq_T 207 20 = some (aq_st 0 2 21) := rfl
theorem i_X7_passes_21 : aq_T 207 21 = some (aq_ld 4 0 22) := rfl
theorem i_X7_passes_22 : aq_T 207 22 = some (aq_gf 7 25 25) := rfl
theorem i_X7_passes_25 : aq_T 207 25 = some (aq_ld 4 0 26) := rfl
theorem i_X7_passes_26 : aq_T 207 26 = some (aq_gf 7 26 29) := rfl
theorem i_X7_passes_29 : aq_T 207 29 = some (aq_ld 0 2 30) := rfl
theorem i_X7_passes_30 : aq_T 207 30 = some (aq_sti 31) := rfl
theorem i_X7_passes_31 : aq_T 207 31 = some (aq_ld 4 0 32) := rfl
theorem i_X7_passes_32 : aq_T 207 32 = some (aq_ar af_dup 33) := rfl
theorem i_X7_passes_33 : aq_T 207 33 = some (aq_gf 7 26 36) := rfl
theorem i_X7_passes_36 : aq_T 207 36 = some (aq_push (.int (1)) 37) := rfl
theorem i_X7_passes_37 : aq_T 207 37 = some (aq_ar af_iadd 38) := rfl
theorem i_X7_passes_38 : aq_T 207 38 = some (aq_pf 7 26 0 41) := rfl
theorem i_X7_passes_41 : aq_T 207 41 = some (aq_ld 0 2 42) := rfl
theorem i_X7_passes_42 : aq_T 207 42 = some (aq_ret 0) := rfl
theorem i_X7_passAll_0 : aq_T 208 0 = some (aq_push (.int (0)) 1) := rfl
theorem i_X7_passAll_1 : aq_T 208 1 = some (aq_st 0 2 2) := rfl
theorem i_X7_passAll_2 : aq_T 208 2 = some (aq_ld 0 2 3) := rfl
theorem i_X7_passAll_3 : aq_T 208 3 = some (aq_ld 4 1 4) := rfl
theorem i_X7_passAll_4 : aq_T 208 4 = some (aq_len 5) := rfl
theorem i_X7_passAll_5 : aq_T 208 5 = some (aq_if ai_ge 24 8) := rfl
theorem i_X7_passAll_8 : aq_T 208 8 = some (aq_ld 4 1 9) := rfl
theorem i_X7_passAll_9 : aq_T 208 9 = some (aq_ld 0 2 10) := rfl
theorem i_X7_passAll_10 : aq_T 208 10 = some (aq_ld 4 0 11) := rfl
theorem i_X7_passAll_11 : aq_T 208 11 = some (aq_ld 4 1 12) := rfl
theorem i_X7_passAll_12 : aq_T 208 12 = some (aq_ld 0 2 13) := rfl
theorem i_X7_passAll_13 : aq_T 208 13 = some (aq_ldi 0 14) := rfl
theorem i_X7_passAll_14 : aq_T 208 14 = some (aq_call 207 2 (some 7) 17) := rfl
theorem i_X7_passAll_17 : aq_T 208 17 = some (aq_sti 18) := rfl
theorem i_X7_passAll_18 : aq_T 208 18 = some (aq_inc 2 (1) 21) := rfl
theorem i_X7_passAll_21 : aq_T 208 21 = some (aq_go 2) := rfl
theorem i_X7_passAll_24 : aq_T 208 24 = some (aq_retv) := rfl
theorem i_X7_passState_0 : aq_T 209 0 = some (aq_ld 4 0 1) := rfl
theorem i_X7_passState_1 : aq_T 209 1 = some (aq_push (.int (0)) 2) := rfl
theorem i_X7_passState_2 : aq_T 209 2 = some (aq_pf 7 0 0 5) := rfl
theorem i_X7_passState_5 : aq_T 209 5 = some (aq_ld 4 0 6) := rfl
theorem i_X7_passState_6 : aq_T 209 6 = some (aq_ld 0 1 7) := rfl
theorem i_X7_passState_7 : aq_T 209 7 = some (aq_pf 7 28 5 10) := rfl
theorem i_X7_passState_10 : aq_T 209 10 = some (aq_ld 4 0 11) := rfl
theorem i_X7_passState_11 : aq_T 209 11 = some (aq_push (.int (0)) 12) := rfl
theorem i_X7_passState_12 : aq_T 209 12 = some (aq_pf 7 26 0 15) := rfl
theorem i_X7_passState_15 : aq_T 209 15 = some (aq_ld 4 0 16) := rfl
theorem i_X7_passState_16 : aq_T 209 16 = some (aq_ld 4 0 17) := rfl
theorem i_X7_passState_17 : aq_T 209 17 = some (aq_ld 4 0 18) := rfl
theorem i_X7_passState_18 : aq_T 209 18 = some (aq_gf 7 1 21) := rfl
theorem i_X7_passState_21 : aq_T 209 21 = some (aq_call 207 2 (some 7) 24) := rfl
theorem i_X7_passState_24 : aq_T 209 24 = some (aq_pf 7 1 0 27) := rfl
theorem i_X7_passState_27 : aq_T 209 27 = some (aq_ld 4 0 28) := rfl
theorem i_X7_passState_28 : aq_T 209 28 = some (aq_ld 4 0 29) := rfl
theorem i_X7_passState_29 : aq_T 209 29 = some (aq_ld 4 0 30) := rfl
theorem i_X7_passState_30 : aq_T 209 30 = some (aq_gf 7 13 33) := rfl
theorem i_X7_passState_33 : aq_T 209 33 = some (aq_call 207 2 (some 7) 36) := rfl
theorem i_X7_passState_36 : aq_T 209 36 = some (aq_pf 7 13 0 39) := rfl
theorem i_X7_passState_39 : aq_T 209 39 = some (aq_ld 4 0 40) := rfl
theorem i_X7_passState_40 : aq_T 209 40 = some (aq_ld 4 0 41) := rfl
theorem i_X7_passState_41 : aq_T 209 41 = some (aq_gf 7 2 44) := rfl
theorem i_X7_passState_44 : aq_T 209 44 = some (aq_call 208 2 (some 7) 47) := rfl
theorem i_X7_passState_47 : aq_T 209 47 = some (aq_ld 4 0 48) := rfl
theorem i_X7_passState_48 : aq_T 209 48 = some (aq_ld 4 0 49) := rfl
theorem i_X7_passState_49 : aq_T 209 49 = some (aq_gf 7 3 52) := rfl
theorem i_X7_passState_52 : aq_T 209 52 = some (aq_call 208 2 (some 7) 55) := rfl
theorem i_X7_passState_55 : aq_T 209 55 = some (aq_ld 4 0 56) := rfl
theorem i_X7_passState_56 : aq_T 209 56 = some (aq_ld 4 0 57) := rfl
theorem i_X7_passState_57 : aq_T 209 57 = some (aq_gf 7 11 60) := rfl
theorem i_X7_passState_60 : aq_T 209 60 = some (aq_call 208 2 (some 7) 63) := rfl
theorem i_X7_passState_63 : aq_T 209 63 = some (aq_ld 4 0 64) := rfl
theorem i_X7_passState_64 : aq_T 209 64 = some (aq_ld 4 0 65) := rfl
theorem i_X7_passState_65 : aq_T 209 65 = some (aq_gf 7 12 68) := rfl
theorem i_X7_passState_68 : aq_T 209 68 = some (aq_call 208 2 (some 7) 71) := rfl
theorem i_X7_passState_71 : aq_T 209 71 = some (aq_ld 4 0 72) := rfl
theorem i_X7_passState_72 : aq_T 209 72 = some (aq_gf 7 13 75) := rfl
theorem i_X7_passState_75 : aq_T 209 75 = some (aq_ret 0) := rfl
theorem i_X7_saveSnapshot_0 : aq_T 210 0 = some (aq_ld 4 0 1) := rfl
theorem i_X7_saveSnapshot_1 : aq_T 210 1 = some (aq_push (.int (1)) 2) := rfl
theorem i_X7_saveSnapshot_2 : aq_T 210 2 = some (aq_pf 7 27 5 5) := rfl
theorem i_X7_saveSnapshot_5 : aq_T 210 5 = some (aq_ld 4 0 6) := rfl
theorem i_X7_saveSnapshot_6 : aq_T 210 6 = some (aq_push (.int (1)) 7) := rfl
theorem i_X7_saveSnapshot_7 : aq_T 210 7 = some (aq_call 209 2 (some 7) 10) := rfl
theorem i_X7_saveSnapshot_10 : aq_T 210 10 = some (aq_ret 0) := rfl
theorem i_X7_restoreSnapshot_0 : aq_T 211 0 = some (aq_ld 4 0 1) := rfl
theorem i_X7_restoreSnapshot_1 : aq_T 211 1 = some (aq_gf 7 27 4) := rfl
theorem i_X7_restoreSnapshot_4 : aq_T 211 4 = some (aq_if ai_eq0 15 7) := rfl
theorem i_X7_restoreSnapshot_7 : aq_T 211 7 = some (aq_ld 4 0 8) := rfl
theorem i_X7_restoreSnapshot_8 : aq_T 211 8 = some (aq_push (.int (0)) 9) := rfl
theorem i_X7_restoreSnapshot_9 : aq_T 211 9 = some (aq_call 209 2 (some 7) 12) := rfl
theorem i_X7_restoreSnapshot_12 : aq_T 211 12 = some (aq_go 20) := rfl
theorem i_X7_restoreSnapshot_15 : aq_T 211 15 = some (aq_ld 4 0 16) := rfl
theorem i_X7_restoreSnapshot_16 : aq_T 211 16 = some (aq_push (.int (1)) 17) := rfl
theorem i_X7_restoreSnapshot_17 : aq_T 211 17 = some (aq_call 127 2 (some 7) 20) := rfl
theorem i_X7_restoreSnapshot_20 : aq_T 211 20 = some (aq_ret 0) := rfl
end
