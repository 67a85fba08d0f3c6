/-! ===== printed by wip/whole/mkL.py: the rows of the helpers ===== -/
section
theorem i_L_setLetters_0 : aq_T 212 0 = some (aq_ld 4 2 1) := rfl
theorem i_L_setLetters_1 : aq_T 212 1 = some (aq_push (.int (0)) 2) := rfl
theorem i_L_setLetters_2 : aq_T 212 2 = some (aq_ld 4 0 3) := rfl
theorem i_L_setLetters_3 : aq_T 212 3 = some (aq_ld 0 1 4) := rfl
theorem i_L_setLetters_4 : aq_T 212 4 = some (aq_callh 67 2 (some 6) [("java/lang/IllegalArgumentException", 1)] 7) := rfl
theorem i_L_setLetters_7 : aq_T 212 7 = some (aq_ar af_i2l 8) := rfl
theorem i_L_setLetters_8 : aq_T 212 8 = some (aq_stl 9) := rfl
theorem i_L_setLetters_9 : aq_T 212 9 = some (aq_go 15) := rfl
theorem i_L_setLetters_15 : aq_T 212 15 = some (aq_push (.int (0)) 16) := rfl
theorem i_L_setLetters_16 : aq_T 212 16 = some (aq_ret 0) := rfl
theorem i_L_append_0 : aq_T 213 0 = some (aq_ld 4 3 1) := rfl
theorem i_L_append_1 : aq_T 213 1 = some (aq_push (.int (0)) 2) := rfl
theorem i_L_append_2 : aq_T 213 2 = some (aq_ld 4 0 3) := rfl
theorem i_L_append_3 : aq_T 213 3 = some (aq_ld 0 1 4) := rfl
theorem i_L_append_4 : aq_T 213 4 = some (aq_ld 0 2 5) := rfl
theorem i_L_append_5 : aq_T 213 5 = some (aq_callh 68 3 (some 6) [("java/lang/IllegalArgumentException", 1), ("java/lang/IllegalStateException", 2)] 8) := rfl
theorem i_L_append_8 : aq_T 213 8 = some (aq_ar af_i2l 9) := rfl
theorem i_L_append_9 : aq_T 213 9 = some (aq_stl 10) := rfl
theorem i_L_append_10 : aq_T 213 10 = some (aq_go 21) := rfl
theorem i_L_append_21 : aq_T 213 21 = some (aq_push (.int (0)) 22) := rfl
theorem i_L_append_22 : aq_T 213 22 = some (aq_ret 0) := rfl
theorem i_L_feed_0 : aq_T 214 0 = some (aq_ld 4 2 1) := rfl
theorem i_L_feed_1 : aq_T 214 1 = some (aq_push (.int (0)) 2) := rfl
theorem i_L_feed_2 : aq_T 214 2 = some (aq_ld 4 0 3) := rfl
theorem i_L_feed_3 : aq_T 214 3 = some (aq_ld 0 1 4) := rfl
theorem i_L_feed_4 : aq_T 214 4 = some (aq_callh 69 2 (some 6) [("java/lang/IllegalArgumentException", 1), ("java/lang/IllegalStateException", 2)] 7) := rfl
theorem i_L_feed_7 : aq_T 214 7 = some (aq_ar af_i2l 8) := rfl
theorem i_L_feed_8 : aq_T 214 8 = some (aq_stl 9) := rfl
theorem i_L_feed_9 : aq_T 214 9 = some (aq_go 18) := rfl
theorem i_L_feed_18 : aq_T 214 18 = some (aq_push (.int (0)) 19) := rfl
theorem i_L_feed_19 : aq_T 214 19 = some (aq_ret 0) := rfl
theorem i_L_parseWord_0 : aq_T 215 0 = some (aq_ld 4 2 1) := rfl
theorem i_L_parseWord_1 : aq_T 215 1 = some (aq_push (.int (0)) 2) := rfl
theorem i_L_parseWord_2 : aq_T 215 2 = some (aq_ld 4 0 3) := rfl
theorem i_L_parseWord_3 : aq_T 215 3 = some (aq_ld 0 1 4) := rfl
theorem i_L_parseWord_4 : aq_T 215 4 = some (aq_callh 70 2 (some 6) [("java/lang/IllegalArgumentException", 1), ("java/lang/IllegalStateException", 2)] 7) := rfl
theorem i_L_parseWord_7 : aq_T 215 7 = some (aq_ar af_i2l 8) := rfl
theorem i_L_parseWord_8 : aq_T 215 8 = some (aq_stl 9) := rfl
theorem i_L_parseWord_9 : aq_T 215 9 = some (aq_go 18) := rfl
theorem i_L_parseWord_18 : aq_T 215 18 = some (aq_push (.int (0)) 19) := rfl
theorem i_L_parseWord_19 : aq_T 215 19 = some (aq_ret 0) := rfl
theorem i_L_errorPosition_0 : aq_T 216 0 = some (aq_ld 4 1 1) := rfl
theorem i_L_errorPosition_1 : aq_T 216 1 = some (aq_push (.int (0)) 2) := rfl
theorem i_L_errorPosition_2 : aq_T 216 2 = some (aq_ld 4 0 3) := rfl
theorem i_L_errorPosition_3 : aq_T 216 3 = some (aq_callh 71 1 (some 6) [("java/util/NoSuchElementException", 1)] 6) := rfl
theorem i_L_errorPosition_6 : aq_T 216 6 = some (aq_ar af_i2l 7) := rfl
theorem i_L_errorPosition_7 : aq_T 216 7 = some (aq_stl 8) := rfl
theorem i_L_errorPosition_8 : aq_T 216 8 = some (aq_go 14) := rfl
theorem i_L_errorPosition_14 : aq_T 216 14 = some (aq_push (.int (0)) 15) := rfl
theorem i_L_errorPosition_15 : aq_T 216 15 = some (aq_ret 0) := rfl
theorem i_L_length_0 : aq_T 217 0 = some (aq_ld 4 2 1) := rfl
theorem i_L_length_1 : aq_T 217 1 = some (aq_push (.int (0)) 2) := rfl
theorem i_L_length_2 : aq_T 217 2 = some (aq_ld 4 0 3) := rfl
theorem i_L_length_3 : aq_T 217 3 = some (aq_ld 0 1 4) := rfl
theorem i_L_length_4 : aq_T 217 4 = some (aq_callh 72 2 (some 6) [("java/lang/IllegalArgumentException", 1)] 7) := rfl
theorem i_L_length_7 : aq_T 217 7 = some (aq_ar af_i2l 8) := rfl
theorem i_L_length_8 : aq_T 217 8 = some (aq_stl 9) := rfl
theorem i_L_length_9 : aq_T 217 9 = some (aq_go 15) := rfl
theorem i_L_length_15 : aq_T 217 15 = some (aq_push (.int (0)) 16) := rfl
theorem i_L_length_16 : aq_T 217 16 = some (aq_ret 0) := rfl
theorem i_L_symbol_0 : aq_T 218 0 = some (aq_ld 4 3 1) := rfl
theorem i_L_symbol_1 : aq_T 218 1 = some (aq_push (.int (0)) 2) := rfl
theorem i_L_symbol_2 : aq_T 218 2 = some (aq_ld 4 0 3) := rfl
theorem i_L_symbol_3 : aq_T 218 3 = some (aq_ld 0 1 4) := rfl
theorem i_L_symbol_4 : aq_T 218 4 = some (aq_ld 0 2 5) := rfl
theorem i_L_symbol_5 : aq_T 218 5 = some (aq_callh 73 3 (some 6) [("java/lang/IllegalArgumentException", 1), ("java/lang/IndexOutOfBoundsException", 2)] 8) := rfl
theorem i_L_symbol_8 : aq_T 218 8 = some (aq_ar af_i2l 9) := rfl
theorem i_L_symbol_9 : aq_T 218 9 = some (aq_stl 10) := rfl
theorem i_L_symbol_10 : aq_T 218 10 = some (aq_go 21) := rfl
theorem i_L_symbol_21 : aq_T 218 21 = some (aq_push (.int (0)) 22) := rfl
theorem i_L_symbol_22 : aq_T 218 22 = some (aq_ret 0) := rfl
theorem i_L_setSymbol_0 : aq_T 219 0 = some (aq_ld 4 4 2) := rfl
theorem i_L_setSymbol_2 : aq_T 219 2 = some (aq_push (.int (0)) 3) := rfl
theorem i_L_setSymbol_3 : aq_T 219 3 = some (aq_ld 4 0 4) := rfl
theorem i_L_setSymbol_4 : aq_T 219 4 = some (aq_ld 0 1 5) := rfl
theorem i_L_setSymbol_5 : aq_T 219 5 = some (aq_ld 0 2 6) := rfl
theorem i_L_setSymbol_6 : aq_T 219 6 = some (aq_ld 0 3 7) := rfl
theorem i_L_setSymbol_7 : aq_T 219 7 = some (aq_callh 74 4 (some 6) [("java/lang/IllegalArgumentException", 1), ("java/lang/IndexOutOfBoundsException", 2)] 10) := rfl
theorem i_L_setSymbol_10 : aq_T 219 10 = some (aq_ar af_i2l 11) := rfl
theorem i_L_setSymbol_11 : aq_T 219 11 = some (aq_stl 12) := rfl
theorem i_L_setSymbol_12 : aq_T 219 12 = some (aq_go 23) := rfl
theorem i_L_setSymbol_23 : aq_T 219 23 = some (aq_push (.int (0)) 24) := rfl
theorem i_L_setSymbol_24 : aq_T 219 24 = some (aq_ret 0) := rfl
theorem i_L_clear_0 : aq_T 220 0 = some (aq_ld 4 2 1) := rfl
theorem i_L_clear_1 : aq_T 220 1 = some (aq_push (.int (0)) 2) := rfl
theorem i_L_clear_2 : aq_T 220 2 = some (aq_ld 4 0 3) := rfl
theorem i_L_clear_3 : aq_T 220 3 = some (aq_ld 0 1 4) := rfl
theorem i_L_clear_4 : aq_T 220 4 = some (aq_callh 75 2 (some 6) [("java/lang/IllegalArgumentException", 1)] 7) := rfl
theorem i_L_clear_7 : aq_T 220 7 = some (aq_ar af_i2l 8) := rfl
theorem i_L_clear_8 : aq_T 220 8 = some (aq_stl 9) := rfl
theorem i_L_clear_9 : aq_T 220 9 = some (aq_go 15) := rfl
theorem i_L_clear_15 : aq_T 220 15 = some (aq_push (.int (0)) 16) := rfl
theorem i_L_clear_16 : aq_T 220 16 = some (aq_ret 0) := rfl
theorem i_L_concatenate_0 : aq_T 221 0 = some (aq_ld 4 3 1) := rfl
theorem i_L_concatenate_1 : aq_T 221 1 = some (aq_push (.int (0)) 2) := rfl
theorem i_L_concatenate_2 : aq_T 221 2 = some (aq_ld 4 0 3) := rfl
theorem i_L_concatenate_3 : aq_T 221 3 = some (aq_ld 0 1 4) := rfl
theorem i_L_concatenate_4 : aq_T 221 4 = some (aq_ld 0 2 5) := rfl
theorem i_L_concatenate_5 : aq_T 221 5 = some (aq_callh 76 3 (some 6) [("java/lang/IllegalArgumentException", 1), ("java/lang/IllegalStateException", 2)] 8) := rfl
theorem i_L_concatenate_8 : aq_T 221 8 = some (aq_ar af_i2l 9) := rfl
theorem i_L_concatenate_9 : aq_T 221 9 = some (aq_stl 10) := rfl
theorem i_L_concatenate_10 : aq_T 221 10 = some (aq_go 21) := rfl
theorem i_L_concatenate_21 : aq_T 221 21 = some (aq_push (.int (0)) 22) := rfl
theorem i_L_concatenate_22 : aq_T 221 22 = some (aq_ret 0) := rfl
theorem i_L_reverse_0 : aq_T 222 0 = some (aq_ld 4 2 1) := rfl
theorem i_L_reverse_1 : aq_T 222 1 = some (aq_push (.int (0)) 2) := rfl
theorem i_L_reverse_2 : aq_T 222 2 = some (aq_ld 4 0 3) := rfl
theorem i_L_reverse_3 : aq_T 222 3 = some (aq_ld 0 1 4) := rfl
theorem i_L_reverse_4 : aq_T 222 4 = some (aq_callh 77 2 (some 6) [("java/lang/IllegalArgumentException", 1)] 7) := rfl
theorem i_L_reverse_7 : aq_T 222 7 = some (aq_if ai_eq0 14 10) := rfl
theorem i_L_reverse_10 : aq_T 222 10 = some (aq_push (.long 1) 11) := rfl
theorem i_L_reverse_11 : aq_T 222 11 = some (aq_go 15) := rfl
theorem i_L_reverse_14 : aq_T 222 14 = some (aq_push (.long 0) 15) := rfl
theorem i_L_reverse_15 : aq_T 222 15 = some (aq_stl 16) := rfl
theorem i_L_reverse_16 : aq_T 222 16 = some (aq_go 22) := rfl
theorem i_L_reverse_22 : aq_T 222 22 = some (aq_push (.int (0)) 23) := rfl
theorem i_L_reverse_23 : aq_T 222 23 = some (aq_ret 0) := rfl
theorem i_L_rotate_0 : aq_T 223 0 = some (aq_ld 4 3 1) := rfl
theorem i_L_rotate_1 : aq_T 223 1 = some (aq_push (.int (0)) 2) := rfl
theorem i_L_rotate_2 : aq_T 223 2 = some (aq_ld 4 0 3) := rfl
theorem i_L_rotate_3 : aq_T 223 3 = some (aq_ld 0 1 4) := rfl
theorem i_L_rotate_4 : aq_T 223 4 = some (aq_ld 0 2 5) := rfl
theorem i_L_rotate_5 : aq_T 223 5 = some (aq_callh 78 3 (some 6) [("java/lang/IllegalArgumentException", 1), ("java/lang/IndexOutOfBoundsException", 2)] 8) := rfl
theorem i_L_rotate_8 : aq_T 223 8 = some (aq_if ai_eq0 15 11) := rfl
theorem i_L_rotate_11 : aq_T 223 11 = some (aq_push (.long 1) 12) := rfl
theorem i_L_rotate_12 : aq_T 223 12 = some (aq_go 16) := rfl
theorem i_L_rotate_15 : aq_T 223 15 = some (aq_push (.long 0) 16) := rfl
theorem i_L_rotate_16 : aq_T 223 16 = some (aq_stl 17) := rfl
theorem i_L_rotate_17 : aq_T 223 17 = some (aq_go 28) := rfl
theorem i_L_rotate_28 : aq_T 223 28 = some (aq_push (.int (0)) 29) := rfl
theorem i_L_rotate_29 : aq_T 223 29 = some (aq_ret 0) := rfl
theorem i_L_holes_0 : aq_T 224 0 = some (aq_ld 4 2 1) := rfl
theorem i_L_holes_1 : aq_T 224 1 = some (aq_push (.int (0)) 2) := rfl
theorem i_L_holes_2 : aq_T 224 2 = some (aq_ld 4 0 3) := rfl
theorem i_L_holes_3 : aq_T 224 3 = some (aq_ld 0 1 4) := rfl
theorem i_L_holes_4 : aq_T 224 4 = some (aq_callh 79 2 (some 6) [("java/lang/IllegalArgumentException", 1)] 7) := rfl
theorem i_L_holes_7 : aq_T 224 7 = some (aq_ar af_i2l 8) := rfl
theorem i_L_holes_8 : aq_T 224 8 = some (aq_stl 9) := rfl
theorem i_L_holes_9 : aq_T 224 9 = some (aq_go 15) := rfl
theorem i_L_holes_15 : aq_T 224 15 = some (aq_push (.int (0)) 16) := rfl
theorem i_L_holes_16 : aq_T 224 16 = some (aq_ret 0) := rfl
theorem i_L_isCompatible_0 : aq_T 225 0 = some (aq_ld 4 3 1) := rfl
theorem i_L_isCompatible_1 : aq_T 225 1 = some (aq_push (.int (0)) 2) := rfl
theorem i_L_isCompatible_2 : aq_T 225 2 = some (aq_ld 4 0 3) := rfl
theorem i_L_isCompatible_3 : aq_T 225 3 = some (aq_ld 0 1 4) := rfl
theorem i_L_isCompatible_4 : aq_T 225 4 = some (aq_ld 0 2 5) := rfl
theorem i_L_isCompatible_5 : aq_T 225 5 = some (aq_callh 80 3 (some 6) [("java/lang/IllegalArgumentException", 1)] 8) := rfl
theorem i_L_isCompatible_8 : aq_T 225 8 = some (aq_if ai_eq0 15 11) := rfl
theorem i_L_isCompatible_11 : aq_T 225 11 = some (aq_push (.long 1) 12) := rfl
theorem i_L_isCompatible_12 : aq_T 225 12 = some (aq_go 16) := rfl
theorem i_L_isCompatible_15 : aq_T 225 15 = some (aq_push (.long 0) 16) := rfl
theorem i_L_isCompatible_16 : aq_T 225 16 = some (aq_stl 17) := rfl
theorem i_L_isCompatible_17 : aq_T 225 17 = some (aq_go 24) := rfl
theorem i_L_isCompatible_24 : aq_T 225 24 = some (aq_push (.int (0)) 25) := rfl
theorem i_L_isCompatible_25 : aq_T 225 25 = some (aq_ret 0) := rfl
theorem i_L_isContained_0 : aq_T 226 0 = some (aq_ld 4 3 1) := rfl
theorem i_L_isContained_1 : aq_T 226 1 = some (aq_push (.int (0)) 2) := rfl
theorem i_L_isContained_2 : aq_T 226 2 = some (aq_ld 4 0 3) := rfl
theorem i_L_isContained_3 : aq_T 226 3 = some (aq_ld 0 1 4) := rfl
theorem i_L_isContained_4 : aq_T 226 4 = some (aq_ld 0 2 5) := rfl
theorem i_L_isContained_5 : aq_T 226 5 = some (aq_callh 81 3 (some 6) [("java/lang/IllegalArgumentException", 1)] 8) := rfl
theorem i_L_isContained_8 : aq_T 226 8 = some (aq_if ai_eq0 15 11) := rfl
theorem i_L_isContained_11 : aq_T 226 11 = some (aq_push (.long 1) 12) := rfl
theorem i_L_isContained_12 : aq_T 226 12 = some (aq_go 16) := rfl
theorem i_L_isContained_15 : aq_T 226 15 = some (aq_push (.long 0) 16) := rfl
theorem i_L_isContained_16 : aq_T 226 16 = some (aq_stl 17) := rfl
theorem i_L_isContained_17 : aq_T 226 17 = some (aq_go 24) := rfl
theorem i_L_isContained_24 : aq_T 226 24 = some (aq_push (.int (0)) 25) := rfl
theorem i_L_isContained_25 : aq_T 226 25 = some (aq_ret 0) := rfl
theorem i_L_conflict_0 : aq_T 227 0 = some (aq_ld 4 3 1) := rfl
theorem i_L_conflict_1 : aq_T 227 1 = some (aq_push (.int (0)) 2) := rfl
theorem i_L_conflict_2 : aq_T 227 2 = some (aq_ld 4 0 3) := rfl
theorem i_L_conflict_3 : aq_T 227 3 = some (aq_ld 0 1 4) := rfl
theorem i_L_conflict_4 : aq_T 227 4 = some (aq_ld 0 2 5) := rfl
theorem i_L_conflict_5 : aq_T 227 5 = some (aq_callh 82 3 (some 6) [("java/lang/IllegalArgumentException", 1), ("java/lang/IllegalStateException", 2)] 8) := rfl
theorem i_L_conflict_8 : aq_T 227 8 = some (aq_ar af_i2l 9) := rfl
theorem i_L_conflict_9 : aq_T 227 9 = some (aq_stl 10) := rfl
theorem i_L_conflict_10 : aq_T 227 10 = some (aq_go 21) := rfl
theorem i_L_conflict_21 : aq_T 227 21 = some (aq_push (.int (0)) 22) := rfl
theorem i_L_conflict_22 : aq_T 227 22 = some (aq_ret 0) := rfl
theorem i_L_join_0 : aq_T 228 0 = some (aq_ld 4 4 2) := rfl
theorem i_L_join_2 : aq_T 228 2 = some (aq_push (.int (0)) 3) := rfl
theorem i_L_join_3 : aq_T 228 3 = some (aq_ld 4 0 4) := rfl
theorem i_L_join_4 : aq_T 228 4 = some (aq_ld 0 1 5) := rfl
theorem i_L_join_5 : aq_T 228 5 = some (aq_ld 0 2 6) := rfl
theorem i_L_join_6 : aq_T 228 6 = some (aq_ld 0 3 7) := rfl
theorem i_L_join_7 : aq_T 228 7 = some (aq_callh 83 4 (some 6) [("java/lang/IllegalArgumentException", 1), ("java/lang/IllegalStateException", 2)] 10) := rfl
theorem i_L_join_10 : aq_T 228 10 = some (aq_ar af_i2l 11) := rfl
theorem i_L_join_11 : aq_T 228 11 = some (aq_stl 12) := rfl
theorem i_L_join_12 : aq_T 228 12 = some (aq_go 23) := rfl
theorem i_L_join_23 : aq_T 228 23 = some (aq_push (.int (0)) 24) := rfl
theorem i_L_join_24 : aq_T 228 24 = some (aq_ret 0) := rfl
theorem i_L_isPeriod_0 : aq_T 229 0 = some (aq_ld 4 4 2) := rfl
theorem i_L_isPeriod_2 : aq_T 229 2 = some (aq_push (.int (0)) 3) := rfl
theorem i_L_isPeriod_3 : aq_T 229 3 = some (aq_ld 4 0 4) := rfl
theorem i_L_isPeriod_4 : aq_T 229 4 = some (aq_ld 0 1 5) := rfl
theorem i_L_isPeriod_5 : aq_T 229 5 = some (aq_ld 0 2 6) := rfl
theorem i_L_isPeriod_6 : aq_T 229 6 = some (aq_ld 0 3 7) := rfl
theorem i_L_isPeriod_7 : aq_T 229 7 = some (aq_callh 84 4 (some 6) [("java/lang/IllegalArgumentException", 1)] 10) := rfl
theorem i_L_isPeriod_10 : aq_T 229 10 = some (aq_if ai_eq0 17 13) := rfl
theorem i_L_isPeriod_13 : aq_T 229 13 = some (aq_push (.long 1) 14) := rfl
theorem i_L_isPeriod_14 : aq_T 229 14 = some (aq_go 18) := rfl
theorem i_L_isPeriod_17 : aq_T 229 17 = some (aq_push (.long 0) 18) := rfl
theorem i_L_isPeriod_18 : aq_T 229 18 = some (aq_stl 19) := rfl
theorem i_L_isPeriod_19 : aq_T 229 19 = some (aq_go 26) := rfl
theorem i_L_isPeriod_26 : aq_T 229 26 = some (aq_push (.int (0)) 27) := rfl
theorem i_L_isPeriod_27 : aq_T 229 27 = some (aq_ret 0) := rfl
theorem i_L_smallestPeriod_0 : aq_T 230 0 = some (aq_ld 4 3 1) := rfl
theorem i_L_smallestPeriod_1 : aq_T 230 1 = some (aq_push (.int (0)) 2) := rfl
theorem i_L_smallestPeriod_2 : aq_T 230 2 = some (aq_ld 4 0 3) := rfl
theorem i_L_smallestPeriod_3 : aq_T 230 3 = some (aq_ld 0 1 4) := rfl
theorem i_L_smallestPeriod_4 : aq_T 230 4 = some (aq_ld 0 2 5) := rfl
theorem i_L_smallestPeriod_5 : aq_T 230 5 = some (aq_callh 85 3 (some 6) [("java/lang/IllegalArgumentException", 1), ("java/util/NoSuchElementException", 2)] 8) := rfl
theorem i_L_smallestPeriod_8 : aq_T 230 8 = some (aq_ar af_i2l 9) := rfl
theorem i_L_smallestPeriod_9 : aq_T 230 9 = some (aq_stl 10) := rfl
theorem i_L_smallestPeriod_10 : aq_T 230 10 = some (aq_go 21) := rfl
theorem i_L_smallestPeriod_21 : aq_T 230 21 = some (aq_push (.int (0)) 22) := rfl
theorem i_L_smallestPeriod_22 : aq_T 230 22 = some (aq_ret 0) := rfl
theorem i_L_periodBound_0 : aq_T 231 0 = some (aq_ld 4 4 2) := rfl
theorem i_L_periodBound_2 : aq_T 231 2 = some (aq_push (.int (0)) 3) := rfl
theorem i_L_periodBound_3 : aq_T 231 3 = some (aq_ld 4 0 4) := rfl
theorem i_L_periodBound_4 : aq_T 231 4 = some (aq_ld 0 1 5) := rfl
theorem i_L_periodBound_5 : aq_T 231 5 = some (aq_ld 0 2 6) := rfl
theorem i_L_periodBound_6 : aq_T 231 6 = some (aq_ld 0 3 7) := rfl
theorem i_L_periodBound_7 : aq_T 231 7 = some (aq_callh 86 4 (some 6) [("java/lang/IllegalArgumentException", 1)] 10) := rfl
theorem i_L_periodBound_10 : aq_T 231 10 = some (aq_ar af_i2l 11) := rfl
theorem i_L_periodBound_11 : aq_T 231 11 = some (aq_stl 12) := rfl
theorem i_L_periodBound_12 : aq_T 231 12 = some (aq_go 19) := rfl
theorem i_L_periodBound_19 : aq_T 231 19 = some (aq_push (.int (0)) 20) := rfl
theorem i_L_periodBound_20 : aq_T 231 20 = some (aq_ret 0) := rfl
theorem i_L_longestBorder_0 : aq_T 232 0 = some (aq_ld 4 2 1) := rfl
theorem i_L_longestBorder_1 : aq_T 232 1 = some (aq_push (.int (0)) 2) := rfl
theorem i_L_longestBorder_2 : aq_T 232 2 = some (aq_ld 4 0 3) := rfl
theorem i_L_longestBorder_3 : aq_T 232 3 = some (aq_ld 0 1 4) := rfl
theorem i_L_longestBorder_4 : aq_T 232 4 = some (aq_callh 87 2 (some 6) [("java/lang/IllegalArgumentException", 1)] 7) := rfl
theorem i_L_longestBorder_7 : aq_T 232 7 = some (aq_ar af_i2l 8) := rfl
theorem i_L_longestBorder_8 : aq_T 232 8 = some (aq_stl 9) := rfl
theorem i_L_longestBorder_9 : aq_T 232 9 = some (aq_go 15) := rfl
theorem i_L_longestBorder_15 : aq_T 232 15 = some (aq_push (.int (0)) 16) := rfl
theorem i_L_longestBorder_16 : aq_T 232 16 = some (aq_ret 0) := rfl
theorem i_L_isPrimitive_0 : aq_T 233 0 = some (aq_ld 4 2 1) := rfl
theorem i_L_isPrimitive_1 : aq_T 233 1 = some (aq_push (.int (0)) 2) := rfl
theorem i_L_isPrimitive_2 : aq_T 233 2 = some (aq_ld 4 0 3) := rfl
theorem i_L_isPrimitive_3 : aq_T 233 3 = some (aq_ld 0 1 4) := rfl
theorem i_L_isPrimitive_4 : aq_T 233 4 = some (aq_callh 88 2 (some 6) [("java/lang/IllegalArgumentException", 1)] 7) := rfl
theorem i_L_isPrimitive_7 : aq_T 233 7 = some (aq_if ai_eq0 14 10) := rfl
theorem i_L_isPrimitive_10 : aq_T 233 10 = some (aq_push (.long 1) 11) := rfl
theorem i_L_isPrimitive_11 : aq_T 233 11 = some (aq_go 15) := rfl
theorem i_L_isPrimitive_14 : aq_T 233 14 = some (aq_push (.long 0) 15) := rfl
theorem i_L_isPrimitive_15 : aq_T 233 15 = some (aq_stl 16) := rfl
theorem i_L_isPrimitive_16 : aq_T 233 16 = some (aq_go 22) := rfl
theorem i_L_isPrimitive_22 : aq_T 233 22 = some (aq_push (.int (0)) 23) := rfl
theorem i_L_isPrimitive_23 : aq_T 233 23 = some (aq_ret 0) := rfl
theorem i_L_exponent_0 : aq_T 234 0 = some (aq_ld 4 2 1) := rfl
theorem i_L_exponent_1 : aq_T 234 1 = some (aq_push (.int (0)) 2) := rfl
theorem i_L_exponent_2 : aq_T 234 2 = some (aq_ld 4 0 3) := rfl
theorem i_L_exponent_3 : aq_T 234 3 = some (aq_ld 0 1 4) := rfl
theorem i_L_exponent_4 : aq_T 234 4 = some (aq_callh 89 2 (some 6) [("java/lang/IllegalArgumentException", 1), ("java/util/NoSuchElementException", 2)] 7) := rfl
theorem i_L_exponent_7 : aq_T 234 7 = some (aq_ar af_i2l 8) := rfl
theorem i_L_exponent_8 : aq_T 234 8 = some (aq_stl 9) := rfl
theorem i_L_exponent_9 : aq_T 234 9 = some (aq_go 18) := rfl
theorem i_L_exponent_18 : aq_T 234 18 = some (aq_push (.int (0)) 19) := rfl
theorem i_L_exponent_19 : aq_T 234 19 = some (aq_ret 0) := rfl
theorem i_L_completionCount_0 : aq_T 235 0 = some (aq_ld 4 2 1) := rfl
theorem i_L_completionCount_1 : aq_T 235 1 = some (aq_push (.int (0)) 2) := rfl
theorem i_L_completionCount_2 : aq_T 235 2 = some (aq_ld 4 0 3) := rfl
theorem i_L_completionCount_3 : aq_T 235 3 = some (aq_ld 0 1 4) := rfl
theorem i_L_completionCount_4 : aq_T 235 4 = some (aq_callh 90 2 (some 6) [("java/lang/IllegalArgumentException", 1), ("java/lang/ArithmeticException", 2)] 7) := rfl
theorem i_L_completionCount_7 : aq_T 235 7 = some (aq_stl 8) := rfl
theorem i_L_completionCount_8 : aq_T 235 8 = some (aq_go 17) := rfl
theorem i_L_completionCount_17 : aq_T 235 17 = some (aq_push (.int (0)) 18) := rfl
theorem i_L_completionCount_18 : aq_T 235 18 = some (aq_ret 0) := rfl
theorem i_L_complete_0 : aq_T 236 0 = some (aq_ld 4 5 2) := rfl
theorem i_L_complete_2 : aq_T 236 2 = some (aq_push (.int (0)) 3) := rfl
theorem i_L_complete_3 : aq_T 236 3 = some (aq_ld 4 0 4) := rfl
theorem i_L_complete_4 : aq_T 236 4 = some (aq_ld 0 1 5) := rfl
theorem i_L_complete_5 : aq_T 236 5 = some (aq_ld 1 2 6) := rfl
theorem i_L_complete_6 : aq_T 236 6 = some (aq_ld 0 4 8) := rfl
theorem i_L_complete_8 : aq_T 236 8 = some (aq_callh 91 4 (some 6) [("java/lang/IllegalArgumentException", 1), ("java/lang/ArithmeticException", 2), ("java/util/NoSuchElementException", 3)] 11) := rfl
theorem i_L_complete_11 : aq_T 236 11 = some (aq_ar af_i2l 12) := rfl
theorem i_L_complete_12 : aq_T 236 12 = some (aq_stl 13) := rfl
theorem i_L_complete_13 : aq_T 236 13 = some (aq_go 28) := rfl
theorem i_L_complete_28 : aq_T 236 28 = some (aq_push (.int (0)) 29) := rfl
theorem i_L_complete_29 : aq_T 236 29 = some (aq_ret 0) := rfl
theorem i_L_primitiveCompletions_0 : aq_T 237 0 = some (aq_ld 4 2 1) := rfl
theorem i_L_primitiveCompletions_1 : aq_T 237 1 = some (aq_push (.int (0)) 2) := rfl
theorem i_L_primitiveCompletions_2 : aq_T 237 2 = some (aq_ld 4 0 3) := rfl
theorem i_L_primitiveCompletions_3 : aq_T 237 3 = some (aq_ld 0 1 4) := rfl
theorem i_L_primitiveCompletions_4 : aq_T 237 4 = some (aq_callh 92 2 (some 6) [("java/lang/IllegalArgumentException", 1), ("java/lang/IllegalStateException", 2)] 7) := rfl
theorem i_L_primitiveCompletions_7 : aq_T 237 7 = some (aq_ar af_i2l 8) := rfl
theorem i_L_primitiveCompletions_8 : aq_T 237 8 = some (aq_stl 9) := rfl
theorem i_L_primitiveCompletions_9 : aq_T 237 9 = some (aq_go 18) := rfl
theorem i_L_primitiveCompletions_18 : aq_T 237 18 = some (aq_push (.int (0)) 19) := rfl
theorem i_L_primitiveCompletions_19 : aq_T 237 19 = some (aq_ret 0) := rfl
theorem i_L_complexity_0 : aq_T 238 0 = some (aq_ld 4 3 1) := rfl
theorem i_L_complexity_1 : aq_T 238 1 = some (aq_push (.int (0)) 2) := rfl
theorem i_L_complexity_2 : aq_T 238 2 = some (aq_ld 4 0 3) := rfl
theorem i_L_complexity_3 : aq_T 238 3 = some (aq_ld 0 1 4) := rfl
theorem i_L_complexity_4 : aq_T 238 4 = some (aq_ld 0 2 5) := rfl
theorem i_L_complexity_5 : aq_T 238 5 = some (aq_callh 93 3 (some 6) [("java/lang/IllegalArgumentException", 1)] 8) := rfl
theorem i_L_complexity_8 : aq_T 238 8 = some (aq_ar af_i2l 9) := rfl
theorem i_L_complexity_9 : aq_T 238 9 = some (aq_stl 10) := rfl
theorem i_L_complexity_10 : aq_T 238 10 = some (aq_go 17) := rfl
theorem i_L_complexity_17 : aq_T 238 17 = some (aq_push (.int (0)) 18) := rfl
theorem i_L_complexity_18 : aq_T 238 18 = some (aq_ret 0) := rfl
theorem i_L_occurrences_0 : aq_T 239 0 = some (aq_ld 4 3 1) := rfl
theorem i_L_occurrences_1 : aq_T 239 1 = some (aq_push (.int (0)) 2) := rfl
theorem i_L_occurrences_2 : aq_T 239 2 = some (aq_ld 4 0 3) := rfl
theorem i_L_occurrences_3 : aq_T 239 3 = some (aq_ld 0 1 4) := rfl
theorem i_L_occurrences_4 : aq_T 239 4 = some (aq_ld 0 2 5) := rfl
theorem i_L_occurrences_5 : aq_T 239 5 = some (aq_callh 94 3 (some 6) [("java/lang/IllegalArgumentException", 1)] 8) := rfl
theorem i_L_occurrences_8 : aq_T 239 8 = some (aq_ar af_i2l 9) := rfl
theorem i_L_occurrences_9 : aq_T 239 9 = some (aq_stl 10) := rfl
theorem i_L_occurrences_10 : aq_T 239 10 = some (aq_go 17) := rfl
theorem i_L_occurrences_17 : aq_T 239 17 = some (aq_push (.int (0)) 18) := rfl
theorem i_L_occurrences_18 : aq_T 239 18 = some (aq_ret 0) := rfl
theorem i_L_addPattern_0 : aq_T 240 0 = some (aq_ld 4 2 1) := rfl
theorem i_L_addPattern_1 : aq_T 240 1 = some (aq_push (.int (0)) 2) := rfl
theorem i_L_addPattern_2 : aq_T 240 2 = some (aq_ld 4 0 3) := rfl
theorem i_L_addPattern_3 : aq_T 240 3 = some (aq_ld 0 1 4) := rfl
theorem i_L_addPattern_4 : aq_T 240 4 = some (aq_callh 95 2 (some 6) [("java/lang/IllegalArgumentException", 1), ("java/lang/IllegalStateException", 2)] 7) := rfl
theorem i_L_addPattern_7 : aq_T 240 7 = some (aq_ar af_i2l 8) := rfl
theorem i_L_addPattern_8 : aq_T 240 8 = some (aq_stl 9) := rfl
theorem i_L_addPattern_9 : aq_T 240 9 = some (aq_go 18) := rfl
theorem i_L_addPattern_18 : aq_T 240 18 = some (aq_push (.int (0)) 19) := rfl
theorem i_L_addPattern_19 : aq_T 240 19 = some (aq_ret 0) := rfl
theorem i_L_removePattern_0 : aq_T 241 0 = some (aq_ld 4 2 1) := rfl
theorem i_L_removePattern_1 : aq_T 241 1 = some (aq_push (.int (0)) 2) := rfl
theorem i_L_removePattern_2 : aq_T 241 2 = some (aq_ld 4 0 3) := rfl
theorem i_L_removePattern_3 : aq_T 241 3 = some (aq_ld 0 1 4) := rfl
theorem i_L_removePattern_4 : aq_T 241 4 = some (aq_callh 96 2 (some 6) [("java/lang/IndexOutOfBoundsException", 1)] 7) := rfl
theorem i_L_removePattern_7 : aq_T 241 7 = some (aq_ar af_i2l 8) := rfl
theorem i_L_removePattern_8 : aq_T 241 8 = some (aq_stl 9) := rfl
theorem i_L_removePattern_9 : aq_T 241 9 = some (aq_go 15) := rfl
theorem i_L_removePattern_15 : aq_T 241 15 = some (aq_push (.int (0)) 16) := rfl
theorem i_L_removePattern_16 : aq_T 241 16 = some (aq_ret 0) := rfl
theorem i_L_avoids_0 : aq_T 242 0 = some (aq_ld 4 2 1) := rfl
theorem i_L_avoids_1 : aq_T 242 1 = some (aq_push (.int (0)) 2) := rfl
theorem i_L_avoids_2 : aq_T 242 2 = some (aq_ld 4 0 3) := rfl
theorem i_L_avoids_3 : aq_T 242 3 = some (aq_ld 0 1 4) := rfl
theorem i_L_avoids_4 : aq_T 242 4 = some (aq_callh 98 2 (some 6) [("java/lang/IllegalArgumentException", 1)] 7) := rfl
theorem i_L_avoids_7 : aq_T 242 7 = some (aq_if ai_eq0 14 10) := rfl
theorem i_L_avoids_10 : aq_T 242 10 = some (aq_push (.long 1) 11) := rfl
theorem i_L_avoids_11 : aq_T 242 11 = some (aq_go 15) := rfl
theorem i_L_avoids_14 : aq_T 242 14 = some (aq_push (.long 0) 15) := rfl
theorem i_L_avoids_15 : aq_T 242 15 = some (aq_stl 16) := rfl
theorem i_L_avoids_16 : aq_T 242 16 = some (aq_go 22) := rfl
theorem i_L_avoids_22 : aq_T 242 22 = some (aq_push (.int (0)) 23) := rfl
theorem i_L_avoids_23 : aq_T 242 23 = some (aq_ret 0) := rfl
theorem i_L_longestAvoiding_0 : aq_T 243 0 = some (aq_ld 4 1 1) := rfl
theorem i_L_longestAvoiding_1 : aq_T 243 1 = some (aq_push (.int (0)) 2) := rfl
theorem i_L_longestAvoiding_2 : aq_T 243 2 = some (aq_ld 4 0 3) := rfl
theorem i_L_longestAvoiding_3 : aq_T 243 3 = some (aq_callh 101 1 (some 6) [("java/util/NoSuchElementException", 1)] 6) := rfl
theorem i_L_longestAvoiding_6 : aq_T 243 6 = some (aq_ar af_i2l 7) := rfl
theorem i_L_longestAvoiding_7 : aq_T 243 7 = some (aq_stl 8) := rfl
theorem i_L_longestAvoiding_8 : aq_T 243 8 = some (aq_go 14) := rfl
theorem i_L_longestAvoiding_14 : aq_T 243 14 = some (aq_push (.int (0)) 15) := rfl
theorem i_L_longestAvoiding_15 : aq_T 243 15 = some (aq_ret 0) := rfl
theorem i_L_countAvoiding_0 : aq_T 244 0 = some (aq_ld 4 2 1) := rfl
theorem i_L_countAvoiding_1 : aq_T 244 1 = some (aq_push (.int (0)) 2) := rfl
theorem i_L_countAvoiding_2 : aq_T 244 2 = some (aq_ld 4 0 3) := rfl
theorem i_L_countAvoiding_3 : aq_T 244 3 = some (aq_ld 0 1 4) := rfl
theorem i_L_countAvoiding_4 : aq_T 244 4 = some (aq_callh 102 2 (some 6) [("java/lang/IllegalArgumentException", 1)] 7) := rfl
theorem i_L_countAvoiding_7 : aq_T 244 7 = some (aq_stl 8) := rfl
theorem i_L_countAvoiding_8 : aq_T 244 8 = some (aq_go 14) := rfl
theorem i_L_countAvoiding_14 : aq_T 244 14 = some (aq_push (.int (0)) 15) := rfl
theorem i_L_countAvoiding_15 : aq_T 244 15 = some (aq_ret 0) := rfl
theorem i_L_avoidingCycle_0 : aq_T 245 0 = some (aq_ld 4 2 1) := rfl
theorem i_L_avoidingCycle_1 : aq_T 245 1 = some (aq_push (.int (0)) 2) := rfl
theorem i_L_avoidingCycle_2 : aq_T 245 2 = some (aq_ld 4 0 3) := rfl
theorem i_L_avoidingCycle_3 : aq_T 245 3 = some (aq_ld 0 1 4) := rfl
theorem i_L_avoidingCycle_4 : aq_T 245 4 = some (aq_callh 103 2 (some 6) [("java/lang/IllegalArgumentException", 1), ("java/util/NoSuchElementException", 2)] 7) := rfl
theorem i_L_avoidingCycle_7 : aq_T 245 7 = some (aq_ar af_i2l 8) := rfl
theorem i_L_avoidingCycle_8 : aq_T 245 8 = some (aq_stl 9) := rfl
theorem i_L_avoidingCycle_9 : aq_T 245 9 = some (aq_go 18) := rfl
theorem i_L_avoidingCycle_18 : aq_T 245 18 = some (aq_push (.int (0)) 19) := rfl
theorem i_L_avoidingCycle_19 : aq_T 245 19 = some (aq_ret 0) := rfl
theorem i_L_newRow_0 : aq_T 246 0 = some (aq_ld 4 4 2) := rfl
theorem i_L_newRow_2 : aq_T 246 2 = some (aq_push (.int (0)) 3) := rfl
theorem i_L_newRow_3 : aq_T 246 3 = some (aq_ld 4 0 4) := rfl
theorem i_L_newRow_4 : aq_T 246 4 = some (aq_ld 0 1 5) := rfl
theorem i_L_newRow_5 : aq_T 246 5 = some (aq_ld 0 2 6) := rfl
theorem i_L_newRow_6 : aq_T 246 6 = some (aq_ld 0 3 7) := rfl
theorem i_L_newRow_7 : aq_T 246 7 = some (aq_callh 104 4 (some 6) [("java/lang/IllegalArgumentException", 1)] 10) := rfl
theorem i_L_newRow_10 : aq_T 246 10 = some (aq_ar af_i2l 11) := rfl
theorem i_L_newRow_11 : aq_T 246 11 = some (aq_stl 12) := rfl
theorem i_L_newRow_12 : aq_T 246 12 = some (aq_go 19) := rfl
theorem i_L_newRow_19 : aq_T 246 19 = some (aq_push (.int (0)) 20) := rfl
theorem i_L_newRow_20 : aq_T 246 20 = some (aq_ret 0) := rfl
theorem i_L_fillDensities_0 : aq_T 247 0 = some (aq_ld 4 3 1) := rfl
theorem i_L_fillDensities_1 : aq_T 247 1 = some (aq_push (.int (0)) 2) := rfl
theorem i_L_fillDensities_2 : aq_T 247 2 = some (aq_ld 4 0 3) := rfl
theorem i_L_fillDensities_3 : aq_T 247 3 = some (aq_ld 0 1 4) := rfl
theorem i_L_fillDensities_4 : aq_T 247 4 = some (aq_ld 0 2 5) := rfl
theorem i_L_fillDensities_5 : aq_T 247 5 = some (aq_callh 105 3 (some 6) [("java/lang/IllegalArgumentException", 1), ("java/lang/IllegalStateException", 2)] 8) := rfl
theorem i_L_fillDensities_8 : aq_T 247 8 = some (aq_ar af_i2l 9) := rfl
theorem i_L_fillDensities_9 : aq_T 247 9 = some (aq_stl 10) := rfl
theorem i_L_fillDensities_10 : aq_T 247 10 = some (aq_go 21) := rfl
theorem i_L_fillDensities_21 : aq_T 247 21 = some (aq_push (.int (0)) 22) := rfl
theorem i_L_fillDensities_22 : aq_T 247 22 = some (aq_ret 0) := rfl
theorem i_L_takeRemainder_0 : aq_T 248 0 = some (aq_ld 4 4 2) := rfl
theorem i_L_takeRemainder_2 : aq_T 248 2 = some (aq_push (.int (0)) 3) := rfl
theorem i_L_takeRemainder_3 : aq_T 248 3 = some (aq_ld 4 0 4) := rfl
theorem i_L_takeRemainder_4 : aq_T 248 4 = some (aq_ld 0 1 5) := rfl
theorem i_L_takeRemainder_5 : aq_T 248 5 = some (aq_ld 0 2 6) := rfl
theorem i_L_takeRemainder_6 : aq_T 248 6 = some (aq_ld 0 3 7) := rfl
theorem i_L_takeRemainder_7 : aq_T 248 7 = some (aq_callh 106 4 (some 6) [("java/lang/IllegalArgumentException", 1), ("java/lang/IllegalStateException", 2), ("java/lang/IndexOutOfBoundsException", 3), ("java/lang/ArithmeticException", 4)] 10) := rfl
theorem i_L_takeRemainder_10 : aq_T 248 10 = some (aq_ar af_i2l 11) := rfl
theorem i_L_takeRemainder_11 : aq_T 248 11 = some (aq_stl 12) := rfl
theorem i_L_takeRemainder_12 : aq_T 248 12 = some (aq_go 31) := rfl
theorem i_L_takeRemainder_31 : aq_T 248 31 = some (aq_push (.int (0)) 32) := rfl
theorem i_L_takeRemainder_32 : aq_T 248 32 = some (aq_ret 0) := rfl
theorem i_L_elementBits_0 : aq_T 249 0 = some (aq_ld 4 3 1) := rfl
theorem i_L_elementBits_1 : aq_T 249 1 = some (aq_push (.int (0)) 2) := rfl
theorem i_L_elementBits_2 : aq_T 249 2 = some (aq_ld 4 0 3) := rfl
theorem i_L_elementBits_3 : aq_T 249 3 = some (aq_ld 0 1 4) := rfl
theorem i_L_elementBits_4 : aq_T 249 4 = some (aq_ld 0 2 5) := rfl
theorem i_L_elementBits_5 : aq_T 249 5 = some (aq_callh 107 3 (some 6) [("java/lang/IllegalArgumentException", 1), ("java/lang/IllegalStateException", 2), ("java/lang/IndexOutOfBoundsException", 3)] 8) := rfl
theorem i_L_elementBits_8 : aq_T 249 8 = some (aq_stl 9) := rfl
theorem i_L_elementBits_9 : aq_T 249 9 = some (aq_go 24) := rfl
theorem i_L_elementBits_24 : aq_T 249 24 = some (aq_push (.int (0)) 25) := rfl
theorem i_L_elementBits_25 : aq_T 249 25 = some (aq_ret 0) := rfl
theorem i_L_restoreSnapshot_0 : aq_T 250 0 = some (aq_ld 4 1 1) := rfl
theorem i_L_restoreSnapshot_1 : aq_T 250 1 = some (aq_push (.int (0)) 2) := rfl
theorem i_L_restoreSnapshot_2 : aq_T 250 2 = some (aq_ld 4 0 3) := rfl
theorem i_L_restoreSnapshot_3 : aq_T 250 3 = some (aq_callh 109 1 (some 6) [("java/lang/IllegalStateException", 1)] 6) := rfl
theorem i_L_restoreSnapshot_6 : aq_T 250 6 = some (aq_ar af_i2l 7) := rfl
theorem i_L_restoreSnapshot_7 : aq_T 250 7 = some (aq_stl 8) := rfl
theorem i_L_restoreSnapshot_8 : aq_T 250 8 = some (aq_go 14) := rfl
theorem i_L_restoreSnapshot_14 : aq_T 250 14 = some (aq_push (.int (0)) 15) := rfl
theorem i_L_restoreSnapshot_15 : aq_T 250 15 = some (aq_ret 0) := rfl
end
