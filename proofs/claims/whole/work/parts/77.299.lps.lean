/-! one turn of each loop (ours, printed by wip/gen/lps.py) -/
theorem ls_JA_fill_5 (N : Nat) (i1 : Int32) (i3 : Int32) (m0 : Nat) (n : Nat) : lp_JA_fill_5 N i1 i3 m0 (n + 1) = lb_JA_fill_5 N i1 i3 m0 (lp_JA_fill_5 N i1 i3 m0 n) := rfl
theorem lz_JA_fill_5 (N : Nat) (i1 : Int32) (i3 : Int32) (m0 : Nat) : lp_JA_fill_5 N i1 i3 m0 0 = fun _ _ => none := rfl
theorem ls_Co_tell_11 (N : Nat) (i2 : Int32) (i3 : Int32) (m1 : Nat) (m4 : Nat) (g_4 : (Nat → Int32)) (n : Nat) : lp_Co_tell_11 N i2 i3 m1 m4 g_4 (n + 1) = lb_Co_tell_11 N i2 i3 m1 m4 g_4 (lp_Co_tell_11 N i2 i3 m1 m4 g_4 n) := rfl
theorem lz_Co_tell_11 (N : Nat) (i2 : Int32) (i3 : Int32) (m1 : Nat) (m4 : Nat) (g_4 : (Nat → Int32)) : lp_Co_tell_11 N i2 i3 m1 m4 g_4 0 = fun _ _ => none := rfl
theorem ls_Co_tell_55 (N : Nat) (m1 : Nat) (g_1 : (Nat → Int32)) (m2 : Nat) (n : Nat) : lp_Co_tell_55 N m1 g_1 m2 (n + 1) = lb_Co_tell_55 N m1 g_1 m2 (lp_Co_tell_55 N m1 g_1 m2 n) := rfl
theorem lz_Co_tell_55 (N : Nat) (m1 : Nat) (g_1 : (Nat → Int32)) (m2 : Nat) : lp_Co_tell_55 N m1 g_1 m2 0 = fun _ _ => none := rfl
theorem ls_Co_tell_97 (N : Nat) (i2 : Int32) (i3 : Int32) (m2 : Nat) (m3 : Nat) (m4 : Nat) (g_4 : (Nat → Int32)) (n : Nat) : lp_Co_tell_97 N i2 i3 m2 m3 m4 g_4 (n + 1) = lb_Co_tell_97 N i2 i3 m2 m3 m4 g_4 (lp_Co_tell_97 N i2 i3 m2 m3 m4 g_4 n) := rfl
theorem lz_Co_tell_97 (N : Nat) (i2 : Int32) (i3 : Int32) (m2 : Nat) (m3 : Nat) (m4 : Nat) (g_4 : (Nat → Int32)) : lp_Co_tell_97 N i2 i3 m2 m3 m4 g_4 0 = fun _ _ _ => none := rfl
theorem ls_Un_init_40 (N : Nat) (m3 : Nat) (n : Nat) : lp_Un_init_40 N m3 (n + 1) = lb_Un_init_40 N m3 (lp_Un_init_40 N m3 n) := rfl
theorem lz_Un_init_40 (N : Nat) (m3 : Nat) : lp_Un_init_40 N m3 0 = fun _ _ => none := rfl
theorem ls_BW_put_25 (N : Nat)  (n : Nat) : lp_BW_put_25 N  (n + 1) = lb_BW_put_25 N  (lp_BW_put_25 N  n) := rfl
theorem lz_BW_put_25 (N : Nat)  : lp_BW_put_25 N  0 = fun _ _ _ _ _ => none := rfl
theorem ls_Fi_sameBytes_3 (N : Nat) (i1 : Int32) (i2 : Int32) (i3 : Int32) (m0 : Nat) (g_0 : (Nat → Int32)) (n : Nat) : lp_Fi_sameBytes_3 N i1 i2 i3 m0 g_0 (n + 1) = lb_Fi_sameBytes_3 N i1 i2 i3 m0 g_0 (lp_Fi_sameBytes_3 N i1 i2 i3 m0 g_0 n) := rfl
theorem lz_Fi_sameBytes_3 (N : Nat) (i1 : Int32) (i2 : Int32) (i3 : Int32) (m0 : Nat) (g_0 : (Nat → Int32)) : lp_Fi_sameBytes_3 N i1 i2 i3 m0 g_0 0 = fun _ => none := rfl
theorem ls_Fi_find_53 (N : Nat) (i3 : Int32) (i4 : Int32) (i5 : Int32) (m2 : Nat) (g_2 : (Nat → Int32)) (m3 : Nat) (g_3 : (Nat → Int32)) (n : Nat) : lp_Fi_find_53 N i3 i4 i5 m2 g_2 m3 g_3 (n + 1) = lb_Fi_find_53 N i3 i4 i5 m2 g_2 m3 g_3 (lp_Fi_find_53 N i3 i4 i5 m2 g_2 m3 g_3 n) := rfl
theorem lz_Fi_find_53 (N : Nat) (i3 : Int32) (i4 : Int32) (i5 : Int32) (m2 : Nat) (g_2 : (Nat → Int32)) (m3 : Nat) (g_3 : (Nat → Int32)) : lp_Fi_find_53 N i3 i4 i5 m2 g_2 m3 g_3 0 = fun _ _ _ _ => none := rfl
theorem ls_Pr_codeOf_p10_4 (N : Nat) (i0 : Int32) (n : Nat) : lp_Pr_codeOf_p10_4 N i0 (n + 1) = lb_Pr_codeOf_p10_4 N i0 (lp_Pr_codeOf_p10_4 N i0 n) := rfl
theorem lz_Pr_codeOf_p10_4 (N : Nat) (i0 : Int32) : lp_Pr_codeOf_p10_4 N i0 0 = fun _ _ => none := rfl
theorem ls_Pr_reversed_4 (N : Nat) (i0 : Int32) (i1 : Int32) (n : Nat) : lp_Pr_reversed_4 N i0 i1 (n + 1) = lb_Pr_reversed_4 N i0 i1 (lp_Pr_reversed_4 N i0 i1 n) := rfl
theorem lz_Pr_reversed_4 (N : Nat) (i0 : Int32) (i1 : Int32) : lp_Pr_reversed_4 N i0 i1 0 = fun _ _ => none := rfl
theorem ls_Pr_codeOf_p12_4 (N : Nat) (i0 : Int32) (n : Nat) : lp_Pr_codeOf_p12_4 N i0 (n + 1) = lb_Pr_codeOf_p12_4 N i0 (lp_Pr_codeOf_p12_4 N i0 n) := rfl
theorem lz_Pr_codeOf_p12_4 (N : Nat) (i0 : Int32) : lp_Pr_codeOf_p12_4 N i0 0 = fun _ _ => none := rfl
theorem ls_Fi_note_17 (N : Nat) (i5 : Int32) (m1 : Nat) (m2 : Nat) (m3 : Nat) (g_3 : (Nat → Int32)) (n : Nat) : lp_Fi_note_17 N i5 m1 m2 m3 g_3 (n + 1) = lb_Fi_note_17 N i5 m1 m2 m3 g_3 (lp_Fi_note_17 N i5 m1 m2 m3 g_3 n) := rfl
theorem lz_Fi_note_17 (N : Nat) (i5 : Int32) (m1 : Nat) (m2 : Nat) (m3 : Nat) (g_3 : (Nat → Int32)) : lp_Fi_note_17 N i5 m1 m2 m3 g_3 0 = fun _ _ _ => none := rfl
theorem ls_Row_adler32_6 (N : Nat) (y0_1 : Int32) (m1 : Nat) (g_1 : (Nat → Int32)) (n : Nat) : lp_Row_adler32_6 N y0_1 m1 g_1 (n + 1) = lb_Row_adler32_6 N y0_1 m1 g_1 (lp_Row_adler32_6 N y0_1 m1 g_1 n) := rfl
theorem lz_Row_adler32_6 (N : Nat) (y0_1 : Int32) (m1 : Nat) (g_1 : (Nat → Int32)) : lp_Row_adler32_6 N y0_1 m1 g_1 0 = fun _ _ _ => none := rfl
theorem ls_Pr_run_40 (N : Nat) (i3 : Int32) (m5 : Nat) (m6 : Nat) (m8 : Nat) (g_8 : (Nat → Int32)) (n : Nat) : lp_Pr_run_40 N i3 m5 m6 m8 g_8 (n + 1) = lb_Pr_run_40 N i3 m5 m6 m8 g_8 (lp_Pr_run_40 N i3 m5 m6 m8 g_8 n) := rfl
theorem lz_Pr_run_40 (N : Nat) (i3 : Int32) (m5 : Nat) (m6 : Nat) (m8 : Nat) (g_8 : (Nat → Int32)) : lp_Pr_run_40 N i3 m5 m6 m8 g_8 0 = fun _ _ _ _ _ _ _ _ _ _ _ _ => none := rfl
theorem ls_BR_take_4 (N : Nat) (i1 : Int32) (y0_1 : Int32) (m1 : Nat) (g_1 : (Nat → Int32)) (n : Nat) : lp_BR_take_4 N i1 y0_1 m1 g_1 (n + 1) = lb_BR_take_4 N i1 y0_1 m1 g_1 (lp_BR_take_4 N i1 y0_1 m1 g_1 n) := rfl
theorem lz_BR_take_4 (N : Nat) (i1 : Int32) (y0_1 : Int32) (m1 : Nat) (g_1 : (Nat → Int32)) : lp_BR_take_4 N i1 y0_1 m1 g_1 0 = fun _ _ _ => none := rfl
theorem ls_Un_readStored_51 (N : Nat) (i2 : Int32) (y1_1 : Int32) (m2 : Nat) (g_2 : (Nat → Int32)) (n : Nat) : lp_Un_readStored_51 N i2 y1_1 m2 g_2 (n + 1) = lb_Un_readStored_51 N i2 y1_1 m2 g_2 (lp_Un_readStored_51 N i2 y1_1 m2 g_2 n) := rfl
theorem lz_Un_readStored_51 (N : Nat) (i2 : Int32) (y1_1 : Int32) (m2 : Nat) (g_2 : (Nat → Int32)) : lp_Un_readStored_51 N i2 y1_1 m2 g_2 0 = fun _ _ _ _ _ _ => none := rfl
theorem ls_Co_next_10 (N : Nat) (m1 : Nat) (g_1 : (Nat → Int32)) (y3_1 : Int32) (m4 : Nat) (g_4 : (Nat → Int32)) (n : Nat) : lp_Co_next_10 N m1 g_1 y3_1 m4 g_4 (n + 1) = lb_Co_next_10 N m1 g_1 y3_1 m4 g_4 (lp_Co_next_10 N m1 g_1 y3_1 m4 g_4 n) := rfl
theorem lz_Co_next_10 (N : Nat) (m1 : Nat) (g_1 : (Nat → Int32)) (y3_1 : Int32) (m4 : Nat) (g_4 : (Nat → Int32)) : lp_Co_next_10 N m1 g_1 y3_1 m4 g_4 0 = fun _ _ _ _ _ _ => none := rfl
theorem ls_Un_readPair_104 (N : Nat) (i4 : Int32) (i6 : Int32) (n : Nat) : lp_Un_readPair_104 N i4 i6 (n + 1) = lb_Un_readPair_104 N i4 i6 (lp_Un_readPair_104 N i4 i6 n) := rfl
theorem lz_Un_readPair_104 (N : Nat) (i4 : Int32) (i6 : Int32) : lp_Un_readPair_104 N i4 i6 0 = fun _ _ _ _ => none := rfl
theorem ls_Un_readCoded_3 (N : Nat) (y1_1 : Int32) (m2 : Nat) (g_2 : (Nat → Int32)) (m4 : Nat) (g_4 : (Nat → Int32)) (m5 : Nat) (g_5 : (Nat → Int32)) (m7 : Nat) (g_7 : (Nat → Int32)) (m8 : Nat) (g_8 : (Nat → Int32)) (n : Nat) : lp_Un_readCoded_3 N y1_1 m2 g_2 m4 g_4 m5 g_5 m7 g_7 m8 g_8 (n + 1) = lb_Un_readCoded_3 N y1_1 m2 g_2 m4 g_4 m5 g_5 m7 g_7 m8 g_8 (lp_Un_readCoded_3 N y1_1 m2 g_2 m4 g_4 m5 g_5 m7 g_7 m8 g_8 n) := rfl
theorem lz_Un_readCoded_3 (N : Nat) (y1_1 : Int32) (m2 : Nat) (g_2 : (Nat → Int32)) (m4 : Nat) (g_4 : (Nat → Int32)) (m5 : Nat) (g_5 : (Nat → Int32)) (m7 : Nat) (g_7 : (Nat → Int32)) (m8 : Nat) (g_8 : (Nat → Int32)) : lp_Un_readCoded_3 N y1_1 m2 g_2 m4 g_4 m5 g_5 m7 g_7 m8 g_8 0 = fun _ _ _ _ _ _ => none := rfl
theorem ls_Co_isFull_5 (N : Nat) (m1 : Nat) (g_1 : (Nat → Int32)) (n : Nat) : lp_Co_isFull_5 N m1 g_1 (n + 1) = lb_Co_isFull_5 N m1 g_1 (lp_Co_isFull_5 N m1 g_1 n) := rfl
theorem lz_Co_isFull_5 (N : Nat) (m1 : Nat) (g_1 : (Nat → Int32)) : lp_Co_isFull_5 N m1 g_1 0 = fun _ _ => none := rfl
theorem ls_Un_readLengths_96 (N : Nat) (i5 : Int32) (i6 : Int32) (m3 : Nat) (n : Nat) : lp_Un_readLengths_96 N i5 i6 m3 (n + 1) = lb_Un_readLengths_96 N i5 i6 m3 (lp_Un_readLengths_96 N i5 i6 m3 n) := rfl
theorem lz_Un_readLengths_96 (N : Nat) (i5 : Int32) (i6 : Int32) (m3 : Nat) : lp_Un_readLengths_96 N i5 i6 m3 0 = fun _ _ => none := rfl
theorem ls_Un_readLengths_4 (N : Nat) (i1 : Int32) (y1_1 : Int32) (m2 : Nat) (g_2 : (Nat → Int32)) (m3 : Nat) (m5 : Nat) (g_5 : (Nat → Int32)) (m6 : Nat) (g_6 : (Nat → Int32)) (n : Nat) : lp_Un_readLengths_4 N i1 y1_1 m2 g_2 m3 m5 g_5 m6 g_6 (n + 1) = lb_Un_readLengths_4 N i1 y1_1 m2 g_2 m3 m5 g_5 m6 g_6 (lp_Un_readLengths_4 N i1 y1_1 m2 g_2 m3 m5 g_5 m6 g_6 n) := rfl
theorem lz_Un_readLengths_4 (N : Nat) (i1 : Int32) (y1_1 : Int32) (m2 : Nat) (g_2 : (Nat → Int32)) (m3 : Nat) (m5 : Nat) (g_5 : (Nat → Int32)) (m6 : Nat) (g_6 : (Nat → Int32)) : lp_Un_readLengths_4 N i1 y1_1 m2 g_2 m3 m5 g_5 m6 g_6 0 = fun _ _ _ _ _ => none := rfl
theorem ls_Co_isScant_4 (N : Nat) (m1 : Nat) (g_1 : (Nat → Int32)) (n : Nat) : lp_Co_isScant_4 N m1 g_1 (n + 1) = lb_Co_isScant_4 N m1 g_1 (lp_Co_isScant_4 N m1 g_1 n) := rfl
theorem lz_Co_isScant_4 (N : Nat) (m1 : Nat) (g_1 : (Nat → Int32)) : lp_Co_isScant_4 N m1 g_1 0 = fun _ _ => none := rfl
theorem ls_Un_readCodes_61 (N : Nat) (i3 : Int32) (y1_1 : Int32) (m2 : Nat) (g_2 : (Nat → Int32)) (m3 : Nat) (n : Nat) : lp_Un_readCodes_61 N i3 y1_1 m2 g_2 m3 (n + 1) = lb_Un_readCodes_61 N i3 y1_1 m2 g_2 m3 (lp_Un_readCodes_61 N i3 y1_1 m2 g_2 m3 n) := rfl
theorem lz_Un_readCodes_61 (N : Nat) (i3 : Int32) (y1_1 : Int32) (m2 : Nat) (g_2 : (Nat → Int32)) (m3 : Nat) : lp_Un_readCodes_61 N i3 y1_1 m2 g_2 m3 0 = fun _ _ _ _ => none := rfl
theorem ls_BR_takeNumber_4 (N : Nat) (y0_1 : Int32) (m1 : Nat) (g_1 : (Nat → Int32)) (n : Nat) : lp_BR_takeNumber_4 N y0_1 m1 g_1 (n + 1) = lb_BR_takeNumber_4 N y0_1 m1 g_1 (lp_BR_takeNumber_4 N y0_1 m1 g_1 n) := rfl
theorem lz_BR_takeNumber_4 (N : Nat) (y0_1 : Int32) (m1 : Nat) (g_1 : (Nat → Int32)) : lp_BR_takeNumber_4 N y0_1 m1 g_1 0 = fun _ _ _ _ => none := rfl
theorem ls_Un_read_37 (N : Nat) (y1_1 : Int32) (m2 : Nat) (g_2 : (Nat → Int32)) (m3 : Nat) (m5 : Nat) (g_5 : (Nat → Int32)) (m6 : Nat) (g_6 : (Nat → Int32)) (m8 : Nat) (g_8 : (Nat → Int32)) (m9 : Nat) (g_9 : (Nat → Int32)) (m11 : Nat) (m12 : Nat) (m13 : Nat) (m15 : Nat) (m16 : Nat) (m17 : Nat) (m19 : Nat) (m20 : Nat) (m21 : Nat) (n : Nat) : lp_Un_read_37 N y1_1 m2 g_2 m3 m5 g_5 m6 g_6 m8 g_8 m9 g_9 m11 m12 m13 m15 m16 m17 m19 m20 m21 (n + 1) = lb_Un_read_37 N y1_1 m2 g_2 m3 m5 g_5 m6 g_6 m8 g_8 m9 g_9 m11 m12 m13 m15 m16 m17 m19 m20 m21 (lp_Un_read_37 N y1_1 m2 g_2 m3 m5 g_5 m6 g_6 m8 g_8 m9 g_9 m11 m12 m13 m15 m16 m17 m19 m20 m21 n) := rfl
theorem lz_Un_read_37 (N : Nat) (y1_1 : Int32) (m2 : Nat) (g_2 : (Nat → Int32)) (m3 : Nat) (m5 : Nat) (g_5 : (Nat → Int32)) (m6 : Nat) (g_6 : (Nat → Int32)) (m8 : Nat) (g_8 : (Nat → Int32)) (m9 : Nat) (g_9 : (Nat → Int32)) (m11 : Nat) (m12 : Nat) (m13 : Nat) (m15 : Nat) (m16 : Nat) (m17 : Nat) (m19 : Nat) (m20 : Nat) (m21 : Nat) : lp_Un_read_37 N y1_1 m2 g_2 m3 m5 g_5 m6 g_6 m8 g_8 m9 g_9 m11 m12 m13 m15 m16 m17 m19 m20 m21 0 = fun _ _ _ _ _ _ _ _ _ _ _ _ _ _ _ _ _ _ _ => none := rfl
theorem ls_Sha_fillWords_16 (N : Nat) (i2 : Int32) (i3 : Int32) (i4 : Int32) (y2_1 : Int32) (m3 : Nat) (g_3 : (Nat → Int32)) (n : Nat) : lp_Sha_fillWords_16 N i2 i3 i4 y2_1 m3 g_3 (n + 1) = lb_Sha_fillWords_16 N i2 i3 i4 y2_1 m3 g_3 (lp_Sha_fillWords_16 N i2 i3 i4 y2_1 m3 g_3 n) := rfl
theorem lz_Sha_fillWords_16 (N : Nat) (i2 : Int32) (i3 : Int32) (i4 : Int32) (y2_1 : Int32) (m3 : Nat) (g_3 : (Nat → Int32)) : lp_Sha_fillWords_16 N i2 i3 i4 y2_1 m3 g_3 0 = fun _ _ => none := rfl
theorem ls_Sha_fillWords_3 (N : Nat) (i2 : Int32) (i3 : Int32) (m1 : Nat) (y2_1 : Int32) (m3 : Nat) (g_3 : (Nat → Int32)) (n : Nat) : lp_Sha_fillWords_3 N i2 i3 m1 y2_1 m3 g_3 (n + 1) = lb_Sha_fillWords_3 N i2 i3 m1 y2_1 m3 g_3 (lp_Sha_fillWords_3 N i2 i3 m1 y2_1 m3 g_3 n) := rfl
theorem lz_Sha_fillWords_3 (N : Nat) (i2 : Int32) (i3 : Int32) (m1 : Nat) (y2_1 : Int32) (m3 : Nat) (g_3 : (Nat → Int32)) : lp_Sha_fillWords_3 N i2 i3 m1 y2_1 m3 g_3 0 = fun _ _ => none := rfl
theorem ls_Sha_fillWords_69 (N : Nat) (m1 : Nat) (n : Nat) : lp_Sha_fillWords_69 N m1 (n + 1) = lb_Sha_fillWords_69 N m1 (lp_Sha_fillWords_69 N m1 n) := rfl
theorem lz_Sha_fillWords_69 (N : Nat) (m1 : Nat) : lp_Sha_fillWords_69 N m1 0 = fun _ _ => none := rfl
theorem ls_Sha_mixBlock_40 (N : Nat) (m1 : Nat) (g_1 : (Nat → Int32)) (n : Nat) : lp_Sha_mixBlock_40 N m1 g_1 (n + 1) = lb_Sha_mixBlock_40 N m1 g_1 (lp_Sha_mixBlock_40 N m1 g_1 n) := rfl
theorem lz_Sha_mixBlock_40 (N : Nat) (m1 : Nat) (g_1 : (Nat → Int32)) : lp_Sha_mixBlock_40 N m1 g_1 0 = fun _ _ _ _ _ _ => none := rfl
theorem ls_Sha_run_58 (N : Nat) (i2 : Int32) (m1 : Nat) (m2 : Nat) (y3_1 : Int32) (m4 : Nat) (g_4 : (Nat → Int32)) (n : Nat) : lp_Sha_run_58 N i2 m1 m2 y3_1 m4 g_4 (n + 1) = lb_Sha_run_58 N i2 m1 m2 y3_1 m4 g_4 (lp_Sha_run_58 N i2 m1 m2 y3_1 m4 g_4 n) := rfl
theorem lz_Sha_run_58 (N : Nat) (i2 : Int32) (m1 : Nat) (m2 : Nat) (y3_1 : Int32) (m4 : Nat) (g_4 : (Nat → Int32)) : lp_Sha_run_58 N i2 m1 m2 y3_1 m4 g_4 0 = fun _ _ _ => none := rfl
theorem ls_Pr_codeOf_4 (N : Nat) (i0 : Int32) (m0 : Nat) (g_0 : (Nat → Int32)) (n : Nat) : lp_Pr_codeOf_4 N i0 m0 g_0 (n + 1) = lb_Pr_codeOf_4 N i0 m0 g_0 (lp_Pr_codeOf_4 N i0 m0 g_0 n) := rfl
theorem lz_Pr_codeOf_4 (N : Nat) (i0 : Int32) (m0 : Nat) (g_0 : (Nat → Int32)) : lp_Pr_codeOf_4 N i0 m0 g_0 0 = fun _ _ => none := rfl
theorem ls_Mo_feed_26 (N : Nat) (i1 : Int32) (i2 : Int32) (i3 : Int32) (i4 : Int32) (i5 : Int32) (m1 : Nat) (n : Nat) : lp_Mo_feed_26 N i1 i2 i3 i4 i5 m1 (n + 1) = lb_Mo_feed_26 N i1 i2 i3 i4 i5 m1 (lp_Mo_feed_26 N i1 i2 i3 i4 i5 m1 n) := rfl
theorem lz_Mo_feed_26 (N : Nat) (i1 : Int32) (i2 : Int32) (i3 : Int32) (i4 : Int32) (i5 : Int32) (m1 : Nat) : lp_Mo_feed_26 N i1 i2 i3 i4 i5 m1 0 = fun _ _ _ => none := rfl
theorem ls_Mo_putCode_4 (N : Nat) (i1 : Int32) (m1 : Nat) (n : Nat) : lp_Mo_putCode_4 N i1 m1 (n + 1) = lb_Mo_putCode_4 N i1 m1 (lp_Mo_putCode_4 N i1 m1 n) := rfl
theorem lz_Mo_putCode_4 (N : Nat) (i1 : Int32) (m1 : Nat) : lp_Mo_putCode_4 N i1 m1 0 = fun _ _ _ => none := rfl
theorem ls_Mo_putNumber_2 (N : Nat) (i1 : Int32) (i2 : Int32) (m1 : Nat) (n : Nat) : lp_Mo_putNumber_2 N i1 i2 m1 (n + 1) = lb_Mo_putNumber_2 N i1 i2 m1 (lp_Mo_putNumber_2 N i1 i2 m1 n) := rfl
theorem lz_Mo_putNumber_2 (N : Nat) (i1 : Int32) (i2 : Int32) (m1 : Nat) : lp_Mo_putNumber_2 N i1 i2 m1 0 = fun _ _ _ => none := rfl
theorem ls_Mo_lengthBase_6 (N : Nat) (i0 : Int32) (n : Nat) : lp_Mo_lengthBase_6 N i0 (n + 1) = lb_Mo_lengthBase_6 N i0 (lp_Mo_lengthBase_6 N i0 n) := rfl
theorem lz_Mo_lengthBase_6 (N : Nat) (i0 : Int32) : lp_Mo_lengthBase_6 N i0 0 = fun _ _ => none := rfl
theorem ls_Mo_distanceBase_4 (N : Nat) (i0 : Int32) (n : Nat) : lp_Mo_distanceBase_4 N i0 (n + 1) = lb_Mo_distanceBase_4 N i0 (lp_Mo_distanceBase_4 N i0 n) := rfl
theorem lz_Mo_distanceBase_4 (N : Nat) (i0 : Int32) : lp_Mo_distanceBase_4 N i0 0 = fun _ _ => none := rfl
theorem ls_Mo_putPair_4 (N : Nat) (i1 : Int32) (n : Nat) : lp_Mo_putPair_4 N i1 (n + 1) = lb_Mo_putPair_4 N i1 (lp_Mo_putPair_4 N i1 n) := rfl
theorem lz_Mo_putPair_4 (N : Nat) (i1 : Int32) : lp_Mo_putPair_4 N i1 0 = fun _ => none := rfl
theorem ls_Mo_putPair_49 (N : Nat) (i2 : Int32) (n : Nat) : lp_Mo_putPair_49 N i2 (n + 1) = lb_Mo_putPair_49 N i2 (lp_Mo_putPair_49 N i2 n) := rfl
theorem lz_Mo_putPair_49 (N : Nat) (i2 : Int32) : lp_Mo_putPair_49 N i2 0 = fun _ => none := rfl
theorem ls_Mo_common_2 (N : Nat) (i1 : Int32) (i2 : Int32) (y0_3 : Int32) (m1 : Nat) (g_1 : (Nat → Int32)) (n : Nat) : lp_Mo_common_2 N i1 i2 y0_3 m1 g_1 (n + 1) = lb_Mo_common_2 N i1 i2 y0_3 m1 g_1 (lp_Mo_common_2 N i1 i2 y0_3 m1 g_1 n) := rfl
theorem lz_Mo_common_2 (N : Nat) (i1 : Int32) (i2 : Int32) (y0_3 : Int32) (m1 : Nat) (g_1 : (Nat → Int32)) : lp_Mo_common_2 N i1 i2 y0_3 m1 g_1 0 = fun _ => none := rfl
theorem ls_Mo_adler_8 (N : Nat) (i2 : Int32) (m0 : Nat) (g_0 : (Nat → Int32)) (n : Nat) : lp_Mo_adler_8 N i2 m0 g_0 (n + 1) = lb_Mo_adler_8 N i2 m0 g_0 (lp_Mo_adler_8 N i2 m0 g_0 n) := rfl
theorem lz_Mo_adler_8 (N : Nat) (i2 : Int32) (m0 : Nat) (g_0 : (Nat → Int32)) : lp_Mo_adler_8 N i2 m0 g_0 0 = fun _ _ _ => none := rfl
theorem ls_Mo_press_58 (N : Nat) (i1 : Int32) (y0_3 : Int32) (m1 : Nat) (g_1 : (Nat → Int32)) (n : Nat) : lp_Mo_press_58 N i1 y0_3 m1 g_1 (n + 1) = lb_Mo_press_58 N i1 y0_3 m1 g_1 (lp_Mo_press_58 N i1 y0_3 m1 g_1 n) := rfl
theorem lz_Mo_press_58 (N : Nat) (i1 : Int32) (y0_3 : Int32) (m1 : Nat) (g_1 : (Nat → Int32)) : lp_Mo_press_58 N i1 y0_3 m1 g_1 0 = fun _ _ _ => none := rfl
theorem ls_Mo_press_43 (N : Nat) (y0_3 : Int32) (m1 : Nat) (g_1 : (Nat → Int32)) (m2 : Nat) (n : Nat) : lp_Mo_press_43 N y0_3 m1 g_1 m2 (n + 1) = lb_Mo_press_43 N y0_3 m1 g_1 m2 (lp_Mo_press_43 N y0_3 m1 g_1 m2 n) := rfl
theorem lz_Mo_press_43 (N : Nat) (y0_3 : Int32) (m1 : Nat) (g_1 : (Nat → Int32)) (m2 : Nat) : lp_Mo_press_43 N y0_3 m1 g_1 m2 0 = fun _ _ _ _ _ => none := rfl
theorem ls_Mo_press_244 (N : Nat) (i2 : Int32) (m2 : Nat) (n : Nat) : lp_Mo_press_244 N i2 m2 (n + 1) = lb_Mo_press_244 N i2 m2 (lp_Mo_press_244 N i2 m2 n) := rfl
theorem lz_Mo_press_244 (N : Nat) (i2 : Int32) (m2 : Nat) : lp_Mo_press_244 N i2 m2 0 = fun _ _ _ => none := rfl
theorem ls_Mo_number_4 (N : Nat) (i1 : Int32) (y0_3 : Int32) (m1 : Nat) (g_1 : (Nat → Int32)) (n : Nat) : lp_Mo_number_4 N i1 y0_3 m1 g_1 (n + 1) = lb_Mo_number_4 N i1 y0_3 m1 g_1 (lp_Mo_number_4 N i1 y0_3 m1 g_1 n) := rfl
theorem lz_Mo_number_4 (N : Nat) (i1 : Int32) (y0_3 : Int32) (m1 : Nat) (g_1 : (Nat → Int32)) : lp_Mo_number_4 N i1 y0_3 m1 g_1 0 = fun _ _ _ _ => none := rfl
theorem ls_Mo_assign_2 (N : Nat) (m3 : Nat) (n : Nat) : lp_Mo_assign_2 N m3 (n + 1) = lb_Mo_assign_2 N m3 (lp_Mo_assign_2 N m3 n) := rfl
theorem lz_Mo_assign_2 (N : Nat) (m3 : Nat) : lp_Mo_assign_2 N m3 0 = fun _ _ => none := rfl
theorem ls_Mo_assign_23 (N : Nat) (i1 : Int32) (i2 : Int32) (m1 : Nat) (g_1 : (Nat → Int32)) (m3 : Nat) (n : Nat) : lp_Mo_assign_23 N i1 i2 m1 g_1 m3 (n + 1) = lb_Mo_assign_23 N i1 i2 m1 g_1 m3 (lp_Mo_assign_23 N i1 i2 m1 g_1 m3 n) := rfl
theorem lz_Mo_assign_23 (N : Nat) (i1 : Int32) (i2 : Int32) (m1 : Nat) (g_1 : (Nat → Int32)) (m3 : Nat) : lp_Mo_assign_23 N i1 i2 m1 g_1 m3 0 = fun _ _ => none := rfl
theorem ls_Mo_assign_67 (N : Nat) (m3 : Nat) (g_3 : (Nat → Int32)) (m4 : Nat) (n : Nat) : lp_Mo_assign_67 N m3 g_3 m4 (n + 1) = lb_Mo_assign_67 N m3 g_3 m4 (lp_Mo_assign_67 N m3 g_3 m4 n) := rfl
theorem lz_Mo_assign_67 (N : Nat) (m3 : Nat) (g_3 : (Nat → Int32)) (m4 : Nat) : lp_Mo_assign_67 N m3 g_3 m4 0 = fun _ _ _ => none := rfl
theorem ls_Mo_assign_105 (N : Nat) (i1 : Int32) (i2 : Int32) (m1 : Nat) (g_1 : (Nat → Int32)) (m2 : Nat) (m4 : Nat) (n : Nat) : lp_Mo_assign_105 N i1 i2 m1 g_1 m2 m4 (n + 1) = lb_Mo_assign_105 N i1 i2 m1 g_1 m2 m4 (lp_Mo_assign_105 N i1 i2 m1 g_1 m2 m4 n) := rfl
theorem lz_Mo_assign_105 (N : Nat) (i1 : Int32) (i2 : Int32) (m1 : Nat) (g_1 : (Nat → Int32)) (m2 : Nat) (m4 : Nat) : lp_Mo_assign_105 N i1 i2 m1 g_1 m2 m4 0 = fun _ _ _ => none := rfl
theorem ls_Mo_fill_5 (N : Nat) (i1 : Int32) (i2 : Int32) (m1 : Nat) (g_1 : (Nat → Int32)) (n : Nat) : lp_Mo_fill_5 N i1 i2 m1 g_1 (n + 1) = lb_Mo_fill_5 N i1 i2 m1 g_1 (lp_Mo_fill_5 N i1 i2 m1 g_1 n) := rfl
theorem lz_Mo_fill_5 (N : Nat) (i1 : Int32) (i2 : Int32) (m1 : Nat) (g_1 : (Nat → Int32)) : lp_Mo_fill_5 N i1 i2 m1 g_1 0 = fun _ _ => none := rfl
theorem ls_Mo_sign_31 (N : Nat) (i1 : Int32) (i2 : Int32) (i3 : Int32) (i4 : Int32) (y0_16 : Int32) (m2 : Nat) (g_2 : (Nat → Int32)) (m3 : Nat) (g_3 : (Nat → Int32)) (n : Nat) : lp_Mo_sign_31 N i1 i2 i3 i4 y0_16 m2 g_2 m3 g_3 (n + 1) = lb_Mo_sign_31 N i1 i2 i3 i4 y0_16 m2 g_2 m3 g_3 (lp_Mo_sign_31 N i1 i2 i3 i4 y0_16 m2 g_2 m3 g_3 n) := rfl
theorem lz_Mo_sign_31 (N : Nat) (i1 : Int32) (i2 : Int32) (i3 : Int32) (i4 : Int32) (y0_16 : Int32) (m2 : Nat) (g_2 : (Nat → Int32)) (m3 : Nat) (g_3 : (Nat → Int32)) : lp_Mo_sign_31 N i1 i2 i3 i4 y0_16 m2 g_2 m3 g_3 0 = fun _ => none := rfl
theorem ls_Mo_sign_5 (N : Nat) (i1 : Int32) (i2 : Int32) (y0_3 : Int32) (m1 : Nat) (g_1 : (Nat → Int32)) (m2 : Nat) (g_2 : (Nat → Int32)) (m3 : Nat) (g_3 : (Nat → Int32)) (n : Nat) : lp_Mo_sign_5 N i1 i2 y0_3 m1 g_1 m2 g_2 m3 g_3 (n + 1) = lb_Mo_sign_5 N i1 i2 y0_3 m1 g_1 m2 g_2 m3 g_3 (lp_Mo_sign_5 N i1 i2 y0_3 m1 g_1 m2 g_2 m3 g_3 n) := rfl
theorem lz_Mo_sign_5 (N : Nat) (i1 : Int32) (i2 : Int32) (y0_3 : Int32) (m1 : Nat) (g_1 : (Nat → Int32)) (m2 : Nat) (g_2 : (Nat → Int32)) (m3 : Nat) (g_3 : (Nat → Int32)) : lp_Mo_sign_5 N i1 i2 y0_3 m1 g_1 m2 g_2 m3 g_3 0 = fun _ _ _ _ => none := rfl
theorem ls_Mo_pair_95 (N : Nat) (i2 : Int32) (i4 : Int32) (m2 : Nat) (n : Nat) : lp_Mo_pair_95 N i2 i4 m2 (n + 1) = lb_Mo_pair_95 N i2 i4 m2 (lp_Mo_pair_95 N i2 i4 m2 n) := rfl
theorem lz_Mo_pair_95 (N : Nat) (i2 : Int32) (i4 : Int32) (m2 : Nat) : lp_Mo_pair_95 N i2 i4 m2 0 = fun _ _ _ _ => none := rfl
theorem ls_Mo_signs_2 (N : Nat) (y0_3 : Int32) (m1 : Nat) (g_1 : (Nat → Int32)) (m2 : Nat) (m3 : Nat) (g_3 : (Nat → Int32)) (m4 : Nat) (g_4 : (Nat → Int32)) (n : Nat) : lp_Mo_signs_2 N y0_3 m1 g_1 m2 m3 g_3 m4 g_4 (n + 1) = lb_Mo_signs_2 N y0_3 m1 g_1 m2 m3 g_3 m4 g_4 (lp_Mo_signs_2 N y0_3 m1 g_1 m2 m3 g_3 m4 g_4 n) := rfl
theorem lz_Mo_signs_2 (N : Nat) (y0_3 : Int32) (m1 : Nat) (g_1 : (Nat → Int32)) (m2 : Nat) (m3 : Nat) (g_3 : (Nat → Int32)) (m4 : Nat) (g_4 : (Nat → Int32)) : lp_Mo_signs_2 N y0_3 m1 g_1 m2 m3 g_3 m4 g_4 0 = fun _ _ _ _ _ => none := rfl
theorem ls_Mo_fixed_2 (N : Nat) (m1 : Nat) (n : Nat) : lp_Mo_fixed_2 N m1 (n + 1) = lb_Mo_fixed_2 N m1 (lp_Mo_fixed_2 N m1 n) := rfl
theorem lz_Mo_fixed_2 (N : Nat) (m1 : Nat) : lp_Mo_fixed_2 N m1 0 = fun _ _ => none := rfl
theorem ls_Mo_fixed_61 (N : Nat) (m1 : Nat) (n : Nat) : lp_Mo_fixed_61 N m1 (n + 1) = lb_Mo_fixed_61 N m1 (lp_Mo_fixed_61 N m1 n) := rfl
theorem lz_Mo_fixed_61 (N : Nat) (m1 : Nat) : lp_Mo_fixed_61 N m1 0 = fun _ _ => none := rfl
theorem ls_Mo_stored_46 (N : Nat) (i1 : Int32) (y0_3 : Int32) (m1 : Nat) (g_1 : (Nat → Int32)) (m2 : Nat) (n : Nat) : lp_Mo_stored_46 N i1 y0_3 m1 g_1 m2 (n + 1) = lb_Mo_stored_46 N i1 y0_3 m1 g_1 m2 (lp_Mo_stored_46 N i1 y0_3 m1 g_1 m2 n) := rfl
theorem lz_Mo_stored_46 (N : Nat) (i1 : Int32) (y0_3 : Int32) (m1 : Nat) (g_1 : (Nat → Int32)) (m2 : Nat) : lp_Mo_stored_46 N i1 y0_3 m1 g_1 m2 0 = fun _ _ _ _ _ => none := rfl
theorem ls_Mo_table_47 (N : Nat) (i3 : Int32) (y0_3 : Int32) (m1 : Nat) (g_1 : (Nat → Int32)) (m2 : Nat) (n : Nat) : lp_Mo_table_47 N i3 y0_3 m1 g_1 m2 (n + 1) = lb_Mo_table_47 N i3 y0_3 m1 g_1 m2 (lp_Mo_table_47 N i3 y0_3 m1 g_1 m2 n) := rfl
theorem lz_Mo_table_47 (N : Nat) (i3 : Int32) (y0_3 : Int32) (m1 : Nat) (g_1 : (Nat → Int32)) (m2 : Nat) : lp_Mo_table_47 N i3 y0_3 m1 g_1 m2 0 = fun _ _ _ _ => none := rfl
theorem ls_Mo_table_252 (N : Nat) (i5 : Int32) (i6 : Int32) (y0_16 : Int32) (m4 : Nat) (n : Nat) : lp_Mo_table_252 N i5 i6 y0_16 m4 (n + 1) = lb_Mo_table_252 N i5 i6 y0_16 m4 (lp_Mo_table_252 N i5 i6 y0_16 m4 n) := rfl
theorem lz_Mo_table_252 (N : Nat) (i5 : Int32) (i6 : Int32) (y0_16 : Int32) (m4 : Nat) : lp_Mo_table_252 N i5 i6 y0_16 m4 0 = fun _ _ _ => none := rfl
theorem ls_Mo_table_120 (N : Nat) (i1 : Int32) (i2 : Int32) (y0_3 : Int32) (m1 : Nat) (g_1 : (Nat → Int32)) (m2 : Nat) (g_2 : (Nat → Int32)) (m3 : Nat) (g_3 : (Nat → Int32)) (m4 : Nat) (n : Nat) : lp_Mo_table_120 N i1 i2 y0_3 m1 g_1 m2 g_2 m3 g_3 m4 (n + 1) = lb_Mo_table_120 N i1 i2 y0_3 m1 g_1 m2 g_2 m3 g_3 m4 (lp_Mo_table_120 N i1 i2 y0_3 m1 g_1 m2 g_2 m3 g_3 m4 n) := rfl
theorem lz_Mo_table_120 (N : Nat) (i1 : Int32) (i2 : Int32) (y0_3 : Int32) (m1 : Nat) (g_1 : (Nat → Int32)) (m2 : Nat) (g_2 : (Nat → Int32)) (m3 : Nat) (g_3 : (Nat → Int32)) (m4 : Nat) : lp_Mo_table_120 N i1 i2 y0_3 m1 g_1 m2 g_2 m3 g_3 m4 0 = fun _ _ _ _ => none := rfl
theorem ls_Mo_table_308 (N : Nat) (i1 : Int32) (m2 : Nat) (m4 : Nat) (g_4 : (Nat → Int32)) (n : Nat) : lp_Mo_table_308 N i1 m2 m4 g_4 (n + 1) = lb_Mo_table_308 N i1 m2 m4 g_4 (lp_Mo_table_308 N i1 m2 m4 g_4 n) := rfl
theorem lz_Mo_table_308 (N : Nat) (i1 : Int32) (m2 : Nat) (m4 : Nat) (g_4 : (Nat → Int32)) : lp_Mo_table_308 N i1 m2 m4 g_4 0 = fun _ _ => none := rfl
theorem ls_Mo_table_349 (N : Nat) (i1 : Int32) (i2 : Int32) (m2 : Nat) (m4 : Nat) (g_4 : (Nat → Int32)) (n : Nat) : lp_Mo_table_349 N i1 i2 m2 m4 g_4 (n + 1) = lb_Mo_table_349 N i1 i2 m2 m4 g_4 (lp_Mo_table_349 N i1 i2 m2 m4 g_4 n) := rfl
theorem lz_Mo_table_349 (N : Nat) (i1 : Int32) (i2 : Int32) (m2 : Nat) (m4 : Nat) (g_4 : (Nat → Int32)) : lp_Mo_table_349 N i1 i2 m2 m4 g_4 0 = fun _ _ => none := rfl
theorem ls_Mo_table_438 (N : Nat) (m2 : Nat) (g_2 : (Nat → Int32)) (n : Nat) : lp_Mo_table_438 N m2 g_2 (n + 1) = lb_Mo_table_438 N m2 g_2 (lp_Mo_table_438 N m2 g_2 n) := rfl
theorem lz_Mo_table_438 (N : Nat) (m2 : Nat) (g_2 : (Nat → Int32)) : lp_Mo_table_438 N m2 g_2 0 = fun _ _ => none := rfl
theorem ls_Mo_open_101 (N : Nat) (y0_3 : Int32) (m1 : Nat) (g_1 : (Nat → Int32)) (m3 : Nat) (m4 : Nat) (m5 : Nat) (m6 : Nat) (m7 : Nat) (m8 : Nat) (n : Nat) : lp_Mo_open_101 N y0_3 m1 g_1 m3 m4 m5 m6 m7 m8 (n + 1) = lb_Mo_open_101 N y0_3 m1 g_1 m3 m4 m5 m6 m7 m8 (lp_Mo_open_101 N y0_3 m1 g_1 m3 m4 m5 m6 m7 m8 n) := rfl
theorem lz_Mo_open_101 (N : Nat) (y0_3 : Int32) (m1 : Nat) (g_1 : (Nat → Int32)) (m3 : Nat) (m4 : Nat) (m5 : Nat) (m6 : Nat) (m7 : Nat) (m8 : Nat) : lp_Mo_open_101 N y0_3 m1 g_1 m3 m4 m5 m6 m7 m8 0 = fun _ _ _ _ _ _ _ _ _ _ _ _ => none := rfl
theorem ls_Mo_open_161 (N : Nat) (y0_3 : Int32) (m1 : Nat) (g_1 : (Nat → Int32)) (n : Nat) : lp_Mo_open_161 N y0_3 m1 g_1 (n + 1) = lb_Mo_open_161 N y0_3 m1 g_1 (lp_Mo_open_161 N y0_3 m1 g_1 n) := rfl
theorem lz_Mo_open_161 (N : Nat) (y0_3 : Int32) (m1 : Nat) (g_1 : (Nat → Int32)) : lp_Mo_open_161 N y0_3 m1 g_1 0 = fun _ _ _ _ => none := rfl
theorem ls_Mo_open_244 (N : Nat) (y0_13 : Int32) (m2 : Nat) (m3 : Nat) (g_3 : (Nat → Int32)) (n : Nat) : lp_Mo_open_244 N y0_13 m2 m3 g_3 (n + 1) = lb_Mo_open_244 N y0_13 m2 m3 g_3 (lp_Mo_open_244 N y0_13 m2 m3 g_3 n) := rfl
theorem lz_Mo_open_244 (N : Nat) (y0_13 : Int32) (m2 : Nat) (m3 : Nat) (g_3 : (Nat → Int32)) : lp_Mo_open_244 N y0_13 m2 m3 g_3 0 = fun _ _ => none := rfl
theorem ls_Mo_turn_22 (N : Nat) (y0_4 : Int32) (m1 : Nat) (m2 : Nat) (g_2 : (Nat → Int32)) (n : Nat) : lp_Mo_turn_22 N y0_4 m1 m2 g_2 (n + 1) = lb_Mo_turn_22 N y0_4 m1 m2 g_2 (lp_Mo_turn_22 N y0_4 m1 m2 g_2 n) := rfl
theorem lz_Mo_turn_22 (N : Nat) (y0_4 : Int32) (m1 : Nat) (m2 : Nat) (g_2 : (Nat → Int32)) : lp_Mo_turn_22 N y0_4 m1 m2 g_2 0 = fun _ _ => none := rfl
theorem ls_Mo_chunk_2 (N : Nat) (i1 : Int32) (i2 : Int32) (y0_3 : Int32) (m1 : Nat) (g_1 : (Nat → Int32)) (m2 : Nat) (n : Nat) : lp_Mo_chunk_2 N i1 i2 y0_3 m1 g_1 m2 (n + 1) = lb_Mo_chunk_2 N i1 i2 y0_3 m1 g_1 m2 (lp_Mo_chunk_2 N i1 i2 y0_3 m1 g_1 m2 n) := rfl
theorem lz_Mo_chunk_2 (N : Nat) (i1 : Int32) (i2 : Int32) (y0_3 : Int32) (m1 : Nat) (g_1 : (Nat → Int32)) (m2 : Nat) : lp_Mo_chunk_2 N i1 i2 y0_3 m1 g_1 m2 0 = fun _ _ => none := rfl
theorem ls_Mo_chunk_81 (N : Nat) (m2 : Nat) (n : Nat) : lp_Mo_chunk_81 N m2 (n + 1) = lb_Mo_chunk_81 N m2 (lp_Mo_chunk_81 N m2 n) := rfl
theorem lz_Mo_chunk_81 (N : Nat) (m2 : Nat) : lp_Mo_chunk_81 N m2 0 = fun _ _ => none := rfl
theorem ls_Mo_chunk_183 (N : Nat) (m2 : Nat) (g_2 : (Nat → Int32)) (n : Nat) : lp_Mo_chunk_183 N m2 g_2 (n + 1) = lb_Mo_chunk_183 N m2 g_2 (lp_Mo_chunk_183 N m2 g_2 n) := rfl
theorem lz_Mo_chunk_183 (N : Nat) (m2 : Nat) (g_2 : (Nat → Int32)) : lp_Mo_chunk_183 N m2 g_2 0 = fun _ _ _ _ _ _ => none := rfl
theorem ls_Mo_hash_80 (N : Nat) (i2 : Int32) (y0_3 : Int32) (m1 : Nat) (g_1 : (Nat → Int32)) (m2 : Nat) (m3 : Nat) (n : Nat) : lp_Mo_hash_80 N i2 y0_3 m1 g_1 m2 m3 (n + 1) = lb_Mo_hash_80 N i2 y0_3 m1 g_1 m2 m3 (lp_Mo_hash_80 N i2 y0_3 m1 g_1 m2 m3 n) := rfl
theorem lz_Mo_hash_80 (N : Nat) (i2 : Int32) (y0_3 : Int32) (m1 : Nat) (g_1 : (Nat → Int32)) (m2 : Nat) (m3 : Nat) : lp_Mo_hash_80 N i2 y0_3 m1 g_1 m2 m3 0 = fun _ _ _ => none := rfl
