/-! THE CODE IS CHECKED, 2: method by method. -/
set_option maxRecDepth 20000 in
theorem zcd_0 : zCode 0 ∧ zbp 0 0 = 0 := ⟨zcode_of (B := [zB0_0]) rfl (by decide +kernel), rfl⟩
set_option maxRecDepth 20000 in
theorem zcd_1 : zCode 1 ∧ zbp 1 0 = 0 := ⟨zcode_of (B := [zB1_0, zB1_1, zB1_2]) rfl (by decide +kernel), rfl⟩
set_option maxRecDepth 20000 in
theorem zcd_2 : zCode 2 ∧ zbp 2 0 = 0 := ⟨zcode_of (B := [zB2_0]) rfl (by decide +kernel), rfl⟩
set_option maxRecDepth 20000 in
theorem zcd_3 : zCode 3 ∧ zbp 3 0 = 0 := ⟨zcode_of (B := [zB3_0, zB3_1]) rfl (by decide +kernel), rfl⟩
set_option maxRecDepth 20000 in
theorem zcd_4 : zCode 4 ∧ zbp 4 0 = 0 := ⟨zcode_of (B := [zB4_0, zB4_1, zB4_2, zB4_3, zB4_4]) rfl (by decide +kernel), rfl⟩
set_option maxRecDepth 20000 in
theorem zcd_5 : zCode 5 ∧ zbp 5 0 = 0 := ⟨zcode_of (B := [zB5_0, zB5_1, zB5_2]) rfl (by decide +kernel), rfl⟩
set_option maxRecDepth 20000 in
theorem zcd_6 : zCode 6 ∧ zbp 6 0 = 0 := ⟨zcode_of (B := [zB6_0]) rfl (by decide +kernel), rfl⟩
set_option maxRecDepth 20000 in
theorem zcd_7 : zCode 7 ∧ zbp 7 0 = 0 := ⟨zcode_of (B := [zB7_0]) rfl (by decide +kernel), rfl⟩
set_option maxRecDepth 20000 in
theorem zcd_8 : zCode 8 ∧ zbp 8 0 = 0 := ⟨zcode_of (B := [zB8_0, zB8_1]) rfl (by decide +kernel), rfl⟩
set_option maxRecDepth 20000 in
theorem zcd_9 : zCode 9 ∧ zbp 9 0 = 0 := ⟨zcode_of (B := [zB9_0, zB9_1]) rfl (by decide +kernel), rfl⟩
set_option maxRecDepth 20000 in
theorem zcd_10 : zCode 10 ∧ zbp 10 0 = 0 := ⟨zcode_of (B := [zB10_0, zB10_1, zB10_2, zB10_3, zB10_4, zB10_5, zB10_6]) rfl (by decide +kernel), rfl⟩
set_option maxRecDepth 20000 in
theorem zcd_11 : zCode 11 ∧ zbp 11 0 = 0 := ⟨zcode_of (B := [zB11_0]) rfl (by decide +kernel), rfl⟩
set_option maxRecDepth 20000 in
theorem zcd_12 : zCode 12 ∧ zbp 12 0 = 0 := ⟨zcode_of (B := [zB12_0, zB12_1, zB12_2]) rfl (by decide +kernel), rfl⟩
set_option maxRecDepth 20000 in
theorem zcd_13 : zCode 13 ∧ zbp 13 0 = 0 := ⟨zcode_of (B := [zB13_0, zB13_1, zB13_2]) rfl (by decide +kernel), rfl⟩
set_option maxRecDepth 20000 in
theorem zcd_14 : zCode 14 ∧ zbp 14 0 = 0 := ⟨zcode_of (B := [zB14_0, zB14_1]) rfl (by decide +kernel), rfl⟩
set_option maxRecDepth 20000 in
theorem zcd_15 : zCode 15 ∧ zbp 15 0 = 0 := ⟨zcode_of (B := [zB15_0]) rfl (by decide +kernel), rfl⟩
set_option maxRecDepth 20000 in
theorem zcd_16 : zCode 16 ∧ zbp 16 0 = 0 := ⟨zcode_of (B := [zB16_0]) rfl (by decide +kernel), rfl⟩
set_option maxRecDepth 20000 in
theorem zcd_17 : zCode 17 ∧ zbp 17 0 = 0 := ⟨zcode_of (B := [zB17_0]) rfl (by decide +kernel), rfl⟩
set_option maxRecDepth 20000 in
theorem zcd_18 : zCode 18 ∧ zbp 18 0 = 0 := ⟨zcode_of (B := [zB18_0]) rfl (by decide +kernel), rfl⟩
set_option maxRecDepth 20000 in
theorem zcd_19 : zCode 19 ∧ zbp 19 0 = 0 := ⟨zcode_of (B := [zB19_0]) rfl (by decide +kernel), rfl⟩
set_option maxRecDepth 20000 in
theorem zcd_20 : zCode 20 ∧ zbp 20 0 = 0 := ⟨zcode_of (B := [zB20_0]) rfl (by decide +kernel), rfl⟩
set_option maxRecDepth 20000 in
theorem zcd_21 : zCode 21 ∧ zbp 21 0 = 0 := ⟨zcode_of (B := [zB21_0, zB21_1, zB21_2, zB21_3, zB21_4, zB21_5, zB21_6, zB21_7, zB21_8, zB21_9, zB21_10, zB21_11]) rfl (by decide +kernel), rfl⟩
set_option maxRecDepth 20000 in
theorem zcd_22 : zCode 22 ∧ zbp 22 0 = 0 := ⟨zcode_of (B := [zB22_0]) rfl (by decide +kernel), rfl⟩
set_option maxRecDepth 20000 in
theorem zcd_23 : zCode 23 ∧ zbp 23 0 = 0 := ⟨zcode_of (B := [zB23_0]) rfl (by decide +kernel), rfl⟩
set_option maxRecDepth 20000 in
theorem zcd_24 : zCode 24 ∧ zbp 24 0 = 0 := ⟨zcode_of (B := [zB24_0]) rfl (by decide +kernel), rfl⟩
set_option maxRecDepth 20000 in
theorem zcd_25 : zCode 25 ∧ zbp 25 0 = 0 := ⟨zcode_of (B := [zB25_0, zB25_1, zB25_2, zB25_3, zB25_4, zB25_5, zB25_6, zB25_7, zB25_8, zB25_9]) rfl (by decide +kernel), rfl⟩
set_option maxRecDepth 20000 in
theorem zcd_26 : zCode 26 ∧ zbp 26 0 = 0 := ⟨zcode_of (B := [zB26_0, zB26_1, zB26_2, zB26_3, zB26_4, zB26_5, zB26_6]) rfl (by decide +kernel), rfl⟩
set_option maxRecDepth 20000 in
theorem zcd_27 : zCode 27 ∧ zbp 27 0 = 0 := ⟨zcode_of (B := [zB27_0, zB27_1, zB27_2, zB27_3]) rfl (by decide +kernel), rfl⟩
set_option maxRecDepth 20000 in
theorem zcd_28 : zCode 28 ∧ zbp 28 0 = 0 := ⟨zcode_of (B := [zB28_0, zB28_1, zB28_2, zB28_3]) rfl (by decide +kernel), rfl⟩
set_option maxRecDepth 20000 in
theorem zcd_29 : zCode 29 ∧ zbp 29 0 = 0 := ⟨zcode_of (B := [zB29_0, zB29_1, zB29_2]) rfl (by decide +kernel), rfl⟩
set_option maxRecDepth 20000 in
theorem zcd_30 : zCode 30 ∧ zbp 30 0 = 0 := ⟨zcode_of (B := [zB30_0, zB30_1, zB30_2, zB30_3, zB30_4, zB30_5, zB30_6, zB30_7]) rfl (by decide +kernel), rfl⟩
set_option maxRecDepth 20000 in
theorem zcd_31 : zCode 31 ∧ zbp 31 0 = 0 := ⟨zcode_of (B := [zB31_0, zB31_1, zB31_2, zB31_3, zB31_4, zB31_5, zB31_6]) rfl (by decide +kernel), rfl⟩
set_option maxRecDepth 20000 in
theorem zcd_32 : zCode 32 ∧ zbp 32 0 = 0 := ⟨zcode_of (B := [zB32_0, zB32_1, zB32_2]) rfl (by decide +kernel), rfl⟩
set_option maxRecDepth 20000 in
theorem zcd_33 : zCode 33 ∧ zbp 33 0 = 0 := ⟨zcode_of (B := [zB33_0]) rfl (by decide +kernel), rfl⟩
set_option maxRecDepth 20000 in
theorem zcd_34 : zCode 34 ∧ zbp 34 0 = 0 := ⟨zcode_of (B := [zB34_0, zB34_1, zB34_2, zB34_3, zB34_4]) rfl (by decide +kernel), rfl⟩
set_option maxRecDepth 20000 in
theorem zcd_35 : zCode 35 ∧ zbp 35 0 = 0 := ⟨zcode_of (B := [zB35_0]) rfl (by decide +kernel), rfl⟩
set_option maxRecDepth 20000 in
theorem zcd_36 : zCode 36 ∧ zbp 36 0 = 0 := ⟨zcode_of (B := [zB36_0]) rfl (by decide +kernel), rfl⟩
set_option maxRecDepth 20000 in
theorem zcd_37 : zCode 37 ∧ zbp 37 0 = 0 := ⟨zcode_of (B := [zB37_0]) rfl (by decide +kernel), rfl⟩
set_option maxRecDepth 20000 in
theorem zcd_38 : zCode 38 ∧ zbp 38 0 = 0 := ⟨zcode_of (B := [zB38_0]) rfl (by decide +kernel), rfl⟩
set_option maxRecDepth 20000 in
theorem zcd_39 : zCode 39 ∧ zbp 39 0 = 0 := ⟨zcode_of (B := [zB39_0]) rfl (by decide +kernel), rfl⟩
set_option maxRecDepth 20000 in
theorem zcd_40 : zCode 40 ∧ zbp 40 0 = 0 := ⟨zcode_of (B := [zB40_0, zB40_1]) rfl (by decide +kernel), rfl⟩
set_option maxRecDepth 20000 in
theorem zcd_41 : zCode 41 ∧ zbp 41 0 = 0 := ⟨zcode_of (B := [zB41_0, zB41_1, zB41_2, zB41_3, zB41_4]) rfl (by decide +kernel), rfl⟩
set_option maxRecDepth 20000 in
theorem zcd_42 : zCode 42 ∧ zbp 42 0 = 0 := ⟨zcode_of (B := [zB42_0]) rfl (by decide +kernel), rfl⟩
set_option maxRecDepth 20000 in
theorem zcd_43 : zCode 43 ∧ zbp 43 0 = 0 := ⟨zcode_of (B := [zB43_0, zB43_1, zB43_2, zB43_3]) rfl (by decide +kernel), rfl⟩
set_option maxRecDepth 20000 in
theorem zcd_44 : zCode 44 ∧ zbp 44 0 = 0 := ⟨zcode_of (B := [zB44_0, zB44_1, zB44_2, zB44_3, zB44_4, zB44_5, zB44_6, zB44_7, zB44_8, zB44_9, zB44_10, zB44_11, zB44_12]) rfl (by decide +kernel), rfl⟩
set_option maxRecDepth 20000 in
theorem zcd_45 : zCode 45 ∧ zbp 45 0 = 0 := ⟨zcode_of (B := [zB45_0, zB45_1, zB45_2, zB45_3, zB45_4, zB45_5, zB45_6, zB45_7, zB45_8]) rfl (by decide +kernel), rfl⟩
set_option maxRecDepth 20000 in
theorem zcd_46 : zCode 46 ∧ zbp 46 0 = 0 := ⟨zcode_of (B := [zB46_0, zB46_1, zB46_2, zB46_3]) rfl (by decide +kernel), rfl⟩
set_option maxRecDepth 20000 in
theorem zcd_47 : zCode 47 ∧ zbp 47 0 = 0 := ⟨zcode_of (B := [zB47_0, zB47_1, zB47_2]) rfl (by decide +kernel), rfl⟩
set_option maxRecDepth 20000 in
theorem zcd_48 : zCode 48 ∧ zbp 48 0 = 0 := ⟨zcode_of (B := [zB48_0, zB48_1, zB48_2, zB48_3, zB48_4, zB48_5, zB48_6, zB48_7]) rfl (by decide +kernel), rfl⟩
set_option maxRecDepth 20000 in
theorem zcd_49 : zCode 49 ∧ zbp 49 0 = 0 := ⟨zcode_of (B := [zB49_0, zB49_1, zB49_2, zB49_3, zB49_4, zB49_5]) rfl (by decide +kernel), rfl⟩
set_option maxRecDepth 20000 in
theorem zcd_50 : zCode 50 ∧ zbp 50 0 = 0 := ⟨zcode_of (B := [zB50_0, zB50_1, zB50_2]) rfl (by decide +kernel), rfl⟩
set_option maxRecDepth 20000 in
theorem zcd_51 : zCode 51 ∧ zbp 51 0 = 0 := ⟨zcode_of (B := [zB51_0, zB51_1, zB51_2, zB51_3, zB51_4, zB51_5]) rfl (by decide +kernel), rfl⟩
set_option maxRecDepth 20000 in
theorem zcd_52 : zCode 52 ∧ zbp 52 0 = 0 := ⟨zcode_of (B := [zB52_0, zB52_1, zB52_2, zB52_3]) rfl (by decide +kernel), rfl⟩
set_option maxRecDepth 20000 in
theorem zcd_53 : zCode 53 ∧ zbp 53 0 = 0 := ⟨zcode_of (B := [zB53_0, zB53_1, zB53_2, zB53_3, zB53_4, zB53_5, zB53_6, zB53_7]) rfl (by decide +kernel), rfl⟩
set_option maxRecDepth 20000 in
theorem zcd_54 : zCode 54 ∧ zbp 54 0 = 0 := ⟨zcode_of (B := [zB54_0, zB54_1, zB54_2, zB54_3, zB54_4]) rfl (by decide +kernel), rfl⟩
set_option maxRecDepth 20000 in
theorem zcd_55 : zCode 55 ∧ zbp 55 0 = 0 := ⟨zcode_of (B := [zB55_0]) rfl (by decide +kernel), rfl⟩
set_option maxRecDepth 20000 in
theorem zcd_56 : zCode 56 ∧ zbp 56 0 = 0 := ⟨zcode_of (B := [zB56_0, zB56_1, zB56_2, zB56_3, zB56_4, zB56_5]) rfl (by decide +kernel), rfl⟩
set_option maxRecDepth 20000 in
theorem zcd_57 : zCode 57 ∧ zbp 57 0 = 0 := ⟨zcode_of (B := [zB57_0, zB57_1, zB57_2]) rfl (by decide +kernel), rfl⟩
set_option maxRecDepth 20000 in
theorem zcd_58 : zCode 58 ∧ zbp 58 0 = 0 := ⟨zcode_of (B := [zB58_0, zB58_1, zB58_2, zB58_3, zB58_4, zB58_5, zB58_6, zB58_7, zB58_8, zB58_9, zB58_10, zB58_11, zB58_12, zB58_13, zB58_14, zB58_15]) rfl (by decide +kernel), rfl⟩
set_option maxRecDepth 20000 in
theorem zcd_59 : zCode 59 ∧ zbp 59 0 = 0 := ⟨zcode_of (B := [zB59_0]) rfl (by decide +kernel), rfl⟩
set_option maxRecDepth 20000 in
theorem zcd_60 : zCode 60 ∧ zbp 60 0 = 0 := ⟨zcode_of (B := [zB60_0]) rfl (by decide +kernel), rfl⟩
set_option maxRecDepth 20000 in
theorem zcd_61 : zCode 61 ∧ zbp 61 0 = 0 := ⟨zcode_of (B := [zB61_0, zB61_1, zB61_2, zB61_3, zB61_4, zB61_5, zB61_6]) rfl (by decide +kernel), rfl⟩
set_option maxRecDepth 20000 in
theorem zcd_62 : zCode 62 ∧ zbp 62 0 = 0 := ⟨zcode_of (B := [zB62_0, zB62_1, zB62_2]) rfl (by decide +kernel), rfl⟩
set_option maxRecDepth 20000 in
theorem zcd_63 : zCode 63 ∧ zbp 63 0 = 0 := ⟨zcode_of (B := [zB63_0, zB63_1, zB63_2, zB63_3, zB63_4]) rfl (by decide +kernel), rfl⟩
set_option maxRecDepth 20000 in
theorem zcd_64 : zCode 64 ∧ zbp 64 0 = 0 := ⟨zcode_of (B := [zB64_0]) rfl (by decide +kernel), rfl⟩
set_option maxRecDepth 20000 in
theorem zcd_65 : zCode 65 ∧ zbp 65 0 = 0 := ⟨zcode_of (B := [zB65_0]) rfl (by decide +kernel), rfl⟩
set_option maxRecDepth 20000 in
theorem zcd_66 : zCode 66 ∧ zbp 66 0 = 0 := ⟨zcode_of (B := [zB66_0, zB66_1, zB66_2, zB66_3, zB66_4]) rfl (by decide +kernel), rfl⟩
set_option maxRecDepth 20000 in
theorem zcd_67 : zCode 67 ∧ zbp 67 0 = 0 := ⟨zcode_of (B := [zB67_0]) rfl (by decide +kernel), rfl⟩
set_option maxRecDepth 20000 in
theorem zcd_68 : zCode 68 ∧ zbp 68 0 = 0 := ⟨zcode_of (B := [zB68_0]) rfl (by decide +kernel), rfl⟩
set_option maxRecDepth 20000 in
theorem zcd_69 : zCode 69 ∧ zbp 69 0 = 0 := ⟨zcode_of (B := [zB69_0, zB69_1]) rfl (by decide +kernel), rfl⟩
set_option maxRecDepth 20000 in
theorem zcd_70 : zCode 70 ∧ zbp 70 0 = 0 := ⟨zcode_of (B := [zB70_0, zB70_1, zB70_2, zB70_3, zB70_4, zB70_5, zB70_6, zB70_7, zB70_8, zB70_9, zB70_10]) rfl (by decide +kernel), rfl⟩
set_option maxRecDepth 20000 in
theorem zcd_71 : zCode 71 ∧ zbp 71 0 = 0 := ⟨zcode_of (B := [zB71_0, zB71_1, zB71_2, zB71_3]) rfl (by decide +kernel), rfl⟩
set_option maxRecDepth 20000 in
theorem zcd_72 : zCode 72 ∧ zbp 72 0 = 0 := ⟨zcode_of (B := [zB72_0, zB72_1, zB72_2]) rfl (by decide +kernel), rfl⟩
set_option maxRecDepth 20000 in
theorem zcd_73 : zCode 73 ∧ zbp 73 0 = 0 := ⟨zcode_of (B := [zB73_0]) rfl (by decide +kernel), rfl⟩
set_option maxRecDepth 20000 in
theorem zcd_74 : zCode 74 ∧ zbp 74 0 = 0 := ⟨zcode_of (B := [zB74_0, zB74_1, zB74_2, zB74_3, zB74_4, zB74_5]) rfl (by decide +kernel), rfl⟩
set_option maxRecDepth 20000 in
theorem zcd_75 : zCode 75 ∧ zbp 75 0 = 0 := ⟨zcode_of (B := [zB75_0, zB75_1, zB75_2]) rfl (by decide +kernel), rfl⟩
set_option maxRecDepth 20000 in
theorem zcd_76 : zCode 76 ∧ zbp 76 0 = 0 := ⟨zcode_of (B := [zB76_0, zB76_1, zB76_2, zB76_3, zB76_4]) rfl (by decide +kernel), rfl⟩
set_option maxRecDepth 20000 in
theorem zcd_77 : zCode 77 ∧ zbp 77 0 = 0 := ⟨zcode_of (B := [zB77_0, zB77_1, zB77_2]) rfl (by decide +kernel), rfl⟩
set_option maxRecDepth 20000 in
theorem zcd_78 : zCode 78 ∧ zbp 78 0 = 0 := ⟨zcode_of (B := [zB78_0]) rfl (by decide +kernel), rfl⟩
set_option maxRecDepth 20000 in
theorem zcd_79 : zCode 79 ∧ zbp 79 0 = 0 := ⟨zcode_of (B := [zB79_0, zB79_1, zB79_2, zB79_3, zB79_4, zB79_5, zB79_6, zB79_7, zB79_8, zB79_9, zB79_10, zB79_11, zB79_12, zB79_13]) rfl (by decide +kernel), rfl⟩
set_option maxRecDepth 20000 in
theorem zcd_80 : zCode 80 ∧ zbp 80 0 = 0 := ⟨zcode_of (B := [zB80_0, zB80_1, zB80_2, zB80_3, zB80_4, zB80_5, zB80_6, zB80_7, zB80_8, zB80_9, zB80_10, zB80_11, zB80_12, zB80_13, zB80_14, zB80_15, zB80_16, zB80_17, zB80_18, zB80_19]) rfl (by decide +kernel), rfl⟩
set_option maxRecDepth 20000 in
theorem zcd_81 : zCode 81 ∧ zbp 81 0 = 0 := ⟨zcode_of (B := [zB81_0]) rfl (by decide +kernel), rfl⟩
set_option maxRecDepth 20000 in
theorem zcd_82 : zCode 82 ∧ zbp 82 0 = 0 := ⟨zcode_of (B := [zB82_0]) rfl (by decide +kernel), rfl⟩
set_option maxRecDepth 20000 in
theorem zcd_83 : zCode 83 ∧ zbp 83 0 = 0 := ⟨zcode_of (B := [zB83_0, zB83_1, zB83_2, zB83_3, zB83_4]) rfl (by decide +kernel), rfl⟩
set_option maxRecDepth 20000 in
theorem zcd_84 : zCode 84 ∧ zbp 84 0 = 0 := ⟨zcode_of (B := [zB84_0]) rfl (by decide +kernel), rfl⟩
set_option maxRecDepth 20000 in
theorem zcd_85 : zCode 85 ∧ zbp 85 0 = 0 := ⟨zcode_of (B := [zB85_0]) rfl (by decide +kernel), rfl⟩
set_option maxRecDepth 20000 in
theorem zcd_86 : zCode 86 ∧ zbp 86 0 = 0 := ⟨zcode_of (B := [zB86_0, zB86_1, zB86_2, zB86_3, zB86_4]) rfl (by decide +kernel), rfl⟩
set_option maxRecDepth 20000 in
theorem zcd_87 : zCode 87 ∧ zbp 87 0 = 0 := ⟨zcode_of (B := [zB87_0]) rfl (by decide +kernel), rfl⟩
set_option maxRecDepth 20000 in
theorem zcd_88 : zCode 88 ∧ zbp 88 0 = 0 := ⟨zcode_of (B := [zB88_0, zB88_1, zB88_2, zB88_3]) rfl (by decide +kernel), rfl⟩
set_option maxRecDepth 20000 in
theorem zcd_89 : zCode 89 ∧ zbp 89 0 = 0 := ⟨zcode_of (B := [zB89_0, zB89_1, zB89_2]) rfl (by decide +kernel), rfl⟩
set_option maxRecDepth 20000 in
theorem zcd_90 : zCode 90 ∧ zbp 90 0 = 0 := ⟨zcode_of (B := [zB90_0]) rfl (by decide +kernel), rfl⟩
set_option maxRecDepth 20000 in
theorem zcd_91 : zCode 91 ∧ zbp 91 0 = 0 := ⟨zcode_of (B := [zB91_0, zB91_1, zB91_2, zB91_3, zB91_4]) rfl (by decide +kernel), rfl⟩
set_option maxRecDepth 20000 in
theorem zcd_92 : zCode 92 ∧ zbp 92 0 = 0 := ⟨zcode_of (B := [zB92_0, zB92_1, zB92_2]) rfl (by decide +kernel), rfl⟩
set_option maxRecDepth 20000 in
theorem zcd_93 : zCode 93 ∧ zbp 93 0 = 0 := ⟨zcode_of (B := [zB93_0]) rfl (by decide +kernel), rfl⟩
set_option maxRecDepth 20000 in
theorem zcd_94 : zCode 94 ∧ zbp 94 0 = 0 := ⟨zcode_of (B := [zB94_0, zB94_1, zB94_2, zB94_3, zB94_4, zB94_5]) rfl (by decide +kernel), rfl⟩
set_option maxRecDepth 20000 in
theorem zcd_95 : zCode 95 ∧ zbp 95 0 = 0 := ⟨zcode_of (B := [zB95_0, zB95_1]) rfl (by decide +kernel), rfl⟩
set_option maxRecDepth 20000 in
theorem zcd_96 : zCode 96 ∧ zbp 96 0 = 0 := ⟨zcode_of (B := [zB96_0, zB96_1, zB96_2, zB96_3, zB96_4, zB96_5, zB96_6, zB96_7, zB96_8, zB96_9, zB96_10, zB96_11]) rfl (by decide +kernel), rfl⟩
set_option maxRecDepth 20000 in
theorem zcd_97 : zCode 97 ∧ zbp 97 0 = 0 := ⟨zcode_of (B := [zB97_0, zB97_1, zB97_2, zB97_3]) rfl (by decide +kernel), rfl⟩
set_option maxRecDepth 20000 in
theorem zcd_98 : zCode 98 ∧ zbp 98 0 = 0 := ⟨zcode_of (B := [zB98_0]) rfl (by decide +kernel), rfl⟩
set_option maxRecDepth 20000 in
theorem zcd_99 : zCode 99 ∧ zbp 99 0 = 0 := ⟨zcode_of (B := [zB99_0, zB99_1]) rfl (by decide +kernel), rfl⟩
set_option maxRecDepth 20000 in
theorem zcd_100 : zCode 100 ∧ zbp 100 0 = 0 := ⟨zcode_of (B := [zB100_0]) rfl (by decide +kernel), rfl⟩
set_option maxRecDepth 20000 in
theorem zcd_101 : zCode 101 ∧ zbp 101 0 = 0 := ⟨zcode_of (B := [zB101_0]) rfl (by decide +kernel), rfl⟩
set_option maxRecDepth 20000 in
theorem zcd_102 : zCode 102 ∧ zbp 102 0 = 0 := ⟨zcode_of (B := [zB102_0, zB102_1, zB102_2]) rfl (by decide +kernel), rfl⟩
set_option maxRecDepth 20000 in
theorem zcd_103 : zCode 103 ∧ zbp 103 0 = 0 := ⟨zcode_of (B := [zB103_0]) rfl (by decide +kernel), rfl⟩
set_option maxRecDepth 20000 in
theorem zcd_104 : zCode 104 ∧ zbp 104 0 = 0 := ⟨zcode_of (B := [zB104_0, zB104_1]) rfl (by decide +kernel), rfl⟩
set_option maxRecDepth 20000 in
theorem zcd_105 : zCode 105 ∧ zbp 105 0 = 0 := ⟨zcode_of (B := [zB105_0]) rfl (by decide +kernel), rfl⟩
set_option maxRecDepth 20000 in
theorem zcd_106 : zCode 106 ∧ zbp 106 0 = 0 := ⟨zcode_of (B := [zB106_0]) rfl (by decide +kernel), rfl⟩
set_option maxRecDepth 20000 in
theorem zcd_107 : zCode 107 ∧ zbp 107 0 = 0 := ⟨zcode_of (B := [zB107_0, zB107_1, zB107_2]) rfl (by decide +kernel), rfl⟩
set_option maxRecDepth 20000 in
theorem zcd_108 : zCode 108 ∧ zbp 108 0 = 0 := ⟨zcode_of (B := [zB108_0]) rfl (by decide +kernel), rfl⟩
set_option maxRecDepth 20000 in
theorem zcd_109 : zCode 109 ∧ zbp 109 0 = 0 := ⟨zcode_of (B := [zB109_0]) rfl (by decide +kernel), rfl⟩
set_option maxRecDepth 20000 in
theorem zcd_110 : zCode 110 ∧ zbp 110 0 = 0 := ⟨zcode_of (B := [zB110_0]) rfl (by decide +kernel), rfl⟩
set_option maxRecDepth 20000 in
theorem zcd_111 : zCode 111 ∧ zbp 111 0 = 0 := ⟨zcode_of (B := [zB111_0, zB111_1, zB111_2]) rfl (by decide +kernel), rfl⟩
set_option maxRecDepth 20000 in
theorem zcd_112 : zCode 112 ∧ zbp 112 0 = 0 := ⟨zcode_of (B := [zB112_0]) rfl (by decide +kernel), rfl⟩
set_option maxRecDepth 20000 in
theorem zcd_113 : zCode 113 ∧ zbp 113 0 = 0 := ⟨zcode_of (B := [zB113_0, zB113_1, zB113_2]) rfl (by decide +kernel), rfl⟩
set_option maxRecDepth 20000 in
theorem zcd_114 : zCode 114 ∧ zbp 114 0 = 0 := ⟨zcode_of (B := [zB114_0, zB114_1, zB114_2]) rfl (by decide +kernel), rfl⟩
set_option maxRecDepth 20000 in
theorem zcd_115 : zCode 115 ∧ zbp 115 0 = 0 := ⟨zcode_of (B := [zB115_0]) rfl (by decide +kernel), rfl⟩
set_option maxRecDepth 20000 in
theorem zcd_116 : zCode 116 ∧ zbp 116 0 = 0 := ⟨zcode_of (B := [zB116_0]) rfl (by decide +kernel), rfl⟩
set_option maxRecDepth 20000 in
theorem zcd_117 : zCode 117 ∧ zbp 117 0 = 0 := ⟨zcode_of (B := [zB117_0, zB117_1, zB117_2, zB117_3]) rfl (by decide +kernel), rfl⟩
set_option maxRecDepth 20000 in
theorem zcd_118 : zCode 118 ∧ zbp 118 0 = 0 := ⟨zcode_of (B := [zB118_0, zB118_1, zB118_2, zB118_3]) rfl (by decide +kernel), rfl⟩
set_option maxRecDepth 20000 in
theorem zcd_119 : zCode 119 ∧ zbp 119 0 = 0 := ⟨zcode_of (B := [zB119_0, zB119_1]) rfl (by decide +kernel), rfl⟩
set_option maxRecDepth 20000 in
theorem zcd_120 : zCode 120 ∧ zbp 120 0 = 0 := ⟨zcode_of (B := [zB120_0]) rfl (by decide +kernel), rfl⟩
set_option maxRecDepth 20000 in
theorem zcd_121 : zCode 121 ∧ zbp 121 0 = 0 := ⟨zcode_of (B := [zB121_0, zB121_1, zB121_2, zB121_3, zB121_4, zB121_5]) rfl (by decide +kernel), rfl⟩
set_option maxRecDepth 20000 in
theorem zcd_122 : zCode 122 ∧ zbp 122 0 = 0 := ⟨zcode_of (B := [zB122_0, zB122_1, zB122_2, zB122_3, zB122_4]) rfl (by decide +kernel), rfl⟩
set_option maxRecDepth 20000 in
theorem zcd_123 : zCode 123 ∧ zbp 123 0 = 0 := ⟨zcode_of (B := [zB123_0, zB123_1, zB123_2]) rfl (by decide +kernel), rfl⟩
set_option maxRecDepth 20000 in
theorem zcd_124 : zCode 124 ∧ zbp 124 0 = 0 := ⟨zcode_of (B := [zB124_0, zB124_1, zB124_2, zB124_3, zB124_4, zB124_5]) rfl (by decide +kernel), rfl⟩
set_option maxRecDepth 20000 in
theorem zcd_125 : zCode 125 ∧ zbp 125 0 = 0 := ⟨zcode_of (B := [zB125_0, zB125_1]) rfl (by decide +kernel), rfl⟩
set_option maxRecDepth 20000 in
theorem zcd_126 : zCode 126 ∧ zbp 126 0 = 0 := ⟨zcode_of (B := [zB126_0, zB126_1, zB126_2, zB126_3, zB126_4, zB126_5, zB126_6, zB126_7, zB126_8, zB126_9, zB126_10]) rfl (by decide +kernel), rfl⟩
set_option maxRecDepth 20000 in
theorem zcd_127 : zCode 127 ∧ zbp 127 0 = 0 := ⟨zcode_of (B := [zB127_0, zB127_1, zB127_2, zB127_3, zB127_4]) rfl (by decide +kernel), rfl⟩
set_option maxRecDepth 20000 in
theorem zcd_128 : zCode 128 ∧ zbp 128 0 = 0 := ⟨zcode_of (B := [zB128_0, zB128_1, zB128_2, zB128_3, zB128_4, zB128_5, zB128_6, zB128_7, zB128_8, zB128_9, zB128_10, zB128_11]) rfl (by decide +kernel), rfl⟩
set_option maxRecDepth 20000 in
theorem zcd_129 : zCode 129 ∧ zbp 129 0 = 0 := ⟨zcode_of (B := [zB129_0]) rfl (by decide +kernel), rfl⟩
set_option maxRecDepth 20000 in
theorem zcd_130 : zCode 130 ∧ zbp 130 0 = 0 := ⟨zcode_of (B := [zB130_0]) rfl (by decide +kernel), rfl⟩
set_option maxRecDepth 20000 in
theorem zcd_131 : zCode 131 ∧ zbp 131 0 = 0 := ⟨zcode_of (B := [zB131_0, zB131_1, zB131_2]) rfl (by decide +kernel), rfl⟩
set_option maxRecDepth 20000 in
theorem zcd_132 : zCode 132 ∧ zbp 132 0 = 0 := ⟨zcode_of (B := [zB132_0, zB132_1]) rfl (by decide +kernel), rfl⟩
set_option maxRecDepth 20000 in
theorem zcd_133 : zCode 133 ∧ zbp 133 0 = 0 := ⟨zcode_of (B := [zB133_0]) rfl (by decide +kernel), rfl⟩
set_option maxRecDepth 20000 in
theorem zcd_134 : zCode 134 ∧ zbp 134 0 = 0 := ⟨zcode_of (B := [zB134_0]) rfl (by decide +kernel), rfl⟩
set_option maxRecDepth 20000 in
theorem zcd_135 : zCode 135 ∧ zbp 135 0 = 0 := ⟨zcode_of (B := [zB135_0, zB135_1, zB135_2, zB135_3, zB135_4]) rfl (by decide +kernel), rfl⟩
set_option maxRecDepth 20000 in
theorem zcd_136 : zCode 136 ∧ zbp 136 0 = 0 := ⟨zcode_of (B := [zB136_0, zB136_1]) rfl (by decide +kernel), rfl⟩
set_option maxRecDepth 20000 in
theorem zcd_137 : zCode 137 ∧ zbp 137 0 = 0 := ⟨zcode_of (B := [zB137_0, zB137_1]) rfl (by decide +kernel), rfl⟩
set_option maxRecDepth 20000 in
theorem zcd_138 : zCode 138 ∧ zbp 138 0 = 0 := ⟨zcode_of (B := [zB138_0]) rfl (by decide +kernel), rfl⟩
set_option maxRecDepth 20000 in
theorem zcd_139 : zCode 139 ∧ zbp 139 0 = 0 := ⟨zcode_of (B := [zB139_0, zB139_1, zB139_2, zB139_3, zB139_4, zB139_5, zB139_6, zB139_7, zB139_8, zB139_9, zB139_10, zB139_11]) rfl (by decide +kernel), rfl⟩
set_option maxRecDepth 20000 in
theorem zcd_140 : zCode 140 ∧ zbp 140 0 = 0 := ⟨zcode_of (B := [zB140_0]) rfl (by decide +kernel), rfl⟩
set_option maxRecDepth 20000 in
theorem zcd_141 : zCode 141 ∧ zbp 141 0 = 0 := ⟨zcode_of (B := [zB141_0]) rfl (by decide +kernel), rfl⟩
set_option maxRecDepth 20000 in
theorem zcd_142 : zCode 142 ∧ zbp 142 0 = 0 := ⟨zcode_of (B := [zB142_0, zB142_1]) rfl (by decide +kernel), rfl⟩
set_option maxRecDepth 20000 in
theorem zcd_143 : zCode 143 ∧ zbp 143 0 = 0 := ⟨zcode_of (B := [zB143_0, zB143_1, zB143_2, zB143_3, zB143_4, zB143_5]) rfl (by decide +kernel), rfl⟩
set_option maxRecDepth 20000 in
theorem zcd_144 : zCode 144 ∧ zbp 144 0 = 0 := ⟨zcode_of (B := [zB144_0, zB144_1, zB144_2]) rfl (by decide +kernel), rfl⟩
set_option maxRecDepth 20000 in
theorem zcd_145 : zCode 145 ∧ zbp 145 0 = 0 := ⟨zcode_of (B := [zB145_0]) rfl (by decide +kernel), rfl⟩
set_option maxRecDepth 20000 in
theorem zcd_146 : zCode 146 ∧ zbp 146 0 = 0 := ⟨zcode_of (B := [zB146_0, zB146_1, zB146_2]) rfl (by decide +kernel), rfl⟩
set_option maxRecDepth 20000 in
theorem zcd_147 : zCode 147 ∧ zbp 147 0 = 0 := ⟨zcode_of (B := [zB147_0, zB147_1, zB147_2]) rfl (by decide +kernel), rfl⟩
set_option maxRecDepth 20000 in
theorem zcd_148 : zCode 148 ∧ zbp 148 0 = 0 := ⟨zcode_of (B := [zB148_0, zB148_1, zB148_2, zB148_3]) rfl (by decide +kernel), rfl⟩
set_option maxRecDepth 20000 in
theorem zcd_149 : zCode 149 ∧ zbp 149 0 = 0 := ⟨zcode_of (B := [zB149_0, zB149_1, zB149_2]) rfl (by decide +kernel), rfl⟩
set_option maxRecDepth 20000 in
theorem zcd_150 : zCode 150 ∧ zbp 150 0 = 0 := ⟨zcode_of (B := [zB150_0, zB150_1, zB150_2, zB150_3, zB150_4]) rfl (by decide +kernel), rfl⟩
set_option maxRecDepth 20000 in
theorem zcd_151 : zCode 151 ∧ zbp 151 0 = 0 := ⟨zcode_of (B := [zB151_0, zB151_1, zB151_2]) rfl (by decide +kernel), rfl⟩
set_option maxRecDepth 20000 in
theorem zcd_152 : zCode 152 ∧ zbp 152 0 = 0 := ⟨zcode_of (B := [zB152_0, zB152_1, zB152_2]) rfl (by decide +kernel), rfl⟩
set_option maxRecDepth 20000 in
theorem zcd_153 : zCode 153 ∧ zbp 153 0 = 0 := ⟨zcode_of (B := [zB153_0, zB153_1, zB153_2]) rfl (by decide +kernel), rfl⟩
set_option maxRecDepth 20000 in
theorem zcd_154 : zCode 154 ∧ zbp 154 0 = 0 := ⟨zcode_of (B := [zB154_0, zB154_1, zB154_2]) rfl (by decide +kernel), rfl⟩
set_option maxRecDepth 20000 in
theorem zcd_155 : zCode 155 ∧ zbp 155 0 = 0 := ⟨zcode_of (B := [zB155_0]) rfl (by decide +kernel), rfl⟩
set_option maxRecDepth 20000 in
theorem zcd_156 : zCode 156 ∧ zbp 156 0 = 0 := ⟨zcode_of (B := [zB156_0, zB156_1, zB156_2]) rfl (by decide +kernel), rfl⟩
set_option maxRecDepth 20000 in
theorem zcd_157 : zCode 157 ∧ zbp 157 0 = 0 := ⟨zcode_of (B := [zB157_0, zB157_1, zB157_2, zB157_3, zB157_4]) rfl (by decide +kernel), rfl⟩
set_option maxRecDepth 20000 in
theorem zcd_158 : zCode 158 ∧ zbp 158 0 = 0 := ⟨zcode_of (B := [zB158_0, zB158_1, zB158_2, zB158_3, zB158_4, zB158_5, zB158_6, zB158_7, zB158_8, zB158_9]) rfl (by decide +kernel), rfl⟩
set_option maxRecDepth 20000 in
theorem zcd_159 : zCode 159 ∧ zbp 159 0 = 0 := ⟨zcode_of (B := [zB159_0, zB159_1, zB159_2, zB159_3, zB159_4, zB159_5, zB159_6]) rfl (by decide +kernel), rfl⟩
set_option maxRecDepth 20000 in
theorem zcd_160 : zCode 160 ∧ zbp 160 0 = 0 := ⟨zcode_of (B := [zB160_0, zB160_1, zB160_2, zB160_3, zB160_4, zB160_5]) rfl (by decide +kernel), rfl⟩
set_option maxRecDepth 20000 in
theorem zcd_161 : zCode 161 ∧ zbp 161 0 = 0 := ⟨zcode_of (B := [zB161_0, zB161_1, zB161_2, zB161_3, zB161_4, zB161_5, zB161_6, zB161_7, zB161_8, zB161_9, zB161_10, zB161_11, zB161_12, zB161_13, zB161_14, zB161_15, zB161_16, zB161_17, zB161_18]) rfl (by decide +kernel), rfl⟩
set_option maxRecDepth 20000 in
theorem zcd_162 : zCode 162 ∧ zbp 162 0 = 0 := ⟨zcode_of (B := [zB162_0, zB162_1, zB162_2]) rfl (by decide +kernel), rfl⟩
set_option maxRecDepth 20000 in
theorem zcd_163 : zCode 163 ∧ zbp 163 0 = 0 := ⟨zcode_of (B := [zB163_0, zB163_1, zB163_2]) rfl (by decide +kernel), rfl⟩
set_option maxRecDepth 20000 in
theorem zcd_164 : zCode 164 ∧ zbp 164 0 = 0 := ⟨zcode_of (B := [zB164_0, zB164_1, zB164_2]) rfl (by decide +kernel), rfl⟩
set_option maxRecDepth 20000 in
theorem zcd_165 : zCode 165 ∧ zbp 165 0 = 0 := ⟨zcode_of (B := [zB165_0, zB165_1, zB165_2, zB165_3, zB165_4, zB165_5, zB165_6, zB165_7, zB165_8, zB165_9]) rfl (by decide +kernel), rfl⟩
set_option maxRecDepth 20000 in
theorem zcd_166 : zCode 166 ∧ zbp 166 0 = 0 := ⟨zcode_of (B := [zB166_0, zB166_1, zB166_2, zB166_3, zB166_4, zB166_5, zB166_6, zB166_7]) rfl (by decide +kernel), rfl⟩
set_option maxRecDepth 20000 in
theorem zcd_167 : zCode 167 ∧ zbp 167 0 = 0 := ⟨zcode_of (B := [zB167_0, zB167_1]) rfl (by decide +kernel), rfl⟩
set_option maxRecDepth 20000 in
theorem zcd_168 : zCode 168 ∧ zbp 168 0 = 0 := ⟨zcode_of (B := [zB168_0, zB168_1, zB168_2, zB168_3, zB168_4, zB168_5, zB168_6, zB168_7, zB168_8, zB168_9]) rfl (by decide +kernel), rfl⟩
set_option maxRecDepth 20000 in
theorem zcd_169 : zCode 169 ∧ zbp 169 0 = 0 := ⟨zcode_of (B := [zB169_0, zB169_1, zB169_2]) rfl (by decide +kernel), rfl⟩
set_option maxRecDepth 20000 in
theorem zcd_170 : zCode 170 ∧ zbp 170 0 = 0 := ⟨zcode_of (B := [zB170_0, zB170_1, zB170_2, zB170_3]) rfl (by decide +kernel), rfl⟩
set_option maxRecDepth 20000 in
theorem zcd_171 : zCode 171 ∧ zbp 171 0 = 0 := ⟨zcode_of (B := [zB171_0, zB171_1, zB171_2, zB171_3, zB171_4, zB171_5, zB171_6, zB171_7, zB171_8, zB171_9, zB171_10, zB171_11]) rfl (by decide +kernel), rfl⟩
set_option maxRecDepth 20000 in
theorem zcd_172 : zCode 172 ∧ zbp 172 0 = 0 := ⟨zcode_of (B := [zB172_0, zB172_1, zB172_2, zB172_3, zB172_4, zB172_5, zB172_6]) rfl (by decide +kernel), rfl⟩
set_option maxRecDepth 20000 in
theorem zcd_173 : zCode 173 ∧ zbp 173 0 = 0 := ⟨zcode_of (B := [zB173_0, zB173_1, zB173_2, zB173_3, zB173_4, zB173_5, zB173_6]) rfl (by decide +kernel), rfl⟩
set_option maxRecDepth 20000 in
theorem zcd_174 : zCode 174 ∧ zbp 174 0 = 0 := ⟨zcode_of (B := [zB174_0, zB174_1, zB174_2, zB174_3, zB174_4, zB174_5, zB174_6, zB174_7]) rfl (by decide +kernel), rfl⟩
set_option maxRecDepth 20000 in
theorem zcd_175 : zCode 175 ∧ zbp 175 0 = 0 := ⟨zcode_of (B := [zB175_0, zB175_1, zB175_2, zB175_3, zB175_4]) rfl (by decide +kernel), rfl⟩
set_option maxRecDepth 20000 in
theorem zcd_176 : zCode 176 ∧ zbp 176 0 = 0 := ⟨zcode_of (B := [zB176_0, zB176_1]) rfl (by decide +kernel), rfl⟩
set_option maxRecDepth 20000 in
theorem zcd_177 : zCode 177 ∧ zbp 177 0 = 0 := ⟨zcode_of (B := [zB177_0, zB177_1, zB177_2, zB177_3, zB177_4]) rfl (by decide +kernel), rfl⟩
set_option maxRecDepth 20000 in
theorem zcd_178 : zCode 178 ∧ zbp 178 0 = 0 := ⟨zcode_of (B := [zB178_0, zB178_1, zB178_2]) rfl (by decide +kernel), rfl⟩
set_option maxRecDepth 20000 in
theorem zcd_179 : zCode 179 ∧ zbp 179 0 = 0 := ⟨zcode_of (B := [zB179_0]) rfl (by decide +kernel), rfl⟩
set_option maxRecDepth 20000 in
theorem zcd_180 : zCode 180 ∧ zbp 180 0 = 0 := ⟨zcode_of (B := [zB180_0, zB180_1, zB180_2]) rfl (by decide +kernel), rfl⟩
set_option maxRecDepth 20000 in
theorem zcd_181 : zCode 181 ∧ zbp 181 0 = 0 := ⟨zcode_of (B := [zB181_0, zB181_1, zB181_2, zB181_3]) rfl (by decide +kernel), rfl⟩
set_option maxRecDepth 20000 in
theorem zcd_182 : zCode 182 ∧ zbp 182 0 = 0 := ⟨zcode_of (B := [zB182_0, zB182_1, zB182_2, zB182_3, zB182_4, zB182_5, zB182_6, zB182_7, zB182_8, zB182_9, zB182_10, zB182_11, zB182_12, zB182_13, zB182_14, zB182_15]) rfl (by decide +kernel), rfl⟩
set_option maxRecDepth 20000 in
theorem zcd_183 : zCode 183 ∧ zbp 183 0 = 0 := ⟨zcode_of (B := [zB183_0, zB183_1, zB183_2]) rfl (by decide +kernel), rfl⟩
set_option maxRecDepth 20000 in
theorem zcd_184 : zCode 184 ∧ zbp 184 0 = 0 := ⟨zcode_of (B := [zB184_0]) rfl (by decide +kernel), rfl⟩
set_option maxRecDepth 20000 in
theorem zcd_185 : zCode 185 ∧ zbp 185 0 = 0 := ⟨zcode_of (B := [zB185_0, zB185_1, zB185_2, zB185_3]) rfl (by decide +kernel), rfl⟩
set_option maxRecDepth 20000 in
theorem zcd_186 : zCode 186 ∧ zbp 186 0 = 0 := ⟨zcode_of (B := [zB186_0, zB186_1, zB186_2, zB186_3, zB186_4, zB186_5, zB186_6, zB186_7, zB186_8, zB186_9, zB186_10, zB186_11, zB186_12, zB186_13, zB186_14, zB186_15, zB186_16]) rfl (by decide +kernel), rfl⟩
set_option maxRecDepth 20000 in
theorem zcd_187 : zCode 187 ∧ zbp 187 0 = 0 := ⟨zcode_of (B := [zB187_0, zB187_1, zB187_2, zB187_3, zB187_4, zB187_5, zB187_6, zB187_7, zB187_8]) rfl (by decide +kernel), rfl⟩
set_option maxRecDepth 20000 in
theorem zcd_188 : zCode 188 ∧ zbp 188 0 = 0 := ⟨zcode_of (B := [zB188_0, zB188_1, zB188_2, zB188_3, zB188_4, zB188_5, zB188_6, zB188_7, zB188_8, zB188_9, zB188_10, zB188_11, zB188_12, zB188_13, zB188_14, zB188_15, zB188_16, zB188_17, zB188_18, zB188_19, zB188_20, zB188_21]) rfl (by decide +kernel), rfl⟩
set_option maxRecDepth 20000 in
theorem zcd_189 : zCode 189 ∧ zbp 189 0 = 0 := ⟨zcode_of (B := [zB189_0, zB189_1, zB189_2, zB189_3, zB189_4, zB189_5, zB189_6, zB189_7, zB189_8, zB189_9, zB189_10, zB189_11, zB189_12]) rfl (by decide +kernel), rfl⟩
set_option maxRecDepth 20000 in
theorem zcd_190 : zCode 190 ∧ zbp 190 0 = 0 := ⟨zcode_of (B := [zB190_0, zB190_1, zB190_2, zB190_3]) rfl (by decide +kernel), rfl⟩
set_option maxRecDepth 20000 in
theorem zcd_191 : zCode 191 ∧ zbp 191 0 = 0 := ⟨zcode_of (B := [zB191_0, zB191_1, zB191_2, zB191_3, zB191_4, zB191_5]) rfl (by decide +kernel), rfl⟩
set_option maxRecDepth 20000 in
theorem zcd_192 : zCode 192 ∧ zbp 192 0 = 0 := ⟨zcode_of (B := [zB192_0]) rfl (by decide +kernel), rfl⟩
set_option maxRecDepth 20000 in
theorem zcd_193 : zCode 193 ∧ zbp 193 0 = 0 := ⟨zcode_of (B := [zB193_0, zB193_1, zB193_2, zB193_3, zB193_4, zB193_5, zB193_6, zB193_7, zB193_8, zB193_9, zB193_10, zB193_11, zB193_12]) rfl (by decide +kernel), rfl⟩
set_option maxRecDepth 20000 in
theorem zcd_194 : zCode 194 ∧ zbp 194 0 = 0 := ⟨zcode_of (B := [zB194_0, zB194_1, zB194_2, zB194_3, zB194_4, zB194_5, zB194_6, zB194_7, zB194_8]) rfl (by decide +kernel), rfl⟩
set_option maxRecDepth 20000 in
theorem zcd_195 : zCode 195 ∧ zbp 195 0 = 0 := ⟨zcode_of (B := [zB195_0, zB195_1, zB195_2, zB195_3, zB195_4, zB195_5, zB195_6, zB195_7, zB195_8, zB195_9, zB195_10]) rfl (by decide +kernel), rfl⟩
set_option maxRecDepth 20000 in
theorem zcd_196 : zCode 196 ∧ zbp 196 0 = 0 := ⟨zcode_of (B := [zB196_0, zB196_1, zB196_2, zB196_3, zB196_4, zB196_5, zB196_6, zB196_7, zB196_8, zB196_9]) rfl (by decide +kernel), rfl⟩
set_option maxRecDepth 20000 in
theorem zcd_197 : zCode 197 ∧ zbp 197 0 = 0 := ⟨zcode_of (B := [zB197_0, zB197_1, zB197_2, zB197_3, zB197_4, zB197_5, zB197_6, zB197_7, zB197_8, zB197_9, zB197_10, zB197_11, zB197_12, zB197_13, zB197_14, zB197_15, zB197_16, zB197_17, zB197_18, zB197_19]) rfl (by decide +kernel), rfl⟩
set_option maxRecDepth 20000 in
theorem zcd_198 : zCode 198 ∧ zbp 198 0 = 0 := ⟨zcode_of (B := [zB198_0, zB198_1, zB198_2, zB198_3, zB198_4, zB198_5, zB198_6, zB198_7, zB198_8, zB198_9, zB198_10, zB198_11, zB198_12, zB198_13, zB198_14, zB198_15, zB198_16]) rfl (by decide +kernel), rfl⟩
set_option maxRecDepth 20000 in
theorem zcd_199 : zCode 199 ∧ zbp 199 0 = 0 := ⟨zcode_of (B := [zB199_0, zB199_1, zB199_2, zB199_3, zB199_4]) rfl (by decide +kernel), rfl⟩
set_option maxRecDepth 20000 in
theorem zcd_200 : zCode 200 ∧ zbp 200 0 = 0 := ⟨zcode_of (B := [zB200_0, zB200_1, zB200_2, zB200_3]) rfl (by decide +kernel), rfl⟩
set_option maxRecDepth 20000 in
theorem zcd_201 : zCode 201 ∧ zbp 201 0 = 0 := ⟨zcode_of (B := [zB201_0, zB201_1, zB201_2, zB201_3, zB201_4, zB201_5]) rfl (by decide +kernel), rfl⟩
set_option maxRecDepth 20000 in
theorem zcd_202 : zCode 202 ∧ zbp 202 0 = 0 := ⟨zcode_of (B := [zB202_0, zB202_1, zB202_2, zB202_3, zB202_4]) rfl (by decide +kernel), rfl⟩
set_option maxRecDepth 20000 in
theorem zcd_203 : zCode 203 ∧ zbp 203 0 = 0 := ⟨zcode_of (B := [zB203_0, zB203_1, zB203_2, zB203_3, zB203_4]) rfl (by decide +kernel), rfl⟩
set_option maxRecDepth 20000 in
theorem zcd_204 : zCode 204 ∧ zbp 204 0 = 0 := ⟨zcode_of (B := [zB204_0, zB204_1, zB204_2, zB204_3, zB204_4, zB204_5, zB204_6]) rfl (by decide +kernel), rfl⟩
set_option maxRecDepth 20000 in
theorem zcd_205 : zCode 205 ∧ zbp 205 0 = 0 := ⟨zcode_of (B := [zB205_0, zB205_1, zB205_2, zB205_3, zB205_4, zB205_5, zB205_6, zB205_7, zB205_8, zB205_9, zB205_10, zB205_11, zB205_12, zB205_13, zB205_14, zB205_15, zB205_16, zB205_17, zB205_18, zB205_19]) rfl (by decide +kernel), rfl⟩
set_option maxRecDepth 20000 in
theorem zcd_206 : zCode 206 ∧ zbp 206 0 = 0 := ⟨zcode_of (B := [zB206_0, zB206_1, zB206_2, zB206_3, zB206_4, zB206_5, zB206_6]) rfl (by decide +kernel), rfl⟩
set_option maxRecDepth 20000 in
theorem zcd_207 : zCode 207 ∧ zbp 207 0 = 0 := ⟨zcode_of (B := [zB207_0]) rfl (by decide +kernel), rfl⟩
set_option maxRecDepth 20000 in
theorem zcd_208 : zCode 208 ∧ zbp 208 0 = 0 := ⟨zcode_of (B := [zB208_0, zB208_1, zB208_2, zB208_3, zB208_4, zB208_5, zB208_6, zB208_7, zB208_8, zB208_9, zB208_10, zB208_11]) rfl (by decide +kernel), rfl⟩
set_option maxRecDepth 20000 in
theorem zcd_209 : zCode 209 ∧ zbp 209 0 = 0 := ⟨zcode_of (B := [zB209_0, zB209_1, zB209_2, zB209_3, zB209_4, zB209_5, zB209_6, zB209_7, zB209_8, zB209_9, zB209_10, zB209_11, zB209_12, zB209_13]) rfl (by decide +kernel), rfl⟩
set_option maxRecDepth 20000 in
theorem zcd_210 : zCode 210 ∧ zbp 210 0 = 0 := ⟨zcode_of (B := [zB210_0, zB210_1, zB210_2, zB210_3, zB210_4, zB210_5, zB210_6]) rfl (by decide +kernel), rfl⟩
set_option maxRecDepth 20000 in
theorem zcd_211 : zCode 211 ∧ zbp 211 0 = 0 := ⟨zcode_of (B := [zB211_0, zB211_1, zB211_2, zB211_3, zB211_4, zB211_5, zB211_6, zB211_7, zB211_8]) rfl (by decide +kernel), rfl⟩
set_option maxRecDepth 20000 in
theorem zcd_212 : zCode 212 ∧ zbp 212 0 = 0 := ⟨zcode_of (B := [zB212_0]) rfl (by decide +kernel), rfl⟩
set_option maxRecDepth 20000 in
theorem zcd_213 : zCode 213 ∧ zbp 213 0 = 0 := ⟨zcode_of (B := [zB213_0, zB213_1, zB213_2, zB213_3, zB213_4, zB213_5, zB213_6, zB213_7, zB213_8, zB213_9, zB213_10, zB213_11]) rfl (by decide +kernel), rfl⟩
set_option maxRecDepth 20000 in
theorem zcd_214 : zCode 214 ∧ zbp 214 0 = 0 := ⟨zcode_of (B := [zB214_0, zB214_1]) rfl (by decide +kernel), rfl⟩
set_option maxRecDepth 20000 in
theorem zcd_215 : zCode 215 ∧ zbp 215 0 = 0 := ⟨zcode_of (B := [zB215_0, zB215_1]) rfl (by decide +kernel), rfl⟩
set_option maxRecDepth 20000 in
theorem zcd_216 : zCode 216 ∧ zbp 216 0 = 0 := ⟨zcode_of (B := [zB216_0, zB216_1]) rfl (by decide +kernel), rfl⟩
set_option maxRecDepth 20000 in
theorem zcd_217 : zCode 217 ∧ zbp 217 0 = 0 := ⟨zcode_of (B := [zB217_0, zB217_1]) rfl (by decide +kernel), rfl⟩
set_option maxRecDepth 20000 in
theorem zcd_218 : zCode 218 ∧ zbp 218 0 = 0 := ⟨zcode_of (B := [zB218_0, zB218_1, zB218_2, zB218_3]) rfl (by decide +kernel), rfl⟩
set_option maxRecDepth 20000 in
theorem zcd_219 : zCode 219 ∧ zbp 219 0 = 0 := ⟨zcode_of (B := [zB219_0, zB219_1]) rfl (by decide +kernel), rfl⟩
set_option maxRecDepth 20000 in
theorem zcd_220 : zCode 220 ∧ zbp 220 0 = 0 := ⟨zcode_of (B := [zB220_0, zB220_1, zB220_2, zB220_3]) rfl (by decide +kernel), rfl⟩
set_option maxRecDepth 20000 in
theorem zcd_221 : zCode 221 ∧ zbp 221 0 = 0 := ⟨zcode_of (B := [zB221_0, zB221_1]) rfl (by decide +kernel), rfl⟩
set_option maxRecDepth 20000 in
theorem zcd_222 : zCode 222 ∧ zbp 222 0 = 0 := ⟨zcode_of (B := [zB222_0, zB222_1]) rfl (by decide +kernel), rfl⟩
set_option maxRecDepth 20000 in
theorem zcd_223 : zCode 223 ∧ zbp 223 0 = 0 := ⟨zcode_of (B := [zB223_0, zB223_1, zB223_2, zB223_3]) rfl (by decide +kernel), rfl⟩
set_option maxRecDepth 20000 in
theorem zcd_224 : zCode 224 ∧ zbp 224 0 = 0 := ⟨zcode_of (B := [zB224_0, zB224_1]) rfl (by decide +kernel), rfl⟩
set_option maxRecDepth 20000 in
theorem zcd_225 : zCode 225 ∧ zbp 225 0 = 0 := ⟨zcode_of (B := [zB225_0, zB225_1]) rfl (by decide +kernel), rfl⟩
set_option maxRecDepth 20000 in
theorem zcd_226 : zCode 226 ∧ zbp 226 0 = 0 := ⟨zcode_of (B := [zB226_0, zB226_1]) rfl (by decide +kernel), rfl⟩
set_option maxRecDepth 20000 in
theorem zcd_227 : zCode 227 ∧ zbp 227 0 = 0 := ⟨zcode_of (B := [zB227_0, zB227_1]) rfl (by decide +kernel), rfl⟩
set_option maxRecDepth 20000 in
theorem zcd_228 : zCode 228 ∧ zbp 228 0 = 0 := ⟨zcode_of (B := [zB228_0, zB228_1]) rfl (by decide +kernel), rfl⟩
set_option maxRecDepth 20000 in
theorem zcd_229 : zCode 229 ∧ zbp 229 0 = 0 := ⟨zcode_of (B := [zB229_0, zB229_1]) rfl (by decide +kernel), rfl⟩
set_option maxRecDepth 20000 in
theorem zcd_230 : zCode 230 ∧ zbp 230 0 = 0 := ⟨zcode_of (B := [zB230_0, zB230_1]) rfl (by decide +kernel), rfl⟩
set_option maxRecDepth 20000 in
theorem zcd_231 : zCode 231 ∧ zbp 231 0 = 0 := ⟨zcode_of (B := [zB231_0, zB231_1]) rfl (by decide +kernel), rfl⟩
set_option maxRecDepth 20000 in
theorem zcd_232 : zCode 232 ∧ zbp 232 0 = 0 := ⟨zcode_of (B := [zB232_0, zB232_1]) rfl (by decide +kernel), rfl⟩
set_option maxRecDepth 20000 in
theorem zcd_233 : zCode 233 ∧ zbp 233 0 = 0 := ⟨zcode_of (B := [zB233_0, zB233_1, zB233_2, zB233_3]) rfl (by decide +kernel), rfl⟩
set_option maxRecDepth 20000 in
theorem zcd_234 : zCode 234 ∧ zbp 234 0 = 0 := ⟨zcode_of (B := [zB234_0, zB234_1]) rfl (by decide +kernel), rfl⟩
set_option maxRecDepth 20000 in
theorem zcd_235 : zCode 235 ∧ zbp 235 0 = 0 := ⟨zcode_of (B := [zB235_0, zB235_1, zB235_2, zB235_3]) rfl (by decide +kernel), rfl⟩
set_option maxRecDepth 20000 in
theorem zcd_236 : zCode 236 ∧ zbp 236 0 = 0 := ⟨zcode_of (B := [zB236_0, zB236_1, zB236_2]) rfl (by decide +kernel), rfl⟩
set_option maxRecDepth 20000 in
theorem zcd_237 : zCode 237 ∧ zbp 237 0 = 0 := ⟨zcode_of (B := [zB237_0, zB237_1, zB237_2]) rfl (by decide +kernel), rfl⟩
set_option maxRecDepth 20000 in
theorem zcd_238 : zCode 238 ∧ zbp 238 0 = 0 := ⟨zcode_of (B := [zB238_0]) rfl (by decide +kernel), rfl⟩
