/-! THE CODE IS CHECKED, 3: the law. -/
set_option maxRecDepth 20000 in
theorem zlw_0 : zckL 239 zB239_0 = true := by decide +kernel
set_option maxRecDepth 20000 in
theorem zlw_1 : zckL 239 zB239_1 = true := by decide +kernel
set_option maxRecDepth 20000 in
theorem zlw_2 : zckL 239 zB239_2 = true := by decide +kernel
set_option maxRecDepth 20000 in
theorem zlw_3 : zckL 239 zB239_3 = true := by decide +kernel
set_option maxRecDepth 20000 in
theorem zlw_4 : zckL 239 zB239_4 = true := by decide +kernel
set_option maxRecDepth 20000 in
theorem zlw_5 : zckL 239 zB239_5 = true := by decide +kernel
set_option maxRecDepth 20000 in
theorem zlw_6 : zckL 239 zB239_6 = true := by decide +kernel
set_option maxRecDepth 20000 in
theorem zlw_7 : zckL 239 zB239_7 = true := by decide +kernel
set_option maxRecDepth 20000 in
theorem zlw_8 : zckL 239 zB239_8 = true := by decide +kernel
set_option maxRecDepth 20000 in
theorem zlw_9 : zckL 239 zB239_9 = true := by decide +kernel
set_option maxRecDepth 20000 in
theorem zlw_10 : zckL 239 zB239_10 = true := by decide +kernel
set_option maxRecDepth 20000 in
theorem zlw_11 : zckL 239 zB239_11 = true := by decide +kernel
set_option maxRecDepth 20000 in
theorem zlw_12 : zckL 239 zB239_12 = true := by decide +kernel
set_option maxRecDepth 20000 in
theorem zlw_13 : zckL 239 zB239_13 = true := by decide +kernel
set_option maxRecDepth 20000 in
theorem zlw_14 : zckL 239 zB239_14 = true := by decide +kernel
set_option maxRecDepth 20000 in
theorem zlw_15 : zckL 239 zB239_15 = true := by decide +kernel
set_option maxRecDepth 20000 in
theorem zlw_16 : zckL 239 zB239_16 = true := by decide +kernel
set_option maxRecDepth 20000 in
theorem zlw_17 : zckL 239 zB239_17 = true := by decide +kernel
set_option maxRecDepth 20000 in
theorem zlw_18 : zckL 239 zB239_18 = true := by decide +kernel
set_option maxRecDepth 20000 in
theorem zlw_19 : zckL 239 zB239_19 = true := by decide +kernel
set_option maxRecDepth 20000 in
theorem zlw_20 : zckL 239 zB239_20 = true := by decide +kernel
set_option maxRecDepth 20000 in
theorem zlw_21 : zckL 239 zB239_21 = true := by decide +kernel
set_option maxRecDepth 20000 in
theorem zlw_22 : zckL 239 zB239_22 = true := by decide +kernel
set_option maxRecDepth 20000 in
theorem zlw_23 : zckL 239 zB239_23 = true := by decide +kernel
set_option maxRecDepth 20000 in
theorem zlw_24 : zckL 239 zB239_24 = true := by decide +kernel
set_option maxRecDepth 20000 in
theorem zlw_25 : zckL 239 zB239_25 = true := by decide +kernel
set_option maxRecDepth 20000 in
theorem zlw_26 : zckL 239 zB239_26 = true := by decide +kernel
set_option maxRecDepth 20000 in
theorem zlw_27 : zckL 239 zB239_27 = true := by decide +kernel
set_option maxRecDepth 20000 in
theorem zlw_28 : zckL 239 zB239_28 = true := by decide +kernel
set_option maxRecDepth 20000 in
theorem zlw_29 : zckL 239 zB239_29 = true := by decide +kernel
set_option maxRecDepth 20000 in
theorem zlw_30 : zckL 239 zB239_30 = true := by decide +kernel
set_option maxRecDepth 20000 in
theorem zlw_31 : zckL 239 zB239_31 = true := by decide +kernel
set_option maxRecDepth 20000 in
theorem zlw_32 : zckL 239 zB239_32 = true := by decide +kernel
set_option maxRecDepth 20000 in
theorem zlw_33 : zckL 239 zB239_33 = true := by decide +kernel
set_option maxRecDepth 20000 in
theorem zlw_34 : zckL 239 zB239_34 = true := by decide +kernel
set_option maxRecDepth 20000 in
theorem zlw_35 : zckL 239 zB239_35 = true := by decide +kernel
set_option maxRecDepth 20000 in
theorem zlw_36 : zckL 239 zB239_36 = true := by decide +kernel
set_option maxRecDepth 20000 in
theorem zlw_37 : zckL 239 zB239_37 = true := by decide +kernel
set_option maxRecDepth 20000 in
theorem zlw_38 : zckL 239 zB239_38 = true := by decide +kernel
set_option maxRecDepth 20000 in
theorem zlw_39 : zckL 239 zB239_39 = true := by decide +kernel
set_option maxRecDepth 20000 in
theorem zlw_40 : zckL 239 zB239_40 = true := by decide +kernel
set_option maxRecDepth 20000 in
theorem zlw_41 : zckL 239 zB239_41 = true := by decide +kernel
set_option maxRecDepth 20000 in
theorem zlw_42 : zckL 239 zB239_42 = true := by decide +kernel
set_option maxRecDepth 20000 in
theorem zlw_43 : zckL 239 zB239_43 = true := by decide +kernel
set_option maxRecDepth 20000 in
theorem zlw_44 : zckL 239 zB239_44 = true := by decide +kernel
set_option maxRecDepth 20000 in
theorem zlw_45 : zckL 239 zB239_45 = true := by decide +kernel
set_option maxRecDepth 20000 in
theorem zlw_46 : zckL 239 zB239_46 = true := by decide +kernel
set_option maxRecDepth 20000 in
theorem zlw_47 : zckL 239 zB239_47 = true := by decide +kernel
set_option maxRecDepth 20000 in
theorem zlw_48 : zckL 239 zB239_48 = true := by decide +kernel
set_option maxRecDepth 20000 in
theorem zlw_49 : zckL 239 zB239_49 = true := by decide +kernel
set_option maxRecDepth 20000 in
theorem zlw_50 : zckL 239 zB239_50 = true := by decide +kernel
set_option maxRecDepth 20000 in
theorem zlw_51 : zckL 239 zB239_51 = true := by decide +kernel
set_option maxRecDepth 20000 in
theorem zlw_52 : zckL 239 zB239_52 = true := by decide +kernel
set_option maxRecDepth 20000 in
theorem zlw_53 : zckL 239 zB239_53 = true := by decide +kernel
set_option maxRecDepth 20000 in
theorem zlw_54 : zckL 239 zB239_54 = true := by decide +kernel
set_option maxRecDepth 20000 in
theorem zlw_55 : zckL 239 zB239_55 = true := by decide +kernel
set_option maxRecDepth 20000 in
theorem zlw_56 : zckL 239 zB239_56 = true := by decide +kernel
set_option maxRecDepth 20000 in
theorem zlw_57 : zckL 239 zB239_57 = true := by decide +kernel
set_option maxRecDepth 20000 in
theorem zlw_58 : zckL 239 zB239_58 = true := by decide +kernel
set_option maxRecDepth 20000 in
theorem zlw_59 : zckL 239 zB239_59 = true := by decide +kernel
set_option maxRecDepth 20000 in
theorem zlw_60 : zckL 239 zB239_60 = true := by decide +kernel
set_option maxRecDepth 20000 in
theorem zlw_61 : zckL 239 zB239_61 = true := by decide +kernel
set_option maxRecDepth 20000 in
theorem zlw_62 : zckL 239 zB239_62 = true := by decide +kernel
set_option maxRecDepth 20000 in
theorem zlw_63 : zckL 239 zB239_63 = true := by decide +kernel
set_option maxRecDepth 20000 in
theorem zlw_64 : zckL 239 zB239_64 = true := by decide +kernel
set_option maxRecDepth 20000 in
theorem zlw_65 : zckL 239 zB239_65 = true := by decide +kernel
set_option maxRecDepth 20000 in
theorem zlw_66 : zckL 239 zB239_66 = true := by decide +kernel
set_option maxRecDepth 20000 in
theorem zlw_67 : zckL 239 zB239_67 = true := by decide +kernel
set_option maxRecDepth 20000 in
theorem zlw_68 : zckL 239 zB239_68 = true := by decide +kernel
set_option maxRecDepth 20000 in
theorem zlw_69 : zckL 239 zB239_69 = true := by decide +kernel
set_option maxRecDepth 20000 in
theorem zlw_70 : zckL 239 zB239_70 = true := by decide +kernel
set_option maxRecDepth 20000 in
theorem zlw_71 : zckL 239 zB239_71 = true := by decide +kernel
set_option maxRecDepth 20000 in
theorem zlw_72 : zckL 239 zB239_72 = true := by decide +kernel
set_option maxRecDepth 20000 in
theorem zlw_73 : zckL 239 zB239_73 = true := by decide +kernel
set_option maxRecDepth 20000 in
theorem zlw_74 : zckL 239 zB239_74 = true := by decide +kernel
set_option maxRecDepth 20000 in
theorem zlw_75 : zckL 239 zB239_75 = true := by decide +kernel
set_option maxRecDepth 20000 in
theorem zlw_76 : zckL 239 zB239_76 = true := by decide +kernel
set_option maxRecDepth 20000 in
theorem zlw_77 : zckL 239 zB239_77 = true := by decide +kernel
set_option maxRecDepth 20000 in
theorem zlw_78 : zckL 239 zB239_78 = true := by decide +kernel
set_option maxRecDepth 20000 in
theorem zlw_79 : zckL 239 zB239_79 = true := by decide +kernel
set_option maxRecDepth 20000 in
theorem zlw_80 : zckL 239 zB239_80 = true := by decide +kernel
set_option maxRecDepth 20000 in
theorem zlw_81 : zckL 239 zB239_81 = true := by decide +kernel
set_option maxRecDepth 20000 in
theorem zlw_82 : zckL 239 zB239_82 = true := by decide +kernel
theorem zcd_239 : zCode 239 ∧ zbp 239 0 = 0 := ⟨zcode_of (B := [zB239_0, zB239_1, zB239_2, zB239_3, zB239_4, zB239_5, zB239_6, zB239_7, zB239_8, zB239_9, zB239_10, zB239_11, zB239_12, zB239_13, zB239_14, zB239_15, zB239_16, zB239_17, zB239_18, zB239_19, zB239_20, zB239_21, zB239_22, zB239_23, zB239_24, zB239_25, zB239_26, zB239_27, zB239_28, zB239_29, zB239_30, zB239_31, zB239_32, zB239_33, zB239_34, zB239_35, zB239_36, zB239_37, zB239_38, zB239_39, zB239_40, zB239_41, zB239_42, zB239_43, zB239_44, zB239_45, zB239_46, zB239_47, zB239_48, zB239_49, zB239_50, zB239_51, zB239_52, zB239_53, zB239_54, zB239_55, zB239_56, zB239_57, zB239_58, zB239_59, zB239_60, zB239_61, zB239_62, zB239_63, zB239_64, zB239_65, zB239_66, zB239_67, zB239_68, zB239_69, zB239_70, zB239_71, zB239_72, zB239_73, zB239_74, zB239_75, zB239_76, zB239_77, zB239_78, zB239_79, zB239_80, zB239_81, zB239_82]) rfl (by
  simp only [List.all_cons, List.all_nil, zlw_0, zlw_1, zlw_2, zlw_3, zlw_4, zlw_5, zlw_6, zlw_7, zlw_8, zlw_9, zlw_10, zlw_11, zlw_12, zlw_13, zlw_14, zlw_15, zlw_16, zlw_17, zlw_18, zlw_19, zlw_20, zlw_21, zlw_22, zlw_23, zlw_24, zlw_25, zlw_26, zlw_27, zlw_28, zlw_29, zlw_30, zlw_31, zlw_32, zlw_33, zlw_34, zlw_35, zlw_36, zlw_37, zlw_38, zlw_39, zlw_40, zlw_41, zlw_42, zlw_43, zlw_44, zlw_45, zlw_46, zlw_47, zlw_48, zlw_49, zlw_50, zlw_51, zlw_52, zlw_53, zlw_54, zlw_55, zlw_56, zlw_57, zlw_58, zlw_59, zlw_60, zlw_61, zlw_62, zlw_63, zlw_64, zlw_65, zlw_66, zlw_67, zlw_68, zlw_69, zlw_70, zlw_71, zlw_72, zlw_73, zlw_74, zlw_75, zlw_76, zlw_77, zlw_78, zlw_79, zlw_80, zlw_81, zlw_82, Bool.and_self]), rfl⟩
def zcdL : List Nat := List.range 239
