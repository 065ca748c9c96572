set_option maxRecDepth 20000 in
theorem okB_0 : okB pM m_0 = true := by decide +kernel
set_option maxRecDepth 20000 in
theorem okB_1 : okB pM m_1 = true := by decide +kernel
set_option maxRecDepth 20000 in
theorem okB_2 : okB pM m_2 = true := by decide +kernel
set_option maxRecDepth 20000 in
theorem okB_3 : okB pM m_3 = true := by decide +kernel
set_option maxRecDepth 20000 in
theorem okB_4 : okB pM m_4 = true := by decide +kernel
set_option maxRecDepth 20000 in
theorem okB_5 : okB pM m_5 = true := by decide +kernel
set_option maxRecDepth 20000 in
theorem okB_6 : okB pM m_6 = true := by decide +kernel
set_option maxRecDepth 20000 in
theorem okB_7 : okB pM m_7 = true := by decide +kernel
set_option maxRecDepth 20000 in
theorem okB_8 : okB pM m_8 = true := by decide +kernel
set_option maxRecDepth 20000 in
theorem okB_9 : okB pM m_9 = true := by decide +kernel
set_option maxRecDepth 20000 in
theorem okB_10 : okB pM m_10 = true := by decide +kernel
set_option maxRecDepth 20000 in
theorem okB_11 : okB pM m_11 = true := by decide +kernel
set_option maxRecDepth 20000 in
theorem okB_12 : okB pM m_12 = true := by decide +kernel
set_option maxRecDepth 20000 in
theorem okB_13 : okB pM m_13 = true := by decide +kernel
set_option maxRecDepth 20000 in
theorem okB_14 : okB pM m_14 = true := by decide +kernel
set_option maxRecDepth 20000 in
theorem okB_15 : okB pM m_15 = true := by decide +kernel
set_option maxRecDepth 20000 in
theorem okB_16 : okB pM m_16 = true := by decide +kernel
set_option maxRecDepth 20000 in
theorem okB_17 : okB pM m_17 = true := by decide +kernel
set_option maxRecDepth 20000 in
theorem okB_18 : okB pM m_18 = true := by decide +kernel
set_option maxRecDepth 20000 in
theorem okB_19 : okB pM m_19 = true := by decide +kernel
set_option maxRecDepth 20000 in
theorem okB_20 : okB pM m_20 = true := by decide +kernel
set_option maxRecDepth 20000 in
theorem okB_21 : okB pM m_21 = true := by decide +kernel
set_option maxRecDepth 20000 in
theorem okB_22 : okB pM m_22 = true := by decide +kernel
set_option maxRecDepth 20000 in
theorem okB_23 : okB pM m_23 = true := by decide +kernel
set_option maxRecDepth 20000 in
theorem okB_24 : okB pM m_24 = true := by decide +kernel
set_option maxRecDepth 20000 in
theorem okB_25 : okB pM m_25 = true := by decide +kernel
set_option maxRecDepth 20000 in
theorem okB_26 : okB pM m_26 = true := by decide +kernel
set_option maxRecDepth 20000 in
theorem okB_27 : okB pM m_27 = true := by decide +kernel
set_option maxRecDepth 20000 in
theorem okB_28 : okB pM m_28 = true := by decide +kernel
set_option maxRecDepth 20000 in
theorem okB_29 : okB pM m_29 = true := by decide +kernel
set_option maxRecDepth 20000 in
theorem okB_30 : okB pM m_30 = true := by decide +kernel
set_option maxRecDepth 20000 in
theorem okB_31 : okB pM m_31 = true := by decide +kernel
set_option maxRecDepth 20000 in
theorem okB_32 : okB pM m_32 = true := by decide +kernel
set_option maxRecDepth 20000 in
theorem okB_33 : okB pM m_33 = true := by decide +kernel
set_option maxRecDepth 20000 in
theorem okB_34 : okB pM m_34 = true := by decide +kernel
set_option maxRecDepth 20000 in
theorem okB_35 : okB pM m_35 = true := by decide +kernel
set_option maxRecDepth 20000 in
theorem okB_36 : okB pM m_36 = true := by decide +kernel
set_option maxRecDepth 20000 in
theorem okB_37 : okB pM m_37 = true := by decide +kernel
set_option maxRecDepth 20000 in
theorem okB_38 : okB pM m_38 = true := by decide +kernel
set_option maxRecDepth 20000 in
theorem okB_39 : okB pM m_39 = true := by decide +kernel
set_option maxRecDepth 20000 in
theorem okB_40 : okB pM m_40 = true := by decide +kernel
set_option maxRecDepth 20000 in
theorem okB_41 : okB pM m_41 = true := by decide +kernel
set_option maxRecDepth 20000 in
theorem okB_42 : okB pM m_42 = true := by decide +kernel
set_option maxRecDepth 20000 in
theorem okB_43 : okB pM m_43 = true := by decide +kernel
set_option maxRecDepth 20000 in
theorem okB_44 : okB pM m_44 = true := by decide +kernel
set_option maxRecDepth 20000 in
theorem okB_45 : okB pM m_45 = true := by decide +kernel
set_option maxRecDepth 20000 in
theorem okB_46 : okB pM m_46 = true := by decide +kernel
set_option maxRecDepth 20000 in
theorem okB_47 : okB pM m_47 = true := by decide +kernel
set_option maxRecDepth 20000 in
theorem okB_48 : okB pM m_48 = true := by decide +kernel
set_option maxRecDepth 20000 in
theorem okB_49 : okB pM m_49 = true := by decide +kernel
set_option maxRecDepth 20000 in
theorem okB_50 : okB pM m_50 = true := by decide +kernel
set_option maxRecDepth 20000 in
theorem okB_51 : okB pM m_51 = true := by decide +kernel
set_option maxRecDepth 20000 in
theorem okB_52 : okB pM m_52 = true := by decide +kernel
set_option maxRecDepth 20000 in
theorem okB_53 : okB pM m_53 = true := by decide +kernel
set_option maxRecDepth 20000 in
theorem okB_54 : okB pM m_54 = true := by decide +kernel
set_option maxRecDepth 20000 in
theorem okB_55 : okB pM m_55 = true := by decide +kernel
set_option maxRecDepth 20000 in
theorem okB_56 : okB pM m_56 = true := by decide +kernel
set_option maxRecDepth 20000 in
theorem okB_57 : okB pM m_57 = true := by decide +kernel
set_option maxRecDepth 20000 in
theorem okB_58 : okB pM m_58 = true := by decide +kernel
set_option maxRecDepth 20000 in
theorem okB_59 : okB pM m_59 = true := by decide +kernel
set_option maxRecDepth 20000 in
theorem okB_60 : okB pM m_60 = true := by decide +kernel
set_option maxRecDepth 20000 in
theorem okB_61 : okB pM m_61 = true := by decide +kernel
set_option maxRecDepth 20000 in
theorem okB_62 : okB pM m_62 = true := by decide +kernel
set_option maxRecDepth 20000 in
theorem okB_63 : okB pM m_63 = true := by decide +kernel
set_option maxRecDepth 20000 in
theorem okB_64 : okB pM m_64 = true := by decide +kernel
set_option maxRecDepth 20000 in
theorem okB_65 : okB pM m_65 = true := by decide +kernel
set_option maxRecDepth 20000 in
theorem okB_66 : okB pM m_66 = true := by decide +kernel
set_option maxRecDepth 20000 in
theorem okB_67 : okB pM m_67 = true := by decide +kernel
set_option maxRecDepth 20000 in
theorem okB_68 : okB pM m_68 = true := by decide +kernel
set_option maxRecDepth 20000 in
theorem okB_69 : okB pM m_69 = true := by decide +kernel
