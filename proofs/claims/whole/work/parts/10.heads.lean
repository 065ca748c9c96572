set_option maxRecDepth 20000 in
theorem okHd_l : pMs.all okHd = true := by decide +kernel
theorem pM_mem (n : Nat) : pM n ∈ pMs := by
  unfold pM
  rw [List.getD_eq_getElem?_getD]
  cases h : pMs[n]? with
  | none => exact List.mem_append_left _ List.mem_cons_self
  | some q => exact List.mem_of_getElem? h
theorem okHd_all (n : Nat) : okHd (pM n) = true := List.all_eq_true.mp okHd_l _ (pM_mem n)
set_option maxRecDepth 20000 in
theorem cd_0 : Cond.code m_0.1 m_0.2.1 m_0.2.2.1 m_0.2.2.2.1 ∈ lw_gd := gd_at (i := 498) rfl rfl
set_option maxRecDepth 20000 in
theorem cd_1 : Cond.code m_1.1 m_1.2.1 m_1.2.2.1 m_1.2.2.2.1 ∈ lw_gd := gd_at (i := 139) rfl rfl
set_option maxRecDepth 20000 in
theorem cd_2 : Cond.code m_2.1 m_2.2.1 m_2.2.2.1 m_2.2.2.2.1 ∈ lw_gd := gd_at (i := 147) rfl rfl
set_option maxRecDepth 20000 in
theorem cd_3 : Cond.code m_3.1 m_3.2.1 m_3.2.2.1 m_3.2.2.2.1 ∈ lw_gd := gd_at (i := 153) rfl rfl
set_option maxRecDepth 20000 in
theorem cd_4 : Cond.code m_4.1 m_4.2.1 m_4.2.2.1 m_4.2.2.2.1 ∈ lw_gd := gd_at (i := 158) rfl rfl
set_option maxRecDepth 20000 in
theorem cd_5 : Cond.code m_5.1 m_5.2.1 m_5.2.2.1 m_5.2.2.2.1 ∈ lw_gd := gd_at (i := 162) rfl rfl
set_option maxRecDepth 20000 in
theorem cd_6 : Cond.code m_6.1 m_6.2.1 m_6.2.2.1 m_6.2.2.2.1 ∈ lw_gd := gd_at (i := 216) rfl rfl
set_option maxRecDepth 20000 in
theorem cd_7 : Cond.code m_7.1 m_7.2.1 m_7.2.2.1 m_7.2.2.2.1 ∈ lw_gd := gd_at (i := 233) rfl rfl
set_option maxRecDepth 20000 in
theorem cd_8 : Cond.code m_8.1 m_8.2.1 m_8.2.2.1 m_8.2.2.2.1 ∈ lw_gd := gd_at (i := 243) rfl rfl
set_option maxRecDepth 20000 in
theorem cd_9 : Cond.code m_9.1 m_9.2.1 m_9.2.2.1 m_9.2.2.2.1 ∈ lw_gd := gd_at (i := 280) rfl rfl
set_option maxRecDepth 20000 in
theorem cd_10 : Cond.code m_10.1 m_10.2.1 m_10.2.2.1 m_10.2.2.2.1 ∈ lw_gd := gd_at (i := 309) rfl rfl
set_option maxRecDepth 20000 in
theorem cd_11 : Cond.code m_11.1 m_11.2.1 m_11.2.2.1 m_11.2.2.2.1 ∈ lw_gd := gd_at (i := 336) rfl rfl
set_option maxRecDepth 20000 in
theorem cd_12 : Cond.code m_12.1 m_12.2.1 m_12.2.2.1 m_12.2.2.2.1 ∈ lw_gd := gd_at (i := 352) rfl rfl
set_option maxRecDepth 20000 in
theorem cd_13 : Cond.code m_13.1 m_13.2.1 m_13.2.2.1 m_13.2.2.2.1 ∈ lw_gd := gd_at (i := 375) rfl rfl
set_option maxRecDepth 20000 in
theorem cd_14 : Cond.code m_14.1 m_14.2.1 m_14.2.2.1 m_14.2.2.2.1 ∈ lw_gd := gd_at (i := 450) rfl rfl
set_option maxRecDepth 20000 in
theorem cd_15 : Cond.code m_15.1 m_15.2.1 m_15.2.2.1 m_15.2.2.2.1 ∈ lw_gd := gd_at (i := 454) rfl rfl
set_option maxRecDepth 20000 in
theorem cd_16 : Cond.code m_16.1 m_16.2.1 m_16.2.2.1 m_16.2.2.2.1 ∈ lw_gd := gd_at (i := 458) rfl rfl
set_option maxRecDepth 20000 in
theorem cd_17 : Cond.code m_17.1 m_17.2.1 m_17.2.2.1 m_17.2.2.2.1 ∈ lw_gd := gd_at (i := 463) rfl rfl
set_option maxRecDepth 20000 in
theorem cd_18 : Cond.code m_18.1 m_18.2.1 m_18.2.2.1 m_18.2.2.2.1 ∈ lw_gd := gd_at (i := 467) rfl rfl
set_option maxRecDepth 20000 in
theorem cd_19 : Cond.code m_19.1 m_19.2.1 m_19.2.2.1 m_19.2.2.2.1 ∈ lw_gd := gd_at (i := 471) rfl rfl
set_option maxRecDepth 20000 in
theorem cd_20 : Cond.code m_20.1 m_20.2.1 m_20.2.2.1 m_20.2.2.2.1 ∈ lw_gd := gd_at (i := 476) rfl rfl
set_option maxRecDepth 20000 in
theorem cd_21 : Cond.code m_21.1 m_21.2.1 m_21.2.2.1 m_21.2.2.2.1 ∈ lw_gd := gd_at (i := 479) rfl rfl
set_option maxRecDepth 20000 in
theorem cd_22 : Cond.code m_22.1 m_22.2.1 m_22.2.2.1 m_22.2.2.2.1 ∈ lw_gd := gd_at (i := 482) rfl rfl
set_option maxRecDepth 20000 in
theorem cd_23 : Cond.code m_23.1 m_23.2.1 m_23.2.2.1 m_23.2.2.2.1 ∈ lw_gd := gd_at (i := 485) rfl rfl
set_option maxRecDepth 20000 in
theorem cd_24 : Cond.code m_24.1 m_24.2.1 m_24.2.2.1 m_24.2.2.2.1 ∈ lw_gd := gd_at (i := 488) rfl rfl
set_option maxRecDepth 20000 in
theorem cd_25 : Cond.code m_25.1 m_25.2.1 m_25.2.2.1 m_25.2.2.2.1 ∈ lw_gd := gd_at (i := 491) rfl rfl
set_option maxRecDepth 20000 in
theorem cd_26 : Cond.code m_26.1 m_26.2.1 m_26.2.2.1 m_26.2.2.2.1 ∈ lw_gd := gd_at (i := 495) rfl rfl
set_option maxRecDepth 20000 in
theorem cd_27 : Cond.code m_27.1 m_27.2.1 m_27.2.2.1 m_27.2.2.2.1 ∈ lw_gd := gd_at (i := 505) rfl rfl
set_option maxRecDepth 20000 in
theorem cd_28 : Cond.code m_28.1 m_28.2.1 m_28.2.2.1 m_28.2.2.2.1 ∈ lw_gd := gd_at (i := 509) rfl rfl
set_option maxRecDepth 20000 in
theorem cd_29 : Cond.code m_29.1 m_29.2.1 m_29.2.2.1 m_29.2.2.2.1 ∈ lw_gd := gd_at (i := 514) rfl rfl
set_option maxRecDepth 20000 in
theorem cd_30 : Cond.code m_30.1 m_30.2.1 m_30.2.2.1 m_30.2.2.2.1 ∈ lw_gd := gd_at (i := 520) rfl rfl
set_option maxRecDepth 20000 in
theorem cd_31 : Cond.code m_31.1 m_31.2.1 m_31.2.2.1 m_31.2.2.2.1 ∈ lw_gd := gd_at (i := 525) rfl rfl
set_option maxRecDepth 20000 in
theorem cd_32 : Cond.code m_32.1 m_32.2.1 m_32.2.2.1 m_32.2.2.2.1 ∈ lw_gd := gd_at (i := 529) rfl rfl
set_option maxRecDepth 20000 in
theorem cd_33 : Cond.code m_33.1 m_33.2.1 m_33.2.2.1 m_33.2.2.2.1 ∈ lw_gd := gd_at (i := 534) rfl rfl
set_option maxRecDepth 20000 in
theorem cd_34 : Cond.code m_34.1 m_34.2.1 m_34.2.2.1 m_34.2.2.2.1 ∈ lw_gd := gd_at (i := 538) rfl rfl
set_option maxRecDepth 20000 in
theorem cd_35 : Cond.code m_35.1 m_35.2.1 m_35.2.2.1 m_35.2.2.2.1 ∈ lw_gd := gd_at (i := 542) rfl rfl
set_option maxRecDepth 20000 in
theorem cd_36 : Cond.code m_36.1 m_36.2.1 m_36.2.2.1 m_36.2.2.2.1 ∈ lw_gd := gd_at (i := 546) rfl rfl
set_option maxRecDepth 20000 in
theorem cd_37 : Cond.code m_37.1 m_37.2.1 m_37.2.2.1 m_37.2.2.2.1 ∈ lw_gd := gd_at (i := 550) rfl rfl
set_option maxRecDepth 20000 in
theorem cd_38 : Cond.code m_38.1 m_38.2.1 m_38.2.2.1 m_38.2.2.2.1 ∈ lw_gd := gd_at (i := 557) rfl rfl
set_option maxRecDepth 20000 in
theorem cd_39 : Cond.code m_39.1 m_39.2.1 m_39.2.2.1 m_39.2.2.2.1 ∈ lw_gd := gd_at (i := 561) rfl rfl
set_option maxRecDepth 20000 in
theorem cd_40 : Cond.code m_40.1 m_40.2.1 m_40.2.2.1 m_40.2.2.2.1 ∈ lw_gd := gd_at (i := 565) rfl rfl
set_option maxRecDepth 20000 in
theorem cd_41 : Cond.code m_41.1 m_41.2.1 m_41.2.2.1 m_41.2.2.2.1 ∈ lw_gd := gd_at (i := 569) rfl rfl
set_option maxRecDepth 20000 in
theorem cd_42 : Cond.code m_42.1 m_42.2.1 m_42.2.2.1 m_42.2.2.2.1 ∈ lw_gd := gd_at (i := 574) rfl rfl
set_option maxRecDepth 20000 in
theorem cd_43 : Cond.code m_43.1 m_43.2.1 m_43.2.2.1 m_43.2.2.2.1 ∈ lw_gd := gd_at (i := 578) rfl rfl
set_option maxRecDepth 20000 in
theorem cd_44 : Cond.code m_44.1 m_44.2.1 m_44.2.2.1 m_44.2.2.2.1 ∈ lw_gd := gd_at (i := 583) rfl rfl
set_option maxRecDepth 20000 in
theorem cd_45 : Cond.code m_45.1 m_45.2.1 m_45.2.2.1 m_45.2.2.2.1 ∈ lw_gd := gd_at (i := 587) rfl rfl
set_option maxRecDepth 20000 in
theorem cd_46 : Cond.code m_46.1 m_46.2.1 m_46.2.2.1 m_46.2.2.2.1 ∈ lw_gd := gd_at (i := 591) rfl rfl
set_option maxRecDepth 20000 in
theorem cd_47 : Cond.code m_47.1 m_47.2.1 m_47.2.2.1 m_47.2.2.2.1 ∈ lw_gd := gd_at (i := 595) rfl rfl
set_option maxRecDepth 20000 in
theorem cd_48 : Cond.code m_48.1 m_48.2.1 m_48.2.2.1 m_48.2.2.2.1 ∈ lw_gd := gd_at (i := 599) rfl rfl
set_option maxRecDepth 20000 in
theorem cd_49 : Cond.code m_49.1 m_49.2.1 m_49.2.2.1 m_49.2.2.2.1 ∈ lw_gd := gd_at (i := 603) rfl rfl
set_option maxRecDepth 20000 in
theorem cd_50 : Cond.code m_50.1 m_50.2.1 m_50.2.2.1 m_50.2.2.2.1 ∈ lw_gd := gd_at (i := 608) rfl rfl
set_option maxRecDepth 20000 in
theorem cd_51 : Cond.code m_51.1 m_51.2.1 m_51.2.2.1 m_51.2.2.2.1 ∈ lw_gd := gd_at (i := 613) rfl rfl
set_option maxRecDepth 20000 in
theorem cd_52 : Cond.code m_52.1 m_52.2.1 m_52.2.2.1 m_52.2.2.2.1 ∈ lw_gd := gd_at (i := 618) rfl rfl
set_option maxRecDepth 20000 in
theorem cd_53 : Cond.code m_53.1 m_53.2.1 m_53.2.2.1 m_53.2.2.2.1 ∈ lw_gd := gd_at (i := 622) rfl rfl
set_option maxRecDepth 20000 in
theorem cd_54 : Cond.code m_54.1 m_54.2.1 m_54.2.2.1 m_54.2.2.2.1 ∈ lw_gd := gd_at (i := 626) rfl rfl
set_option maxRecDepth 20000 in
theorem cd_55 : Cond.code m_55.1 m_55.2.1 m_55.2.2.1 m_55.2.2.2.1 ∈ lw_gd := gd_at (i := 630) rfl rfl
set_option maxRecDepth 20000 in
theorem cd_56 : Cond.code m_56.1 m_56.2.1 m_56.2.2.1 m_56.2.2.2.1 ∈ lw_gd := gd_at (i := 638) rfl rfl
set_option maxRecDepth 20000 in
theorem cd_57 : Cond.code m_57.1 m_57.2.1 m_57.2.2.1 m_57.2.2.2.1 ∈ lw_gd := gd_at (i := 642) rfl rfl
set_option maxRecDepth 20000 in
theorem cd_58 : Cond.code m_58.1 m_58.2.1 m_58.2.2.1 m_58.2.2.2.1 ∈ lw_gd := gd_at (i := 646) rfl rfl
set_option maxRecDepth 20000 in
theorem cd_59 : Cond.code m_59.1 m_59.2.1 m_59.2.2.1 m_59.2.2.2.1 ∈ lw_gd := gd_at (i := 650) rfl rfl
set_option maxRecDepth 20000 in
theorem cd_60 : Cond.code m_60.1 m_60.2.1 m_60.2.2.1 m_60.2.2.2.1 ∈ lw_gd := gd_at (i := 654) rfl rfl
set_option maxRecDepth 20000 in
theorem cd_61 : Cond.code m_61.1 m_61.2.1 m_61.2.2.1 m_61.2.2.2.1 ∈ lw_gd := gd_at (i := 658) rfl rfl
set_option maxRecDepth 20000 in
theorem cd_62 : Cond.code m_62.1 m_62.2.1 m_62.2.2.1 m_62.2.2.2.1 ∈ lw_gd := gd_at (i := 662) rfl rfl
set_option maxRecDepth 20000 in
theorem cd_63 : Cond.code m_63.1 m_63.2.1 m_63.2.2.1 m_63.2.2.2.1 ∈ lw_gd := gd_at (i := 666) rfl rfl
set_option maxRecDepth 20000 in
theorem cd_64 : Cond.code m_64.1 m_64.2.1 m_64.2.2.1 m_64.2.2.2.1 ∈ lw_gd := gd_at (i := 670) rfl rfl
set_option maxRecDepth 20000 in
theorem cd_65 : Cond.code m_65.1 m_65.2.1 m_65.2.2.1 m_65.2.2.2.1 ∈ lw_gd := gd_at (i := 675) rfl rfl
set_option maxRecDepth 20000 in
theorem cd_66 : Cond.code m_66.1 m_66.2.1 m_66.2.2.1 m_66.2.2.2.1 ∈ lw_gd := gd_at (i := 679) rfl rfl
set_option maxRecDepth 20000 in
theorem cd_67 : Cond.code m_67.1 m_67.2.1 m_67.2.2.1 m_67.2.2.2.1 ∈ lw_gd := gd_at (i := 683) rfl rfl
set_option maxRecDepth 20000 in
theorem cd_68 : Cond.code m_68.1 m_68.2.1 m_68.2.2.1 m_68.2.2.2.1 ∈ lw_gd := gd_at (i := 687) rfl rfl
set_option maxRecDepth 20000 in
theorem cd_69 : Cond.code m_69.1 m_69.2.1 m_69.2.2.1 m_69.2.2.2.1 ∈ lw_gd := gd_at (i := 691) rfl rfl
set_option maxRecDepth 20000 in
theorem cd_70 : Cond.code m_70.1 m_70.2.1 m_70.2.2.1 m_70.2.2.2.1 ∈ lw_gd := gd_at (i := 695) rfl rfl
set_option maxRecDepth 20000 in
theorem cd_71 : Cond.code m_71.1 m_71.2.1 m_71.2.2.1 m_71.2.2.2.1 ∈ lw_gd := gd_at (i := 699) rfl rfl
set_option maxRecDepth 20000 in
theorem cd_72 : Cond.code m_72.1 m_72.2.1 m_72.2.2.1 m_72.2.2.2.1 ∈ lw_gd := gd_at (i := 704) rfl rfl
set_option maxRecDepth 20000 in
theorem cd_73 : Cond.code m_73.1 m_73.2.1 m_73.2.2.1 m_73.2.2.2.1 ∈ lw_gd := gd_at (i := 708) rfl rfl
set_option maxRecDepth 20000 in
theorem cd_74 : Cond.code m_74.1 m_74.2.1 m_74.2.2.1 m_74.2.2.2.1 ∈ lw_gd := gd_at (i := 712) rfl rfl
set_option maxRecDepth 20000 in
theorem cd_75 : Cond.code m_75.1 m_75.2.1 m_75.2.2.1 m_75.2.2.2.1 ∈ lw_gd := gd_at (i := 716) rfl rfl
set_option maxRecDepth 20000 in
theorem cd_76 : Cond.code m_76.1 m_76.2.1 m_76.2.2.1 m_76.2.2.2.1 ∈ lw_gd := gd_at (i := 721) rfl rfl
set_option maxRecDepth 20000 in
theorem cd_77 : Cond.code m_77.1 m_77.2.1 m_77.2.2.1 m_77.2.2.2.1 ∈ lw_gd := gd_at (i := 725) rfl rfl
set_option maxRecDepth 20000 in
theorem cd_78 : Cond.code m_78.1 m_78.2.1 m_78.2.2.1 m_78.2.2.2.1 ∈ lw_gd := gd_at (i := 729) rfl rfl
set_option maxRecDepth 20000 in
theorem cd_79 : Cond.code m_79.1 m_79.2.1 m_79.2.2.1 m_79.2.2.2.1 ∈ lw_gd := gd_at (i := 733) rfl rfl
set_option maxRecDepth 20000 in
theorem cd_80 : Cond.code m_80.1 m_80.2.1 m_80.2.2.1 m_80.2.2.2.1 ∈ lw_gd := gd_at (i := 740) rfl rfl
set_option maxRecDepth 20000 in
theorem cd_81 : Cond.code m_81.1 m_81.2.1 m_81.2.2.1 m_81.2.2.2.1 ∈ lw_gd := gd_at (i := 744) rfl rfl
set_option maxRecDepth 20000 in
theorem cd_82 : Cond.code m_82.1 m_82.2.1 m_82.2.2.1 m_82.2.2.2.1 ∈ lw_gd := gd_at (i := 748) rfl rfl
set_option maxRecDepth 20000 in
theorem cd_83 : Cond.code m_83.1 m_83.2.1 m_83.2.2.1 m_83.2.2.2.1 ∈ lw_gd := gd_at (i := 752) rfl rfl
set_option maxRecDepth 20000 in
theorem cd_84 : Cond.code m_84.1 m_84.2.1 m_84.2.2.1 m_84.2.2.2.1 ∈ lw_gd := gd_at (i := 756) rfl rfl
set_option maxRecDepth 20000 in
theorem cd_85 : Cond.code m_85.1 m_85.2.1 m_85.2.2.1 m_85.2.2.2.1 ∈ lw_gd := gd_at (i := 760) rfl rfl
set_option maxRecDepth 20000 in
theorem cd_86 : Cond.code m_86.1 m_86.2.1 m_86.2.2.1 m_86.2.2.2.1 ∈ lw_gd := gd_at (i := 764) rfl rfl
set_option maxRecDepth 20000 in
theorem cd_87 : Cond.code m_87.1 m_87.2.1 m_87.2.2.1 m_87.2.2.2.1 ∈ lw_gd := gd_at (i := 767) rfl rfl
set_option maxRecDepth 20000 in
theorem cd_88 : Cond.code m_88.1 m_88.2.1 m_88.2.2.1 m_88.2.2.2.1 ∈ lw_gd := gd_at (i := 773) rfl rfl
set_option maxRecDepth 20000 in
theorem cd_89 : Cond.code m_89.1 m_89.2.1 m_89.2.2.1 m_89.2.2.2.1 ∈ lw_gd := gd_at (i := 780) rfl rfl
set_option maxRecDepth 20000 in
theorem cd_90 : Cond.code m_90.1 m_90.2.1 m_90.2.2.1 m_90.2.2.2.1 ∈ lw_gd := gd_at (i := 784) rfl rfl
set_option maxRecDepth 20000 in
theorem cd_91 : Cond.code m_91.1 m_91.2.1 m_91.2.2.1 m_91.2.2.2.1 ∈ lw_gd := gd_at (i := 788) rfl rfl
set_option maxRecDepth 20000 in
theorem cd_92 : Cond.code m_92.1 m_92.2.1 m_92.2.2.1 m_92.2.2.2.1 ∈ lw_gd := gd_at (i := 793) rfl rfl
set_option maxRecDepth 20000 in
theorem cd_93 : Cond.code m_93.1 m_93.2.1 m_93.2.2.1 m_93.2.2.2.1 ∈ lw_gd := gd_at (i := 797) rfl rfl
set_option maxRecDepth 20000 in
theorem cd_94 : Cond.code m_94.1 m_94.2.1 m_94.2.2.1 m_94.2.2.2.1 ∈ lw_gd := gd_at (i := 801) rfl rfl
set_option maxRecDepth 20000 in
theorem cd_95 : Cond.code m_95.1 m_95.2.1 m_95.2.2.1 m_95.2.2.2.1 ∈ lw_gd := gd_at (i := 804) rfl rfl
set_option maxRecDepth 20000 in
theorem cd_96 : Cond.code m_96.1 m_96.2.1 m_96.2.2.1 m_96.2.2.2.1 ∈ lw_gd := gd_at (i := 809) rfl rfl
set_option maxRecDepth 20000 in
theorem cd_97 : Cond.code m_97.1 m_97.2.1 m_97.2.2.1 m_97.2.2.2.1 ∈ lw_gd := gd_at (i := 813) rfl rfl
set_option maxRecDepth 20000 in
theorem cd_98 : Cond.code m_98.1 m_98.2.1 m_98.2.2.1 m_98.2.2.2.1 ∈ lw_gd := gd_at (i := 817) rfl rfl
set_option maxRecDepth 20000 in
theorem cd_99 : Cond.code m_99.1 m_99.2.1 m_99.2.2.1 m_99.2.2.2.1 ∈ lw_gd := gd_at (i := 821) rfl rfl
set_option maxRecDepth 20000 in
theorem cd_100 : Cond.code m_100.1 m_100.2.1 m_100.2.2.1 m_100.2.2.2.1 ∈ lw_gd := gd_at (i := 825) rfl rfl
set_option maxRecDepth 20000 in
theorem cd_101 : Cond.code m_101.1 m_101.2.1 m_101.2.2.1 m_101.2.2.2.1 ∈ lw_gd := gd_at (i := 829) rfl rfl
set_option maxRecDepth 20000 in
theorem cd_102 : Cond.code m_102.1 m_102.2.1 m_102.2.2.1 m_102.2.2.2.1 ∈ lw_gd := gd_at (i := 833) rfl rfl
set_option maxRecDepth 20000 in
theorem cd_103 : Cond.code m_103.1 m_103.2.1 m_103.2.2.1 m_103.2.2.2.1 ∈ lw_gd := gd_at (i := 837) rfl rfl
set_option maxRecDepth 20000 in
theorem cd_104 : Cond.code m_104.1 m_104.2.1 m_104.2.2.1 m_104.2.2.2.1 ∈ lw_gd := gd_at (i := 841) rfl rfl
set_option maxRecDepth 20000 in
theorem cd_105 : Cond.code m_105.1 m_105.2.1 m_105.2.2.1 m_105.2.2.2.1 ∈ lw_gd := gd_at (i := 845) rfl rfl
set_option maxRecDepth 20000 in
theorem cd_106 : Cond.code m_106.1 m_106.2.1 m_106.2.2.1 m_106.2.2.2.1 ∈ lw_gd := gd_at (i := 850) rfl rfl
set_option maxRecDepth 20000 in
theorem cd_107 : Cond.code m_107.1 m_107.2.1 m_107.2.2.1 m_107.2.2.2.1 ∈ lw_gd := gd_at (i := 855) rfl rfl
set_option maxRecDepth 20000 in
theorem cd_108 : Cond.code m_108.1 m_108.2.1 m_108.2.2.1 m_108.2.2.2.1 ∈ lw_gd := gd_at (i := 860) rfl rfl
set_option maxRecDepth 20000 in
theorem cd_109 : Cond.code m_109.1 m_109.2.1 m_109.2.2.1 m_109.2.2.2.1 ∈ lw_gd := gd_at (i := 864) rfl rfl
set_option maxRecDepth 20000 in
theorem cd_110 : Cond.code m_110.1 m_110.2.1 m_110.2.2.1 m_110.2.2.2.1 ∈ lw_gd := gd_at (i := 868) rfl rfl
set_option maxRecDepth 20000 in
theorem cd_111 : Cond.code m_111.1 m_111.2.1 m_111.2.2.1 m_111.2.2.2.1 ∈ lw_gd := gd_at (i := 872) rfl rfl
set_option maxRecDepth 20000 in
theorem cd_112 : Cond.code m_112.1 m_112.2.1 m_112.2.2.1 m_112.2.2.2.1 ∈ lw_gd := gd_at (i := 878) rfl rfl
set_option maxRecDepth 20000 in
theorem cd_113 : Cond.code m_113.1 m_113.2.1 m_113.2.2.1 m_113.2.2.2.1 ∈ lw_gd := gd_at (i := 882) rfl rfl
set_option maxRecDepth 20000 in
theorem cd_114 : Cond.code m_114.1 m_114.2.1 m_114.2.2.1 m_114.2.2.2.1 ∈ lw_gd := gd_at (i := 886) rfl rfl
set_option maxRecDepth 20000 in
theorem cd_115 : Cond.code m_115.1 m_115.2.1 m_115.2.2.1 m_115.2.2.2.1 ∈ lw_gd := gd_at (i := 890) rfl rfl
set_option maxRecDepth 20000 in
theorem cd_116 : Cond.code m_116.1 m_116.2.1 m_116.2.2.1 m_116.2.2.2.1 ∈ lw_gd := gd_at (i := 894) rfl rfl
set_option maxRecDepth 20000 in
theorem cd_117 : Cond.code m_117.1 m_117.2.1 m_117.2.2.1 m_117.2.2.2.1 ∈ lw_gd := gd_at (i := 898) rfl rfl
set_option maxRecDepth 20000 in
theorem cd_118 : Cond.code m_118.1 m_118.2.1 m_118.2.2.1 m_118.2.2.2.1 ∈ lw_gd := gd_at (i := 902) rfl rfl
set_option maxRecDepth 20000 in
theorem cd_119 : Cond.code m_119.1 m_119.2.1 m_119.2.2.1 m_119.2.2.2.1 ∈ lw_gd := gd_at (i := 906) rfl rfl
set_option maxRecDepth 20000 in
theorem cd_120 : Cond.code m_120.1 m_120.2.1 m_120.2.2.1 m_120.2.2.2.1 ∈ lw_gd := gd_at (i := 910) rfl rfl
set_option maxRecDepth 20000 in
theorem cd_121 : Cond.code m_121.1 m_121.2.1 m_121.2.2.1 m_121.2.2.2.1 ∈ lw_gd := gd_at (i := 915) rfl rfl
set_option maxRecDepth 20000 in
theorem cd_122 : Cond.code m_122.1 m_122.2.1 m_122.2.2.1 m_122.2.2.2.1 ∈ lw_gd := gd_at (i := 918) rfl rfl
set_option maxRecDepth 20000 in
theorem cd_123 : Cond.code m_123.1 m_123.2.1 m_123.2.2.1 m_123.2.2.2.1 ∈ lw_gd := gd_at (i := 921) rfl rfl
set_option maxRecDepth 20000 in
theorem cd_124 : Cond.code m_124.1 m_124.2.1 m_124.2.2.1 m_124.2.2.2.1 ∈ lw_gd := gd_at (i := 924) rfl rfl
set_option maxRecDepth 20000 in
theorem cd_125 : Cond.code m_125.1 m_125.2.1 m_125.2.2.1 m_125.2.2.2.1 ∈ lw_gd := gd_at (i := 928) rfl rfl
set_option maxRecDepth 20000 in
theorem cd_126 : Cond.code m_126.1 m_126.2.1 m_126.2.2.1 m_126.2.2.2.1 ∈ lw_gd := gd_at (i := 931) rfl rfl
set_option maxRecDepth 20000 in
theorem cd_127 : Cond.code m_127.1 m_127.2.1 m_127.2.2.1 m_127.2.2.2.1 ∈ lw_gd := gd_at (i := 936) rfl rfl
set_option maxRecDepth 20000 in
theorem cd_128 : Cond.code m_128.1 m_128.2.1 m_128.2.2.1 m_128.2.2.2.1 ∈ lw_gd := gd_at (i := 940) rfl rfl
set_option maxRecDepth 20000 in
theorem cd_129 : Cond.code m_129.1 m_129.2.1 m_129.2.2.1 m_129.2.2.2.1 ∈ lw_gd := gd_at (i := 944) rfl rfl
set_option maxRecDepth 20000 in
theorem cd_130 : Cond.code m_130.1 m_130.2.1 m_130.2.2.1 m_130.2.2.2.1 ∈ lw_gd := gd_at (i := 948) rfl rfl
set_option maxRecDepth 20000 in
theorem cd_131 : Cond.code m_131.1 m_131.2.1 m_131.2.2.1 m_131.2.2.2.1 ∈ lw_gd := gd_at (i := 952) rfl rfl
set_option maxRecDepth 20000 in
theorem cd_132 : Cond.code m_132.1 m_132.2.1 m_132.2.2.1 m_132.2.2.2.1 ∈ lw_gd := gd_at (i := 956) rfl rfl
set_option maxRecDepth 20000 in
theorem cd_133 : Cond.code m_133.1 m_133.2.1 m_133.2.2.1 m_133.2.2.2.1 ∈ lw_gd := gd_at (i := 960) rfl rfl
set_option maxRecDepth 20000 in
theorem cd_134 : Cond.code m_134.1 m_134.2.1 m_134.2.2.1 m_134.2.2.2.1 ∈ lw_gd := gd_at (i := 963) rfl rfl
set_option maxRecDepth 20000 in
theorem cd_135 : Cond.code m_135.1 m_135.2.1 m_135.2.2.1 m_135.2.2.2.1 ∈ lw_gd := gd_at (i := 967) rfl rfl
set_option maxRecDepth 20000 in
theorem cd_136 : Cond.code m_136.1 m_136.2.1 m_136.2.2.1 m_136.2.2.2.1 ∈ lw_gd := gd_at (i := 971) rfl rfl
set_option maxRecDepth 20000 in
theorem cd_137 : Cond.code m_137.1 m_137.2.1 m_137.2.2.1 m_137.2.2.2.1 ∈ lw_gd := gd_at (i := 975) rfl rfl
set_option maxRecDepth 20000 in
theorem cd_138 : Cond.code m_138.1 m_138.2.1 m_138.2.2.1 m_138.2.2.2.1 ∈ lw_gd := gd_at (i := 979) rfl rfl
set_option maxRecDepth 20000 in
theorem cd_139 : Cond.code m_139.1 m_139.2.1 m_139.2.2.1 m_139.2.2.2.1 ∈ lw_gd := gd_at (i := 983) rfl rfl
set_option maxRecDepth 20000 in
theorem cd_140 : Cond.code m_140.1 m_140.2.1 m_140.2.2.1 m_140.2.2.2.1 ∈ lw_gd := gd_at (i := 987) rfl rfl
set_option maxRecDepth 20000 in
theorem cd_141 : Cond.code m_141.1 m_141.2.1 m_141.2.2.1 m_141.2.2.2.1 ∈ lw_gd := gd_at (i := 991) rfl rfl
set_option maxRecDepth 20000 in
theorem cd_142 : Cond.code m_142.1 m_142.2.1 m_142.2.2.1 m_142.2.2.2.1 ∈ lw_gd := gd_at (i := 995) rfl rfl
set_option maxRecDepth 20000 in
theorem cd_143 : Cond.code m_143.1 m_143.2.1 m_143.2.2.1 m_143.2.2.2.1 ∈ lw_gd := gd_at (i := 1001) rfl rfl
set_option maxRecDepth 20000 in
theorem cd_144 : Cond.code m_144.1 m_144.2.1 m_144.2.2.1 m_144.2.2.2.1 ∈ lw_gd := gd_at (i := 1006) rfl rfl
set_option maxRecDepth 20000 in
theorem cd_145 : Cond.code m_145.1 m_145.2.1 m_145.2.2.1 m_145.2.2.2.1 ∈ lw_gd := gd_at (i := 1011) rfl rfl
set_option maxRecDepth 20000 in
theorem cd_146 : Cond.code m_146.1 m_146.2.1 m_146.2.2.1 m_146.2.2.2.1 ∈ lw_gd := gd_at (i := 1124) rfl rfl
set_option maxRecDepth 20000 in
theorem cd_147 : Cond.code m_147.1 m_147.2.1 m_147.2.2.1 m_147.2.2.2.1 ∈ lw_gd := gd_at (i := 1128) rfl rfl
set_option maxRecDepth 20000 in
theorem cd_148 : Cond.code m_148.1 m_148.2.1 m_148.2.2.1 m_148.2.2.2.1 ∈ lw_gd := gd_at (i := 1132) rfl rfl
set_option maxRecDepth 20000 in
theorem cd_149 : Cond.code m_149.1 m_149.2.1 m_149.2.2.1 m_149.2.2.2.1 ∈ lw_gd := gd_at (i := 1136) rfl rfl
set_option maxRecDepth 20000 in
theorem cd_150 : Cond.code m_150.1 m_150.2.1 m_150.2.2.1 m_150.2.2.2.1 ∈ lw_gd := gd_at (i := 1140) rfl rfl
set_option maxRecDepth 20000 in
theorem cd_151 : Cond.code m_151.1 m_151.2.1 m_151.2.2.1 m_151.2.2.2.1 ∈ lw_gd := gd_at (i := 1144) rfl rfl
set_option maxRecDepth 20000 in
theorem cd_152 : Cond.code m_152.1 m_152.2.1 m_152.2.2.1 m_152.2.2.2.1 ∈ lw_gd := gd_at (i := 1148) rfl rfl
set_option maxRecDepth 20000 in
theorem cd_153 : Cond.code m_153.1 m_153.2.1 m_153.2.2.1 m_153.2.2.2.1 ∈ lw_gd := gd_at (i := 1152) rfl rfl
set_option maxRecDepth 20000 in
theorem cd_154 : Cond.code m_154.1 m_154.2.1 m_154.2.2.1 m_154.2.2.2.1 ∈ lw_gd := gd_at (i := 1156) rfl rfl
set_option maxRecDepth 20000 in
theorem cd_155 : Cond.code m_155.1 m_155.2.1 m_155.2.2.1 m_155.2.2.2.1 ∈ lw_gd := gd_at (i := 1161) rfl rfl
set_option maxRecDepth 20000 in
theorem cd_156 : Cond.code m_156.1 m_156.2.1 m_156.2.2.1 m_156.2.2.2.1 ∈ lw_gd := gd_at (i := 1165) rfl rfl
set_option maxRecDepth 20000 in
theorem cd_157 : Cond.code m_157.1 m_157.2.1 m_157.2.2.1 m_157.2.2.2.1 ∈ lw_gd := gd_at (i := 1169) rfl rfl
set_option maxRecDepth 20000 in
theorem cd_158 : Cond.code m_158.1 m_158.2.1 m_158.2.2.1 m_158.2.2.2.1 ∈ lw_gd := gd_at (i := 1173) rfl rfl
set_option maxRecDepth 20000 in
theorem cd_159 : Cond.code m_159.1 m_159.2.1 m_159.2.2.1 m_159.2.2.2.1 ∈ lw_gd := gd_at (i := 1176) rfl rfl
set_option maxRecDepth 20000 in
theorem cd_160 : Cond.code m_160.1 m_160.2.1 m_160.2.2.1 m_160.2.2.2.1 ∈ lw_gd := gd_at (i := 1182) rfl rfl
set_option maxRecDepth 20000 in
theorem cd_161 : Cond.code m_161.1 m_161.2.1 m_161.2.2.1 m_161.2.2.2.1 ∈ lw_gd := gd_at (i := 1185) rfl rfl
set_option maxRecDepth 20000 in
theorem cd_162 : Cond.code m_162.1 m_162.2.1 m_162.2.2.1 m_162.2.2.2.1 ∈ lw_gd := gd_at (i := 1188) rfl rfl
set_option maxRecDepth 20000 in
theorem cd_163 : Cond.code m_163.1 m_163.2.1 m_163.2.2.1 m_163.2.2.2.1 ∈ lw_gd := gd_at (i := 1192) rfl rfl
set_option maxRecDepth 20000 in
theorem cd_164 : Cond.code m_164.1 m_164.2.1 m_164.2.2.1 m_164.2.2.2.1 ∈ lw_gd := gd_at (i := 1196) rfl rfl
set_option maxRecDepth 20000 in
theorem cd_165 : Cond.code m_165.1 m_165.2.1 m_165.2.2.1 m_165.2.2.2.1 ∈ lw_gd := gd_at (i := 1200) rfl rfl
set_option maxRecDepth 20000 in
theorem cd_166 : Cond.code m_166.1 m_166.2.1 m_166.2.2.1 m_166.2.2.2.1 ∈ lw_gd := gd_at (i := 1204) rfl rfl
set_option maxRecDepth 20000 in
theorem cd_167 : Cond.code m_167.1 m_167.2.1 m_167.2.2.1 m_167.2.2.2.1 ∈ lw_gd := gd_at (i := 1207) rfl rfl
set_option maxRecDepth 20000 in
theorem cd_168 : Cond.code m_168.1 m_168.2.1 m_168.2.2.1 m_168.2.2.2.1 ∈ lw_gd := gd_at (i := 1210) rfl rfl
set_option maxRecDepth 20000 in
theorem cd_169 : Cond.code m_169.1 m_169.2.1 m_169.2.2.1 m_169.2.2.2.1 ∈ lw_gd := gd_at (i := 1213) rfl rfl
set_option maxRecDepth 20000 in
theorem cd_170 : Cond.code m_170.1 m_170.2.1 m_170.2.2.1 m_170.2.2.2.1 ∈ lw_gd := gd_at (i := 1217) rfl rfl
set_option maxRecDepth 20000 in
theorem cd_171 : Cond.code m_171.1 m_171.2.1 m_171.2.2.1 m_171.2.2.2.1 ∈ lw_gd := gd_at (i := 1221) rfl rfl
set_option maxRecDepth 20000 in
theorem cd_172 : Cond.code m_172.1 m_172.2.1 m_172.2.2.1 m_172.2.2.2.1 ∈ lw_gd := gd_at (i := 1225) rfl rfl
set_option maxRecDepth 20000 in
theorem cd_173 : Cond.code m_173.1 m_173.2.1 m_173.2.2.1 m_173.2.2.2.1 ∈ lw_gd := gd_at (i := 1229) rfl rfl
set_option maxRecDepth 20000 in
theorem cd_174 : Cond.code m_174.1 m_174.2.1 m_174.2.2.1 m_174.2.2.2.1 ∈ lw_gd := gd_at (i := 1233) rfl rfl
set_option maxRecDepth 20000 in
theorem cd_175 : Cond.code m_175.1 m_175.2.1 m_175.2.2.1 m_175.2.2.2.1 ∈ lw_gd := gd_at (i := 1237) rfl rfl
set_option maxRecDepth 20000 in
theorem cd_176 : Cond.code m_176.1 m_176.2.1 m_176.2.2.1 m_176.2.2.2.1 ∈ lw_gd := gd_at (i := 1241) rfl rfl
set_option maxRecDepth 20000 in
theorem cd_177 : Cond.code m_177.1 m_177.2.1 m_177.2.2.1 m_177.2.2.2.1 ∈ lw_gd := gd_at (i := 1245) rfl rfl
set_option maxRecDepth 20000 in
theorem cd_178 : Cond.code m_178.1 m_178.2.1 m_178.2.2.1 m_178.2.2.2.1 ∈ lw_gd := gd_at (i := 1249) rfl rfl
set_option maxRecDepth 20000 in
theorem cd_179 : Cond.code m_179.1 m_179.2.1 m_179.2.2.1 m_179.2.2.2.1 ∈ lw_gd := gd_at (i := 1253) rfl rfl
set_option maxRecDepth 20000 in
theorem cd_180 : Cond.code m_180.1 m_180.2.1 m_180.2.2.1 m_180.2.2.2.1 ∈ lw_gd := gd_at (i := 1257) rfl rfl
set_option maxRecDepth 20000 in
theorem cd_181 : Cond.code m_181.1 m_181.2.1 m_181.2.2.1 m_181.2.2.2.1 ∈ lw_gd := gd_at (i := 1261) rfl rfl
set_option maxRecDepth 20000 in
theorem cd_182 : Cond.code m_182.1 m_182.2.1 m_182.2.2.1 m_182.2.2.2.1 ∈ lw_gd := gd_at (i := 1265) rfl rfl
set_option maxRecDepth 20000 in
theorem cd_183 : Cond.code m_183.1 m_183.2.1 m_183.2.2.1 m_183.2.2.2.1 ∈ lw_gd := gd_at (i := 1269) rfl rfl
set_option maxRecDepth 20000 in
theorem cd_184 : Cond.code m_184.1 m_184.2.1 m_184.2.2.1 m_184.2.2.2.1 ∈ lw_gd := gd_at (i := 1273) rfl rfl
set_option maxRecDepth 20000 in
theorem cd_185 : Cond.code m_185.1 m_185.2.1 m_185.2.2.1 m_185.2.2.2.1 ∈ lw_gd := gd_at (i := 1276) rfl rfl
set_option maxRecDepth 20000 in
theorem cd_186 : Cond.code m_186.1 m_186.2.1 m_186.2.2.1 m_186.2.2.2.1 ∈ lw_gd := gd_at (i := 1280) rfl rfl
set_option maxRecDepth 20000 in
theorem cd_187 : Cond.code m_187.1 m_187.2.1 m_187.2.2.1 m_187.2.2.2.1 ∈ lw_gd := gd_at (i := 1284) rfl rfl
set_option maxRecDepth 20000 in
theorem cd_188 : Cond.code m_188.1 m_188.2.1 m_188.2.2.1 m_188.2.2.2.1 ∈ lw_gd := gd_at (i := 1288) rfl rfl
set_option maxRecDepth 20000 in
theorem cd_189 : Cond.code m_189.1 m_189.2.1 m_189.2.2.1 m_189.2.2.2.1 ∈ lw_gd := gd_at (i := 1292) rfl rfl
set_option maxRecDepth 20000 in
theorem cd_190 : Cond.code m_190.1 m_190.2.1 m_190.2.2.1 m_190.2.2.2.1 ∈ lw_gd := gd_at (i := 1296) rfl rfl
set_option maxRecDepth 20000 in
theorem cd_191 : Cond.code m_191.1 m_191.2.1 m_191.2.2.1 m_191.2.2.2.1 ∈ lw_gd := gd_at (i := 1300) rfl rfl
set_option maxRecDepth 20000 in
theorem cd_192 : Cond.code m_192.1 m_192.2.1 m_192.2.2.1 m_192.2.2.2.1 ∈ lw_gd := gd_at (i := 1304) rfl rfl
set_option maxRecDepth 20000 in
theorem cd_193 : Cond.code m_193.1 m_193.2.1 m_193.2.2.1 m_193.2.2.2.1 ∈ lw_gd := gd_at (i := 1308) rfl rfl
set_option maxRecDepth 20000 in
theorem cd_194 : Cond.code m_194.1 m_194.2.1 m_194.2.2.1 m_194.2.2.2.1 ∈ lw_gd := gd_at (i := 1312) rfl rfl
set_option maxRecDepth 20000 in
theorem cd_195 : Cond.code m_195.1 m_195.2.1 m_195.2.2.1 m_195.2.2.2.1 ∈ lw_gd := gd_at (i := 1316) rfl rfl
set_option maxRecDepth 20000 in
theorem cd_196 : Cond.code m_196.1 m_196.2.1 m_196.2.2.1 m_196.2.2.2.1 ∈ lw_gd := gd_at (i := 1320) rfl rfl
set_option maxRecDepth 20000 in
theorem cd_197 : Cond.code m_197.1 m_197.2.1 m_197.2.2.1 m_197.2.2.2.1 ∈ lw_gd := gd_at (i := 1324) rfl rfl
set_option maxRecDepth 20000 in
theorem cd_198 : Cond.code m_198.1 m_198.2.1 m_198.2.2.1 m_198.2.2.2.1 ∈ lw_gd := gd_at (i := 1328) rfl rfl
set_option maxRecDepth 20000 in
theorem cd_199 : Cond.code m_199.1 m_199.2.1 m_199.2.2.1 m_199.2.2.2.1 ∈ lw_gd := gd_at (i := 1332) rfl rfl
set_option maxRecDepth 20000 in
theorem cd_200 : Cond.code m_200.1 m_200.2.1 m_200.2.2.1 m_200.2.2.2.1 ∈ lw_gd := gd_at (i := 1336) rfl rfl
set_option maxRecDepth 20000 in
theorem cd_201 : Cond.code m_201.1 m_201.2.1 m_201.2.2.1 m_201.2.2.2.1 ∈ lw_gd := gd_at (i := 1340) rfl rfl
set_option maxRecDepth 20000 in
theorem cd_202 : Cond.code m_202.1 m_202.2.1 m_202.2.2.1 m_202.2.2.2.1 ∈ lw_gd := gd_at (i := 1344) rfl rfl
set_option maxRecDepth 20000 in
theorem cd_203 : Cond.code m_203.1 m_203.2.1 m_203.2.2.1 m_203.2.2.2.1 ∈ lw_gd := gd_at (i := 1348) rfl rfl
set_option maxRecDepth 20000 in
theorem cd_204 : Cond.code m_204.1 m_204.2.1 m_204.2.2.1 m_204.2.2.2.1 ∈ lw_gd := gd_at (i := 1353) rfl rfl
set_option maxRecDepth 20000 in
theorem cd_205 : Cond.code m_205.1 m_205.2.1 m_205.2.2.1 m_205.2.2.2.1 ∈ lw_gd := gd_at (i := 1356) rfl rfl
set_option maxRecDepth 20000 in
theorem cd_206 : Cond.code m_206.1 m_206.2.1 m_206.2.2.1 m_206.2.2.2.1 ∈ lw_gd := gd_at (i := 1360) rfl rfl
set_option maxRecDepth 20000 in
theorem cd_207 : Cond.code m_207.1 m_207.2.1 m_207.2.2.1 m_207.2.2.2.1 ∈ lw_gd := gd_at (i := 1364) rfl rfl
set_option maxRecDepth 20000 in
theorem cd_208 : Cond.code m_208.1 m_208.2.1 m_208.2.2.1 m_208.2.2.2.1 ∈ lw_gd := gd_at (i := 1368) rfl rfl
set_option maxRecDepth 20000 in
theorem cd_209 : Cond.code m_209.1 m_209.2.1 m_209.2.2.1 m_209.2.2.2.1 ∈ lw_gd := gd_at (i := 1372) rfl rfl
set_option maxRecDepth 20000 in
theorem cd_210 : Cond.code m_210.1 m_210.2.1 m_210.2.2.1 m_210.2.2.2.1 ∈ lw_gd := gd_at (i := 1376) rfl rfl
set_option maxRecDepth 20000 in
theorem cd_211 : Cond.code m_211.1 m_211.2.1 m_211.2.2.1 m_211.2.2.2.1 ∈ lw_gd := gd_at (i := 1380) rfl rfl
set_option maxRecDepth 20000 in
theorem cd_212 : Cond.code m_212.1 m_212.2.1 m_212.2.2.1 m_212.2.2.2.1 ∈ lw_gd := gd_at (i := 1384) rfl rfl
set_option maxRecDepth 20000 in
theorem cd_213 : Cond.code m_213.1 m_213.2.1 m_213.2.2.1 m_213.2.2.2.1 ∈ lw_gd := gd_at (i := 1388) rfl rfl
set_option maxRecDepth 20000 in
theorem cd_214 : Cond.code m_214.1 m_214.2.1 m_214.2.2.1 m_214.2.2.2.1 ∈ lw_gd := gd_at (i := 1392) rfl rfl
set_option maxRecDepth 20000 in
theorem cd_215 : Cond.code m_215.1 m_215.2.1 m_215.2.2.1 m_215.2.2.2.1 ∈ lw_gd := gd_at (i := 1396) rfl rfl
set_option maxRecDepth 20000 in
theorem cd_216 : Cond.code m_216.1 m_216.2.1 m_216.2.2.1 m_216.2.2.2.1 ∈ lw_gd := gd_at (i := 1400) rfl rfl
set_option maxRecDepth 20000 in
theorem cd_217 : Cond.code m_217.1 m_217.2.1 m_217.2.2.1 m_217.2.2.2.1 ∈ lw_gd := gd_at (i := 1404) rfl rfl
set_option maxRecDepth 20000 in
theorem cd_218 : Cond.code m_218.1 m_218.2.1 m_218.2.2.1 m_218.2.2.2.1 ∈ lw_gd := gd_at (i := 1408) rfl rfl
set_option maxRecDepth 20000 in
theorem cd_219 : Cond.code m_219.1 m_219.2.1 m_219.2.2.1 m_219.2.2.2.1 ∈ lw_gd := gd_at (i := 1412) rfl rfl
set_option maxRecDepth 20000 in
theorem cd_220 : Cond.code m_220.1 m_220.2.1 m_220.2.2.1 m_220.2.2.2.1 ∈ lw_gd := gd_at (i := 1416) rfl rfl
set_option maxRecDepth 20000 in
theorem cd_221 : Cond.code m_221.1 m_221.2.1 m_221.2.2.1 m_221.2.2.2.1 ∈ lw_gd := gd_at (i := 1420) rfl rfl
set_option maxRecDepth 20000 in
theorem cd_222 : Cond.code m_222.1 m_222.2.1 m_222.2.2.1 m_222.2.2.2.1 ∈ lw_gd := gd_at (i := 1424) rfl rfl
set_option maxRecDepth 20000 in
theorem cd_223 : Cond.code m_223.1 m_223.2.1 m_223.2.2.1 m_223.2.2.2.1 ∈ lw_gd := gd_at (i := 1428) rfl rfl
set_option maxRecDepth 20000 in
theorem cd_224 : Cond.code m_224.1 m_224.2.1 m_224.2.2.1 m_224.2.2.2.1 ∈ lw_gd := gd_at (i := 1432) rfl rfl
set_option maxRecDepth 20000 in
theorem cd_225 : Cond.code m_225.1 m_225.2.1 m_225.2.2.1 m_225.2.2.2.1 ∈ lw_gd := gd_at (i := 1436) rfl rfl
set_option maxRecDepth 20000 in
theorem cd_226 : Cond.code m_226.1 m_226.2.1 m_226.2.2.1 m_226.2.2.2.1 ∈ lw_gd := gd_at (i := 1440) rfl rfl
set_option maxRecDepth 20000 in
theorem cd_227 : Cond.code m_227.1 m_227.2.1 m_227.2.2.1 m_227.2.2.2.1 ∈ lw_gd := gd_at (i := 1444) rfl rfl
set_option maxRecDepth 20000 in
theorem cd_228 : Cond.code m_228.1 m_228.2.1 m_228.2.2.1 m_228.2.2.2.1 ∈ lw_gd := gd_at (i := 1448) rfl rfl
set_option maxRecDepth 20000 in
theorem cd_229 : Cond.code m_229.1 m_229.2.1 m_229.2.2.1 m_229.2.2.2.1 ∈ lw_gd := gd_at (i := 1452) rfl rfl
set_option maxRecDepth 20000 in
theorem cd_230 : Cond.code m_230.1 m_230.2.1 m_230.2.2.1 m_230.2.2.2.1 ∈ lw_gd := gd_at (i := 1456) rfl rfl
set_option maxRecDepth 20000 in
theorem cd_231 : Cond.code m_231.1 m_231.2.1 m_231.2.2.1 m_231.2.2.2.1 ∈ lw_gd := gd_at (i := 1460) rfl rfl
set_option maxRecDepth 20000 in
theorem cd_232 : Cond.code m_232.1 m_232.2.1 m_232.2.2.1 m_232.2.2.2.1 ∈ lw_gd := gd_at (i := 1464) rfl rfl
set_option maxRecDepth 20000 in
theorem cd_233 : Cond.code m_233.1 m_233.2.1 m_233.2.2.1 m_233.2.2.2.1 ∈ lw_gd := gd_at (i := 1468) rfl rfl
set_option maxRecDepth 20000 in
theorem cd_234 : Cond.code m_234.1 m_234.2.1 m_234.2.2.1 m_234.2.2.2.1 ∈ lw_gd := gd_at (i := 1472) rfl rfl
set_option maxRecDepth 20000 in
theorem cd_235 : Cond.code m_235.1 m_235.2.1 m_235.2.2.1 m_235.2.2.2.1 ∈ lw_gd := gd_at (i := 1476) rfl rfl
set_option maxRecDepth 20000 in
theorem cd_236 : Cond.code m_236.1 m_236.2.1 m_236.2.2.1 m_236.2.2.2.1 ∈ lw_gd := gd_at (i := 1480) rfl rfl
set_option maxRecDepth 20000 in
theorem cd_237 : Cond.code m_237.1 m_237.2.1 m_237.2.2.1 m_237.2.2.2.1 ∈ lw_gd := gd_at (i := 1484) rfl rfl
set_option maxRecDepth 20000 in
theorem cd_238 : Cond.code m_238.1 m_238.2.1 m_238.2.2.1 m_238.2.2.2.1 ∈ lw_gd := gd_at (i := 1487) rfl rfl
set_option maxRecDepth 20000 in
theorem cd_239 : Cond.code m_239.1 m_239.2.1 m_239.2.2.1 m_239.2.2.2.1 ∈ lw_gd := gd_at (i := 1490) rfl rfl
set_option maxRecDepth 20000 in
theorem cd_240 : Cond.code m_240.1 m_240.2.1 m_240.2.2.1 m_240.2.2.2.1 ∈ lw_gd := gd_at (i := 1494) rfl rfl
set_option maxRecDepth 20000 in
theorem cd_241 : Cond.code m_241.1 m_241.2.1 m_241.2.2.1 m_241.2.2.2.1 ∈ lw_gd := gd_at (i := 1497) rfl rfl
set_option maxRecDepth 20000 in
theorem cd_242 : Cond.code m_242.1 m_242.2.1 m_242.2.2.1 m_242.2.2.2.1 ∈ lw_gd := gd_at (i := 1501) rfl rfl
set_option maxRecDepth 20000 in
theorem cd_243 : Cond.code m_243.1 m_243.2.1 m_243.2.2.1 m_243.2.2.2.1 ∈ lw_gd := gd_at (i := 1506) rfl rfl
set_option maxRecDepth 20000 in
theorem cd_244 : Cond.code m_244.1 m_244.2.1 m_244.2.2.1 m_244.2.2.2.1 ∈ lw_gd := gd_at (i := 1510) rfl rfl
set_option maxRecDepth 20000 in
theorem cd_245 : Cond.code m_245.1 m_245.2.1 m_245.2.2.1 m_245.2.2.2.1 ∈ lw_gd := gd_at (i := 1514) rfl rfl
set_option maxRecDepth 20000 in
theorem cd_246 : Cond.code m_246.1 m_246.2.1 m_246.2.2.1 m_246.2.2.2.1 ∈ lw_gd := gd_at (i := 1518) rfl rfl
set_option maxRecDepth 20000 in
theorem cd_247 : Cond.code m_247.1 m_247.2.1 m_247.2.2.1 m_247.2.2.2.1 ∈ lw_gd := gd_at (i := 1521) rfl rfl
set_option maxRecDepth 20000 in
theorem cd_248 : Cond.code m_248.1 m_248.2.1 m_248.2.2.1 m_248.2.2.2.1 ∈ lw_gd := gd_at (i := 1525) rfl rfl
set_option maxRecDepth 20000 in
theorem cd_249 : Cond.code m_249.1 m_249.2.1 m_249.2.2.1 m_249.2.2.2.1 ∈ lw_gd := gd_at (i := 1529) rfl rfl
set_option maxRecDepth 20000 in
theorem cd_250 : Cond.code m_250.1 m_250.2.1 m_250.2.2.1 m_250.2.2.2.1 ∈ lw_gd := gd_at (i := 1535) rfl rfl
set_option maxRecDepth 20000 in
theorem cd_251 : Cond.code m_251.1 m_251.2.1 m_251.2.2.1 m_251.2.2.2.1 ∈ lw_gd := gd_at (i := 1539) rfl rfl
set_option maxRecDepth 20000 in
theorem cd_252 : Cond.code m_252.1 m_252.2.1 m_252.2.2.1 m_252.2.2.2.1 ∈ lw_gd := gd_at (i := 1543) rfl rfl
set_option maxRecDepth 20000 in
theorem cd_253 : Cond.code m_253.1 m_253.2.1 m_253.2.2.1 m_253.2.2.2.1 ∈ lw_gd := gd_at (i := 1547) rfl rfl
set_option maxRecDepth 20000 in
theorem cd_254 : Cond.code m_254.1 m_254.2.1 m_254.2.2.1 m_254.2.2.2.1 ∈ lw_gd := gd_at (i := 1551) rfl rfl
set_option maxRecDepth 20000 in
theorem cd_255 : Cond.code m_255.1 m_255.2.1 m_255.2.2.1 m_255.2.2.2.1 ∈ lw_gd := gd_at (i := 1555) rfl rfl
set_option maxRecDepth 20000 in
theorem cd_256 : Cond.code m_256.1 m_256.2.1 m_256.2.2.1 m_256.2.2.2.1 ∈ lw_gd := gd_at (i := 1559) rfl rfl
set_option maxRecDepth 20000 in
theorem cd_257 : Cond.code m_257.1 m_257.2.1 m_257.2.2.1 m_257.2.2.2.1 ∈ lw_gd := gd_at (i := 1563) rfl rfl
set_option maxRecDepth 20000 in
theorem cd_c0 : ∀ M ∈ pMs_0, Cond.code M.1 M.2.1 M.2.2.1 M.2.2.2.1 ∈ lw_gd := List.forall_mem_cons.mpr ⟨cd_0, List.forall_mem_cons.mpr ⟨cd_1, List.forall_mem_cons.mpr ⟨cd_2, List.forall_mem_cons.mpr ⟨cd_3, List.forall_mem_cons.mpr ⟨cd_4, List.forall_mem_cons.mpr ⟨cd_5, List.forall_mem_cons.mpr ⟨cd_6, List.forall_mem_cons.mpr ⟨cd_7, List.forall_mem_cons.mpr ⟨cd_8, List.forall_mem_cons.mpr ⟨cd_9, List.forall_mem_cons.mpr ⟨cd_10, List.forall_mem_cons.mpr ⟨cd_11, List.forall_mem_cons.mpr ⟨cd_12, List.forall_mem_cons.mpr ⟨cd_13, List.forall_mem_cons.mpr ⟨cd_14, List.forall_mem_cons.mpr ⟨cd_15, List.forall_mem_cons.mpr ⟨cd_16, List.forall_mem_cons.mpr ⟨cd_17, List.forall_mem_cons.mpr ⟨cd_18, List.forall_mem_cons.mpr ⟨cd_19, List.forall_mem_cons.mpr ⟨cd_20, List.forall_mem_cons.mpr ⟨cd_21, List.forall_mem_cons.mpr ⟨cd_22, List.forall_mem_cons.mpr ⟨cd_23, List.forall_mem_cons.mpr ⟨cd_24, List.forall_mem_cons.mpr ⟨cd_25, List.forall_mem_cons.mpr ⟨cd_26, List.forall_mem_cons.mpr ⟨cd_27, List.forall_mem_cons.mpr ⟨cd_28, List.forall_mem_cons.mpr ⟨cd_29, (fun _ h => absurd h List.not_mem_nil)⟩⟩⟩⟩⟩⟩⟩⟩⟩⟩⟩⟩⟩⟩⟩⟩⟩⟩⟩⟩⟩⟩⟩⟩⟩⟩⟩⟩⟩⟩
set_option maxRecDepth 20000 in
theorem cd_c1 : ∀ M ∈ pMs_1, Cond.code M.1 M.2.1 M.2.2.1 M.2.2.2.1 ∈ lw_gd := List.forall_mem_cons.mpr ⟨cd_30, List.forall_mem_cons.mpr ⟨cd_31, List.forall_mem_cons.mpr ⟨cd_32, List.forall_mem_cons.mpr ⟨cd_33, List.forall_mem_cons.mpr ⟨cd_34, List.forall_mem_cons.mpr ⟨cd_35, List.forall_mem_cons.mpr ⟨cd_36, List.forall_mem_cons.mpr ⟨cd_37, List.forall_mem_cons.mpr ⟨cd_38, List.forall_mem_cons.mpr ⟨cd_39, List.forall_mem_cons.mpr ⟨cd_40, List.forall_mem_cons.mpr ⟨cd_41, List.forall_mem_cons.mpr ⟨cd_42, List.forall_mem_cons.mpr ⟨cd_43, List.forall_mem_cons.mpr ⟨cd_44, List.forall_mem_cons.mpr ⟨cd_45, List.forall_mem_cons.mpr ⟨cd_46, List.forall_mem_cons.mpr ⟨cd_47, List.forall_mem_cons.mpr ⟨cd_48, List.forall_mem_cons.mpr ⟨cd_49, List.forall_mem_cons.mpr ⟨cd_50, List.forall_mem_cons.mpr ⟨cd_51, List.forall_mem_cons.mpr ⟨cd_52, List.forall_mem_cons.mpr ⟨cd_53, List.forall_mem_cons.mpr ⟨cd_54, List.forall_mem_cons.mpr ⟨cd_55, List.forall_mem_cons.mpr ⟨cd_56, List.forall_mem_cons.mpr ⟨cd_57, List.forall_mem_cons.mpr ⟨cd_58, List.forall_mem_cons.mpr ⟨cd_59, (fun _ h => absurd h List.not_mem_nil)⟩⟩⟩⟩⟩⟩⟩⟩⟩⟩⟩⟩⟩⟩⟩⟩⟩⟩⟩⟩⟩⟩⟩⟩⟩⟩⟩⟩⟩⟩
set_option maxRecDepth 20000 in
theorem cd_c2 : ∀ M ∈ pMs_2, Cond.code M.1 M.2.1 M.2.2.1 M.2.2.2.1 ∈ lw_gd := List.forall_mem_cons.mpr ⟨cd_60, List.forall_mem_cons.mpr ⟨cd_61, List.forall_mem_cons.mpr ⟨cd_62, List.forall_mem_cons.mpr ⟨cd_63, List.forall_mem_cons.mpr ⟨cd_64, List.forall_mem_cons.mpr ⟨cd_65, List.forall_mem_cons.mpr ⟨cd_66, List.forall_mem_cons.mpr ⟨cd_67, List.forall_mem_cons.mpr ⟨cd_68, List.forall_mem_cons.mpr ⟨cd_69, List.forall_mem_cons.mpr ⟨cd_70, List.forall_mem_cons.mpr ⟨cd_71, List.forall_mem_cons.mpr ⟨cd_72, List.forall_mem_cons.mpr ⟨cd_73, List.forall_mem_cons.mpr ⟨cd_74, List.forall_mem_cons.mpr ⟨cd_75, List.forall_mem_cons.mpr ⟨cd_76, List.forall_mem_cons.mpr ⟨cd_77, List.forall_mem_cons.mpr ⟨cd_78, List.forall_mem_cons.mpr ⟨cd_79, List.forall_mem_cons.mpr ⟨cd_80, List.forall_mem_cons.mpr ⟨cd_81, List.forall_mem_cons.mpr ⟨cd_82, List.forall_mem_cons.mpr ⟨cd_83, List.forall_mem_cons.mpr ⟨cd_84, List.forall_mem_cons.mpr ⟨cd_85, List.forall_mem_cons.mpr ⟨cd_86, List.forall_mem_cons.mpr ⟨cd_87, List.forall_mem_cons.mpr ⟨cd_88, List.forall_mem_cons.mpr ⟨cd_89, (fun _ h => absurd h List.not_mem_nil)⟩⟩⟩⟩⟩⟩⟩⟩⟩⟩⟩⟩⟩⟩⟩⟩⟩⟩⟩⟩⟩⟩⟩⟩⟩⟩⟩⟩⟩⟩
set_option maxRecDepth 20000 in
theorem cd_c3 : ∀ M ∈ pMs_3, Cond.code M.1 M.2.1 M.2.2.1 M.2.2.2.1 ∈ lw_gd := List.forall_mem_cons.mpr ⟨cd_90, List.forall_mem_cons.mpr ⟨cd_91, List.forall_mem_cons.mpr ⟨cd_92, List.forall_mem_cons.mpr ⟨cd_93, List.forall_mem_cons.mpr ⟨cd_94, List.forall_mem_cons.mpr ⟨cd_95, List.forall_mem_cons.mpr ⟨cd_96, List.forall_mem_cons.mpr ⟨cd_97, List.forall_mem_cons.mpr ⟨cd_98, List.forall_mem_cons.mpr ⟨cd_99, List.forall_mem_cons.mpr ⟨cd_100, List.forall_mem_cons.mpr ⟨cd_101, List.forall_mem_cons.mpr ⟨cd_102, List.forall_mem_cons.mpr ⟨cd_103, List.forall_mem_cons.mpr ⟨cd_104, List.forall_mem_cons.mpr ⟨cd_105, List.forall_mem_cons.mpr ⟨cd_106, List.forall_mem_cons.mpr ⟨cd_107, List.forall_mem_cons.mpr ⟨cd_108, List.forall_mem_cons.mpr ⟨cd_109, List.forall_mem_cons.mpr ⟨cd_110, List.forall_mem_cons.mpr ⟨cd_111, List.forall_mem_cons.mpr ⟨cd_112, List.forall_mem_cons.mpr ⟨cd_113, List.forall_mem_cons.mpr ⟨cd_114, List.forall_mem_cons.mpr ⟨cd_115, List.forall_mem_cons.mpr ⟨cd_116, List.forall_mem_cons.mpr ⟨cd_117, List.forall_mem_cons.mpr ⟨cd_118, List.forall_mem_cons.mpr ⟨cd_119, (fun _ h => absurd h List.not_mem_nil)⟩⟩⟩⟩⟩⟩⟩⟩⟩⟩⟩⟩⟩⟩⟩⟩⟩⟩⟩⟩⟩⟩⟩⟩⟩⟩⟩⟩⟩⟩
set_option maxRecDepth 20000 in
theorem cd_c4 : ∀ M ∈ pMs_4, Cond.code M.1 M.2.1 M.2.2.1 M.2.2.2.1 ∈ lw_gd := List.forall_mem_cons.mpr ⟨cd_120, List.forall_mem_cons.mpr ⟨cd_121, List.forall_mem_cons.mpr ⟨cd_122, List.forall_mem_cons.mpr ⟨cd_123, List.forall_mem_cons.mpr ⟨cd_124, List.forall_mem_cons.mpr ⟨cd_125, List.forall_mem_cons.mpr ⟨cd_126, List.forall_mem_cons.mpr ⟨cd_127, List.forall_mem_cons.mpr ⟨cd_128, List.forall_mem_cons.mpr ⟨cd_129, List.forall_mem_cons.mpr ⟨cd_130, List.forall_mem_cons.mpr ⟨cd_131, List.forall_mem_cons.mpr ⟨cd_132, List.forall_mem_cons.mpr ⟨cd_133, List.forall_mem_cons.mpr ⟨cd_134, List.forall_mem_cons.mpr ⟨cd_135, List.forall_mem_cons.mpr ⟨cd_136, List.forall_mem_cons.mpr ⟨cd_137, List.forall_mem_cons.mpr ⟨cd_138, List.forall_mem_cons.mpr ⟨cd_139, List.forall_mem_cons.mpr ⟨cd_140, List.forall_mem_cons.mpr ⟨cd_141, List.forall_mem_cons.mpr ⟨cd_142, List.forall_mem_cons.mpr ⟨cd_143, List.forall_mem_cons.mpr ⟨cd_144, List.forall_mem_cons.mpr ⟨cd_145, List.forall_mem_cons.mpr ⟨cd_146, List.forall_mem_cons.mpr ⟨cd_147, List.forall_mem_cons.mpr ⟨cd_148, List.forall_mem_cons.mpr ⟨cd_149, (fun _ h => absurd h List.not_mem_nil)⟩⟩⟩⟩⟩⟩⟩⟩⟩⟩⟩⟩⟩⟩⟩⟩⟩⟩⟩⟩⟩⟩⟩⟩⟩⟩⟩⟩⟩⟩
set_option maxRecDepth 20000 in
theorem cd_c5 : ∀ M ∈ pMs_5, Cond.code M.1 M.2.1 M.2.2.1 M.2.2.2.1 ∈ lw_gd := List.forall_mem_cons.mpr ⟨cd_150, List.forall_mem_cons.mpr ⟨cd_151, List.forall_mem_cons.mpr ⟨cd_152, List.forall_mem_cons.mpr ⟨cd_153, List.forall_mem_cons.mpr ⟨cd_154, List.forall_mem_cons.mpr ⟨cd_155, List.forall_mem_cons.mpr ⟨cd_156, List.forall_mem_cons.mpr ⟨cd_157, List.forall_mem_cons.mpr ⟨cd_158, List.forall_mem_cons.mpr ⟨cd_159, List.forall_mem_cons.mpr ⟨cd_160, List.forall_mem_cons.mpr ⟨cd_161, List.forall_mem_cons.mpr ⟨cd_162, List.forall_mem_cons.mpr ⟨cd_163, List.forall_mem_cons.mpr ⟨cd_164, List.forall_mem_cons.mpr ⟨cd_165, List.forall_mem_cons.mpr ⟨cd_166, List.forall_mem_cons.mpr ⟨cd_167, List.forall_mem_cons.mpr ⟨cd_168, List.forall_mem_cons.mpr ⟨cd_169, List.forall_mem_cons.mpr ⟨cd_170, List.forall_mem_cons.mpr ⟨cd_171, List.forall_mem_cons.mpr ⟨cd_172, List.forall_mem_cons.mpr ⟨cd_173, List.forall_mem_cons.mpr ⟨cd_174, List.forall_mem_cons.mpr ⟨cd_175, List.forall_mem_cons.mpr ⟨cd_176, List.forall_mem_cons.mpr ⟨cd_177, List.forall_mem_cons.mpr ⟨cd_178, List.forall_mem_cons.mpr ⟨cd_179, (fun _ h => absurd h List.not_mem_nil)⟩⟩⟩⟩⟩⟩⟩⟩⟩⟩⟩⟩⟩⟩⟩⟩⟩⟩⟩⟩⟩⟩⟩⟩⟩⟩⟩⟩⟩⟩
set_option maxRecDepth 20000 in
theorem cd_c6 : ∀ M ∈ pMs_6, Cond.code M.1 M.2.1 M.2.2.1 M.2.2.2.1 ∈ lw_gd := List.forall_mem_cons.mpr ⟨cd_180, List.forall_mem_cons.mpr ⟨cd_181, List.forall_mem_cons.mpr ⟨cd_182, List.forall_mem_cons.mpr ⟨cd_183, List.forall_mem_cons.mpr ⟨cd_184, List.forall_mem_cons.mpr ⟨cd_185, List.forall_mem_cons.mpr ⟨cd_186, List.forall_mem_cons.mpr ⟨cd_187, List.forall_mem_cons.mpr ⟨cd_188, List.forall_mem_cons.mpr ⟨cd_189, List.forall_mem_cons.mpr ⟨cd_190, List.forall_mem_cons.mpr ⟨cd_191, List.forall_mem_cons.mpr ⟨cd_192, List.forall_mem_cons.mpr ⟨cd_193, List.forall_mem_cons.mpr ⟨cd_194, List.forall_mem_cons.mpr ⟨cd_195, List.forall_mem_cons.mpr ⟨cd_196, List.forall_mem_cons.mpr ⟨cd_197, List.forall_mem_cons.mpr ⟨cd_198, List.forall_mem_cons.mpr ⟨cd_199, List.forall_mem_cons.mpr ⟨cd_200, List.forall_mem_cons.mpr ⟨cd_201, List.forall_mem_cons.mpr ⟨cd_202, List.forall_mem_cons.mpr ⟨cd_203, List.forall_mem_cons.mpr ⟨cd_204, List.forall_mem_cons.mpr ⟨cd_205, List.forall_mem_cons.mpr ⟨cd_206, List.forall_mem_cons.mpr ⟨cd_207, List.forall_mem_cons.mpr ⟨cd_208, List.forall_mem_cons.mpr ⟨cd_209, (fun _ h => absurd h List.not_mem_nil)⟩⟩⟩⟩⟩⟩⟩⟩⟩⟩⟩⟩⟩⟩⟩⟩⟩⟩⟩⟩⟩⟩⟩⟩⟩⟩⟩⟩⟩⟩
set_option maxRecDepth 20000 in
theorem cd_c7 : ∀ M ∈ pMs_7, Cond.code M.1 M.2.1 M.2.2.1 M.2.2.2.1 ∈ lw_gd := List.forall_mem_cons.mpr ⟨cd_210, List.forall_mem_cons.mpr ⟨cd_211, List.forall_mem_cons.mpr ⟨cd_212, List.forall_mem_cons.mpr ⟨cd_213, List.forall_mem_cons.mpr ⟨cd_214, List.forall_mem_cons.mpr ⟨cd_215, List.forall_mem_cons.mpr ⟨cd_216, List.forall_mem_cons.mpr ⟨cd_217, List.forall_mem_cons.mpr ⟨cd_218, List.forall_mem_cons.mpr ⟨cd_219, List.forall_mem_cons.mpr ⟨cd_220, List.forall_mem_cons.mpr ⟨cd_221, List.forall_mem_cons.mpr ⟨cd_222, List.forall_mem_cons.mpr ⟨cd_223, List.forall_mem_cons.mpr ⟨cd_224, List.forall_mem_cons.mpr ⟨cd_225, List.forall_mem_cons.mpr ⟨cd_226, List.forall_mem_cons.mpr ⟨cd_227, List.forall_mem_cons.mpr ⟨cd_228, List.forall_mem_cons.mpr ⟨cd_229, List.forall_mem_cons.mpr ⟨cd_230, List.forall_mem_cons.mpr ⟨cd_231, List.forall_mem_cons.mpr ⟨cd_232, List.forall_mem_cons.mpr ⟨cd_233, List.forall_mem_cons.mpr ⟨cd_234, List.forall_mem_cons.mpr ⟨cd_235, List.forall_mem_cons.mpr ⟨cd_236, List.forall_mem_cons.mpr ⟨cd_237, List.forall_mem_cons.mpr ⟨cd_238, List.forall_mem_cons.mpr ⟨cd_239, (fun _ h => absurd h List.not_mem_nil)⟩⟩⟩⟩⟩⟩⟩⟩⟩⟩⟩⟩⟩⟩⟩⟩⟩⟩⟩⟩⟩⟩⟩⟩⟩⟩⟩⟩⟩⟩
set_option maxRecDepth 20000 in
theorem cd_c8 : ∀ M ∈ pMs_8, Cond.code M.1 M.2.1 M.2.2.1 M.2.2.2.1 ∈ lw_gd := List.forall_mem_cons.mpr ⟨cd_240, List.forall_mem_cons.mpr ⟨cd_241, List.forall_mem_cons.mpr ⟨cd_242, List.forall_mem_cons.mpr ⟨cd_243, List.forall_mem_cons.mpr ⟨cd_244, List.forall_mem_cons.mpr ⟨cd_245, List.forall_mem_cons.mpr ⟨cd_246, List.forall_mem_cons.mpr ⟨cd_247, List.forall_mem_cons.mpr ⟨cd_248, List.forall_mem_cons.mpr ⟨cd_249, List.forall_mem_cons.mpr ⟨cd_250, List.forall_mem_cons.mpr ⟨cd_251, List.forall_mem_cons.mpr ⟨cd_252, List.forall_mem_cons.mpr ⟨cd_253, List.forall_mem_cons.mpr ⟨cd_254, List.forall_mem_cons.mpr ⟨cd_255, List.forall_mem_cons.mpr ⟨cd_256, List.forall_mem_cons.mpr ⟨cd_257, (fun _ h => absurd h List.not_mem_nil)⟩⟩⟩⟩⟩⟩⟩⟩⟩⟩⟩⟩⟩⟩⟩⟩⟩⟩
theorem cd_all (n : Nat) : Cond.code (pM n).1 (pM n).2.1 (pM n).2.2.1 (pM n).2.2.2.1 ∈ lw_gd := by
  have h : ∀ M ∈ pMs, Cond.code M.1 M.2.1 M.2.2.1 M.2.2.2.1 ∈ lw_gd := by
    intro M hM
    unfold pMs at hM
    simp only [List.mem_append] at hM
    rcases hM with h | h | h | h | h | h | h | h | h
    · exact cd_c0 M h
    · exact cd_c1 M h
    · exact cd_c2 M h
    · exact cd_c3 M h
    · exact cd_c4 M h
    · exact cd_c5 M h
    · exact cd_c6 M h
    · exact cd_c7 M h
    · exact cd_c8 M h
  exact h _ (pM_mem n)
