/-! .. and instructions -/
theorem tv_i0 : ∀ q ∈ tb_i0, decode cX0_clear q.1 = .ok (q.2.1, q.2.2) := by decide +kernel
theorem tv_i1 : ∀ q ∈ tb_i1, decode cX0_become q.1 = .ok (q.2.1, q.2.2) := by decide +kernel
theorem tv_i2 : ∀ q ∈ tb_i2, decode cX0_has q.1 = .ok (q.2.1, q.2.2) := by decide +kernel
theorem tv_i3 : ∀ q ∈ tb_i3, decode cX0_addTest q.1 = .ok (q.2.1, q.2.2) := by decide +kernel
theorem tv_i4 : ∀ q ∈ tb_i4, decode cX0_isWon q.1 = .ok (q.2.1, q.2.2) := by decide +kernel
theorem tv_i5 : ∀ q ∈ tb_i5, decode cX0_wonBits q.1 = .ok (q.2.1, q.2.2) := by decide +kernel
theorem tv_i6 : ∀ q ∈ tb_i6, decode cX0_wonCount q.1 = .ok (q.2.1, q.2.2) := by decide +kernel
theorem tv_i7 : ∀ q ∈ tb_i7, decode cX0_allMoved q.1 = .ok (q.2.1, q.2.2) := by decide +kernel
theorem tv_i8 : ∀ q ∈ tb_i8, decode cX0_allSizes q.1 = .ok (q.2.1, q.2.2) := by decide +kernel
theorem tv_i9 : ∀ q ∈ tb_i9, decode cX0_allPulled q.1 = .ok (q.2.1, q.2.2) := by decide +kernel
theorem tv_i10 : ∀ q ∈ tb_i10, decode cX0_sumOf q.1 = .ok (q.2.1, q.2.2) := by decide +kernel
theorem tv_i11 : ∀ q ∈ tb_i11, decode cX0_yieldOf q.1 = .ok (q.2.1, q.2.2) := by decide +kernel
theorem tv_i12 : ∀ q ∈ tb_i12, decode cX0_canPull q.1 = .ok (q.2.1, q.2.2) := by decide +kernel
theorem tv_i13 : ∀ q ∈ tb_i13, decode cX0_pullAt q.1 = .ok (q.2.1, q.2.2) := by decide +kernel
theorem tv_i14 : ∀ q ∈ tb_i14, decode cX0_restOnce q.1 = .ok (q.2.1, q.2.2) := by decide +kernel
theorem tv_i15 : ∀ q ∈ tb_i15, decode cX0_perform q.1 = .ok (q.2.1, q.2.2) := by decide +kernel
theorem tv_i16 : ∀ q ∈ tb_i16, decode cX0_runPlan q.1 = .ok (q.2.1, q.2.2) := by decide +kernel
theorem tv_i17 : ∀ q ∈ tb_i17, decode cX0_pullsAlone q.1 = .ok (q.2.1, q.2.2) := by decide +kernel
theorem tv_i18 : ∀ q ∈ tb_i18, decode cX1_spread q.1 = .ok (q.2.1, q.2.2) := by decide +kernel
theorem tv_i19 : ∀ q ∈ tb_i19, decode cX1_spreadOnce q.1 = .ok (q.2.1, q.2.2) := by decide +kernel
theorem tv_i20 : ∀ q ∈ tb_i20, decode cX1_waysWon q.1 = .ok (q.2.1, q.2.2) := by decide +kernel
theorem tv_i21 : ∀ q ∈ tb_i21, decode cX1_movedInAllWays q.1 = .ok (q.2.1, q.2.2) := by decide +kernel
theorem tv_i22 : ∀ q ∈ tb_i22, decode cX1_lowest q.1 = .ok (q.2.1, q.2.2) := by decide +kernel
theorem tv_i23 : ∀ q ∈ tb_i23, decode cX1_commonDivisor q.1 = .ok (q.2.1, q.2.2) := by decide +kernel
theorem tv_i24 : ∀ q ∈ tb_i24, decode cX2_write q.1 = .ok (q.2.1, q.2.2) := by decide +kernel
theorem tv_i25 : ∀ q ∈ tb_i25, decode cX2_readAll q.1 = .ok (q.2.1, q.2.2) := by decide +kernel
theorem tv_i26 : ∀ q ∈ tb_i26, decode cX2_readLine q.1 = .ok (q.2.1, q.2.2) := by decide +kernel
theorem tv_i27 : ∀ q ∈ tb_i27, decode cX2_readTest q.1 = .ok (q.2.1, q.2.2) := by decide +kernel
theorem tv_i28 : ∀ q ∈ tb_i28, decode cX2_readOnce q.1 = .ok (q.2.1, q.2.2) := by decide +kernel
theorem tv_i29 : ∀ q ∈ tb_i29, decode cX2_readPlan q.1 = .ok (q.2.1, q.2.2) := by decide +kernel
theorem tv_i30 : ∀ q ∈ tb_i30, decode cX2_plansMissingTest q.1 = .ok (q.2.1, q.2.2) := by decide +kernel
theorem tv_i31 : ∀ q ∈ tb_i31, decode cX2_isNumberWithin q.1 = .ok (q.2.1, q.2.2) := by decide +kernel
theorem tv_i32 : ∀ q ∈ tb_i32, decode cX2_faultOfToken q.1 = .ok (q.2.1, q.2.2) := by decide +kernel
theorem tv_i33 : ∀ q ∈ tb_i33, decode cX2_refuse q.1 = .ok (q.2.1, q.2.2) := by decide +kernel
theorem tv_i34 : ∀ q ∈ tb_i34, decode cX2_advance q.1 = .ok (q.2.1, q.2.2) := by decide +kernel
theorem tv_i35 : ∀ q ∈ tb_i35, decode cX2_skip q.1 = .ok (q.2.1, q.2.2) := by decide +kernel
theorem tv_i36 : ∀ q ∈ tb_i36, decode cX2_takeNumber q.1 = .ok (q.2.1, q.2.2) := by decide +kernel
theorem tv_i37 : ∀ q ∈ tb_i37, decode cX2_wordRead q.1 = .ok (q.2.1, q.2.2) := by decide +kernel
theorem tv_i38 : ∀ q ∈ tb_i38, decode cX3_has q.1 = .ok (q.2.1, q.2.2) := by decide +kernel
theorem tv_i39 : ∀ q ∈ tb_i39, decode cX3_isNothing q.1 = .ok (q.2.1, q.2.2) := by decide +kernel
theorem tv_i40 : ∀ q ∈ tb_i40, decode cX3_renew q.1 = .ok (q.2.1, q.2.2) := by decide +kernel
theorem tv_i41 : ∀ q ∈ tb_i41, decode cX3_faultOfCell q.1 = .ok (q.2.1, q.2.2) := by decide +kernel
theorem tv_i42 : ∀ q ∈ tb_i42, decode cX3_faultOfReading q.1 = .ok (q.2.1, q.2.2) := by decide +kernel
theorem tv_i43 : ∀ q ∈ tb_i43, decode cX3_put q.1 = .ok (q.2.1, q.2.2) := by decide +kernel
theorem tv_i44 : ∀ q ∈ tb_i44, decode cX4_add q.1 = .ok (q.2.1, q.2.2) := by decide +kernel
theorem tv_i45 : ∀ q ∈ tb_i45, decode cX4_kindsOf q.1 = .ok (q.2.1, q.2.2) := by decide +kernel
theorem tv_i46 : ∀ q ∈ tb_i46, decode cX5_feed q.1 = .ok (q.2.1, q.2.2) := by decide +kernel
theorem tv_i47 : ∀ q ∈ tb_i47, decode cX5_end q.1 = .ok (q.2.1, q.2.2) := by decide +kernel
theorem tv_i48 : ∀ q ∈ tb_i48, decode cX5_text q.1 = .ok (q.2.1, q.2.2) := by decide +kernel
theorem tv_i49 : ∀ q ∈ tb_i49, decode cX5_fault q.1 = .ok (q.2.1, q.2.2) := by decide +kernel
theorem tv_i50 : ∀ q ∈ tb_i50, decode cX5_rule q.1 = .ok (q.2.1, q.2.2) := by decide +kernel
theorem tv_i51 : ∀ q ∈ tb_i51, decode cX5_test q.1 = .ok (q.2.1, q.2.2) := by decide +kernel
theorem tv_i52 : ∀ q ∈ tb_i52, decode cX5_act q.1 = .ok (q.2.1, q.2.2) := by decide +kernel
theorem tv_i53 : ∀ q ∈ tb_i53, decode cX5_alter q.1 = .ok (q.2.1, q.2.2) := by decide +kernel
theorem tv_i54 : ∀ q ∈ tb_i54, decode cX5_resize q.1 = .ok (q.2.1, q.2.2) := by decide +kernel
theorem tv_i55 : ∀ q ∈ tb_i55, decode cX5_replace q.1 = .ok (q.2.1, q.2.2) := by decide +kernel
theorem tv_i56 : ∀ q ∈ tb_i56, decode cX5_strong q.1 = .ok (q.2.1, q.2.2) := by decide +kernel
theorem tv_i57 : ∀ q ∈ tb_i57, decode cX5_fill q.1 = .ok (q.2.1, q.2.2) := by decide +kernel
theorem tv_i58 : ∀ q ∈ tb_i58, decode cX5_plan q.1 = .ok (q.2.1, q.2.2) := by decide +kernel
theorem tv_i59 : ∀ q ∈ tb_i59, decode cX5_cut q.1 = .ok (q.2.1, q.2.2) := by decide +kernel
theorem tv_i60 : ∀ q ∈ tb_i60, decode cX5_pull q.1 = .ok (q.2.1, q.2.2) := by decide +kernel
theorem tv_i61 : ∀ q ∈ tb_i61, decode cX5_rest q.1 = .ok (q.2.1, q.2.2) := by decide +kernel
theorem tv_i62 : ∀ q ∈ tb_i62, decode cX5_runs q.1 = .ok (q.2.1, q.2.2) := by decide +kernel
theorem tv_i63 : ∀ q ∈ tb_i63, decode cX5_ahead q.1 = .ok (q.2.1, q.2.2) := by decide +kernel
theorem tv_i64 : ∀ q ∈ tb_i64, decode cX5_need q.1 = .ok (q.2.1, q.2.2) := by decide +kernel
theorem tv_i65 : ∀ q ∈ tb_i65, decode cX5_least q.1 = .ok (q.2.1, q.2.2) := by decide +kernel
theorem tv_i66 : ∀ q ∈ tb_i66, decode cX5_isWonBy q.1 = .ok (q.2.1, q.2.2) := by decide +kernel
theorem tv_i67 : ∀ q ∈ tb_i67, decode cX5_best q.1 = .ok (q.2.1, q.2.2) := by decide +kernel
theorem tv_i68 : ∀ q ∈ tb_i68, decode cX5_bestRow q.1 = .ok (q.2.1, q.2.2) := by decide +kernel
theorem tv_i69 : ∀ q ∈ tb_i69, decode cX5_tryRow q.1 = .ok (q.2.1, q.2.2) := by decide +kernel
theorem tv_i70 : ∀ q ∈ tb_i70, decode cX5_actOfRow q.1 = .ok (q.2.1, q.2.2) := by decide +kernel
theorem tv_i71 : ∀ q ∈ tb_i71, decode cX5_hide q.1 = .ok (q.2.1, q.2.2) := by decide +kernel
theorem tv_i72 : ∀ q ∈ tb_i72, decode cX5_swap q.1 = .ok (q.2.1, q.2.2) := by decide +kernel
theorem tv_i73 : ∀ q ∈ tb_i73, decode cX5_laughsIfChanged q.1 = .ok (q.2.1, q.2.2) := by decide +kernel
theorem tv_i74 : ∀ q ∈ tb_i74, decode cX5_unmask q.1 = .ok (q.2.1, q.2.2) := by decide +kernel
theorem tv_i75 : ∀ q ∈ tb_i75, decode cX5_movedIfPlain q.1 = .ok (q.2.1, q.2.2) := by decide +kernel
theorem tv_i76 : ∀ q ∈ tb_i76, decode cX5_luck q.1 = .ok (q.2.1, q.2.2) := by decide +kernel
theorem tv_i77 : ∀ q ∈ tb_i77, decode cX5_mean q.1 = .ok (q.2.1, q.2.2) := by decide +kernel
theorem tv_i78 : ∀ q ∈ tb_i78, decode cX5_areOdds q.1 = .ok (q.2.1, q.2.2) := by decide +kernel
theorem tv_i79 : ∀ q ∈ tb_i79, decode cX5_see q.1 = .ok (q.2.1, q.2.2) := by decide +kernel
theorem tv_i80 : ∀ q ∈ tb_i80, decode cX5_forget q.1 = .ok (q.2.1, q.2.2) := by decide +kernel
theorem tv_i81 : ∀ q ∈ tb_i81, decode cX5_kinds q.1 = .ok (q.2.1, q.2.2) := by decide +kernel
theorem tv_i82 : ∀ q ∈ tb_i82, decode cX5_ask q.1 = .ok (q.2.1, q.2.2) := by decide +kernel
theorem tv_i83 : ∀ q ∈ tb_i83, decode cX5_leftAtWorst q.1 = .ok (q.2.1, q.2.2) := by decide +kernel
theorem tv_i84 : ∀ q ∈ tb_i84, decode cX5_arms q.1 = .ok (q.2.1, q.2.2) := by decide +kernel
theorem tv_i85 : ∀ q ∈ tb_i85, decode cX5_drift q.1 = .ok (q.2.1, q.2.2) := by decide +kernel
theorem tv_i86 : ∀ q ∈ tb_i86, decode cX5_keep q.1 = .ok (q.2.1, q.2.2) := by decide +kernel
theorem tv_i87 : ∀ q ∈ tb_i87, decode cX5_back q.1 = .ok (q.2.1, q.2.2) := by decide +kernel
theorem tv_i88 : ∀ q ∈ tb_i88, decode cX5_imageAt q.1 = .ok (q.2.1, q.2.2) := by decide +kernel
theorem tv_i89 : ∀ q ∈ tb_i89, decode cX5_sheet q.1 = .ok (q.2.1, q.2.2) := by decide +kernel
theorem tv_i90 : ∀ q ∈ tb_i90, decode cX5_lay q.1 = .ok (q.2.1, q.2.2) := by decide +kernel
theorem tv_i91 : ∀ q ∈ tb_i91, decode cX5_read q.1 = .ok (q.2.1, q.2.2) := by decide +kernel
theorem tv_i92 : ∀ q ∈ tb_i92, decode cX5_torn q.1 = .ok (q.2.1, q.2.2) := by decide +kernel
theorem tv_i93 : ∀ q ∈ tb_i93, decode cX5_count q.1 = .ok (q.2.1, q.2.2) := by decide +kernel
theorem tv_i94 : ∀ q ∈ tb_i94, decode cX5_within q.1 = .ok (q.2.1, q.2.2) := by decide +kernel
theorem tv_i95 : ∀ q ∈ tb_i95, decode cX5_hasBit q.1 = .ok (q.2.1, q.2.2) := by decide +kernel
theorem tv_i96 : ∀ q ∈ tb_i96, decode cX5_yieldBy q.1 = .ok (q.2.1, q.2.2) := by decide +kernel
theorem tv_i97 : ∀ q ∈ tb_i97, decode cX5_kindsThatYield q.1 = .ok (q.2.1, q.2.2) := by decide +kernel
theorem tv_i98 : ∀ q ∈ tb_i98, decode cX6_in q.1 = .ok (q.2.1, q.2.2) := by decide +kernel
theorem tv_i99 : ∀ q ∈ tb_i99, decode cX6_feed q.1 = .ok (q.2.1, q.2.2) := by decide +kernel
theorem tv_i100 : ∀ q ∈ tb_i100, decode cX6_end q.1 = .ok (q.2.1, q.2.2) := by decide +kernel
theorem tv_i101 : ∀ q ∈ tb_i101, decode cX6_byteAt q.1 = .ok (q.2.1, q.2.2) := by decide +kernel
theorem tv_i102 : ∀ q ∈ tb_i102, decode cX6_fails q.1 = .ok (q.2.1, q.2.2) := by decide +kernel
theorem tv_i103 : ∀ q ∈ tb_i103, decode cX6_nameHere q.1 = .ok (q.2.1, q.2.2) := by decide +kernel
theorem tv_i104 : ∀ q ∈ tb_i104, decode cX6_step q.1 = .ok (q.2.1, q.2.2) := by decide +kernel
theorem tv_i105 : ∀ q ∈ tb_i105, decode cX6_number q.1 = .ok (q.2.1, q.2.2) := by decide +kernel
theorem tv_i106 : ∀ q ∈ tb_i106, decode cX6_readPlan q.1 = .ok (q.2.1, q.2.2) := by decide +kernel
theorem tv_i107 : ∀ q ∈ tb_i107, decode cX6_readTest q.1 = .ok (q.2.1, q.2.2) := by decide +kernel
theorem tv_i108 : ∀ q ∈ tb_i108, decode cX6_readLine q.1 = .ok (q.2.1, q.2.2) := by decide +kernel
theorem tv_i109 : ∀ q ∈ tb_i109, decode cX6_text q.1 = .ok (q.2.1, q.2.2) := by decide +kernel
theorem tv_i110 : ∀ q ∈ tb_i110, decode cX6_fault q.1 = .ok (q.2.1, q.2.2) := by decide +kernel
theorem tv_i111 : ∀ q ∈ tb_i111, decode cX6_isTest q.1 = .ok (q.2.1, q.2.2) := by decide +kernel
theorem tv_i112 : ∀ q ∈ tb_i112, decode cX6_yieldOf q.1 = .ok (q.2.1, q.2.2) := by decide +kernel
theorem tv_i113 : ∀ q ∈ tb_i113, decode cX6_strengthOn q.1 = .ok (q.2.1, q.2.2) := by decide +kernel
theorem tv_i114 : ∀ q ∈ tb_i114, decode cX6_yieldOn q.1 = .ok (q.2.1, q.2.2) := by decide +kernel
theorem tv_i115 : ∀ q ∈ tb_i115, decode cX6_isWon q.1 = .ok (q.2.1, q.2.2) := by decide +kernel
theorem tv_i116 : ∀ q ∈ tb_i116, decode cX6_wonOn q.1 = .ok (q.2.1, q.2.2) := by decide +kernel
theorem tv_i117 : ∀ q ∈ tb_i117, decode cX6_movedOn q.1 = .ok (q.2.1, q.2.2) := by decide +kernel
theorem tv_i118 : ∀ q ∈ tb_i118, decode cX6_rule q.1 = .ok (q.2.1, q.2.2) := by decide +kernel
theorem tv_i119 : ∀ q ∈ tb_i119, decode cX6_test q.1 = .ok (q.2.1, q.2.2) := by decide +kernel
theorem tv_i120 : ∀ q ∈ tb_i120, decode cX6_act q.1 = .ok (q.2.1, q.2.2) := by decide +kernel
theorem tv_i121 : ∀ q ∈ tb_i121, decode cX6_puts q.1 = .ok (q.2.1, q.2.2) := by decide +kernel
theorem tv_i122 : ∀ q ∈ tb_i122, decode cX6_alter q.1 = .ok (q.2.1, q.2.2) := by decide +kernel
theorem tv_i123 : ∀ q ∈ tb_i123, decode cX6_strong q.1 = .ok (q.2.1, q.2.2) := by decide +kernel
theorem tv_i124 : ∀ q ∈ tb_i124, decode cX6_fill q.1 = .ok (q.2.1, q.2.2) := by decide +kernel
theorem tv_i125 : ∀ q ∈ tb_i125, decode cX6_plan q.1 = .ok (q.2.1, q.2.2) := by decide +kernel
theorem tv_i126 : ∀ q ∈ tb_i126, decode cX6_cut q.1 = .ok (q.2.1, q.2.2) := by decide +kernel
theorem tv_i127 : ∀ q ∈ tb_i127, decode cX6_canPull q.1 = .ok (q.2.1, q.2.2) := by decide +kernel
theorem tv_i128 : ∀ q ∈ tb_i128, decode cX6_pullsOn q.1 = .ok (q.2.1, q.2.2) := by decide +kernel
theorem tv_i129 : ∀ q ∈ tb_i129, decode cX6_restsOn q.1 = .ok (q.2.1, q.2.2) := by decide +kernel
theorem tv_i130 : ∀ q ∈ tb_i130, decode cX6_actsOn q.1 = .ok (q.2.1, q.2.2) := by decide +kernel
theorem tv_i131 : ∀ q ∈ tb_i131, decode cX6_pulls q.1 = .ok (q.2.1, q.2.2) := by decide +kernel
theorem tv_i132 : ∀ q ∈ tb_i132, decode cX6_pull q.1 = .ok (q.2.1, q.2.2) := by decide +kernel
theorem tv_i133 : ∀ q ∈ tb_i133, decode cX6_rest q.1 = .ok (q.2.1, q.2.2) := by decide +kernel
theorem tv_i134 : ∀ q ∈ tb_i134, decode cX6_copies q.1 = .ok (q.2.1, q.2.2) := by decide +kernel
theorem tv_i135 : ∀ q ∈ tb_i135, decode cX6_planGoes q.1 = .ok (q.2.1, q.2.2) := by decide +kernel
theorem tv_i136 : ∀ q ∈ tb_i136, decode cX6_laughsMore q.1 = .ok (q.2.1, q.2.2) := by decide +kernel
theorem tv_i137 : ∀ q ∈ tb_i137, decode cX6_runs q.1 = .ok (q.2.1, q.2.2) := by decide +kernel
theorem tv_i138 : ∀ q ∈ tb_i138, decode cX6_ahead q.1 = .ok (q.2.1, q.2.2) := by decide +kernel
theorem tv_i139 : ∀ q ∈ tb_i139, decode cX6_aloneBy q.1 = .ok (q.2.1, q.2.2) := by decide +kernel
theorem tv_i140 : ∀ q ∈ tb_i140, decode cX6_need q.1 = .ok (q.2.1, q.2.2) := by decide +kernel
theorem tv_i141 : ∀ q ∈ tb_i141, decode cX6_least q.1 = .ok (q.2.1, q.2.2) := by decide +kernel
theorem tv_i142 : ∀ q ∈ tb_i142, decode cX6_bitsOf q.1 = .ok (q.2.1, q.2.2) := by decide +kernel
theorem tv_i143 : ∀ q ∈ tb_i143, decode cX6_powerOf q.1 = .ok (q.2.1, q.2.2) := by decide +kernel
theorem tv_i144 : ∀ q ∈ tb_i144, decode cX6_figureOf q.1 = .ok (q.2.1, q.2.2) := by decide +kernel
theorem tv_i145 : ∀ q ∈ tb_i145, decode cX6_rowGoes q.1 = .ok (q.2.1, q.2.2) := by decide +kernel
theorem tv_i146 : ∀ q ∈ tb_i146, decode cX6_best q.1 = .ok (q.2.1, q.2.2) := by decide +kernel
theorem tv_i147 : ∀ q ∈ tb_i147, decode cX6_hide q.1 = .ok (q.2.1, q.2.2) := by decide +kernel
theorem tv_i148 : ∀ q ∈ tb_i148, decode cX6_swap q.1 = .ok (q.2.1, q.2.2) := by decide +kernel
theorem tv_i149 : ∀ q ∈ tb_i149, decode cX6_unmask q.1 = .ok (q.2.1, q.2.2) := by decide +kernel
theorem tv_i150 : ∀ q ∈ tb_i150, decode cX6_lowest q.1 = .ok (q.2.1, q.2.2) := by decide +kernel
theorem tv_i151 : ∀ q ∈ tb_i151, decode cX6_bySlips q.1 = .ok (q.2.1, q.2.2) := by decide +kernel
theorem tv_i152 : ∀ q ∈ tb_i152, decode cX6_isAsked q.1 = .ok (q.2.1, q.2.2) := by decide +kernel
theorem tv_i153 : ∀ q ∈ tb_i153, decode cX6_luck q.1 = .ok (q.2.1, q.2.2) := by decide +kernel
theorem tv_i154 : ∀ q ∈ tb_i154, decode cX6_mean q.1 = .ok (q.2.1, q.2.2) := by decide +kernel
theorem tv_i155 : ∀ q ∈ tb_i155, decode cX6_see q.1 = .ok (q.2.1, q.2.2) := by decide +kernel
theorem tv_i156 : ∀ q ∈ tb_i156, decode cX6_forget q.1 = .ok (q.2.1, q.2.2) := by decide +kernel
theorem tv_i157 : ∀ q ∈ tb_i157, decode cX6_kindsOf q.1 = .ok (q.2.1, q.2.2) := by decide +kernel
theorem tv_i158 : ∀ q ∈ tb_i158, decode cX6_kinds q.1 = .ok (q.2.1, q.2.2) := by decide +kernel
theorem tv_i159 : ∀ q ∈ tb_i159, decode cX6_ask q.1 = .ok (q.2.1, q.2.2) := by decide +kernel
theorem tv_i160 : ∀ q ∈ tb_i160, decode cX6_arms q.1 = .ok (q.2.1, q.2.2) := by decide +kernel
theorem tv_i161 : ∀ q ∈ tb_i161, decode cX6_drift q.1 = .ok (q.2.1, q.2.2) := by decide +kernel
theorem tv_i162 : ∀ q ∈ tb_i162, decode cX6_keep q.1 = .ok (q.2.1, q.2.2) := by decide +kernel
theorem tv_i163 : ∀ q ∈ tb_i163, decode cX6_back q.1 = .ok (q.2.1, q.2.2) := by decide +kernel
theorem tv_i164 : ∀ q ∈ tb_i164, decode cX6_sheet q.1 = .ok (q.2.1, q.2.2) := by decide +kernel
theorem tv_i165 : ∀ q ∈ tb_i165, decode cX6_lay q.1 = .ok (q.2.1, q.2.2) := by decide +kernel
theorem tv_i166 : ∀ q ∈ tb_i166, decode cX6_read q.1 = .ok (q.2.1, q.2.2) := by decide +kernel
theorem tv_i167 : ∀ q ∈ tb_i167, decode cX6_torn q.1 = .ok (q.2.1, q.2.2) := by decide +kernel
theorem tv_i168 : ∀ q ∈ tb_i168, decode cX6_count q.1 = .ok (q.2.1, q.2.2) := by decide +kernel
theorem tv_i169 : ∀ q ∈ tb_i169, decode cL_law q.1 = .ok (q.2.1, q.2.2) := by decide +kernel
theorem tv_i170 : ∀ q ∈ tb_i170, decode cJ6_bitCount_0f7a4 q.1 = .ok (q.2.1, q.2.2) := by decide +kernel
theorem tv_m0 : (ai_mok tb_m0 ∧ plainName tb_m0.1.cls = true) ∧ ∀ q ∈ tb_m0.2.2.2.2.2.2.2.2.2.2.1, ai_lok tb_MT tb_m0.1.cls q := ⟨⟨⟨tv_i0, tv_fl_RX0, tv_fp_RX0, tv_ci_RX0, tv_cl_RX0⟩, by decide +kernel⟩, tv_ml_RX0⟩
theorem tv_m1 : (ai_mok tb_m1 ∧ plainName tb_m1.1.cls = true) ∧ ∀ q ∈ tb_m1.2.2.2.2.2.2.2.2.2.2.1, ai_lok tb_MT tb_m1.1.cls q := ⟨⟨⟨tv_i1, tv_fl_RX0, tv_fp_RX0, tv_ci_RX0, tv_cl_RX0⟩, by decide +kernel⟩, tv_ml_RX0⟩
theorem tv_m2 : (ai_mok tb_m2 ∧ plainName tb_m2.1.cls = true) ∧ ∀ q ∈ tb_m2.2.2.2.2.2.2.2.2.2.2.1, ai_lok tb_MT tb_m2.1.cls q := ⟨⟨⟨tv_i2, tv_fl_RX0, tv_fp_RX0, tv_ci_RX0, tv_cl_RX0⟩, by decide +kernel⟩, tv_ml_RX0⟩
theorem tv_m3 : (ai_mok tb_m3 ∧ plainName tb_m3.1.cls = true) ∧ ∀ q ∈ tb_m3.2.2.2.2.2.2.2.2.2.2.1, ai_lok tb_MT tb_m3.1.cls q := ⟨⟨⟨tv_i3, tv_fl_RX0, tv_fp_RX0, tv_ci_RX0, tv_cl_RX0⟩, by decide +kernel⟩, tv_ml_RX0⟩
theorem tv_m4 : (ai_mok tb_m4 ∧ plainName tb_m4.1.cls = true) ∧ ∀ q ∈ tb_m4.2.2.2.2.2.2.2.2.2.2.1, ai_lok tb_MT tb_m4.1.cls q := ⟨⟨⟨tv_i4, tv_fl_RX0, tv_fp_RX0, tv_ci_RX0, tv_cl_RX0⟩, by decide +kernel⟩, tv_ml_RX0⟩
theorem tv_m5 : (ai_mok tb_m5 ∧ plainName tb_m5.1.cls = true) ∧ ∀ q ∈ tb_m5.2.2.2.2.2.2.2.2.2.2.1, ai_lok tb_MT tb_m5.1.cls q := ⟨⟨⟨tv_i5, tv_fl_RX0, tv_fp_RX0, tv_ci_RX0, tv_cl_RX0⟩, by decide +kernel⟩, tv_ml_RX0⟩
theorem tv_m6 : (ai_mok tb_m6 ∧ plainName tb_m6.1.cls = true) ∧ ∀ q ∈ tb_m6.2.2.2.2.2.2.2.2.2.2.1, ai_lok tb_MT tb_m6.1.cls q := ⟨⟨⟨tv_i6, tv_fl_RX0, tv_fp_RX0, tv_ci_RX0, tv_cl_RX0⟩, by decide +kernel⟩, tv_ml_RX0⟩
theorem tv_m7 : (ai_mok tb_m7 ∧ plainName tb_m7.1.cls = true) ∧ ∀ q ∈ tb_m7.2.2.2.2.2.2.2.2.2.2.1, ai_lok tb_MT tb_m7.1.cls q := ⟨⟨⟨tv_i7, tv_fl_RX0, tv_fp_RX0, tv_ci_RX0, tv_cl_RX0⟩, by decide +kernel⟩, tv_ml_RX0⟩
theorem tv_m8 : (ai_mok tb_m8 ∧ plainName tb_m8.1.cls = true) ∧ ∀ q ∈ tb_m8.2.2.2.2.2.2.2.2.2.2.1, ai_lok tb_MT tb_m8.1.cls q := ⟨⟨⟨tv_i8, tv_fl_RX0, tv_fp_RX0, tv_ci_RX0, tv_cl_RX0⟩, by decide +kernel⟩, tv_ml_RX0⟩
theorem tv_m9 : (ai_mok tb_m9 ∧ plainName tb_m9.1.cls = true) ∧ ∀ q ∈ tb_m9.2.2.2.2.2.2.2.2.2.2.1, ai_lok tb_MT tb_m9.1.cls q := ⟨⟨⟨tv_i9, tv_fl_RX0, tv_fp_RX0, tv_ci_RX0, tv_cl_RX0⟩, by decide +kernel⟩, tv_ml_RX0⟩
theorem tv_m10 : (ai_mok tb_m10 ∧ plainName tb_m10.1.cls = true) ∧ ∀ q ∈ tb_m10.2.2.2.2.2.2.2.2.2.2.1, ai_lok tb_MT tb_m10.1.cls q := ⟨⟨⟨tv_i10, tv_fl_RX0, tv_fp_RX0, tv_ci_RX0, tv_cl_RX0⟩, by decide +kernel⟩, tv_ml_RX0⟩
theorem tv_m11 : (ai_mok tb_m11 ∧ plainName tb_m11.1.cls = true) ∧ ∀ q ∈ tb_m11.2.2.2.2.2.2.2.2.2.2.1, ai_lok tb_MT tb_m11.1.cls q := ⟨⟨⟨tv_i11, tv_fl_RX0, tv_fp_RX0, tv_ci_RX0, tv_cl_RX0⟩, by decide +kernel⟩, tv_ml_RX0⟩
theorem tv_m12 : (ai_mok tb_m12 ∧ plainName tb_m12.1.cls = true) ∧ ∀ q ∈ tb_m12.2.2.2.2.2.2.2.2.2.2.1, ai_lok tb_MT tb_m12.1.cls q := ⟨⟨⟨tv_i12, tv_fl_RX0, tv_fp_RX0, tv_ci_RX0, tv_cl_RX0⟩, by decide +kernel⟩, tv_ml_RX0⟩
theorem tv_m13 : (ai_mok tb_m13 ∧ plainName tb_m13.1.cls = true) ∧ ∀ q ∈ tb_m13.2.2.2.2.2.2.2.2.2.2.1, ai_lok tb_MT tb_m13.1.cls q := ⟨⟨⟨tv_i13, tv_fl_RX0, tv_fp_RX0, tv_ci_RX0, tv_cl_RX0⟩, by decide +kernel⟩, tv_ml_RX0⟩
theorem tv_m14 : (ai_mok tb_m14 ∧ plainName tb_m14.1.cls = true) ∧ ∀ q ∈ tb_m14.2.2.2.2.2.2.2.2.2.2.1, ai_lok tb_MT tb_m14.1.cls q := ⟨⟨⟨tv_i14, tv_fl_RX0, tv_fp_RX0, tv_ci_RX0, tv_cl_RX0⟩, by decide +kernel⟩, tv_ml_RX0⟩
theorem tv_m15 : (ai_mok tb_m15 ∧ plainName tb_m15.1.cls = true) ∧ ∀ q ∈ tb_m15.2.2.2.2.2.2.2.2.2.2.1, ai_lok tb_MT tb_m15.1.cls q := ⟨⟨⟨tv_i15, tv_fl_RX0, tv_fp_RX0, tv_ci_RX0, tv_cl_RX0⟩, by decide +kernel⟩, tv_ml_RX0⟩
theorem tv_m16 : (ai_mok tb_m16 ∧ plainName tb_m16.1.cls = true) ∧ ∀ q ∈ tb_m16.2.2.2.2.2.2.2.2.2.2.1, ai_lok tb_MT tb_m16.1.cls q := ⟨⟨⟨tv_i16, tv_fl_RX0, tv_fp_RX0, tv_ci_RX0, tv_cl_RX0⟩, by decide +kernel⟩, tv_ml_RX0⟩
theorem tv_m17 : (ai_mok tb_m17 ∧ plainName tb_m17.1.cls = true) ∧ ∀ q ∈ tb_m17.2.2.2.2.2.2.2.2.2.2.1, ai_lok tb_MT tb_m17.1.cls q := ⟨⟨⟨tv_i17, tv_fl_RX0, tv_fp_RX0, tv_ci_RX0, tv_cl_RX0⟩, by decide +kernel⟩, tv_ml_RX0⟩
theorem tv_m18 : (ai_mok tb_m18 ∧ plainName tb_m18.1.cls = true) ∧ ∀ q ∈ tb_m18.2.2.2.2.2.2.2.2.2.2.1, ai_lok tb_MT tb_m18.1.cls q := ⟨⟨⟨tv_i18, tv_fl_RX1, tv_fp_RX1, tv_ci_RX1, tv_cl_RX1⟩, by decide +kernel⟩, tv_ml_RX1⟩
theorem tv_m19 : (ai_mok tb_m19 ∧ plainName tb_m19.1.cls = true) ∧ ∀ q ∈ tb_m19.2.2.2.2.2.2.2.2.2.2.1, ai_lok tb_MT tb_m19.1.cls q := ⟨⟨⟨tv_i19, tv_fl_RX1, tv_fp_RX1, tv_ci_RX1, tv_cl_RX1⟩, by decide +kernel⟩, tv_ml_RX1⟩
theorem tv_m20 : (ai_mok tb_m20 ∧ plainName tb_m20.1.cls = true) ∧ ∀ q ∈ tb_m20.2.2.2.2.2.2.2.2.2.2.1, ai_lok tb_MT tb_m20.1.cls q := ⟨⟨⟨tv_i20, tv_fl_RX1, tv_fp_RX1, tv_ci_RX1, tv_cl_RX1⟩, by decide +kernel⟩, tv_ml_RX1⟩
theorem tv_m21 : (ai_mok tb_m21 ∧ plainName tb_m21.1.cls = true) ∧ ∀ q ∈ tb_m21.2.2.2.2.2.2.2.2.2.2.1, ai_lok tb_MT tb_m21.1.cls q := ⟨⟨⟨tv_i21, tv_fl_RX1, tv_fp_RX1, tv_ci_RX1, tv_cl_RX1⟩, by decide +kernel⟩, tv_ml_RX1⟩
theorem tv_m22 : (ai_mok tb_m22 ∧ plainName tb_m22.1.cls = true) ∧ ∀ q ∈ tb_m22.2.2.2.2.2.2.2.2.2.2.1, ai_lok tb_MT tb_m22.1.cls q := ⟨⟨⟨tv_i22, tv_fl_RX1, tv_fp_RX1, tv_ci_RX1, tv_cl_RX1⟩, by decide +kernel⟩, tv_ml_RX1⟩
theorem tv_m23 : (ai_mok tb_m23 ∧ plainName tb_m23.1.cls = true) ∧ ∀ q ∈ tb_m23.2.2.2.2.2.2.2.2.2.2.1, ai_lok tb_MT tb_m23.1.cls q := ⟨⟨⟨tv_i23, tv_fl_RX1, tv_fp_RX1, tv_ci_RX1, tv_cl_RX1⟩, by decide +kernel⟩, tv_ml_RX1⟩
theorem tv_m24 : (ai_mok tb_m24 ∧ plainName tb_m24.1.cls = true) ∧ ∀ q ∈ tb_m24.2.2.2.2.2.2.2.2.2.2.1, ai_lok tb_MT tb_m24.1.cls q := ⟨⟨⟨tv_i24, tv_fl_RX2, tv_fp_RX2, tv_ci_RX2, tv_cl_RX2⟩, by decide +kernel⟩, tv_ml_RX2⟩
theorem tv_m25 : (ai_mok tb_m25 ∧ plainName tb_m25.1.cls = true) ∧ ∀ q ∈ tb_m25.2.2.2.2.2.2.2.2.2.2.1, ai_lok tb_MT tb_m25.1.cls q := ⟨⟨⟨tv_i25, tv_fl_RX2, tv_fp_RX2, tv_ci_RX2, tv_cl_RX2⟩, by decide +kernel⟩, tv_ml_RX2⟩
theorem tv_m26 : (ai_mok tb_m26 ∧ plainName tb_m26.1.cls = true) ∧ ∀ q ∈ tb_m26.2.2.2.2.2.2.2.2.2.2.1, ai_lok tb_MT tb_m26.1.cls q := ⟨⟨⟨tv_i26, tv_fl_RX2, tv_fp_RX2, tv_ci_RX2, tv_cl_RX2⟩, by decide +kernel⟩, tv_ml_RX2⟩
theorem tv_m27 : (ai_mok tb_m27 ∧ plainName tb_m27.1.cls = true) ∧ ∀ q ∈ tb_m27.2.2.2.2.2.2.2.2.2.2.1, ai_lok tb_MT tb_m27.1.cls q := ⟨⟨⟨tv_i27, tv_fl_RX2, tv_fp_RX2, tv_ci_RX2, tv_cl_RX2⟩, by decide +kernel⟩, tv_ml_RX2⟩
theorem tv_m28 : (ai_mok tb_m28 ∧ plainName tb_m28.1.cls = true) ∧ ∀ q ∈ tb_m28.2.2.2.2.2.2.2.2.2.2.1, ai_lok tb_MT tb_m28.1.cls q := ⟨⟨⟨tv_i28, tv_fl_RX2, tv_fp_RX2, tv_ci_RX2, tv_cl_RX2⟩, by decide +kernel⟩, tv_ml_RX2⟩
theorem tv_m29 : (ai_mok tb_m29 ∧ plainName tb_m29.1.cls = true) ∧ ∀ q ∈ tb_m29.2.2.2.2.2.2.2.2.2.2.1, ai_lok tb_MT tb_m29.1.cls q := ⟨⟨⟨tv_i29, tv_fl_RX2, tv_fp_RX2, tv_ci_RX2, tv_cl_RX2⟩, by decide +kernel⟩, tv_ml_RX2⟩
theorem tv_m30 : (ai_mok tb_m30 ∧ plainName tb_m30.1.cls = true) ∧ ∀ q ∈ tb_m30.2.2.2.2.2.2.2.2.2.2.1, ai_lok tb_MT tb_m30.1.cls q := ⟨⟨⟨tv_i30, tv_fl_RX2, tv_fp_RX2, tv_ci_RX2, tv_cl_RX2⟩, by decide +kernel⟩, tv_ml_RX2⟩
theorem tv_m31 : (ai_mok tb_m31 ∧ plainName tb_m31.1.cls = true) ∧ ∀ q ∈ tb_m31.2.2.2.2.2.2.2.2.2.2.1, ai_lok tb_MT tb_m31.1.cls q := ⟨⟨⟨tv_i31, tv_fl_RX2, tv_fp_RX2, tv_ci_RX2, tv_cl_RX2⟩, by decide +kernel⟩, tv_ml_RX2⟩
theorem tv_m32 : (ai_mok tb_m32 ∧ plainName tb_m32.1.cls = true) ∧ ∀ q ∈ tb_m32.2.2.2.2.2.2.2.2.2.2.1, ai_lok tb_MT tb_m32.1.cls q := ⟨⟨⟨tv_i32, tv_fl_RX2, tv_fp_RX2, tv_ci_RX2, tv_cl_RX2⟩, by decide +kernel⟩, tv_ml_RX2⟩
theorem tv_m33 : (ai_mok tb_m33 ∧ plainName tb_m33.1.cls = true) ∧ ∀ q ∈ tb_m33.2.2.2.2.2.2.2.2.2.2.1, ai_lok tb_MT tb_m33.1.cls q := ⟨⟨⟨tv_i33, tv_fl_RX2, tv_fp_RX2, tv_ci_RX2, tv_cl_RX2⟩, by decide +kernel⟩, tv_ml_RX2⟩
theorem tv_m34 : (ai_mok tb_m34 ∧ plainName tb_m34.1.cls = true) ∧ ∀ q ∈ tb_m34.2.2.2.2.2.2.2.2.2.2.1, ai_lok tb_MT tb_m34.1.cls q := ⟨⟨⟨tv_i34, tv_fl_RX2, tv_fp_RX2, tv_ci_RX2, tv_cl_RX2⟩, by decide +kernel⟩, tv_ml_RX2⟩
theorem tv_m35 : (ai_mok tb_m35 ∧ plainName tb_m35.1.cls = true) ∧ ∀ q ∈ tb_m35.2.2.2.2.2.2.2.2.2.2.1, ai_lok tb_MT tb_m35.1.cls q := ⟨⟨⟨tv_i35, tv_fl_RX2, tv_fp_RX2, tv_ci_RX2, tv_cl_RX2⟩, by decide +kernel⟩, tv_ml_RX2⟩
theorem tv_m36 : (ai_mok tb_m36 ∧ plainName tb_m36.1.cls = true) ∧ ∀ q ∈ tb_m36.2.2.2.2.2.2.2.2.2.2.1, ai_lok tb_MT tb_m36.1.cls q := ⟨⟨⟨tv_i36, tv_fl_RX2, tv_fp_RX2, tv_ci_RX2, tv_cl_RX2⟩, by decide +kernel⟩, tv_ml_RX2⟩
theorem tv_m37 : (ai_mok tb_m37 ∧ plainName tb_m37.1.cls = true) ∧ ∀ q ∈ tb_m37.2.2.2.2.2.2.2.2.2.2.1, ai_lok tb_MT tb_m37.1.cls q := ⟨⟨⟨tv_i37, tv_fl_RX2, tv_fp_RX2, tv_ci_RX2, tv_cl_RX2⟩, by decide +kernel⟩, tv_ml_RX2⟩
theorem tv_m38 : (ai_mok tb_m38 ∧ plainName tb_m38.1.cls = true) ∧ ∀ q ∈ tb_m38.2.2.2.2.2.2.2.2.2.2.1, ai_lok tb_MT tb_m38.1.cls q := ⟨⟨⟨tv_i38, tv_fl_RX3, tv_fp_RX3, tv_ci_RX3, tv_cl_RX3⟩, by decide +kernel⟩, tv_ml_RX3⟩
theorem tv_m39 : (ai_mok tb_m39 ∧ plainName tb_m39.1.cls = true) ∧ ∀ q ∈ tb_m39.2.2.2.2.2.2.2.2.2.2.1, ai_lok tb_MT tb_m39.1.cls q := ⟨⟨⟨tv_i39, tv_fl_RX3, tv_fp_RX3, tv_ci_RX3, tv_cl_RX3⟩, by decide +kernel⟩, tv_ml_RX3⟩
theorem tv_m40 : (ai_mok tb_m40 ∧ plainName tb_m40.1.cls = true) ∧ ∀ q ∈ tb_m40.2.2.2.2.2.2.2.2.2.2.1, ai_lok tb_MT tb_m40.1.cls q := ⟨⟨⟨tv_i40, tv_fl_RX3, tv_fp_RX3, tv_ci_RX3, tv_cl_RX3⟩, by decide +kernel⟩, tv_ml_RX3⟩
theorem tv_m41 : (ai_mok tb_m41 ∧ plainName tb_m41.1.cls = true) ∧ ∀ q ∈ tb_m41.2.2.2.2.2.2.2.2.2.2.1, ai_lok tb_MT tb_m41.1.cls q := ⟨⟨⟨tv_i41, tv_fl_RX3, tv_fp_RX3, tv_ci_RX3, tv_cl_RX3⟩, by decide +kernel⟩, tv_ml_RX3⟩
theorem tv_m42 : (ai_mok tb_m42 ∧ plainName tb_m42.1.cls = true) ∧ ∀ q ∈ tb_m42.2.2.2.2.2.2.2.2.2.2.1, ai_lok tb_MT tb_m42.1.cls q := ⟨⟨⟨tv_i42, tv_fl_RX3, tv_fp_RX3, tv_ci_RX3, tv_cl_RX3⟩, by decide +kernel⟩, tv_ml_RX3⟩
theorem tv_m43 : (ai_mok tb_m43 ∧ plainName tb_m43.1.cls = true) ∧ ∀ q ∈ tb_m43.2.2.2.2.2.2.2.2.2.2.1, ai_lok tb_MT tb_m43.1.cls q := ⟨⟨⟨tv_i43, tv_fl_RX3, tv_fp_RX3, tv_ci_RX3, tv_cl_RX3⟩, by decide +kernel⟩, tv_ml_RX3⟩
theorem tv_m44 : (ai_mok tb_m44 ∧ plainName tb_m44.1.cls = true) ∧ ∀ q ∈ tb_m44.2.2.2.2.2.2.2.2.2.2.1, ai_lok tb_MT tb_m44.1.cls q := ⟨⟨⟨tv_i44, tv_fl_RX4, tv_fp_RX4, tv_ci_RX4, tv_cl_RX4⟩, by decide +kernel⟩, tv_ml_RX4⟩
theorem tv_m45 : (ai_mok tb_m45 ∧ plainName tb_m45.1.cls = true) ∧ ∀ q ∈ tb_m45.2.2.2.2.2.2.2.2.2.2.1, ai_lok tb_MT tb_m45.1.cls q := ⟨⟨⟨tv_i45, tv_fl_RX4, tv_fp_RX4, tv_ci_RX4, tv_cl_RX4⟩, by decide +kernel⟩, tv_ml_RX4⟩
theorem tv_m46 : (ai_mok tb_m46 ∧ plainName tb_m46.1.cls = true) ∧ ∀ q ∈ tb_m46.2.2.2.2.2.2.2.2.2.2.1, ai_lok tb_MT tb_m46.1.cls q := ⟨⟨⟨tv_i46, tv_fl_RX5, tv_fp_RX5, tv_ci_RX5, tv_cl_RX5⟩, by decide +kernel⟩, tv_ml_RX5⟩
theorem tv_m47 : (ai_mok tb_m47 ∧ plainName tb_m47.1.cls = true) ∧ ∀ q ∈ tb_m47.2.2.2.2.2.2.2.2.2.2.1, ai_lok tb_MT tb_m47.1.cls q := ⟨⟨⟨tv_i47, tv_fl_RX5, tv_fp_RX5, tv_ci_RX5, tv_cl_RX5⟩, by decide +kernel⟩, tv_ml_RX5⟩
theorem tv_m48 : (ai_mok tb_m48 ∧ plainName tb_m48.1.cls = true) ∧ ∀ q ∈ tb_m48.2.2.2.2.2.2.2.2.2.2.1, ai_lok tb_MT tb_m48.1.cls q := ⟨⟨⟨tv_i48, tv_fl_RX5, tv_fp_RX5, tv_ci_RX5, tv_cl_RX5⟩, by decide +kernel⟩, tv_ml_RX5⟩
theorem tv_m49 : (ai_mok tb_m49 ∧ plainName tb_m49.1.cls = true) ∧ ∀ q ∈ tb_m49.2.2.2.2.2.2.2.2.2.2.1, ai_lok tb_MT tb_m49.1.cls q := ⟨⟨⟨tv_i49, tv_fl_RX5, tv_fp_RX5, tv_ci_RX5, tv_cl_RX5⟩, by decide +kernel⟩, tv_ml_RX5⟩
theorem tv_m50 : (ai_mok tb_m50 ∧ plainName tb_m50.1.cls = true) ∧ ∀ q ∈ tb_m50.2.2.2.2.2.2.2.2.2.2.1, ai_lok tb_MT tb_m50.1.cls q := ⟨⟨⟨tv_i50, tv_fl_RX5, tv_fp_RX5, tv_ci_RX5, tv_cl_RX5⟩, by decide +kernel⟩, tv_ml_RX5⟩
theorem tv_m51 : (ai_mok tb_m51 ∧ plainName tb_m51.1.cls = true) ∧ ∀ q ∈ tb_m51.2.2.2.2.2.2.2.2.2.2.1, ai_lok tb_MT tb_m51.1.cls q := ⟨⟨⟨tv_i51, tv_fl_RX5, tv_fp_RX5, tv_ci_RX5, tv_cl_RX5⟩, by decide +kernel⟩, tv_ml_RX5⟩
theorem tv_m52 : (ai_mok tb_m52 ∧ plainName tb_m52.1.cls = true) ∧ ∀ q ∈ tb_m52.2.2.2.2.2.2.2.2.2.2.1, ai_lok tb_MT tb_m52.1.cls q := ⟨⟨⟨tv_i52, tv_fl_RX5, tv_fp_RX5, tv_ci_RX5, tv_cl_RX5⟩, by decide +kernel⟩, tv_ml_RX5⟩
theorem tv_m53 : (ai_mok tb_m53 ∧ plainName tb_m53.1.cls = true) ∧ ∀ q ∈ tb_m53.2.2.2.2.2.2.2.2.2.2.1, ai_lok tb_MT tb_m53.1.cls q := ⟨⟨⟨tv_i53, tv_fl_RX5, tv_fp_RX5, tv_ci_RX5, tv_cl_RX5⟩, by decide +kernel⟩, tv_ml_RX5⟩
theorem tv_m54 : (ai_mok tb_m54 ∧ plainName tb_m54.1.cls = true) ∧ ∀ q ∈ tb_m54.2.2.2.2.2.2.2.2.2.2.1, ai_lok tb_MT tb_m54.1.cls q := ⟨⟨⟨tv_i54, tv_fl_RX5, tv_fp_RX5, tv_ci_RX5, tv_cl_RX5⟩, by decide +kernel⟩, tv_ml_RX5⟩
theorem tv_m55 : (ai_mok tb_m55 ∧ plainName tb_m55.1.cls = true) ∧ ∀ q ∈ tb_m55.2.2.2.2.2.2.2.2.2.2.1, ai_lok tb_MT tb_m55.1.cls q := ⟨⟨⟨tv_i55, tv_fl_RX5, tv_fp_RX5, tv_ci_RX5, tv_cl_RX5⟩, by decide +kernel⟩, tv_ml_RX5⟩
theorem tv_m56 : (ai_mok tb_m56 ∧ plainName tb_m56.1.cls = true) ∧ ∀ q ∈ tb_m56.2.2.2.2.2.2.2.2.2.2.1, ai_lok tb_MT tb_m56.1.cls q := ⟨⟨⟨tv_i56, tv_fl_RX5, tv_fp_RX5, tv_ci_RX5, tv_cl_RX5⟩, by decide +kernel⟩, tv_ml_RX5⟩
theorem tv_m57 : (ai_mok tb_m57 ∧ plainName tb_m57.1.cls = true) ∧ ∀ q ∈ tb_m57.2.2.2.2.2.2.2.2.2.2.1, ai_lok tb_MT tb_m57.1.cls q := ⟨⟨⟨tv_i57, tv_fl_RX5, tv_fp_RX5, tv_ci_RX5, tv_cl_RX5⟩, by decide +kernel⟩, tv_ml_RX5⟩
theorem tv_m58 : (ai_mok tb_m58 ∧ plainName tb_m58.1.cls = true) ∧ ∀ q ∈ tb_m58.2.2.2.2.2.2.2.2.2.2.1, ai_lok tb_MT tb_m58.1.cls q := ⟨⟨⟨tv_i58, tv_fl_RX5, tv_fp_RX5, tv_ci_RX5, tv_cl_RX5⟩, by decide +kernel⟩, tv_ml_RX5⟩
theorem tv_m59 : (ai_mok tb_m59 ∧ plainName tb_m59.1.cls = true) ∧ ∀ q ∈ tb_m59.2.2.2.2.2.2.2.2.2.2.1, ai_lok tb_MT tb_m59.1.cls q := ⟨⟨⟨tv_i59, tv_fl_RX5, tv_fp_RX5, tv_ci_RX5, tv_cl_RX5⟩, by decide +kernel⟩, tv_ml_RX5⟩
theorem tv_m60 : (ai_mok tb_m60 ∧ plainName tb_m60.1.cls = true) ∧ ∀ q ∈ tb_m60.2.2.2.2.2.2.2.2.2.2.1, ai_lok tb_MT tb_m60.1.cls q := ⟨⟨⟨tv_i60, tv_fl_RX5, tv_fp_RX5, tv_ci_RX5, tv_cl_RX5⟩, by decide +kernel⟩, tv_ml_RX5⟩
theorem tv_m61 : (ai_mok tb_m61 ∧ plainName tb_m61.1.cls = true) ∧ ∀ q ∈ tb_m61.2.2.2.2.2.2.2.2.2.2.1, ai_lok tb_MT tb_m61.1.cls q := ⟨⟨⟨tv_i61, tv_fl_RX5, tv_fp_RX5, tv_ci_RX5, tv_cl_RX5⟩, by decide +kernel⟩, tv_ml_RX5⟩
theorem tv_m62 : (ai_mok tb_m62 ∧ plainName tb_m62.1.cls = true) ∧ ∀ q ∈ tb_m62.2.2.2.2.2.2.2.2.2.2.1, ai_lok tb_MT tb_m62.1.cls q := ⟨⟨⟨tv_i62, tv_fl_RX5, tv_fp_RX5, tv_ci_RX5, tv_cl_RX5⟩, by decide +kernel⟩, tv_ml_RX5⟩
theorem tv_m63 : (ai_mok tb_m63 ∧ plainName tb_m63.1.cls = true) ∧ ∀ q ∈ tb_m63.2.2.2.2.2.2.2.2.2.2.1, ai_lok tb_MT tb_m63.1.cls q := ⟨⟨⟨tv_i63, tv_fl_RX5, tv_fp_RX5, tv_ci_RX5, tv_cl_RX5⟩, by decide +kernel⟩, tv_ml_RX5⟩
theorem tv_m64 : (ai_mok tb_m64 ∧ plainName tb_m64.1.cls = true) ∧ ∀ q ∈ tb_m64.2.2.2.2.2.2.2.2.2.2.1, ai_lok tb_MT tb_m64.1.cls q := ⟨⟨⟨tv_i64, tv_fl_RX5, tv_fp_RX5, tv_ci_RX5, tv_cl_RX5⟩, by decide +kernel⟩, tv_ml_RX5⟩
theorem tv_m65 : (ai_mok tb_m65 ∧ plainName tb_m65.1.cls = true) ∧ ∀ q ∈ tb_m65.2.2.2.2.2.2.2.2.2.2.1, ai_lok tb_MT tb_m65.1.cls q := ⟨⟨⟨tv_i65, tv_fl_RX5, tv_fp_RX5, tv_ci_RX5, tv_cl_RX5⟩, by decide +kernel⟩, tv_ml_RX5⟩
theorem tv_m66 : (ai_mok tb_m66 ∧ plainName tb_m66.1.cls = true) ∧ ∀ q ∈ tb_m66.2.2.2.2.2.2.2.2.2.2.1, ai_lok tb_MT tb_m66.1.cls q := ⟨⟨⟨tv_i66, tv_fl_RX5, tv_fp_RX5, tv_ci_RX5, tv_cl_RX5⟩, by decide +kernel⟩, tv_ml_RX5⟩
theorem tv_m67 : (ai_mok tb_m67 ∧ plainName tb_m67.1.cls = true) ∧ ∀ q ∈ tb_m67.2.2.2.2.2.2.2.2.2.2.1, ai_lok tb_MT tb_m67.1.cls q := ⟨⟨⟨tv_i67, tv_fl_RX5, tv_fp_RX5, tv_ci_RX5, tv_cl_RX5⟩, by decide +kernel⟩, tv_ml_RX5⟩
theorem tv_m68 : (ai_mok tb_m68 ∧ plainName tb_m68.1.cls = true) ∧ ∀ q ∈ tb_m68.2.2.2.2.2.2.2.2.2.2.1, ai_lok tb_MT tb_m68.1.cls q := ⟨⟨⟨tv_i68, tv_fl_RX5, tv_fp_RX5, tv_ci_RX5, tv_cl_RX5⟩, by decide +kernel⟩, tv_ml_RX5⟩
theorem tv_m69 : (ai_mok tb_m69 ∧ plainName tb_m69.1.cls = true) ∧ ∀ q ∈ tb_m69.2.2.2.2.2.2.2.2.2.2.1, ai_lok tb_MT tb_m69.1.cls q := ⟨⟨⟨tv_i69, tv_fl_RX5, tv_fp_RX5, tv_ci_RX5, tv_cl_RX5⟩, by decide +kernel⟩, tv_ml_RX5⟩
theorem tv_m70 : (ai_mok tb_m70 ∧ plainName tb_m70.1.cls = true) ∧ ∀ q ∈ tb_m70.2.2.2.2.2.2.2.2.2.2.1, ai_lok tb_MT tb_m70.1.cls q := ⟨⟨⟨tv_i70, tv_fl_RX5, tv_fp_RX5, tv_ci_RX5, tv_cl_RX5⟩, by decide +kernel⟩, tv_ml_RX5⟩
theorem tv_m71 : (ai_mok tb_m71 ∧ plainName tb_m71.1.cls = true) ∧ ∀ q ∈ tb_m71.2.2.2.2.2.2.2.2.2.2.1, ai_lok tb_MT tb_m71.1.cls q := ⟨⟨⟨tv_i71, tv_fl_RX5, tv_fp_RX5, tv_ci_RX5, tv_cl_RX5⟩, by decide +kernel⟩, tv_ml_RX5⟩
theorem tv_m72 : (ai_mok tb_m72 ∧ plainName tb_m72.1.cls = true) ∧ ∀ q ∈ tb_m72.2.2.2.2.2.2.2.2.2.2.1, ai_lok tb_MT tb_m72.1.cls q := ⟨⟨⟨tv_i72, tv_fl_RX5, tv_fp_RX5, tv_ci_RX5, tv_cl_RX5⟩, by decide +kernel⟩, tv_ml_RX5⟩
theorem tv_m73 : (ai_mok tb_m73 ∧ plainName tb_m73.1.cls = true) ∧ ∀ q ∈ tb_m73.2.2.2.2.2.2.2.2.2.2.1, ai_lok tb_MT tb_m73.1.cls q := ⟨⟨⟨tv_i73, tv_fl_RX5, tv_fp_RX5, tv_ci_RX5, tv_cl_RX5⟩, by decide +kernel⟩, tv_ml_RX5⟩
theorem tv_m74 : (ai_mok tb_m74 ∧ plainName tb_m74.1.cls = true) ∧ ∀ q ∈ tb_m74.2.2.2.2.2.2.2.2.2.2.1, ai_lok tb_MT tb_m74.1.cls q := ⟨⟨⟨tv_i74, tv_fl_RX5, tv_fp_RX5, tv_ci_RX5, tv_cl_RX5⟩, by decide +kernel⟩, tv_ml_RX5⟩
theorem tv_m75 : (ai_mok tb_m75 ∧ plainName tb_m75.1.cls = true) ∧ ∀ q ∈ tb_m75.2.2.2.2.2.2.2.2.2.2.1, ai_lok tb_MT tb_m75.1.cls q := ⟨⟨⟨tv_i75, tv_fl_RX5, tv_fp_RX5, tv_ci_RX5, tv_cl_RX5⟩, by decide +kernel⟩, tv_ml_RX5⟩
theorem tv_m76 : (ai_mok tb_m76 ∧ plainName tb_m76.1.cls = true) ∧ ∀ q ∈ tb_m76.2.2.2.2.2.2.2.2.2.2.1, ai_lok tb_MT tb_m76.1.cls q := ⟨⟨⟨tv_i76, tv_fl_RX5, tv_fp_RX5, tv_ci_RX5, tv_cl_RX5⟩, by decide +kernel⟩, tv_ml_RX5⟩
theorem tv_m77 : (ai_mok tb_m77 ∧ plainName tb_m77.1.cls = true) ∧ ∀ q ∈ tb_m77.2.2.2.2.2.2.2.2.2.2.1, ai_lok tb_MT tb_m77.1.cls q := ⟨⟨⟨tv_i77, tv_fl_RX5, tv_fp_RX5, tv_ci_RX5, tv_cl_RX5⟩, by decide +kernel⟩, tv_ml_RX5⟩
theorem tv_m78 : (ai_mok tb_m78 ∧ plainName tb_m78.1.cls = true) ∧ ∀ q ∈ tb_m78.2.2.2.2.2.2.2.2.2.2.1, ai_lok tb_MT tb_m78.1.cls q := ⟨⟨⟨tv_i78, tv_fl_RX5, tv_fp_RX5, tv_ci_RX5, tv_cl_RX5⟩, by decide +kernel⟩, tv_ml_RX5⟩
theorem tv_m79 : (ai_mok tb_m79 ∧ plainName tb_m79.1.cls = true) ∧ ∀ q ∈ tb_m79.2.2.2.2.2.2.2.2.2.2.1, ai_lok tb_MT tb_m79.1.cls q := ⟨⟨⟨tv_i79, tv_fl_RX5, tv_fp_RX5, tv_ci_RX5, tv_cl_RX5⟩, by decide +kernel⟩, tv_ml_RX5⟩
theorem tv_m80 : (ai_mok tb_m80 ∧ plainName tb_m80.1.cls = true) ∧ ∀ q ∈ tb_m80.2.2.2.2.2.2.2.2.2.2.1, ai_lok tb_MT tb_m80.1.cls q := ⟨⟨⟨tv_i80, tv_fl_RX5, tv_fp_RX5, tv_ci_RX5, tv_cl_RX5⟩, by decide +kernel⟩, tv_ml_RX5⟩
theorem tv_m81 : (ai_mok tb_m81 ∧ plainName tb_m81.1.cls = true) ∧ ∀ q ∈ tb_m81.2.2.2.2.2.2.2.2.2.2.1, ai_lok tb_MT tb_m81.1.cls q := ⟨⟨⟨tv_i81, tv_fl_RX5, tv_fp_RX5, tv_ci_RX5, tv_cl_RX5⟩, by decide +kernel⟩, tv_ml_RX5⟩
theorem tv_m82 : (ai_mok tb_m82 ∧ plainName tb_m82.1.cls = true) ∧ ∀ q ∈ tb_m82.2.2.2.2.2.2.2.2.2.2.1, ai_lok tb_MT tb_m82.1.cls q := ⟨⟨⟨tv_i82, tv_fl_RX5, tv_fp_RX5, tv_ci_RX5, tv_cl_RX5⟩, by decide +kernel⟩, tv_ml_RX5⟩
theorem tv_m83 : (ai_mok tb_m83 ∧ plainName tb_m83.1.cls = true) ∧ ∀ q ∈ tb_m83.2.2.2.2.2.2.2.2.2.2.1, ai_lok tb_MT tb_m83.1.cls q := ⟨⟨⟨tv_i83, tv_fl_RX5, tv_fp_RX5, tv_ci_RX5, tv_cl_RX5⟩, by decide +kernel⟩, tv_ml_RX5⟩
theorem tv_m84 : (ai_mok tb_m84 ∧ plainName tb_m84.1.cls = true) ∧ ∀ q ∈ tb_m84.2.2.2.2.2.2.2.2.2.2.1, ai_lok tb_MT tb_m84.1.cls q := ⟨⟨⟨tv_i84, tv_fl_RX5, tv_fp_RX5, tv_ci_RX5, tv_cl_RX5⟩, by decide +kernel⟩, tv_ml_RX5⟩
theorem tv_m85 : (ai_mok tb_m85 ∧ plainName tb_m85.1.cls = true) ∧ ∀ q ∈ tb_m85.2.2.2.2.2.2.2.2.2.2.1, ai_lok tb_MT tb_m85.1.cls q := ⟨⟨⟨tv_i85, tv_fl_RX5, tv_fp_RX5, tv_ci_RX5, tv_cl_RX5⟩, by decide +kernel⟩, tv_ml_RX5⟩
theorem tv_m86 : (ai_mok tb_m86 ∧ plainName tb_m86.1.cls = true) ∧ ∀ q ∈ tb_m86.2.2.2.2.2.2.2.2.2.2.1, ai_lok tb_MT tb_m86.1.cls q := ⟨⟨⟨tv_i86, tv_fl_RX5, tv_fp_RX5, tv_ci_RX5, tv_cl_RX5⟩, by decide +kernel⟩, tv_ml_RX5⟩
theorem tv_m87 : (ai_mok tb_m87 ∧ plainName tb_m87.1.cls = true) ∧ ∀ q ∈ tb_m87.2.2.2.2.2.2.2.2.2.2.1, ai_lok tb_MT tb_m87.1.cls q := ⟨⟨⟨tv_i87, tv_fl_RX5, tv_fp_RX5, tv_ci_RX5, tv_cl_RX5⟩, by decide +kernel⟩, tv_ml_RX5⟩
theorem tv_m88 : (ai_mok tb_m88 ∧ plainName tb_m88.1.cls = true) ∧ ∀ q ∈ tb_m88.2.2.2.2.2.2.2.2.2.2.1, ai_lok tb_MT tb_m88.1.cls q := ⟨⟨⟨tv_i88, tv_fl_RX5, tv_fp_RX5, tv_ci_RX5, tv_cl_RX5⟩, by decide +kernel⟩, tv_ml_RX5⟩
theorem tv_m89 : (ai_mok tb_m89 ∧ plainName tb_m89.1.cls = true) ∧ ∀ q ∈ tb_m89.2.2.2.2.2.2.2.2.2.2.1, ai_lok tb_MT tb_m89.1.cls q := ⟨⟨⟨tv_i89, tv_fl_RX5, tv_fp_RX5, tv_ci_RX5, tv_cl_RX5⟩, by decide +kernel⟩, tv_ml_RX5⟩
theorem tv_m90 : (ai_mok tb_m90 ∧ plainName tb_m90.1.cls = true) ∧ ∀ q ∈ tb_m90.2.2.2.2.2.2.2.2.2.2.1, ai_lok tb_MT tb_m90.1.cls q := ⟨⟨⟨tv_i90, tv_fl_RX5, tv_fp_RX5, tv_ci_RX5, tv_cl_RX5⟩, by decide +kernel⟩, tv_ml_RX5⟩
theorem tv_m91 : (ai_mok tb_m91 ∧ plainName tb_m91.1.cls = true) ∧ ∀ q ∈ tb_m91.2.2.2.2.2.2.2.2.2.2.1, ai_lok tb_MT tb_m91.1.cls q := ⟨⟨⟨tv_i91, tv_fl_RX5, tv_fp_RX5, tv_ci_RX5, tv_cl_RX5⟩, by decide +kernel⟩, tv_ml_RX5⟩
theorem tv_m92 : (ai_mok tb_m92 ∧ plainName tb_m92.1.cls = true) ∧ ∀ q ∈ tb_m92.2.2.2.2.2.2.2.2.2.2.1, ai_lok tb_MT tb_m92.1.cls q := ⟨⟨⟨tv_i92, tv_fl_RX5, tv_fp_RX5, tv_ci_RX5, tv_cl_RX5⟩, by decide +kernel⟩, tv_ml_RX5⟩
theorem tv_m93 : (ai_mok tb_m93 ∧ plainName tb_m93.1.cls = true) ∧ ∀ q ∈ tb_m93.2.2.2.2.2.2.2.2.2.2.1, ai_lok tb_MT tb_m93.1.cls q := ⟨⟨⟨tv_i93, tv_fl_RX5, tv_fp_RX5, tv_ci_RX5, tv_cl_RX5⟩, by decide +kernel⟩, tv_ml_RX5⟩
theorem tv_m94 : (ai_mok tb_m94 ∧ plainName tb_m94.1.cls = true) ∧ ∀ q ∈ tb_m94.2.2.2.2.2.2.2.2.2.2.1, ai_lok tb_MT tb_m94.1.cls q := ⟨⟨⟨tv_i94, tv_fl_RX5, tv_fp_RX5, tv_ci_RX5, tv_cl_RX5⟩, by decide +kernel⟩, tv_ml_RX5⟩
theorem tv_m95 : (ai_mok tb_m95 ∧ plainName tb_m95.1.cls = true) ∧ ∀ q ∈ tb_m95.2.2.2.2.2.2.2.2.2.2.1, ai_lok tb_MT tb_m95.1.cls q := ⟨⟨⟨tv_i95, tv_fl_RX5, tv_fp_RX5, tv_ci_RX5, tv_cl_RX5⟩, by decide +kernel⟩, tv_ml_RX5⟩
theorem tv_m96 : (ai_mok tb_m96 ∧ plainName tb_m96.1.cls = true) ∧ ∀ q ∈ tb_m96.2.2.2.2.2.2.2.2.2.2.1, ai_lok tb_MT tb_m96.1.cls q := ⟨⟨⟨tv_i96, tv_fl_RX5, tv_fp_RX5, tv_ci_RX5, tv_cl_RX5⟩, by decide +kernel⟩, tv_ml_RX5⟩
theorem tv_m97 : (ai_mok tb_m97 ∧ plainName tb_m97.1.cls = true) ∧ ∀ q ∈ tb_m97.2.2.2.2.2.2.2.2.2.2.1, ai_lok tb_MT tb_m97.1.cls q := ⟨⟨⟨tv_i97, tv_fl_RX5, tv_fp_RX5, tv_ci_RX5, tv_cl_RX5⟩, by decide +kernel⟩, tv_ml_RX5⟩
theorem tv_m98 : (ai_mok tb_m98 ∧ plainName tb_m98.1.cls = true) ∧ ∀ q ∈ tb_m98.2.2.2.2.2.2.2.2.2.2.1, ai_lok tb_MT tb_m98.1.cls q := ⟨⟨⟨tv_i98, tv_fl_RX6, tv_fp_RX6, tv_ci_RX6, tv_cl_RX6⟩, by decide +kernel⟩, tv_ml_RX6⟩
theorem tv_m99 : (ai_mok tb_m99 ∧ plainName tb_m99.1.cls = true) ∧ ∀ q ∈ tb_m99.2.2.2.2.2.2.2.2.2.2.1, ai_lok tb_MT tb_m99.1.cls q := ⟨⟨⟨tv_i99, tv_fl_RX6, tv_fp_RX6, tv_ci_RX6, tv_cl_RX6⟩, by decide +kernel⟩, tv_ml_RX6⟩
theorem tv_m100 : (ai_mok tb_m100 ∧ plainName tb_m100.1.cls = true) ∧ ∀ q ∈ tb_m100.2.2.2.2.2.2.2.2.2.2.1, ai_lok tb_MT tb_m100.1.cls q := ⟨⟨⟨tv_i100, tv_fl_RX6, tv_fp_RX6, tv_ci_RX6, tv_cl_RX6⟩, by decide +kernel⟩, tv_ml_RX6⟩
theorem tv_m101 : (ai_mok tb_m101 ∧ plainName tb_m101.1.cls = true) ∧ ∀ q ∈ tb_m101.2.2.2.2.2.2.2.2.2.2.1, ai_lok tb_MT tb_m101.1.cls q := ⟨⟨⟨tv_i101, tv_fl_RX6, tv_fp_RX6, tv_ci_RX6, tv_cl_RX6⟩, by decide +kernel⟩, tv_ml_RX6⟩
theorem tv_m102 : (ai_mok tb_m102 ∧ plainName tb_m102.1.cls = true) ∧ ∀ q ∈ tb_m102.2.2.2.2.2.2.2.2.2.2.1, ai_lok tb_MT tb_m102.1.cls q := ⟨⟨⟨tv_i102, tv_fl_RX6, tv_fp_RX6, tv_ci_RX6, tv_cl_RX6⟩, by decide +kernel⟩, tv_ml_RX6⟩
theorem tv_m103 : (ai_mok tb_m103 ∧ plainName tb_m103.1.cls = true) ∧ ∀ q ∈ tb_m103.2.2.2.2.2.2.2.2.2.2.1, ai_lok tb_MT tb_m103.1.cls q := ⟨⟨⟨tv_i103, tv_fl_RX6, tv_fp_RX6, tv_ci_RX6, tv_cl_RX6⟩, by decide +kernel⟩, tv_ml_RX6⟩
theorem tv_m104 : (ai_mok tb_m104 ∧ plainName tb_m104.1.cls = true) ∧ ∀ q ∈ tb_m104.2.2.2.2.2.2.2.2.2.2.1, ai_lok tb_MT tb_m104.1.cls q := ⟨⟨⟨tv_i104, tv_fl_RX6, tv_fp_RX6, tv_ci_RX6, tv_cl_RX6⟩, by decide +kernel⟩, tv_ml_RX6⟩
theorem tv_m105 : (ai_mok tb_m105 ∧ plainName tb_m105.1.cls = true) ∧ ∀ q ∈ tb_m105.2.2.2.2.2.2.2.2.2.2.1, ai_lok tb_MT tb_m105.1.cls q := ⟨⟨⟨tv_i105, tv_fl_RX6, tv_fp_RX6, tv_ci_RX6, tv_cl_RX6⟩, by decide +kernel⟩, tv_ml_RX6⟩
theorem tv_m106 : (ai_mok tb_m106 ∧ plainName tb_m106.1.cls = true) ∧ ∀ q ∈ tb_m106.2.2.2.2.2.2.2.2.2.2.1, ai_lok tb_MT tb_m106.1.cls q := ⟨⟨⟨tv_i106, tv_fl_RX6, tv_fp_RX6, tv_ci_RX6, tv_cl_RX6⟩, by decide +kernel⟩, tv_ml_RX6⟩
theorem tv_m107 : (ai_mok tb_m107 ∧ plainName tb_m107.1.cls = true) ∧ ∀ q ∈ tb_m107.2.2.2.2.2.2.2.2.2.2.1, ai_lok tb_MT tb_m107.1.cls q := ⟨⟨⟨tv_i107, tv_fl_RX6, tv_fp_RX6, tv_ci_RX6, tv_cl_RX6⟩, by decide +kernel⟩, tv_ml_RX6⟩
theorem tv_m108 : (ai_mok tb_m108 ∧ plainName tb_m108.1.cls = true) ∧ ∀ q ∈ tb_m108.2.2.2.2.2.2.2.2.2.2.1, ai_lok tb_MT tb_m108.1.cls q := ⟨⟨⟨tv_i108, tv_fl_RX6, tv_fp_RX6, tv_ci_RX6, tv_cl_RX6⟩, by decide +kernel⟩, tv_ml_RX6⟩
theorem tv_m109 : (ai_mok tb_m109 ∧ plainName tb_m109.1.cls = true) ∧ ∀ q ∈ tb_m109.2.2.2.2.2.2.2.2.2.2.1, ai_lok tb_MT tb_m109.1.cls q := ⟨⟨⟨tv_i109, tv_fl_RX6, tv_fp_RX6, tv_ci_RX6, tv_cl_RX6⟩, by decide +kernel⟩, tv_ml_RX6⟩
theorem tv_m110 : (ai_mok tb_m110 ∧ plainName tb_m110.1.cls = true) ∧ ∀ q ∈ tb_m110.2.2.2.2.2.2.2.2.2.2.1, ai_lok tb_MT tb_m110.1.cls q := ⟨⟨⟨tv_i110, tv_fl_RX6, tv_fp_RX6, tv_ci_RX6, tv_cl_RX6⟩, by decide +kernel⟩, tv_ml_RX6⟩
theorem tv_m111 : (ai_mok tb_m111 ∧ plainName tb_m111.1.cls = true) ∧ ∀ q ∈ tb_m111.2.2.2.2.2.2.2.2.2.2.1, ai_lok tb_MT tb_m111.1.cls q := ⟨⟨⟨tv_i111, tv_fl_RX6, tv_fp_RX6, tv_ci_RX6, tv_cl_RX6⟩, by decide +kernel⟩, tv_ml_RX6⟩
theorem tv_m112 : (ai_mok tb_m112 ∧ plainName tb_m112.1.cls = true) ∧ ∀ q ∈ tb_m112.2.2.2.2.2.2.2.2.2.2.1, ai_lok tb_MT tb_m112.1.cls q := ⟨⟨⟨tv_i112, tv_fl_RX6, tv_fp_RX6, tv_ci_RX6, tv_cl_RX6⟩, by decide +kernel⟩, tv_ml_RX6⟩
theorem tv_m113 : (ai_mok tb_m113 ∧ plainName tb_m113.1.cls = true) ∧ ∀ q ∈ tb_m113.2.2.2.2.2.2.2.2.2.2.1, ai_lok tb_MT tb_m113.1.cls q := ⟨⟨⟨tv_i113, tv_fl_RX6, tv_fp_RX6, tv_ci_RX6, tv_cl_RX6⟩, by decide +kernel⟩, tv_ml_RX6⟩
theorem tv_m114 : (ai_mok tb_m114 ∧ plainName tb_m114.1.cls = true) ∧ ∀ q ∈ tb_m114.2.2.2.2.2.2.2.2.2.2.1, ai_lok tb_MT tb_m114.1.cls q := ⟨⟨⟨tv_i114, tv_fl_RX6, tv_fp_RX6, tv_ci_RX6, tv_cl_RX6⟩, by decide +kernel⟩, tv_ml_RX6⟩
theorem tv_m115 : (ai_mok tb_m115 ∧ plainName tb_m115.1.cls = true) ∧ ∀ q ∈ tb_m115.2.2.2.2.2.2.2.2.2.2.1, ai_lok tb_MT tb_m115.1.cls q := ⟨⟨⟨tv_i115, tv_fl_RX6, tv_fp_RX6, tv_ci_RX6, tv_cl_RX6⟩, by decide +kernel⟩, tv_ml_RX6⟩
theorem tv_m116 : (ai_mok tb_m116 ∧ plainName tb_m116.1.cls = true) ∧ ∀ q ∈ tb_m116.2.2.2.2.2.2.2.2.2.2.1, ai_lok tb_MT tb_m116.1.cls q := ⟨⟨⟨tv_i116, tv_fl_RX6, tv_fp_RX6, tv_ci_RX6, tv_cl_RX6⟩, by decide +kernel⟩, tv_ml_RX6⟩
theorem tv_m117 : (ai_mok tb_m117 ∧ plainName tb_m117.1.cls = true) ∧ ∀ q ∈ tb_m117.2.2.2.2.2.2.2.2.2.2.1, ai_lok tb_MT tb_m117.1.cls q := ⟨⟨⟨tv_i117, tv_fl_RX6, tv_fp_RX6, tv_ci_RX6, tv_cl_RX6⟩, by decide +kernel⟩, tv_ml_RX6⟩
theorem tv_m118 : (ai_mok tb_m118 ∧ plainName tb_m118.1.cls = true) ∧ ∀ q ∈ tb_m118.2.2.2.2.2.2.2.2.2.2.1, ai_lok tb_MT tb_m118.1.cls q := ⟨⟨⟨tv_i118, tv_fl_RX6, tv_fp_RX6, tv_ci_RX6, tv_cl_RX6⟩, by decide +kernel⟩, tv_ml_RX6⟩
theorem tv_m119 : (ai_mok tb_m119 ∧ plainName tb_m119.1.cls = true) ∧ ∀ q ∈ tb_m119.2.2.2.2.2.2.2.2.2.2.1, ai_lok tb_MT tb_m119.1.cls q := ⟨⟨⟨tv_i119, tv_fl_RX6, tv_fp_RX6, tv_ci_RX6, tv_cl_RX6⟩, by decide +kernel⟩, tv_ml_RX6⟩
theorem tv_m120 : (ai_mok tb_m120 ∧ plainName tb_m120.1.cls = true) ∧ ∀ q ∈ tb_m120.2.2.2.2.2.2.2.2.2.2.1, ai_lok tb_MT tb_m120.1.cls q := ⟨⟨⟨tv_i120, tv_fl_RX6, tv_fp_RX6, tv_ci_RX6, tv_cl_RX6⟩, by decide +kernel⟩, tv_ml_RX6⟩
theorem tv_m121 : (ai_mok tb_m121 ∧ plainName tb_m121.1.cls = true) ∧ ∀ q ∈ tb_m121.2.2.2.2.2.2.2.2.2.2.1, ai_lok tb_MT tb_m121.1.cls q := ⟨⟨⟨tv_i121, tv_fl_RX6, tv_fp_RX6, tv_ci_RX6, tv_cl_RX6⟩, by decide +kernel⟩, tv_ml_RX6⟩
theorem tv_m122 : (ai_mok tb_m122 ∧ plainName tb_m122.1.cls = true) ∧ ∀ q ∈ tb_m122.2.2.2.2.2.2.2.2.2.2.1, ai_lok tb_MT tb_m122.1.cls q := ⟨⟨⟨tv_i122, tv_fl_RX6, tv_fp_RX6, tv_ci_RX6, tv_cl_RX6⟩, by decide +kernel⟩, tv_ml_RX6⟩
theorem tv_m123 : (ai_mok tb_m123 ∧ plainName tb_m123.1.cls = true) ∧ ∀ q ∈ tb_m123.2.2.2.2.2.2.2.2.2.2.1, ai_lok tb_MT tb_m123.1.cls q := ⟨⟨⟨tv_i123, tv_fl_RX6, tv_fp_RX6, tv_ci_RX6, tv_cl_RX6⟩, by decide +kernel⟩, tv_ml_RX6⟩
theorem tv_m124 : (ai_mok tb_m124 ∧ plainName tb_m124.1.cls = true) ∧ ∀ q ∈ tb_m124.2.2.2.2.2.2.2.2.2.2.1, ai_lok tb_MT tb_m124.1.cls q := ⟨⟨⟨tv_i124, tv_fl_RX6, tv_fp_RX6, tv_ci_RX6, tv_cl_RX6⟩, by decide +kernel⟩, tv_ml_RX6⟩
theorem tv_m125 : (ai_mok tb_m125 ∧ plainName tb_m125.1.cls = true) ∧ ∀ q ∈ tb_m125.2.2.2.2.2.2.2.2.2.2.1, ai_lok tb_MT tb_m125.1.cls q := ⟨⟨⟨tv_i125, tv_fl_RX6, tv_fp_RX6, tv_ci_RX6, tv_cl_RX6⟩, by decide +kernel⟩, tv_ml_RX6⟩
theorem tv_m126 : (ai_mok tb_m126 ∧ plainName tb_m126.1.cls = true) ∧ ∀ q ∈ tb_m126.2.2.2.2.2.2.2.2.2.2.1, ai_lok tb_MT tb_m126.1.cls q := ⟨⟨⟨tv_i126, tv_fl_RX6, tv_fp_RX6, tv_ci_RX6, tv_cl_RX6⟩, by decide +kernel⟩, tv_ml_RX6⟩
theorem tv_m127 : (ai_mok tb_m127 ∧ plainName tb_m127.1.cls = true) ∧ ∀ q ∈ tb_m127.2.2.2.2.2.2.2.2.2.2.1, ai_lok tb_MT tb_m127.1.cls q := ⟨⟨⟨tv_i127, tv_fl_RX6, tv_fp_RX6, tv_ci_RX6, tv_cl_RX6⟩, by decide +kernel⟩, tv_ml_RX6⟩
theorem tv_m128 : (ai_mok tb_m128 ∧ plainName tb_m128.1.cls = true) ∧ ∀ q ∈ tb_m128.2.2.2.2.2.2.2.2.2.2.1, ai_lok tb_MT tb_m128.1.cls q := ⟨⟨⟨tv_i128, tv_fl_RX6, tv_fp_RX6, tv_ci_RX6, tv_cl_RX6⟩, by decide +kernel⟩, tv_ml_RX6⟩
theorem tv_m129 : (ai_mok tb_m129 ∧ plainName tb_m129.1.cls = true) ∧ ∀ q ∈ tb_m129.2.2.2.2.2.2.2.2.2.2.1, ai_lok tb_MT tb_m129.1.cls q := ⟨⟨⟨tv_i129, tv_fl_RX6, tv_fp_RX6, tv_ci_RX6, tv_cl_RX6⟩, by decide +kernel⟩, tv_ml_RX6⟩
theorem tv_m130 : (ai_mok tb_m130 ∧ plainName tb_m130.1.cls = true) ∧ ∀ q ∈ tb_m130.2.2.2.2.2.2.2.2.2.2.1, ai_lok tb_MT tb_m130.1.cls q := ⟨⟨⟨tv_i130, tv_fl_RX6, tv_fp_RX6, tv_ci_RX6, tv_cl_RX6⟩, by decide +kernel⟩, tv_ml_RX6⟩
theorem tv_m131 : (ai_mok tb_m131 ∧ plainName tb_m131.1.cls = true) ∧ ∀ q ∈ tb_m131.2.2.2.2.2.2.2.2.2.2.1, ai_lok tb_MT tb_m131.1.cls q := ⟨⟨⟨tv_i131, tv_fl_RX6, tv_fp_RX6, tv_ci_RX6, tv_cl_RX6⟩, by decide +kernel⟩, tv_ml_RX6⟩
theorem tv_m132 : (ai_mok tb_m132 ∧ plainName tb_m132.1.cls = true) ∧ ∀ q ∈ tb_m132.2.2.2.2.2.2.2.2.2.2.1, ai_lok tb_MT tb_m132.1.cls q := ⟨⟨⟨tv_i132, tv_fl_RX6, tv_fp_RX6, tv_ci_RX6, tv_cl_RX6⟩, by decide +kernel⟩, tv_ml_RX6⟩
theorem tv_m133 : (ai_mok tb_m133 ∧ plainName tb_m133.1.cls = true) ∧ ∀ q ∈ tb_m133.2.2.2.2.2.2.2.2.2.2.1, ai_lok tb_MT tb_m133.1.cls q := ⟨⟨⟨tv_i133, tv_fl_RX6, tv_fp_RX6, tv_ci_RX6, tv_cl_RX6⟩, by decide +kernel⟩, tv_ml_RX6⟩
theorem tv_m134 : (ai_mok tb_m134 ∧ plainName tb_m134.1.cls = true) ∧ ∀ q ∈ tb_m134.2.2.2.2.2.2.2.2.2.2.1, ai_lok tb_MT tb_m134.1.cls q := ⟨⟨⟨tv_i134, tv_fl_RX6, tv_fp_RX6, tv_ci_RX6, tv_cl_RX6⟩, by decide +kernel⟩, tv_ml_RX6⟩
theorem tv_m135 : (ai_mok tb_m135 ∧ plainName tb_m135.1.cls = true) ∧ ∀ q ∈ tb_m135.2.2.2.2.2.2.2.2.2.2.1, ai_lok tb_MT tb_m135.1.cls q := ⟨⟨⟨tv_i135, tv_fl_RX6, tv_fp_RX6, tv_ci_RX6, tv_cl_RX6⟩, by decide +kernel⟩, tv_ml_RX6⟩
theorem tv_m136 : (ai_mok tb_m136 ∧ plainName tb_m136.1.cls = true) ∧ ∀ q ∈ tb_m136.2.2.2.2.2.2.2.2.2.2.1, ai_lok tb_MT tb_m136.1.cls q := ⟨⟨⟨tv_i136, tv_fl_RX6, tv_fp_RX6, tv_ci_RX6, tv_cl_RX6⟩, by decide +kernel⟩, tv_ml_RX6⟩
theorem tv_m137 : (ai_mok tb_m137 ∧ plainName tb_m137.1.cls = true) ∧ ∀ q ∈ tb_m137.2.2.2.2.2.2.2.2.2.2.1, ai_lok tb_MT tb_m137.1.cls q := ⟨⟨⟨tv_i137, tv_fl_RX6, tv_fp_RX6, tv_ci_RX6, tv_cl_RX6⟩, by decide +kernel⟩, tv_ml_RX6⟩
theorem tv_m138 : (ai_mok tb_m138 ∧ plainName tb_m138.1.cls = true) ∧ ∀ q ∈ tb_m138.2.2.2.2.2.2.2.2.2.2.1, ai_lok tb_MT tb_m138.1.cls q := ⟨⟨⟨tv_i138, tv_fl_RX6, tv_fp_RX6, tv_ci_RX6, tv_cl_RX6⟩, by decide +kernel⟩, tv_ml_RX6⟩
theorem tv_m139 : (ai_mok tb_m139 ∧ plainName tb_m139.1.cls = true) ∧ ∀ q ∈ tb_m139.2.2.2.2.2.2.2.2.2.2.1, ai_lok tb_MT tb_m139.1.cls q := ⟨⟨⟨tv_i139, tv_fl_RX6, tv_fp_RX6, tv_ci_RX6, tv_cl_RX6⟩, by decide +kernel⟩, tv_ml_RX6⟩
theorem tv_m140 : (ai_mok tb_m140 ∧ plainName tb_m140.1.cls = true) ∧ ∀ q ∈ tb_m140.2.2.2.2.2.2.2.2.2.2.1, ai_lok tb_MT tb_m140.1.cls q := ⟨⟨⟨tv_i140, tv_fl_RX6, tv_fp_RX6, tv_ci_RX6, tv_cl_RX6⟩, by decide +kernel⟩, tv_ml_RX6⟩
theorem tv_m141 : (ai_mok tb_m141 ∧ plainName tb_m141.1.cls = true) ∧ ∀ q ∈ tb_m141.2.2.2.2.2.2.2.2.2.2.1, ai_lok tb_MT tb_m141.1.cls q := ⟨⟨⟨tv_i141, tv_fl_RX6, tv_fp_RX6, tv_ci_RX6, tv_cl_RX6⟩, by decide +kernel⟩, tv_ml_RX6⟩
theorem tv_m142 : (ai_mok tb_m142 ∧ plainName tb_m142.1.cls = true) ∧ ∀ q ∈ tb_m142.2.2.2.2.2.2.2.2.2.2.1, ai_lok tb_MT tb_m142.1.cls q := ⟨⟨⟨tv_i142, tv_fl_RX6, tv_fp_RX6, tv_ci_RX6, tv_cl_RX6⟩, by decide +kernel⟩, tv_ml_RX6⟩
theorem tv_m143 : (ai_mok tb_m143 ∧ plainName tb_m143.1.cls = true) ∧ ∀ q ∈ tb_m143.2.2.2.2.2.2.2.2.2.2.1, ai_lok tb_MT tb_m143.1.cls q := ⟨⟨⟨tv_i143, tv_fl_RX6, tv_fp_RX6, tv_ci_RX6, tv_cl_RX6⟩, by decide +kernel⟩, tv_ml_RX6⟩
theorem tv_m144 : (ai_mok tb_m144 ∧ plainName tb_m144.1.cls = true) ∧ ∀ q ∈ tb_m144.2.2.2.2.2.2.2.2.2.2.1, ai_lok tb_MT tb_m144.1.cls q := ⟨⟨⟨tv_i144, tv_fl_RX6, tv_fp_RX6, tv_ci_RX6, tv_cl_RX6⟩, by decide +kernel⟩, tv_ml_RX6⟩
theorem tv_m145 : (ai_mok tb_m145 ∧ plainName tb_m145.1.cls = true) ∧ ∀ q ∈ tb_m145.2.2.2.2.2.2.2.2.2.2.1, ai_lok tb_MT tb_m145.1.cls q := ⟨⟨⟨tv_i145, tv_fl_RX6, tv_fp_RX6, tv_ci_RX6, tv_cl_RX6⟩, by decide +kernel⟩, tv_ml_RX6⟩
theorem tv_m146 : (ai_mok tb_m146 ∧ plainName tb_m146.1.cls = true) ∧ ∀ q ∈ tb_m146.2.2.2.2.2.2.2.2.2.2.1, ai_lok tb_MT tb_m146.1.cls q := ⟨⟨⟨tv_i146, tv_fl_RX6, tv_fp_RX6, tv_ci_RX6, tv_cl_RX6⟩, by decide +kernel⟩, tv_ml_RX6⟩
theorem tv_m147 : (ai_mok tb_m147 ∧ plainName tb_m147.1.cls = true) ∧ ∀ q ∈ tb_m147.2.2.2.2.2.2.2.2.2.2.1, ai_lok tb_MT tb_m147.1.cls q := ⟨⟨⟨tv_i147, tv_fl_RX6, tv_fp_RX6, tv_ci_RX6, tv_cl_RX6⟩, by decide +kernel⟩, tv_ml_RX6⟩
theorem tv_m148 : (ai_mok tb_m148 ∧ plainName tb_m148.1.cls = true) ∧ ∀ q ∈ tb_m148.2.2.2.2.2.2.2.2.2.2.1, ai_lok tb_MT tb_m148.1.cls q := ⟨⟨⟨tv_i148, tv_fl_RX6, tv_fp_RX6, tv_ci_RX6, tv_cl_RX6⟩, by decide +kernel⟩, tv_ml_RX6⟩
theorem tv_m149 : (ai_mok tb_m149 ∧ plainName tb_m149.1.cls = true) ∧ ∀ q ∈ tb_m149.2.2.2.2.2.2.2.2.2.2.1, ai_lok tb_MT tb_m149.1.cls q := ⟨⟨⟨tv_i149, tv_fl_RX6, tv_fp_RX6, tv_ci_RX6, tv_cl_RX6⟩, by decide +kernel⟩, tv_ml_RX6⟩
theorem tv_m150 : (ai_mok tb_m150 ∧ plainName tb_m150.1.cls = true) ∧ ∀ q ∈ tb_m150.2.2.2.2.2.2.2.2.2.2.1, ai_lok tb_MT tb_m150.1.cls q := ⟨⟨⟨tv_i150, tv_fl_RX6, tv_fp_RX6, tv_ci_RX6, tv_cl_RX6⟩, by decide +kernel⟩, tv_ml_RX6⟩
theorem tv_m151 : (ai_mok tb_m151 ∧ plainName tb_m151.1.cls = true) ∧ ∀ q ∈ tb_m151.2.2.2.2.2.2.2.2.2.2.1, ai_lok tb_MT tb_m151.1.cls q := ⟨⟨⟨tv_i151, tv_fl_RX6, tv_fp_RX6, tv_ci_RX6, tv_cl_RX6⟩, by decide +kernel⟩, tv_ml_RX6⟩
theorem tv_m152 : (ai_mok tb_m152 ∧ plainName tb_m152.1.cls = true) ∧ ∀ q ∈ tb_m152.2.2.2.2.2.2.2.2.2.2.1, ai_lok tb_MT tb_m152.1.cls q := ⟨⟨⟨tv_i152, tv_fl_RX6, tv_fp_RX6, tv_ci_RX6, tv_cl_RX6⟩, by decide +kernel⟩, tv_ml_RX6⟩
theorem tv_m153 : (ai_mok tb_m153 ∧ plainName tb_m153.1.cls = true) ∧ ∀ q ∈ tb_m153.2.2.2.2.2.2.2.2.2.2.1, ai_lok tb_MT tb_m153.1.cls q := ⟨⟨⟨tv_i153, tv_fl_RX6, tv_fp_RX6, tv_ci_RX6, tv_cl_RX6⟩, by decide +kernel⟩, tv_ml_RX6⟩
theorem tv_m154 : (ai_mok tb_m154 ∧ plainName tb_m154.1.cls = true) ∧ ∀ q ∈ tb_m154.2.2.2.2.2.2.2.2.2.2.1, ai_lok tb_MT tb_m154.1.cls q := ⟨⟨⟨tv_i154, tv_fl_RX6, tv_fp_RX6, tv_ci_RX6, tv_cl_RX6⟩, by decide +kernel⟩, tv_ml_RX6⟩
theorem tv_m155 : (ai_mok tb_m155 ∧ plainName tb_m155.1.cls = true) ∧ ∀ q ∈ tb_m155.2.2.2.2.2.2.2.2.2.2.1, ai_lok tb_MT tb_m155.1.cls q := ⟨⟨⟨tv_i155, tv_fl_RX6, tv_fp_RX6, tv_ci_RX6, tv_cl_RX6⟩, by decide +kernel⟩, tv_ml_RX6⟩
theorem tv_m156 : (ai_mok tb_m156 ∧ plainName tb_m156.1.cls = true) ∧ ∀ q ∈ tb_m156.2.2.2.2.2.2.2.2.2.2.1, ai_lok tb_MT tb_m156.1.cls q := ⟨⟨⟨tv_i156, tv_fl_RX6, tv_fp_RX6, tv_ci_RX6, tv_cl_RX6⟩, by decide +kernel⟩, tv_ml_RX6⟩
theorem tv_m157 : (ai_mok tb_m157 ∧ plainName tb_m157.1.cls = true) ∧ ∀ q ∈ tb_m157.2.2.2.2.2.2.2.2.2.2.1, ai_lok tb_MT tb_m157.1.cls q := ⟨⟨⟨tv_i157, tv_fl_RX6, tv_fp_RX6, tv_ci_RX6, tv_cl_RX6⟩, by decide +kernel⟩, tv_ml_RX6⟩
theorem tv_m158 : (ai_mok tb_m158 ∧ plainName tb_m158.1.cls = true) ∧ ∀ q ∈ tb_m158.2.2.2.2.2.2.2.2.2.2.1, ai_lok tb_MT tb_m158.1.cls q := ⟨⟨⟨tv_i158, tv_fl_RX6, tv_fp_RX6, tv_ci_RX6, tv_cl_RX6⟩, by decide +kernel⟩, tv_ml_RX6⟩
theorem tv_m159 : (ai_mok tb_m159 ∧ plainName tb_m159.1.cls = true) ∧ ∀ q ∈ tb_m159.2.2.2.2.2.2.2.2.2.2.1, ai_lok tb_MT tb_m159.1.cls q := ⟨⟨⟨tv_i159, tv_fl_RX6, tv_fp_RX6, tv_ci_RX6, tv_cl_RX6⟩, by decide +kernel⟩, tv_ml_RX6⟩
theorem tv_m160 : (ai_mok tb_m160 ∧ plainName tb_m160.1.cls = true) ∧ ∀ q ∈ tb_m160.2.2.2.2.2.2.2.2.2.2.1, ai_lok tb_MT tb_m160.1.cls q := ⟨⟨⟨tv_i160, tv_fl_RX6, tv_fp_RX6, tv_ci_RX6, tv_cl_RX6⟩, by decide +kernel⟩, tv_ml_RX6⟩
theorem tv_m161 : (ai_mok tb_m161 ∧ plainName tb_m161.1.cls = true) ∧ ∀ q ∈ tb_m161.2.2.2.2.2.2.2.2.2.2.1, ai_lok tb_MT tb_m161.1.cls q := ⟨⟨⟨tv_i161, tv_fl_RX6, tv_fp_RX6, tv_ci_RX6, tv_cl_RX6⟩, by decide +kernel⟩, tv_ml_RX6⟩
theorem tv_m162 : (ai_mok tb_m162 ∧ plainName tb_m162.1.cls = true) ∧ ∀ q ∈ tb_m162.2.2.2.2.2.2.2.2.2.2.1, ai_lok tb_MT tb_m162.1.cls q := ⟨⟨⟨tv_i162, tv_fl_RX6, tv_fp_RX6, tv_ci_RX6, tv_cl_RX6⟩, by decide +kernel⟩, tv_ml_RX6⟩
theorem tv_m163 : (ai_mok tb_m163 ∧ plainName tb_m163.1.cls = true) ∧ ∀ q ∈ tb_m163.2.2.2.2.2.2.2.2.2.2.1, ai_lok tb_MT tb_m163.1.cls q := ⟨⟨⟨tv_i163, tv_fl_RX6, tv_fp_RX6, tv_ci_RX6, tv_cl_RX6⟩, by decide +kernel⟩, tv_ml_RX6⟩
theorem tv_m164 : (ai_mok tb_m164 ∧ plainName tb_m164.1.cls = true) ∧ ∀ q ∈ tb_m164.2.2.2.2.2.2.2.2.2.2.1, ai_lok tb_MT tb_m164.1.cls q := ⟨⟨⟨tv_i164, tv_fl_RX6, tv_fp_RX6, tv_ci_RX6, tv_cl_RX6⟩, by decide +kernel⟩, tv_ml_RX6⟩
theorem tv_m165 : (ai_mok tb_m165 ∧ plainName tb_m165.1.cls = true) ∧ ∀ q ∈ tb_m165.2.2.2.2.2.2.2.2.2.2.1, ai_lok tb_MT tb_m165.1.cls q := ⟨⟨⟨tv_i165, tv_fl_RX6, tv_fp_RX6, tv_ci_RX6, tv_cl_RX6⟩, by decide +kernel⟩, tv_ml_RX6⟩
theorem tv_m166 : (ai_mok tb_m166 ∧ plainName tb_m166.1.cls = true) ∧ ∀ q ∈ tb_m166.2.2.2.2.2.2.2.2.2.2.1, ai_lok tb_MT tb_m166.1.cls q := ⟨⟨⟨tv_i166, tv_fl_RX6, tv_fp_RX6, tv_ci_RX6, tv_cl_RX6⟩, by decide +kernel⟩, tv_ml_RX6⟩
theorem tv_m167 : (ai_mok tb_m167 ∧ plainName tb_m167.1.cls = true) ∧ ∀ q ∈ tb_m167.2.2.2.2.2.2.2.2.2.2.1, ai_lok tb_MT tb_m167.1.cls q := ⟨⟨⟨tv_i167, tv_fl_RX6, tv_fp_RX6, tv_ci_RX6, tv_cl_RX6⟩, by decide +kernel⟩, tv_ml_RX6⟩
theorem tv_m168 : (ai_mok tb_m168 ∧ plainName tb_m168.1.cls = true) ∧ ∀ q ∈ tb_m168.2.2.2.2.2.2.2.2.2.2.1, ai_lok tb_MT tb_m168.1.cls q := ⟨⟨⟨tv_i168, tv_fl_RX6, tv_fp_RX6, tv_ci_RX6, tv_cl_RX6⟩, by decide +kernel⟩, tv_ml_RX6⟩
theorem tv_m169 : (ai_mok tb_m169 ∧ plainName tb_m169.1.cls = true) ∧ ∀ q ∈ tb_m169.2.2.2.2.2.2.2.2.2.2.1, ai_lok tb_MT tb_m169.1.cls q := ⟨⟨⟨tv_i169, tv_fl_RL, tv_fp_RL, tv_ci_RL, tv_cl_RL⟩, by decide +kernel⟩, tv_ml_RL⟩
theorem tv_m170 : (ai_mok tb_m170 ∧ plainName tb_m170.1.cls = true) ∧ ∀ q ∈ tb_m170.2.2.2.2.2.2.2.2.2.2.1, ai_lok tb_MT tb_m170.1.cls q := ⟨⟨⟨tv_i170, tv_fl_RJ6, tv_fp_RJ6, tv_ci_RJ6, tv_cl_RJ6⟩, by decide +kernel⟩, tv_ml_RJ6⟩
set_option maxRecDepth 100000 in
theorem tv_MT : ∀ M ∈ tb_MT, (ai_mok M ∧ plainName M.1.cls = true) ∧ ∀ q ∈ M.2.2.2.2.2.2.2.2.2.2.1, ai_lok tb_MT M.1.cls q := List.forall_mem_cons.mpr ⟨tv_m0, List.forall_mem_cons.mpr ⟨tv_m1, List.forall_mem_cons.mpr ⟨tv_m2, List.forall_mem_cons.mpr ⟨tv_m3, List.forall_mem_cons.mpr ⟨tv_m4, List.forall_mem_cons.mpr ⟨tv_m5, List.forall_mem_cons.mpr ⟨tv_m6, List.forall_mem_cons.mpr ⟨tv_m7, List.forall_mem_cons.mpr ⟨tv_m8, List.forall_mem_cons.mpr ⟨tv_m9, List.forall_mem_cons.mpr ⟨tv_m10, List.forall_mem_cons.mpr ⟨tv_m11, List.forall_mem_cons.mpr ⟨tv_m12, List.forall_mem_cons.mpr ⟨tv_m13, List.forall_mem_cons.mpr ⟨tv_m14, List.forall_mem_cons.mpr ⟨tv_m15, List.forall_mem_cons.mpr ⟨tv_m16, List.forall_mem_cons.mpr ⟨tv_m17, List.forall_mem_cons.mpr ⟨tv_m18, List.forall_mem_cons.mpr ⟨tv_m19, List.forall_mem_cons.mpr ⟨tv_m20, List.forall_mem_cons.mpr ⟨tv_m21, List.forall_mem_cons.mpr ⟨tv_m22, List.forall_mem_cons.mpr ⟨tv_m23, List.forall_mem_cons.mpr ⟨tv_m24, List.forall_mem_cons.mpr ⟨tv_m25, List.forall_mem_cons.mpr ⟨tv_m26, List.forall_mem_cons.mpr ⟨tv_m27, List.forall_mem_cons.mpr ⟨tv_m28, List.forall_mem_cons.mpr ⟨tv_m29, List.forall_mem_cons.mpr ⟨tv_m30, List.forall_mem_cons.mpr ⟨tv_m31, List.forall_mem_cons.mpr ⟨tv_m32, List.forall_mem_cons.mpr ⟨tv_m33, List.forall_mem_cons.mpr ⟨tv_m34, List.forall_mem_cons.mpr ⟨tv_m35, List.forall_mem_cons.mpr ⟨tv_m36, List.forall_mem_cons.mpr ⟨tv_m37, List.forall_mem_cons.mpr ⟨tv_m38, List.forall_mem_cons.mpr ⟨tv_m39, List.forall_mem_cons.mpr ⟨tv_m40, List.forall_mem_cons.mpr ⟨tv_m41, List.forall_mem_cons.mpr ⟨tv_m42, List.forall_mem_cons.mpr ⟨tv_m43, List.forall_mem_cons.mpr ⟨tv_m44, List.forall_mem_cons.mpr ⟨tv_m45, List.forall_mem_cons.mpr ⟨tv_m46, List.forall_mem_cons.mpr ⟨tv_m47, List.forall_mem_cons.mpr ⟨tv_m48, List.forall_mem_cons.mpr ⟨tv_m49, List.forall_mem_cons.mpr ⟨tv_m50, List.forall_mem_cons.mpr ⟨tv_m51, List.forall_mem_cons.mpr ⟨tv_m52, List.forall_mem_cons.mpr ⟨tv_m53, List.forall_mem_cons.mpr ⟨tv_m54, List.forall_mem_cons.mpr ⟨tv_m55, List.forall_mem_cons.mpr ⟨tv_m56, List.forall_mem_cons.mpr ⟨tv_m57, List.forall_mem_cons.mpr ⟨tv_m58, List.forall_mem_cons.mpr ⟨tv_m59, List.forall_mem_cons.mpr ⟨tv_m60, List.forall_mem_cons.mpr ⟨tv_m61, List.forall_mem_cons.mpr ⟨tv_m62, List.forall_mem_cons.mpr ⟨tv_m63, List.forall_mem_cons.mpr ⟨tv_m64, List.forall_mem_cons.mpr ⟨tv_m65, List.forall_mem_cons.mpr ⟨tv_m66, List.forall_mem_cons.mpr ⟨tv_m67, List.forall_mem_cons.mpr ⟨tv_m68, List.forall_mem_cons.mpr ⟨tv_m69, List.forall_mem_cons.mpr ⟨tv_m70, List.forall_mem_cons.mpr ⟨tv_m71, List.forall_mem_cons.mpr ⟨tv_m72, List.forall_mem_cons.mpr ⟨tv_m73, List.forall_mem_cons.mpr ⟨tv_m74, List.forall_mem_cons.mpr ⟨tv_m75, List.forall_mem_cons.mpr ⟨tv_m76, List.forall_mem_cons.mpr ⟨tv_m77, List.forall_mem_cons.mpr ⟨tv_m78, List.forall_mem_cons.mpr ⟨tv_m79, List.forall_mem_cons.mpr ⟨tv_m80, List.forall_mem_cons.mpr ⟨tv_m81, List.forall_mem_cons.mpr ⟨tv_m82, List.forall_mem_cons.mpr ⟨tv_m83, List.forall_mem_cons.mpr ⟨tv_m84, List.forall_mem_cons.mpr ⟨tv_m85, List.forall_mem_cons.mpr ⟨tv_m86, List.forall_mem_cons.mpr ⟨tv_m87, List.forall_mem_cons.mpr ⟨tv_m88, List.forall_mem_cons.mpr ⟨tv_m89, List.forall_mem_cons.mpr ⟨tv_m90, List.forall_mem_cons.mpr ⟨tv_m91, List.forall_mem_cons.mpr ⟨tv_m92, List.forall_mem_cons.mpr ⟨tv_m93, List.forall_mem_cons.mpr ⟨tv_m94, List.forall_mem_cons.mpr ⟨tv_m95, List.forall_mem_cons.mpr ⟨tv_m96, List.forall_mem_cons.mpr ⟨tv_m97, List.forall_mem_cons.mpr ⟨tv_m98, List.forall_mem_cons.mpr ⟨tv_m99, List.forall_mem_cons.mpr ⟨tv_m100, List.forall_mem_cons.mpr ⟨tv_m101, List.forall_mem_cons.mpr ⟨tv_m102, List.forall_mem_cons.mpr ⟨tv_m103, List.forall_mem_cons.mpr ⟨tv_m104, List.forall_mem_cons.mpr ⟨tv_m105, List.forall_mem_cons.mpr ⟨tv_m106, List.forall_mem_cons.mpr ⟨tv_m107, List.forall_mem_cons.mpr ⟨tv_m108, List.forall_mem_cons.mpr ⟨tv_m109, List.forall_mem_cons.mpr ⟨tv_m110, List.forall_mem_cons.mpr ⟨tv_m111, List.forall_mem_cons.mpr ⟨tv_m112, List.forall_mem_cons.mpr ⟨tv_m113, List.forall_mem_cons.mpr ⟨tv_m114, List.forall_mem_cons.mpr ⟨tv_m115, List.forall_mem_cons.mpr ⟨tv_m116, List.forall_mem_cons.mpr ⟨tv_m117, List.forall_mem_cons.mpr ⟨tv_m118, List.forall_mem_cons.mpr ⟨tv_m119, List.forall_mem_cons.mpr ⟨tv_m120, List.forall_mem_cons.mpr ⟨tv_m121, List.forall_mem_cons.mpr ⟨tv_m122, List.forall_mem_cons.mpr ⟨tv_m123, List.forall_mem_cons.mpr ⟨tv_m124, List.forall_mem_cons.mpr ⟨tv_m125, List.forall_mem_cons.mpr ⟨tv_m126, List.forall_mem_cons.mpr ⟨tv_m127, List.forall_mem_cons.mpr ⟨tv_m128, List.forall_mem_cons.mpr ⟨tv_m129, List.forall_mem_cons.mpr ⟨tv_m130, List.forall_mem_cons.mpr ⟨tv_m131, List.forall_mem_cons.mpr ⟨tv_m132, List.forall_mem_cons.mpr ⟨tv_m133, List.forall_mem_cons.mpr ⟨tv_m134, List.forall_mem_cons.mpr ⟨tv_m135, List.forall_mem_cons.mpr ⟨tv_m136, List.forall_mem_cons.mpr ⟨tv_m137, List.forall_mem_cons.mpr ⟨tv_m138, List.forall_mem_cons.mpr ⟨tv_m139, List.forall_mem_cons.mpr ⟨tv_m140, List.forall_mem_cons.mpr ⟨tv_m141, List.forall_mem_cons.mpr ⟨tv_m142, List.forall_mem_cons.mpr ⟨tv_m143, List.forall_mem_cons.mpr ⟨tv_m144, List.forall_mem_cons.mpr ⟨tv_m145, List.forall_mem_cons.mpr ⟨tv_m146, List.forall_mem_cons.mpr ⟨tv_m147, List.forall_mem_cons.mpr ⟨tv_m148, List.forall_mem_cons.mpr ⟨tv_m149, List.forall_mem_cons.mpr ⟨tv_m150, List.forall_mem_cons.mpr ⟨tv_m151, List.forall_mem_cons.mpr ⟨tv_m152, List.forall_mem_cons.mpr ⟨tv_m153, List.forall_mem_cons.mpr ⟨tv_m154, List.forall_mem_cons.mpr ⟨tv_m155, List.forall_mem_cons.mpr ⟨tv_m156, List.forall_mem_cons.mpr ⟨tv_m157, List.forall_mem_cons.mpr ⟨tv_m158, List.forall_mem_cons.mpr ⟨tv_m159, List.forall_mem_cons.mpr ⟨tv_m160, List.forall_mem_cons.mpr ⟨tv_m161, List.forall_mem_cons.mpr ⟨tv_m162, List.forall_mem_cons.mpr ⟨tv_m163, List.forall_mem_cons.mpr ⟨tv_m164, List.forall_mem_cons.mpr ⟨tv_m165, List.forall_mem_cons.mpr ⟨tv_m166, List.forall_mem_cons.mpr ⟨tv_m167, List.forall_mem_cons.mpr ⟨tv_m168, List.forall_mem_cons.mpr ⟨tv_m169, List.forall_mem_cons.mpr ⟨tv_m170, fun _ h => absurd h List.not_mem_nil⟩⟩⟩⟩⟩⟩⟩⟩⟩⟩⟩⟩⟩⟩⟩⟩⟩⟩⟩⟩⟩⟩⟩⟩⟩⟩⟩⟩⟩⟩⟩⟩⟩⟩⟩⟩⟩⟩⟩⟩⟩⟩⟩⟩⟩⟩⟩⟩⟩⟩⟩⟩⟩⟩⟩⟩⟩⟩⟩⟩⟩⟩⟩⟩⟩⟩⟩⟩⟩⟩⟩⟩⟩⟩⟩⟩⟩⟩⟩⟩⟩⟩⟩⟩⟩⟩⟩⟩⟩⟩⟩⟩⟩⟩⟩⟩⟩⟩⟩⟩⟩⟩⟩⟩⟩⟩⟩⟩⟩⟩⟩⟩⟩⟩⟩⟩⟩⟩⟩⟩⟩⟩⟩⟩⟩⟩⟩⟩⟩⟩⟩⟩⟩⟩⟩⟩⟩⟩⟩⟩⟩⟩⟩⟩⟩⟩⟩⟩⟩⟩⟩⟩⟩⟩⟩⟩⟩⟩⟩⟩⟩⟩⟩⟩⟩⟩⟩⟩⟩⟩⟩
