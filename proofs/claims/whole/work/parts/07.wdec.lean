/-! CHECKS by the kernel: each instruction of the tables is the bytes' own -/
theorem all_cut {α : Type} {p : α → Bool} {l : List α} (n : Nat) (h1 : (l.take n).all p = true) (h2 : (l.drop n).all p = true) : l.all p = true := by
  rw [← List.take_append_drop n l, List.all_append, h1, h2]
  rfl
theorem all_nil {α : Type} {p : α → Bool} {l : List α} {n : Nat} (h : l.length ≤ n) : (l.drop n).all p = true := by
  rw [List.drop_eq_nil_of_le h]
  rfl
theorem gd11_0 : ((gc11.drop 0).take 40).all (dok (cX10_init)) = true := by decide +kernel
theorem gd11_1 : ((gc11.drop 40).take 40).all (dok (cX10_init)) = true := by decide +kernel
theorem gd11_2 : (gc11.drop 80).all (dok (cX10_init)) = true := all_nil (by decide +kernel)
theorem gd11_r1 : (gc11.drop 40).all (dok (cX10_init)) = true := all_cut 40 gd11_1 (by rw [List.drop_drop]; exact gd11_2)
theorem gd11_r0 : (gc11.drop 0).all (dok (cX10_init)) = true := all_cut 40 gd11_0 (by rw [List.drop_drop]; exact gd11_r1)
theorem gd11 : gc11.all (dok (cX10_init)) = true := gd11_r0
theorem gd12_0 : ((gc12.drop 0).take 40).all (dok (cX10_feed)) = true := by decide +kernel
theorem gd12_1 : ((gc12.drop 40).take 40).all (dok (cX10_feed)) = true := by decide +kernel
theorem gd12_2 : (gc12.drop 80).all (dok (cX10_feed)) = true := all_nil (by decide +kernel)
theorem gd12_r1 : (gc12.drop 40).all (dok (cX10_feed)) = true := all_cut 40 gd12_1 (by rw [List.drop_drop]; exact gd12_2)
theorem gd12_r0 : (gc12.drop 0).all (dok (cX10_feed)) = true := all_cut 40 gd12_0 (by rw [List.drop_drop]; exact gd12_r1)
theorem gd12 : gc12.all (dok (cX10_feed)) = true := gd12_r0
theorem gd13 : gc13.all (dok (cX10_isIn)) = true := by decide +kernel
theorem gd14 : gc14.all (dok (cX10_write)) = true := by decide +kernel
theorem gd15 : gc15.all (dok (cX10_isInputCell)) = true := by decide +kernel
theorem gd16 : gc16.all (dok (cX10_isInput)) = true := by decide +kernel
theorem gd17 : gc17.all (dok (cX10_isCell)) = true := by decide +kernel
theorem gd18 : gc18.all (dok (cX10_isGrid)) = true := by decide +kernel
theorem gd19 : gc19.all (dok (cX10_beginChange)) = true := by decide +kernel
theorem gd20 : gc20.all (dok (cX10_forgetMerge)) = true := by decide +kernel
theorem gd21 : gc21.all (dok (cX10_row)) = true := by decide +kernel
theorem gd22 : gc22.all (dok (cX10_drop)) = true := by decide +kernel
theorem gd23 : gc23.all (dok (cX10_isInputRow)) = true := by decide +kernel
theorem gd24 : gc24.all (dok (cX10_move)) = true := by decide +kernel
theorem gd25 : gc25.all (dok (cX10_note)) = true := by decide +kernel
theorem gd26 : gc26.all (dok (cX10_fill)) = true := by decide +kernel
theorem gd27 : gc27.all (dok (cX10_like)) = true := by decide +kernel
theorem gd28 : gc28.all (dok (cX10_told)) = true := by decide +kernel
theorem gd29 : gc29.all (dok (cX10_value)) = true := by decide +kernel
theorem gd30 : gc30.all (dok (cX10_print)) = true := by decide +kernel
theorem gd31 : gc31.all (dok (cX10_rule)) = true := by decide +kernel
theorem gd32 : gc32.all (dok (cX10_isColumn)) = true := by decide +kernel
theorem gd33 : gc33.all (dok (cX10_isRuleKind)) = true := by decide +kernel
theorem gd34 : gc34.all (dok (cX10_taken)) = true := by decide +kernel
theorem gd35 : gc35.all (dok (cX10_merge)) = true := by decide +kernel
theorem gd36 : gc36.all (dok (cX10_clash)) = true := by decide +kernel
theorem gd37_0 : ((gc37.drop 0).take 40).all (dok (cX10_settle)) = true := by decide +kernel
theorem gd37_1 : ((gc37.drop 40).take 40).all (dok (cX10_settle)) = true := by decide +kernel
theorem gd37_2 : (gc37.drop 80).all (dok (cX10_settle)) = true := all_nil (by decide +kernel)
theorem gd37_r1 : (gc37.drop 40).all (dok (cX10_settle)) = true := all_cut 40 gd37_1 (by rw [List.drop_drop]; exact gd37_2)
theorem gd37_r0 : (gc37.drop 0).all (dok (cX10_settle)) = true := all_cut 40 gd37_0 (by rw [List.drop_drop]; exact gd37_r1)
theorem gd37 : gc37.all (dok (cX10_settle)) = true := gd37_r0
theorem gd38 : gc38.all (dok (cX10_take)) = true := by decide +kernel
theorem gd39 : gc39.all (dok (cX10_undo)) = true := by decide +kernel
theorem gd40 : gc40.all (dok (cX10_exchanged)) = true := by decide +kernel
theorem gd41 : gc41.all (dok (cX10_drawn)) = true := by decide +kernel
theorem gd42 : gc42.all (dok (cX10_clashesDrawn)) = true := by decide +kernel
theorem gd43 : gc43.all (dok (cX10_drawBelow)) = true := by decide +kernel
theorem gd44 : gc44.all (dok (cX10_drawCell)) = true := by decide +kernel
theorem gd45 : gc45.all (dok (cX10_chance)) = true := by decide +kernel
theorem gd46 : gc46.all (dok (cX10_inLowestTerms)) = true := by decide +kernel
theorem gd47 : gc47.all (dok (cX10_tells)) = true := by decide +kernel
theorem gd48 : gc48.all (dok (cX10_isSheet)) = true := by decide +kernel
theorem gd49 : gc49.all (dok (cX10_firstOtherwise)) = true := by decide +kernel
theorem gd50 : gc50.all (dok (cX10_rulesTold)) = true := by decide +kernel
theorem gd51 : gc51.all (dok (cX10_film)) = true := by decide +kernel
theorem gd52 : gc52.all (dok (cX10_image)) = true := by decide +kernel
theorem gd53 : gc53.all (dok (cX10_back)) = true := by decide +kernel
theorem gd54 : gc54.all (dok (cX10_count)) = true := by decide +kernel
theorem gd55 : gc55.all (dok (cX10_sheet)) = true := by decide +kernel
theorem gd56 : gc56.all (dok (cX10_put)) = true := by decide +kernel
theorem gd57 : gc57.all (dok (cX10_copy)) = true := by decide +kernel
theorem gd58 : gc58.all (dok (cX0_init)) = true := by decide +kernel
theorem gd59 : gc59.all (dok (cX0_valueOf)) = true := by decide +kernel
theorem gd60_0 : ((gc60.drop 0).take 40).all (dok (cX0_ask)) = true := by decide +kernel
theorem gd60_1 : ((gc60.drop 40).take 40).all (dok (cX0_ask)) = true := by decide +kernel
theorem gd60_2 : (gc60.drop 80).all (dok (cX0_ask)) = true := all_nil (by decide +kernel)
theorem gd60_r1 : (gc60.drop 40).all (dok (cX0_ask)) = true := all_cut 40 gd60_1 (by rw [List.drop_drop]; exact gd60_2)
theorem gd60_r0 : (gc60.drop 0).all (dok (cX0_ask)) = true := all_cut 40 gd60_0 (by rw [List.drop_drop]; exact gd60_r1)
theorem gd60 : gc60.all (dok (cX0_ask)) = true := gd60_r0
theorem gd61 : gc61.all (dok (cX0_workOut)) = true := by decide +kernel
theorem gd62 : gc62.all (dok (cX0_step)) = true := by decide +kernel
theorem gd63 : gc63.all (dok (cX0_push)) = true := by decide +kernel
theorem gd64 : gc64.all (dok (cX0_askRef)) = true := by decide +kernel
theorem gd65 : gc65.all (dok (cX0_pop)) = true := by decide +kernel
theorem gd66_0 : ((gc66.drop 0).take 40).all (dok (cX0_askRange)) = true := by decide +kernel
theorem gd66_1 : ((gc66.drop 40).take 40).all (dok (cX0_askRange)) = true := by decide +kernel
theorem gd66_2 : ((gc66.drop 80).take 40).all (dok (cX0_askRange)) = true := by decide +kernel
theorem gd66_3 : ((gc66.drop 120).take 40).all (dok (cX0_askRange)) = true := by decide +kernel
theorem gd66_4 : (gc66.drop 160).all (dok (cX0_askRange)) = true := all_nil (by decide +kernel)
theorem gd66_r3 : (gc66.drop 120).all (dok (cX0_askRange)) = true := all_cut 40 gd66_3 (by rw [List.drop_drop]; exact gd66_4)
theorem gd66_r2 : (gc66.drop 80).all (dok (cX0_askRange)) = true := all_cut 40 gd66_2 (by rw [List.drop_drop]; exact gd66_r3)
theorem gd66_r1 : (gc66.drop 40).all (dok (cX0_askRange)) = true := all_cut 40 gd66_1 (by rw [List.drop_drop]; exact gd66_r2)
theorem gd66_r0 : (gc66.drop 0).all (dok (cX0_askRange)) = true := all_cut 40 gd66_0 (by rw [List.drop_drop]; exact gd66_r1)
theorem gd66 : gc66.all (dok (cX0_askRange)) = true := gd66_r0
theorem gd67 : gc67.all (dok (cX0_joined)) = true := by decide +kernel
theorem gd68 : gc68.all (dok (cX1_init)) = true := by decide +kernel
theorem gd69 : gc69.all (dok (cX1_gridAt)) = true := by decide +kernel
theorem gd70 : gc70.all (dok (cX1_keepForUndo)) = true := by decide +kernel
theorem gd71 : gc71.all (dok (cX1_mergedAsIn)) = true := by decide +kernel
theorem gd72 : gc72.all (dok (cX1_undoLatest)) = true := by decide +kernel
theorem gd73 : gc73.all (dok (cX1_become)) = true := by decide +kernel
theorem gd74 : gc74.all (dok (cX2_init)) = true := by decide +kernel
theorem gd75 : gc75.all (dok (cX2_clear)) = true := by decide +kernel
theorem gd76 : gc76.all (dok (cX2_add)) = true := by decide +kernel
theorem gd77 : gc77.all (dok (cX2_become)) = true := by decide +kernel
theorem gd78 : gc78.all (dok (cX2_has)) = true := by decide +kernel
theorem gd79 : gc79.all (dok (cX2_unsettled)) = true := by decide +kernel
theorem gd80 : gc80.all (dok (cX3_init)) = true := by decide +kernel
theorem gd81 : gc81.all (dok (cX3_lowered)) = true := by decide +kernel
theorem gd82 : gc82.all (dok (cX3_printTo)) = true := by decide +kernel
theorem gd83 : gc83.all (dok (cX3_printRef)) = true := by decide +kernel
theorem gd84 : gc84.all (dok (cX3_printSign)) = true := by decide +kernel
theorem gd85 : gc85.all (dok (cX3_isAlike)) = true := by decide +kernel
theorem gd86 : gc86.all (dok (cX3_isTokenAlike)) = true := by decide +kernel
theorem gd87 : gc87.all (dok (cX4_init)) = true := by decide +kernel
theorem gd88 : gc88.all (dok (cX4_cellAt)) = true := by decide +kernel
theorem gd89 : gc89.all (dok (cX4_keyAt)) = true := by decide +kernel
theorem gd90 : gc90.all (dok (cX4_become)) = true := by decide +kernel
theorem gd91 : gc91.all (dok (cX4_setContent)) = true := by decide +kernel
theorem gd92 : gc92.all (dok (cX4_placeOf)) = true := by decide +kernel
theorem gd93 : gc93.all (dok (cX4_insertRow)) = true := by decide +kernel
theorem gd94 : gc94.all (dok (cX4_setNote)) = true := by decide +kernel
theorem gd95 : gc95.all (dok (cX4_moveRow)) = true := by decide +kernel
theorem gd96_0 : ((gc96.drop 0).take 40).all (dok (cX4_swapRows)) = true := by decide +kernel
theorem gd96_1 : ((gc96.drop 40).take 40).all (dok (cX4_swapRows)) = true := by decide +kernel
theorem gd96_2 : (gc96.drop 80).all (dok (cX4_swapRows)) = true := all_nil (by decide +kernel)
theorem gd96_r1 : (gc96.drop 40).all (dok (cX4_swapRows)) = true := all_cut 40 gd96_1 (by rw [List.drop_drop]; exact gd96_2)
theorem gd96_r0 : (gc96.drop 0).all (dok (cX4_swapRows)) = true := all_cut 40 gd96_0 (by rw [List.drop_drop]; exact gd96_r1)
theorem gd96 : gc96.all (dok (cX4_swapRows)) = true := gd96_r0
theorem gd97 : gc97.all (dok (cX4_swap)) = true := by decide +kernel
theorem gd98 : gc98.all (dok (cX4_removeRow)) = true := by decide +kernel
theorem gd99 : gc99.all (dok (cX4_noteAt)) = true := by decide +kernel
theorem gd100 : gc100.all (dok (cX4_fillBelow)) = true := by decide +kernel
theorem gd101 : gc101.all (dok (cX4_kindAt)) = true := by decide +kernel
theorem gd102 : gc102.all (dok (cX4_numberAt)) = true := by decide +kernel
theorem gd103 : gc103.all (dok (cX4_formulaAt)) = true := by decide +kernel
theorem gd104 : gc104.all (dok (cX4_keyBelow)) = true := by decide +kernel
theorem gd105 : gc105.all (dok (cX4_printCell)) = true := by decide +kernel
theorem gd106 : gc106.all (dok (cX4_isRowAlike)) = true := by decide +kernel
theorem gd107 : gc107.all (dok (cX4_isAlike)) = true := by decide +kernel
theorem gd108 : gc108.all (dok (cX4_rowAsIn)) = true := by decide +kernel
theorem gd109 : gc109.all (dok (cX4_contentAsIn)) = true := by decide +kernel
theorem gd110 : gc110.all (dok (cX4_unlikeCells)) = true := by decide +kernel
theorem gd111 : gc111.all (dok (cX5_init)) = true := by decide +kernel
theorem gd112 : gc112.all (dok (cX5_make)) = true := by decide +kernel
theorem gd113 : gc113.all (dok (cX5_placeRowsOfMine)) = true := by decide +kernel
theorem gd114 : gc114.all (dok (cX5_lookUp)) = true := by decide +kernel
theorem gd115_0 : ((gc115.drop 0).take 40).all (dok (cX5_placeRowsOfTheirs)) = true := by decide +kernel
theorem gd115_1 : ((gc115.drop 40).take 40).all (dok (cX5_placeRowsOfTheirs)) = true := by decide +kernel
theorem gd115_2 : (gc115.drop 80).all (dok (cX5_placeRowsOfTheirs)) = true := all_nil (by decide +kernel)
theorem gd115_r1 : (gc115.drop 40).all (dok (cX5_placeRowsOfTheirs)) = true := all_cut 40 gd115_1 (by rw [List.drop_drop]; exact gd115_2)
theorem gd115_r0 : (gc115.drop 0).all (dok (cX5_placeRowsOfTheirs)) = true := all_cut 40 gd115_0 (by rw [List.drop_drop]; exact gd115_r1)
theorem gd115 : gc115.all (dok (cX5_placeRowsOfTheirs)) = true := gd115_r0
theorem gd116 : gc116.all (dok (cX5_mergeRow)) = true := by decide +kernel
theorem gd117_0 : ((gc117.drop 0).take 40).all (dok (cX5_mergeContent)) = true := by decide +kernel
theorem gd117_1 : ((gc117.drop 40).take 40).all (dok (cX5_mergeContent)) = true := by decide +kernel
theorem gd117_2 : (gc117.drop 80).all (dok (cX5_mergeContent)) = true := all_nil (by decide +kernel)
theorem gd117_r1 : (gc117.drop 40).all (dok (cX5_mergeContent)) = true := all_cut 40 gd117_1 (by rw [List.drop_drop]; exact gd117_2)
theorem gd117_r0 : (gc117.drop 0).all (dok (cX5_mergeContent)) = true := all_cut 40 gd117_0 (by rw [List.drop_drop]; exact gd117_r1)
theorem gd117 : gc117.all (dok (cX5_mergeContent)) = true := gd117_r0
theorem gd118 : gc118.all (dok (cX5_areNumbers)) = true := by decide +kernel
theorem gd119_0 : ((gc119.drop 0).take 40).all (dok (cX5_mergeChanged)) = true := by decide +kernel
theorem gd119_1 : ((gc119.drop 40).take 40).all (dok (cX5_mergeChanged)) = true := by decide +kernel
theorem gd119_2 : ((gc119.drop 80).take 40).all (dok (cX5_mergeChanged)) = true := by decide +kernel
theorem gd119_3 : ((gc119.drop 120).take 40).all (dok (cX5_mergeChanged)) = true := by decide +kernel
theorem gd119_4 : (gc119.drop 160).all (dok (cX5_mergeChanged)) = true := all_nil (by decide +kernel)
theorem gd119_r3 : (gc119.drop 120).all (dok (cX5_mergeChanged)) = true := all_cut 40 gd119_3 (by rw [List.drop_drop]; exact gd119_4)
theorem gd119_r2 : (gc119.drop 80).all (dok (cX5_mergeChanged)) = true := all_cut 40 gd119_2 (by rw [List.drop_drop]; exact gd119_r3)
theorem gd119_r1 : (gc119.drop 40).all (dok (cX5_mergeChanged)) = true := all_cut 40 gd119_1 (by rw [List.drop_drop]; exact gd119_r2)
theorem gd119_r0 : (gc119.drop 0).all (dok (cX5_mergeChanged)) = true := all_cut 40 gd119_0 (by rw [List.drop_drop]; exact gd119_r1)
theorem gd119 : gc119.all (dok (cX5_mergeChanged)) = true := gd119_r0
theorem gd120_0 : ((gc120.drop 0).take 40).all (dok (cX5_mergeNote)) = true := by decide +kernel
theorem gd120_1 : ((gc120.drop 40).take 40).all (dok (cX5_mergeNote)) = true := by decide +kernel
theorem gd120_2 : (gc120.drop 80).all (dok (cX5_mergeNote)) = true := all_nil (by decide +kernel)
theorem gd120_r1 : (gc120.drop 40).all (dok (cX5_mergeNote)) = true := all_cut 40 gd120_1 (by rw [List.drop_drop]; exact gd120_2)
theorem gd120_r0 : (gc120.drop 0).all (dok (cX5_mergeNote)) = true := all_cut 40 gd120_0 (by rw [List.drop_drop]; exact gd120_r1)
theorem gd120 : gc120.all (dok (cX5_mergeNote)) = true := gd120_r0
theorem gd121 : gc121.all (dok (cX6_init)) = true := by decide +kernel
theorem gd122 : gc122.all (dok (cX6_isOf)) = true := by decide +kernel
theorem gd123 : gc123.all (dok (cX6_become)) = true := by decide +kernel
theorem gd124 : gc124.all (dok (cX7_init)) = true := by decide +kernel
theorem gd125 : gc125.all (dok (cX7_isMissing)) = true := by decide +kernel
theorem gd126 : gc126.all (dok (cX7_become)) = true := by decide +kernel
theorem gd127 : gc127.all (dok (cX7_set)) = true := by decide +kernel
theorem gd128 : gc128.all (dok (cX7_hasItems)) = true := by decide +kernel
theorem gd129 : gc129.all (dok (cX8_init)) = true := by decide +kernel
theorem gd130 : gc130.all (dok (cX8_hasRoom)) = true := by decide +kernel
theorem gd131 : gc131.all (dok (cX8_add)) = true := by decide +kernel
theorem gd132 : gc132.all (dok (cX8_findTokens)) = true := by decide +kernel
theorem gd133_0 : ((gc133.drop 0).take 40).all (dok (cX8_scanToken)) = true := by decide +kernel
theorem gd133_1 : ((gc133.drop 40).take 40).all (dok (cX8_scanToken)) = true := by decide +kernel
theorem gd133_2 : (gc133.drop 80).all (dok (cX8_scanToken)) = true := all_nil (by decide +kernel)
theorem gd133_r1 : (gc133.drop 40).all (dok (cX8_scanToken)) = true := all_cut 40 gd133_1 (by rw [List.drop_drop]; exact gd133_2)
theorem gd133_r0 : (gc133.drop 0).all (dok (cX8_scanToken)) = true := all_cut 40 gd133_0 (by rw [List.drop_drop]; exact gd133_r1)
theorem gd133 : gc133.all (dok (cX8_scanToken)) = true := gd133_r0
theorem gd134 : gc134.all (dok (cX8_isBlank)) = true := by decide +kernel
theorem gd135 : gc135.all (dok (cX8_isDigit)) = true := by decide +kernel
theorem gd136 : gc136.all (dok (cX8_scanNumber)) = true := by decide +kernel
theorem gd137 : gc137.all (dok (cX8_isLetter)) = true := by decide +kernel
theorem gd138_0 : ((gc138.drop 0).take 40).all (dok (cX8_scanWord)) = true := by decide +kernel
theorem gd138_1 : ((gc138.drop 40).take 40).all (dok (cX8_scanWord)) = true := by decide +kernel
theorem gd138_2 : ((gc138.drop 80).take 40).all (dok (cX8_scanWord)) = true := by decide +kernel
theorem gd138_3 : (gc138.drop 120).all (dok (cX8_scanWord)) = true := all_nil (by decide +kernel)
theorem gd138_r2 : (gc138.drop 80).all (dok (cX8_scanWord)) = true := all_cut 40 gd138_2 (by rw [List.drop_drop]; exact gd138_3)
theorem gd138_r1 : (gc138.drop 40).all (dok (cX8_scanWord)) = true := all_cut 40 gd138_1 (by rw [List.drop_drop]; exact gd138_r2)
theorem gd138_r0 : (gc138.drop 0).all (dok (cX8_scanWord)) = true := all_cut 40 gd138_0 (by rw [List.drop_drop]; exact gd138_r1)
theorem gd138 : gc138.all (dok (cX8_scanWord)) = true := gd138_r0
theorem gd139 : gc139.all (dok (cX8_reads)) = true := by decide +kernel
theorem gd140 : gc140.all (dok (cX8_signOf)) = true := by decide +kernel
theorem gd141 : gc141.all (dok (cX8_token)) = true := by decide +kernel
theorem gd142 : gc142.all (dok (cX8_advance)) = true := by decide +kernel
theorem gd143 : gc143.all (dok (cX8_figure)) = true := by decide +kernel
theorem gd144 : gc144.all (dok (cX8_clear)) = true := by decide +kernel
theorem gd145 : gc145.all (dok (cX8_start)) = true := by decide +kernel
theorem gd146 : gc146.all (dok (cX9_init)) = true := by decide +kernel
theorem gd147_0 : ((gc147.drop 0).take 40).all (dok (cX9_read)) = true := by decide +kernel
theorem gd147_1 : ((gc147.drop 40).take 40).all (dok (cX9_read)) = true := by decide +kernel
theorem gd147_2 : (gc147.drop 80).all (dok (cX9_read)) = true := all_nil (by decide +kernel)
theorem gd147_r1 : (gc147.drop 40).all (dok (cX9_read)) = true := all_cut 40 gd147_1 (by rw [List.drop_drop]; exact gd147_2)
theorem gd147_r0 : (gc147.drop 0).all (dok (cX9_read)) = true := all_cut 40 gd147_0 (by rw [List.drop_drop]; exact gd147_r1)
theorem gd147 : gc147.all (dok (cX9_read)) = true := gd147_r0
theorem gd148 : gc148.all (dok (cX9_readSum)) = true := by decide +kernel
theorem gd149 : gc149.all (dok (cX9_readPart)) = true := by decide +kernel
theorem gd150 : gc150.all (dok (cX9_readOne)) = true := by decide +kernel
theorem gd151 : gc151.all (dok (cX9_keepToken)) = true := by decide +kernel
theorem gd152 : gc152.all (dok (cX9_workOut)) = true := by decide +kernel
theorem gd153 : gc153.all (dok (cX9_readNegative)) = true := by decide +kernel
theorem gd154 : gc154.all (dok (cX9_readBracket)) = true := by decide +kernel
theorem gd155 : gc155.all (dok (cX9_readSign)) = true := by decide +kernel
theorem gd156 : gc156.all (dok (cX9_readRange)) = true := by decide +kernel
theorem gd157_0 : ((gc157.drop 0).take 40).all (dok (cX9_readRef)) = true := by decide +kernel
theorem gd157_1 : ((gc157.drop 40).take 40).all (dok (cX9_readRef)) = true := by decide +kernel
theorem gd157_2 : (gc157.drop 80).all (dok (cX9_readRef)) = true := all_nil (by decide +kernel)
theorem gd157_r1 : (gc157.drop 40).all (dok (cX9_readRef)) = true := all_cut 40 gd157_1 (by rw [List.drop_drop]; exact gd157_2)
theorem gd157_r0 : (gc157.drop 0).all (dok (cX9_readRef)) = true := all_cut 40 gd157_0 (by rw [List.drop_drop]; exact gd157_r1)
theorem gd157 : gc157.all (dok (cX9_readRef)) = true := gd157_r0
theorem gd158 : gc158.all (dok (cX9_readNumber)) = true := by decide +kernel
theorem gd159 : gc159.all (dok (cX9_formula)) = true := by decide +kernel
theorem gd160_0 : ((gc160.drop 0).take 40).all (dok (cX11_init)) = true := by decide +kernel
theorem gd160_1 : ((gc160.drop 40).take 40).all (dok (cX11_init)) = true := by decide +kernel
theorem gd160_2 : ((gc160.drop 80).take 40).all (dok (cX11_init)) = true := by decide +kernel
theorem gd160_3 : ((gc160.drop 120).take 40).all (dok (cX11_init)) = true := by decide +kernel
theorem gd160_4 : ((gc160.drop 160).take 40).all (dok (cX11_init)) = true := by decide +kernel
theorem gd160_5 : (gc160.drop 200).all (dok (cX11_init)) = true := all_nil (by decide +kernel)
theorem gd160_r4 : (gc160.drop 160).all (dok (cX11_init)) = true := all_cut 40 gd160_4 (by rw [List.drop_drop]; exact gd160_5)
theorem gd160_r3 : (gc160.drop 120).all (dok (cX11_init)) = true := all_cut 40 gd160_3 (by rw [List.drop_drop]; exact gd160_r4)
theorem gd160_r2 : (gc160.drop 80).all (dok (cX11_init)) = true := all_cut 40 gd160_2 (by rw [List.drop_drop]; exact gd160_r3)
theorem gd160_r1 : (gc160.drop 40).all (dok (cX11_init)) = true := all_cut 40 gd160_1 (by rw [List.drop_drop]; exact gd160_r2)
theorem gd160_r0 : (gc160.drop 0).all (dok (cX11_init)) = true := all_cut 40 gd160_0 (by rw [List.drop_drop]; exact gd160_r1)
theorem gd160 : gc160.all (dok (cX11_init)) = true := gd160_r0
theorem gd161 : gc161.all (dok (cX11_undo)) = true := by decide +kernel
theorem gd162_0 : ((gc162.drop 0).take 40).all (dok (cX11_layBack)) = true := by decide +kernel
theorem gd162_1 : ((gc162.drop 40).take 40).all (dok (cX11_layBack)) = true := by decide +kernel
theorem gd162_2 : ((gc162.drop 80).take 40).all (dok (cX11_layBack)) = true := by decide +kernel
theorem gd162_3 : (gc162.drop 120).all (dok (cX11_layBack)) = true := all_nil (by decide +kernel)
theorem gd162_r2 : (gc162.drop 80).all (dok (cX11_layBack)) = true := all_cut 40 gd162_2 (by rw [List.drop_drop]; exact gd162_3)
theorem gd162_r1 : (gc162.drop 40).all (dok (cX11_layBack)) = true := all_cut 40 gd162_1 (by rw [List.drop_drop]; exact gd162_r2)
theorem gd162_r0 : (gc162.drop 0).all (dok (cX11_layBack)) = true := all_cut 40 gd162_0 (by rw [List.drop_drop]; exact gd162_r1)
theorem gd162 : gc162.all (dok (cX11_layBack)) = true := gd162_r0
theorem gd163 : gc163.all (dok (cX11_stirs)) = true := by decide +kernel
theorem gd164_0 : ((gc164.drop 0).take 40).all (dok (cX11_feed)) = true := by decide +kernel
theorem gd164_1 : ((gc164.drop 40).take 40).all (dok (cX11_feed)) = true := by decide +kernel
theorem gd164_2 : (gc164.drop 80).all (dok (cX11_feed)) = true := all_nil (by decide +kernel)
theorem gd164_r1 : (gc164.drop 40).all (dok (cX11_feed)) = true := all_cut 40 gd164_1 (by rw [List.drop_drop]; exact gd164_2)
theorem gd164_r0 : (gc164.drop 0).all (dok (cX11_feed)) = true := all_cut 40 gd164_0 (by rw [List.drop_drop]; exact gd164_r1)
theorem gd164 : gc164.all (dok (cX11_feed)) = true := gd164_r0
theorem gd165 : gc165.all (dok (cX11_in)) = true := by decide +kernel
theorem gd166 : gc166.all (dok (cX11_isByte)) = true := by decide +kernel
theorem gd167 : gc167.all (dok (cX11_write)) = true := by decide +kernel
theorem gd168 : gc168.all (dok (cX11_isSource)) = true := by decide +kernel
theorem gd169 : gc169.all (dok (cX11_isCell)) = true := by decide +kernel
theorem gd170 : gc170.all (dok (cX11_isGrid)) = true := by decide +kernel
theorem gd171 : gc171.all (dok (cX11_isColumn)) = true := by decide +kernel
theorem gd172_0 : ((gc172.drop 0).take 40).all (dok (cX11_readContent)) = true := by decide +kernel
theorem gd172_1 : ((gc172.drop 40).take 40).all (dok (cX11_readContent)) = true := by decide +kernel
theorem gd172_2 : ((gc172.drop 80).take 40).all (dok (cX11_readContent)) = true := by decide +kernel
theorem gd172_3 : (gc172.drop 120).all (dok (cX11_readContent)) = true := all_nil (by decide +kernel)
theorem gd172_r2 : (gc172.drop 80).all (dok (cX11_readContent)) = true := all_cut 40 gd172_2 (by rw [List.drop_drop]; exact gd172_3)
theorem gd172_r1 : (gc172.drop 40).all (dok (cX11_readContent)) = true := all_cut 40 gd172_1 (by rw [List.drop_drop]; exact gd172_r2)
theorem gd172_r0 : (gc172.drop 0).all (dok (cX11_readContent)) = true := all_cut 40 gd172_0 (by rw [List.drop_drop]; exact gd172_r1)
theorem gd172 : gc172.all (dok (cX11_readContent)) = true := gd172_r0
theorem gd173_0 : ((gc173.drop 0).take 40).all (dok (cX11_next)) = true := by decide +kernel
theorem gd173_1 : ((gc173.drop 40).take 40).all (dok (cX11_next)) = true := by decide +kernel
theorem gd173_2 : (gc173.drop 80).all (dok (cX11_next)) = true := all_nil (by decide +kernel)
theorem gd173_r1 : (gc173.drop 40).all (dok (cX11_next)) = true := all_cut 40 gd173_1 (by rw [List.drop_drop]; exact gd173_2)
theorem gd173_r0 : (gc173.drop 0).all (dok (cX11_next)) = true := all_cut 40 gd173_0 (by rw [List.drop_drop]; exact gd173_r1)
theorem gd173 : gc173.all (dok (cX11_next)) = true := gd173_r0
theorem gd174 : gc174.all (dok (cX11_byteAt)) = true := by decide +kernel
theorem gd175_0 : ((gc175.drop 0).take 40).all (dok (cX11_word)) = true := by decide +kernel
theorem gd175_1 : ((gc175.drop 40).take 40).all (dok (cX11_word)) = true := by decide +kernel
theorem gd175_2 : (gc175.drop 80).all (dok (cX11_word)) = true := all_nil (by decide +kernel)
theorem gd175_r1 : (gc175.drop 40).all (dok (cX11_word)) = true := all_cut 40 gd175_1 (by rw [List.drop_drop]; exact gd175_2)
theorem gd175_r0 : (gc175.drop 0).all (dok (cX11_word)) = true := all_cut 40 gd175_0 (by rw [List.drop_drop]; exact gd175_r1)
theorem gd175 : gc175.all (dok (cX11_word)) = true := gd175_r0
theorem gd176 : gc176.all (dok (cX11_wordOf)) = true := by decide +kernel
theorem gd177 : gc177.all (dok (cX11_isText)) = true := by decide +kernel
theorem gd178 : gc178.all (dok (cX11_digits)) = true := by decide +kernel
theorem gd179 : gc179.all (dok (cX11_isSign)) = true := by decide +kernel
theorem gd180 : gc180.all (dok (cX11_sum)) = true := by decide +kernel
theorem gd181 : gc181.all (dok (cX11_part)) = true := by decide +kernel
theorem gd182_0 : ((gc182.drop 0).take 40).all (dok (cX11_one)) = true := by decide +kernel
theorem gd182_1 : ((gc182.drop 40).take 40).all (dok (cX11_one)) = true := by decide +kernel
theorem gd182_2 : ((gc182.drop 80).take 40).all (dok (cX11_one)) = true := by decide +kernel
theorem gd182_3 : (gc182.drop 120).all (dok (cX11_one)) = true := all_nil (by decide +kernel)
theorem gd182_r2 : (gc182.drop 80).all (dok (cX11_one)) = true := all_cut 40 gd182_2 (by rw [List.drop_drop]; exact gd182_3)
theorem gd182_r1 : (gc182.drop 40).all (dok (cX11_one)) = true := all_cut 40 gd182_1 (by rw [List.drop_drop]; exact gd182_r2)
theorem gd182_r0 : (gc182.drop 0).all (dok (cX11_one)) = true := all_cut 40 gd182_0 (by rw [List.drop_drop]; exact gd182_r1)
theorem gd182 : gc182.all (dok (cX11_one)) = true := gd182_r0
theorem gd183 : gc183.all (dok (cX11_notes)) = true := by decide +kernel
theorem gd184 : gc184.all (dok (cX11_opens)) = true := by decide +kernel
theorem gd185 : gc185.all (dok (cX11_need)) = true := by decide +kernel
theorem gd186 : gc186.all (dok (cX11_sign)) = true := by decide +kernel
theorem gd187_0 : ((gc187.drop 0).take 40).all (dok (cX11_ref)) = true := by decide +kernel
theorem gd187_1 : ((gc187.drop 40).take 40).all (dok (cX11_ref)) = true := by decide +kernel
theorem gd187_2 : ((gc187.drop 80).take 40).all (dok (cX11_ref)) = true := by decide +kernel
theorem gd187_3 : (gc187.drop 120).all (dok (cX11_ref)) = true := all_nil (by decide +kernel)
theorem gd187_r2 : (gc187.drop 80).all (dok (cX11_ref)) = true := all_cut 40 gd187_2 (by rw [List.drop_drop]; exact gd187_3)
theorem gd187_r1 : (gc187.drop 40).all (dok (cX11_ref)) = true := all_cut 40 gd187_1 (by rw [List.drop_drop]; exact gd187_r2)
theorem gd187_r0 : (gc187.drop 0).all (dok (cX11_ref)) = true := all_cut 40 gd187_0 (by rw [List.drop_drop]; exact gd187_r1)
theorem gd187 : gc187.all (dok (cX11_ref)) = true := gd187_r0
theorem gd188 : gc188.all (dok (cX11_refOf)) = true := by decide +kernel
theorem gd189 : gc189.all (dok (cX11_changes)) = true := by decide +kernel
theorem gd190_0 : ((gc190.drop 0).take 40).all (dok (cX11_moveAside)) = true := by decide +kernel
theorem gd190_1 : ((gc190.drop 40).take 40).all (dok (cX11_moveAside)) = true := by decide +kernel
theorem gd190_2 : ((gc190.drop 80).take 40).all (dok (cX11_moveAside)) = true := by decide +kernel
theorem gd190_3 : (gc190.drop 120).all (dok (cX11_moveAside)) = true := all_nil (by decide +kernel)
theorem gd190_r2 : (gc190.drop 80).all (dok (cX11_moveAside)) = true := all_cut 40 gd190_2 (by rw [List.drop_drop]; exact gd190_3)
theorem gd190_r1 : (gc190.drop 40).all (dok (cX11_moveAside)) = true := all_cut 40 gd190_1 (by rw [List.drop_drop]; exact gd190_r2)
theorem gd190_r0 : (gc190.drop 0).all (dok (cX11_moveAside)) = true := all_cut 40 gd190_0 (by rw [List.drop_drop]; exact gd190_r1)
theorem gd190 : gc190.all (dok (cX11_moveAside)) = true := gd190_r0
theorem gd191_0 : ((gc191.drop 0).take 40).all (dok (cX11_lay)) = true := by decide +kernel
theorem gd191_1 : ((gc191.drop 40).take 40).all (dok (cX11_lay)) = true := by decide +kernel
theorem gd191_2 : ((gc191.drop 80).take 40).all (dok (cX11_lay)) = true := by decide +kernel
theorem gd191_3 : (gc191.drop 120).all (dok (cX11_lay)) = true := all_nil (by decide +kernel)
theorem gd191_r2 : (gc191.drop 80).all (dok (cX11_lay)) = true := all_cut 40 gd191_2 (by rw [List.drop_drop]; exact gd191_3)
theorem gd191_r1 : (gc191.drop 40).all (dok (cX11_lay)) = true := all_cut 40 gd191_1 (by rw [List.drop_drop]; exact gd191_r2)
theorem gd191_r0 : (gc191.drop 0).all (dok (cX11_lay)) = true := all_cut 40 gd191_0 (by rw [List.drop_drop]; exact gd191_r1)
theorem gd191 : gc191.all (dok (cX11_lay)) = true := gd191_r0
theorem gd192 : gc192.all (dok (cX11_put)) = true := by decide +kernel
theorem gd193 : gc193.all (dok (cX11_row)) = true := by decide +kernel
theorem gd194 : gc194.all (dok (cX11_placeOf)) = true := by decide +kernel
theorem gd195 : gc195.all (dok (cX11_opens_)) = true := by decide +kernel
theorem gd196 : gc196.all (dok (cX11_copyRow)) = true := by decide +kernel
theorem gd197 : gc197.all (dok (cX11_copyCell)) = true := by decide +kernel
theorem gd198 : gc198.all (dok (cX11_clearCell)) = true := by decide +kernel
theorem gd199 : gc199.all (dok (cX11_drop)) = true := by decide +kernel
theorem gd200 : gc200.all (dok (cX11_closes)) = true := by decide +kernel
theorem gd201 : gc201.all (dok (cX11_move)) = true := by decide +kernel
theorem gd202_0 : ((gc202.drop 0).take 40).all (dok (cX11_swapRows)) = true := by decide +kernel
theorem gd202_1 : ((gc202.drop 40).take 40).all (dok (cX11_swapRows)) = true := by decide +kernel
theorem gd202_2 : ((gc202.drop 80).take 40).all (dok (cX11_swapRows)) = true := by decide +kernel
theorem gd202_3 : (gc202.drop 120).all (dok (cX11_swapRows)) = true := all_nil (by decide +kernel)
theorem gd202_r2 : (gc202.drop 80).all (dok (cX11_swapRows)) = true := all_cut 40 gd202_2 (by rw [List.drop_drop]; exact gd202_3)
theorem gd202_r1 : (gc202.drop 40).all (dok (cX11_swapRows)) = true := all_cut 40 gd202_1 (by rw [List.drop_drop]; exact gd202_r2)
theorem gd202_r0 : (gc202.drop 0).all (dok (cX11_swapRows)) = true := all_cut 40 gd202_0 (by rw [List.drop_drop]; exact gd202_r1)
theorem gd202 : gc202.all (dok (cX11_swapRows)) = true := gd202_r0
theorem gd203 : gc203.all (dok (cX11_note)) = true := by decide +kernel
theorem gd204_0 : ((gc204.drop 0).take 40).all (dok (cX11_fill)) = true := by decide +kernel
theorem gd204_1 : ((gc204.drop 40).take 40).all (dok (cX11_fill)) = true := by decide +kernel
theorem gd204_2 : ((gc204.drop 80).take 40).all (dok (cX11_fill)) = true := by decide +kernel
theorem gd204_3 : (gc204.drop 120).all (dok (cX11_fill)) = true := all_nil (by decide +kernel)
theorem gd204_r2 : (gc204.drop 80).all (dok (cX11_fill)) = true := all_cut 40 gd204_2 (by rw [List.drop_drop]; exact gd204_3)
theorem gd204_r1 : (gc204.drop 40).all (dok (cX11_fill)) = true := all_cut 40 gd204_1 (by rw [List.drop_drop]; exact gd204_r2)
theorem gd204_r0 : (gc204.drop 0).all (dok (cX11_fill)) = true := all_cut 40 gd204_0 (by rw [List.drop_drop]; exact gd204_r1)
theorem gd204 : gc204.all (dok (cX11_fill)) = true := gd204_r0
theorem gd205_0 : ((gc205.drop 0).take 40).all (dok (cX11_shifted)) = true := by decide +kernel
theorem gd205_1 : ((gc205.drop 40).take 40).all (dok (cX11_shifted)) = true := by decide +kernel
theorem gd205_2 : ((gc205.drop 80).take 40).all (dok (cX11_shifted)) = true := by decide +kernel
theorem gd205_3 : (gc205.drop 120).all (dok (cX11_shifted)) = true := all_nil (by decide +kernel)
theorem gd205_r2 : (gc205.drop 80).all (dok (cX11_shifted)) = true := all_cut 40 gd205_2 (by rw [List.drop_drop]; exact gd205_3)
theorem gd205_r1 : (gc205.drop 40).all (dok (cX11_shifted)) = true := all_cut 40 gd205_1 (by rw [List.drop_drop]; exact gd205_r2)
theorem gd205_r0 : (gc205.drop 0).all (dok (cX11_shifted)) = true := all_cut 40 gd205_0 (by rw [List.drop_drop]; exact gd205_r1)
theorem gd205 : gc205.all (dok (cX11_shifted)) = true := gd205_r0
theorem gd206 : gc206.all (dok (cX11_like)) = true := by decide +kernel
theorem gd207 : gc207.all (dok (cX11_copyGrid)) = true := by decide +kernel
theorem gd208_0 : ((gc208.drop 0).take 40).all (dok (cX11_told)) = true := by decide +kernel
theorem gd208_1 : ((gc208.drop 40).take 40).all (dok (cX11_told)) = true := by decide +kernel
theorem gd208_2 : (gc208.drop 80).all (dok (cX11_told)) = true := all_nil (by decide +kernel)
theorem gd208_r1 : (gc208.drop 40).all (dok (cX11_told)) = true := all_cut 40 gd208_1 (by rw [List.drop_drop]; exact gd208_2)
theorem gd208_r0 : (gc208.drop 0).all (dok (cX11_told)) = true := all_cut 40 gd208_0 (by rw [List.drop_drop]; exact gd208_r1)
theorem gd208 : gc208.all (dok (cX11_told)) = true := gd208_r0
theorem gd209 : gc209.all (dok (cX11_asksAnew)) = true := by decide +kernel
theorem gd210 : gc210.all (dok (cX11_valueOf)) = true := by decide +kernel
theorem gd211_0 : ((gc211.drop 0).take 40).all (dok (cX11_tellsCell)) = true := by decide +kernel
theorem gd211_1 : ((gc211.drop 40).take 40).all (dok (cX11_tellsCell)) = true := by decide +kernel
theorem gd211_2 : ((gc211.drop 80).take 40).all (dok (cX11_tellsCell)) = true := by decide +kernel
theorem gd211_3 : (gc211.drop 120).all (dok (cX11_tellsCell)) = true := all_nil (by decide +kernel)
theorem gd211_r2 : (gc211.drop 80).all (dok (cX11_tellsCell)) = true := all_cut 40 gd211_2 (by rw [List.drop_drop]; exact gd211_3)
theorem gd211_r1 : (gc211.drop 40).all (dok (cX11_tellsCell)) = true := all_cut 40 gd211_1 (by rw [List.drop_drop]; exact gd211_r2)
theorem gd211_r0 : (gc211.drop 0).all (dok (cX11_tellsCell)) = true := all_cut 40 gd211_0 (by rw [List.drop_drop]; exact gd211_r1)
theorem gd211 : gc211.all (dok (cX11_tellsCell)) = true := gd211_r0
theorem gd212 : gc212.all (dok (cX11_sumNow)) = true := by decide +kernel
theorem gd213 : gc213.all (dok (cX11_partNow)) = true := by decide +kernel
theorem gd214_0 : ((gc214.drop 0).take 40).all (dok (cX11_oneNow)) = true := by decide +kernel
theorem gd214_1 : ((gc214.drop 40).take 40).all (dok (cX11_oneNow)) = true := by decide +kernel
theorem gd214_2 : (gc214.drop 80).all (dok (cX11_oneNow)) = true := all_nil (by decide +kernel)
theorem gd214_r1 : (gc214.drop 40).all (dok (cX11_oneNow)) = true := all_cut 40 gd214_1 (by rw [List.drop_drop]; exact gd214_2)
theorem gd214_r0 : (gc214.drop 0).all (dok (cX11_oneNow)) = true := all_cut 40 gd214_0 (by rw [List.drop_drop]; exact gd214_r1)
theorem gd214 : gc214.all (dok (cX11_oneNow)) = true := gd214_r0
theorem gd215_0 : ((gc215.drop 0).take 40).all (dok (cX11_rangeNow)) = true := by decide +kernel
theorem gd215_1 : ((gc215.drop 40).take 40).all (dok (cX11_rangeNow)) = true := by decide +kernel
theorem gd215_2 : ((gc215.drop 80).take 40).all (dok (cX11_rangeNow)) = true := by decide +kernel
theorem gd215_3 : ((gc215.drop 120).take 40).all (dok (cX11_rangeNow)) = true := by decide +kernel
theorem gd215_4 : ((gc215.drop 160).take 40).all (dok (cX11_rangeNow)) = true := by decide +kernel
theorem gd215_5 : (gc215.drop 200).all (dok (cX11_rangeNow)) = true := all_nil (by decide +kernel)
theorem gd215_r4 : (gc215.drop 160).all (dok (cX11_rangeNow)) = true := all_cut 40 gd215_4 (by rw [List.drop_drop]; exact gd215_5)
theorem gd215_r3 : (gc215.drop 120).all (dok (cX11_rangeNow)) = true := all_cut 40 gd215_3 (by rw [List.drop_drop]; exact gd215_r4)
theorem gd215_r2 : (gc215.drop 80).all (dok (cX11_rangeNow)) = true := all_cut 40 gd215_2 (by rw [List.drop_drop]; exact gd215_r3)
theorem gd215_r1 : (gc215.drop 40).all (dok (cX11_rangeNow)) = true := all_cut 40 gd215_1 (by rw [List.drop_drop]; exact gd215_r2)
theorem gd215_r0 : (gc215.drop 0).all (dok (cX11_rangeNow)) = true := all_cut 40 gd215_0 (by rw [List.drop_drop]; exact gd215_r1)
theorem gd215 : gc215.all (dok (cX11_rangeNow)) = true := gd215_r0
theorem gd216 : gc216.all (dok (cX11_refNow)) = true := by decide +kernel
theorem gd217 : gc217.all (dok (cX11_isNow)) = true := by decide +kernel
theorem gd218 : gc218.all (dok (cX11_value)) = true := by decide +kernel
theorem gd219 : gc219.all (dok (cX11_print)) = true := by decide +kernel
theorem gd220_0 : ((gc220.drop 0).take 40).all (dok (cX11_textOf)) = true := by decide +kernel
theorem gd220_1 : ((gc220.drop 40).take 40).all (dok (cX11_textOf)) = true := by decide +kernel
theorem gd220_2 : ((gc220.drop 80).take 40).all (dok (cX11_textOf)) = true := by decide +kernel
theorem gd220_3 : (gc220.drop 120).all (dok (cX11_textOf)) = true := all_nil (by decide +kernel)
theorem gd220_r2 : (gc220.drop 80).all (dok (cX11_textOf)) = true := all_cut 40 gd220_2 (by rw [List.drop_drop]; exact gd220_3)
theorem gd220_r1 : (gc220.drop 40).all (dok (cX11_textOf)) = true := all_cut 40 gd220_1 (by rw [List.drop_drop]; exact gd220_r2)
theorem gd220_r0 : (gc220.drop 0).all (dok (cX11_textOf)) = true := all_cut 40 gd220_0 (by rw [List.drop_drop]; exact gd220_r1)
theorem gd220 : gc220.all (dok (cX11_textOf)) = true := gd220_r0
theorem gd221 : gc221.all (dok (cX11_refText)) = true := by decide +kernel
theorem gd222 : gc222.all (dok (cX11_rule)) = true := by decide +kernel
theorem gd223 : gc223.all (dok (cX11_taken)) = true := by decide +kernel
theorem gd224 : gc224.all (dok (cX11_merge)) = true := by decide +kernel
theorem gd225 : gc225.all (dok (cX11_merges)) = true := by decide +kernel
theorem gd226_0 : ((gc226.drop 0).take 40).all (dok (cX11_places)) = true := by decide +kernel
theorem gd226_1 : ((gc226.drop 40).take 40).all (dok (cX11_places)) = true := by decide +kernel
theorem gd226_2 : ((gc226.drop 80).take 40).all (dok (cX11_places)) = true := by decide +kernel
theorem gd226_3 : ((gc226.drop 120).take 40).all (dok (cX11_places)) = true := by decide +kernel
theorem gd226_4 : (gc226.drop 160).all (dok (cX11_places)) = true := all_nil (by decide +kernel)
theorem gd226_r3 : (gc226.drop 120).all (dok (cX11_places)) = true := all_cut 40 gd226_3 (by rw [List.drop_drop]; exact gd226_4)
theorem gd226_r2 : (gc226.drop 80).all (dok (cX11_places)) = true := all_cut 40 gd226_2 (by rw [List.drop_drop]; exact gd226_r3)
theorem gd226_r1 : (gc226.drop 40).all (dok (cX11_places)) = true := all_cut 40 gd226_1 (by rw [List.drop_drop]; exact gd226_r2)
theorem gd226_r0 : (gc226.drop 0).all (dok (cX11_places)) = true := all_cut 40 gd226_0 (by rw [List.drop_drop]; exact gd226_r1)
theorem gd226 : gc226.all (dok (cX11_places)) = true := gd226_r0
theorem gd227 : gc227.all (dok (cX11_isIn)) = true := by decide +kernel
theorem gd228 : gc228.all (dok (cX11_isChangedRow)) = true := by decide +kernel
theorem gd229_0 : ((gc229.drop 0).take 40).all (dok (cX11_areAlike)) = true := by decide +kernel
theorem gd229_1 : ((gc229.drop 40).take 40).all (dok (cX11_areAlike)) = true := by decide +kernel
theorem gd229_2 : (gc229.drop 80).all (dok (cX11_areAlike)) = true := all_nil (by decide +kernel)
theorem gd229_r1 : (gc229.drop 40).all (dok (cX11_areAlike)) = true := all_cut 40 gd229_1 (by rw [List.drop_drop]; exact gd229_2)
theorem gd229_r0 : (gc229.drop 0).all (dok (cX11_areAlike)) = true := all_cut 40 gd229_0 (by rw [List.drop_drop]; exact gd229_r1)
theorem gd229 : gc229.all (dok (cX11_areAlike)) = true := gd229_r0
theorem gd230 : gc230.all (dok (cX11_kindAt)) = true := by decide +kernel
theorem gd231 : gc231.all (dok (cX11_areSame)) = true := by decide +kernel
theorem gd232 : gc232.all (dok (cX11_noteAt)) = true := by decide +kernel
theorem gd233 : gc233.all (dok (cX11_behind)) = true := by decide +kernel
theorem gd234_0 : ((gc234.drop 0).take 40).all (dok (cX11_mergeRow)) = true := by decide +kernel
theorem gd234_1 : ((gc234.drop 40).take 40).all (dok (cX11_mergeRow)) = true := by decide +kernel
theorem gd234_2 : (gc234.drop 80).all (dok (cX11_mergeRow)) = true := all_nil (by decide +kernel)
theorem gd234_r1 : (gc234.drop 40).all (dok (cX11_mergeRow)) = true := all_cut 40 gd234_1 (by rw [List.drop_drop]; exact gd234_2)
theorem gd234_r0 : (gc234.drop 0).all (dok (cX11_mergeRow)) = true := all_cut 40 gd234_0 (by rw [List.drop_drop]; exact gd234_r1)
theorem gd234 : gc234.all (dok (cX11_mergeRow)) = true := gd234_r0
theorem gd235_0 : ((gc235.drop 0).take 40).all (dok (cX11_mergeCell)) = true := by decide +kernel
theorem gd235_1 : ((gc235.drop 40).take 40).all (dok (cX11_mergeCell)) = true := by decide +kernel
theorem gd235_2 : ((gc235.drop 80).take 40).all (dok (cX11_mergeCell)) = true := by decide +kernel
theorem gd235_3 : ((gc235.drop 120).take 40).all (dok (cX11_mergeCell)) = true := by decide +kernel
theorem gd235_4 : (gc235.drop 160).all (dok (cX11_mergeCell)) = true := all_nil (by decide +kernel)
theorem gd235_r3 : (gc235.drop 120).all (dok (cX11_mergeCell)) = true := all_cut 40 gd235_3 (by rw [List.drop_drop]; exact gd235_4)
theorem gd235_r2 : (gc235.drop 80).all (dok (cX11_mergeCell)) = true := all_cut 40 gd235_2 (by rw [List.drop_drop]; exact gd235_r3)
theorem gd235_r1 : (gc235.drop 40).all (dok (cX11_mergeCell)) = true := all_cut 40 gd235_1 (by rw [List.drop_drop]; exact gd235_r2)
theorem gd235_r0 : (gc235.drop 0).all (dok (cX11_mergeCell)) = true := all_cut 40 gd235_0 (by rw [List.drop_drop]; exact gd235_r1)
theorem gd235 : gc235.all (dok (cX11_mergeCell)) = true := gd235_r0
theorem gd236 : gc236.all (dok (cX11_takesFrom)) = true := by decide +kernel
theorem gd237_0 : ((gc237.drop 0).take 40).all (dok (cX11_byRule)) = true := by decide +kernel
theorem gd237_1 : ((gc237.drop 40).take 40).all (dok (cX11_byRule)) = true := by decide +kernel
theorem gd237_2 : ((gc237.drop 80).take 40).all (dok (cX11_byRule)) = true := by decide +kernel
theorem gd237_3 : (gc237.drop 120).all (dok (cX11_byRule)) = true := all_nil (by decide +kernel)
theorem gd237_r2 : (gc237.drop 80).all (dok (cX11_byRule)) = true := all_cut 40 gd237_2 (by rw [List.drop_drop]; exact gd237_3)
theorem gd237_r1 : (gc237.drop 40).all (dok (cX11_byRule)) = true := all_cut 40 gd237_1 (by rw [List.drop_drop]; exact gd237_r2)
theorem gd237_r0 : (gc237.drop 0).all (dok (cX11_byRule)) = true := all_cut 40 gd237_0 (by rw [List.drop_drop]; exact gd237_r1)
theorem gd237 : gc237.all (dok (cX11_byRule)) = true := gd237_r0
theorem gd238 : gc238.all (dok (cX11_numberAt)) = true := by decide +kernel
theorem gd239 : gc239.all (dok (cX11_adds)) = true := by decide +kernel
theorem gd240 : gc240.all (dok (cX11_clash)) = true := by decide +kernel
theorem gd241 : gc241.all (dok (cX11_clash_)) = true := by decide +kernel
theorem gd242_0 : ((gc242.drop 0).take 40).all (dok (cX11_settle)) = true := by decide +kernel
theorem gd242_1 : ((gc242.drop 40).take 40).all (dok (cX11_settle)) = true := by decide +kernel
theorem gd242_2 : ((gc242.drop 80).take 40).all (dok (cX11_settle)) = true := by decide +kernel
theorem gd242_3 : (gc242.drop 120).all (dok (cX11_settle)) = true := all_nil (by decide +kernel)
theorem gd242_r2 : (gc242.drop 80).all (dok (cX11_settle)) = true := all_cut 40 gd242_2 (by rw [List.drop_drop]; exact gd242_3)
theorem gd242_r1 : (gc242.drop 40).all (dok (cX11_settle)) = true := all_cut 40 gd242_1 (by rw [List.drop_drop]; exact gd242_r2)
theorem gd242_r0 : (gc242.drop 0).all (dok (cX11_settle)) = true := all_cut 40 gd242_0 (by rw [List.drop_drop]; exact gd242_r1)
theorem gd242 : gc242.all (dok (cX11_settle)) = true := gd242_r0
theorem gd243 : gc243.all (dok (cX11_unsettled)) = true := by decide +kernel
theorem gd244 : gc244.all (dok (cX11_take)) = true := by decide +kernel
theorem gd245 : gc245.all (dok (cX11_exchanged)) = true := by decide +kernel
theorem gd246 : gc246.all (dok (cX11_think)) = true := by decide +kernel
theorem gd247 : gc247.all (dok (cX11_remember)) = true := by decide +kernel
theorem gd248_0 : ((gc248.drop 0).take 40).all (dok (cX11_unlike)) = true := by decide +kernel
theorem gd248_1 : ((gc248.drop 40).take 40).all (dok (cX11_unlike)) = true := by decide +kernel
theorem gd248_2 : ((gc248.drop 80).take 40).all (dok (cX11_unlike)) = true := by decide +kernel
theorem gd248_3 : (gc248.drop 120).all (dok (cX11_unlike)) = true := all_nil (by decide +kernel)
theorem gd248_r2 : (gc248.drop 80).all (dok (cX11_unlike)) = true := all_cut 40 gd248_2 (by rw [List.drop_drop]; exact gd248_3)
theorem gd248_r1 : (gc248.drop 40).all (dok (cX11_unlike)) = true := all_cut 40 gd248_1 (by rw [List.drop_drop]; exact gd248_r2)
theorem gd248_r0 : (gc248.drop 0).all (dok (cX11_unlike)) = true := all_cut 40 gd248_0 (by rw [List.drop_drop]; exact gd248_r1)
theorem gd248 : gc248.all (dok (cX11_unlike)) = true := gd248_r0
theorem gd249_0 : ((gc249.drop 0).take 40).all (dok (cX11_wake)) = true := by decide +kernel
theorem gd249_1 : ((gc249.drop 40).take 40).all (dok (cX11_wake)) = true := by decide +kernel
theorem gd249_2 : (gc249.drop 80).all (dok (cX11_wake)) = true := all_nil (by decide +kernel)
theorem gd249_r1 : (gc249.drop 40).all (dok (cX11_wake)) = true := all_cut 40 gd249_1 (by rw [List.drop_drop]; exact gd249_2)
theorem gd249_r0 : (gc249.drop 0).all (dok (cX11_wake)) = true := all_cut 40 gd249_0 (by rw [List.drop_drop]; exact gd249_r1)
theorem gd249 : gc249.all (dok (cX11_wake)) = true := gd249_r0
theorem gd250 : gc250.all (dok (cX11_drawn)) = true := by decide +kernel
theorem gd251 : gc251.all (dok (cX11_byLot)) = true := by decide +kernel
theorem gd252 : gc252.all (dok (cX11_draw)) = true := by decide +kernel
theorem gd253 : gc253.all (dok (cX11_chance)) = true := by decide +kernel
theorem gd254 : gc254.all (dok (cX11_common)) = true := by decide +kernel
theorem gd255_0 : ((gc255.drop 0).take 40).all (dok (cX11_tells)) = true := by decide +kernel
theorem gd255_1 : ((gc255.drop 40).take 40).all (dok (cX11_tells)) = true := by decide +kernel
theorem gd255_2 : ((gc255.drop 80).take 40).all (dok (cX11_tells)) = true := by decide +kernel
theorem gd255_3 : (gc255.drop 120).all (dok (cX11_tells)) = true := all_nil (by decide +kernel)
theorem gd255_r2 : (gc255.drop 80).all (dok (cX11_tells)) = true := all_cut 40 gd255_2 (by rw [List.drop_drop]; exact gd255_3)
theorem gd255_r1 : (gc255.drop 40).all (dok (cX11_tells)) = true := all_cut 40 gd255_1 (by rw [List.drop_drop]; exact gd255_r2)
theorem gd255_r0 : (gc255.drop 0).all (dok (cX11_tells)) = true := all_cut 40 gd255_0 (by rw [List.drop_drop]; exact gd255_r1)
theorem gd255 : gc255.all (dok (cX11_tells)) = true := gd255_r0
theorem gd256 : gc256.all (dok (cX11_isSheet)) = true := by decide +kernel
theorem gd257_0 : ((gc257.drop 0).take 40).all (dok (cX11_otherwise)) = true := by decide +kernel
theorem gd257_1 : ((gc257.drop 40).take 40).all (dok (cX11_otherwise)) = true := by decide +kernel
theorem gd257_2 : (gc257.drop 80).all (dok (cX11_otherwise)) = true := all_nil (by decide +kernel)
theorem gd257_r1 : (gc257.drop 40).all (dok (cX11_otherwise)) = true := all_cut 40 gd257_1 (by rw [List.drop_drop]; exact gd257_2)
theorem gd257_r0 : (gc257.drop 0).all (dok (cX11_otherwise)) = true := all_cut 40 gd257_0 (by rw [List.drop_drop]; exact gd257_r1)
theorem gd257 : gc257.all (dok (cX11_otherwise)) = true := gd257_r0
theorem gd258_0 : ((gc258.drop 0).take 40).all (dok (cX11_film)) = true := by decide +kernel
theorem gd258_1 : ((gc258.drop 40).take 40).all (dok (cX11_film)) = true := by decide +kernel
theorem gd258_2 : (gc258.drop 80).all (dok (cX11_film)) = true := all_nil (by decide +kernel)
theorem gd258_r1 : (gc258.drop 40).all (dok (cX11_film)) = true := all_cut 40 gd258_1 (by rw [List.drop_drop]; exact gd258_2)
theorem gd258_r0 : (gc258.drop 0).all (dok (cX11_film)) = true := all_cut 40 gd258_0 (by rw [List.drop_drop]; exact gd258_r1)
theorem gd258 : gc258.all (dok (cX11_film)) = true := gd258_r0
theorem gd259 : gc259.all (dok (cX11_image)) = true := by decide +kernel
theorem gd260 : gc260.all (dok (cX11_back)) = true := by decide +kernel
theorem gd261 : gc261.all (dok (cX11_count)) = true := by decide +kernel
theorem gd262 : gc262.all (dok (cX11_sheet)) = true := by decide +kernel
theorem gd263 : gc263.all (dok (cX11_put_)) = true := by decide +kernel
theorem gd264_0 : ((gc264.drop 0).take 40).all (dok (cX11_copy)) = true := by decide +kernel
theorem gd264_1 : ((gc264.drop 40).take 40).all (dok (cX11_copy)) = true := by decide +kernel
theorem gd264_2 : (gc264.drop 80).all (dok (cX11_copy)) = true := all_nil (by decide +kernel)
theorem gd264_r1 : (gc264.drop 40).all (dok (cX11_copy)) = true := all_cut 40 gd264_1 (by rw [List.drop_drop]; exact gd264_2)
theorem gd264_r0 : (gc264.drop 0).all (dok (cX11_copy)) = true := all_cut 40 gd264_0 (by rw [List.drop_drop]; exact gd264_r1)
theorem gd264 : gc264.all (dok (cX11_copy)) = true := gd264_r0
theorem gd265 : gc265.all (dok (cJ5_init_d00df)) = true := by decide +kernel
theorem gd266 : gc266.all (dok (cJ5_append_3fe6f)) = true := by decide +kernel
theorem gd267 : gc267.all (dok (cJ5_ensureCapacityInternal_d00df)) = true := by decide +kernel
theorem gd268 : gc268.all (dok (cJ5_newCapacity_0f7a4)) = true := by decide +kernel
theorem gd269 : gc269.all (dok (cJ5_isLatin1_aae02)) = true := by decide +kernel
theorem gd270 : gc270.all (dok (cJ5_append_c97b9)) = true := by decide +kernel
theorem gd271 : gc271.all (dok (cJ5_append_cf1ce)) = true := by decide +kernel
theorem gd272 : gc272.all (dok (cJ5_putStringAt_47b60)) = true := by decide +kernel
theorem gd273 : gc273.all (dok (cJ5_inflateIfNeededFor_a7421)) = true := by decide +kernel
theorem gd274 : gc274.all (dok (cJ5_length_8abf5)) = true := by decide +kernel
theorem gd275 : gc275.all (dok (cJ5_charAt_5068e)) = true := by decide +kernel
theorem gd276 : gc276.all (dok (cJ5_getValue_6d5f1)) = true := by decide +kernel
theorem gd277 : gc277.all (dok (cJ6_stringSize_0f7a4)) = true := by decide +kernel
theorem gd278_0 : ((gc278.drop 0).take 40).all (dok (cJ6_getChars_ba4f3)) = true := by decide +kernel
theorem gd278_1 : ((gc278.drop 40).take 40).all (dok (cJ6_getChars_ba4f3)) = true := by decide +kernel
theorem gd278_2 : (gc278.drop 80).all (dok (cJ6_getChars_ba4f3)) = true := all_nil (by decide +kernel)
theorem gd278_r1 : (gc278.drop 40).all (dok (cJ6_getChars_ba4f3)) = true := all_cut 40 gd278_1 (by rw [List.drop_drop]; exact gd278_2)
theorem gd278_r0 : (gc278.drop 0).all (dok (cJ6_getChars_ba4f3)) = true := all_cut 40 gd278_0 (by rw [List.drop_drop]; exact gd278_r1)
theorem gd278 : gc278.all (dok (cJ6_getChars_ba4f3)) = true := gd278_r0
theorem gd279 : gc279.all (dok (cJ9_min_7cf53)) = true := by decide +kernel
theorem gd280 : gc280.all (dok (cJ9_max_7cf53)) = true := by decide +kernel
theorem gd281 : gc281.all (dok (cJ0_length_8abf5)) = true := by decide +kernel
theorem gd282 : gc282.all (dok (cJ0_coder_7d493)) = true := by decide +kernel
theorem gd283 : gc283.all (dok (cJ0_charAt_5068e)) = true := by decide +kernel
theorem gd284 : gc284.all (dok (cJ0_isLatin1_aae02)) = true := by decide +kernel
theorem gd285 : gc285.all (dok (cJ0_checkIndex_df160)) = true := by decide +kernel
theorem gd286 : gc286.all (dok (cJ0_getBytes_840e7)) = true := by decide +kernel
theorem gd287 : gc287.all (dok (cJ0_indexOf_0f7a4)) = true := by decide +kernel
theorem gd288 : gc288.all (dok (cJ0_indexOf_7cf53)) = true := by decide +kernel
theorem gd289 : gc289.all (dok (cJ0_init_81219)) = true := by decide +kernel
theorem gd290 : gc290.all (dok (cJ0_init_db425)) = true := by decide +kernel
theorem gd291 : gc291.all (dok (cJ4_init_da8c8)) = true := by decide +kernel
theorem gd292 : gc292.all (dok (cJ4_append_cf468)) = true := by decide +kernel
theorem gd293 : gc293.all (dok (cJ4_append_bf812)) = true := by decide +kernel
theorem gd294 : gc294.all (dok (cJ4_append_15ec4)) = true := by decide +kernel
theorem gd295 : gc295.all (dok (cJ4_length_8abf5)) = true := by decide +kernel
theorem gd296 : gc296.all (dok (cJ4_charAt_5068e)) = true := by decide +kernel
theorem gd297 : gc297.all (dok (cJ4_toString_0e30d)) = true := by decide +kernel
theorem gd298 : gc298.all (dok (cJ1_charAt_3b067)) = true := by decide +kernel
theorem gd299 : gc299.all (dok (cJ1_canEncode_fc78d)) = true := by decide +kernel
theorem gd300 : gc300.all (dok (cJ1_inflate_0e8fd)) = true := by decide +kernel
theorem gd301 : gc301.all (dok (cJ1_indexOf_4cfef)) = true := by decide +kernel
theorem gd302 : gc302.all (dok (cJ1_canEncode_9a6ad)) = true := by decide +kernel
theorem gd303 : gc303.all (dok (cJ1_indexOfChar_4cfef)) = true := by decide +kernel
theorem gd304 : gc304.all (dok (cJ7_copyOf_59c91)) = true := by decide +kernel
theorem gd305 : gc305.all (dok (cJ7_fill_53178)) = true := by decide +kernel
theorem gd306 : gc306.all (dok (cJ7_copyOf_9075b)) = true := by decide +kernel
theorem gd307 : gc307.all (dok (cJ7_copyOfRange_39247)) = true := by decide +kernel
theorem gd308 : gc308.all (dok (cJ7_copyOfRangeByte_39247)) = true := by decide +kernel
theorem gd309 : gc309.all (dok (cJ7_checkLength_df160)) = true := by decide +kernel
theorem gd310 : gc310.all (dok (cJ8_newLength_cabcc)) = true := by decide +kernel
theorem gd311 : gc311.all (dok (cJ8_hugeLength_7cf53)) = true := by decide +kernel
theorem gd312 : gc312.all (dok (cJ3_checkIndex_8e157)) = true := by decide +kernel
