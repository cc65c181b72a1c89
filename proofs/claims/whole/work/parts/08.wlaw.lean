/-! CHECKS by the kernel: the law's instructions are its bytes' own -/
theorem gd10_0 : ((gc10.drop 0).take 40).all (dok (cL_law)) = true := by decide +kernel
theorem gd10_1 : ((gc10.drop 40).take 40).all (dok (cL_law)) = true := by decide +kernel
theorem gd10_2 : ((gc10.drop 80).take 40).all (dok (cL_law)) = true := by decide +kernel
theorem gd10_3 : ((gc10.drop 120).take 40).all (dok (cL_law)) = true := by decide +kernel
theorem gd10_4 : ((gc10.drop 160).take 40).all (dok (cL_law)) = true := by decide +kernel
theorem gd10_5 : ((gc10.drop 200).take 40).all (dok (cL_law)) = true := by decide +kernel
theorem gd10_6 : ((gc10.drop 240).take 40).all (dok (cL_law)) = true := by decide +kernel
theorem gd10_7 : ((gc10.drop 280).take 40).all (dok (cL_law)) = true := by decide +kernel
theorem gd10_8 : ((gc10.drop 320).take 40).all (dok (cL_law)) = true := by decide +kernel
theorem gd10_9 : ((gc10.drop 360).take 40).all (dok (cL_law)) = true := by decide +kernel
theorem gd10_10 : ((gc10.drop 400).take 40).all (dok (cL_law)) = true := by decide +kernel
theorem gd10_11 : ((gc10.drop 440).take 40).all (dok (cL_law)) = true := by decide +kernel
theorem gd10_12 : ((gc10.drop 480).take 40).all (dok (cL_law)) = true := by decide +kernel
theorem gd10_13 : ((gc10.drop 520).take 40).all (dok (cL_law)) = true := by decide +kernel
theorem gd10_14 : ((gc10.drop 560).take 40).all (dok (cL_law)) = true := by decide +kernel
theorem gd10_15 : ((gc10.drop 600).take 40).all (dok (cL_law)) = true := by decide +kernel
theorem gd10_16 : ((gc10.drop 640).take 40).all (dok (cL_law)) = true := by decide +kernel
theorem gd10_17 : ((gc10.drop 680).take 40).all (dok (cL_law)) = true := by decide +kernel
theorem gd10_18 : ((gc10.drop 720).take 40).all (dok (cL_law)) = true := by decide +kernel
theorem gd10_19 : ((gc10.drop 760).take 40).all (dok (cL_law)) = true := by decide +kernel
theorem gd10_20 : ((gc10.drop 800).take 40).all (dok (cL_law)) = true := by decide +kernel
theorem gd10_21 : ((gc10.drop 840).take 40).all (dok (cL_law)) = true := by decide +kernel
theorem gd10_22 : ((gc10.drop 880).take 40).all (dok (cL_law)) = true := by decide +kernel
theorem gd10_23 : ((gc10.drop 920).take 40).all (dok (cL_law)) = true := by decide +kernel
theorem gd10_24 : (gc10.drop 960).all (dok (cL_law)) = true := all_nil (by decide +kernel)
theorem gd10_r23 : (gc10.drop 920).all (dok (cL_law)) = true := all_cut 40 gd10_23 (by rw [List.drop_drop]; exact gd10_24)
theorem gd10_r22 : (gc10.drop 880).all (dok (cL_law)) = true := all_cut 40 gd10_22 (by rw [List.drop_drop]; exact gd10_r23)
theorem gd10_r21 : (gc10.drop 840).all (dok (cL_law)) = true := all_cut 40 gd10_21 (by rw [List.drop_drop]; exact gd10_r22)
theorem gd10_r20 : (gc10.drop 800).all (dok (cL_law)) = true := all_cut 40 gd10_20 (by rw [List.drop_drop]; exact gd10_r21)
theorem gd10_r19 : (gc10.drop 760).all (dok (cL_law)) = true := all_cut 40 gd10_19 (by rw [List.drop_drop]; exact gd10_r20)
theorem gd10_r18 : (gc10.drop 720).all (dok (cL_law)) = true := all_cut 40 gd10_18 (by rw [List.drop_drop]; exact gd10_r19)
theorem gd10_r17 : (gc10.drop 680).all (dok (cL_law)) = true := all_cut 40 gd10_17 (by rw [List.drop_drop]; exact gd10_r18)
theorem gd10_r16 : (gc10.drop 640).all (dok (cL_law)) = true := all_cut 40 gd10_16 (by rw [List.drop_drop]; exact gd10_r17)
theorem gd10_r15 : (gc10.drop 600).all (dok (cL_law)) = true := all_cut 40 gd10_15 (by rw [List.drop_drop]; exact gd10_r16)
theorem gd10_r14 : (gc10.drop 560).all (dok (cL_law)) = true := all_cut 40 gd10_14 (by rw [List.drop_drop]; exact gd10_r15)
theorem gd10_r13 : (gc10.drop 520).all (dok (cL_law)) = true := all_cut 40 gd10_13 (by rw [List.drop_drop]; exact gd10_r14)
theorem gd10_r12 : (gc10.drop 480).all (dok (cL_law)) = true := all_cut 40 gd10_12 (by rw [List.drop_drop]; exact gd10_r13)
theorem gd10_r11 : (gc10.drop 440).all (dok (cL_law)) = true := all_cut 40 gd10_11 (by rw [List.drop_drop]; exact gd10_r12)
theorem gd10_r10 : (gc10.drop 400).all (dok (cL_law)) = true := all_cut 40 gd10_10 (by rw [List.drop_drop]; exact gd10_r11)
theorem gd10_r9 : (gc10.drop 360).all (dok (cL_law)) = true := all_cut 40 gd10_9 (by rw [List.drop_drop]; exact gd10_r10)
theorem gd10_r8 : (gc10.drop 320).all (dok (cL_law)) = true := all_cut 40 gd10_8 (by rw [List.drop_drop]; exact gd10_r9)
theorem gd10_r7 : (gc10.drop 280).all (dok (cL_law)) = true := all_cut 40 gd10_7 (by rw [List.drop_drop]; exact gd10_r8)
theorem gd10_r6 : (gc10.drop 240).all (dok (cL_law)) = true := all_cut 40 gd10_6 (by rw [List.drop_drop]; exact gd10_r7)
theorem gd10_r5 : (gc10.drop 200).all (dok (cL_law)) = true := all_cut 40 gd10_5 (by rw [List.drop_drop]; exact gd10_r6)
theorem gd10_r4 : (gc10.drop 160).all (dok (cL_law)) = true := all_cut 40 gd10_4 (by rw [List.drop_drop]; exact gd10_r5)
theorem gd10_r3 : (gc10.drop 120).all (dok (cL_law)) = true := all_cut 40 gd10_3 (by rw [List.drop_drop]; exact gd10_r4)
theorem gd10_r2 : (gc10.drop 80).all (dok (cL_law)) = true := all_cut 40 gd10_2 (by rw [List.drop_drop]; exact gd10_r3)
theorem gd10_r1 : (gc10.drop 40).all (dok (cL_law)) = true := all_cut 40 gd10_1 (by rw [List.drop_drop]; exact gd10_r2)
theorem gd10_r0 : (gc10.drop 0).all (dok (cL_law)) = true := all_cut 40 gd10_0 (by rw [List.drop_drop]; exact gd10_r1)
theorem gd10 : gc10.all (dok (cL_law)) = true := gd10_r0
