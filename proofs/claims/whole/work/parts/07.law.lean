theorem zm_kl_0 : zc_Law_law_0.all (zm_okI 252) = true := by decide +kernel
theorem zm_kl_1 : zc_Law_law_1.all (zm_okI 252) = true := by decide +kernel
theorem zm_kl_2 : zc_Law_law_2.all (zm_okI 252) = true := by decide +kernel
theorem zm_kl_3 : zc_Law_law_3.all (zm_okI 252) = true := by decide +kernel
theorem zm_kl_4 : zc_Law_law_4.all (zm_okI 252) = true := by decide +kernel
theorem zm_kl_5 : zc_Law_law_5.all (zm_okI 252) = true := by decide +kernel
theorem zm_kl_6 : zc_Law_law_6.all (zm_okI 252) = true := by decide +kernel
theorem zm_kl_7 : zc_Law_law_7.all (zm_okI 252) = true := by decide +kernel
theorem zm_kl_8 : zc_Law_law_8.all (zm_okI 252) = true := by decide +kernel
theorem zm_kl_9 : zc_Law_law_9.all (zm_okI 252) = true := by decide +kernel
theorem zm_kl_10 : zc_Law_law_10.all (zm_okI 252) = true := by decide +kernel
theorem zm_kl_11 : zc_Law_law_11.all (zm_okI 252) = true := by decide +kernel
theorem zm_kl_12 : zc_Law_law_12.all (zm_okI 252) = true := by decide +kernel
theorem zm_kl_13 : zc_Law_law_13.all (zm_okI 252) = true := by decide +kernel
theorem zm_kl_14 : zc_Law_law_14.all (zm_okI 252) = true := by decide +kernel
theorem zm_kl_15 : zc_Law_law_15.all (zm_okI 252) = true := by decide +kernel
theorem zm_kl_16 : zc_Law_law_16.all (zm_okI 252) = true := by decide +kernel
theorem zm_kl_17 : zc_Law_law_17.all (zm_okI 252) = true := by decide +kernel
theorem zm_kl_18 : zc_Law_law_18.all (zm_okI 252) = true := by decide +kernel
theorem zm_kl_19 : zc_Law_law_19.all (zm_okI 252) = true := by decide +kernel
theorem zm_kl_20 : zc_Law_law_20.all (zm_okI 252) = true := by decide +kernel
theorem zm_kl_21 : zc_Law_law_21.all (zm_okI 252) = true := by decide +kernel
theorem zm_kl_22 : zc_Law_law_22.all (zm_okI 252) = true := by decide +kernel
theorem zm_kl_23 : zc_Law_law_23.all (zm_okI 252) = true := by decide +kernel
theorem zm_kl_24 : zc_Law_law_24.all (zm_okI 252) = true := by decide +kernel
theorem zm_kl_25 : zc_Law_law_25.all (zm_okI 252) = true := by decide +kernel
theorem zm_kl_26 : zc_Law_law_26.all (zm_okI 252) = true := by decide +kernel
theorem zm_kl_27 : zc_Law_law_27.all (zm_okI 252) = true := by decide +kernel
theorem zm_kl_28 : zc_Law_law_28.all (zm_okI 252) = true := by decide +kernel
theorem zm_kl_29 : zc_Law_law_29.all (zm_okI 252) = true := by decide +kernel
theorem zm_kl_30 : zc_Law_law_30.all (zm_okI 252) = true := by decide +kernel
theorem zm_kl_31 : zc_Law_law_31.all (zm_okI 252) = true := by decide +kernel
theorem zm_kl_32 : zc_Law_law_32.all (zm_okI 252) = true := by decide +kernel
theorem zm_kl_33 : zc_Law_law_33.all (zm_okI 252) = true := by decide +kernel
theorem zm_kl_34 : zc_Law_law_34.all (zm_okI 252) = true := by decide +kernel
theorem zm_kl_35 : zc_Law_law_35.all (zm_okI 252) = true := by decide +kernel
theorem zm_kl_36 : zc_Law_law_36.all (zm_okI 252) = true := by decide +kernel
set_option maxRecDepth 20000 in
theorem zm_ka_law : zm_okC y_Law_law = true := by
  show (zc_Law_law_0.all (zm_okI 252) && (zc_Law_law_1.all (zm_okI 252) && (zc_Law_law_2.all (zm_okI 252) && (zc_Law_law_3.all (zm_okI 252) && (zc_Law_law_4.all (zm_okI 252) && (zc_Law_law_5.all (zm_okI 252) && (zc_Law_law_6.all (zm_okI 252) && (zc_Law_law_7.all (zm_okI 252) && (zc_Law_law_8.all (zm_okI 252) && (zc_Law_law_9.all (zm_okI 252) && (zc_Law_law_10.all (zm_okI 252) && (zc_Law_law_11.all (zm_okI 252) && (zc_Law_law_12.all (zm_okI 252) && (zc_Law_law_13.all (zm_okI 252) && (zc_Law_law_14.all (zm_okI 252) && (zc_Law_law_15.all (zm_okI 252) && (zc_Law_law_16.all (zm_okI 252) && (zc_Law_law_17.all (zm_okI 252) && (zc_Law_law_18.all (zm_okI 252) && (zc_Law_law_19.all (zm_okI 252) && (zc_Law_law_20.all (zm_okI 252) && (zc_Law_law_21.all (zm_okI 252) && (zc_Law_law_22.all (zm_okI 252) && (zc_Law_law_23.all (zm_okI 252) && (zc_Law_law_24.all (zm_okI 252) && (zc_Law_law_25.all (zm_okI 252) && (zc_Law_law_26.all (zm_okI 252) && (zc_Law_law_27.all (zm_okI 252) && (zc_Law_law_28.all (zm_okI 252) && (zc_Law_law_29.all (zm_okI 252) && (zc_Law_law_30.all (zm_okI 252) && (zc_Law_law_31.all (zm_okI 252) && (zc_Law_law_32.all (zm_okI 252) && (zc_Law_law_33.all (zm_okI 252) && (zc_Law_law_34.all (zm_okI 252) && (zc_Law_law_35.all (zm_okI 252) && (zc_Law_law_36.all (zm_okI 252) && true))))))))))))))))))))))))))))))))))))) = true
  simp only [zm_kl_0, zm_kl_1, zm_kl_2, zm_kl_3, zm_kl_4, zm_kl_5, zm_kl_6, zm_kl_7, zm_kl_8, zm_kl_9, zm_kl_10, zm_kl_11, zm_kl_12, zm_kl_13, zm_kl_14, zm_kl_15, zm_kl_16, zm_kl_17, zm_kl_18, zm_kl_19, zm_kl_20, zm_kl_21, zm_kl_22, zm_kl_23, zm_kl_24, zm_kl_25, zm_kl_26, zm_kl_27, zm_kl_28, zm_kl_29, zm_kl_30, zm_kl_31, zm_kl_32, zm_kl_33, zm_kl_34, zm_kl_35, zm_kl_36, Bool.true_and]
