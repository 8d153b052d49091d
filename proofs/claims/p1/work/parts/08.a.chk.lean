set_option maxRecDepth 100000 in
theorem zc_0 : zmchk zM_0 = true := by decide +kernel
set_option maxRecDepth 100000 in
theorem zc_1 : zmchk zM_1 = true := by decide +kernel
set_option maxRecDepth 100000 in
theorem zc_2 : zmchk zM_2 = true := by decide +kernel
set_option maxRecDepth 100000 in
theorem zc_3 : zmchk zM_3 = true := by decide +kernel
set_option maxRecDepth 100000 in
theorem zc_4 : zmchk zM_4 = true := by decide +kernel
set_option maxRecDepth 100000 in
theorem zc_5 : zmchk zM_5 = true := by decide +kernel
set_option maxRecDepth 100000 in
theorem zc_6 : zmchk zM_6 = true := by decide +kernel
set_option maxRecDepth 100000 in
theorem zc_7 : zmchk zM_7 = true := by decide +kernel
set_option maxRecDepth 100000 in
theorem zc_8 : zmchk zM_8 = true := by decide +kernel
set_option maxRecDepth 100000 in
theorem zc_9 : zmchk zM_9 = true := by decide +kernel
set_option maxRecDepth 100000 in
theorem zc_10 : zmchk zM_10 = true := by decide +kernel
set_option maxRecDepth 100000 in
theorem zc_11 : zmchk zM_11 = true := by decide +kernel
set_option maxRecDepth 100000 in
theorem zc_12 : zmchk zM_12 = true := by decide +kernel
set_option maxRecDepth 100000 in
theorem zc_13 : zmchk zM_13 = true := by decide +kernel
set_option maxRecDepth 100000 in
theorem zc_14 : zmchk zM_14 = true := by decide +kernel
set_option maxRecDepth 100000 in
theorem zc_15 : zmchk zM_15 = true := by decide +kernel
set_option maxRecDepth 100000 in
theorem zc_16 : zmchk zM_16 = true := by decide +kernel
set_option maxRecDepth 100000 in
theorem zc_17 : zmchk zM_17 = true := by decide +kernel
set_option maxRecDepth 100000 in
theorem zc_18 : zmchk zM_18 = true := by decide +kernel
set_option maxRecDepth 100000 in
theorem zc_19 : zmchk zM_19 = true := by decide +kernel
set_option maxRecDepth 100000 in
theorem zc_20 : zmchk zM_20 = true := by decide +kernel
set_option maxRecDepth 100000 in
theorem zc_21 : zmchk zM_21 = true := by decide +kernel
set_option maxRecDepth 100000 in
theorem zc_22 : zmchk zM_22 = true := by decide +kernel
set_option maxRecDepth 100000 in
theorem zc_23 : zmchk zM_23 = true := by decide +kernel
set_option maxRecDepth 100000 in
theorem zc_24 : zmchk zM_24 = true := by decide +kernel
set_option maxRecDepth 100000 in
theorem zc_25 : zmchk zM_25 = true := by decide +kernel
set_option maxRecDepth 100000 in
theorem zc_26 : zmchk zM_26 = true := by decide +kernel
set_option maxRecDepth 100000 in
theorem zc_27 : zmchk zM_27 = true := by decide +kernel
set_option maxRecDepth 100000 in
theorem zc_28 : zmchk zM_28 = true := by decide +kernel
set_option maxRecDepth 100000 in
theorem zc_29 : zmchk zM_29 = true := by decide +kernel
set_option maxRecDepth 100000 in
theorem zc_30 : zmchk zM_30 = true := by decide +kernel
set_option maxRecDepth 100000 in
theorem zc_31 : zmchk zM_31 = true := by decide +kernel
set_option maxRecDepth 100000 in
theorem zc_32 : zmchk zM_32 = true := by decide +kernel
set_option maxRecDepth 100000 in
theorem zc_33 : zmchk zM_33 = true := by decide +kernel
set_option maxRecDepth 100000 in
theorem zc_34 : zmchk zM_34 = true := by decide +kernel
set_option maxRecDepth 100000 in
theorem zc_35 : zmchk zM_35 = true := by decide +kernel
