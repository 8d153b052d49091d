set_option maxRecDepth 100000 in
theorem zc_36 : zmchk zM_36 = true := by decide +kernel
set_option maxRecDepth 100000 in
theorem zc_37 : zmchk zM_37 = true := by decide +kernel
set_option maxRecDepth 100000 in
theorem zc_38 : zmchk zM_38 = true := by decide +kernel
set_option maxRecDepth 100000 in
theorem zc_39 : zmchk zM_39 = true := by decide +kernel
set_option maxRecDepth 100000 in
theorem zc_40 : zmchk zM_40 = true := by decide +kernel
set_option maxRecDepth 100000 in
theorem zc_41 : zmchk zM_41 = true := by decide +kernel
set_option maxRecDepth 100000 in
theorem zc_42 : zmchk zM_42 = true := by decide +kernel
set_option maxRecDepth 100000 in
theorem zc_43 : zmchk zM_43 = true := by decide +kernel
set_option maxRecDepth 100000 in
theorem zc_44 : zmchk zM_44 = true := by decide +kernel
set_option maxRecDepth 100000 in
theorem zc_45 : zmchk zM_45 = true := by decide +kernel
set_option maxRecDepth 100000 in
theorem zc_46 : zmchk zM_46 = true := by decide +kernel
set_option maxRecDepth 100000 in
theorem zc_47 : zmchk zM_47 = true := by decide +kernel
set_option maxRecDepth 100000 in
theorem zc_48 : zmchk zM_48 = true := by decide +kernel
set_option maxRecDepth 100000 in
theorem zc_49 : zmchk zM_49 = true := by decide +kernel
set_option maxRecDepth 100000 in
theorem zc_50 : zmchk zM_50 = true := by decide +kernel
set_option maxRecDepth 100000 in
theorem zc_51 : zmchk zM_51 = true := by decide +kernel
set_option maxRecDepth 100000 in
theorem zc_52 : zmchk zM_52 = true := by decide +kernel
set_option maxRecDepth 100000 in
theorem zc_53 : zmchk zM_53 = true := by decide +kernel
set_option maxRecDepth 100000 in
theorem zc_54 : zmchk zM_54 = true := by decide +kernel
set_option maxRecDepth 100000 in
theorem zc_55 : zmchk zM_55 = true := by decide +kernel
set_option maxRecDepth 100000 in
theorem zc_56 : zmchk zM_56 = true := by decide +kernel
set_option maxRecDepth 100000 in
theorem zc_57 : zmchk zM_57 = true := by decide +kernel
set_option maxRecDepth 100000 in
theorem zc_58 : zmchk zM_58 = true := by decide +kernel
set_option maxRecDepth 100000 in
theorem zc_59 : zmchk zM_59 = true := by decide +kernel
set_option maxRecDepth 100000 in
theorem zc_60 : zmchk zM_60 = true := by decide +kernel
set_option maxRecDepth 100000 in
theorem zc_61 : zmchk zM_61 = true := by decide +kernel
set_option maxRecDepth 100000 in
theorem zc_62 : zmchk zM_62 = true := by decide +kernel
set_option maxRecDepth 100000 in
theorem zc_63 : zmchk zM_63 = true := by decide +kernel
set_option maxRecDepth 100000 in
theorem zc_64 : zmchk zM_64 = true := by decide +kernel
set_option maxRecDepth 100000 in
theorem zc_65 : zmchk zM_65 = true := by decide +kernel
set_option maxRecDepth 100000 in
theorem zc_66 : zmchk zM_66 = true := by decide +kernel
set_option maxRecDepth 100000 in
theorem zc_67 : zmchk zM_67 = true := by decide +kernel
set_option maxRecDepth 100000 in
theorem zc_68 : zmchk zM_68 = true := by decide +kernel
set_option maxRecDepth 100000 in
theorem zc_69 : zmchk zM_69 = true := by decide +kernel
set_option maxRecDepth 100000 in
theorem zc_70 : zmchk zM_70 = true := by decide +kernel
set_option maxRecDepth 100000 in
theorem zc_71 : zmchk zM_71 = true := by decide +kernel
