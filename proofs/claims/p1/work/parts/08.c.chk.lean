set_option maxRecDepth 100000 in
theorem zc_72 : zmchk zM_72 = true := by decide +kernel
set_option maxRecDepth 100000 in
theorem zc_73 : zmchk zM_73 = true := by decide +kernel
set_option maxRecDepth 100000 in
theorem zc_74 : zmchk zM_74 = true := by decide +kernel
set_option maxRecDepth 100000 in
theorem zc_75 : zmchk zM_75 = true := by decide +kernel
set_option maxRecDepth 100000 in
theorem zc_76 : zmchk zM_76 = true := by decide +kernel
set_option maxRecDepth 100000 in
theorem zc_77 : zmchk zM_77 = true := by decide +kernel
set_option maxRecDepth 100000 in
theorem zc_78 : zmchk zM_78 = true := by decide +kernel
set_option maxRecDepth 100000 in
theorem zc_79 : zmchk zM_79 = true := by decide +kernel
set_option maxRecDepth 100000 in
theorem zc_80 : zmchk zM_80 = true := by decide +kernel
set_option maxRecDepth 100000 in
theorem zc_81 : zmchk zM_81 = true := by decide +kernel
set_option maxRecDepth 100000 in
theorem zc_82 : zmchk zM_82 = true := by decide +kernel
set_option maxRecDepth 100000 in
theorem zc_83 : zmchk zM_83 = true := by decide +kernel
set_option maxRecDepth 100000 in
theorem zc_84 : zmchk zM_84 = true := by decide +kernel
set_option maxRecDepth 100000 in
theorem zc_85 : zmchk zM_85 = true := by decide +kernel
set_option maxRecDepth 100000 in
theorem zc_86 : zmchk zM_86 = true := by decide +kernel
set_option maxRecDepth 100000 in
theorem zc_87 : zmchk zM_87 = true := by decide +kernel
set_option maxRecDepth 100000 in
theorem zc_88 : zmchk zM_88 = true := by decide +kernel
set_option maxRecDepth 100000 in
theorem zc_89 : zmchk zM_89 = true := by decide +kernel
set_option maxRecDepth 100000 in
theorem zc_90 : zmchk zM_90 = true := by decide +kernel
set_option maxRecDepth 100000 in
theorem zc_91 : zmchk zM_91 = true := by decide +kernel
set_option maxRecDepth 100000 in
theorem zc_92 : zmchk zM_92 = true := by decide +kernel
set_option maxRecDepth 100000 in
theorem zc_93 : zmchk zM_93 = true := by decide +kernel
set_option maxRecDepth 100000 in
theorem zc_94 : zmchk zM_94 = true := by decide +kernel
set_option maxRecDepth 100000 in
theorem zc_95 : zmchk zM_95 = true := by decide +kernel
set_option maxRecDepth 100000 in
theorem zc_96 : zmchk zM_96 = true := by decide +kernel
set_option maxRecDepth 100000 in
theorem zc_97 : zmchk zM_97 = true := by decide +kernel
set_option maxRecDepth 100000 in
theorem zc_98 : zmchk zM_98 = true := by decide +kernel
set_option maxRecDepth 100000 in
theorem zc_99 : zmchk zM_99 = true := by decide +kernel
set_option maxRecDepth 100000 in
theorem zc_100 : zmchk zM_100 = true := by decide +kernel
set_option maxRecDepth 100000 in
theorem zc_101 : zmchk zM_101 = true := by decide +kernel
set_option maxRecDepth 100000 in
theorem zc_102 : zmchk zM_102 = true := by decide +kernel
set_option maxRecDepth 100000 in
theorem zc_103 : zmchk zM_103 = true := by decide +kernel
set_option maxRecDepth 100000 in
theorem zc_104 : zmchk zM_104 = true := by decide +kernel
set_option maxRecDepth 100000 in
theorem zc_105 : zmchk zM_105 = true := by decide +kernel
set_option maxRecDepth 100000 in
theorem zc_106 : zmchk zM_106 = true := by decide +kernel
set_option maxRecDepth 100000 in
theorem zc_107 : zmchk zM_107 = true := by decide +kernel
