set_option maxRecDepth 100000 in
theorem zc_108 : zmchk zM_108 = true := by decide +kernel
set_option maxRecDepth 100000 in
theorem zc_109 : zmchk zM_109 = true := by decide +kernel
set_option maxRecDepth 100000 in
theorem zc_110 : zmchk zM_110 = true := by decide +kernel
set_option maxRecDepth 100000 in
theorem zc_111 : zmchk zM_111 = true := by decide +kernel
set_option maxRecDepth 100000 in
theorem zc_112 : zmchk zM_112 = true := by decide +kernel
set_option maxRecDepth 100000 in
theorem zc_113 : zmchk zM_113 = true := by decide +kernel
set_option maxRecDepth 100000 in
theorem zc_114 : zmchk zM_114 = true := by decide +kernel
set_option maxRecDepth 100000 in
theorem zc_115 : zmchk zM_115 = true := by decide +kernel
set_option maxRecDepth 100000 in
theorem zc_116 : zmchk zM_116 = true := by decide +kernel
set_option maxRecDepth 100000 in
theorem zc_117 : zmchk zM_117 = true := by decide +kernel
set_option maxRecDepth 100000 in
theorem zc_118 : zmchk zM_118 = true := by decide +kernel
set_option maxRecDepth 100000 in
theorem zc_119 : zmchk zM_119 = true := by decide +kernel
set_option maxRecDepth 100000 in
theorem zc_120 : zmchk zM_120 = true := by decide +kernel
set_option maxRecDepth 100000 in
theorem zc_121 : zmchk zM_121 = true := by decide +kernel
set_option maxRecDepth 100000 in
theorem zc_122 : zmchk zM_122 = true := by decide +kernel
set_option maxRecDepth 100000 in
theorem zc_123 : zmchk zM_123 = true := by decide +kernel
set_option maxRecDepth 100000 in
theorem zc_124 : zmchk zM_124 = true := by decide +kernel
set_option maxRecDepth 100000 in
theorem zc_125 : zmchk zM_125 = true := by decide +kernel
set_option maxRecDepth 100000 in
theorem zc_126 : zmchk zM_126 = true := by decide +kernel
set_option maxRecDepth 100000 in
theorem zc_127 : zmchk zM_127 = true := by decide +kernel
set_option maxRecDepth 100000 in
theorem zc_128 : zmchk zM_128 = true := by decide +kernel
set_option maxRecDepth 100000 in
theorem zc_129 : zmchk zM_129 = true := by decide +kernel
set_option maxRecDepth 100000 in
theorem zc_130 : zmchk zM_130 = true := by decide +kernel
set_option maxRecDepth 100000 in
theorem zc_131 : zmchk zM_131 = true := by decide +kernel
set_option maxRecDepth 100000 in
theorem zc_132 : zmchk zM_132 = true := by decide +kernel
set_option maxRecDepth 100000 in
theorem zc_133 : zmchk zM_133 = true := by decide +kernel
set_option maxRecDepth 100000 in
theorem zc_134 : zmchk zM_134 = true := by decide +kernel
set_option maxRecDepth 100000 in
theorem zc_135 : zmchk zM_135 = true := by decide +kernel
set_option maxRecDepth 100000 in
theorem zc_136 : zmchk zM_136 = true := by decide +kernel
set_option maxRecDepth 100000 in
theorem zc_137 : zmchk zM_137 = true := by decide +kernel
set_option maxRecDepth 100000 in
theorem zc_138 : zmchk zM_138 = true := by decide +kernel
set_option maxRecDepth 100000 in
theorem zc_139 : zmchk zM_139 = true := by decide +kernel
set_option maxRecDepth 100000 in
theorem zc_140 : zmchk zM_140 = true := by decide +kernel
set_option maxRecDepth 100000 in
theorem zc_141 : zmchk zM_141 = true := by decide +kernel
set_option maxRecDepth 100000 in
theorem zc_142 : zmchk zM_142 = true := by decide +kernel
