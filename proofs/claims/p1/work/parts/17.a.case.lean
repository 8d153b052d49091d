set_option maxRecDepth 100000 in
theorem zlaw_L0 : zlaw (none, [], 0, []) = true := by decide +kernel
set_option maxRecDepth 100000 in
theorem zlaw_L1 : zlaw (none, [], 1, []) = true := by decide +kernel
set_option maxRecDepth 100000 in
theorem zlaw_L2 : zlaw (none, [], 2, []) = true := by decide +kernel
set_option maxRecDepth 100000 in
theorem zlaw_0 : zlaw (some 0, [(-2147483648, 2147483647), (-2147483648, 2147483647), (-2147483648, 2147483647)], 3, [none, none, none]) = true := by decide +kernel
set_option maxRecDepth 100000 in
theorem zlaw_1n : zlaw (some 1, [(-2147483648, 2147483647), (-2147483648, -1), (-2147483648, 2147483647)], 3, [none, none, none]) = true := by decide +kernel
set_option maxRecDepth 100000 in
theorem zlaw_1z : zlaw (some 1, [(-2147483648, 2147483647), (0, 0), (-2147483648, 2147483647)], 3, [none, some 0, none]) = true := by decide +kernel
set_option maxRecDepth 100000 in
theorem zlaw_1p : zlaw (some 1, [(-2147483648, 2147483647), (1, 2147483647), (-2147483648, 2147483647)], 3, [none, none, none]) = true := by decide +kernel
set_option maxRecDepth 100000 in
theorem zlaw_2n : zlaw (some 2, [(-2147483648, 2147483647), (-2147483648, -1), (-2147483648, 2147483647)], 3, [none, none, none]) = true := by decide +kernel
set_option maxRecDepth 100000 in
theorem zlaw_2p : zlaw (some 2, [(-2147483648, 2147483647), (0, 2147483647), (-2147483648, 2147483647)], 3, [none, none, none]) = true := by decide +kernel
