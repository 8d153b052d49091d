set_option maxRecDepth 100000 in
theorem zlaw_17z0 : zlaw (some 17, [(-2147483648, 2147483647), (0, 0), (0, 0)], 3, [none, some 0, some 0]) = true := by decide +kernel
set_option maxRecDepth 100000 in
theorem zlaw_17z1 : zlaw (some 17, [(-2147483648, 2147483647), (0, 0), (1, 1)], 3, [none, some 0, some 1]) = true := by decide +kernel
set_option maxRecDepth 100000 in
theorem zlaw_17z2 : zlaw (some 17, [(-2147483648, 2147483647), (0, 0), (2, 2)], 3, [none, some 0, some 2]) = true := by decide +kernel
set_option maxRecDepth 100000 in
theorem zlaw_17z3 : zlaw (some 17, [(-2147483648, 2147483647), (0, 0), (3, 3)], 3, [none, some 0, some 3]) = true := by decide +kernel
set_option maxRecDepth 100000 in
theorem zlaw_17zp : zlaw (some 17, [(-2147483648, 2147483647), (0, 0), (4, 2147483647)], 3, [none, some 0, none]) = true := by decide +kernel
set_option maxRecDepth 100000 in
theorem zlaw_d : zlaw (none, [(-2147483648, 2147483647), (-2147483648, 2147483647), (-2147483648, 2147483647), (-2147483648, 2147483647), (-2147483648, 2147483647), (-2147483648, 2147483647), (18, 31)], 3, [none, none, none]) = true := by decide +kernel
