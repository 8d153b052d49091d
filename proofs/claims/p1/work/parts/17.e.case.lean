set_option maxRecDepth 100000 in
theorem zlaw_15 : zlaw (some 15, [(-2147483648, 2147483647), (-2147483648, 2147483647), (-2147483648, 2147483647)], 3, [none, none, none]) = true := by decide +kernel
set_option maxRecDepth 100000 in
theorem zlaw_16n : zlaw (some 16, [(-2147483648, 2147483647), (-2147483648, 2147483647), (-2147483648, -1)], 3, [none, none, none]) = true := by decide +kernel
set_option maxRecDepth 100000 in
theorem zlaw_16z : zlaw (some 16, [(-2147483648, 2147483647), (-2147483648, 2147483647), (0, 25)], 3, [none, none, none]) = true := by decide +kernel
set_option maxRecDepth 100000 in
theorem zlaw_16p : zlaw (some 16, [(-2147483648, 2147483647), (-2147483648, 2147483647), (26, 2147483647)], 3, [none, none, none]) = true := by decide +kernel
set_option maxRecDepth 100000 in
theorem zlaw_17n : zlaw (some 17, [(-2147483648, 2147483647), (-2147483648, -1), (-2147483648, 2147483647)], 3, [none, none, none]) = true := by decide +kernel
set_option maxRecDepth 100000 in
theorem zlaw_17p : zlaw (some 17, [(-2147483648, 2147483647), (1, 2147483647), (-2147483648, 2147483647)], 3, [none, none, none]) = true := by decide +kernel
set_option maxRecDepth 100000 in
theorem zlaw_17zn : zlaw (some 17, [(-2147483648, 2147483647), (0, 0), (-2147483648, -1)], 3, [none, some 0, none]) = true := by decide +kernel
