set_option maxRecDepth 100000 in
theorem zlaw_8 : zlaw (some 8, [(-2147483648, 2147483647), (-2147483648, 2147483647), (-2147483648, 2147483647)], 3, [none, none, none]) = true := by decide +kernel
set_option maxRecDepth 100000 in
theorem zlaw_9 : zlaw (some 9, [(-2147483648, 2147483647), (-2147483648, 2147483647), (-2147483648, 2147483647)], 3, [none, none, none]) = true := by decide +kernel
set_option maxRecDepth 100000 in
theorem zlaw_10 : zlaw (some 10, [(-2147483648, 2147483647), (-2147483648, 2147483647), (-2147483648, 2147483647)], 3, [none, none, none]) = true := by decide +kernel
set_option maxRecDepth 100000 in
theorem zlaw_11 : zlaw (some 11, [(-2147483648, 2147483647), (-2147483648, 2147483647), (-2147483648, 2147483647)], 3, [none, none, none]) = true := by decide +kernel
