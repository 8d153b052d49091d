set_option maxRecDepth 100000 in
theorem zlaw_12n : zlaw (some 12, [(-2147483648, 2147483647), (-2147483648, -1), (-2147483648, 2147483647)], 3, [none, none, none]) = true := by decide +kernel
set_option maxRecDepth 100000 in
theorem zlaw_12p : zlaw (some 12, [(-2147483648, 2147483647), (0, 2147483647), (-2147483648, 2147483647)], 3, [none, none, none]) = true := by decide +kernel
set_option maxRecDepth 100000 in
theorem zlaw_13 : zlaw (some 13, [(-2147483648, 2147483647), (-2147483648, 2147483647), (-2147483648, 2147483647)], 3, [none, none, none]) = true := by decide +kernel
set_option maxRecDepth 100000 in
theorem zlaw_14 : zlaw (some 14, [(-2147483648, 2147483647), (-2147483648, 2147483647), (-2147483648, 2147483647)], 3, [none, none, none]) = true := by decide +kernel
