set_option maxRecDepth 100000 in
theorem zlaw_3 : zlaw (some 3, [(-2147483648, 2147483647), (-2147483648, 2147483647), (-2147483648, 2147483647)], 3, [none, none, none]) = true := by decide +kernel
set_option maxRecDepth 100000 in
theorem zlaw_4 : zlaw (some 4, [(-2147483648, 2147483647), (-2147483648, 2147483647), (-2147483648, 2147483647)], 3, [none, none, none]) = true := by decide +kernel
set_option maxRecDepth 100000 in
theorem zlaw_5n : zlaw (some 5, [(-2147483648, 2147483647), (-2147483648, -1), (-2147483648, 2147483647)], 3, [none, none, none]) = true := by decide +kernel
set_option maxRecDepth 100000 in
theorem zlaw_5p : zlaw (some 5, [(-2147483648, 2147483647), (0, 2147483647), (-2147483648, 2147483647)], 3, [none, none, none]) = true := by decide +kernel
set_option maxRecDepth 100000 in
theorem zlaw_6 : zlaw (some 6, [(-2147483648, 2147483647), (-2147483648, 2147483647), (-2147483648, 2147483647)], 3, [none, none, none]) = true := by decide +kernel
set_option maxRecDepth 100000 in
theorem zlaw_7 : zlaw (some 7, [(-2147483648, 2147483647), (-2147483648, 2147483647), (-2147483648, 2147483647)], 3, [none, none, none]) = true := by decide +kernel
