def zcf0 (L : Nat) : zF := (0, [], L, [])
set_option maxRecDepth 100000 in
theorem zlaw_L0 : zlaw (zcf0 0) = true := by decide +kernel
set_option maxRecDepth 100000 in
theorem zlaw_L1 : zlaw (zcf0 1) = true := by decide +kernel
set_option maxRecDepth 100000 in
theorem zlaw_L2 : zlaw (zcf0 2) = true := by decide +kernel
set_option maxRecDepth 100000 in
theorem zlaw_0 : zlaw (0, [(-2147483648, 2147483647), (-2147483648, 2147483647), (-2147483648, 2147483647)], 3, [none, none, none]) = true := by decide +kernel
set_option maxRecDepth 100000 in
theorem zlaw_1 : zlaw (1, [(-2147483648, 2147483647), (-2147483648, -1), (-2147483648, 2147483647)], 3, [none, none, none]) = true := by decide +kernel
set_option maxRecDepth 100000 in
theorem zlaw_2 : zlaw (1, [(-2147483648, 2147483647), (1, 2147483647), (-2147483648, 2147483647)], 3, [none, none, none]) = true := by decide +kernel
set_option maxRecDepth 100000 in
theorem zlaw_3 : zlaw (1, [(-2147483648, 2147483647), (0, 0), (-2147483648, 2147483647)], 3, [none, (some 0), none]) = true := by decide +kernel
set_option maxRecDepth 100000 in
theorem zlaw_4 : zlaw (2, [(-2147483648, 2147483647), (-2147483648, -1), (-2147483648, 2147483647)], 3, [none, none, none]) = true := by decide +kernel
set_option maxRecDepth 100000 in
theorem zlaw_5 : zlaw (2, [(-2147483648, 2147483647), (0, 2147483647), (-2147483648, 2147483647)], 3, [none, none, none]) = true := by decide +kernel
set_option maxRecDepth 100000 in
theorem zlaw_6 : zlaw (3, [(-2147483648, 2147483647), (-2147483648, 2147483647), (-2147483648, 2147483647)], 3, [none, none, none]) = true := by decide +kernel
set_option maxRecDepth 100000 in
theorem zlaw_7 : zlaw (4, [(-2147483648, 2147483647), (-2147483648, 2147483647), (-2147483648, 2147483647)], 3, [none, none, none]) = true := by decide +kernel
set_option maxRecDepth 100000 in
theorem zlaw_8 : zlaw (5, [(-2147483648, 2147483647), (-2147483648, -1), (-2147483648, 2147483647)], 3, [none, none, none]) = true := by decide +kernel
set_option maxRecDepth 100000 in
theorem zlaw_9 : zlaw (5, [(-2147483648, 2147483647), (0, 2147483647), (-2147483648, 2147483647)], 3, [none, none, none]) = true := by decide +kernel
set_option maxRecDepth 100000 in
theorem zlaw_10 : zlaw (6, [(-2147483648, 2147483647), (-2147483648, 2147483647), (-2147483648, 2147483647)], 3, [none, none, none]) = true := by decide +kernel
set_option maxRecDepth 100000 in
theorem zlaw_11 : zlaw (7, [(-2147483648, 2147483647), (-2147483648, 2147483647), (-2147483648, 2147483647)], 3, [none, none, none]) = true := by decide +kernel
set_option maxRecDepth 100000 in
theorem zlaw_12 : zlaw (8, [(-2147483648, 2147483647), (-2147483648, 2147483647), (-2147483648, 2147483647)], 3, [none, none, none]) = true := by decide +kernel
set_option maxRecDepth 100000 in
theorem zlaw_13 : zlaw (9, [(-2147483648, 2147483647), (-2147483648, 2147483647), (-2147483648, 2147483647)], 3, [none, none, none]) = true := by decide +kernel
set_option maxRecDepth 100000 in
theorem zlaw_14 : zlaw (10, [(-2147483648, 2147483647), (-2147483648, 2147483647), (-2147483648, 2147483647)], 3, [none, none, none]) = true := by decide +kernel
set_option maxRecDepth 100000 in
theorem zlaw_15 : zlaw (11, [(-2147483648, 2147483647), (-2147483648, 2147483647), (-2147483648, 2147483647)], 3, [none, none, none]) = true := by decide +kernel
set_option maxRecDepth 100000 in
theorem zlaw_16 : zlaw (12, [(-2147483648, 2147483647), (-2147483648, -1), (-2147483648, 2147483647)], 3, [none, none, none]) = true := by decide +kernel
set_option maxRecDepth 100000 in
theorem zlaw_17 : zlaw (12, [(-2147483648, 2147483647), (0, 2147483647), (-2147483648, 2147483647)], 3, [none, none, none]) = true := by decide +kernel
set_option maxRecDepth 100000 in
theorem zlaw_18 : zlaw (13, [(-2147483648, 2147483647), (-2147483648, 2147483647), (-2147483648, 2147483647)], 3, [none, none, none]) = true := by decide +kernel
set_option maxRecDepth 100000 in
theorem zlaw_19 : zlaw (14, [(-2147483648, 2147483647), (-2147483648, 2147483647), (-2147483648, 2147483647)], 3, [none, none, none]) = true := by decide +kernel
set_option maxRecDepth 100000 in
theorem zlaw_20 : zlaw (15, [(-2147483648, 2147483647), (-2147483648, 2147483647), (-2147483648, 2147483647)], 3, [none, none, none]) = true := by decide +kernel
set_option maxRecDepth 100000 in
theorem zlaw_21 : zlaw (16, [(-2147483648, 2147483647), (-2147483648, 2147483647), (-2147483648, -1)], 3, [none, none, none]) = true := by decide +kernel
set_option maxRecDepth 100000 in
theorem zlaw_22 : zlaw (16, [(-2147483648, 2147483647), (-2147483648, 2147483647), (26, 2147483647)], 3, [none, none, none]) = true := by decide +kernel
set_option maxRecDepth 100000 in
theorem zlaw_23 : zlaw (16, [(-2147483648, 2147483647), (-2147483648, 2147483647), (0, 25)], 3, [none, none, none]) = true := by decide +kernel
set_option maxRecDepth 100000 in
theorem zlaw_24 : zlaw (17, [(-2147483648, 2147483647), (-2147483648, -1), (-2147483648, 2147483647)], 3, [none, none, none]) = true := by decide +kernel
set_option maxRecDepth 100000 in
theorem zlaw_25 : zlaw (17, [(-2147483648, 2147483647), (1, 2147483647), (-2147483648, 2147483647)], 3, [none, none, none]) = true := by decide +kernel
set_option maxRecDepth 100000 in
theorem zlaw_26 : zlaw (17, [(-2147483648, 2147483647), (0, 0), (-2147483648, -1)], 3, [none, (some 0), none]) = true := by decide +kernel
set_option maxRecDepth 100000 in
theorem zlaw_27 : zlaw (17, [(-2147483648, 2147483647), (0, 0), (4, 2147483647)], 3, [none, (some 0), none]) = true := by decide +kernel
set_option maxRecDepth 100000 in
theorem zlaw_28 : zlaw (17, [(-2147483648, 2147483647), (0, 0), (0, 0)], 3, [none, (some 0), (some 0)]) = true := by decide +kernel
set_option maxRecDepth 100000 in
theorem zlaw_29 : zlaw (17, [(-2147483648, 2147483647), (0, 0), (1, 1)], 3, [none, (some 0), (some 1)]) = true := by decide +kernel
set_option maxRecDepth 100000 in
theorem zlaw_30 : zlaw (17, [(-2147483648, 2147483647), (0, 0), (2, 2)], 3, [none, (some 0), (some 2)]) = true := by decide +kernel
set_option maxRecDepth 100000 in
theorem zlaw_31 : zlaw (17, [(-2147483648, 2147483647), (0, 0), (3, 3)], 3, [none, (some 0), (some 3)]) = true := by decide +kernel
set_option maxRecDepth 100000 in
theorem zlaw_32 : zlaw (18, [(-2147483648, 2147483647), (-2147483648, 2147483647), (-2147483648, 2147483647)], 3, [none, none, none]) = true := by decide +kernel
set_option maxRecDepth 100000 in
theorem zlaw_33 : zlaw (19, [(-2147483648, 2147483647), (-2147483648, 2147483647), (-2147483648, 2147483647)], 3, [none, none, none]) = true := by decide +kernel
set_option maxRecDepth 100000 in
theorem zlaw_34 : zlaw (20, [(-2147483648, 2147483647), (-2147483648, 2147483647), (-2147483648, 2147483647)], 3, [none, none, none]) = true := by decide +kernel
set_option maxRecDepth 100000 in
theorem zlaw_35 : zlaw (21, [(-2147483648, 2147483647), (-2147483648, 2147483647), (-2147483648, 2147483647)], 3, [none, none, none]) = true := by decide +kernel
set_option maxRecDepth 100000 in
theorem zlaw_36 : zlaw (22, [(-2147483648, 2147483647), (-2147483648, 2147483647), (-2147483648, 2147483647)], 3, [none, none, none]) = true := by decide +kernel
set_option maxRecDepth 100000 in
theorem zlaw_37 : zlaw (23, [(-2147483648, 2147483647), (-2147483648, 2147483647), (-2147483648, 2147483647)], 3, [none, none, none]) = true := by decide +kernel
set_option maxRecDepth 100000 in
theorem zlaw_38 : zlaw (24, [(-2147483648, 2147483647), (-2147483648, 2147483647), (-2147483648, 2147483647)], 3, [none, none, none]) = true := by decide +kernel
set_option maxRecDepth 100000 in
theorem zlaw_39 : zlaw (25, [(-2147483648, 2147483647), (-2147483648, 2147483647), (-2147483648, 2147483647)], 3, [none, none, none]) = true := by decide +kernel
set_option maxRecDepth 100000 in
theorem zlaw_40 : zlaw (26, [(-2147483648, 2147483647), (-2147483648, 2147483647), (-2147483648, 2147483647)], 3, [none, none, none]) = true := by decide +kernel
set_option maxRecDepth 100000 in
theorem zlaw_41 : zlaw (27, [(-2147483648, 2147483647), (-2147483648, 2147483647), (-2147483648, 2147483647)], 3, [none, none, none]) = true := by decide +kernel
set_option maxRecDepth 100000 in
theorem zlaw_42 : zlaw (28, [(-2147483648, 2147483647), (-2147483648, 2147483647), (-2147483648, 2147483647)], 3, [none, none, none]) = true := by decide +kernel
set_option maxRecDepth 100000 in
theorem zlaw_43 : zlaw (29, [(-2147483648, 2147483647), (-2147483648, 2147483647), (-2147483648, 2147483647)], 3, [none, none, none]) = true := by decide +kernel
set_option maxRecDepth 100000 in
theorem zlaw_44 : zlaw (30, [(-2147483648, 2147483647), (-2147483648, 2147483647), (-2147483648, 2147483647)], 3, [none, none, none]) = true := by decide +kernel
set_option maxRecDepth 100000 in
theorem zlaw_45 : zlaw (31, [(-2147483648, 2147483647), (-2147483648, 2147483647), (-2147483648, 2147483647)], 3, [none, none, none]) = true := by decide +kernel
