-- the methods' tables hold
set_option maxRecDepth 100000 in
theorem ax_bk_12 : ([59, 60, 61, 62] : List Nat).all ax_mchk = true := by decide +kernel
set_option maxRecDepth 100000 in
theorem ax_bk_13 : ([63, 64, 65] : List Nat).all ax_mchk = true := by decide +kernel
set_option maxRecDepth 100000 in
theorem ax_bk_14 : ([66, 67] : List Nat).all ax_mchk = true := by decide +kernel
set_option maxRecDepth 100000 in
theorem ax_bk_15 : ([68, 69] : List Nat).all ax_mchk = true := by decide +kernel
set_option maxRecDepth 100000 in
theorem ax_bk_16 : ([70, 71, 72, 73] : List Nat).all ax_mchk = true := by decide +kernel
set_option maxRecDepth 100000 in
theorem ax_bk_17 : ([74, 75, 76, 77, 78, 79] : List Nat).all ax_mchk = true := by decide +kernel
set_option maxRecDepth 100000 in
theorem ax_bk_18 : ([80, 81, 82] : List Nat).all ax_mchk = true := by decide +kernel
set_option maxRecDepth 100000 in
theorem ax_bk_19 : ([83, 84, 85, 86, 87, 88, 89] : List Nat).all ax_mchk = true := by decide +kernel
set_option maxRecDepth 100000 in
theorem ax_bk_20 : ([90, 91, 92, 93, 94, 95] : List Nat).all ax_mchk = true := by decide +kernel
set_option maxRecDepth 100000 in
theorem ax_bk_21 : ([96, 97, 98, 99] : List Nat).all ax_mchk = true := by decide +kernel
set_option maxRecDepth 100000 in
theorem ax_bk_22 : ([100, 101, 102, 103, 104, 105] : List Nat).all ax_mchk = true := by decide +kernel
set_option maxRecDepth 100000 in
theorem ax_bk_23 : ([106, 107, 108, 109, 110] : List Nat).all ax_mchk = true := by decide +kernel
