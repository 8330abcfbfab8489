-- the methods' tables hold
set_option maxRecDepth 100000 in
theorem ax_bk_0 : ([0, 1, 2, 3, 4] : List Nat).all ax_mchk = true := by decide +kernel
set_option maxRecDepth 100000 in
theorem ax_bk_1 : ([5, 6, 7, 8, 9, 10, 11] : List Nat).all ax_mchk = true := by decide +kernel
set_option maxRecDepth 100000 in
theorem ax_bk_2 : ([12, 13, 14, 15] : List Nat).all ax_mchk = true := by decide +kernel
set_option maxRecDepth 100000 in
theorem ax_bk_3 : ([16, 17, 18, 19, 20, 21, 22] : List Nat).all ax_mchk = true := by decide +kernel
set_option maxRecDepth 100000 in
theorem ax_bk_4 : ([23, 24, 25, 26, 27, 28, 29, 30] : List Nat).all ax_mchk = true := by decide +kernel
set_option maxRecDepth 100000 in
theorem ax_bk_5 : ([31, 32, 33, 34] : List Nat).all ax_mchk = true := by decide +kernel
set_option maxRecDepth 100000 in
theorem ax_bk_6 : ([35, 36, 37] : List Nat).all ax_mchk = true := by decide +kernel
set_option maxRecDepth 100000 in
theorem ax_bk_7 : ([38, 39, 40, 41, 42] : List Nat).all ax_mchk = true := by decide +kernel
set_option maxRecDepth 100000 in
theorem ax_bk_8 : ([43, 44, 45] : List Nat).all ax_mchk = true := by decide +kernel
set_option maxRecDepth 100000 in
theorem ax_bk_9 : ([46, 47, 48, 49, 50, 51] : List Nat).all ax_mchk = true := by decide +kernel
set_option maxRecDepth 100000 in
theorem ax_bk_10 : ([52, 53, 54, 55, 56] : List Nat).all ax_mchk = true := by decide +kernel
set_option maxRecDepth 100000 in
theorem ax_bk_11 : ([57, 58] : List Nat).all ax_mchk = true := by decide +kernel
