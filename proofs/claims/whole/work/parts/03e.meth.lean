-- the methods' tables hold
set_option maxRecDepth 100000 in
theorem ax_bk_24 : ([111, 112, 113] : List Nat).all ax_mchk = true := by decide +kernel
set_option maxRecDepth 100000 in
theorem ax_bk_25 : ([114, 115, 116, 117] : List Nat).all ax_mchk = true := by decide +kernel
set_option maxRecDepth 100000 in
theorem ax_bk_26 : ([118, 119, 120, 121, 122, 123] : List Nat).all ax_mchk = true := by decide +kernel
set_option maxRecDepth 100000 in
theorem ax_bk_27 : ([124, 125, 126, 127] : List Nat).all ax_mchk = true := by decide +kernel
set_option maxRecDepth 100000 in
theorem ax_bk_28 : ([128, 129, 130, 131, 132] : List Nat).all ax_mchk = true := by decide +kernel
set_option maxRecDepth 100000 in
theorem ax_bk_29 : ([133, 134, 135] : List Nat).all ax_mchk = true := by decide +kernel
set_option maxRecDepth 100000 in
theorem ax_bk_30 : ([136, 137, 138] : List Nat).all ax_mchk = true := by decide +kernel
set_option maxRecDepth 100000 in
theorem ax_bk_31 : ([139, 140, 141] : List Nat).all ax_mchk = true := by decide +kernel
set_option maxRecDepth 100000 in
theorem ax_bk_32 : ([142, 143, 144, 145] : List Nat).all ax_mchk = true := by decide +kernel
set_option maxRecDepth 100000 in
theorem ax_bk_33 : ([146, 147, 148, 149, 150] : List Nat).all ax_mchk = true := by decide +kernel
set_option maxRecDepth 100000 in
theorem ax_bk_34 : ([151, 152, 153, 154] : List Nat).all ax_mchk = true := by decide +kernel
set_option maxRecDepth 100000 in
theorem ax_bk_35 : ([155, 156] : List Nat).all ax_mchk = true := by decide +kernel
