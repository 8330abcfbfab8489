-- the methods' tables hold
set_option maxRecDepth 100000 in
theorem ax_bk_36 : ([157, 158, 159] : List Nat).all ax_mchk = true := by decide +kernel
set_option maxRecDepth 100000 in
theorem ax_bk_37 : ([160, 161, 162] : List Nat).all ax_mchk = true := by decide +kernel
set_option maxRecDepth 100000 in
theorem ax_bk_38 : ([163, 164] : List Nat).all ax_mchk = true := by decide +kernel
set_option maxRecDepth 100000 in
theorem ax_bk_39 : ([165, 166] : List Nat).all ax_mchk = true := by decide +kernel
set_option maxRecDepth 100000 in
theorem ax_bk_40 : ([167] : List Nat).all ax_mchk = true := by decide +kernel
set_option maxRecDepth 100000 in
theorem ax_bk_41 : ([168, 169] : List Nat).all ax_mchk = true := by decide +kernel
set_option maxRecDepth 100000 in
theorem ax_bk_42 : ([170, 171] : List Nat).all ax_mchk = true := by decide +kernel
set_option maxRecDepth 100000 in
theorem ax_bk_43 : ([172, 173, 174, 175] : List Nat).all ax_mchk = true := by decide +kernel
set_option maxRecDepth 100000 in
theorem ax_bk_44 : ([176, 177, 178] : List Nat).all ax_mchk = true := by decide +kernel
set_option maxRecDepth 100000 in
theorem ax_bk_45 : ([179] : List Nat).all ax_mchk = true := by decide +kernel
set_option maxRecDepth 100000 in
theorem ax_bk_46 : ([180, 181, 182] : List Nat).all ax_mchk = true := by decide +kernel
set_option maxRecDepth 100000 in
theorem ax_bk_47 : ([183, 184] : List Nat).all ax_mchk = true := by decide +kernel
