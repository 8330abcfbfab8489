-- the law's own table holds, piece by piece
set_option maxRecDepth 100000 in
theorem ax_lw_0 : ax_cchk "MatrixDeskLaw" false code 0 ((k_La_law.drop 0).take 150) = true := by decide +kernel
set_option maxRecDepth 100000 in
theorem ax_lw_150 : ax_cchk "MatrixDeskLaw" false code 150 ((k_La_law.drop 150).take 150) = true := by decide +kernel
set_option maxRecDepth 100000 in
theorem ax_lw_300 : ax_cchk "MatrixDeskLaw" false code 300 ((k_La_law.drop 300).take 150) = true := by decide +kernel
set_option maxRecDepth 100000 in
theorem ax_lw_450 : ax_cchk "MatrixDeskLaw" false code 450 ((k_La_law.drop 450).take 150) = true := by decide +kernel
set_option maxRecDepth 100000 in
theorem ax_lw_600 : ax_cchk "MatrixDeskLaw" false code 600 ((k_La_law.drop 600).take 150) = true := by decide +kernel
set_option maxRecDepth 100000 in
theorem ax_lw_750 : ax_cchk "MatrixDeskLaw" false code 750 ((k_La_law.drop 750).take 150) = true := by decide +kernel
set_option maxRecDepth 100000 in
theorem ax_lw_900 : ax_cchk "MatrixDeskLaw" false code 900 ((k_La_law.drop 900).take 150) = true := by decide +kernel
set_option maxRecDepth 100000 in
theorem ax_lw_1050 : ax_cchk "MatrixDeskLaw" false code 1050 ((k_La_law.drop 1050).take 150) = true := by decide +kernel
set_option maxRecDepth 100000 in
theorem ax_lw_1200 : ax_cchk "MatrixDeskLaw" false code 1200 ((k_La_law.drop 1200).take 150) = true := by decide +kernel
set_option maxRecDepth 100000 in
theorem ax_lw_1350 : ax_cchk "MatrixDeskLaw" false code 1350 (k_La_law.drop 1350) = true := by decide +kernel
