-- the law's own table holds; and so all do
theorem ax_cchk_app (own : String) (b : Bool) (bytes : ByteArray) (l1 l2 : List (Option ax_E)) : ∀ q, ax_cchk own b bytes q (l1 ++ l2) = (ax_cchk own b bytes q l1 && ax_cchk own b bytes (q + l1.length) l2) := by
  induction l1 with
  | nil => intro q; rfl
  | cons x r ih =>
    intro q
    cases x with
    | none =>
      show ax_cchk own b bytes (q + 1) (r ++ l2) = (ax_cchk own b bytes (q + 1) r && _)
      rw [ih, List.length_cons, show q + 1 + r.length = q + (r.length + 1) from by omega]
    | some e =>
      show (decide (decode bytes q = .ok (e.1, e.2.1)) && ax_echk own b q e && ax_cchk own b bytes (q + 1) (r ++ l2)) = ((decide (decode bytes q = .ok (e.1, e.2.1)) && ax_echk own b q e && ax_cchk own b bytes (q + 1) r) && _)
      rw [ih, List.length_cons, show q + 1 + r.length = q + (r.length + 1) from by omega]
      simp only [Bool.and_assoc]
theorem ax_lw_len : k_La_law.length = 1420 := by decide +kernel
theorem ax_lc_1200 : ax_cchk "MatrixDeskLaw" false code 1200 (k_La_law.drop 1200) = true := by
  have e : k_La_law.drop 1200 = (k_La_law.drop 1200).take 150 ++ k_La_law.drop 1350 := by
    rw [show k_La_law.drop 1350 = (k_La_law.drop 1200).drop 150 from by rw [List.drop_drop], List.take_append_drop]
  have hl : ((k_La_law.drop 1200).take 150).length = 150 := by rw [List.length_take, List.length_drop, ax_lw_len]; rfl
  rw [e, ax_cchk_app, ax_lw_1200, hl, Bool.true_and, show (1200 + 150 : Nat) = 1350 from rfl]
  exact ax_lw_1350
theorem ax_lc_1050 : ax_cchk "MatrixDeskLaw" false code 1050 (k_La_law.drop 1050) = true := by
  have e : k_La_law.drop 1050 = (k_La_law.drop 1050).take 150 ++ k_La_law.drop 1200 := by
    rw [show k_La_law.drop 1200 = (k_La_law.drop 1050).drop 150 from by rw [List.drop_drop], List.take_append_drop]
  have hl : ((k_La_law.drop 1050).take 150).length = 150 := by rw [List.length_take, List.length_drop, ax_lw_len]; rfl
  rw [e, ax_cchk_app, ax_lw_1050, hl, Bool.true_and, show (1050 + 150 : Nat) = 1200 from rfl]
  exact ax_lc_1200
theorem ax_lc_900 : ax_cchk "MatrixDeskLaw" false code 900 (k_La_law.drop 900) = true := by
  have e : k_La_law.drop 900 = (k_La_law.drop 900).take 150 ++ k_La_law.drop 1050 := by
    rw [show k_La_law.drop 1050 = (k_La_law.drop 900).drop 150 from by rw [List.drop_drop], List.take_append_drop]
  have hl : ((k_La_law.drop 900).take 150).length = 150 := by rw [List.length_take, List.length_drop, ax_lw_len]; rfl
  rw [e, ax_cchk_app, ax_lw_900, hl, Bool.true_and, show (900 + 150 : Nat) = 1050 from rfl]
  exact ax_lc_1050
theorem ax_lc_750 : ax_cchk "MatrixDeskLaw" false code 750 (k_La_law.drop 750) = true := by
  have e : k_La_law.drop 750 = (k_La_law.drop 750).take 150 ++ k_La_law.drop 900 := by
    rw [show k_La_law.drop 900 = (k_La_law.drop 750).drop 150 from by rw [List.drop_drop], List.take_append_drop]
  have hl : ((k_La_law.drop 750).take 150).length = 150 := by rw [List.length_take, List.length_drop, ax_lw_len]; rfl
  rw [e, ax_cchk_app, ax_lw_750, hl, Bool.true_and, show (750 + 150 : Nat) = 900 from rfl]
  exact ax_lc_900
theorem ax_lc_600 : ax_cchk "MatrixDeskLaw" false code 600 (k_La_law.drop 600) = true := by
  have e : k_La_law.drop 600 = (k_La_law.drop 600).take 150 ++ k_La_law.drop 750 := by
    rw [show k_La_law.drop 750 = (k_La_law.drop 600).drop 150 from by rw [List.drop_drop], List.take_append_drop]
  have hl : ((k_La_law.drop 600).take 150).length = 150 := by rw [List.length_take, List.length_drop, ax_lw_len]; rfl
  rw [e, ax_cchk_app, ax_lw_600, hl, Bool.true_and, show (600 + 150 : Nat) = 750 from rfl]
  exact ax_lc_750
theorem ax_lc_450 : ax_cchk "MatrixDeskLaw" false code 450 (k_La_law.drop 450) = true := by
  have e : k_La_law.drop 450 = (k_La_law.drop 450).take 150 ++ k_La_law.drop 600 := by
    rw [show k_La_law.drop 600 = (k_La_law.drop 450).drop 150 from by rw [List.drop_drop], List.take_append_drop]
  have hl : ((k_La_law.drop 450).take 150).length = 150 := by rw [List.length_take, List.length_drop, ax_lw_len]; rfl
  rw [e, ax_cchk_app, ax_lw_450, hl, Bool.true_and, show (450 + 150 : Nat) = 600 from rfl]
  exact ax_lc_600
theorem ax_lc_300 : ax_cchk "MatrixDeskLaw" false code 300 (k_La_law.drop 300) = true := by
  have e : k_La_law.drop 300 = (k_La_law.drop 300).take 150 ++ k_La_law.drop 450 := by
    rw [show k_La_law.drop 450 = (k_La_law.drop 300).drop 150 from by rw [List.drop_drop], List.take_append_drop]
  have hl : ((k_La_law.drop 300).take 150).length = 150 := by rw [List.length_take, List.length_drop, ax_lw_len]; rfl
  rw [e, ax_cchk_app, ax_lw_300, hl, Bool.true_and, show (300 + 150 : Nat) = 450 from rfl]
  exact ax_lc_450
theorem ax_lc_150 : ax_cchk "MatrixDeskLaw" false code 150 (k_La_law.drop 150) = true := by
  have e : k_La_law.drop 150 = (k_La_law.drop 150).take 150 ++ k_La_law.drop 300 := by
    rw [show k_La_law.drop 300 = (k_La_law.drop 150).drop 150 from by rw [List.drop_drop], List.take_append_drop]
  have hl : ((k_La_law.drop 150).take 150).length = 150 := by rw [List.length_take, List.length_drop, ax_lw_len]; rfl
  rw [e, ax_cchk_app, ax_lw_150, hl, Bool.true_and, show (150 + 150 : Nat) = 300 from rfl]
  exact ax_lc_300
theorem ax_lc_0 : ax_cchk "MatrixDeskLaw" false code 0 (k_La_law.drop 0) = true := by
  have e : k_La_law.drop 0 = (k_La_law.drop 0).take 150 ++ k_La_law.drop 150 := by
    rw [show k_La_law.drop 150 = (k_La_law.drop 0).drop 150 from by rw [List.drop_drop], List.take_append_drop]
  have hl : ((k_La_law.drop 0).take 150).length = 150 := by rw [List.length_take, List.length_drop, ax_lw_len]; rfl
  rw [e, ax_cchk_app, ax_lw_0, hl, Bool.true_and, show (0 + 150 : Nat) = 150 from rfl]
  exact ax_lc_150
set_option maxRecDepth 100000 in
theorem ax_law1 : ax_rk 2 (some .boolean) = true ∧ plainFor ⟨"MatrixDeskLaw", "law", "([I)Z"⟩ = true := by decide +kernel
theorem ax_law : ax_mchk 185 = true := by
  have e1 : ax_prog[185]? = some (k_La_law, 8, 2, []) := rfl
  have e2 : ax_who[185]? = some (⟨"MatrixDeskLaw", "law", "([I)Z"⟩, code, some .boolean, 0) := rfl
  unfold ax_mchk
  rw [e1, e2]
  simp only [ax_law1.1, ax_law1.2, Bool.and_true, Bool.true_and, List.isEmpty_nil, Bool.true_or, List.all_nil, decide_true]
  exact ax_lc_0
theorem ax_mall : ∀ z, z < 186 → ax_mchk z = true := by
  intro z hz
  by_cases h : z = 185
  · rw [h]; exact ax_law
  have hm : z < 185 := by omega
  by_cases h0 : z < 5
  · exact List.all_eq_true.mp ax_bk_0 z (by simp only [List.mem_cons, List.not_mem_nil, or_false]; omega)
  by_cases h1 : z < 12
  · exact List.all_eq_true.mp ax_bk_1 z (by simp only [List.mem_cons, List.not_mem_nil, or_false]; omega)
  by_cases h2 : z < 16
  · exact List.all_eq_true.mp ax_bk_2 z (by simp only [List.mem_cons, List.not_mem_nil, or_false]; omega)
  by_cases h3 : z < 23
  · exact List.all_eq_true.mp ax_bk_3 z (by simp only [List.mem_cons, List.not_mem_nil, or_false]; omega)
  by_cases h4 : z < 31
  · exact List.all_eq_true.mp ax_bk_4 z (by simp only [List.mem_cons, List.not_mem_nil, or_false]; omega)
  by_cases h5 : z < 35
  · exact List.all_eq_true.mp ax_bk_5 z (by simp only [List.mem_cons, List.not_mem_nil, or_false]; omega)
  by_cases h6 : z < 38
  · exact List.all_eq_true.mp ax_bk_6 z (by simp only [List.mem_cons, List.not_mem_nil, or_false]; omega)
  by_cases h7 : z < 43
  · exact List.all_eq_true.mp ax_bk_7 z (by simp only [List.mem_cons, List.not_mem_nil, or_false]; omega)
  by_cases h8 : z < 46
  · exact List.all_eq_true.mp ax_bk_8 z (by simp only [List.mem_cons, List.not_mem_nil, or_false]; omega)
  by_cases h9 : z < 52
  · exact List.all_eq_true.mp ax_bk_9 z (by simp only [List.mem_cons, List.not_mem_nil, or_false]; omega)
  by_cases h10 : z < 57
  · exact List.all_eq_true.mp ax_bk_10 z (by simp only [List.mem_cons, List.not_mem_nil, or_false]; omega)
  by_cases h11 : z < 59
  · exact List.all_eq_true.mp ax_bk_11 z (by simp only [List.mem_cons, List.not_mem_nil, or_false]; omega)
  by_cases h12 : z < 63
  · exact List.all_eq_true.mp ax_bk_12 z (by simp only [List.mem_cons, List.not_mem_nil, or_false]; omega)
  by_cases h13 : z < 66
  · exact List.all_eq_true.mp ax_bk_13 z (by simp only [List.mem_cons, List.not_mem_nil, or_false]; omega)
  by_cases h14 : z < 68
  · exact List.all_eq_true.mp ax_bk_14 z (by simp only [List.mem_cons, List.not_mem_nil, or_false]; omega)
  by_cases h15 : z < 70
  · exact List.all_eq_true.mp ax_bk_15 z (by simp only [List.mem_cons, List.not_mem_nil, or_false]; omega)
  by_cases h16 : z < 74
  · exact List.all_eq_true.mp ax_bk_16 z (by simp only [List.mem_cons, List.not_mem_nil, or_false]; omega)
  by_cases h17 : z < 80
  · exact List.all_eq_true.mp ax_bk_17 z (by simp only [List.mem_cons, List.not_mem_nil, or_false]; omega)
  by_cases h18 : z < 83
  · exact List.all_eq_true.mp ax_bk_18 z (by simp only [List.mem_cons, List.not_mem_nil, or_false]; omega)
  by_cases h19 : z < 90
  · exact List.all_eq_true.mp ax_bk_19 z (by simp only [List.mem_cons, List.not_mem_nil, or_false]; omega)
  by_cases h20 : z < 96
  · exact List.all_eq_true.mp ax_bk_20 z (by simp only [List.mem_cons, List.not_mem_nil, or_false]; omega)
  by_cases h21 : z < 100
  · exact List.all_eq_true.mp ax_bk_21 z (by simp only [List.mem_cons, List.not_mem_nil, or_false]; omega)
  by_cases h22 : z < 106
  · exact List.all_eq_true.mp ax_bk_22 z (by simp only [List.mem_cons, List.not_mem_nil, or_false]; omega)
  by_cases h23 : z < 111
  · exact List.all_eq_true.mp ax_bk_23 z (by simp only [List.mem_cons, List.not_mem_nil, or_false]; omega)
  by_cases h24 : z < 114
  · exact List.all_eq_true.mp ax_bk_24 z (by simp only [List.mem_cons, List.not_mem_nil, or_false]; omega)
  by_cases h25 : z < 118
  · exact List.all_eq_true.mp ax_bk_25 z (by simp only [List.mem_cons, List.not_mem_nil, or_false]; omega)
  by_cases h26 : z < 124
  · exact List.all_eq_true.mp ax_bk_26 z (by simp only [List.mem_cons, List.not_mem_nil, or_false]; omega)
  by_cases h27 : z < 128
  · exact List.all_eq_true.mp ax_bk_27 z (by simp only [List.mem_cons, List.not_mem_nil, or_false]; omega)
  by_cases h28 : z < 133
  · exact List.all_eq_true.mp ax_bk_28 z (by simp only [List.mem_cons, List.not_mem_nil, or_false]; omega)
  by_cases h29 : z < 136
  · exact List.all_eq_true.mp ax_bk_29 z (by simp only [List.mem_cons, List.not_mem_nil, or_false]; omega)
  by_cases h30 : z < 139
  · exact List.all_eq_true.mp ax_bk_30 z (by simp only [List.mem_cons, List.not_mem_nil, or_false]; omega)
  by_cases h31 : z < 142
  · exact List.all_eq_true.mp ax_bk_31 z (by simp only [List.mem_cons, List.not_mem_nil, or_false]; omega)
  by_cases h32 : z < 146
  · exact List.all_eq_true.mp ax_bk_32 z (by simp only [List.mem_cons, List.not_mem_nil, or_false]; omega)
  by_cases h33 : z < 151
  · exact List.all_eq_true.mp ax_bk_33 z (by simp only [List.mem_cons, List.not_mem_nil, or_false]; omega)
  by_cases h34 : z < 155
  · exact List.all_eq_true.mp ax_bk_34 z (by simp only [List.mem_cons, List.not_mem_nil, or_false]; omega)
  by_cases h35 : z < 157
  · exact List.all_eq_true.mp ax_bk_35 z (by simp only [List.mem_cons, List.not_mem_nil, or_false]; omega)
  by_cases h36 : z < 160
  · exact List.all_eq_true.mp ax_bk_36 z (by simp only [List.mem_cons, List.not_mem_nil, or_false]; omega)
  by_cases h37 : z < 163
  · exact List.all_eq_true.mp ax_bk_37 z (by simp only [List.mem_cons, List.not_mem_nil, or_false]; omega)
  by_cases h38 : z < 165
  · exact List.all_eq_true.mp ax_bk_38 z (by simp only [List.mem_cons, List.not_mem_nil, or_false]; omega)
  by_cases h39 : z < 167
  · exact List.all_eq_true.mp ax_bk_39 z (by simp only [List.mem_cons, List.not_mem_nil, or_false]; omega)
  by_cases h40 : z < 168
  · exact List.all_eq_true.mp ax_bk_40 z (by simp only [List.mem_cons, List.not_mem_nil, or_false]; omega)
  by_cases h41 : z < 170
  · exact List.all_eq_true.mp ax_bk_41 z (by simp only [List.mem_cons, List.not_mem_nil, or_false]; omega)
  by_cases h42 : z < 172
  · exact List.all_eq_true.mp ax_bk_42 z (by simp only [List.mem_cons, List.not_mem_nil, or_false]; omega)
  by_cases h43 : z < 176
  · exact List.all_eq_true.mp ax_bk_43 z (by simp only [List.mem_cons, List.not_mem_nil, or_false]; omega)
  by_cases h44 : z < 179
  · exact List.all_eq_true.mp ax_bk_44 z (by simp only [List.mem_cons, List.not_mem_nil, or_false]; omega)
  by_cases h45 : z < 180
  · exact List.all_eq_true.mp ax_bk_45 z (by simp only [List.mem_cons, List.not_mem_nil, or_false]; omega)
  by_cases h46 : z < 183
  · exact List.all_eq_true.mp ax_bk_46 z (by simp only [List.mem_cons, List.not_mem_nil, or_false]; omega)
  by_cases h47 : z < 185
  · exact List.all_eq_true.mp ax_bk_47 z (by simp only [List.mem_cons, List.not_mem_nil, or_false]; omega)
  omega
