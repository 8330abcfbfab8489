/-! THE REFERENCE'S LEAVES -/
section MOL
variable {xs : List Int32} {fr lo : Nat} {w0 w : ax_W} {s : mo_S}
theorem c_thrown (hw : RW w0 w s) : fin xs fr lo 118 0 (ax_ent [.ref 425] 1) [] w (Same (.int (jI (s 0 0))) w) := by
  refine fi_step (pc' := 1) m_Mo_thrown rfl rfl ?_
  refine r_get (p := 4) m_Mo_thrown rfl rfl (by assumption) rfl ?_
  exact s_reti m_Mo_thrown rfl rfl (by omega)
theorem c_isMatrix {m : Int} (m0 : -2147483648 ≤ m) (m1 : m < 2147483648) : fin xs fr lo 120 0 (ax_ent [.ref 425, .int (jI m)] 2) [] w (Same (.int (jI (if 0 ≤ m ∧ m < 6 then 1 else 0))) w) := by
  refine fi_step (pc' := 1) m_Mo_isMatrix rfl rfl ?_
  refine s_if_lt (p := 4) m_Mo_isMatrix rfl rfl (by omega) (by omega) (fun h => ?_) (fun h => ?_)
  · rw [if_neg (by omega)]
    refine fi_step (pc' := 15) m_Mo_isMatrix rfl rfl ?_
    exact s_retb m_Mo_isMatrix rfl rfl (by omega) (by first | exact Or.inl rfl | exact Or.inr rfl | omega)
  · refine fi_step (pc' := 5) m_Mo_isMatrix rfl rfl ?_
    refine s_bipush (p := 7) m_Mo_isMatrix rfl rfl rfl ?_
    refine s_ic_ge (p := 10) m_Mo_isMatrix rfl rfl (by omega) (by omega) (by omega) (by omega) (fun g => ?_) (fun g => ?_)
    · rw [if_neg (by omega)]
      refine fi_step (pc' := 15) m_Mo_isMatrix rfl rfl ?_
      exact s_retb m_Mo_isMatrix rfl rfl (by omega) (by first | exact Or.inl rfl | exact Or.inr rfl | omega)
    · rw [if_pos (by omega)]
      refine fi_step (pc' := 11) m_Mo_isMatrix rfl rfl ?_
      refine fi_step (pc' := 15) m_Mo_isMatrix rfl rfl ?_
      exact s_retb m_Mo_isMatrix rfl rfl (by omega) (by first | exact Or.inl rfl | exact Or.inr rfl | omega)
theorem c_result {i j : Int} : fin xs fr lo 129 0 (ax_ent [.ref 425, .int (jI i), .int (jI j)] 3) [] w (Same (.int (jI (6 * i + j))) w) := by
  refine fi_step (pc' := 1) m_Mo_result rfl rfl ?_
  refine s_bipush (p := 3) m_Mo_result rfl rfl rfl ?_
  refine fi_step (pc' := 4) m_Mo_result rfl rfl ?_
  refine s_imul (p := 5) m_Mo_result rfl rfl ?_
  refine s_iadd (p := 6) m_Mo_result rfl rfl ?_
  refine fi_step (pc' := 7) m_Mo_result rfl rfl ?_
  refine s_iadd (p := 8) m_Mo_result rfl rfl ?_
  exact s_reti m_Mo_result rfl rfl (by omega)
theorem c_cell {i j : Int} : fin xs fr lo 161 0 (ax_ent [.ref 425, .int (jI i), .int (jI j)] 3) [] w (Same (.int (jI (100 + 6 * i + j))) w) := by
  refine s_bipush (p := 2) m_Mo_cell rfl rfl rfl ?_
  refine s_bipush (p := 4) m_Mo_cell rfl rfl rfl ?_
  refine fi_step (pc' := 5) m_Mo_cell rfl rfl ?_
  refine s_imul (p := 6) m_Mo_cell rfl rfl ?_
  refine s_iadd (p := 7) m_Mo_cell rfl rfl ?_
  refine fi_step (pc' := 8) m_Mo_cell rfl rfl ?_
  refine s_iadd (p := 9) m_Mo_cell rfl rfl ?_
  exact s_reti m_Mo_cell rfl rfl (by omega)
theorem c_number {m i j : Int} (hw : RW w0 w s) (m0 : 0 ≤ m) (m1 : m < 6) (i0 : 0 ≤ i) (i1 : i < 6) (j0 : 0 ≤ j) (j1 : j < 6) : fin xs fr lo 125 0 (ax_ent [.ref 425, .int (jI m), .int (jI i), .int (jI j)] 4) [] w (Same (.long (jL (s 4 (36 * m + 6 * i + j)))) w) := by
  refine fi_step (pc' := 1) m_Mo_number rfl rfl ?_
  refine r_get (p := 4) m_Mo_number rfl rfl (by assumption) rfl ?_
  refine s_bipush (p := 6) m_Mo_number rfl rfl rfl ?_
  refine fi_step (pc' := 7) m_Mo_number rfl rfl ?_
  refine s_imul (p := 8) m_Mo_number rfl rfl ?_
  refine s_bipush (p := 10) m_Mo_number rfl rfl rfl ?_
  refine fi_step (pc' := 11) m_Mo_number rfl rfl ?_
  refine s_imul (p := 12) m_Mo_number rfl rfl ?_
  refine s_iadd (p := 13) m_Mo_number rfl rfl ?_
  refine fi_step (pc' := 14) m_Mo_number rfl rfl ?_
  refine s_iadd (p := 15) m_Mo_number rfl rfl ?_
  refine r_ldL (p := 16) m_Mo_number rfl rfl (by assumption) (by decide) rfl (by decide) (by omega) (by omega) ?_
  exact s_retl m_Mo_number rfl rfl (by rfl)
theorem c_bigIsZero {k : Int} (hw : RW w0 w s) (k0 : 0 ≤ k) (k1 : k < 277) (l0 : 0 ≤ s 2 k) (l1 : s 2 k ≤ 140) : fin xs fr lo 151 0 (ax_ent [.ref 425, .int (jI k)] 2) [] w (Same (.int (jI (if s 2 k = 0 then 1 else 0))) w) := by
  refine fi_step (pc' := 1) m_Mo_bigIsZero rfl rfl ?_
  refine r_get (p := 4) m_Mo_bigIsZero rfl rfl (by assumption) rfl ?_
  refine fi_step (pc' := 5) m_Mo_bigIsZero rfl rfl ?_
  refine r_ldI (p := 6) m_Mo_bigIsZero rfl rfl (by assumption) (by decide) rfl (by decide) (by omega) (by omega) ?_
  refine s_if_ne (p := 9) m_Mo_bigIsZero rfl rfl (by omega) (by omega) (fun h => ?_) (fun h => ?_)
  · rw [if_neg (by omega)]
    refine fi_step (pc' := 14) m_Mo_bigIsZero rfl rfl ?_
    exact s_retb m_Mo_bigIsZero rfl rfl (by omega) (by first | exact Or.inl rfl | exact Or.inr rfl | omega)
  · rw [if_pos (by omega)]
    refine fi_step (pc' := 10) m_Mo_bigIsZero rfl rfl ?_
    refine fi_step (pc' := 14) m_Mo_bigIsZero rfl rfl ?_
    exact s_retb m_Mo_bigIsZero rfl rfl (by omega) (by first | exact Or.inl rfl | exact Or.inr rfl | omega)
theorem c_bigAt {k i : Int} (hw : RW w0 w s) (k0 : 0 ≤ k) (k1 : k < 277) (l0 : 0 ≤ s 2 k) (l1 : s 2 k ≤ 140) (i0 : 0 ≤ i) (i1 : i < 2147483648) : fin xs fr lo 136 0 (ax_ent [.ref 425, .int (jI k), .int (jI i)] 3) [] w (Same (.int (jI (if i < s 2 k then s 1 (140 * k + i) else 0))) w) := by
  refine fi_step (pc' := 1) m_Mo_bigAt rfl rfl ?_
  refine fi_step (pc' := 2) m_Mo_bigAt rfl rfl ?_
  refine r_get (p := 5) m_Mo_bigAt rfl rfl (by assumption) rfl ?_
  refine fi_step (pc' := 6) m_Mo_bigAt rfl rfl ?_
  refine r_ldI (p := 7) m_Mo_bigAt rfl rfl (by assumption) (by decide) rfl (by decide) (by omega) (by omega) ?_
  refine s_ic_ge (p := 10) m_Mo_bigAt rfl rfl (by omega) (by omega) (by omega) (by omega) (fun h => ?_) (fun h => ?_)
  · rw [if_neg (by omega)]
    refine fi_step (pc' := 26) m_Mo_bigAt rfl rfl ?_
    exact s_reti m_Mo_bigAt rfl rfl (by omega)
  · rw [if_pos (by omega)]
    refine fi_step (pc' := 11) m_Mo_bigAt rfl rfl ?_
    refine r_get (p := 14) m_Mo_bigAt rfl rfl (by assumption) rfl ?_
    refine s_sipush (p := 17) m_Mo_bigAt rfl rfl rfl ?_
    refine fi_step (pc' := 18) m_Mo_bigAt rfl rfl ?_
    refine s_imul (p := 19) m_Mo_bigAt rfl rfl ?_
    refine fi_step (pc' := 20) m_Mo_bigAt rfl rfl ?_
    refine s_iadd (p := 21) m_Mo_bigAt rfl rfl ?_
    refine r_ldI (p := 22) m_Mo_bigAt rfl rfl (by assumption) (by decide) rfl (by decide) (by omega) (by omega) ?_
    refine fi_step (pc' := 26) m_Mo_bigAt rfl rfl ?_
    exact s_reti m_Mo_bigAt rfl rfl (by rfl)
theorem c_least {a b : Int} (a0 : -2147483648 ≤ a) (a1 : a < 2147483648) (b0 : -2147483648 ≤ b) (b1 : b < 2147483648) : fin xs fr lo 146 0 (ax_ent [.ref 425, .int (jI a), .int (jI b)] 3) [] w (Same (.int (jI (if a < b then a else b))) w) := by
  refine fi_step (pc' := 1) m_Mo_least rfl rfl ?_
  refine fi_step (pc' := 2) m_Mo_least rfl rfl ?_
  refine s_ic_ge (p := 5) m_Mo_least rfl rfl (by omega) (by omega) (by omega) (by omega) (fun h => ?_) (fun h => ?_)
  · rw [if_neg (by omega)]
    refine fi_step (pc' := 10) m_Mo_least rfl rfl ?_
    exact s_reti m_Mo_least rfl rfl (by omega)
  · rw [if_pos (by omega)]
    refine fi_step (pc' := 6) m_Mo_least rfl rfl ?_
    refine fi_step (pc' := 10) m_Mo_least rfl rfl ?_
    exact s_reti m_Mo_least rfl rfl (by omega)
theorem c_isPlace {m i j : Int} (hw : RW w0 w s) (hfr : 1 ≤ fr) (hlo : 40 ≤ lo) (m0 : -2147483648 ≤ m) (m1 : m < 2147483648) (i0 : -2147483648 ≤ i) (i1 : i < 2147483648) (j0 : -2147483648 ≤ j) (j1 : j < 2147483648)
    (hr : ∀ k, 0 ≤ k → k < 6 → 1 ≤ s 5 k ∧ s 5 k ≤ 6) (hc : ∀ k, 0 ≤ k → k < 6 → 1 ≤ s 6 k ∧ s 6 k ≤ 6) :
    fin xs fr lo 123 0 (ax_ent [.ref 425, .int (jI m), .int (jI i), .int (jI j)] 4) [] w (Same (.int (jI (if (0 ≤ m ∧ m < 6) ∧ (0 ≤ i ∧ i < s 5 m) ∧ 0 ≤ j ∧ j < s 6 m then 1 else 0))) w) := by
  refine fi_step (pc' := 1) m_Mo_isPlace rfl rfl ?_
  refine fi_step (pc' := 2) m_Mo_isPlace rfl rfl ?_
  refine c_2 (p := 5) m_Mo_isPlace rfl inv_v (by decide) m_Mo_isMatrix rfl rfl (by omega) (by omega) (Nat.le_of_ble_eq_true rfl) (Nat.le_of_ble_eq_true rfl) (RW_rcv hw _) (c_isMatrix m0 m1) ?_
  by_cases hm : 0 ≤ m ∧ m < 6
  · rw [if_pos hm]
    have := hr m hm.1 hm.2
    have := hc m hm.1 hm.2
    refine s_if_eq (p := 8) m_Mo_isPlace rfl rfl (by omega) (by omega) (fun hbr => False.elim (by omega)) (fun hbr => ?_)
    refine fi_step (pc' := 9) m_Mo_isPlace rfl rfl ?_
    refine s_if_lt (p := 12) m_Mo_isPlace rfl rfl (by omega) (by omega) (fun h => ?_) (fun h => ?_)
    · rw [if_neg (by omega)]
      refine fi_step (pc' := 41) m_Mo_isPlace rfl rfl ?_
      exact s_retb m_Mo_isPlace rfl rfl (by omega) (by first | exact Or.inl rfl | exact Or.inr rfl | omega)
    · refine fi_step (pc' := 13) m_Mo_isPlace rfl rfl ?_
      refine fi_step (pc' := 14) m_Mo_isPlace rfl rfl ?_
      refine r_get (p := 17) m_Mo_isPlace rfl rfl (by assumption) rfl ?_
      refine fi_step (pc' := 18) m_Mo_isPlace rfl rfl ?_
      refine r_ldI (p := 19) m_Mo_isPlace rfl rfl (by assumption) (by decide) rfl (by decide) (by omega) (by omega) ?_
      refine s_ic_ge (p := 22) m_Mo_isPlace rfl rfl (by omega) (by omega) (by omega) (by omega) (fun h2 => ?_) (fun h2 => ?_)
      · rw [if_neg (by omega)]
        refine fi_step (pc' := 41) m_Mo_isPlace rfl rfl ?_
        exact s_retb m_Mo_isPlace rfl rfl (by omega) (by first | exact Or.inl rfl | exact Or.inr rfl | omega)
      · refine fi_step (pc' := 23) m_Mo_isPlace rfl rfl ?_
        refine s_if_lt (p := 26) m_Mo_isPlace rfl rfl (by omega) (by omega) (fun h3 => ?_) (fun h3 => ?_)
        · rw [if_neg (by omega)]
          refine fi_step (pc' := 41) m_Mo_isPlace rfl rfl ?_
          exact s_retb m_Mo_isPlace rfl rfl (by omega) (by first | exact Or.inl rfl | exact Or.inr rfl | omega)
        · refine fi_step (pc' := 27) m_Mo_isPlace rfl rfl ?_
          refine fi_step (pc' := 28) m_Mo_isPlace rfl rfl ?_
          refine r_get (p := 31) m_Mo_isPlace rfl rfl (by assumption) rfl ?_
          refine fi_step (pc' := 32) m_Mo_isPlace rfl rfl ?_
          refine r_ldI (p := 33) m_Mo_isPlace rfl rfl (by assumption) (by decide) rfl (by decide) (by omega) (by omega) ?_
          refine s_ic_ge (p := 36) m_Mo_isPlace rfl rfl (by omega) (by omega) (by omega) (by omega) (fun h4 => ?_) (fun h4 => ?_)
          · rw [if_neg (by omega)]
            refine fi_step (pc' := 41) m_Mo_isPlace rfl rfl ?_
            exact s_retb m_Mo_isPlace rfl rfl (by omega) (by first | exact Or.inl rfl | exact Or.inr rfl | omega)
          · rw [if_pos (by omega)]
            refine fi_step (pc' := 37) m_Mo_isPlace rfl rfl ?_
            refine fi_step (pc' := 41) m_Mo_isPlace rfl rfl ?_
            exact s_retb m_Mo_isPlace rfl rfl (by omega) (by first | exact Or.inl rfl | exact Or.inr rfl | omega)
  · rw [if_neg hm, if_neg (fun h => hm h.1)]
    refine s_if_eq (p := 8) m_Mo_isPlace rfl rfl (by omega) (by omega) (fun hbr => ?_) (fun hbr => False.elim (by omega))
    refine fi_step (pc' := 41) m_Mo_isPlace rfl rfl ?_
    exact s_retb m_Mo_isPlace rfl rfl (by omega) (by first | exact Or.inl rfl | exact Or.inr rfl | omega)
end MOL
