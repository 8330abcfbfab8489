/-! THE REFERENCE: floor, the numbers above leads made small -/
theorem ediv_neg {x b : Int} (hx : x < 0) (hb : 0 < b) : (((x.natAbs : Int) % b = 0) → x / b = -((x.natAbs : Int) / b)) ∧ (((x.natAbs : Int) % b ≠ 0) → x / b = -((x.natAbs : Int) / b) - 1) := by
  have e : x = -(x.natAbs : Int) := by omega
  have h := Int.emod_add_mul_ediv (x.natAbs : Int) b
  have p := Int.emod_nonneg (x.natAbs : Int) (show b ≠ 0 by omega)
  have q := Int.emod_lt_of_pos (x.natAbs : Int) hb
  generalize ht : (x.natAbs : Int) % b = t at h p q
  generalize hq : (x.natAbs : Int) / b = z at h
  constructor
  · intro h0
    have : x = (-z) * b := by rw [e, ← h, h0]; grind
    rw [this, Int.mul_ediv_cancel _ (by omega)]
  · intro h0
    have : x = (b - t) + (-z - 1) * b := by rw [e, ← h]; grind
    rw [this, Int.add_mul_ediv_right _ _ (by omega), Int.ediv_eq_zero_of_lt (by omega) (by omega)]; omega
theorem ediv_abs_le {x b : Int} (hb : 0 < b) : ((x / b).natAbs : Int) ≤ (x.natAbs : Int) := by
  by_cases hx : x < 0
  · have h1 : x ≤ x / b := by
      have := Int.le_ediv_of_mul_le hb (show x * b ≤ x by
        have : x * b ≤ x * 1 := Int.mul_le_mul_of_nonpos_left (by omega) (by omega)
        omega)
      exact this
    have h2 : x / b < 0 := Int.ediv_neg_of_neg_of_pos hx hb
    omega
  · have h1 := Int.ediv_le_self b (show 0 ≤ x by omega)
    have h2 := Int.ediv_nonneg (show 0 ≤ x by omega) (Int.le_of_lt hb)
    omega
section SHORT
variable {xs : List Int32} {fr lo : Nat} {w0 : ax_W} {Q : Outcome → ax_W → Prop}
theorem c_floor {k b : Int} {w : ax_W} {s : mo_S} {r : Int → Int} (hfr : 3 ≤ fr) (hlo : 120 ≤ lo) (hw : RW w0 w s) (hB : Bg s r) (k0 : 0 ≤ k) (k1 : k < 268) (b0 : 0 ≤ b) (b1 : b < 268) (hb : 0 < r b) (hk : ((r k).natAbs : Int) < rm 138) :
    fin xs fr lo 166 0 (ax_ent [.ref 425, .int (jI k), .int (jI b)] 5) [] w (Ret fun u w' => u = none ∧ ∃ s' r', RW w0 w' s' ∧ oth s s' ∧ Bg s' r' ∧ r' 272 = r k / r b ∧ ∀ j : Int, j ≠ 268 → j ≠ 269 → j ≠ 272 → r' j = r j) := by
  obtain ⟨n, _, sk, sk0, sk1⟩ := isN_abs (hB k k0 (by omega))
  have hbn : ((r b).natAbs : Int) = r b := by omega
  have tl : ∀ v : Int, (v = 1 ∧ r k < 0) ∨ (v = 0 ∧ 0 ≤ r k) → fin xs fr lo 166 22 [some (.ref 425), some (.int (jI k)), some (.int (jI b)), none, none] [.int (jI v)] w (Ret fun u w' => u = none ∧ ∃ s' r', RW w0 w' s' ∧ oth s s' ∧ Bg s' r' ∧ r' 272 = r k / r b ∧ ∀ j : Int, j ≠ 268 → j ≠ 269 → j ≠ 272 → r' j = r j) := by
    intro v hv
    refine fi_step (pc' := 23) m_Mo_floor rfl rfl ?_
    refine fi_step (pc' := 24) m_Mo_floor rfl rfl ?_
    refine s_sipush (p := 27) m_Mo_floor rfl rfl rfl ?_
    refine fi_step (pc' := 28) m_Mo_floor rfl rfl ?_
    refine g_3 (p := 31) m_Mo_floor rfl inv_v (by decide) m_Mo_bigCopy rfl rfl (by omega) (by omega) (Nat.le_of_ble_eq_true rfl) (Nat.le_of_ble_eq_true rfl) (RW_rcv hw _) (c_bigCopy hw hB (by omega) (by omega) (by omega) (by omega) (by omega)) (fun v w hP => ?_)
    obtain ⟨rfl, s1, hw, o1, B1⟩ := hP
    refine fi_step (pc' := 32) m_Mo_floor rfl rfl ?_
    refine s_sipush (p := 35) m_Mo_floor rfl rfl rfl ?_
    refine fi_step (pc' := 36) m_Mo_floor rfl rfl ?_
    refine g_3 (p := 39) m_Mo_floor rfl inv_v (by decide) m_Mo_bigCopy rfl rfl (by omega) (by omega) (Nat.le_of_ble_eq_true rfl) (Nat.le_of_ble_eq_true rfl) (RW_rcv hw _) (c_bigCopy hw B1 (by omega) (by omega) (by omega) (by omega) (by omega)) (fun v w hP => ?_)
    obtain ⟨rfl, s2, hw, o2, B2⟩ := hP
    obtain ⟨r2, B2, v2, q2, k2⟩ : ∃ r2, Bg s2 r2 ∧ r2 268 = r k ∧ r2 269 = r b ∧ ∀ j : Int, j ≠ 268 → j ≠ 269 → r2 j = r j := ⟨_, B2, by rw [up1_ne _ (by decide), up1_same], by rw [up1_same, up1_ne _ (by omega)], fun j h1 h2 => by rw [up1_ne _ h2, up1_ne _ h1]⟩
    refine fi_step (pc' := 40) m_Mo_floor rfl rfl ?_
    refine s_sipush (p := 43) m_Mo_floor rfl rfl rfl ?_
    refine s_sipush (p := 46) m_Mo_floor rfl rfl rfl ?_
    refine s_sipush (p := 49) m_Mo_floor rfl rfl rfl ?_
    refine g_4 (p := 52) m_Mo_floor rfl inv_v (by decide) m_Mo_bigDivide rfl rfl (by omega) (by omega) (Nat.le_of_ble_eq_true rfl) (Nat.le_of_ble_eq_true rfl) (RW_rcv hw _) (c_bigDivide (by omega) (by omega) hw B2 (by omega) (by omega) (by omega) (by omega) (by omega) (by omega) (by omega) (by omega) (by omega) (by omega)) (fun v w hP => ?_)
    obtain ⟨rfl, s3, hw, o3, B3⟩ := hP
    obtain ⟨r3, B3, v3, q3, k3⟩ : ∃ r3, Bg s3 r3 ∧ r3 268 = ((r k).natAbs : Int) % r b ∧ r3 272 = ((r k).natAbs : Int) / r b ∧ ∀ j : Int, j ≠ 268 → j ≠ 269 → j ≠ 272 → r3 j = r j := ⟨_, B3, by rw [up1_same, v2, q2, hbn], by rw [up1_ne _ (by decide), up1_same, v2, q2, hbn], fun j h1 h2 h3 => by rw [up1_ne _ h1, up1_ne _ h3, k2 j h1 h2]⟩
    have o13 := oth_trans o1 (oth_trans o2 o3)
    have p := Int.emod_nonneg ((r k).natAbs : Int) (show r b ≠ 0 by omega)
    have d0 := Int.ediv_nonneg (show (0 : Int) ≤ ((r k).natAbs : Int) by omega) (Int.le_of_lt hb)
    have d1 := Int.ediv_le_self (r b) (show (0 : Int) ≤ ((r k).natAbs : Int) by omega)
    have hrm : rm 138 + 2 ≤ rm 140 := by
      have h1 : rm 138 = 16777216 ^ 138 := rfl
      have h2 : (2 : Int) ≤ rm 138 := Int.le_trans (by decide) (le_rm (i := 1) (by decide))
      have h3 : rm 140 = rm 138 * 281474976710656 := by unfold rm; decide
      omega
    rcases hv with ⟨rfl, hneg⟩ | ⟨rfl, hpos⟩
    · have hen := ediv_neg hneg hb
      have fin1 : ∀ l : Int, (l = 1 ∧ ((r k).natAbs : Int) % r b ≠ 0) ∨ (l = 0 ∧ ((r k).natAbs : Int) % r b = 0) → fin xs fr lo 166 71 [some (.ref 425), some (.int (jI k)), some (.int (jI b)), some (.int (jI 1)), none] [.int (jI l)] w (Ret fun u w' => u = none ∧ ∃ s' r', RW w0 w' s' ∧ oth s s' ∧ Bg s' r' ∧ r' 272 = r k / r b ∧ ∀ j : Int, j ≠ 268 → j ≠ 269 → j ≠ 272 → r' j = r j) := by
        intro l hl
        refine fi_step (pc' := 73) m_Mo_floor rfl rfl ?_
        refine fi_step (pc' := 74) m_Mo_floor rfl rfl ?_
        refine r_get (p := 77) m_Mo_floor rfl rfl (by assumption) rfl ?_
        refine s_sipush (p := 80) m_Mo_floor rfl rfl rfl ?_
        refine fi_step (pc' := 81) m_Mo_floor rfl rfl ?_
        refine r_stB (p := 82) m_Mo_floor rfl rfl (by assumption) (by decide) (fun _ => rfl) (by decide) (by omega) (by omega) (by omega) (by omega) (fun w hw => ?_)
        refine fi_step (pc' := 83) m_Mo_floor rfl rfl ?_
        refine s_sipush (p := 86) m_Mo_floor rfl rfl rfl ?_
        refine s_lconst (p := 87) (v := 1) m_Mo_floor rfl rfl rfl ?_
        have B4 := Bg_sign B3 (k := 272) (b := 1) (by decide) (by decide) (Or.inr rfl)
        obtain ⟨r4, B4, q4, k4⟩ : ∃ r4, Bg (up s3 3 272 1) r4 ∧ r4 272 = -(((r k).natAbs : Int) / r b) ∧ ∀ j : Int, j ≠ 268 → j ≠ 269 → j ≠ 272 → r4 j = r j := ⟨_, B4, by rw [up1_same, if_pos rfl, q3]; omega, fun j h1 h2 h3 => by rw [up1_ne _ h3, k3 j h1 h2 h3]⟩
        refine g_3 (p := 90) m_Mo_floor rfl inv_v (by decide) m_Mo_bigSet rfl rfl (by omega) (by omega) (Nat.le_of_ble_eq_true rfl) (Nat.le_of_ble_eq_true rfl) (RW_rcv hw _) (c_bigSet hw B4 (by omega) (by omega) (by decide) (by decide)) (fun v w hP => ?_)
        obtain ⟨rfl, s5, hw, o5, B5⟩ := hP
        obtain ⟨r5, B5, q5, u5, k5⟩ : ∃ r5, Bg s5 r5 ∧ r5 272 = -(((r k).natAbs : Int) / r b) ∧ r5 268 = 1 ∧ ∀ j : Int, j ≠ 268 → j ≠ 269 → j ≠ 272 → r5 j = r j := ⟨_, B5, by rw [up1_ne _ (by decide), q4], up1_same .., fun j h1 h2 h3 => by rw [up1_ne _ h1, k4 j h1 h2 h3]⟩
        have o15 := oth_trans o13 (oth_trans (oth_up3 s3 272 1) o5)
        rcases hl with ⟨rfl, hz⟩ | ⟨rfl, hz⟩
        · refine fi_step (pc' := 92) m_Mo_floor rfl rfl ?_
          refine s_if_eq (p := 95) m_Mo_floor rfl rfl (by omega) (by omega) (fun hbr => False.elim (by omega)) (fun hbr => ?_)
          refine fi_step (pc' := 96) m_Mo_floor rfl rfl ?_
          refine s_sipush (p := 99) m_Mo_floor rfl rfl rfl ?_
          refine s_sipush (p := 102) m_Mo_floor rfl rfl rfl ?_
          refine fi_step (pc' := 103) m_Mo_floor rfl rfl ?_
          refine g_4 (p := 106) m_Mo_floor rfl inv_v (by decide) m_Mo_bigAdd rfl rfl (by omega) (by omega) (Nat.le_of_ble_eq_true rfl) (Nat.le_of_ble_eq_true rfl) (RW_rcv hw _) (c_bigAdd (l := 1) (by omega) (by omega) hw B5 (by omega) (by omega) (by omega) (by omega) (by omega) (Or.inr rfl) (by rw [q5, u5]; omega)) (fun v w hP => ?_)
          obtain ⟨rfl, s6, hw, o6, B6⟩ := hP
          refine p_ret m_Mo_floor rfl rfl ?_
          exact ⟨rfl, s6, _, hw, oth_trans o15 o6, B6, by rw [up1_same, if_pos rfl, q5, u5, hen.2 hz], fun j h1 h2 h3 => by rw [up1_ne _ h3, k5 j h1 h2 h3]⟩
        · refine fi_step (pc' := 92) m_Mo_floor rfl rfl ?_
          refine s_if_eq (p := 95) m_Mo_floor rfl rfl (by omega) (by omega) (fun hbr => ?_) (fun hbr => False.elim (by omega))
          refine p_ret m_Mo_floor rfl rfl ?_
          exact ⟨rfl, s5, r5, hw, o15, B5, by rw [q5, hen.1 hz], k5⟩
      refine fi_step (pc' := 53) m_Mo_floor rfl rfl ?_
      refine s_if_eq (p := 56) m_Mo_floor rfl rfl (by omega) (by omega) (fun hbr => False.elim (by omega)) (fun hbr => ?_)
      refine fi_step (pc' := 57) m_Mo_floor rfl rfl ?_
      refine s_sipush (p := 60) m_Mo_floor rfl rfl rfl ?_
      refine c_2 (p := 63) m_Mo_floor rfl inv_v (by decide) m_Mo_bigIsZero rfl rfl (by omega) (by omega) (Nat.le_of_ble_eq_true rfl) (Nat.le_of_ble_eq_true rfl) (RW_rcv hw _) (c_isZ hw B3 (by omega) (by omega)) ?_
      rw [v3]
      by_cases hz : ((r k).natAbs : Int) % r b = 0
      · rw [if_pos hz]
        refine s_if_ne (p := 66) m_Mo_floor rfl rfl (by omega) (by omega) (fun hbr => ?_) (fun hbr => False.elim (by omega))
        refine fi_step (pc' := 71) m_Mo_floor rfl rfl ?_
        exact fin1 0 (Or.inr ⟨rfl, hz⟩)
      · rw [if_neg hz]
        refine s_if_ne (p := 66) m_Mo_floor rfl rfl (by omega) (by omega) (fun hbr => False.elim (by omega)) (fun hbr => ?_)
        refine fi_step (pc' := 67) m_Mo_floor rfl rfl ?_
        refine fi_step (pc' := 71) m_Mo_floor rfl rfl ?_
        exact fin1 1 (Or.inl ⟨rfl, hz⟩)
    · refine fi_step (pc' := 53) m_Mo_floor rfl rfl ?_
      refine s_if_eq (p := 56) m_Mo_floor rfl rfl (by omega) (by omega) (fun hbr => ?_) (fun hbr => False.elim (by omega))
      refine p_ret m_Mo_floor rfl rfl ?_
      exact ⟨rfl, s3, r3, hw, o13, B3, by rw [q3, show ((r k).natAbs : Int) = r k by omega], k3⟩
  refine fi_step (pc' := 1) m_Mo_floor rfl rfl ?_
  refine r_get (p := 4) m_Mo_floor rfl rfl (by assumption) rfl ?_
  refine fi_step (pc' := 5) m_Mo_floor rfl rfl ?_
  refine r_ldB (p := 6) m_Mo_floor rfl rfl (by assumption) (by decide) rfl (by decide) (by omega) (by omega) ?_
  refine s_if_eq (p := 9) m_Mo_floor rfl rfl (by omega) (by omega) (fun h => ?_) (fun h => ?_)
  · have := sk0 h
    refine fi_step (pc' := 22) m_Mo_floor rfl rfl ?_
    exact tl 0 (by omega)
  · have := sk1 (by omega)
    refine fi_step (pc' := 10) m_Mo_floor rfl rfl ?_
    refine fi_step (pc' := 11) m_Mo_floor rfl rfl ?_
    refine c_2 (p := 14) m_Mo_floor rfl inv_v (by decide) m_Mo_bigIsZero rfl rfl (by omega) (by omega) (Nat.le_of_ble_eq_true rfl) (Nat.le_of_ble_eq_true rfl) (RW_rcv hw _) (c_isZ hw hB (by omega) (by omega)) ?_
    by_cases hz : r k = 0
    · rw [if_pos hz]
      refine s_if_ne (p := 17) m_Mo_floor rfl rfl (by omega) (by omega) (fun hbr => ?_) (fun hbr => False.elim (by omega))
      refine fi_step (pc' := 22) m_Mo_floor rfl rfl ?_
      exact tl 0 (by omega)
    · rw [if_neg hz]
      refine s_if_ne (p := 17) m_Mo_floor rfl rfl (by omega) (by omega) (fun hbr => False.elim (by omega)) (fun hbr => ?_)
      refine fi_step (pc' := 18) m_Mo_floor rfl rfl ?_
      refine fi_step (pc' := 22) m_Mo_floor rfl rfl ?_
      exact tl 1 (by omega)
end SHORT
