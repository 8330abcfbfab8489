/-! THE CLASS'S NUMBERS: sums and products -/
section WH5
variable {xs : List Int32} {fr lo : Nat} {w0 w : ax_W} {Q : Outcome → ax_W → Prop} {c d cap : Nat} {f : Int → Int} {n b : Int}
theorem str_loop {top : Nat} {f0 : Int → Int} (hc : cap < 100000) (ht : top ≤ cap) (hd0 : ∀ i : Nat, i + 1 < top → 0 ≤ f0 i ∧ f0 i < 1000000000) (hl0 : f0 (top - 1 : Nat) < 0) (hl1 : -1000000000 < f0 (top - 1 : Nat))
    (K : ∀ (w : ax_W) (f : Int → Int) (cy : Int) (y4 y5 y6 : Option Value), TW w0 w c d cap f n b → dgs f top → dw f top = - dw f0 top → fin xs fr lo 38 97 [some (.ref c), some (.int (jI top)), some (.long (jL cy)), none, y4, y5, y6] [] w Q) :
    ∀ (j i : Nat) (cy : Int) (y5 y6 : Option Value) (w : ax_W) (f : Int → Int), i + j = top → (cy = 0 ∨ (cy = -1 ∧ i < top)) → TW w0 w c d cap f n b → (∀ k : Nat, k < i → 0 ≤ f k ∧ f k < 1000000000) → (∀ k : Nat, i ≤ k → f k = f0 k) → dw f i = - dw f0 i - cy * 1000000000 ^ i →
    fin xs fr lo 38 32 [some (.ref c), some (.int (jI top)), some (.long (jL cy)), none, some (.int (jI i)), y5, y6] [] w Q := by
  intro j
  induction j with
  | zero =>
    intro i cy y5 y6 w f hi hcy hw hd hs hE
    obtain rfl : i = top := by omega
    obtain rfl : cy = 0 := by omega
    refine fi_step (pc' := 34) m_Wh_straighten rfl rfl ?_
    refine fi_step (pc' := 35) m_Wh_straighten rfl rfl ?_
    refine s_ic_ge (p := 38) m_Wh_straighten rfl rfl (by omega) (by omega) (by omega) (by omega) (fun hbr => ?_) (fun hbr => False.elim (by omega))
    exact K w f 0 _ _ _ hw hd (by rw [hE]; omega)
  | succ j ih =>
    intro i cy y5 y6 w f hi hcy hw hd hs hE
    have fi := hs i (by omega)
    have bi : -1000000000 < f i ∧ f i < 1000000000 ∧ (i + 1 < top → 0 ≤ f i) ∧ (¬ i + 1 < top → f i < 0) := by
      rw [fi]
      by_cases h : i + 1 < top
      · have := hd0 i h; omega
      · rw [show top - 1 = i by omega] at hl0 hl1; omega
    have nx : ∀ (cy' x : Int) (y5 y6 : Option Value) (w : ax_W), TW w0 w c d cap (up1 f i x) n b → (cy' = 0 ∨ (cy' = -1 ∧ i + 1 < top)) → 0 ≤ x → x < 1000000000 → x = cy - f i - cy' * 1000000000 → fin xs fr lo 38 32 [some (.ref c), some (.int (jI top)), some (.long (jL cy')), none, some (.int (jI ((i + 1 : Nat) : Int))), y5, y6] [] w Q := by
      intro cy' x y5 y6 w hw hcy' x0 x1 hx
      refine ih (i + 1) cy' _ _ w _ (by omega) hcy' hw (fun k hk => ?_) (fun k hk => by rw [up1_ne _ (by omega)]; exact hs k (by omega)) ?_
      · by_cases e : k = i
        · subst e; rw [up1_same]; omega
        · rw [up1_ne _ (by omega)]; exact hd k (by omega)
      · rw [dw_succ, up1_same, dw_congr (g := f) (fun k hk => up1_ne _ (by omega) _), hE, dw_succ, hx, ← fi, Int.pow_succ]; grind
    by_cases hneg : cy - f i < 0
    · refine fi_step (pc' := 34) m_Wh_straighten rfl rfl ?_
      refine fi_step (pc' := 35) m_Wh_straighten rfl rfl ?_
      refine s_ic_ge (p := 38) m_Wh_straighten rfl rfl (by omega) (by omega) (by omega) (by omega) (fun hbr => False.elim (by omega)) (fun hbr => ?_)
      refine fi_step (pc' := 39) m_Wh_straighten rfl rfl ?_
      refine fi_step (pc' := 40) m_Wh_straighten rfl rfl ?_
      first | refine t_get (p := 43) m_Wh_straighten rfl rfl (by assumption) rfl ?_ | refine o_get (p := 43) m_Wh_straighten rfl rfl (by assumption) (by assumption) rfl ?_
      refine fi_step (pc' := 45) m_Wh_straighten rfl rfl ?_
      first | refine t_ld (p := 46) m_Wh_straighten rfl rfl (by assumption) (by omega) (by omega) (by omega) ?_ | refine o_ld (p := 46) m_Wh_straighten rfl rfl (by assumption) (by assumption) (by omega) (by omega) (by omega) ?_
      refine s_i2l (p := 47) m_Wh_straighten rfl rfl (by omega) (by omega) ?_
      refine s_lsub (p := 48) m_Wh_straighten rfl rfl ?_
      refine fi_step (pc' := 50) m_Wh_straighten rfl rfl ?_
      refine fi_step (pc' := 52) m_Wh_straighten rfl rfl ?_
      refine s_lconst (p := 53) (v := 0) m_Wh_straighten rfl rfl rfl ?_
      refine s_lc_ge (q := 54) (p := 57) m_Wh_straighten rfl rfl rfl rfl (by omega) (by omega) (by omega) (by omega) (fun hbr => False.elim (by omega)) (fun hbr => ?_)
      refine s_ldc2 (p := 60) (-1) m_Wh_straighten rfl rfl rfl ?_
      refine fi_step (pc' := 64) m_Wh_straighten rfl rfl ?_
      refine fi_step (pc' := 65) m_Wh_straighten rfl rfl ?_
      refine fi_step (pc' := 66) m_Wh_straighten rfl rfl ?_
      first | refine t_get (p := 69) m_Wh_straighten rfl rfl (by assumption) rfl ?_ | refine o_get (p := 69) m_Wh_straighten rfl rfl (by assumption) (by assumption) rfl ?_
      refine fi_step (pc' := 71) m_Wh_straighten rfl rfl ?_
      refine fi_step (pc' := 73) m_Wh_straighten rfl rfl ?_
      refine s_lconst (p := 74) (v := 0) m_Wh_straighten rfl rfl rfl ?_
      refine s_lc_ge (q := 75) (p := 78) m_Wh_straighten rfl rfl rfl rfl (by omega) (by omega) (by omega) (by omega) (fun hbr => False.elim (by omega)) (fun hbr => ?_)
      refine fi_step (pc' := 80) m_Wh_straighten rfl rfl ?_
      refine s_ldc2 (p := 83) 1000000000 m_Wh_straighten rfl rfl rfl ?_
      refine s_ladd (p := 84) m_Wh_straighten rfl rfl ?_
      refine fi_step (pc' := 89) m_Wh_straighten rfl rfl ?_
      refine s_l2i (p := 90) m_Wh_straighten rfl rfl ?_
      refine t_st (p := 91) m_Wh_straighten rfl rfl (by assumption) (by omega) (by omega) (by omega) (fun w hw => ?_)
      refine s_iinc (p := 94) m_Wh_straighten rfl rfl rfl ?_
      refine fi_step (pc' := 32) m_Wh_straighten rfl rfl ?_
      rw [show (i : Int) + 1 = ((i + 1 : Nat) : Int) by omega]
      exact nx (-1) _ _ _ w hw (by omega) (by omega) (by omega) (by omega)
    · refine fi_step (pc' := 34) m_Wh_straighten rfl rfl ?_
      refine fi_step (pc' := 35) m_Wh_straighten rfl rfl ?_
      refine s_ic_ge (p := 38) m_Wh_straighten rfl rfl (by omega) (by omega) (by omega) (by omega) (fun hbr => False.elim (by omega)) (fun hbr => ?_)
      refine fi_step (pc' := 39) m_Wh_straighten rfl rfl ?_
      refine fi_step (pc' := 40) m_Wh_straighten rfl rfl ?_
      first | refine t_get (p := 43) m_Wh_straighten rfl rfl (by assumption) rfl ?_ | refine o_get (p := 43) m_Wh_straighten rfl rfl (by assumption) (by assumption) rfl ?_
      refine fi_step (pc' := 45) m_Wh_straighten rfl rfl ?_
      first | refine t_ld (p := 46) m_Wh_straighten rfl rfl (by assumption) (by omega) (by omega) (by omega) ?_ | refine o_ld (p := 46) m_Wh_straighten rfl rfl (by assumption) (by assumption) (by omega) (by omega) (by omega) ?_
      refine s_i2l (p := 47) m_Wh_straighten rfl rfl (by omega) (by omega) ?_
      refine s_lsub (p := 48) m_Wh_straighten rfl rfl ?_
      refine fi_step (pc' := 50) m_Wh_straighten rfl rfl ?_
      refine fi_step (pc' := 52) m_Wh_straighten rfl rfl ?_
      refine s_lconst (p := 53) (v := 0) m_Wh_straighten rfl rfl rfl ?_
      refine s_lc_ge (q := 54) (p := 57) m_Wh_straighten rfl rfl rfl rfl (by omega) (by omega) (by omega) (by omega) (fun hbr => ?_) (fun hbr => False.elim (by omega))
      refine s_lconst (p := 64) (v := 0) m_Wh_straighten rfl rfl rfl ?_
      refine fi_step (pc' := 65) m_Wh_straighten rfl rfl ?_
      refine fi_step (pc' := 66) m_Wh_straighten rfl rfl ?_
      first | refine t_get (p := 69) m_Wh_straighten rfl rfl (by assumption) rfl ?_ | refine o_get (p := 69) m_Wh_straighten rfl rfl (by assumption) (by assumption) rfl ?_
      refine fi_step (pc' := 71) m_Wh_straighten rfl rfl ?_
      refine fi_step (pc' := 73) m_Wh_straighten rfl rfl ?_
      refine s_lconst (p := 74) (v := 0) m_Wh_straighten rfl rfl rfl ?_
      refine s_lc_ge (q := 75) (p := 78) m_Wh_straighten rfl rfl rfl rfl (by omega) (by omega) (by omega) (by omega) (fun hbr => ?_) (fun hbr => False.elim (by omega))
      refine fi_step (pc' := 89) m_Wh_straighten rfl rfl ?_
      refine s_l2i (p := 90) m_Wh_straighten rfl rfl ?_
      refine t_st (p := 91) m_Wh_straighten rfl rfl (by assumption) (by omega) (by omega) (by omega) (fun w hw => ?_)
      refine s_iinc (p := 94) m_Wh_straighten rfl rfl rfl ?_
      refine fi_step (pc' := 32) m_Wh_straighten rfl rfl ?_
      rw [show (i : Int) + 1 = ((i + 1 : Nat) : Int) by omega]
      exact nx 0 _ _ _ w hw (by omega) (by omega) (by omega) (by omega)
theorem h_straighten {top : Nat} (hw : TW w0 w c d cap f n b) (hb : b = 0 ∨ b = 1) (hc : cap < 100000) (ht : top ≤ cap) (t1 : 1 ≤ top) (hd : ∀ i : Nat, i + 1 < top → 0 ≤ f i ∧ f i < 1000000000) (hl0 : -1000000000 < f (top - 1 : Nat)) (hl1 : f (top - 1 : Nat) < 1000000000) (hfr : 1 ≤ fr) (hlo : 30 ≤ lo) :
    fin xs fr lo 38 0 (ax_ent [.ref c, .int (jI top)] 7) [] w (Ret fun u w' => u = none ∧ ∃ f' n' b', TW w0 w' c d cap f' n' b' ∧ n' ≤ top ∧ Wv f' n' b' (if b = 1 then - dw f top else dw f top)) := by
  have e1 : ((top : Int) - 1) = ((top - 1 : Nat) : Int) := by omega
  refine fi_step (pc' := 1) m_Wh_straighten rfl rfl ?_
  first | refine t_get (p := 4) m_Wh_straighten rfl rfl (by assumption) rfl ?_ | refine o_get (p := 4) m_Wh_straighten rfl rfl (by assumption) (by assumption) rfl ?_
  refine fi_step (pc' := 5) m_Wh_straighten rfl rfl ?_
  refine fi_step (pc' := 6) m_Wh_straighten rfl rfl ?_
  refine s_isub (p := 7) m_Wh_straighten rfl rfl ?_
  first | refine t_ld (p := 8) m_Wh_straighten rfl rfl (by assumption) (by omega) (by omega) (by omega) ?_ | refine o_ld (p := 8) m_Wh_straighten rfl rfl (by assumption) (by assumption) (by omega) (by omega) (by omega) ?_
  rw [e1]
  refine s_if_ge (p := 11) m_Wh_straighten rfl rfl (by omega) (by omega) (fun h => ?_) (fun h => ?_)
  · have hdt : dgs f top := by
      intro i hi
      by_cases h2 : i + 1 < top
      · exact hd i h2
      · rw [show top - 1 = i by omega] at h hl1; omega
    refine fi_step (pc' := 98) m_Wh_straighten rfl rfl ?_
    refine fi_step (pc' := 99) m_Wh_straighten rfl rfl ?_
    refine g_2 (p := 102) m_Wh_straighten rfl inv_v (by decide) m_Wh_trim rfl rfl (by omega) (by omega) (Nat.le_of_ble_eq_true rfl) (Nat.le_of_ble_eq_true rfl) (TW_rcv hw _) (h_trim (t := top) hc hb hw ht hdt) (fun v w hP => ?_)
    obtain ⟨rfl, n', b', hw, g2, _, g3⟩ := hP
    refine p_ret m_Wh_straighten rfl rfl ?_
    exact ⟨rfl, f, n', b', hw, g2, g3⟩
  · have fin1 : ∀ (b1 : Int) (w : ax_W), TW w0 w c d cap f n b1 → b1 = 1 - b → fin xs fr lo 38 27 [some (.ref c), some (.int (jI top)), none, none, none, none, none] [] w (Ret fun u w' => u = none ∧ ∃ f' n' b', TW w0 w' c d cap f' n' b' ∧ n' ≤ top ∧ Wv f' n' b' (if b = 1 then - dw f top else dw f top)) := by
      intro b1 w hw hb1
      refine s_lconst (p := 28) (v := 0) m_Wh_straighten rfl rfl rfl ?_
      refine fi_step (pc' := 29) m_Wh_straighten rfl rfl ?_
      refine fi_step (pc' := 30) m_Wh_straighten rfl rfl ?_
      refine fi_step (pc' := 32) m_Wh_straighten rfl rfl ?_
      refine str_loop hc ht hd (by omega) hl0 ?_ top 0 0 _ _ w f (by omega) (Or.inl rfl) hw (fun k hk => by omega) (fun _ _ => rfl) (by
        have e0 : ∀ f, dw f 0 = 0 := fun _ => rfl
        rw [e0]; simp)
      intro w f2 cy y4 y5 y6 hw hd2 hv2
      refine fi_step (pc' := 98) m_Wh_straighten rfl rfl ?_
      refine fi_step (pc' := 99) m_Wh_straighten rfl rfl ?_
      refine g_2 (p := 102) m_Wh_straighten rfl inv_v (by decide) m_Wh_trim rfl rfl (by omega) (by omega) (Nat.le_of_ble_eq_true rfl) (Nat.le_of_ble_eq_true rfl) (TW_rcv hw _) (h_trim (t := top) hc (show b1 = 0 ∨ b1 = 1 by omega) hw ht hd2) (fun v w hP => ?_)
      obtain ⟨rfl, n', b', hw, g2, _, g3⟩ := hP
      refine p_ret m_Wh_straighten rfl rfl ?_
      refine ⟨rfl, f2, n', b', hw, g2, ?_⟩
      rw [hv2] at g3
      rcases hb with rfl | rfl
      · rw [if_neg (by decide)]; rw [if_pos (by omega), Int.neg_neg] at g3; exact g3
      · rw [if_pos rfl]; rw [if_neg (by omega)] at g3; exact g3
    rcases hb with rfl | rfl
    · refine fi_step (pc' := 12) m_Wh_straighten rfl rfl ?_
      refine fi_step (pc' := 13) m_Wh_straighten rfl rfl ?_
      first | refine t_get (p := 16) m_Wh_straighten rfl rfl (by assumption) rfl ?_ | refine o_get (p := 16) m_Wh_straighten rfl rfl (by assumption) (by assumption) rfl ?_
      refine s_if_ne (p := 19) m_Wh_straighten rfl rfl (by omega) (by omega) (fun hbr => False.elim (by omega)) (fun hbr => ?_)
      refine fi_step (pc' := 20) m_Wh_straighten rfl rfl ?_
      refine fi_step (pc' := 24) m_Wh_straighten rfl rfl ?_
      refine t_put2 (p := 27) m_Wh_straighten rfl rfl (by assumption) (by first | exact Or.inl rfl | exact Or.inr rfl | assumption | omega) (fun w hw => ?_)
      exact fin1 1 w hw (by omega)
    · refine fi_step (pc' := 12) m_Wh_straighten rfl rfl ?_
      refine fi_step (pc' := 13) m_Wh_straighten rfl rfl ?_
      first | refine t_get (p := 16) m_Wh_straighten rfl rfl (by assumption) rfl ?_ | refine o_get (p := 16) m_Wh_straighten rfl rfl (by assumption) (by assumption) rfl ?_
      refine s_if_ne (p := 19) m_Wh_straighten rfl rfl (by omega) (by omega) (fun hbr => ?_) (fun hbr => False.elim (by omega))
      refine fi_step (pc' := 24) m_Wh_straighten rfl rfl ?_
      refine t_put2 (p := 27) m_Wh_straighten rfl rfl (by assumption) (by first | exact Or.inl rfl | exact Or.inr rfl | assumption | omega) (fun w hw => ?_)
      exact fin1 0 w hw (by omega)
/-- the top digit of a sum of digits, if all others are digits -/
theorem top_digit {f : Int → Int} {t : Nat} {k : Int} (hd : ∀ i : Nat, i < t → 0 ≤ f i ∧ f i < 1000000000) (k0 : 0 ≤ k) (h0 : -(k * 1000000000 ^ t) ≤ dw f (t + 1)) (h1 : dw f (t + 1) < k * 1000000000 ^ t) : -k ≤ f t ∧ f t < k := by
  rw [dw_succ] at h0 h1
  have a := dw_nn (f := f) (n := t) hd
  have b := dw_lt (f := f) (n := t) hd
  have p : (0 : Int) < 1000000000 ^ t := Int.pow_pos (by decide)
  generalize (1000000000 : Int) ^ t = P at *
  constructor
  · refine Classical.byContradiction (fun h => ?_)
    have : f t + 1 ≤ -k := by omega
    have h2 : (f t + 1) * P ≤ (-k) * P := Int.mul_le_mul_of_nonneg_right this (by omega)
    rw [Int.add_mul, Int.neg_mul] at h2
    omega
  · refine Classical.byContradiction (fun h => ?_)
    have h2 : k * P ≤ f t * P := Int.mul_le_mul_of_nonneg_right (by omega) (by omega)
    omega
end WH5
