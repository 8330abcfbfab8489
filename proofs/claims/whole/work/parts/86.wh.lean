/-! THE CLASS'S NUMBERS: lines of sums -/
theorem dw_up (f : Int → Int) (k : Nat) (x : Int) : ∀ {t : Nat}, k < t → dw (up1 f k x) t = dw f t + (x - f k) * 1000000000 ^ k
  | 0, h => by omega
  | t + 1, h => by
    rw [dw_succ, dw_succ]
    by_cases e : k = t
    · subst e
      rw [up1_same, dw_congr (g := f) (fun i hi => up1_ne _ (by omega) _)]
      grind
    · rw [up1_ne _ (by omega), dw_up f k x (by omega)]; omega
theorem mul_bnd {F g : Int} (h0 : -1000000000 ≤ F) (h1 : F ≤ 1000000000) (g0 : 0 ≤ g) (g1 : g < 1000000000) : -999999999000000000 ≤ F * g ∧ F * g ≤ 999999999000000000 := by
  have a : F * g ≤ 1000000000 * g := Int.mul_le_mul_of_nonneg_right h1 g0
  have b : (-1000000000) * g ≤ F * g := Int.mul_le_mul_of_nonneg_right h0 g0
  omega
section WH4
variable {xs : List Int32} {fr lo : Nat} {w0 w : ax_W} {Q : Outcome → ax_W → Prop} {c d cap : Nat} {f : Int → Int} {n b : Int}
theorem line2 {F sh : Int} {top : Nat} {E : Int} {av : Value} (hc : cap < 100000) (ht : top ≤ cap) (t1 : 1 ≤ top) {f0 : Int → Int} :
    ∀ (j k : Nat) (cy : Int) (y9 y10 y11 y12 y13 : Option Value) (w : ax_W) (f : Int → Int), k + j + 1 = top → -1000000000 ≤ cy → cy ≤ 1000000000 → TW w0 w c d cap f n b → (∀ i : Nat, i + 1 < top → 0 ≤ f i ∧ f i < 1000000000) → (∀ i : Nat, top ≤ i + 1 → f i = f0 i) → dw f top + cy * 1000000000 ^ k = E → -1000000000 ≤ f0 (top - 1 : Nat) → f0 (top - 1 : Nat) ≤ 1000000000 →
    fin xs fr lo 37 89 [some (.ref c), some av, some (.long (jL F)), none, some (.int (jI sh)), some (.int (jI top)), some (.long (jL cy)), none, some (.int (jI k)), y9, y10, y11, y12, y13] [] w (Ret fun u w' => u = none ∧ ∃ f', TW w0 w' c d cap f' n b ∧ (∀ i : Nat, i + 1 < top → 0 ≤ f' i ∧ f' i < 1000000000) ∧ (∀ i : Nat, top ≤ i → f' i = f0 i) ∧ dw f' top = E) := by
  have e1 : ((top - 1 : Nat) : Int) = (top : Int) - 1 := by omega
  have last : ∀ (k : Nat) (cy : Int) (y8 y9 y10 y11 y12 y13 : Option Value) (w : ax_W) (f : Int → Int), (cy = 0 ∨ k + 1 = top) → -1000000000 ≤ cy → cy ≤ 1000000000 → TW w0 w c d cap f n b → (∀ i : Nat, i + 1 < top → 0 ≤ f i ∧ f i < 1000000000) → (∀ i : Nat, top ≤ i + 1 → f i = f0 i) → dw f top + cy * 1000000000 ^ k = E → fin xs fr lo 37 161 [some (.ref c), some av, some (.long (jL F)), none, some (.int (jI sh)), some (.int (jI top)), some (.long (jL cy)), none, y8, y9, y10, y11, y12, y13] [] w (Ret fun u w' => u = none ∧ ∃ f', TW w0 w' c d cap f' n b ∧ (∀ i : Nat, i + 1 < top → 0 ≤ f' i ∧ f' i < 1000000000) ∧ (∀ i : Nat, top ≤ i → f' i = f0 i) ∧ dw f' top = E) := by
    intro k cy y8 y9 y10 y11 y12 y13 w f hk c0 c1 hw hd hs hE
    refine fi_step (pc' := 162) m_Wh_addLine rfl rfl ?_
    first | refine t_get (p := 165) m_Wh_addLine rfl rfl (by assumption) rfl ?_ | refine o_get (p := 165) m_Wh_addLine rfl rfl (by assumption) (by assumption) rfl ?_
    refine fi_step (pc' := 167) m_Wh_addLine rfl rfl ?_
    refine fi_step (pc' := 168) m_Wh_addLine rfl rfl ?_
    refine s_isub (p := 169) m_Wh_addLine rfl rfl ?_
    refine fi_step (pc' := 170) m_Wh_addLine rfl rfl ?_
    first | refine t_ld (p := 171) m_Wh_addLine rfl rfl (by assumption) (by omega) (by omega) (by omega) ?_ | refine o_ld (p := 171) m_Wh_addLine rfl rfl (by assumption) (by assumption) (by omega) (by omega) (by omega) ?_
    refine fi_step (pc' := 173) m_Wh_addLine rfl rfl ?_
    refine s_l2i (p := 174) m_Wh_addLine rfl rfl ?_
    refine s_iadd (p := 175) m_Wh_addLine rfl rfl ?_
    refine t_st (p := 176) m_Wh_addLine rfl rfl (by assumption) (by omega) (by omega) (by omega) (fun w hw => ?_)
    refine p_ret m_Wh_addLine rfl rfl ?_
    refine ⟨rfl, _, hw, fun i hi => by rw [up1_ne _ (by omega)]; exact hd i hi, fun i hi => by rw [up1_ne _ (by omega)]; exact hs i (by omega), ?_⟩
    rw [← e1, dw_up _ _ _ (by omega)]
    rcases hk with rfl | hk
    · rw [Int.zero_mul, Int.add_zero] at hE
      rw [hE]; grind
    · rw [show top - 1 = k by omega, ← hE]; grind
  intro j
  induction j with
  | zero =>
    intro k cy y9 y10 y11 y12 y13 w f hk c0 c1 hw hd hs hE t0 t2
    by_cases hz : cy = 0
    · refine fi_step (pc' := 91) m_Wh_addLine rfl rfl ?_
      refine s_lconst (p := 92) (v := 0) m_Wh_addLine rfl rfl rfl ?_
      refine s_lc_eq (q := 93) (p := 96) m_Wh_addLine rfl rfl rfl rfl (by omega) (by omega) (by omega) (by omega) (fun hbr => ?_) (fun hbr => False.elim (by omega))
      exact last k cy _ _ _ _ _ _ w f (Or.inl hz) c0 c1 hw hd hs hE
    · refine fi_step (pc' := 91) m_Wh_addLine rfl rfl ?_
      refine s_lconst (p := 92) (v := 0) m_Wh_addLine rfl rfl rfl ?_
      refine s_lc_eq (q := 93) (p := 96) m_Wh_addLine rfl rfl rfl rfl (by omega) (by omega) (by omega) (by omega) (fun hbr => False.elim (by omega)) (fun hbr => ?_)
      refine fi_step (pc' := 98) m_Wh_addLine rfl rfl ?_
      refine fi_step (pc' := 100) m_Wh_addLine rfl rfl ?_
      refine fi_step (pc' := 101) m_Wh_addLine rfl rfl ?_
      refine s_isub (p := 102) m_Wh_addLine rfl rfl ?_
      refine s_ic_ge (p := 105) m_Wh_addLine rfl rfl (by omega) (by omega) (by omega) (by omega) (fun hbr => ?_) (fun hbr => False.elim (by omega))
      exact last k cy _ _ _ _ _ _ w f (Or.inr (by omega)) c0 c1 hw hd hs hE
  | succ j ih =>
    intro k cy y9 y10 y11 y12 y13 w f hk c0 c1 hw hd hs hE t0 t2
    by_cases hz : cy = 0
    · refine fi_step (pc' := 91) m_Wh_addLine rfl rfl ?_
      refine s_lconst (p := 92) (v := 0) m_Wh_addLine rfl rfl rfl ?_
      refine s_lc_eq (q := 93) (p := 96) m_Wh_addLine rfl rfl rfl rfl (by omega) (by omega) (by omega) (by omega) (fun hbr => ?_) (fun hbr => False.elim (by omega))
      exact last k cy _ _ _ _ _ _ w f (Or.inl hz) c0 c1 hw hd hs hE
    · have dk := hd k (by omega)
      have hup : (f k + cy + 1000000002000000000) / 1000000000 = (f k + cy) / 1000000000 + 1000000002 := by omega
      refine fi_step (pc' := 91) m_Wh_addLine rfl rfl ?_
      refine s_lconst (p := 92) (v := 0) m_Wh_addLine rfl rfl rfl ?_
      refine s_lc_eq (q := 93) (p := 96) m_Wh_addLine rfl rfl rfl rfl (by omega) (by omega) (by omega) (by omega) (fun hbr => False.elim (by omega)) (fun hbr => ?_)
      refine fi_step (pc' := 98) m_Wh_addLine rfl rfl ?_
      refine fi_step (pc' := 100) m_Wh_addLine rfl rfl ?_
      refine fi_step (pc' := 101) m_Wh_addLine rfl rfl ?_
      refine s_isub (p := 102) m_Wh_addLine rfl rfl ?_
      refine s_ic_ge (p := 105) m_Wh_addLine rfl rfl (by omega) (by omega) (by omega) (by omega) (fun hbr => False.elim (by omega)) (fun hbr => ?_)
      refine fi_step (pc' := 106) m_Wh_addLine rfl rfl ?_
      first | refine t_get (p := 109) m_Wh_addLine rfl rfl (by assumption) rfl ?_ | refine o_get (p := 109) m_Wh_addLine rfl rfl (by assumption) (by assumption) rfl ?_
      refine fi_step (pc' := 111) m_Wh_addLine rfl rfl ?_
      first | refine t_ld (p := 112) m_Wh_addLine rfl rfl (by assumption) (by omega) (by omega) (by omega) ?_ | refine o_ld (p := 112) m_Wh_addLine rfl rfl (by assumption) (by assumption) (by omega) (by omega) (by omega) ?_
      refine s_i2l (p := 113) m_Wh_addLine rfl rfl (by omega) (by omega) ?_
      refine fi_step (pc' := 115) m_Wh_addLine rfl rfl ?_
      refine s_ladd (p := 116) m_Wh_addLine rfl rfl ?_
      refine s_ldc2 (p := 119) 1000000002000000000 m_Wh_addLine rfl rfl rfl ?_
      refine s_ladd (p := 120) m_Wh_addLine rfl rfl ?_
      refine fi_step (pc' := 122) m_Wh_addLine rfl rfl ?_
      refine fi_step (pc' := 124) m_Wh_addLine rfl rfl ?_
      refine s_ldc2 (p := 127) 1000000000 m_Wh_addLine rfl rfl rfl ?_
      refine s_ldiv (p := 128) m_Wh_addLine rfl rfl (by omega) (by omega) (by omega) (by omega) ?_
      refine fi_step (pc' := 130) m_Wh_addLine rfl rfl ?_
      refine fi_step (pc' := 131) m_Wh_addLine rfl rfl ?_
      first | refine t_get (p := 134) m_Wh_addLine rfl rfl (by assumption) rfl ?_ | refine o_get (p := 134) m_Wh_addLine rfl rfl (by assumption) (by assumption) rfl ?_
      refine fi_step (pc' := 136) m_Wh_addLine rfl rfl ?_
      refine fi_step (pc' := 138) m_Wh_addLine rfl rfl ?_
      refine fi_step (pc' := 140) m_Wh_addLine rfl rfl ?_
      refine s_ldc2 (p := 143) 1000000000 m_Wh_addLine rfl rfl rfl ?_
      refine s_lmul (p := 144) m_Wh_addLine rfl rfl ?_
      refine s_lsub (p := 145) m_Wh_addLine rfl rfl ?_
      refine s_l2i (p := 146) m_Wh_addLine rfl rfl ?_
      refine t_st (p := 147) m_Wh_addLine rfl rfl (by assumption) (by omega) (by omega) (by omega) (fun w hw => ?_)
      refine fi_step (pc' := 149) m_Wh_addLine rfl rfl ?_
      refine s_ldc2 (p := 152) 1000000002 m_Wh_addLine rfl rfl rfl ?_
      refine s_lsub (p := 153) m_Wh_addLine rfl rfl ?_
      refine fi_step (pc' := 155) m_Wh_addLine rfl rfl ?_
      refine s_iinc (p := 158) m_Wh_addLine rfl rfl rfl ?_
      refine fi_step (pc' := 89) m_Wh_addLine rfl rfl ?_
      rw [show (k : Int) + 1 = ((k + 1 : Nat) : Int) by omega]
      refine ih (k + 1) _ _ _ _ _ _ w _ (by omega) (by omega) (by omega) hw (fun i hi => ?_) (fun i hi => by rw [up1_ne _ (by omega)]; exact hs i hi) ?_ t0 t2
      · by_cases e : i = k
        · subst e; rw [up1_same]; omega
        · rw [up1_ne _ (by omega)]; exact hd i hi
      · rw [dw_up _ _ _ (by omega), ← hE, hup, Int.pow_succ]; grind
theorem line1 {F : Int} {sh top m a e cp : Nat} {g : Int → Int} {q : Int} (hc : cap < 100000) (hcp : cp < 100000) (ht : top ≤ cap) (ho : OW w0 c d a e cp g m q) (hm : m ≤ cp) (hg : dgs g m) (hsh : sh + m + 1 ≤ top) (F0 : -1000000000 ≤ F) (F1 : F ≤ 1000000000) {f0 : Int → Int} (t0 : -1000000000 ≤ f0 (top - 1 : Nat)) (t2 : f0 (top - 1 : Nat) ≤ 1000000000) :
    ∀ (j i : Nat) (cy : Int) (y10 y11 y12 y13 : Option Value) (w : ax_W) (f : Int → Int), i + j = m → -1000000000 ≤ cy → cy ≤ 1000000000 → TW w0 w c d cap f n b → (∀ i : Nat, i + 1 < top → 0 ≤ f i ∧ f i < 1000000000) → (∀ i : Nat, top ≤ i + 1 → f i = f0 i) → dw f top + cy * 1000000000 ^ (sh + i) = dw f0 top + F * dw g i * 1000000000 ^ sh →
    fin xs fr lo 37 10 [some (.ref c), some (.ref a), some (.long (jL F)), none, some (.int (jI sh)), some (.int (jI top)), some (.long (jL cy)), none, some (.int (jI ((sh : Int) + i))), some (.int (jI i)), y10, y11, y12, y13] [] w (Ret fun u w' => u = none ∧ ∃ f', TW w0 w' c d cap f' n b ∧ (∀ i : Nat, i + 1 < top → 0 ≤ f' i ∧ f' i < 1000000000) ∧ (∀ i : Nat, top ≤ i → f' i = f0 i) ∧ dw f' top = dw f0 top + F * dw g m * 1000000000 ^ sh) := by
  intro j
  induction j with
  | zero =>
    intro i cy y10 y11 y12 y13 w f hi c0 c1 hw hd hs hE
    obtain rfl : i = m := by omega
    refine fi_step (pc' := 12) m_Wh_addLine rfl rfl ?_
    refine fi_step (pc' := 13) m_Wh_addLine rfl rfl ?_
    first | refine t_get (p := 16) m_Wh_addLine rfl rfl (by assumption) rfl ?_ | refine o_get (p := 16) m_Wh_addLine rfl rfl (by assumption) (by assumption) rfl ?_
    refine s_ic_ge (p := 19) m_Wh_addLine rfl rfl (by omega) (by omega) (by omega) (by omega) (fun hbr => ?_) (fun hbr => False.elim (by omega))
    rw [show (sh : Int) + i = ((sh + i : Nat) : Int) by omega]
    exact line2 hc ht (by omega) (top - (sh + i) - 1) (sh + i) cy _ _ _ _ _ w f (by omega) c0 c1 hw hd hs hE t0 t2
  | succ j ih =>
    intro i cy y10 y11 y12 y13 w f hi c0 c1 hw hd hs hE
    have dk := hd (sh + i) (by omega)
    have gi := hg i (by omega)
    have hb := mul_bnd F0 F1 gi.1 gi.2
    rw [show ((sh + i : Nat) : Int) = (sh : Int) + i by omega] at dk
    have hup : (f ((sh : Int) + i) + F * g i + cy + 1000000002000000000) / 1000000000 = (f ((sh : Int) + i) + F * g i + cy) / 1000000000 + 1000000002 := by omega
    refine fi_step (pc' := 12) m_Wh_addLine rfl rfl ?_
    refine fi_step (pc' := 13) m_Wh_addLine rfl rfl ?_
    first | refine t_get (p := 16) m_Wh_addLine rfl rfl (by assumption) rfl ?_ | refine o_get (p := 16) m_Wh_addLine rfl rfl (by assumption) (by assumption) rfl ?_
    refine s_ic_ge (p := 19) m_Wh_addLine rfl rfl (by omega) (by omega) (by omega) (by omega) (fun hbr => False.elim (by omega)) (fun hbr => ?_)
    refine fi_step (pc' := 20) m_Wh_addLine rfl rfl ?_
    first | refine t_get (p := 23) m_Wh_addLine rfl rfl (by assumption) rfl ?_ | refine o_get (p := 23) m_Wh_addLine rfl rfl (by assumption) (by assumption) rfl ?_
    refine fi_step (pc' := 25) m_Wh_addLine rfl rfl ?_
    first | refine t_ld (p := 26) m_Wh_addLine rfl rfl (by assumption) (by omega) (by omega) (by omega) ?_ | refine o_ld (p := 26) m_Wh_addLine rfl rfl (by assumption) (by assumption) (by omega) (by omega) (by omega) ?_
    refine s_i2l (p := 27) m_Wh_addLine rfl rfl (by omega) (by omega) ?_
    refine fi_step (pc' := 28) m_Wh_addLine rfl rfl ?_
    refine fi_step (pc' := 29) m_Wh_addLine rfl rfl ?_
    first | refine t_get (p := 32) m_Wh_addLine rfl rfl (by assumption) rfl ?_ | refine o_get (p := 32) m_Wh_addLine rfl rfl (by assumption) (by assumption) rfl ?_
    refine fi_step (pc' := 34) m_Wh_addLine rfl rfl ?_
    first | refine t_ld (p := 35) m_Wh_addLine rfl rfl (by assumption) (by omega) (by omega) (by omega) ?_ | refine o_ld (p := 35) m_Wh_addLine rfl rfl (by assumption) (by assumption) (by omega) (by omega) (by omega) ?_
    refine s_i2l (p := 36) m_Wh_addLine rfl rfl (by omega) (by omega) ?_
    refine s_lmul (p := 37) m_Wh_addLine rfl rfl ?_
    refine s_ladd (p := 38) m_Wh_addLine rfl rfl ?_
    refine fi_step (pc' := 40) m_Wh_addLine rfl rfl ?_
    refine s_ladd (p := 41) m_Wh_addLine rfl rfl ?_
    refine s_ldc2 (p := 44) 1000000002000000000 m_Wh_addLine rfl rfl rfl ?_
    refine s_ladd (p := 45) m_Wh_addLine rfl rfl ?_
    refine fi_step (pc' := 47) m_Wh_addLine rfl rfl ?_
    refine fi_step (pc' := 49) m_Wh_addLine rfl rfl ?_
    refine s_ldc2 (p := 52) 1000000000 m_Wh_addLine rfl rfl rfl ?_
    refine s_ldiv (p := 53) m_Wh_addLine rfl rfl (by omega) (by omega) (by omega) (by omega) ?_
    refine fi_step (pc' := 55) m_Wh_addLine rfl rfl ?_
    refine fi_step (pc' := 56) m_Wh_addLine rfl rfl ?_
    first | refine t_get (p := 59) m_Wh_addLine rfl rfl (by assumption) rfl ?_ | refine o_get (p := 59) m_Wh_addLine rfl rfl (by assumption) (by assumption) rfl ?_
    refine fi_step (pc' := 61) m_Wh_addLine rfl rfl ?_
    refine fi_step (pc' := 63) m_Wh_addLine rfl rfl ?_
    refine fi_step (pc' := 65) m_Wh_addLine rfl rfl ?_
    refine s_ldc2 (p := 68) 1000000000 m_Wh_addLine rfl rfl rfl ?_
    refine s_lmul (p := 69) m_Wh_addLine rfl rfl ?_
    refine s_lsub (p := 70) m_Wh_addLine rfl rfl ?_
    refine s_l2i (p := 71) m_Wh_addLine rfl rfl ?_
    refine t_st (p := 72) m_Wh_addLine rfl rfl (by assumption) (by omega) (by omega) (by omega) (fun w hw => ?_)
    refine fi_step (pc' := 74) m_Wh_addLine rfl rfl ?_
    refine s_ldc2 (p := 77) 1000000002 m_Wh_addLine rfl rfl rfl ?_
    refine s_lsub (p := 78) m_Wh_addLine rfl rfl ?_
    refine fi_step (pc' := 80) m_Wh_addLine rfl rfl ?_
    refine s_iinc (p := 83) m_Wh_addLine rfl rfl rfl ?_
    refine s_iinc (p := 86) m_Wh_addLine rfl rfl rfl ?_
    refine fi_step (pc' := 10) m_Wh_addLine rfl rfl ?_
    rw [show (sh : Int) + i + 1 = (sh : Int) + ((i + 1 : Nat) : Int) by omega, show (i : Int) + 1 = ((i + 1 : Nat) : Int) by omega]
    refine ih (i + 1) _ _ _ _ _ w _ (by omega) (by omega) (by omega) hw (fun k hk => ?_) (fun k hk => by rw [up1_ne _ (by omega)]; exact hs k hk) ?_
    · by_cases e : (k : Int) = (sh : Int) + i
      · rw [e, up1_same]; omega
      · rw [up1_ne _ e]; exact hd k hk
    · rw [show (sh : Int) + i = ((sh + i : Nat) : Int) by omega] at hup ⊢
      rw [dw_up _ _ _ (by omega), hup, dw_succ, show sh + (i + 1) = (sh + i) + 1 by omega, Int.pow_succ]
      have hp : (1000000000 : Int) ^ (sh + i) = 1000000000 ^ sh * 1000000000 ^ i := Int.pow_add ..
      have : dw f top = dw f0 top + F * dw g i * 1000000000 ^ sh - cy * 1000000000 ^ (sh + i) := by omega
      rw [this, hp]; grind
theorem h_addLine {F : Int} {sh top m a e cp : Nat} {g : Int → Int} {q : Int} (hw : TW w0 w c d cap f n b) (hc : cap < 100000) (hcp : cp < 100000) (ht : top ≤ cap) (ho : OW w0 c d a e cp g m q) (hm : m ≤ cp) (hg : dgs g m) (hsh : sh + m + 1 ≤ top) (F0 : -1000000000 ≤ F) (F1 : F ≤ 1000000000) (hd : ∀ i : Nat, i + 1 < top → 0 ≤ f i ∧ f i < 1000000000) (t0 : -1000000000 ≤ f (top - 1 : Nat)) (t2 : f (top - 1 : Nat) ≤ 1000000000) :
    fin xs fr lo 37 0 (ax_ent [.ref c, .ref a, .long (jL F), .int (jI sh), .int (jI top)] 14) [] w (Ret fun u w' => u = none ∧ ∃ f', TW w0 w' c d cap f' n b ∧ (∀ i : Nat, i + 1 < top → 0 ≤ f' i ∧ f' i < 1000000000) ∧ (∀ i : Nat, top ≤ i → f' i = f i) ∧ dw f' top = dw f top + F * dw g m * 1000000000 ^ sh) := by
  refine s_lconst (p := 1) (v := 0) m_Wh_addLine rfl rfl rfl ?_
  refine fi_step (pc' := 3) m_Wh_addLine rfl rfl ?_
  refine fi_step (pc' := 5) m_Wh_addLine rfl rfl ?_
  refine fi_step (pc' := 7) m_Wh_addLine rfl rfl ?_
  refine fi_step (pc' := 8) m_Wh_addLine rfl rfl ?_
  refine fi_step (pc' := 10) m_Wh_addLine rfl rfl ?_
  have := line1 (xs := xs) (fr := fr) (lo := lo) (n := n) (b := b) hc hcp ht ho hm hg hsh F0 F1 (f0 := f) t0 t2 m 0 0 none none none none w f (by omega) (by omega) (by omega) hw hd (fun _ _ => rfl) (by
    have e0 : dw g 0 = 0 := rfl
    rw [e0]; simp)
  rw [show (sh : Int) + ((0 : Nat) : Int) = sh by omega] at this
  exact this
end WH4
