/-! division of the reference's numbers: the outer loop, the contract -/
theorem dvI_chq {S s s' : mo_S} {r : Int → Int} {k b q : Int} {nb : Nat} {u mk : Int} (h : dvI S s r k b q nb u mk) (hc : chP q s s') (h3 : s' 3 = s 3) (hbq : b ≠ q) (hkq : k ≠ q) : dvI S s' r k b q nb u mk := by
  obtain ⟨h1, h2, h4, ⟨n, h5⟩, h6, h7⟩ := h
  exact ⟨oth_trans h1 (chP_oth hc), fun j j0 j1 jk jq => isN_ch (h2 j j0 j1 jk jq) hc jq, Mag_ch h4 hc hbq, ⟨n, Mag_ch h5 hc hkq⟩, by rw [h3]; exact h6, by rw [h3]; exact h7⟩
theorem ediv_unique' {W u q m : Int} (hu : 0 < u) (h : q * u + m = W) (m0 : 0 ≤ m) (m1 : m < u) : W / u = q ∧ W % u = m := by
  have := (Int.ediv_emod_unique (a := W) (b := u) (r := m) (q := q) hu).mpr ⟨by rw [Int.mul_comm]; omega, m0, m1⟩
  exact this
section BIG7
variable {xs : List Int32} {fr lo : Nat} {w0 : ax_W}
theorem bigDivide_out {k b q mm top : Int} {nb mN : Nat} {u W : Int} {S : mo_S} {r : Int → Int} (hfr : 2 ≤ fr) (hlo : 60 ≤ lo) (k0 : 0 ≤ k) (k1 : k < 277) (b0 : 0 ≤ b) (b1 : b < 277) (q0 : 0 ≤ q) (q1 : q < 277) (hbk : b ≠ k) (hbq : b ≠ q) (hkq : k ≠ q) (hmn : mN + nb ≤ 140) (hu : 0 < u) :
    ∀ (t : Nat) (mk : Int) (y8 y10 y12 : Option Value) (w : ax_W) (s : mo_S), RW w0 w s → dvI S s r k b q (nb + 1) u mk → t ≤ mN → s 2 q = mN → (∀ i : Nat, t ≤ i → i < mN → 0 ≤ s 1 (140 * q + i) ∧ s 1 (140 * q + i) < 16777216) → top = s 1 (140 * b + nb) + 1 → mk < u * 16777216 ^ t → dvB 16777216 (s 1) (140 * q + t) (mN - t) * (u * 16777216 ^ t) + mk = W →
      fin xs fr lo 154 70 [some (.ref 425), some (.int (jI k)), some (.int (jI b)), some (.int (jI q)), some (.int (jI mm)), some (.long (jL top)), none, some (.int (jI ((t : Int) - 1))), y8, none, y10, none, y12, none] [] w (Ret fun v w' => v = none ∧ ∃ s', RW w0 w' s' ∧ oth S s' ∧ Bg s' (up1 (up1 r q (W / u)) k (W % u))) := by
  intro t
  induction t with
  | zero =>
    intro mk y8 y10 y12 w s hw hI ht h2 hd htop hlt hinv
    simp only [Nat.sub_zero, Int.pow_zero, Int.mul_one, show ((0 : Nat) : Int) = 0 from rfl, Int.add_zero] at hinv hlt
    obtain ⟨n, hk⟩ := hI.2.2.2.1
    obtain ⟨e1, e2⟩ := ediv_unique' hu hinv (Mag_nn hk) hlt
    have hdq : digB 16777216 (s 1) (140 * q) mN := fun i hi => hd i (by omega) hi
    have hq0 : 0 ≤ dvB 16777216 (s 1) (140 * q) mN := dvB_nonneg (by decide) (fun i hi => (hdq i hi).1)
    refine fi_step (pc' := 72) m_Mo_bigDivide rfl rfl ?_
    refine s_if_lt (p := 75) m_Mo_bigDivide rfl rfl (by omega) (by omega) (fun hbr => ?_) (fun hbr => False.elim (by omega))
    refine fi_step (pc' := 193) m_Mo_bigDivide rfl rfl ?_
    refine fi_step (pc' := 194) m_Mo_bigDivide rfl rfl ?_
    refine g_2 (p := 197) m_Mo_bigDivide rfl inv_v (by decide) m_Mo_bigTrim rfl rfl (by omega) (by omega) (Nat.le_of_ble_eq_true rfl) (Nat.le_of_ble_eq_true rfl) (RW_rcv hw _) (c_bigTrim q0 q1 mN w s hw h2 (by omega) hdq) (fun v w hP => ?_)
    obtain ⟨rfl, n', g1, g2⟩ := hP
    refine p_ret m_Mo_bigDivide rfl rfl ?_
    have gc := chP_up2 q s (n' : Int)
    have g3 : up s 2 q (n' : Int) 3 = s 3 := up_ne _ (by decide) _ _
    refine ⟨rfl, _, g1, oth_trans hI.1 (chP_oth gc), ?_⟩
    intro j j0 j1
    by_cases ej : j = k
    · subst ej
      rw [up1_same, e2]
      refine isN_of (Mag_ch hk gc hkq) (by have := Mag_nn hk; omega) (Or.inl ⟨by rw [g3]; exact hI.2.2.2.2.1, Mag_nn hk⟩)
    · rw [up1_ne _ ej]
      by_cases eq : j = q
      · subst eq
        rw [up1_same, e1]
        exact isN_of g2 (by omega) (Or.inl ⟨by rw [g3]; exact hI.2.2.2.2.2, hq0⟩)
      · rw [up1_ne _ eq]
        exact isN_ch (hI.2.1 j j0 j1 ej eq) gc eq
  | succ t ih =>
    intro mk y8 y10 y12 w s hw hI ht h2 hd htop hlt hinv
    obtain ⟨n, hk⟩ := hI.2.2.2.1
    rw [show ((t + 1 : Nat) : Int) - 1 = (t : Int) by omega]
    refine fi_step (pc' := 72) m_Mo_bigDivide rfl rfl ?_
    refine s_if_lt (p := 75) m_Mo_bigDivide rfl rfl (by omega) (by omega) (fun hbr => False.elim (by omega)) (fun hbr => ?_)
    refine s_lconst (p := 76) (v := 0) m_Mo_bigDivide rfl rfl rfl ?_
    refine fi_step (pc' := 78) m_Mo_bigDivide rfl rfl ?_
    refine bigDivide_in (sh := t) (W := mk) (T := s) hfr hlo k0 k1 b0 b1 hbk (by omega) (chP_refl k s) htop (by rw [Int.pow_succ] at hlt; rw [Int.mul_assoc]; exact hlt) hu ?_ mk.toNat 0 mk _ _ w s hw hI (chP_refl k s) (by omega) (by decide) (by omega)
    intro w1 s1 al mk' z10 z12 hw f1 f2 f3 f4 f5 f6
    have eq1 : ∀ x : Nat, x < 140 → s1 1 (140 * q + x) = s 1 (140 * q + x) := fun x hx => f2.1 _ (by omega)
    refine fi_step (pc' := 171) m_Mo_bigDivide rfl rfl ?_
    refine r_get (p := 174) m_Mo_bigDivide rfl rfl (by assumption) rfl ?_
    refine s_sipush (p := 177) m_Mo_bigDivide rfl rfl rfl ?_
    refine fi_step (pc' := 178) m_Mo_bigDivide rfl rfl ?_
    refine s_imul (p := 179) m_Mo_bigDivide rfl rfl ?_
    refine fi_step (pc' := 181) m_Mo_bigDivide rfl rfl ?_
    refine s_iadd (p := 182) m_Mo_bigDivide rfl rfl ?_
    refine fi_step (pc' := 184) m_Mo_bigDivide rfl rfl ?_
    refine s_l2i (p := 185) m_Mo_bigDivide rfl rfl ?_
    refine r_stI (p := 186) m_Mo_bigDivide rfl rfl (by assumption) (by decide) (fun _ => rfl) (by decide) (by omega) (by omega) (fun w hw => ?_)
    refine s_iinc (p := 189) m_Mo_bigDivide rfl rfl rfl ?_
    refine fi_step (pc' := 70) m_Mo_bigDivide rfl rfl ?_
    have gc := chP_up1 (k := q) (x := 140 * q + t) s1 al (by omega) (by omega)
    refine ih mk' _ _ _ w _ hw (dvI_chq f1 gc (up_ne _ (by decide) _ _) hbq hkq) (by omega) ?_ ?_ ?_ f6 ?_
    · rw [up_ne _ (by decide), f2.2.1 q (fun e => hkq e.symm)]; exact h2
    · intro i hi1 hi2
      rw [up_same]
      by_cases e : i = t
      · subst e; rw [up1_same]; exact ⟨f3, f4⟩
      · rw [up1_ne _ (by omega), eq1 i (by omega)]; exact hd i (by omega) hi2
    · rw [up_same, up1_ne _ (by omega), f2.1 _ (by omega)]; exact htop
    · rw [show mN - t = (mN - (t + 1)) + 1 by omega, dvB_low, up_same, up1_same, dvB_up_out (by omega)]
      rw [dvB_congr (f := s1 1) (g := s 1) (o := 140 * q + t + 1) (p := 140 * q + ((t + 1 : Nat) : Int)) (fun i hi => by
        have := eq1 (t + 1 + i) (by omega)
        rw [show 140 * q + (t : Int) + 1 + (i : Int) = 140 * q + ((t + 1 + i : Nat) : Int) by omega, this]; congr 1; omega)]
      rw [Int.pow_succ] at hinv
      generalize dvB 16777216 (s 1) (140 * q + ((t + 1 : Nat) : Int)) (mN - (t + 1)) = D at hinv ⊢
      rw [← hinv, ← f5]; grind
theorem c_bigDivide {k b q : Int} {w : ax_W} {s : mo_S} {r : Int → Int} (hfr : 2 ≤ fr) (hlo : 60 ≤ lo) (hw : RW w0 w s) (hB : Bg s r) (k0 : 0 ≤ k) (k1 : k < 277) (b0 : 0 ≤ b) (b1 : b < 277) (q0 : 0 ≤ q) (q1 : q < 277) (hbk : b ≠ k) (hbq : b ≠ q) (hkq : k ≠ q) (hnz : r b ≠ 0) :
    fin xs fr lo 154 0 (ax_ent [.ref 425, .int (jI k), .int (jI b), .int (jI q)] 14) [] w (Ret fun v w' => v = none ∧ ∃ s', RW w0 w' s' ∧ oth s s' ∧ Bg s' (up1 (up1 r q (((r k).natAbs : Int) / ((r b).natAbs : Int))) k (((r k).natAbs : Int) % ((r b).natAbs : Int)))) := by
  obtain ⟨n, hk, sk, sk0, sk1⟩ := isN_abs (hB k k0 k1)
  obtain ⟨nb', hb, sb, sb0, sb1⟩ := isN_abs (hB b b0 b1)
  have hnb : nb' ≠ 0 := fun e => by have := (Mag_zero hb).mp e; omega
  obtain ⟨nb, rfl⟩ : ∃ p, nb' = p + 1 := ⟨nb' - 1, by omega⟩
  have ⟨k2, k3, k4, k5, k6⟩ := hk
  have ⟨b2, b3, b4, b5, b6⟩ := hb
  have dtop := b4 nb (by omega)
  have c1 := chP_up3 k s 0
  have c2 := chP_up3 q (up s 3 k 0) 0
  have mid : ∀ (mN : Nat) (w1 : ax_W), RW w0 w1 (up (up (up s 3 k 0) 3 q 0) 2 q mN) → mN + nb ≤ 140 → (mN : Int) - 1 = s 2 k - s 2 b ∨ (mN = 0 ∧ s 2 k - s 2 b < 0) → fin xs fr lo 154 48 [some (.ref 425), some (.int (jI k)), some (.int (jI b)), some (.int (jI q)), some (.int (jI (s 2 k - s 2 b))), none, none, none, none, none, none, none, none, none] [] w1 (Ret fun v w' => v = none ∧ ∃ s', RW w0 w' s' ∧ oth s s' ∧ Bg s' (up1 (up1 r q (((r k).natAbs : Int) / ((r b).natAbs : Int))) k (((r k).natAbs : Int) % ((r b).natAbs : Int)))) := by
    intro mN w1 hw hmn hm
    generalize hS : up (up (up s 3 k 0) 3 q 0) 2 q mN = s3 at hw
    have c3 : chP q (up (up s 3 k 0) 3 q 0) s3 := by rw [← hS]; exact chP_up2 q _ _
    have hb3 : Mag s3 b (nb + 1) ((r b).natAbs : Int) := Mag_ch (Mag_ch (Mag_ch hb c1 hbk) c2 hbq) c3 hbq
    have hk1 : Mag (up s 3 k 0) k n ((r k).natAbs : Int) := by
      refine ⟨by rw [up_ne _ (by decide)]; exact k2, k3, ?_, ?_, ?_⟩
      · rw [up_ne _ (by decide)]; exact k4
      · rw [up_ne _ (by decide)]; exact k5
      · rw [up_ne _ (by decide)]; exact k6
    have hk3 : Mag s3 k n ((r k).natAbs : Int) := Mag_ch (Mag_ch hk1 c2 hkq) c3 hkq
    have e3k : s3 3 k = 0 := by rw [← hS, up_ne _ (by decide), up_same, up1_ne _ hkq, up_same, up1_same]
    have e3q : s3 3 q = 0 := by rw [← hS, up_ne _ (by decide), up_same, up1_same]
    have e2q : s3 2 q = mN := by rw [← hS, up_same, up1_same]
    have hI : dvI s s3 r k b q (nb + 1) ((r b).natAbs : Int) ((r k).natAbs : Int) :=
      ⟨oth_trans (oth_trans (chP_oth c1) (chP_oth c2)) (chP_oth c3), fun j j0 j1 jk jq => isN_ch (isN_ch (isN_ch (hB j j0 j1) c1 jk) c2 jq) c3 jq, hb3, ⟨n, hk3⟩, e3k, e3q⟩
    have e2b : s3 2 b = ((nb + 1 : Nat) : Int) := hb3.1
    have dt := hb3.2.2.1 nb (by omega)
    refine fi_step (pc' := 49) m_Mo_bigDivide rfl rfl ?_
    refine fi_step (pc' := 50) m_Mo_bigDivide rfl rfl ?_
    refine fi_step (pc' := 51) m_Mo_bigDivide rfl rfl ?_
    refine r_get (p := 54) m_Mo_bigDivide rfl rfl (by assumption) rfl ?_
    refine fi_step (pc' := 55) m_Mo_bigDivide rfl rfl ?_
    refine r_ldI (p := 56) m_Mo_bigDivide rfl rfl (by assumption) (by decide) rfl (by decide) (by omega) (by omega) ?_
    refine fi_step (pc' := 57) m_Mo_bigDivide rfl rfl ?_
    refine s_isub (p := 58) m_Mo_bigDivide rfl rfl ?_
    refine c_3 (p := 61) m_Mo_bigDivide rfl inv_v (by decide) m_Mo_bigAt rfl rfl (by omega) (by omega) (Nat.le_of_ble_eq_true rfl) (Nat.le_of_ble_eq_true rfl) (RW_rcv hw _) (c_bigAt hw b0 b1 (by omega) (by omega) (by omega) (by omega)) ?_
    rw [if_pos (by omega), show s3 2 b - 1 = (nb : Int) by omega]
    have hup : 0 < ((r b).natAbs : Int) := by omega
    have hlt0 := Mag_lt hk
    have hgeb := Mag_ge hb
    rcases hm with hm | ⟨hm, hneg⟩
    · have hlt : ((r k).natAbs : Int) < ((r b).natAbs : Int) * 16777216 ^ mN := by
        have g1 : (16777216 : Int) ^ nb * 16777216 ^ mN ≤ ((r b).natAbs : Int) * 16777216 ^ mN := Int.mul_le_mul_of_nonneg_right hgeb (Int.le_of_lt (powB_pos (by decide) _))
        rw [← Int.pow_add] at g1
        have := pow_mono (B := 16777216) (by decide) (show n ≤ nb + mN by omega)
        omega
      refine s_i2l (p := 62) m_Mo_bigDivide rfl rfl (by omega) (by omega) ?_
      refine s_lconst (p := 63) (v := 1) m_Mo_bigDivide rfl rfl rfl ?_
      refine s_ladd (p := 64) m_Mo_bigDivide rfl rfl ?_
      refine fi_step (pc' := 66) m_Mo_bigDivide rfl rfl ?_
      refine fi_step (pc' := 68) m_Mo_bigDivide rfl rfl ?_
      refine fi_step (pc' := 70) m_Mo_bigDivide rfl rfl ?_
      rw [← hm]
      exact bigDivide_out hfr hlo k0 k1 b0 b1 q0 q1 hbk hbq hkq hmn hup mN _ _ _ _ w1 s3 hw hI (Nat.le_refl _) e2q (fun i h1 h2 => by omega) rfl hlt (by rw [Nat.sub_self, dvB_zero]; omega)
    · subst hm
      have hlt : ((r k).natAbs : Int) < ((r b).natAbs : Int) := by
        have := pow_mono (B := 16777216) (by decide) (show n ≤ nb by omega)
        omega
      refine s_i2l (p := 62) m_Mo_bigDivide rfl rfl (by omega) (by omega) ?_
      refine s_lconst (p := 63) (v := 1) m_Mo_bigDivide rfl rfl rfl ?_
      refine s_ladd (p := 64) m_Mo_bigDivide rfl rfl ?_
      refine fi_step (pc' := 66) m_Mo_bigDivide rfl rfl ?_
      refine fi_step (pc' := 68) m_Mo_bigDivide rfl rfl ?_
      refine fi_step (pc' := 70) m_Mo_bigDivide rfl rfl ?_
      refine fi_step (pc' := 72) m_Mo_bigDivide rfl rfl ?_
      refine s_if_lt (p := 75) m_Mo_bigDivide rfl rfl (by omega) (by omega) (fun hbr => ?_) (fun hbr => False.elim (by omega))
      refine fi_step (pc' := 193) m_Mo_bigDivide rfl rfl ?_
      refine fi_step (pc' := 194) m_Mo_bigDivide rfl rfl ?_
      refine g_2 (p := 197) m_Mo_bigDivide rfl inv_v (by decide) m_Mo_bigTrim rfl rfl (by omega) (by omega) (Nat.le_of_ble_eq_true rfl) (Nat.le_of_ble_eq_true rfl) (RW_rcv hw _) (c_bigTrim q0 q1 0 w1 s3 hw e2q (by omega) (fun i hi => by omega)) (fun v w hP => ?_)
      obtain ⟨rfl, n', g1, g2⟩ := hP
      refine p_ret m_Mo_bigDivide rfl rfl ?_
      have gc := chP_up2 q s3 (n' : Int)
      have g3 : up s3 2 q (n' : Int) 3 = s3 3 := up_ne _ (by decide) _ _
      refine ⟨rfl, _, g1, oth_trans hI.1 (chP_oth gc), ?_⟩
      intro j j0 j1
      by_cases ej : j = k
      · subst ej
        rw [up1_same, Int.emod_eq_of_lt (by omega) hlt]
        exact isN_of (Mag_ch hk3 gc hkq) (by omega) (Or.inl ⟨by rw [g3]; exact e3k, by omega⟩)
      · rw [up1_ne _ ej]
        by_cases eq : j = q
        · subst eq
          rw [up1_same, Int.ediv_eq_zero_of_lt (by omega) hlt]
          exact isN_of g2 (by rw [dvB_zero]; rfl) (Or.inl ⟨by rw [g3]; exact e3q, by decide⟩)
        · rw [up1_ne _ eq]
          exact isN_ch (hI.2.1 j j0 j1 ej eq) gc eq
  have eL : up (up s 3 k 0) 3 q 0 2 k - up (up s 3 k 0) 3 q 0 2 b = s 2 k - s 2 b := by rw [up_ne _ (by decide), up_ne _ (by decide)]
  refine fi_step (pc' := 1) m_Mo_bigDivide rfl rfl ?_
  refine r_get (p := 4) m_Mo_bigDivide rfl rfl (by assumption) rfl ?_
  refine fi_step (pc' := 5) m_Mo_bigDivide rfl rfl ?_
  refine fi_step (pc' := 6) m_Mo_bigDivide rfl rfl ?_
  refine r_stB (p := 7) m_Mo_bigDivide rfl rfl (by assumption) (by decide) (fun _ => rfl) (by decide) (by omega) (by omega) (by omega) (by omega) (fun w hw => ?_)
  refine fi_step (pc' := 8) m_Mo_bigDivide rfl rfl ?_
  refine r_get (p := 11) m_Mo_bigDivide rfl rfl (by assumption) rfl ?_
  refine fi_step (pc' := 12) m_Mo_bigDivide rfl rfl ?_
  refine fi_step (pc' := 13) m_Mo_bigDivide rfl rfl ?_
  refine r_stB (p := 14) m_Mo_bigDivide rfl rfl (by assumption) (by decide) (fun _ => rfl) (by decide) (by omega) (by omega) (by omega) (by omega) (fun w hw => ?_)
  refine fi_step (pc' := 15) m_Mo_bigDivide rfl rfl ?_
  refine r_get (p := 18) m_Mo_bigDivide rfl rfl (by assumption) rfl ?_
  refine fi_step (pc' := 19) m_Mo_bigDivide rfl rfl ?_
  refine r_ldI (p := 20) m_Mo_bigDivide rfl rfl (by assumption) (by decide) rfl (by decide) (by omega) (by omega) ?_
  refine fi_step (pc' := 21) m_Mo_bigDivide rfl rfl ?_
  refine r_get (p := 24) m_Mo_bigDivide rfl rfl (by assumption) rfl ?_
  refine fi_step (pc' := 25) m_Mo_bigDivide rfl rfl ?_
  refine r_ldI (p := 26) m_Mo_bigDivide rfl rfl (by assumption) (by decide) rfl (by decide) (by omega) (by omega) ?_
  refine s_isub (p := 27) m_Mo_bigDivide rfl rfl ?_
  refine fi_step (pc' := 29) m_Mo_bigDivide rfl rfl ?_
  refine fi_step (pc' := 30) m_Mo_bigDivide rfl rfl ?_
  refine r_get (p := 33) m_Mo_bigDivide rfl rfl (by assumption) rfl ?_
  refine fi_step (pc' := 34) m_Mo_bigDivide rfl rfl ?_
  rw [eL]
  refine fi_step (pc' := 36) m_Mo_bigDivide rfl rfl ?_
  refine s_if_ge (p := 39) m_Mo_bigDivide rfl rfl (by omega) (by omega) (fun h => ?_) (fun h => ?_)
  · refine fi_step (pc' := 45) m_Mo_bigDivide rfl rfl ?_
    refine fi_step (pc' := 46) m_Mo_bigDivide rfl rfl ?_
    refine s_iadd (p := 47) m_Mo_bigDivide rfl rfl ?_
    refine r_stI (p := 48) m_Mo_bigDivide rfl rfl (by assumption) (by decide) (fun _ => rfl) (by decide) (by omega) (by omega) (fun w hw => ?_)
    rw [show s 2 k - s 2 b + 1 = ((n - nb : Nat) : Int) by omega] at hw
    exact mid (n - nb) w hw (by omega) (Or.inl (by omega))
  · refine fi_step (pc' := 40) m_Mo_bigDivide rfl rfl ?_
    refine fi_step (pc' := 47) m_Mo_bigDivide rfl rfl ?_
    refine r_stI (p := 48) m_Mo_bigDivide rfl rfl (by assumption) (by decide) (fun _ => rfl) (by decide) (by omega) (by omega) (fun w hw => ?_)
    exact mid 0 w hw (by omega) (Or.inr ⟨rfl, h⟩)
end BIG7
