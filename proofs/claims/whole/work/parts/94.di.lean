/-! THE CLASS: long division, digit by digit -/
theorem rcv18 {w : ax_W} {fs : List Value} (h : w[18]? = some (1, fs)) (as : List Value) : ax_rcv 2 (.ref 18 :: as) w = true := by
  simp only [ax_rcv, h, beq_self_eq_true]
/-- the top digit, by the value -/
theorem top_val {f : Int → Int} {t : Nat} (hd : ∀ i : Nat, i < t → 0 ≤ f i ∧ f i < 1000000000) : (0 ≤ dw f (t + 1) → dw f (t + 1) < 1000000000 ^ t → f t = 0) ∧ (dw f (t + 1) < 0 → -(1000000000 ^ t) ≤ dw f (t + 1) → f t = -1) := by
  rw [dw_succ]
  have a := dw_nn (f := f) (n := t) hd
  have b := dw_lt (f := f) (n := t) hd
  have p : (0 : Int) < 1000000000 ^ t := Int.pow_pos (by decide)
  generalize (1000000000 : Int) ^ t = P at *
  constructor
  · intro h0 h1
    refine Classical.byContradiction (fun hn => ?_)
    by_cases h2 : 0 < f t
    · have : 1 * P ≤ f t * P := Int.mul_le_mul_of_nonneg_right (by omega) (by omega)
      omega
    · have : f t * P ≤ (-1) * P := Int.mul_le_mul_of_nonneg_right (by omega) (by omega)
      omega
  · intro h0 h1
    refine Classical.byContradiction (fun hn => ?_)
    by_cases h2 : 0 ≤ f t
    · have : 0 ≤ f t * P := Int.mul_nonneg h2 (by omega)
      omega
    · have : f t * P ≤ (-2) * P := Int.mul_le_mul_of_nonneg_right (by omega) (by omega)
      omega
section DIVL
variable {xs : List Int32} {fr lo : Nat} {w0 : ax_W} {Q : Outcome → ax_W → Prop} {L Z : Nat}
theorem divL_loop {N A V s m first dN capN dA capA e cp : Nat} {g : Int → Int} {nN q VV U0 : Int} {T0 : Nat → WD} (hD0 : w0[18]? = some (1, [.ref 19, .ref 21, .ref 23, .ref 25, .ref 27])) (hN : isWh N) (hA : isWh A) (hNA : A ≠ N) (hN19 : 19 ≠ N) (hA19 : 19 ≠ A) (e19 : T0 19 = (e, cp, g, (m : Int), q)) (hcp : cp < 20000) (hmc : m ≤ cp) (hg : dgs g m) (hm : 2 ≤ m) (hd13 : 1000000000 ≤ 3 * g (m - 1 : Nat)) (hVV : dw g m = VV) (hcN : capN < 20000) (hcN' : first + m < capN) (hcA : capA < 20000) (hcA' : first < capA) (hfr : 2 ≤ fr) (hlo : 60 ≤ lo)
    (K : ∀ (w : ax_W) (t : Nat → WD) (f h : Int → Int) (y9 y10 : Option Value), SW w0 w t L Z → t N = (dN, capN, f, nN, 0) → t A = (dA, capA, h, 0, 0) → (∀ j, j ≠ N → j ≠ A → t j = T0 j) → dgs f m → dw f m < VV → dgs h (first + 1) → U0 = dw f m + VV * dw h (first + 1) → fin xs fr lo 67 179 [some (.ref 18), some (.ref N), some (.ref V), some (.ref A), some (.int (jI m)), some (.long (jL s)), none, some (.int (jI first)), some (.int (jI (-1))), y9, y10] [] w Q) :
    ∀ (k : Nat) (w : ax_W) (t : Nat → WD) (f h : Int → Int) (y9 y10 : Option Value), k ≤ first + 1 → SW w0 w t L Z → t N = (dN, capN, f, nN, 0) → t A = (dA, capA, h, 0, 0) → (∀ j, j ≠ N → j ≠ A → t j = T0 j) → (∀ i : Nat, i ≤ first + m → 0 ≤ f i ∧ f i < 1000000000) → dw f (k + m) < VV * 1000000000 ^ k → (∀ i : Nat, k ≤ i → i < first + 1 → 0 ≤ h i ∧ h i < 1000000000) → U0 = dw f (k + m) + VV * 1000000000 ^ k * dvB 1000000000 h k (first + 1 - k) →
    fin xs fr lo 67 89 [some (.ref 18), some (.ref N), some (.ref V), some (.ref A), some (.int (jI m)), some (.long (jL s)), none, some (.int (jI first)), some (.int (jI ((k : Int) - 1))), y9, y10] [] w Q := by
  have gt := hg (m - 1) (by omega)
  have gt2 := hg (m - 2) (by omega)
  have vlt := dw_lt hg
  have i19 : isWh 19 := isWh_iff.mpr (by omega)
  have hV2 := dw_top2 (g := g) hm
  rw [hVV] at hV2 vlt
  have lowV := dw_nn (f := g) (n := m - 2) (fun i hi => hg i (by omega))
  have lowV1 := dw_lt (f := g) (n := m - 2) (fun i hi => hg i (by omega))
  have Pm2 : (0 : Int) < 1000000000 ^ (m - 2) := Int.pow_pos (by decide)
  have VV0 : 0 < VV := by
    have := Int.mul_pos Pm2 (show 0 < g (m - 1 : Nat) * 1000000000 + g (m - 2 : Nat) by omega)
    omega
  intro k
  induction k with
  | zero =>
    intro w t f h y9 y10 hk S eN eA eo hd hlt hh hE
    refine fi_step (pc' := 91) m_Di_divideLong rfl rfl ?_
    refine s_if_lt (p := 94) m_Di_divideLong rfl rfl (by omega) (by omega) (fun hbr => ?_) (fun hbr => False.elim (by omega))
    refine K w t f h _ _ S eN eA eo (fun i hi => hd i (by omega)) (by simpa using hlt) (fun i hi => hh i (by omega) hi) ?_
    rw [hE, Nat.sub_zero, Int.pow_zero, Int.mul_one, Nat.zero_add]; rfl
  | succ k ih =>
    intro w t f h y9 y10 hk S eN eA eo hd hlt hh hE
    have e1 : ((k + 1 : Nat) : Int) - 1 = (k : Int) := by omega
    rw [e1]
    have et : t 19 = (e, cp, g, (m : Int), q) := by rw [eo 19 hN19 hA19]; exact e19
    have hD := SW_const S hD0 no18.1 no18.2
    have hw := SW_TW' S hN eN
    have ho := SW_OW' S hN i19 hN19 eN et
    -- the part that is divided
    have hUat : dw f (k + 1 + m) = dw f k + 1000000000 ^ k * dvB 1000000000 f k (m + 1) := by rw [show k + 1 + m = k + (m + 1) by omega, dw_at]
    have lowf := dw_nn (f := f) (n := k) (fun i hi => hd i (by omega))
    have lowf1 := dw_lt (f := f) (n := k) (fun i hi => hd i (by omega))
    have Pk : (0 : Int) < 1000000000 ^ k := Int.pow_pos (by decide)
    have hU3 := dw_top3 (f := f) (i := k) hm
    have hUn : 0 ≤ dvB 1000000000 f k (m + 1) := dvB_nonneg (by decide) (fun i hi => by have := hd (k + i) (by omega); rw [show (k : Int) + i = ((k + i : Nat) : Int) by omega]; exact this.1)
    have Ul0 : 0 ≤ dvB 1000000000 f k (m - 2) := dvB_nonneg (by decide) (fun i hi => by have := hd (k + i) (by omega); rw [show (k : Int) + i = ((k + i : Nat) : Int) by omega]; exact this.1)
    have Ul1 : dvB 1000000000 f k (m - 2) < 1000000000 ^ (m - 2) := dvB_lt (by decide) (fun i hi => by have := hd (k + i) (by omega); rw [show (k : Int) + i = ((k + i : Nat) : Int) by omega]; exact this)
    generalize hUU : dvB 1000000000 f k (m + 1) = U at *
    have hUV : U < 1000000000 * VV := by
      refine Classical.byContradiction (fun hn => ?_)
      have h1 : 1000000000 ^ k * (1000000000 * VV) ≤ 1000000000 ^ k * U := Int.mul_le_mul_of_nonneg_left (by omega) (by omega)
      have h2 : VV * 1000000000 ^ (k + 1) = 1000000000 ^ k * (1000000000 * VV) := by rw [Int.pow_succ]; grind
      omega
    have uT := hd (k + m) (by omega)
    have uT1 := hd (k + m - 1) (by omega)
    have uT2 := hd (k + m - 2) (by omega)
    have hfT : f (k + m : Nat) ≤ g (m - 1 : Nat) := by
      refine Classical.byContradiction (fun hn => ?_)
      have hx : (g (m - 1 : Nat) + 1) * 1000000000 * 1000000000 ≤ (f (k + m : Nat) * 1000000000 + f (k + m - 1 : Nat)) * 1000000000 + f (k + m - 2 : Nat) := by omega
      have h1 : 1000000000 ^ (m - 2) * ((g (m - 1 : Nat) + 1) * 1000000000 * 1000000000) ≤ 1000000000 ^ (m - 2) * ((f (k + m : Nat) * 1000000000 + f (k + m - 1 : Nat)) * 1000000000 + f (k + m - 2 : Nat)) := Int.mul_le_mul_of_nonneg_left hx (by omega)
      have h2 : 1000000000 ^ (m - 2) * (g (m - 1 : Nat) * 1000000000 + g (m - 2 : Nat)) ≤ 1000000000 ^ (m - 2) * ((g (m - 1 : Nat) + 1) * 1000000000 - 1) := Int.mul_le_mul_of_nonneg_left (by omega) (by omega)
      have h3 : 1000000000 * (1000000000 ^ (m - 2) * ((g (m - 1 : Nat) + 1) * 1000000000 - 1) + 1000000000 ^ (m - 2)) = 1000000000 ^ (m - 2) * ((g (m - 1 : Nat) + 1) * 1000000000 * 1000000000) := by grind
      omega
    refine fi_step (pc' := 91) m_Di_divideLong rfl rfl ?_
    refine s_if_lt (p := 94) m_Di_divideLong rfl rfl (by omega) (by omega) (fun hbr => False.elim (by omega)) (fun hbr => ?_)
    refine fi_step (pc' := 95) m_Di_divideLong rfl rfl ?_
    refine fi_step (pc' := 96) m_Di_divideLong rfl rfl ?_
    refine fi_step (pc' := 98) m_Di_divideLong rfl rfl ?_
    refine fi_step (pc' := 100) m_Di_divideLong rfl rfl ?_
    refine s_iadd (p := 101) m_Di_divideLong rfl rfl ?_
    rw [show (k : Int) + m = ((k + m : Nat) : Int) by omega]
    refine g_3 (p := 104) m_Di_divideLong rfl inv_v (by decide) m_Di_guess rfl rfl (by omega) (by omega) (Nat.le_of_ble_eq_true rfl) (Nat.le_of_ble_eq_true rfl) (rcv18 hD _) (h_guess (T := k + m) (m := m) hD hw (by omega) (by omega) (by omega) ho (by omega) hm hmc rfl rfl (fun i hi => hd i (by omega)) hd13 gt.2 gt2.1 gt2.2 hfT) (fun v w hP => ?_)
    obtain ⟨rfl, dg, rfl, hgs⟩ := hP
    have hok := gss_ok hgs Pm2 hU3 Ul0 Ul1 hV2 lowV lowV1 hUV hUn hd13 gt2.1 uT2.1 uT2.2 gt2.2
    have hg0 := hgs.1
    have hg1 := hgs.2.1
    have eq := Int.emod_add_mul_ediv U VV
    have m0 := Int.emod_nonneg U (show VV ≠ 0 by omega)
    have m1 := Int.emod_lt_of_pos U VV0
    have q0 : 0 ≤ U / VV := Int.ediv_nonneg hUn (by omega)
    have q1 : U / VV < 1000000000 := Int.ediv_lt_of_lt_mul VV0 hUV
    generalize hqq : U / VV = qd at *
    generalize hrr : U % VV = rr at *
    -- what is left
    have hleft : ∀ f2 : Int → Int, dw f2 (k + m + 1) = dw f k + 1000000000 ^ k * rr → (∀ i : Nat, i + 1 < k + m + 1 → 0 ≤ f2 i ∧ f2 i < 1000000000) → f2 (k + m : Nat) = 0 ∧ dw f2 (k + m) = dw f k + 1000000000 ^ k * rr ∧ dw f2 (k + m) < VV * 1000000000 ^ k := by
      intro f2 hv2 hd2
      have h1 : 1000000000 ^ k * rr ≤ 1000000000 ^ k * (VV - 1) := Int.mul_le_mul_of_nonneg_left (by omega) (by omega)
      have h2 : 1000000000 ^ k * (VV - 1) = VV * 1000000000 ^ k - 1000000000 ^ k := by grind
      have h3 : VV * 1000000000 ^ k ≤ 1000000000 ^ m * 1000000000 ^ k := Int.mul_le_mul_of_nonneg_right (by omega) (by omega)
      have h4 : (1000000000 : Int) ^ (k + m) = 1000000000 ^ m * 1000000000 ^ k := by rw [Int.pow_add]; exact Int.mul_comm ..
      have h5 := Int.mul_nonneg (Int.le_of_lt Pk) m0
      have ht := (top_val (f := f2) (t := k + m) (fun i hi => hd2 i (by omega))).1 (by omega) (by omega)
      have h6 : dw f2 (k + m + 1) = dw f2 (k + m) := by rw [dw_succ, ht, Int.zero_mul, Int.add_zero]
      exact ⟨ht, by omega, by omega⟩
    have store : ∀ (w : ax_W) (t : Nat → WD) (f2 : Int → Int), SW w0 w t L Z → t N = (dN, capN, f2, nN, 0) → t A = (dA, capA, h, 0, 0) → (∀ j, j ≠ N → j ≠ A → t j = T0 j) → (∀ i : Nat, i + 1 < k + m + 1 → 0 ≤ f2 i ∧ f2 i < 1000000000) → (∀ i : Nat, k + m + 1 ≤ i → f2 i = f i) → dw f2 (k + m + 1) = dw f k + 1000000000 ^ k * rr → fin xs fr lo 67 163 [some (.ref 18), some (.ref N), some (.ref V), some (.ref A), some (.int (jI m)), some (.long (jL s)), none, some (.int (jI first)), some (.int (jI k)), some (.long (jL qd)), none] [] w Q := by
      intro w t f2 S eN eA eo hd2 hs2 hv2
      obtain ⟨z1, z2, z3⟩ := hleft f2 hv2 hd2
      have hw := SW_TW' S hA eA
      refine fi_step (pc' := 164) m_Di_divideLong rfl rfl ?_
      first | refine t_get (p := 167) m_Di_divideLong rfl rfl (by assumption) rfl ?_ | refine o_get (p := 167) m_Di_divideLong rfl rfl (by assumption) (by assumption) rfl ?_
      refine fi_step (pc' := 169) m_Di_divideLong rfl rfl ?_
      refine fi_step (pc' := 171) m_Di_divideLong rfl rfl ?_
      refine s_l2i (p := 172) m_Di_divideLong rfl rfl ?_
      refine t_st (p := 173) m_Di_divideLong rfl rfl (by assumption) (by omega) (by omega) (by omega) (fun w hw => ?_)
      obtain ⟨t2, S2, eA2, eo2⟩ := SW_back' S hA eA hw (XT_refl _ _ _ _)
      refine s_iinc (p := 176) m_Di_divideLong rfl rfl rfl ?_
      refine fi_step (pc' := 89) m_Di_divideLong rfl rfl ?_
      rw [show (k : Int) + -1 = (k : Int) - 1 by omega]
      refine ih w t2 f2 _ _ _ (by omega) S2 (by rw [eo2 N (fun e' => hNA e'.symm)]; exact eN) eA2 (fun j h1 h2 => by rw [eo2 j h2]; exact eo j h1 h2) (fun i hi => ?_) z3 (fun i h0 h1 => ?_) ?_
      · by_cases h2 : i + 1 < k + m + 1
        · exact hd2 i h2
        · by_cases h3 : i = k + m
          · subst h3; rw [z1]; omega
          · rw [hs2 i (by omega)]; exact hd i hi
      · by_cases h2 : i = k
        · subst h2; rw [up1_same]; omega
        · rw [up1_ne _ (by omega)]; exact hh i (by omega) h1
      · rw [hE, hUat, z2, show first + 1 - k = (first + 1 - (k + 1)) + 1 by omega, dvB_low, up1_same, show (k : Int) + 1 = ((k + 1 : Nat) : Int) by omega, dvB_up_out (by omega), Int.pow_succ, ← eq]
        generalize dvB 1000000000 h ((k + 1 : Nat) : Int) (first + 1 - (k + 1)) = D
        grind
    refine fi_step (pc' := 106) m_Di_divideLong rfl rfl ?_
    refine fi_step (pc' := 107) m_Di_divideLong rfl rfl ?_
    refine fi_step (pc' := 108) m_Di_divideLong rfl rfl ?_
    refine k_get (p := 111) m_Di_divideLong rfl rfl (by assumption) rfl ?_
    refine fi_step (pc' := 113) m_Di_divideLong rfl rfl ?_
    refine s_lneg (p := 114) m_Di_divideLong rfl rfl ?_
    refine fi_step (pc' := 116) m_Di_divideLong rfl rfl ?_
    refine fi_step (pc' := 118) m_Di_divideLong rfl rfl ?_
    refine fi_step (pc' := 120) m_Di_divideLong rfl rfl ?_
    refine s_iadd (p := 121) m_Di_divideLong rfl rfl ?_
    refine fi_step (pc' := 122) m_Di_divideLong rfl rfl ?_
    refine s_iadd (p := 123) m_Di_divideLong rfl rfl ?_
    rw [show (k : Int) + m + 1 = ((k + m + 1 : Nat) : Int) by omega]
    have hFe : dw f (k + m + 1) = dw f k + 1000000000 ^ k * U := by rw [show k + m + 1 = k + 1 + m by omega]; exact hUat
    refine g_5 (p := 126) m_Di_divideLong rfl inv_v (by decide) m_Wh_addLine rfl rfl (by omega) (by omega) (Nat.le_of_ble_eq_true rfl) (Nat.le_of_ble_eq_true rfl) (TW_rcv hw _) (h_addLine (F := -dg) (sh := k) (top := k + m + 1) hw (by omega) (by omega) (by omega) ho hmc hg (by omega) (by omega) (by omega) (fun i hi => hd i (by omega)) (by rw [show k + m + 1 - 1 = k + m by omega]; omega) (by rw [show k + m + 1 - 1 = k + m by omega]; omega)) (fun v w hP => ?_)
    obtain ⟨rfl, f1, hw1, hd1, hs1, hv1⟩ := hP
    rw [hVV, hFe] at hv1
    obtain ⟨t1, S1, eN1, eo1⟩ := SW_back' S hN eN hw1 (XT_refl _ _ _ _)
    have hw := SW_TW' S1 hN eN1
    have et1 : t1 19 = (e, cp, g, (m : Int), q) := by rw [eo1 19 hN19]; exact et
    have ho1 := SW_OW' S1 hN i19 hN19 eN1 et1
    have hD := SW_const S1 hD0 no18.1 no18.2
    have eA1 : t1 A = (dA, capA, h, 0, 0) := by rw [eo1 A hNA]; exact eA
    have eo1' : ∀ j, j ≠ N → j ≠ A → t1 j = T0 j := fun j h1 h2 => by rw [eo1 j h1]; exact eo j h1 h2
    by_cases hdq : dg = qd
    · have hv2 : dw f1 (k + m + 1) = dw f k + 1000000000 ^ k * rr := by rw [hv1, hdq, ← eq]; grind
      have hz := hleft f1 hv2 hd1
      have hz1 := hz.1
      rw [show ((k + m : Nat) : Int) = (k : Int) + m by omega] at hz1
      rw [hdq]
      refine fi_step (pc' := 127) m_Di_divideLong rfl rfl ?_
      first | refine t_get (p := 130) m_Di_divideLong rfl rfl (by assumption) rfl ?_ | refine o_get (p := 130) m_Di_divideLong rfl rfl (by assumption) (by assumption) rfl ?_
      refine fi_step (pc' := 132) m_Di_divideLong rfl rfl ?_
      refine fi_step (pc' := 134) m_Di_divideLong rfl rfl ?_
      refine s_iadd (p := 135) m_Di_divideLong rfl rfl ?_
      first | refine t_ld (p := 136) m_Di_divideLong rfl rfl (by assumption) (by omega) (by omega) (by omega) ?_ | refine o_ld (p := 136) m_Di_divideLong rfl rfl (by assumption) (by assumption) (by omega) (by omega) (by omega) ?_
      refine s_if_ge (p := 139) m_Di_divideLong rfl rfl (by omega) (by omega) (fun hbr => ?_) (fun hbr => False.elim (by omega))
      exact store _ t1 f1 S1 eN1 eA1 eo1' hd1 hs1 hv2
    · have hdq' : dg = qd + 1 := by omega
      have hv2 : dw f1 (k + m + 1) = dw f k + 1000000000 ^ k * (rr - VV) := by rw [hv1, hdq', ← eq]; grind
      have hneg : f1 (k + m : Nat) = -1 := by
        refine (top_val (f := f1) (t := k + m) (fun i hi => hd1 i (by omega))).2 ?_ ?_
        · rw [hv2]
          have h1 : 1000000000 ^ k * (rr - VV) ≤ 1000000000 ^ k * (-1) := Int.mul_le_mul_of_nonneg_left (by omega) (by omega)
          omega
        · rw [hv2]
          have h3 : 1000000000 ^ k * (-(1000000000 ^ m)) ≤ 1000000000 ^ k * (rr - VV) := Int.mul_le_mul_of_nonneg_left (by omega) (by omega)
          have h4 : (1000000000 : Int) ^ (k + m) = 1000000000 ^ k * 1000000000 ^ m := Int.pow_add ..
          rw [Int.mul_neg] at h3
          omega
      have hneg' := hneg
      rw [show ((k + m : Nat) : Int) = (k : Int) + m by omega] at hneg'
      refine fi_step (pc' := 127) m_Di_divideLong rfl rfl ?_
      first | refine t_get (p := 130) m_Di_divideLong rfl rfl (by assumption) rfl ?_ | refine o_get (p := 130) m_Di_divideLong rfl rfl (by assumption) (by assumption) rfl ?_
      refine fi_step (pc' := 132) m_Di_divideLong rfl rfl ?_
      refine fi_step (pc' := 134) m_Di_divideLong rfl rfl ?_
      refine s_iadd (p := 135) m_Di_divideLong rfl rfl ?_
      first | refine t_ld (p := 136) m_Di_divideLong rfl rfl (by assumption) (by omega) (by omega) (by omega) ?_ | refine o_ld (p := 136) m_Di_divideLong rfl rfl (by assumption) (by assumption) (by omega) (by omega) (by omega) ?_
      refine s_if_ge (p := 139) m_Di_divideLong rfl rfl (by omega) (by omega) (fun hbr => False.elim (by omega)) (fun hbr => ?_)
      refine fi_step (pc' := 140) m_Di_divideLong rfl rfl ?_
      refine fi_step (pc' := 141) m_Di_divideLong rfl rfl ?_
      refine k_get (p := 144) m_Di_divideLong rfl rfl (by assumption) rfl ?_
      refine s_lconst (p := 145) (v := 1) m_Di_divideLong rfl rfl rfl ?_
      refine fi_step (pc' := 147) m_Di_divideLong rfl rfl ?_
      refine fi_step (pc' := 149) m_Di_divideLong rfl rfl ?_
      refine fi_step (pc' := 151) m_Di_divideLong rfl rfl ?_
      refine s_iadd (p := 152) m_Di_divideLong rfl rfl ?_
      refine fi_step (pc' := 153) m_Di_divideLong rfl rfl ?_
      refine s_iadd (p := 154) m_Di_divideLong rfl rfl ?_
      rw [show (k : Int) + m + 1 = ((k + m + 1 : Nat) : Int) by omega]
      refine g_5 (p := 157) m_Di_divideLong rfl inv_v (by decide) m_Wh_addLine rfl rfl (by omega) (by omega) (Nat.le_of_ble_eq_true rfl) (Nat.le_of_ble_eq_true rfl) (TW_rcv hw _) (h_addLine (F := 1) (sh := k) (top := k + m + 1) hw (by omega) (by omega) (by omega) ho1 hmc hg (by omega) (by omega) (by omega) hd1 (by rw [show k + m + 1 - 1 = k + m by omega]; omega) (by rw [show k + m + 1 - 1 = k + m by omega]; omega)) (fun v w hP => ?_)
      obtain ⟨rfl, f3, hw3, hd3, hs3, hv3⟩ := hP
      rw [hVV, hv2] at hv3
      obtain ⟨t3, S3, eN3, eo3⟩ := SW_back' S1 hN eN1 hw3 (XT_refl _ _ _ _)
      have hD := SW_const S3 hD0 no18.1 no18.2
      rw [hdq']
      refine fi_step (pc' := 159) m_Di_divideLong rfl rfl ?_
      refine s_lconst (p := 160) (v := 1) m_Di_divideLong rfl rfl rfl ?_
      refine s_lsub (p := 161) m_Di_divideLong rfl rfl ?_
      refine fi_step (pc' := 163) m_Di_divideLong rfl rfl ?_
      rw [show qd + 1 - 1 = qd by omega]
      exact store _ t3 f3 S3 eN3 (by rw [eo3 A hNA]; exact eA1) (fun j h1 h2 => by rw [eo3 j h1]; exact eo1' j h1 h2) hd3 (fun i hi => by rw [hs3 i hi]; exact hs1 i hi) (by rw [hv3]; grind)
end DIVL
