/-! THE CLASS: common divisors, least terms -/
section LOW
variable {xs : List Int32} {fr lo : Nat} {w0 w : ax_W} {v : Nat → Int} {L Z : Nat} {Q : Outcome → ax_W → Prop}
theorem n_becomeSelf {c : Nat} (h : SN w0 w v L Z) (hc : isWh c) (hfr : 1 ≤ fr) (hlo : 100 ≤ lo) :
    fin xs fr lo 64 0 (ax_ent [.ref c, .ref c] 2) [] w (Ret fun u w' => u = none ∧ SN w0 w' v L Z) := by
  obtain ⟨t, S, hv⟩ := h
  obtain ⟨c1, c2, c3, c4⟩ := hv c hc
  have hT := SW_TW S hc
  have q1 := capB_le c
  obtain ⟨k, hk⟩ := len_nn c1
  rw [hk] at c1 c2 hT
  refine fi_mono (h_becomeSelf hT (by omega) (Wv_b c1) (by omega) hfr hlo) ?_
  rintro o w' ⟨u, rfl, hu, g1⟩
  refine ⟨u, rfl, hu, SN_congr (SN_got (K := capB c) S hv hc ⟨w, _, _, _, _, _, g1, XT_refl _ _ _ _, c1, by omega, Or.inl rfl⟩ (Nat.le_refl _)) (fun j hj => ?_)⟩
  by_cases e : j = c
  · subst e; rw [upv_same]
  · rw [upv_ne _ e]
theorem n_commonDivisor {c1 c2 kb : Nat} (hD0 : w0[18]? = some (1, [.ref 19, .ref 21, .ref 23, .ref 25, .ref 27])) (h : SN w0 w v L Z) (h1 : isWh c1) (h2 : isWh c2) (h12 : c1 ≠ c2) (x1 : 19 ≠ c1 ∧ 21 ≠ c1 ∧ 27 ≠ c1) (x2 : 19 ≠ c2 ∧ 21 ≠ c2 ∧ 27 ≠ c2) (v27 : v 27 = 1) (b1 : ((v c1).natAbs : Int) < 1000000000 ^ kb) (b2 : ((v c2).natAbs : Int) < 1000000000 ^ kb) (K1 : kb + 35 ≤ capB c1) (K2 : kb + 35 ≤ capB c2) (K3 : kb + 35 ≤ capB 19) (K4 : kb + 35 ≤ capB 21) (hfr : 5 ≤ fr) (hlo : 270 ≤ lo) :
    fin xs fr lo 95 0 (ax_ent [.ref 18, .ref c1, .ref c2] 7) [] w (Ret fun u w' => u = none ∧ ∃ y, SN w0 w' y L Z ∧ y c1 = (Int.gcd (v c1) (v c2) : Int) ∧ ∀ j, j ≠ c1 → j ≠ c2 → j ≠ 19 → j ≠ 21 → y j = v j) := by
  have kb' : kb ≤ 1700 := by have := capB_le c1; omega
  obtain ⟨d, cap, f, k, b, e, cp, g, m, q, hw, W1, W2, _, _, _, _, _, _, _, back⟩ := SN_raw h h1 h2 (fun e => h12 e.symm)
  refine fi_step (pc' := 1) m_Di_commonDivisor rfl rfl ?_
  refine fi_step (pc' := 2) m_Di_commonDivisor rfl rfl ?_
  refine t_put2 (p := 5) m_Di_commonDivisor rfl rfl (by assumption) (by first | exact Or.inl rfl | exact Or.inr rfl | assumption | omega) (fun w hw => ?_)
  have hS := back w f k 0 _ hw (Wv_pos W1) (by omega)
  have a2 : upv v c1 ((v c1).natAbs : Int) c2 = v c2 := upv_ne _ (fun e => h12 e.symm) _
  obtain ⟨d', cap', f', k', b', e', cp', g', m', q', hw, W1', W2', _, _, _, _, _, _, _, back'⟩ := SN_raw hS h2 h1 h12
  rw [a2] at W1'
  refine fi_step (pc' := 6) m_Di_commonDivisor rfl rfl ?_
  refine fi_step (pc' := 7) m_Di_commonDivisor rfl rfl ?_
  refine t_put2 (p := 10) m_Di_commonDivisor rfl rfl (by assumption) (by first | exact Or.inl rfl | exact Or.inr rfl | assumption | omega) (fun w hw => ?_)
  have hS2 := back' w f' k' 0 _ hw (Wv_pos W1') (by omega)
  have a1 : upv (upv v c1 ((v c1).natAbs : Int)) c2 ((v c2).natAbs : Int) c1 = ((v c1).natAbs : Int) := by rw [upv_ne _ h12, upv_same]
  have a2 : upv (upv v c1 ((v c1).natAbs : Int)) c2 ((v c2).natAbs : Int) c2 = ((v c2).natAbs : Int) := upv_same ..
  have ao : ∀ j, j ≠ c1 → j ≠ c2 → j ≠ 19 → j ≠ 21 → upv (upv v c1 ((v c1).natAbs : Int)) c2 ((v c2).natAbs : Int) j = v j := fun j j1 j2 _ _ => by rw [upv_ne _ j2, upv_ne _ j1]
  refine fi_step (pc' := 11) m_Di_commonDivisor rfl rfl ?_
  refine fi_step (pc' := 12) m_Di_commonDivisor rfl rfl ?_
  refine fi_step (pc' := 13) m_Di_commonDivisor rfl rfl ?_
  refine fi_step (pc' := 15) m_Di_commonDivisor rfl rfl ?_
  refine fi_step (pc' := 16) m_Di_commonDivisor rfl rfl ?_
  refine fi_step (pc' := 18) m_Di_commonDivisor rfl rfl ?_
  show fin xs fr lo 95 18 [some (.ref 18), some (.ref c1), some (.ref c2), some (.ref c1), some (.ref c2), some (.int (jI 0)), none] [] w _
  have p30 := pow30 kb
  refine cd_loop (v := v) (g0 := (Int.gcd (v c1) (v c2) : Int)) (kb := kb) hD0 h1 h2 h12 x1 x2 v27 K1 K2 K3 K4 hfr hlo ?_ (30 * kb) w c1 c2 _ 0 none hS2 (Or.inl ⟨rfl, rfl⟩) (by rw [a1]; omega) (by rw [a2]; omega) (by rw [a1]; omega) (by rw [a2]; omega) (by rw [a2]; omega) (by rw [a1, a2]; simp [Int.gcd]) ao (by omega) (by omega)
  intro w G Ls u s5 y6 hu hor uG uo ub
  by_cases hG : G = c1
  · subst hG
    refine fi_step (pc' := 61) m_Di_commonDivisor rfl rfl ?_
    refine fi_step (pc' := 62) m_Di_commonDivisor rfl rfl ?_
    refine g_2 (p := 65) m_Di_commonDivisor rfl inv_v (by decide) m_Wh_becomeW rfl rfl (by omega) (by omega) (Nat.le_of_ble_eq_true rfl) (Nat.le_of_ble_eq_true rfl) (SN_rcv hu h1 _) (n_becomeSelf hu h1 (by omega) (by omega)) (fun v w hP => ?_)
    obtain ⟨rfl, h3⟩ := hP
    refine p_ret m_Di_commonDivisor rfl rfl ?_
    exact ⟨rfl, u, h3, uG, uo⟩
  · obtain ⟨rfl, rfl⟩ : G = c2 ∧ Ls = c1 := by rcases hor with ⟨a, b⟩ | ⟨a, b⟩ <;> simp_all
    have ub' : ((u G).natAbs : Int) < 1000000000 ^ kb := by
      have e : ((1000000000 ^ kb : Nat) : Int) = 1000000000 ^ kb := by rw [Int.natCast_pow]; rfl
      omega
    refine fi_step (pc' := 61) m_Di_commonDivisor rfl rfl ?_
    refine fi_step (pc' := 62) m_Di_commonDivisor rfl rfl ?_
    refine g_2 (p := 65) m_Di_commonDivisor rfl inv_v (by decide) m_Wh_becomeW rfl rfl (by omega) (by omega) (Nat.le_of_ble_eq_true rfl) (Nat.le_of_ble_eq_true rfl) (SN_rcv hu h1 _) (n_becomeW (k := kb) hu h1 h2 hG ub' (by omega) (by omega) (by omega)) (fun v w hP => ?_)
    obtain ⟨rfl, h3⟩ := hP
    refine p_ret m_Di_commonDivisor rfl rfl ?_
    exact ⟨rfl, _, h3, by rw [upv_same, uG], fun j j1 j2 j9 j21 => by rw [upv_ne _ j1]; exact uo j j1 j2 j9 j21⟩
theorem n_lower {c kb : Nat} (hD0 : w0[18]? = some (1, [.ref 19, .ref 21, .ref 23, .ref 25, .ref 27])) (h : SN w0 w v L Z) (hc : isWh c) (xc : 19 ≠ c ∧ 21 ≠ c ∧ 23 ≠ c ∧ 27 ≠ c) (v27 : v 27 = 1) (v23 : 0 < v 23) (b1 : ((v c).natAbs : Int) < 1000000000 ^ kb) (b2 : v 23 < 1000000000 ^ kb) (K1 : kb + 35 ≤ capB c) (K3 : kb + 35 ≤ capB 19) (K4 : kb + 35 ≤ capB 21) (hfr : 5 ≤ fr) (hlo : 270 ≤ lo) :
    fin xs fr lo 102 0 (ax_ent [.ref 18, .ref c] 2) [] w (Ret fun u w' => u = none ∧ ∃ y, SN w0 w' y L Z ∧ y c = ((v c).natAbs : Int) / v 23 ∧ ∀ j, j ≠ c → j ≠ 19 → j ≠ 21 → y j = v j) := by
  have i21 : isWh 21 := isWh_iff.mpr (by omega)
  have i23 : isWh 23 := isWh_iff.mpr (by omega)
  obtain ⟨d, cap, f, k, b, e, cp, g, m, q, hw, W1, W2, _, _, _, _, _, _, _, back⟩ := SN_raw h hc i23 xc.2.2.1
  refine fi_step (pc' := 1) m_Di_lower rfl rfl ?_
  refine fi_step (pc' := 2) m_Di_lower rfl rfl ?_
  refine t_put2 (p := 5) m_Di_lower rfl rfl (by assumption) (by first | exact Or.inl rfl | exact Or.inr rfl | assumption | omega) (fun w hw => ?_)
  have hS := back w f k 0 _ hw (Wv_pos W1) (by omega)
  have a1 : upv v c ((v c).natAbs : Int) c = ((v c).natAbs : Int) := upv_same ..
  have a2 : upv v c ((v c).natAbs : Int) 23 = v 23 := upv_ne _ xc.2.2.1 _
  have a3 : upv v c ((v c).natAbs : Int) 27 = 1 := by rw [upv_ne _ xc.2.2.2]; exact v27
  have hD := SN_const hS hD0 no18.1 no18.2
  have q1 : ((v c).natAbs : Int) / v 23 ≤ ((v c).natAbs : Int) := Int.ediv_le_self _ (by omega)
  have q0 : 0 ≤ ((v c).natAbs : Int) / v 23 := Int.ediv_nonneg (by omega) (by omega)
  refine fi_step (pc' := 6) m_Di_lower rfl rfl ?_
  refine fi_step (pc' := 7) m_Di_lower rfl rfl ?_
  refine fi_step (pc' := 8) m_Di_lower rfl rfl ?_
  refine k_get (p := 11) m_Di_lower rfl rfl (by assumption) rfl ?_
  refine fi_step (pc' := 12) m_Di_lower rfl rfl ?_
  refine k_get (p := 15) m_Di_lower rfl rfl (by assumption) rfl ?_
  refine g_4 (p := 18) m_Di_lower rfl inv_v (by decide) m_Di_divide rfl rfl (by omega) (by omega) (Nat.le_of_ble_eq_true rfl) (Nat.le_of_ble_eq_true rfl) (rcv18 hD _) (n_divide (kb := kb) hD0 hS hc i23 i21 xc.2.2.1 xc.2.1 (by decide) xc.1 (by decide) (by decide) xc.2.2.2 (by decide) a3 (by rw [a2]; exact v23) (by rw [a1]; omega) (by rw [a2]; exact b2) K1 (by omega) (by omega) (by omega) (by omega)) (fun v w hP => ?_)
  obtain ⟨rfl, x, h3⟩ := hP
  rw [a1, a2] at h3
  have hD := SN_const h3 hD0 no18.1 no18.2
  have c21 : upv (upv (upv (upv v c ((v c).natAbs : Int)) 19 x) c (((v c).natAbs : Int) % v 23)) 21 (((v c).natAbs : Int) / v 23) 21 = ((v c).natAbs : Int) / v 23 := upv_same ..
  refine fi_step (pc' := 19) m_Di_lower rfl rfl ?_
  refine fi_step (pc' := 20) m_Di_lower rfl rfl ?_
  refine k_get (p := 23) m_Di_lower rfl rfl (by assumption) rfl ?_
  refine g_2 (p := 26) m_Di_lower rfl inv_v (by decide) m_Wh_becomeW rfl rfl (by omega) (by omega) (Nat.le_of_ble_eq_true rfl) (Nat.le_of_ble_eq_true rfl) (SN_rcv h3 hc _) (n_becomeW (k := kb) h3 hc i21 xc.2.1 (by rw [c21]; omega) (by omega) (by omega) (by omega)) (fun v w hP => ?_)
  obtain ⟨rfl, h4⟩ := hP
  rw [c21] at h4
  refine p_ret m_Di_lower rfl rfl ?_
  exact ⟨rfl, _, h4, upv_same .., fun j jc j9 j21 => by rw [upv_ne _ jc, upv_ne _ j21, upv_ne _ jc, upv_ne _ j9, upv_ne _ jc]⟩
theorem n_lowerTerms {c1 c2 kb : Nat} (hD0 : w0[18]? = some (1, [.ref 19, .ref 21, .ref 23, .ref 25, .ref 27])) (h : SN w0 w v L Z) (h1 : isWh c1) (h2 : isWh c2) (h12 : c1 ≠ c2) (x1 : 19 ≠ c1 ∧ 21 ≠ c1 ∧ 23 ≠ c1 ∧ 25 ≠ c1 ∧ 27 ≠ c1) (x2 : 19 ≠ c2 ∧ 21 ≠ c2 ∧ 23 ≠ c2 ∧ 25 ≠ c2 ∧ 27 ≠ c2) (v27 : v 27 = 1) (nz : v c2 ≠ 0) (b1 : ((v c1).natAbs : Int) < 1000000000 ^ kb) (b2 : ((v c2).natAbs : Int) < 1000000000 ^ kb) (kb0 : kb + 35 ≤ 700) (K1 : kb + 35 ≤ capB c1) (K2 : kb + 35 ≤ capB c2) (hfr : 6 ≤ fr) (hlo : 300 ≤ lo) :
    fin xs fr lo 101 0 (ax_ent [.ref 18, .ref c1, .ref c2] 3) [] w (Ret fun u w' => u = none ∧ ∃ y, SN w0 w' y L Z ∧ y c1 = ((v c1).natAbs / Int.gcd (v c1) (v c2) : Nat) ∧ y c2 = ((v c2).natAbs / Int.gcd (v c1) (v c2) : Nat) ∧ ∀ j, j ≠ c1 → j ≠ c2 → j ≠ 19 → j ≠ 21 → j ≠ 23 → j ≠ 25 → y j = v j) := by
  have i23 : isWh 23 := isWh_iff.mpr (by omega)
  have i25 : isWh 25 := isWh_iff.mpr (by omega)
  have q19 : capB 19 = 700 := rfl
  have q21 : capB 21 = 700 := rfl
  have q23 : capB 23 = 700 := rfl
  have q25 : capB 25 = 700 := rfl
  have hD := SN_const h hD0 no18.1 no18.2
  refine fi_step (pc' := 1) m_Di_lowerTerms rfl rfl ?_
  refine k_get (p := 4) m_Di_lowerTerms rfl rfl (by assumption) rfl ?_
  refine fi_step (pc' := 5) m_Di_lowerTerms rfl rfl ?_
  refine g_2 (p := 8) m_Di_lowerTerms rfl inv_v (by decide) m_Wh_becomeW rfl rfl (by omega) (by omega) (Nat.le_of_ble_eq_true rfl) (Nat.le_of_ble_eq_true rfl) (SN_rcv h i23 _) (n_becomeW (k := kb) h i23 h1 (fun e => x1.2.2.1 e.symm) b1 (by omega) (by omega) (by omega)) (fun v w hP => ?_)
  obtain ⟨rfl, h3⟩ := hP
  have hD := SN_const h3 hD0 no18.1 no18.2
  have a2 : upv v 23 (v c1) c2 = v c2 := upv_ne _ (fun e => x2.2.2.1 e.symm) _
  refine fi_step (pc' := 9) m_Di_lowerTerms rfl rfl ?_
  refine k_get (p := 12) m_Di_lowerTerms rfl rfl (by assumption) rfl ?_
  refine fi_step (pc' := 13) m_Di_lowerTerms rfl rfl ?_
  refine g_2 (p := 16) m_Di_lowerTerms rfl inv_v (by decide) m_Wh_becomeW rfl rfl (by omega) (by omega) (Nat.le_of_ble_eq_true rfl) (Nat.le_of_ble_eq_true rfl) (SN_rcv h3 i25 _) (n_becomeW (k := kb) h3 i25 h2 (fun e => x2.2.2.2.1 e.symm) (by rw [a2]; exact b2) (by omega) (by omega) (by omega)) (fun v w hP => ?_)
  obtain ⟨rfl, h4⟩ := hP
  rw [a2] at h4
  have hD := SN_const h4 hD0 no18.1 no18.2
  have d23 : upv (upv v 23 (v c1)) 25 (v c2) 23 = v c1 := by rw [upv_ne _ (by decide), upv_same]
  have d25 : upv (upv v 23 (v c1)) 25 (v c2) 25 = v c2 := upv_same ..
  have d27 : upv (upv v 23 (v c1)) 25 (v c2) 27 = 1 := by rw [upv_ne _ (by decide), upv_ne _ (by decide)]; exact v27
  refine fi_step (pc' := 17) m_Di_lowerTerms rfl rfl ?_
  refine fi_step (pc' := 18) m_Di_lowerTerms rfl rfl ?_
  refine k_get (p := 21) m_Di_lowerTerms rfl rfl (by assumption) rfl ?_
  refine fi_step (pc' := 22) m_Di_lowerTerms rfl rfl ?_
  refine k_get (p := 25) m_Di_lowerTerms rfl rfl (by assumption) rfl ?_
  refine g_3 (p := 28) m_Di_lowerTerms rfl inv_v (by decide) m_Di_commonDivisor rfl rfl (by omega) (by omega) (Nat.le_of_ble_eq_true rfl) (Nat.le_of_ble_eq_true rfl) (rcv18 hD _) (n_commonDivisor (kb := kb) hD0 h4 i23 i25 (by decide) (by decide) (by decide) d27 (by rw [d23]; exact b1) (by rw [d25]; exact b2) (by omega) (by omega) (by omega) (by omega) (by omega) (by omega)) (fun v w hP => ?_)
  obtain ⟨rfl, y, h5, y23, yo⟩ := hP
  rw [d23, d25] at y23
  have hD := SN_const h5 hD0 no18.1 no18.2
  have yk : ∀ j, j ≠ 19 → j ≠ 21 → j ≠ 23 → j ≠ 25 → y j = v j := fun j j9 j21 j23 j25 => by rw [yo j j23 j25 j9 j21, upv_ne _ j25, upv_ne _ j23]
  have yc1 : y c1 = v c1 := yk c1 (fun e => x1.1 e.symm) (fun e => x1.2.1 e.symm) (fun e => x1.2.2.1 e.symm) (fun e => x1.2.2.2.1 e.symm)
  have yc2 : y c2 = v c2 := yk c2 (fun e => x2.1 e.symm) (fun e => x2.2.1 e.symm) (fun e => x2.2.2.1 e.symm) (fun e => x2.2.2.2.1 e.symm)
  have y27 : y 27 = 1 := by rw [yk 27 (by decide) (by decide) (by decide) (by decide)]; exact v27
  have gpos : 0 < Int.gcd (v c1) (v c2) := Nat.pos_of_ne_zero (fun e => nz (Int.gcd_eq_zero_iff.mp e).2)
  have gle : Int.gcd (v c1) (v c2) ≤ (v c2).natAbs := Nat.le_of_dvd (by omega) (Int.natAbs_dvd_natAbs.mpr (Int.gcd_dvd_right ..))
  refine fi_step (pc' := 29) m_Di_lowerTerms rfl rfl ?_
  refine fi_step (pc' := 30) m_Di_lowerTerms rfl rfl ?_
  refine g_2 (p := 33) m_Di_lowerTerms rfl inv_v (by decide) m_Di_lower rfl rfl (by omega) (by omega) (Nat.le_of_ble_eq_true rfl) (Nat.le_of_ble_eq_true rfl) (rcv18 hD _) (n_lower (kb := kb) hD0 h5 h1 ⟨x1.1, x1.2.1, x1.2.2.1, x1.2.2.2.2⟩ y27 (by rw [y23]; omega) (by rw [yc1]; exact b1) (by rw [y23]; omega) K1 (by omega) (by omega) (by omega) (by omega)) (fun v w hP => ?_)
  obtain ⟨rfl, y', h6, y1, yo'⟩ := hP
  rw [yc1, y23] at y1
  have hD := SN_const h6 hD0 no18.1 no18.2
  have y'c2 : y' c2 = v c2 := by rw [yo' c2 (fun e => h12 e.symm) (fun e => x2.1 e.symm) (fun e => x2.2.1 e.symm)]; exact yc2
  have y'23 : y' 23 = (Int.gcd (v c1) (v c2) : Int) := by rw [yo' 23 x1.2.2.1 (by decide) (by decide)]; exact y23
  have y'27 : y' 27 = 1 := by rw [yo' 27 x1.2.2.2.2 (by decide) (by decide)]; exact y27
  refine fi_step (pc' := 34) m_Di_lowerTerms rfl rfl ?_
  refine fi_step (pc' := 35) m_Di_lowerTerms rfl rfl ?_
  refine g_2 (p := 38) m_Di_lowerTerms rfl inv_v (by decide) m_Di_lower rfl rfl (by omega) (by omega) (Nat.le_of_ble_eq_true rfl) (Nat.le_of_ble_eq_true rfl) (rcv18 hD _) (n_lower (kb := kb) hD0 h6 h2 ⟨x2.1, x2.2.1, x2.2.2.1, x2.2.2.2.2⟩ y'27 (by rw [y'23]; omega) (by rw [y'c2]; exact b2) (by rw [y'23]; omega) K2 (by omega) (by omega) (by omega) (by omega)) (fun v w hP => ?_)
  obtain ⟨rfl, z, h7, z2, zo⟩ := hP
  rw [y'c2, y'23] at z2
  refine p_ret m_Di_lowerTerms rfl rfl ?_
  refine ⟨rfl, z, h7, ?_, ?_, fun j j1 j2 j9 j21 j23 j25 => ?_⟩
  · rw [zo c1 h12 (fun e => x1.1 e.symm) (fun e => x1.2.1 e.symm), y1]; rfl
  · rw [z2]; rfl
  · rw [zo j j2 j9 j21, yo' j j1 j9 j21, yk j j9 j21 j23 j25]
end LOW
