/-! THE CLASS: long division as a whole -/
theorem Wv_nn {f : Int → Int} {k : Nat} {b v : Int} (h : Wv f k b v) (v0 : 0 ≤ v) : b = 0 ∧ dgs f k ∧ dw f k = v ∧ (0 < v → 1 ≤ k ∧ f (k - 1 : Nat) ≠ 0) := by
  have hn := Wv_neg h
  have hz := Wv_zero h
  have hb := Wv_b h
  obtain ⟨_, hk, hd, hl, hs⟩ := h
  obtain rfl := Int.ofNat.inj hk
  refine ⟨by omega, hd, by rcases hs with ⟨_, e⟩ | ⟨_, _, e⟩ <;> omega, fun hp => ?_⟩
  have : k ≠ 0 := fun e => by have := hz.mpr (by omega); omega
  exact ⟨by omega, hl (k - 1) (by omega)⟩
theorem len_ge {f : Int → Int} {k m : Nat} {b v : Int} (h : Wv f k b v) (hv : 1000000000 ^ m ≤ (v.natAbs : Int)) : m < k := by
  obtain ⟨_, hk, hd, e⟩ := Wv_abs h
  obtain rfl := Int.ofNat.inj hk
  have := dw_lt hd
  exact pow_inj_lt (B := 1000000000) (by decide) (by omega)
theorem len_nn {f : Int → Int} {n b v : Int} (h : Wv f n b v) : ∃ k : Nat, n = k := by obtain ⟨k, e, _⟩ := h; exact ⟨k, e⟩
theorem scale_ok {v : Int} (v0 : 1 ≤ v) (v1 : v < 1000000000) : 1 ≤ 1000000000 / (v + 1) ∧ 1000000000 / (v + 1) ≤ 1000000000 ∧ (v + 1) * (1000000000 / (v + 1)) ≤ 1000000000 ∧ 1000000000 ≤ 3 * (v * (1000000000 / (v + 1))) := by
  have e := Int.emod_add_mul_ediv 1000000000 (v + 1)
  have m0 := Int.emod_nonneg 1000000000 (show v + 1 ≠ 0 by omega)
  have m1 := Int.emod_lt_of_pos 1000000000 (show 0 < v + 1 by omega)
  have s1 : 1 ≤ 1000000000 / (v + 1) := Int.le_ediv_of_mul_le (by omega) (by omega)
  generalize 1000000000 / (v + 1) = s at *
  have h1 : (v + 1) * s = v * s + s := by grind
  have h2 : 1 * s ≤ v * s := Int.mul_le_mul_of_nonneg_right v0 (by omega)
  have h3 : v * 1 ≤ v * s := Int.mul_le_mul_of_nonneg_left s1 (by omega)
  omega
section DIVL2
variable {xs : List Int32} {fr lo : Nat} {w0 : ax_W} {Q : Outcome → ax_W → Prop} {L Z : Nat}
theorem n_divideLong {N V A kb : Nat} {w : ax_W} {v : Nat → Int} (hD0 : w0[18]? = some (1, [.ref 19, .ref 21, .ref 23, .ref 25, .ref 27])) (h : SN w0 w v L Z) (hN : isWh N) (hV : isWh V) (hA : isWh A) (n1 : V ≠ N) (n2 : A ≠ N) (n3 : A ≠ V) (x1 : 19 ≠ N) (x2 : 19 ≠ V) (x3 : 19 ≠ A) (vA : v A = 0) (vV : 1000000000 ≤ v V) (vN : v V ≤ v N) (hb : v N < 1000000000 ^ kb) (K1 : kb + 34 ≤ capB N) (K2 : kb + 34 ≤ capB A) (K3 : kb + 34 ≤ capB 19) (hfr : 3 ≤ fr) (hlo : 200 ≤ lo) :
    fin xs fr lo 67 0 (ax_ent [.ref 18, .ref N, .ref V, .ref A] 11) [] w (Ret fun u w' => u = none ∧ ∃ x, SN w0 w' (upv (upv (upv v 19 x) N (v N % v V)) A (v N / v V)) L Z) := by
  have i19 : isWh 19 := isWh_iff.mpr (by omega)
  obtain ⟨t, S, hv⟩ := h
  obtain ⟨N1, N2, N3, N4⟩ := hv N hN
  obtain ⟨V1, V2, V3, V4⟩ := hv V hV
  obtain ⟨A1, A2, A3, A4⟩ := hv A hA
  obtain ⟨S1, S2, S3, S4⟩ := hv 19 i19
  have qN := capB_le N
  have qV := capB_le V
  have qA := capB_le A
  have q19 := capB_le 19
  obtain ⟨dN, capN, f, nN, bN, hN'⟩ : ∃ d c f n b, t N = (d, c, f, n, b) := ⟨_, _, _, _, _, rfl⟩
  obtain ⟨dV, capV, gv, nV, bV, hV'⟩ : ∃ d c f n b, t V = (d, c, f, n, b) := ⟨_, _, _, _, _, rfl⟩
  obtain ⟨dA, capA, h0, nA, bA, hA'⟩ : ∃ d c f n b, t A = (d, c, f, n, b) := ⟨_, _, _, _, _, rfl⟩
  obtain ⟨d9, cap9, f9, n9, b9, h9'⟩ : ∃ d c f n b, t 19 = (d, c, f, n, b) := ⟨_, _, _, _, _, rfl⟩
  rw [hN'] at N1 N2 N3 N4
  rw [hV'] at V1 V2 V3 V4
  rw [hA'] at A1 A2 A3 A4
  rw [h9'] at S1 S2 S3 S4
  simp only at N1 N2 N3 N4 V1 V2 V3 V4 A1 A2 A3 A4 S1 S2 S3 S4
  obtain ⟨kN, rfl⟩ := len_nn N1
  obtain ⟨m, rfl⟩ := len_nn V1
  obtain rfl : nA = 0 := (Wv_zero A1).mp vA
  obtain ⟨rfl, dfN, evN, ltN⟩ := Wv_nn N1 (by omega)
  obtain ⟨rfl, dfV, evV, ltV⟩ := Wv_nn V1 (by omega)
  have hbA : bA = 0 := by
    have := Wv_neg A1; have := Wv_b A1; omega
  subst hbA
  have hm : 2 ≤ m := by
    have := len_ge (m := 1) V1 (by have : (1000000000 : Int) ^ 1 = 1000000000 := by decide
                                   omega)
    omega
  have hkN := Wv_len N1 (show ((v N).natAbs : Int) < 1000000000 ^ kb by omega)
  have hkm := Wv_len V1 (show ((v V).natAbs : Int) < 1000000000 ^ kb by omega)
  have v1 := dfV (m - 1) (by omega)
  have v1n := (ltV (by omega)).2
  obtain ⟨sc1, sc2, sc3, sc4⟩ := scale_ok (v := gv (m - 1 : Nat)) (by omega) v1.2
  have hm1 : ((m - 1 : Nat) : Int) = (m : Int) - 1 := by omega
  have hD := SW_const S hD0 no18.1 no18.2
  have hw := SW_TW' S hN hN'
  have hoV := SW_OW' S hN hV n1 hN' hV'
  show fin xs fr lo 67 0 [some (.ref 18), some (.ref N), some (.ref V), some (.ref A), none, none, none, none, none, none, none] [] w _
  refine fi_step (pc' := 1) m_Di_divideLong rfl rfl ?_
  first | refine t_get (p := 4) m_Di_divideLong rfl rfl (by assumption) rfl ?_ | refine o_get (p := 4) m_Di_divideLong rfl rfl (by assumption) (by assumption) rfl ?_
  refine fi_step (pc' := 6) m_Di_divideLong rfl rfl ?_
  refine s_ldc2 (p := 9) 1000000000 m_Di_divideLong rfl rfl rfl ?_
  refine fi_step (pc' := 10) m_Di_divideLong rfl rfl ?_
  first | refine t_get (p := 13) m_Di_divideLong rfl rfl (by assumption) rfl ?_ | refine o_get (p := 13) m_Di_divideLong rfl rfl (by assumption) (by assumption) rfl ?_
  refine fi_step (pc' := 15) m_Di_divideLong rfl rfl ?_
  refine fi_step (pc' := 16) m_Di_divideLong rfl rfl ?_
  refine s_isub (p := 17) m_Di_divideLong rfl rfl ?_
  first | refine t_ld (p := 18) m_Di_divideLong rfl rfl (by assumption) (by omega) (by omega) (by omega) ?_ | refine o_ld (p := 18) m_Di_divideLong rfl rfl (by assumption) (by assumption) (by omega) (by omega) (by omega) ?_
  rw [← hm1]
  refine s_i2l (p := 19) m_Di_divideLong rfl rfl (by omega) (by omega) ?_
  refine s_lconst (p := 20) (v := 1) m_Di_divideLong rfl rfl rfl ?_
  refine s_ladd (p := 21) m_Di_divideLong rfl rfl ?_
  refine s_ldiv (p := 22) m_Di_divideLong rfl rfl (by omega) (by omega) (by omega) (by omega) ?_
  refine fi_step (pc' := 24) m_Di_divideLong rfl rfl ?_
  obtain ⟨s, hs⟩ : ∃ s : Nat, 1000000000 / (gv (m - 1 : Nat) + 1) = (s : Int) := ⟨(1000000000 / (gv (m - 1 : Nat) + 1)).toNat, by omega⟩
  rw [hs] at sc1 sc2 sc3 sc4 ⊢
  show fin xs fr lo 67 24 [some (.ref 18), some (.ref N), some (.ref V), some (.ref A), some (.int (jI m)), some (.long (jL s)), none, none, none, none, none] [] w _
  have hw := SW_TW' S i19 h9'
  have hoV := SW_OW' S i19 hV (fun e => x2 e.symm) h9' hV'
  refine fi_step (pc' := 25) m_Di_divideLong rfl rfl ?_
  refine k_get (p := 28) m_Di_divideLong rfl rfl (by assumption) rfl ?_
  refine fi_step (pc' := 29) m_Di_divideLong rfl rfl ?_
  refine g_2 (p := 32) m_Di_divideLong rfl inv_v (by decide) m_Wh_becomeW rfl rfl (by omega) (by omega) (Nat.le_of_ble_eq_true rfl) (Nat.le_of_ble_eq_true rfl) (TW_rcv hw _) (h_becomeW hw (by omega) hoV V1 (by omega) (by omega) (by omega) (by omega)) (fun v w hP => ?_)
  obtain ⟨rfl, w1, d1, cap1, f1, hw1, X1, g1, kc1, kk1⟩ := hP
  obtain ⟨t1, S1', e19, eo1⟩ := SW_back' S i19 h9' hw1 X1
  obtain ⟨_, df1, ev1, _⟩ := Wv_nn g1 (by omega)
  have X1c := X1.2.2.2.1
  have hD := SW_const S1' hD0 no18.1 no18.2
  have hw := SW_TW' S1' i19 e19
  refine fi_step (pc' := 33) m_Di_divideLong rfl rfl ?_
  refine k_get (p := 36) m_Di_divideLong rfl rfl (by assumption) rfl ?_
  refine fi_step (pc' := 38) m_Di_divideLong rfl rfl ?_
  refine fi_step (pc' := 39) m_Di_divideLong rfl rfl ?_
  refine s_iadd (p := 40) m_Di_divideLong rfl rfl ?_
  rw [show (m : Int) + 1 = ((m + 1 : Nat) : Int) by omega]
  refine g_2 (p := 43) m_Di_divideLong rfl inv_v (by decide) m_Wh_widen rfl rfl (by omega) (by omega) (Nat.le_of_ble_eq_true rfl) (Nat.le_of_ble_eq_true rfl) (TW_rcv hw _) (h_widen (t := m + 1) (m := m) hw (by omega) (by omega) (by omega) (by omega) (by omega)) (fun v w hP => ?_)
  obtain ⟨rfl, w2, d2, cap2, f2, hw2, X2, kc2, kk2, z1, z2⟩ := hP
  obtain ⟨t2, S2', e29, eo2⟩ := SW_back' S1' i19 e19 hw2 X2
  have X2c := X2.2.2.2.1
  have hD := SW_const S2' hD0 no18.1 no18.2
  have hw := SW_TW' S2' i19 e29
  have df2 : dgs f2 (m + 1) := by
    intro i hi
    by_cases h : i < m
    · rw [z1 i h]; exact df1 i h
    · rw [z2 i (by omega) (by omega)]; omega
  have ev2 : dw f2 m = v V := by rw [dw_congr z1]; exact ev1
  refine fi_step (pc' := 44) m_Di_divideLong rfl rfl ?_
  refine k_get (p := 47) m_Di_divideLong rfl rfl (by assumption) rfl ?_
  refine fi_step (pc' := 49) m_Di_divideLong rfl rfl ?_
  refine g_2 (p := 52) m_Di_divideLong rfl inv_v (by decide) m_Wh_timesDigit rfl rfl (by omega) (by omega) (Nat.le_of_ble_eq_true rfl) (Nat.le_of_ble_eq_true rfl) (TW_rcv hw _) (h_timesDigit (s := s) (k := m) hw (by omega) (by omega) (by omega) (by omega) df2 (z2 m (by omega) (by omega)) rfl (by omega) (by omega)) (fun v w hP => ?_)
  obtain ⟨rfl, g3, n3', b3, hw3, l3, V3', _, _⟩ := hP
  rw [ev2] at V3'
  obtain ⟨k3, rfl⟩ := len_nn V3'
  obtain ⟨t3, S3', e39, eo3⟩ := SW_back' S2' i19 e29 hw3 (XT_refl _ _ _ _)
  have sV0 : 0 ≤ (s : Int) * v V := Int.mul_nonneg (by omega) (by omega)
  obtain ⟨rfl, dg3, ev3, _⟩ := Wv_nn V3' sV0
  -- the scaled divisor has as many digits
  have vlt := dw_lt dfV
  have hVtop : dw gv m = dw gv (m - 1) + gv (m - 1 : Nat) * 1000000000 ^ (m - 1) := by
    have := dw_succ gv (m - 1); rw [show m - 1 + 1 = m by omega] at this; exact this
  have lowgv := dw_nn (f := gv) (n := m - 1) (fun i hi => dfV i (by omega))
  have lowgv1 := dw_lt (f := gv) (n := m - 1) (fun i hi => dfV i (by omega))
  have Pm1 : (0 : Int) < 1000000000 ^ (m - 1) := Int.pow_pos (by decide)
  have Pm : (1000000000 : Int) ^ m = 1000000000 ^ (m - 1) * 1000000000 := by
    have : (1000000000 : Int) ^ (m - 1 + 1) = 1000000000 ^ (m - 1) * 1000000000 := Int.pow_succ ..
    rw [show m - 1 + 1 = m by omega] at this; exact this
  have vVge : gv (m - 1 : Nat) * 1000000000 ^ (m - 1) ≤ v V := by omega
  have vVlt : v V < (gv (m - 1 : Nat) + 1) * 1000000000 ^ (m - 1) := by rw [Int.add_mul]; omega
  have sVlt : (s : Int) * v V < 1000000000 ^ m := by
    have a : (s : Int) * v V < s * ((gv (m - 1 : Nat) + 1) * 1000000000 ^ (m - 1)) := Int.mul_lt_mul_of_pos_left vVlt (by omega)
    have b : ((gv (m - 1 : Nat) + 1) * s) * 1000000000 ^ (m - 1) ≤ 1000000000 * 1000000000 ^ (m - 1) := Int.mul_le_mul_of_nonneg_right sc3 (by omega)
    have c : (s : Int) * ((gv (m - 1 : Nat) + 1) * 1000000000 ^ (m - 1)) = ((gv (m - 1 : Nat) + 1) * s) * 1000000000 ^ (m - 1) := by grind
    rw [Pm, Int.mul_comm (1000000000 ^ (m - 1))]; omega
  have sVge : (gv (m - 1 : Nat) * s) * 1000000000 ^ (m - 1) ≤ s * v V := by
    have a : (s : Int) * (gv (m - 1 : Nat) * 1000000000 ^ (m - 1)) ≤ s * v V := Int.mul_le_mul_of_nonneg_left vVge (by omega)
    have c : (s : Int) * (gv (m - 1 : Nat) * 1000000000 ^ (m - 1)) = (gv (m - 1 : Nat) * s) * 1000000000 ^ (m - 1) := by grind
    omega
  have gs1 : 1 ≤ gv (m - 1 : Nat) * s := by omega
  have sVge1 : 1000000000 ^ (m - 1) ≤ (s : Int) * v V := by
    have : 1 * 1000000000 ^ (m - 1) ≤ (gv (m - 1 : Nat) * s) * 1000000000 ^ (m - 1) := Int.mul_le_mul_of_nonneg_right gs1 (by omega)
    omega
  obtain rfl : k3 = m := by
    have a := Wv_len V3' (show (((s : Int) * v V).natAbs : Int) < 1000000000 ^ m by omega)
    have b := len_ge (m := m - 1) V3' (by omega)
    omega
  have hd13 : 1000000000 ≤ 3 * g3 (k3 - 1 : Nat) := by
    have a : dw g3 k3 = dw g3 (k3 - 1) + g3 (k3 - 1 : Nat) * 1000000000 ^ (k3 - 1) := by
      have := dw_succ g3 (k3 - 1); rw [show k3 - 1 + 1 = k3 by omega] at this; exact this
    have b := dw_lt (f := g3) (n := k3 - 1) (fun i hi => dg3 i (by omega))
    have c : (gv (k3 - 1 : Nat) * s) * 1000000000 ^ (k3 - 1) < (g3 (k3 - 1 : Nat) + 1) * 1000000000 ^ (k3 - 1) := by rw [Int.add_mul (g3 _)]; omega
    have := Int.lt_of_mul_lt_mul_right c (by omega)
    omega
  -- the scaled number
  have eN3 : t3 N = (dN, capN, f, (kN : Int), 0) := by rw [eo3 N (fun e => x1 e.symm), eo2 N (fun e => x1 e.symm), eo1 N (fun e => x1 e.symm)]; exact hN'
  have hD := SW_const S3' hD0 no18.1 no18.2
  have hw := SW_TW' S3' hN eN3
  refine fi_step (pc' := 53) m_Di_divideLong rfl rfl ?_
  refine fi_step (pc' := 54) m_Di_divideLong rfl rfl ?_
  first | refine t_get (p := 57) m_Di_divideLong rfl rfl (by assumption) rfl ?_ | refine o_get (p := 57) m_Di_divideLong rfl rfl (by assumption) (by assumption) rfl ?_
  refine fi_step (pc' := 58) m_Di_divideLong rfl rfl ?_
  refine s_iadd (p := 59) m_Di_divideLong rfl rfl ?_
  rw [show (kN : Int) + 2 = ((kN + 2 : Nat) : Int) by omega]
  refine g_2 (p := 62) m_Di_divideLong rfl inv_v (by decide) m_Wh_widen rfl rfl (by omega) (by omega) (Nat.le_of_ble_eq_true rfl) (Nat.le_of_ble_eq_true rfl) (TW_rcv hw _) (h_widen (t := kN + 2) (m := kN) hw (by omega) (by omega) (by omega) (by omega) (by omega)) (fun v w hP => ?_)
  obtain ⟨rfl, w4, d4, cap4, f4, hw4, X4, kc4, kk4, y1, y2⟩ := hP
  obtain ⟨t4, S4', eN4, eo4⟩ := SW_back' S3' hN eN3 hw4 X4
  have X4c := X4.2.2.2.1
  have hw := SW_TW' S4' hN eN4
  have df4 : dgs f4 (kN + 1) := by
    intro i hi
    by_cases h : i < kN
    · rw [y1 i h]; exact dfN i h
    · rw [y2 i (by omega) (by omega)]; omega
  have ev4 : dw f4 kN = v N := by rw [dw_congr y1]; exact evN
  refine fi_step (pc' := 63) m_Di_divideLong rfl rfl ?_
  refine fi_step (pc' := 65) m_Di_divideLong rfl rfl ?_
  refine g_2 (p := 68) m_Di_divideLong rfl inv_v (by decide) m_Wh_timesDigit rfl rfl (by omega) (by omega) (Nat.le_of_ble_eq_true rfl) (Nat.le_of_ble_eq_true rfl) (TW_rcv hw _) (h_timesDigit (s := s) (k := kN) hw (by omega) (by omega) (by omega) (by omega) df4 (y2 kN (by omega) (by omega)) rfl (by omega) (by omega)) (fun v w hP => ?_)
  obtain ⟨rfl, f5, n5, b5, hw5, l5, V5, z5, s5⟩ := hP
  rw [ev4] at V5
  obtain ⟨nU, rfl⟩ := len_nn V5
  obtain ⟨t5, S5', eN5, eo5⟩ := SW_back' S4' hN eN4 hw5 (XT_refl _ _ _ _)
  have sN0 : 0 ≤ (s : Int) * v N := Int.mul_nonneg (by omega) (by omega)
  obtain ⟨rfl, df5, ev5, _⟩ := Wv_nn V5 sN0
  have sNV : (s : Int) * v V ≤ s * v N := Int.mul_le_mul_of_nonneg_left vN (by omega)
  have hnU : k3 ≤ nU := by
    have := len_ge (m := k3 - 1) V5 (by omega)
    omega
  obtain ⟨first, rfl⟩ : ∃ first : Nat, nU = first + k3 := ⟨nU - k3, by omega⟩
  have hw := SW_TW' S5' hN eN5
  refine fi_step (pc' := 69) m_Di_divideLong rfl rfl ?_
  first | refine t_get (p := 72) m_Di_divideLong rfl rfl (by assumption) rfl ?_ | refine o_get (p := 72) m_Di_divideLong rfl rfl (by assumption) (by assumption) rfl ?_
  refine fi_step (pc' := 74) m_Di_divideLong rfl rfl ?_
  refine s_isub (p := 75) m_Di_divideLong rfl rfl ?_
  refine fi_step (pc' := 77) m_Di_divideLong rfl rfl ?_
  rw [show ((first + k3 : Nat) : Int) - k3 = (first : Int) by omega]
  show fin xs fr lo 67 77 [some (.ref 18), some (.ref N), some (.ref V), some (.ref A), some (.int (jI k3)), some (.long (jL s)), none, some (.int (jI first)), none, none, none] [] w _
  have eA5 : t5 A = (dA, capA, h0, 0, 0) := by rw [eo5 A n2, eo4 A n2, eo3 A (fun e => x3 e.symm), eo2 A (fun e => x3 e.symm), eo1 A (fun e => x3 e.symm)]; exact hA'
  have hw := SW_TW' S5' hA eA5
  refine fi_step (pc' := 78) m_Di_divideLong rfl rfl ?_
  refine fi_step (pc' := 80) m_Di_divideLong rfl rfl ?_
  refine fi_step (pc' := 81) m_Di_divideLong rfl rfl ?_
  refine s_iadd (p := 82) m_Di_divideLong rfl rfl ?_
  rw [show (first : Int) + 1 = ((first + 1 : Nat) : Int) by omega]
  refine g_2 (p := 85) m_Di_divideLong rfl inv_v (by decide) m_Wh_widen rfl rfl (by omega) (by omega) (Nat.le_of_ble_eq_true rfl) (Nat.le_of_ble_eq_true rfl) (TW_rcv hw _) (h_widen (t := first + 1) (m := 0) hw (by omega) (by omega) (by omega) (by omega) (by omega)) (fun v w hP => ?_)
  obtain ⟨rfl, w6, d6, cap6, h6, hw6, X6, kc6, kk6, _, _⟩ := hP
  obtain ⟨t6, S6', eA6, eo6⟩ := SW_back' S5' hA eA5 hw6 X6
  have X6c := X6.2.2.2.1
  have eN6 : t6 N = (d4, cap4, f5, ((first + k3 : Nat) : Int), 0) := by rw [eo6 N (fun e => n2 e.symm)]; exact eN5
  have e69 : t6 19 = (d2, cap2, g3, (k3 : Int), 0) := by rw [eo6 19 x3, eo5 19 x1, eo4 19 x1]; exact e39
  have hz5 : f5 (first + k3 : Nat) = 0 := by
    by_cases h : first + k3 ≤ kN
    · exact z5 _ (by omega) h
    · rw [s5 _ (by omega)]; exact y2 _ (by omega) (by omega)
  have hlast : ∀ (w : ax_W) (t7 : Nat → WD) (ff hh : Int → Int) (y9 y10 : Option Value), SW w0 w t7 L Z → t7 N = (d4, cap4, ff, ((first + k3 : Nat) : Int), 0) → t7 A = (d6, cap6, hh, 0, 0) → (∀ j, j ≠ N → j ≠ A → t7 j = t6 j) → dgs ff k3 → dw ff k3 < s * v V → dgs hh (first + 1) → (s : Int) * v N = dw ff k3 + s * v V * dw hh (first + 1) → fin xs fr lo 67 179 [some (.ref 18), some (.ref N), some (.ref V), some (.ref A), some (.int (jI k3)), some (.long (jL s)), none, some (.int (jI first)), some (.int (jI (-1))), y9, y10] [] w (Ret fun u w' => u = none ∧ ∃ x, SN w0 w' (upv (upv (upv v 19 x) N (v N % v V)) A (v N / v V)) L Z) := by
    intro w t7 ff hh y9 y10 S7 eN7 eA7 eo7 dff ffl dhh hEq
    have hffn := dw_nn dff
    have hhn := dw_nn dhh
    -- the rest is a multiple of the scale
    have hr : dw ff k3 = s * (v N - v V * dw hh (first + 1)) := by
      have : (s : Int) * (v N - v V * dw hh (first + 1)) = s * v N - s * v V * dw hh (first + 1) := by grind
      omega
    have r0 : 0 ≤ v N - v V * dw hh (first + 1) := by
      refine Classical.byContradiction (fun hn => ?_)
      have : (s : Int) * (v N - v V * dw hh (first + 1)) ≤ s * (-1) := Int.mul_le_mul_of_nonneg_left (by omega) (by omega)
      omega
    have r1 : v N - v V * dw hh (first + 1) < v V := by
      refine Classical.byContradiction (fun hn => ?_)
      have : (s : Int) * v V ≤ s * (v N - v V * dw hh (first + 1)) := Int.mul_le_mul_of_nonneg_left (by omega) (by omega)
      omega
    have hqe : v N / v V = dw hh (first + 1) := by
      rw [show v N = (v N - v V * dw hh (first + 1)) + v V * dw hh (first + 1) by omega, Int.add_mul_ediv_left _ _ (by omega), Int.ediv_eq_zero_of_lt r0 r1]; omega
    have hme : v N % v V = v N - v V * dw hh (first + 1) := by
      have e : v N = (v N - v V * dw hh (first + 1)) + v V * dw hh (first + 1) := by omega
      have : v N % v V = (v N - v V * dw hh (first + 1) + v V * dw hh (first + 1)) % v V := by rw [← e]
      rw [this, Int.add_mul_emod_self_left, Int.emod_eq_of_lt r0 r1]
    have hw := SW_TW' S7 hA eA7
    refine fi_step (pc' := 180) m_Di_divideLong rfl rfl ?_
    refine fi_step (pc' := 182) m_Di_divideLong rfl rfl ?_
    refine fi_step (pc' := 183) m_Di_divideLong rfl rfl ?_
    refine s_iadd (p := 184) m_Di_divideLong rfl rfl ?_
    rw [show (first : Int) + 1 = ((first + 1 : Nat) : Int) by omega]
    refine g_2 (p := 187) m_Di_divideLong rfl inv_v (by decide) m_Wh_trim rfl rfl (by omega) (by omega) (Nat.le_of_ble_eq_true rfl) (Nat.le_of_ble_eq_true rfl) (TW_rcv hw _) (h_trim (t := first + 1) (by omega) (Or.inl rfl) hw kc6 dhh) (fun v w hP => ?_)
    obtain ⟨rfl, n8, b8, hw8, l8, _, V8⟩ := hP
    rw [if_neg (by decide), ← hqe] at V8
    obtain ⟨t8, S8, eA8, eo8⟩ := SW_back' S7 hA eA7 hw8 (XT_refl _ _ _ _)
    have eN8 : t8 N = (d4, cap4, ff, ((first + k3 : Nat) : Int), 0) := by rw [eo8 N (fun e => n2 e.symm)]; exact eN7
    have hw := SW_TW' S8 hN eN8
    refine fi_step (pc' := 188) m_Di_divideLong rfl rfl ?_
    refine fi_step (pc' := 190) m_Di_divideLong rfl rfl ?_
    refine g_2 (p := 193) m_Di_divideLong rfl inv_v (by decide) m_Wh_trim rfl rfl (by omega) (by omega) (Nat.le_of_ble_eq_true rfl) (Nat.le_of_ble_eq_true rfl) (TW_rcv hw _) (h_trim (t := k3) (by omega) (Or.inl rfl) hw (by omega) dff) (fun v w hP => ?_)
    obtain ⟨rfl, n9, b9', hw9, l9, _, V9⟩ := hP
    rw [if_neg (by decide)] at V9
    obtain ⟨k9, rfl⟩ := len_nn V9
    obtain ⟨rfl, df9, ev9, _⟩ := Wv_nn V9 hffn
    obtain ⟨t9, S9, eN9, eo9⟩ := SW_back' S8 hN eN8 hw9 (XT_refl _ _ _ _)
    have hw := SW_TW' S9 hN eN9
    refine fi_step (pc' := 194) m_Di_divideLong rfl rfl ?_
    refine fi_step (pc' := 196) m_Di_divideLong rfl rfl ?_
    refine g_2 (p := 199) m_Di_divideLong rfl inv_v (by decide) m_Wh_overDigit rfl rfl (by omega) (by omega) (Nat.le_of_ble_eq_true rfl) (Nat.le_of_ble_eq_true rfl) (TW_rcv hw _) (h_overDigit (g := s) (k := k9) hw (by omega) (by omega) (by omega) (by omega) df9 rfl (by omega) (by omega)) (fun v w hP => ?_)
    obtain ⟨rfl, f10, n10, b10, hw10, l10, V10⟩ := hP
    rw [ev9, hr, Int.mul_ediv_cancel_left _ (by omega), ← hme] at V10
    obtain ⟨t10, S10, eN10, eo10⟩ := SW_back' S9 hN eN9 hw10 (XT_refl _ _ _ _)
    refine fi_step (pc' := 200) m_Di_divideLong rfl rfl ?_
    refine p_ret m_Di_divideLong rfl rfl ?_
    refine ⟨rfl, s * v V, t10, S10, fun j hj => ?_⟩
    by_cases jA : j = A
    · subst jA
      rw [upv_same, eo10 j n2, eo9 j n2, eA8]
      exact ⟨V8, by simp only; omega, by simp only; omega, by simp only; omega⟩
    · rw [upv_ne _ jA]
      by_cases jN : j = N
      · subst jN
        rw [upv_same, eN10]
        exact ⟨V10, by simp only; omega, by simp only; omega, by simp only; omega⟩
      · rw [upv_ne _ jN, eo10 j jN, eo9 j jN, eo8 j jA, eo7 j jN jA, eo6 j jA, eo5 j jN, eo4 j jN]
        by_cases j9 : j = 19
        · subst j9
          rw [upv_same, e39]
          exact ⟨V3', by simp only; omega, by simp only; omega, by simp only; omega⟩
        · rw [upv_ne _ j9, eo3 j j9, eo2 j j9, eo1 j j9]; exact hv j hj
  refine fi_step (pc' := 87) m_Di_divideLong rfl rfl ?_
  refine fi_step (pc' := 89) m_Di_divideLong rfl rfl ?_
  show fin xs fr lo 67 89 [some (.ref 18), some (.ref N), some (.ref V), some (.ref A), some (.int (jI k3)), some (.long (jL s)), none, some (.int (jI first)), some (.int (jI first)), none, none] [] w _
  have := divL_loop (xs := xs) (fr := fr) (lo := lo) (w0 := w0) (L := L) (Z := Z) (N := N) (A := A) (V := V) (s := s) (m := k3) (first := first) (T0 := t6) (VV := s * v V) (U0 := s * v N) hD0 hN hA n2 x1 x3 e69 (by omega) (by omega) dg3 hm hd13 ev3 (by omega) (by omega) (by omega) (by omega) (by omega) (by omega) hlast (first + 1) w t6 f5 h6 none none (by omega) S6' eN6 eA6 (fun _ _ _ => rfl) (fun i hi => ?_) ?_ (fun i h0 h1 => by omega) ?_
  · rw [show ((first + 1 : Nat) : Int) - 1 = (first : Int) by omega] at this
    exact this
  · by_cases h : i < first + k3
    · exact df5 i h
    · rw [show i = first + k3 by omega, hz5]; omega
  · rw [show first + 1 + k3 = first + k3 + 1 by omega, dw_succ, hz5, Int.zero_mul, Int.add_zero, ev5]
    have a := dw_lt df5
    have b : (1000000000 : Int) ^ (k3 - 1) * 1000000000 ^ (first + 1) ≤ s * v V * 1000000000 ^ (first + 1) := Int.mul_le_mul_of_nonneg_right sVge1 (Int.le_of_lt (Int.pow_pos (by decide)))
    rw [← Int.pow_add, show k3 - 1 + (first + 1) = first + k3 by omega] at b
    omega
  · rw [show first + 1 + k3 = first + k3 + 1 by omega, dw_succ, hz5, Int.zero_mul, Int.add_zero, ev5, Nat.sub_self, dvB_zero, Int.mul_zero, Int.add_zero]
end DIVL2
