/-! THE CLASS: division -/
theorem Wv_pos {f : Int → Int} {n b v : Int} (h : Wv f n b v) : Wv f n 0 (v.natAbs : Int) := by
  obtain ⟨m, e, hd, hl, hs⟩ := h
  have := dw_nn hd
  exact ⟨m, e, hd, hl, Or.inl ⟨rfl, by rcases hs with ⟨_, e⟩ | ⟨_, _, e⟩ <;> omega⟩⟩
theorem SN_raw {w0 w : ax_W} {v : Nat → Int} {L Z c a : Nat} (h : SN w0 w v L Z) (hc : isWh c) (ha : isWh a) (hne : a ≠ c) : ∃ (d cap : Nat) (f : Int → Int) (k : Nat) (b : Int) (e cp : Nat) (g : Int → Int) (m : Nat) (q : Int), TW w w c d cap f k b ∧ Wv f k b (v c) ∧ k ≤ cap ∧ 32 ≤ cap ∧ cap ≤ capB c ∧ OW w c d a e cp g m q ∧ Wv g m q (v a) ∧ m ≤ cp ∧ 32 ≤ cp ∧ cp ≤ capB a ∧ ∀ (w' : ax_W) (f' : Int → Int) (n' b' x : Int), TW w w' c d cap f' n' b' → Wv f' n' b' x → n' ≤ cap → SN w0 w' (upv v c x) L Z := by
  obtain ⟨t, S, hv⟩ := h
  obtain ⟨c1, c2, c3, c4⟩ := hv c hc
  obtain ⟨a1, a2, a3, a4⟩ := hv a ha
  have hT := SW_TW S hc
  have hO := SW_OW S hc ha hne
  obtain ⟨k, hk⟩ := len_nn c1
  obtain ⟨m, hm⟩ := len_nn a1
  rw [hk] at c1 c2 hT
  rw [hm] at a1 a2 hO
  exact ⟨_, _, _, k, _, _, _, _, m, _, hT, c1, by omega, c3, c4, hO, a1, by omega, a3, a4, fun w' f' n' b' x h1 h2 h3 => SN_got (K := capB c) S hv hc ⟨w, _, _, f', n', b', h1, XT_refl _ _ _ _, h2, h3, Or.inl rfl⟩ (Nat.le_refl _)⟩
theorem SN_const {w0 w : ax_W} {v : Nat → Int} {L Z : Nat} (h : SN w0 w v L Z) {j : Nat} {q : Nat × List Value} (hq : w0[j]? = some q) (hj : ¬ isWh j) (hd : ∀ c, isWh c → j ≠ c + 1) : w[j]? = some q := by
  obtain ⟨t, S, _⟩ := h; exact SW_const S hq hj hd
theorem SN_congr {w0 w : ax_W} {v v' : Nat → Int} {L Z : Nat} (h : SN w0 w v L Z) (e : ∀ c, isWh c → v' c = v c) : SN w0 w v' L Z := by
  obtain ⟨t, S, hv⟩ := h
  exact ⟨t, S, fun c hc => by rw [e c hc]; exact hv c hc⟩
theorem SN_rcv {w0 w : ax_W} {v : Nat → Int} {L Z c : Nat} (h : SN w0 w v L Z) (hc : isWh c) (as : List Value) : ax_rcv 8 (.ref c :: as) w = true := by
  obtain ⟨t, S, hv⟩ := h; exact TW_rcv (SW_TW S hc) as
section DIV3
variable {xs : List Int32} {fr lo : Nat} {w0 w : ax_W} {v : Nat → Int} {L Z c : Nat}
theorem n_overDigit {g : Nat} (h : SN w0 w v L Z) (hc : isWh c) (v0 : 0 ≤ v c) (g1 : 1 ≤ g) (g2 : g ≤ 1000000000) (hfr : 1 ≤ fr) (hlo : 30 ≤ lo) :
    fin xs fr lo 65 0 (ax_ent [.ref c, .long (jL g)] 6) [] w (Ret fun u w' => u = some (.long (jL (v c % g))) ∧ SN w0 w' (upv v c (v c / g)) L Z) := by
  obtain ⟨t, S, hv⟩ := h
  obtain ⟨c1, c2, c3, c4⟩ := hv c hc
  have hT := SW_TW S hc
  have q1 := capB_le c
  obtain ⟨k, hk⟩ := len_nn c1
  rw [hk] at c1 c2 hT
  obtain ⟨hb, hd, ev, _⟩ := Wv_nn c1 v0
  refine fi_mono (h_overDigit (g := g) (k := k) hT g1 g2 (by omega) (by omega) hd hb hfr hlo) ?_
  rintro o w' ⟨u, rfl, hu, f', n', b', g1', g2', g3'⟩
  rw [ev] at hu g3'
  exact ⟨u, rfl, hu, SN_got (K := capB c) S hv hc ⟨w, _, _, f', n', b', g1', XT_refl _ _ _ _, g3', by omega, Or.inl rfl⟩ (Nat.le_refl _)⟩
theorem n_divide {N V A kb : Nat} (hD0 : w0[18]? = some (1, [.ref 19, .ref 21, .ref 23, .ref 25, .ref 27])) (h : SN w0 w v L Z) (hN : isWh N) (hV : isWh V) (hA : isWh A) (n1 : V ≠ N) (n2 : A ≠ N) (n3 : A ≠ V) (x1 : 19 ≠ N) (x2 : 19 ≠ V) (x3 : 19 ≠ A) (o1 : 27 ≠ N) (o3 : 27 ≠ A) (v27 : v 27 = 1) (vV : 0 < v V) (hb : ((v N).natAbs : Int) < 1000000000 ^ kb) (hbV : v V < 1000000000 ^ kb) (K1 : kb + 35 ≤ capB N) (K2 : kb + 35 ≤ capB A) (K3 : kb + 34 ≤ capB 19) (hfr : 4 ≤ fr) (hlo : 240 ≤ lo) :
    fin xs fr lo 63 0 (ax_ent [.ref 18, .ref N, .ref V, .ref A] 5) [] w (Ret fun u w' => u = none ∧ ∃ x, SN w0 w' (upv (upv (upv v 19 x) N (v N % v V)) A (v N / v V)) L Z) := by
  have i27 : isWh 27 := isWh_iff.mpr (by omega)
  have qN := capB_le N
  have qV := capB_le V
  have pk : (1000000000 : Int) ^ kb ≤ 1000000000 ^ (kb + 1) := pow_mono (by decide) (by omega)
  have e1 : (1 : Int) < 1000000000 ^ 1 := by decide
  refine fi_step (pc' := 1) m_Di_divide rfl rfl ?_
  refine g_1 (p := 4) m_Di_divide rfl inv_v (by decide) m_Wh_clear rfl rfl (by omega) (by omega) (Nat.le_of_ble_eq_true rfl) (Nat.le_of_ble_eq_true rfl) (SN_rcv h hA _) (n_clear h hA) (fun v w hP => ?_)
  obtain ⟨rfl, h1⟩ := hP
  have a1V : upv v A 0 V = v V := upv_ne _ (fun e => n3 e.symm) _
  have a1N : upv v A 0 N = v N := upv_ne _ (fun e => n2 e.symm) _
  refine fi_step (pc' := 5) m_Di_divide rfl rfl ?_
  refine c_1 (p := 8) m_Di_divide rfl inv_v (by decide) m_Wh_isZero rfl rfl (by omega) (by omega) (Nat.le_of_ble_eq_true rfl) (Nat.le_of_ble_eq_true rfl) (SN_rcv h1 hV _) (n_isZero h1 hV) ?_
  rw [a1V, if_neg (by omega)]
  obtain ⟨dN, capN, f, kN, bN, dV, capV, g, m, q, hw, N1, N2, N3, N4, ho, V1, V2, V3, V4, back⟩ := SN_raw h1 hN hV n1
  rw [a1N] at N1
  rw [a1V] at V1
  have hbN := Wv_b N1
  have hneg := Wv_neg N1
  obtain ⟨rfl, dfV, evV, ltV⟩ := Wv_nn V1 (by omega)
  refine s_if_eq (p := 11) m_Di_divide rfl rfl (by omega) (by omega) (fun hbr => ?_) (fun hbr => False.elim (by omega))
  refine fi_step (pc' := 13) m_Di_divide rfl rfl ?_
  first | refine t_get (p := 16) m_Di_divide rfl rfl (by assumption) rfl ?_ | refine o_get (p := 16) m_Di_divide rfl rfl (by assumption) (by assumption) rfl ?_
  refine fi_step (pc' := 18) m_Di_divide rfl rfl ?_
  refine fi_step (pc' := 19) m_Di_divide rfl rfl ?_
  refine fi_step (pc' := 20) m_Di_divide rfl rfl ?_
  refine t_put2 (p := 23) m_Di_divide rfl rfl (by assumption) (by first | exact Or.inl rfl | exact Or.inr rfl | assumption | omega) (fun w hw => ?_)
  have h2 := back w f kN 0 _ hw (Wv_pos N1) (by omega)
  have b2N : upv (upv v A 0) N ((v N).natAbs : Int) N = ((v N).natAbs : Int) := upv_same ..
  have b2V : upv (upv v A 0) N ((v N).natAbs : Int) V = v V := by rw [upv_ne _ n1, a1V]
  have b2A : upv (upv v A 0) N ((v N).natAbs : Int) A = 0 := by rw [upv_ne _ n2, upv_same]
  show fin xs fr lo 63 23 [some (.ref 18), some (.ref N), some (.ref V), some (.ref A), some (.int (jI bN))] [] w _
  -- what comes after the size has been divided
  have fin1 : ∀ (w : ax_W) (u : Nat → Int), SN w0 w u L Z → u N = ((v N).natAbs : Int) % v V → u A = ((v N).natAbs : Int) / v V → (∀ j, j ≠ N → j ≠ A → j ≠ 19 → u j = v j) → fin xs fr lo 63 69 [some (.ref 18), some (.ref N), some (.ref V), some (.ref A), some (.int (jI bN))] [] w (Ret fun u w' => u = none ∧ ∃ x, SN w0 w' (upv (upv (upv v 19 x) N (v N % v V)) A (v N / v V)) L Z) := by
    intro w u hu uN uA uo
    have uV : u V = v V := uo V n1 (fun e => n3 e.symm) (fun e => x2 e.symm)
    have u27 : u 27 = 1 := by rw [uo 27 o1 o3 (by decide)]; exact v27
    have r0 := Int.emod_nonneg ((v N).natAbs : Int) (show v V ≠ 0 by omega)
    have r1 := Int.emod_lt_of_pos ((v N).natAbs : Int) vV
    have q0 : 0 ≤ ((v N).natAbs : Int) / v V := Int.ediv_nonneg (by omega) (by omega)
    have q1 : ((v N).natAbs : Int) / v V ≤ ((v N).natAbs : Int) := Int.ediv_le_self _ (by omega)
    have done : ∀ (w : ax_W) (y : Nat → Int), SN w0 w y L Z → y N = v N % v V → y A = v N / v V → (∀ j, j ≠ N → j ≠ A → j ≠ 19 → y j = v j) → ∃ x, SN w0 w (upv (upv (upv v 19 x) N (v N % v V)) A (v N / v V)) L Z := by
      intro w y hy yN yA yo
      refine ⟨y 19, SN_congr hy (fun j hj => ?_)⟩
      by_cases jA : j = A
      · subst jA; rw [upv_same, yA]
      · rw [upv_ne _ jA]
        by_cases jN : j = N
        · subst jN; rw [upv_same, yN]
        · rw [upv_ne _ jN]
          by_cases j9 : j = 19
          · subst j9; rw [upv_same]
          · rw [upv_ne _ j9, yo j jN jA j9]
    have neg2 : ∀ (w : ax_W) (y : Nat → Int), bN = 1 → SN w0 w y L Z → y N = v N % v V → y A = - (v N / v V) → (∀ j, j ≠ N → j ≠ A → j ≠ 19 → y j = v j) → fin xs fr lo 63 100 [some (.ref 18), some (.ref N), some (.ref V), some (.ref A), some (.int (jI bN))] [] w (Ret fun u w' => u = none ∧ ∃ x, SN w0 w' (upv (upv (upv v 19 x) N (v N % v V)) A (v N / v V)) L Z) := by
      intro w y hb1 hy yN yA yo
      refine fi_step (pc' := 102) m_Di_divide rfl rfl ?_
      refine s_if_eq (p := 105) m_Di_divide rfl rfl (by omega) (by omega) (fun hbr => False.elim (by omega)) (fun hbr => ?_)
      refine fi_step (pc' := 106) m_Di_divide rfl rfl ?_
      refine g_1 (p := 109) m_Di_divide rfl inv_v (by decide) m_Wh_negate rfl rfl (by omega) (by omega) (Nat.le_of_ble_eq_true rfl) (Nat.le_of_ble_eq_true rfl) (SN_rcv hy hA _) (n_negate hy hA) (fun v w hP => ?_)
      obtain ⟨rfl, hy2⟩ := hP
      refine p_ret m_Di_divide rfl rfl ?_
      exact ⟨rfl, done w _ hy2 (by rw [upv_ne _ (fun e => n2 e.symm), yN]) (by rw [upv_same, yA]; omega) (fun j jN jA j9 => by rw [upv_ne _ jA]; exact yo j jN jA j9)⟩
    rcases hbN with hb0 | hb1
    · have vn0 : 0 ≤ v N := by omega
      rw [show ((v N).natAbs : Int) = v N by omega] at uN uA
      refine fi_step (pc' := 71) m_Di_divide rfl rfl ?_
      refine s_if_eq (p := 74) m_Di_divide rfl rfl (by omega) (by omega) (fun hbr => ?_) (fun hbr => False.elim (by omega))
      refine fi_step (pc' := 102) m_Di_divide rfl rfl ?_
      refine s_if_eq (p := 105) m_Di_divide rfl rfl (by omega) (by omega) (fun hbr => ?_) (fun hbr => False.elim (by omega))
      refine p_ret m_Di_divide rfl rfl ?_
      exact ⟨rfl, done w u hu uN uA uo⟩
    · have vn0 : v N < 0 := hneg.mp hb1
      have hmn := mod_neg vn0 vV
      have hdn := ediv_neg vn0 vV
      refine fi_step (pc' := 71) m_Di_divide rfl rfl ?_
      refine s_if_eq (p := 74) m_Di_divide rfl rfl (by omega) (by omega) (fun hbr => False.elim (by omega)) (fun hbr => ?_)
      refine fi_step (pc' := 75) m_Di_divide rfl rfl ?_
      refine c_1 (p := 78) m_Di_divide rfl inv_v (by decide) m_Wh_isZero rfl rfl (by omega) (by omega) (Nat.le_of_ble_eq_true rfl) (Nat.le_of_ble_eq_true rfl) (SN_rcv hu hN _) (n_isZero hu hN) ?_
      rw [uN]
      by_cases hz : ((v N).natAbs : Int) % v V = 0
      · rw [if_pos hz]
        refine s_if_ne (p := 81) m_Di_divide rfl rfl (by omega) (by omega) (fun hbr => ?_) (fun hbr => False.elim (by omega))
        exact neg2 w u hb1 hu (by rw [uN, hz, hmn.1 hz]) (by rw [uA, hdn.1 hz]; omega) uo
      · rw [if_neg hz]
        refine s_if_ne (p := 81) m_Di_divide rfl rfl (by omega) (by omega) (fun hbr => False.elim (by omega)) (fun hbr => ?_)
        refine fi_step (pc' := 82) m_Di_divide rfl rfl ?_
        refine g_1 (p := 85) m_Di_divide rfl inv_v (by decide) m_Wh_negate rfl rfl (by omega) (by omega) (Nat.le_of_ble_eq_true rfl) (Nat.le_of_ble_eq_true rfl) (SN_rcv hu hN _) (n_negate hu hN) (fun v w hP => ?_)
        obtain ⟨rfl, h3⟩ := hP
        have c3N : upv u N (-u N) N = -(((v N).natAbs : Int) % v V) := by rw [upv_same, uN]
        have c3V : upv u N (-u N) V = v V := by rw [upv_ne _ n1, uV]
        refine fi_step (pc' := 86) m_Di_divide rfl rfl ?_
        refine fi_step (pc' := 87) m_Di_divide rfl rfl ?_
        refine fi_step (pc' := 88) m_Di_divide rfl rfl ?_
        refine g_3 (p := 91) m_Di_divide rfl inv_v (by decide) m_Wh_add rfl rfl (by omega) (by omega) (Nat.le_of_ble_eq_true rfl) (Nat.le_of_ble_eq_true rfl) (SN_rcv h3 hN _) (n_add (sg := 1) (k1 := kb) (k2 := kb) h3 hN hV n1 (Or.inl rfl) (by rw [c3N]; omega) (by rw [c3V]; omega) (by omega) (by omega) (by omega) (by omega)) (fun v w hP => ?_)
        obtain ⟨rfl, h4⟩ := hP
        rw [c3N, c3V] at h4
        have hD := SN_const h4 hD0 no18.1 no18.2
        have d4A : upv (upv u N (-u N)) N (-(((v N).natAbs : Int) % v V) + 1 * v V) A = ((v N).natAbs : Int) / v V := by rw [upv_ne _ n2, upv_ne _ n2, uA]
        have d427 : upv (upv u N (-u N)) N (-(((v N).natAbs : Int) % v V) + 1 * v V) 27 = 1 := by rw [upv_ne _ o1, upv_ne _ o1, u27]
        refine fi_step (pc' := 92) m_Di_divide rfl rfl ?_
        refine fi_step (pc' := 93) m_Di_divide rfl rfl ?_
        refine k_get (p := 96) m_Di_divide rfl rfl (by assumption) rfl ?_
        refine fi_step (pc' := 97) m_Di_divide rfl rfl ?_
        refine g_3 (p := 100) m_Di_divide rfl inv_v (by decide) m_Wh_add rfl rfl (by omega) (by omega) (Nat.le_of_ble_eq_true rfl) (Nat.le_of_ble_eq_true rfl) (SN_rcv h4 hA _) (n_add (sg := 1) (k1 := kb) (k2 := 1) h4 hA i27 o3 (Or.inl rfl) (by rw [d4A]; omega) (by rw [d427]; decide) (by omega) (by omega) (by omega) (by omega)) (fun v w hP => ?_)
        obtain ⟨rfl, h5⟩ := hP
        rw [d4A, d427] at h5
        refine neg2 w _ hb1 h5 ?_ ?_ (fun j jN jA j9 => ?_)
        · rw [upv_ne _ (fun e => n2 e.symm), upv_same, hmn.2 hz]; omega
        · rw [upv_same, hdn.2 hz]; omega
        · rw [upv_ne _ jA, upv_ne _ jN, upv_ne _ jN]; exact uo j jN jA j9
  have keep2 : ∀ j, j ≠ N → j ≠ A → upv (upv v A 0) N ((v N).natAbs : Int) j = v j := fun j jN jA => by rw [upv_ne _ jN, upv_ne _ jA]
  obtain ⟨dN2, capN2, f2, kN2, bN2, dV2, capV2, g2, m2, q2, hw, N12, N22, N32, N42, ho, V12, V22, V32, V42, _⟩ := SN_raw h2 hN hV n1
  rw [b2V] at V12
  obtain ⟨rfl, dfV2, evV2, ltV2⟩ := Wv_nn V12 (by omega)
  have m21 := (ltV2 vV).1
  by_cases hm1 : m2 = 1
  · subst hm1
    have eg0 : g2 0 = v V := by rw [← evV2, dw_succ]; simp [dw, dvB]
    have hg0 := dfV2 0 (by omega)
    rw [show ((0 : Nat) : Int) = 0 from rfl, eg0] at hg0
    refine fi_step (pc' := 24) m_Di_divide rfl rfl ?_
    first | refine t_get (p := 27) m_Di_divide rfl rfl (by assumption) rfl ?_ | refine o_get (p := 27) m_Di_divide rfl rfl (by assumption) (by assumption) rfl ?_
    refine fi_step (pc' := 28) m_Di_divide rfl rfl ?_
    refine s_ic_ne (p := 31) m_Di_divide rfl rfl (by omega) (by omega) (by omega) (by omega) (fun hbr => False.elim (by omega)) (fun hbr => ?_)
    refine fi_step (pc' := 32) m_Di_divide rfl rfl ?_
    refine fi_step (pc' := 33) m_Di_divide rfl rfl ?_
    refine g_2 (p := 36) m_Di_divide rfl inv_v (by decide) m_Wh_becomeW rfl rfl (by omega) (by omega) (Nat.le_of_ble_eq_true rfl) (Nat.le_of_ble_eq_true rfl) (SN_rcv h2 hA _) (n_becomeW (k := kb) h2 hA hN (fun e => n2 e.symm) (by rw [b2N]; omega) (by omega) (by omega) (by omega)) (fun v w hP => ?_)
    obtain ⟨rfl, h3⟩ := hP
    rw [b2N] at h3
    have c3V : upv (upv (upv v A 0) N ((v N).natAbs : Int)) A ((v N).natAbs : Int) V = v V := by rw [upv_ne _ (fun e => n3 e.symm), b2V]
    have c3A : upv (upv (upv v A 0) N ((v N).natAbs : Int)) A ((v N).natAbs : Int) A = ((v N).natAbs : Int) := upv_same ..
    obtain ⟨dA3, capA3, f3, kA3, bA3, dV3, capV3, g3, m3, q3, hw, _, _, _, _, ho, V13, V23, V33, V43, _⟩ := SN_raw h3 hA hV (fun e => n3 e.symm)
    rw [c3V] at V13
    obtain ⟨rfl, dfV3, evV3, ltV3⟩ := Wv_nn V13 (by omega)
    have m31 := (ltV3 vV).1
    have m32 : m3 = 1 := by
      have := Wv_len V13 (k := 1) (by have : (1000000000 : Int) ^ 1 = 1000000000 := by decide
                                      omega)
      omega
    subst m32
    have eg3 : g3 0 = v V := by rw [← evV3, dw_succ]; simp [dw, dvB]
    refine fi_step (pc' := 37) m_Di_divide rfl rfl ?_
    refine fi_step (pc' := 38) m_Di_divide rfl rfl ?_
    refine fi_step (pc' := 39) m_Di_divide rfl rfl ?_
    first | refine t_get (p := 42) m_Di_divide rfl rfl (by assumption) rfl ?_ | refine o_get (p := 42) m_Di_divide rfl rfl (by assumption) (by assumption) rfl ?_
    refine fi_step (pc' := 43) m_Di_divide rfl rfl ?_
    first | refine t_ld (p := 44) m_Di_divide rfl rfl (by assumption) (by omega) (by omega) (by omega) ?_ | refine o_ld (p := 44) m_Di_divide rfl rfl (by assumption) (by assumption) (by omega) (by omega) (by omega) ?_
    rw [eg3]
    refine s_i2l (p := 45) m_Di_divide rfl rfl (by omega) (by omega) ?_
    obtain ⟨vd, hvd⟩ : ∃ vd : Nat, v V = vd := ⟨(v V).toNat, by omega⟩
    rw [hvd]
    refine g_2 (p := 48) m_Di_divide rfl inv_v (by decide) m_Wh_overDigit rfl rfl (by omega) (by omega) (Nat.le_of_ble_eq_true rfl) (Nat.le_of_ble_eq_true rfl) (SN_rcv h3 hA _) (n_overDigit (g := vd) h3 hA (by rw [c3A]; omega) (by omega) (by omega) (by omega) (by omega)) (fun v w hP => ?_)
    obtain ⟨rfl, h4⟩ := hP
    rw [c3A, ← hvd] at h4 ⊢
    have r0 := Int.emod_nonneg ((v N).natAbs : Int) (show v V ≠ 0 by omega)
    have r1 := Int.emod_lt_of_pos ((v N).natAbs : Int) vV
    refine g_2 (p := 51) m_Di_divide rfl inv_v (by decide) m_Wh_becomeJ rfl rfl (by omega) (by omega) (Nat.le_of_ble_eq_true rfl) (Nat.le_of_ble_eq_true rfl) (SN_rcv h4 hN _) (n_becomeJ (x := ((v N).natAbs : Int) % v V) h4 hN (by omega) (by omega) (by omega) (by omega)) (fun v w hP => ?_)
    obtain ⟨rfl, h5⟩ := hP
    refine fi_step (pc' := 69) m_Di_divide rfl rfl ?_
    exact fin1 w _ h5 (upv_same ..) (by rw [upv_ne _ n2, upv_same]) (fun j jN jA j9 => by rw [upv_ne _ jN, upv_ne _ jA, upv_ne _ jA]; exact keep2 j jN jA)
  · have vV9 : 1000000000 ≤ v V := by
      have h9 : (1000000000 : Int) ^ 1 = 1000000000 := by decide
      have hge := dw_ge (f := g2) (n := m2 - 1) (by rw [show m2 - 1 + 1 = m2 by omega]; exact dfV2) (ltV2 vV).2
      have hp : (1000000000 : Int) ^ 1 ≤ 1000000000 ^ (m2 - 1) := pow_mono (by decide) (by omega)
      rw [show m2 - 1 + 1 = m2 by omega] at hge
      omega
    refine fi_step (pc' := 24) m_Di_divide rfl rfl ?_
    first | refine t_get (p := 27) m_Di_divide rfl rfl (by assumption) rfl ?_ | refine o_get (p := 27) m_Di_divide rfl rfl (by assumption) (by assumption) rfl ?_
    refine fi_step (pc' := 28) m_Di_divide rfl rfl ?_
    refine s_ic_ne (p := 31) m_Di_divide rfl rfl (by omega) (by omega) (by omega) (by omega) (fun hbr => ?_) (fun hbr => False.elim (by omega))
    refine fi_step (pc' := 55) m_Di_divide rfl rfl ?_
    refine fi_step (pc' := 56) m_Di_divide rfl rfl ?_
    refine c_2 (p := 59) m_Di_divide rfl inv_v (by decide) m_Wh_isSmallerThan rfl rfl (by omega) (by omega) (Nat.le_of_ble_eq_true rfl) (Nat.le_of_ble_eq_true rfl) (SN_rcv h2 hN _) (n_less h2 hN hV n1) ?_
    rw [b2N, b2V]
    by_cases hl : ((v N).natAbs : Int) < v V
    · rw [if_pos (by omega)]
      refine s_if_ne (p := 62) m_Di_divide rfl rfl (by omega) (by omega) (fun hbr => ?_) (fun hbr => False.elim (by omega))
      exact fin1 w _ h2 (by rw [b2N, Int.emod_eq_of_lt (by omega) hl]) (by rw [b2A, Int.ediv_eq_zero_of_lt (by omega) hl]) (fun j jN jA j9 => keep2 j jN jA)
    · rw [if_neg (by omega)]
      have hD := SN_const h2 hD0 no18.1 no18.2
      refine s_if_ne (p := 62) m_Di_divide rfl rfl (by omega) (by omega) (fun hbr => False.elim (by omega)) (fun hbr => ?_)
      refine fi_step (pc' := 63) m_Di_divide rfl rfl ?_
      refine fi_step (pc' := 64) m_Di_divide rfl rfl ?_
      refine fi_step (pc' := 65) m_Di_divide rfl rfl ?_
      refine fi_step (pc' := 66) m_Di_divide rfl rfl ?_
      refine g_4 (p := 69) m_Di_divide rfl inv_v (by decide) m_Di_divideLong rfl rfl (by omega) (by omega) (Nat.le_of_ble_eq_true rfl) (Nat.le_of_ble_eq_true rfl) (rcv18 hD _) (n_divideLong (kb := kb) hD0 h2 hN hV hA n1 n2 n3 x1 x2 x3 b2A (by rw [b2V]; exact vV9) (by rw [b2N, b2V]; omega) (by rw [b2N]; exact hb) (by omega) (by omega) (by omega) (by omega) (by omega)) (fun v w hP => ?_)
      obtain ⟨rfl, x, h3⟩ := hP
      rw [b2N, b2V] at h3
      exact fin1 w _ h3 (by rw [upv_ne _ (fun e => n2 e.symm), upv_same]) (upv_same ..) (fun j jN jA j9 => by rw [upv_ne _ jA, upv_ne _ jN, upv_ne _ j9]; exact keep2 j jN jA)
end DIV3
