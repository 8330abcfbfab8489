/-! division of the reference's numbers -/
section BIG5
variable {xs : List Int32} {fr lo : Nat} {w0 : ax_W}
theorem bigHolds_loop {k u : Int} {n' sh : Nat} {m m' : Int} {w : ax_W} {s : mo_S} (hfr : 1 ≤ fr) (hlo : 22 ≤ lo) (hw : RW w0 w s) (k0 : 0 ≤ k) (k1 : k < 277) (u0 : 0 ≤ u) (u1 : u < 277) (hk : Mag s k (sh + n') m) (hu : Mag s u n' m') : ∀ (t : Nat), t ≤ n' → (∀ j : Nat, t ≤ j → j < n' → s 1 (140 * k + sh + j) = s 1 (140 * u + j)) →
    fin xs fr lo 155 50 [some (.ref 425), some (.int (jI k)), some (.int (jI u)), some (.int (jI sh)), some (.int (jI ((sh : Int) + (t : Int) - 1)))] [] w (Same (.int (jI (if m' * 16777216 ^ sh ≤ m then 1 else 0))) w) := by
  have ⟨k2, k3, k4, k5, k6⟩ := hk
  have ⟨u2, u3, u4, u5, u6⟩ := hu
  have k7 : m = dvB 16777216 (s 1) (140 * k) sh + 16777216 ^ sh * dvB 16777216 (s 1) (140 * k + sh) n' := by rw [k6, dvB_split]
  have lo0 := dvB_nonneg (B := 16777216) (by decide) (f := s 1) (o := 140 * k) (n := sh) (fun i hi => (k4 i (by omega)).1)
  have lo1 := dvB_lt (B := 16777216) (by decide) (f := s 1) (o := 140 * k) (n := sh) (fun i hi => k4 i (by omega))
  have pp := powB_pos (B := 16777216) (by decide) sh
  have kd : digB 16777216 (s 1) (140 * k + sh) n' := fun i hi => by
    have := k4 (sh + i) (by omega); rwa [show 140 * k + ((sh + i : Nat) : Int) = 140 * k + sh + i by omega] at this
  intro t
  induction t with
  | zero =>
    intro ht he
    have e : dvB 16777216 (s 1) (140 * k + sh) n' = m' := by rw [u6]; exact dvB_congr (fun i hi => he i (by omega) hi)
    rw [e] at k7
    rw [if_pos (by rw [k7, Int.mul_comm]; omega)]
    refine fi_step (pc' := 52) m_Mo_bigHolds rfl rfl ?_
    refine fi_step (pc' := 53) m_Mo_bigHolds rfl rfl ?_
    refine s_ic_lt (p := 56) m_Mo_bigHolds rfl rfl (by omega) (by omega) (by omega) (by omega) (fun hbr => ?_) (fun hbr => False.elim (by omega))
    refine fi_step (pc' := 83) m_Mo_bigHolds rfl rfl ?_
    refine fi_step (pc' := 84) m_Mo_bigHolds rfl rfl ?_
    refine s_ic_lt (p := 87) m_Mo_bigHolds rfl rfl (by omega) (by omega) (by omega) (by omega) (fun hbr => ?_) (fun hbr => False.elim (by omega))
    refine fi_step (pc' := 107) m_Mo_bigHolds rfl rfl ?_
    refine fi_step (pc' := 111) m_Mo_bigHolds rfl rfl ?_
    exact s_retb m_Mo_bigHolds rfl rfl (by omega) (by first | exact Or.inl rfl | exact Or.inr rfl | omega)
  | succ t ih =>
    intro ht he
    have q1 := k4 (sh + t) (by omega)
    have q2 := u4 t (by omega)
    rw [show 140 * k + ((sh + t : Nat) : Int) = 140 * k + ((sh : Int) + t) by omega] at q1
    rw [show (sh : Int) + ((t + 1 : Nat) : Int) - 1 = (sh : Int) + (t : Int) by omega]
    have ex : (sh : Int) + (t : Int) - (sh : Int) = t := by omega
    refine fi_step (pc' := 52) m_Mo_bigHolds rfl rfl ?_
    refine fi_step (pc' := 53) m_Mo_bigHolds rfl rfl ?_
    refine s_ic_lt (p := 56) m_Mo_bigHolds rfl rfl (by omega) (by omega) (by omega) (by omega) (fun hbr => False.elim (by omega)) (fun hbr => ?_)
    refine fi_step (pc' := 57) m_Mo_bigHolds rfl rfl ?_
    refine fi_step (pc' := 58) m_Mo_bigHolds rfl rfl ?_
    refine fi_step (pc' := 60) m_Mo_bigHolds rfl rfl ?_
    refine c_3 (p := 63) m_Mo_bigHolds rfl inv_v (by decide) m_Mo_bigAt rfl rfl (by omega) (by omega) (Nat.le_of_ble_eq_true rfl) (Nat.le_of_ble_eq_true rfl) (RW_rcv hw _) (c_bigAt hw k0 k1 (by omega) (by omega) (by omega) (by omega)) ?_
    refine fi_step (pc' := 64) m_Mo_bigHolds rfl rfl ?_
    refine fi_step (pc' := 65) m_Mo_bigHolds rfl rfl ?_
    refine fi_step (pc' := 67) m_Mo_bigHolds rfl rfl ?_
    refine fi_step (pc' := 68) m_Mo_bigHolds rfl rfl ?_
    refine s_isub (p := 69) m_Mo_bigHolds rfl rfl ?_
    refine c_3 (p := 72) m_Mo_bigHolds rfl inv_v (by decide) m_Mo_bigAt rfl rfl (by omega) (by omega) (Nat.le_of_ble_eq_true rfl) (Nat.le_of_ble_eq_true rfl) (RW_rcv hw _) (c_bigAt hw u0 u1 (by omega) (by omega) (by omega) (by omega)) ?_
    rw [ex, if_pos (by omega), if_pos (by omega)]
    refine s_ic_ne (p := 75) m_Mo_bigHolds rfl rfl (by omega) (by omega) (by omega) (by omega) (fun h => ?_) (fun h => ?_)
    · refine fi_step (pc' := 83) m_Mo_bigHolds rfl rfl ?_
      refine fi_step (pc' := 84) m_Mo_bigHolds rfl rfl ?_
      refine s_ic_lt (p := 87) m_Mo_bigHolds rfl rfl (by omega) (by omega) (by omega) (by omega) (fun hbr => False.elim (by omega)) (fun hbr => ?_)
      refine fi_step (pc' := 88) m_Mo_bigHolds rfl rfl ?_
      refine fi_step (pc' := 89) m_Mo_bigHolds rfl rfl ?_
      refine fi_step (pc' := 91) m_Mo_bigHolds rfl rfl ?_
      refine c_3 (p := 94) m_Mo_bigHolds rfl inv_v (by decide) m_Mo_bigAt rfl rfl (by omega) (by omega) (Nat.le_of_ble_eq_true rfl) (Nat.le_of_ble_eq_true rfl) (RW_rcv hw _) (c_bigAt hw k0 k1 (by omega) (by omega) (by omega) (by omega)) ?_
      refine fi_step (pc' := 95) m_Mo_bigHolds rfl rfl ?_
      refine fi_step (pc' := 96) m_Mo_bigHolds rfl rfl ?_
      refine fi_step (pc' := 98) m_Mo_bigHolds rfl rfl ?_
      refine fi_step (pc' := 99) m_Mo_bigHolds rfl rfl ?_
      refine s_isub (p := 100) m_Mo_bigHolds rfl rfl ?_
      refine c_3 (p := 103) m_Mo_bigHolds rfl inv_v (by decide) m_Mo_bigAt rfl rfl (by omega) (by omega) (Nat.le_of_ble_eq_true rfl) (Nat.le_of_ble_eq_true rfl) (RW_rcv hw _) (c_bigAt hw u0 u1 (by omega) (by omega) (by omega) (by omega)) ?_
      rw [ex, if_pos (show (sh : Int) + (t : Int) < s 2 k by omega), if_pos (show (t : Int) < s 2 u by omega)]
      have ee : 140 * k + (sh : Int) + (t : Int) = 140 * k + ((sh : Int) + t) := by omega
      refine s_ic_le (p := 106) m_Mo_bigHolds rfl rfl (by omega) (by omega) (by omega) (by omega) (fun g => ?_) (fun g => ?_)
      · have h1 := dvB_cmp (by decide) kd u4 (show t < n' by omega) (fun j h1 h2 => he j (by omega) h2) (by rw [ee]; omega)
        have h2 : 16777216 ^ sh * (dvB 16777216 (s 1) (140 * k + sh) n' + 1) ≤ 16777216 ^ sh * m' := Int.mul_le_mul_of_nonneg_left (by omega) (Int.le_of_lt pp)
        have h3 : ¬ m' * 16777216 ^ sh ≤ m := by rw [Int.mul_comm]; rw [Int.mul_add, Int.mul_one] at h2; omega
        rw [if_neg h3]
        refine fi_step (pc' := 111) m_Mo_bigHolds rfl rfl ?_
        exact s_retb m_Mo_bigHolds rfl rfl (by omega) (by first | exact Or.inl rfl | exact Or.inr rfl | omega)
      · have h1 := dvB_cmp (by decide) u4 kd (show t < n' by omega) (fun j h1 h2 => (he j (by omega) h2).symm) (by rw [ee]; omega)
        have h2 : 16777216 ^ sh * m' ≤ 16777216 ^ sh * dvB 16777216 (s 1) (140 * k + sh) n' := Int.mul_le_mul_of_nonneg_left (by omega) (Int.le_of_lt pp)
        have h3 : m' * 16777216 ^ sh ≤ m := by rw [Int.mul_comm]; omega
        rw [if_pos h3]
        refine fi_step (pc' := 107) m_Mo_bigHolds rfl rfl ?_
        refine fi_step (pc' := 111) m_Mo_bigHolds rfl rfl ?_
        exact s_retb m_Mo_bigHolds rfl rfl (by omega) (by first | exact Or.inl rfl | exact Or.inr rfl | omega)
    · refine s_iinc (p := 78) m_Mo_bigHolds rfl rfl rfl ?_
      refine fi_step (pc' := 50) m_Mo_bigHolds rfl rfl ?_
      refine ih (by omega) (fun j h1 h2 => ?_)
      by_cases e : j = t
      · subst e; rw [show 140 * k + (sh : Int) + (j : Int) = 140 * k + ((sh : Int) + j) by omega]; exact h
      · exact he j (by omega) h2
theorem c_bigHolds {k u : Int} {n n' sh : Nat} {m m' : Int} {w : ax_W} {s : mo_S} (hfr : 1 ≤ fr) (hlo : 22 ≤ lo) (hw : RW w0 w s) (k0 : 0 ≤ k) (k1 : k < 277) (u0 : 0 ≤ u) (u1 : u < 277) (hk : Mag s k n m) (hu : Mag s u n' m') (hn : 1 ≤ n') (hsh : sh ≤ 140) :
    fin xs fr lo 155 0 (ax_ent [.ref 425, .int (jI k), .int (jI u), .int (jI sh)] 5) [] w (Same (.int (jI (if m' * 16777216 ^ sh ≤ m then 1 else 0))) w) := by
  have ⟨k2, k3, k4, k5, k6⟩ := hk
  have ⟨u2, u3, u4, u5, u6⟩ := hu
  have pp := powB_pos (B := 16777216) (by decide) sh
  refine fi_step (pc' := 1) m_Mo_bigHolds rfl rfl ?_
  refine r_get (p := 4) m_Mo_bigHolds rfl rfl (by assumption) rfl ?_
  refine fi_step (pc' := 5) m_Mo_bigHolds rfl rfl ?_
  refine r_ldI (p := 6) m_Mo_bigHolds rfl rfl (by assumption) (by decide) rfl (by decide) (by omega) (by omega) ?_
  refine fi_step (pc' := 7) m_Mo_bigHolds rfl rfl ?_
  refine r_get (p := 10) m_Mo_bigHolds rfl rfl (by assumption) rfl ?_
  refine fi_step (pc' := 11) m_Mo_bigHolds rfl rfl ?_
  refine r_ldI (p := 12) m_Mo_bigHolds rfl rfl (by assumption) (by decide) rfl (by decide) (by omega) (by omega) ?_
  refine fi_step (pc' := 13) m_Mo_bigHolds rfl rfl ?_
  refine s_iadd (p := 14) m_Mo_bigHolds rfl rfl ?_
  refine s_ic_eq (p := 17) m_Mo_bigHolds rfl rfl (by omega) (by omega) (by omega) (by omega) (fun h => ?_) (fun h => ?_)
  · have e : n = sh + n' := by omega
    subst e
    refine fi_step (pc' := 41) m_Mo_bigHolds rfl rfl ?_
    refine r_get (p := 44) m_Mo_bigHolds rfl rfl (by assumption) rfl ?_
    refine fi_step (pc' := 45) m_Mo_bigHolds rfl rfl ?_
    refine r_ldI (p := 46) m_Mo_bigHolds rfl rfl (by assumption) (by decide) rfl (by decide) (by omega) (by omega) ?_
    refine fi_step (pc' := 47) m_Mo_bigHolds rfl rfl ?_
    refine s_isub (p := 48) m_Mo_bigHolds rfl rfl ?_
    refine fi_step (pc' := 50) m_Mo_bigHolds rfl rfl ?_
    rw [show s 2 k - 1 = (sh : Int) + (n' : Int) - 1 by omega]
    exact bigHolds_loop hfr hlo hw k0 k1 u0 u1 hk hu n' (by omega) (fun j h1 h2 => by omega)
  · refine fi_step (pc' := 18) m_Mo_bigHolds rfl rfl ?_
    refine r_get (p := 21) m_Mo_bigHolds rfl rfl (by assumption) rfl ?_
    refine fi_step (pc' := 22) m_Mo_bigHolds rfl rfl ?_
    refine r_ldI (p := 23) m_Mo_bigHolds rfl rfl (by assumption) (by decide) rfl (by decide) (by omega) (by omega) ?_
    refine fi_step (pc' := 24) m_Mo_bigHolds rfl rfl ?_
    refine r_get (p := 27) m_Mo_bigHolds rfl rfl (by assumption) rfl ?_
    refine fi_step (pc' := 28) m_Mo_bigHolds rfl rfl ?_
    refine r_ldI (p := 29) m_Mo_bigHolds rfl rfl (by assumption) (by decide) rfl (by decide) (by omega) (by omega) ?_
    refine fi_step (pc' := 30) m_Mo_bigHolds rfl rfl ?_
    refine s_iadd (p := 31) m_Mo_bigHolds rfl rfl ?_
    refine s_ic_le (p := 34) m_Mo_bigHolds rfl rfl (by omega) (by omega) (by omega) (by omega) (fun g => ?_) (fun g => ?_)
    · obtain ⟨p, rfl⟩ : ∃ p, n' = p + 1 := ⟨n' - 1, by omega⟩
      have h1 := Mag_lt hk
      have h2 := Mag_ge hu
      have h3 := pow_mono (B := 16777216) (by decide) (show n ≤ p + sh by omega)
      have h4 : (16777216 : Int) ^ p * 16777216 ^ sh ≤ m' * 16777216 ^ sh := Int.mul_le_mul_of_nonneg_right h2 (Int.le_of_lt pp)
      rw [← Int.pow_add] at h4
      rw [if_neg (by omega)]
      refine fi_step (pc' := 39) m_Mo_bigHolds rfl rfl ?_
      exact s_retb m_Mo_bigHolds rfl rfl (by omega) (by first | exact Or.inl rfl | exact Or.inr rfl | omega)
    · obtain ⟨p, rfl⟩ : ∃ p, n = p + 1 := ⟨n - 1, by omega⟩
      have h1 := Mag_ge hk
      have h2 := Mag_lt hu
      have h3 := pow_mono (B := 16777216) (by decide) (show n' + sh ≤ p by omega)
      have h4 : m' * 16777216 ^ sh ≤ 16777216 ^ n' * 16777216 ^ sh := Int.mul_le_mul_of_nonneg_right (by omega) (Int.le_of_lt pp)
      rw [← Int.pow_add] at h4
      rw [if_pos (by omega)]
      refine fi_step (pc' := 35) m_Mo_bigHolds rfl rfl ?_
      refine fi_step (pc' := 39) m_Mo_bigHolds rfl rfl ?_
      exact s_retb m_Mo_bigHolds rfl rfl (by omega) (by first | exact Or.inl rfl | exact Or.inr rfl | omega)
theorem bigLose_loop {k u ti : Int} {n n' sh : Nat} {m m' : Int} {S : mo_S} (hfr : 1 ≤ fr) (hlo : 21 ≤ lo) (k0 : 0 ≤ k) (k1 : k < 277) (u0 : 0 ≤ u) (u1 : u < 277) (hku : k ≠ u) (hk : Mag S k n m) (hu : Mag S u n' m') (hn : sh + n' ≤ n) (t0 : 0 ≤ ti) (t1 : ti < 16777216) (hle : ti * m' * 16777216 ^ sh ≤ m) :
    ∀ (c j : Nat) (bo : Int) (y9 y10 y11 y12 : Option Value) (w : ax_W) (s : mo_S), RW w0 w s → sh + j + c = n → chP k S s → s 2 = S 2 → s 3 = S 3 → (∀ i : Nat, sh + j ≤ i → s 1 (140 * k + i) = S 1 (140 * k + i)) → digB 16777216 (s 1) (140 * k) (sh + j) → 0 ≤ bo → bo ≤ ti → dvB 16777216 (s 1) (140 * k) (sh + j) - bo * 16777216 ^ (sh + j) = dvB 16777216 (S 1) (140 * k) (sh + j) - ti * dvB 16777216 (pad S u) 0 j * 16777216 ^ sh →
    fin xs fr lo 156 7 [some (.ref 425), some (.int (jI k)), some (.int (jI u)), some (.long (jL ti)), none, some (.int (jI sh)), some (.long (jL bo)), none, some (.int (jI ((sh : Int) + (j : Int)))), y9, y10, y11, y12] [] w (Ret fun v w' => v = none ∧ ∃ s' n1, RW w0 w' s' ∧ chP k S s' ∧ s' 3 = S 3 ∧ Mag s' k n1 (m - ti * m' * 16777216 ^ sh)) := by
  have ⟨k2, k3, k4, k5, k6⟩ := hk
  have ⟨u2, u3, u4, u5, u6⟩ := hu
  intro c
  induction c with
  | zero =>
    intro j bo y9 y10 y11 y12 w s hw hj hc e2 e3 hs hd b0 b1 hinv
    have hjn : sh + j = n := by omega
    rw [dvB_pad u2 (by omega), ← u6, hjn, ← k6] at hinv
    rw [hjn] at hd
    have hlt := dvB_lt (B := 16777216) (by decide) hd
    have pn := powB_pos (B := 16777216) (by decide) n
    have hb0 : bo = 0 := by
      rcases Int.lt_or_le 0 bo with h' | h'
      · have : 1 * 16777216 ^ n ≤ bo * 16777216 ^ n := Int.mul_le_mul_of_nonneg_right (by omega) (Int.le_of_lt pn)
        omega
      · omega
    subst hb0
    have e4 : s 2 k = n := by rw [e2]; exact k2
    refine fi_step (pc' := 9) m_Mo_bigLose rfl rfl ?_
    refine fi_step (pc' := 10) m_Mo_bigLose rfl rfl ?_
    refine r_get (p := 13) m_Mo_bigLose rfl rfl (by assumption) rfl ?_
    refine fi_step (pc' := 14) m_Mo_bigLose rfl rfl ?_
    refine r_ldI (p := 15) m_Mo_bigLose rfl rfl (by assumption) (by decide) rfl (by decide) (by omega) (by omega) ?_
    refine s_ic_ge (p := 18) m_Mo_bigLose rfl rfl (by omega) (by omega) (by omega) (by omega) (fun hbr => ?_) (fun hbr => False.elim (by omega))
    refine fi_step (pc' := 116) m_Mo_bigLose rfl rfl ?_
    refine fi_step (pc' := 117) m_Mo_bigLose rfl rfl ?_
    refine g_2 (p := 120) m_Mo_bigLose rfl inv_v (by decide) m_Mo_bigTrim rfl rfl (by omega) (by omega) (Nat.le_of_ble_eq_true rfl) (Nat.le_of_ble_eq_true rfl) (RW_rcv hw _) (c_bigTrim k0 k1 n w _ hw e4 k3 hd) (fun v w hP => ?_)
    obtain ⟨rfl, n1, g1, g2⟩ := hP
    refine p_ret m_Mo_bigLose rfl rfl ?_
    refine ⟨rfl, _, n1, g1, chP_trans hc (chP_up2 k s _), by rw [up_ne _ (by decide)]; exact e3, ?_⟩
    rw [show m - ti * m' * 16777216 ^ sh = dvB 16777216 (s 1) (140 * k) n by omega]; exact g2
  | succ c ih =>
    intro j bo y9 y10 y11 y12 w s hw hj hc e2 e3 hs hd b0 b1 hinv
    have e4 : s 2 k = n := by rw [e2]; exact k2
    have e5 : s 2 u = S 2 u := by rw [e2]
    have eK := hs (sh + j) (by omega)
    rw [show 140 * k + ((sh + j : Nat) : Int) = 140 * k + ((sh : Int) + j) by omega] at eK
    have dK := k4 (sh + j) (by omega)
    rw [show 140 * k + ((sh + j : Nat) : Int) = 140 * k + ((sh : Int) + j) by omega, ← eK] at dK
    have dU := pad_dig u2 u4 (i := j) (by omega)
    have t2 : 0 ≤ ti * pad S u j := Int.mul_nonneg t0 dU.1
    have t3 : ti * pad S u j ≤ ti * 16777215 := Int.mul_le_mul_of_nonneg_left (by omega) t0
    have ex : (sh : Int) + (j : Int) - (sh : Int) = j := by omega
    have mid : ∀ T : Int, T = ti * pad S u j → fin xs fr lo 156 72 [some (.ref 425), some (.int (jI k)), some (.int (jI u)), some (.long (jL ti)), none, some (.int (jI sh)), some (.long (jL bo)), none, some (.int (jI ((sh : Int) + (j : Int)))), y9, y10, y11, y12] [.long (jL T), .long (jL (s 1 (140 * k + ((sh : Int) + j)) - bo))] w (Ret fun v w' => v = none ∧ ∃ s' n1, RW w0 w' s' ∧ chP k S s' ∧ s' 3 = S 3 ∧ Mag s' k n1 (m - ti * m' * 16777216 ^ sh)) := by
      intro T hT
      have T0 : 0 ≤ T := by omega
      have T1 : T ≤ ti * 16777215 := by omega
      refine s_lsub (p := 73) m_Mo_bigLose rfl rfl ?_
      generalize hv : s 1 (140 * k + ((sh : Int) + j)) - bo - T = v
      refine fi_step (pc' := 75) m_Mo_bigLose rfl rfl ?_
      refine fi_step (pc' := 77) m_Mo_bigLose rfl rfl ?_
      refine s_ldc2 (p := 80) 16777215 m_Mo_bigLose rfl rfl rfl ?_
      refine b_land (p := 81) m_Mo_bigLose rfl rfl  ?_
      refine fi_step (pc' := 83) m_Mo_bigLose rfl rfl ?_
      refine fi_step (pc' := 85) m_Mo_bigLose rfl rfl ?_
      refine fi_step (pc' := 87) m_Mo_bigLose rfl rfl ?_
      refine s_lsub (p := 88) m_Mo_bigLose rfl rfl ?_
      refine s_bipush (p := 90) m_Mo_bigLose rfl rfl rfl ?_
      refine b_lshr (p := 91) m_Mo_bigLose rfl rfl (by omega) (by omega) ?_
      refine fi_step (pc' := 93) m_Mo_bigLose rfl rfl ?_
      refine fi_step (pc' := 94) m_Mo_bigLose rfl rfl ?_
      refine r_get (p := 97) m_Mo_bigLose rfl rfl (by assumption) rfl ?_
      refine s_sipush (p := 100) m_Mo_bigLose rfl rfl rfl ?_
      refine fi_step (pc' := 101) m_Mo_bigLose rfl rfl ?_
      refine s_imul (p := 102) m_Mo_bigLose rfl rfl ?_
      refine fi_step (pc' := 104) m_Mo_bigLose rfl rfl ?_
      refine s_iadd (p := 105) m_Mo_bigLose rfl rfl ?_
      refine fi_step (pc' := 107) m_Mo_bigLose rfl rfl ?_
      refine s_l2i (p := 108) m_Mo_bigLose rfl rfl ?_
      refine r_stI (p := 109) m_Mo_bigLose rfl rfl (by assumption) (by decide) (fun _ => rfl) (by decide) (by omega) (by omega) (fun w hw => ?_)
      refine s_iinc (p := 112) m_Mo_bigLose rfl rfl rfl ?_
      refine fi_step (pc' := 7) m_Mo_bigLose rfl rfl ?_
      have ve := Int.emod_add_mul_ediv v 16777216
      have v0 := Int.emod_nonneg v (show (16777216 : Int) ≠ 0 by decide)
      have v1 := Int.emod_lt_of_pos v (show (0 : Int) < 16777216 by decide)
      have hb : (v % 16777216 - v) / 16777216 = -(v / 16777216) := by omega
      rw [hb]
      have := ih (j + 1) (-(v / 16777216)) (some (.long (jL v))) none (some (.long (jL (v % 16777216)))) none w _ hw (by omega) (chP_trans hc (chP_up1 s _ (by omega) (by omega))) (by rw [up_ne s (by decide)]; exact e2) (by rw [up_ne s (by decide)]; exact e3) ?_ ?_ (by omega) (by omega) ?_
      · rw [show (sh : Int) + ((j + 1 : Nat) : Int) = (sh : Int) + (j : Int) + 1 by omega] at this
        exact this
      · intro i hi; rw [up_same, up1_ne _ (by omega)]; exact hs i (by omega)
      · rw [up_same]; exact digB_up (fun i hi hne => hd i (by omega)) v0 v1
      · rw [up_same, ← Nat.add_assoc, dvB_succ, dvB_succ, dvB_succ, show 140 * k + ((sh : Int) + (j : Int)) = 140 * k + ((sh + j : Nat) : Int) by omega, up1_same, dvB_up_out (by omega), Int.zero_add]
        rw [show 140 * k + ((sh : Int) + (j : Int)) = 140 * k + ((sh + j : Nat) : Int) by omega] at hv eK
        rw [eK] at hv
        have e6 : v % 16777216 = S 1 (140 * k + ((sh + j : Nat) : Int)) - bo - ti * pad S u j - 16777216 * (v / 16777216) := by omega
        rw [e6]
        grind
    refine fi_step (pc' := 9) m_Mo_bigLose rfl rfl ?_
    refine fi_step (pc' := 10) m_Mo_bigLose rfl rfl ?_
    refine r_get (p := 13) m_Mo_bigLose rfl rfl (by assumption) rfl ?_
    refine fi_step (pc' := 14) m_Mo_bigLose rfl rfl ?_
    refine r_ldI (p := 15) m_Mo_bigLose rfl rfl (by assumption) (by decide) rfl (by decide) (by omega) (by omega) ?_
    refine s_ic_ge (p := 18) m_Mo_bigLose rfl rfl (by omega) (by omega) (by omega) (by omega) (fun hbr => False.elim (by omega)) (fun hbr => ?_)
    refine fi_step (pc' := 19) m_Mo_bigLose rfl rfl ?_
    refine r_get (p := 22) m_Mo_bigLose rfl rfl (by assumption) rfl ?_
    refine s_sipush (p := 25) m_Mo_bigLose rfl rfl rfl ?_
    refine fi_step (pc' := 26) m_Mo_bigLose rfl rfl ?_
    refine s_imul (p := 27) m_Mo_bigLose rfl rfl ?_
    refine fi_step (pc' := 29) m_Mo_bigLose rfl rfl ?_
    refine s_iadd (p := 30) m_Mo_bigLose rfl rfl ?_
    refine r_ldI (p := 31) m_Mo_bigLose rfl rfl (by assumption) (by decide) rfl (by decide) (by omega) (by omega) ?_
    refine s_i2l (p := 32) m_Mo_bigLose rfl rfl (by omega) (by omega) ?_
    refine fi_step (pc' := 34) m_Mo_bigLose rfl rfl ?_
    refine s_lsub (p := 35) m_Mo_bigLose rfl rfl ?_
    refine fi_step (pc' := 37) m_Mo_bigLose rfl rfl ?_
    refine fi_step (pc' := 39) m_Mo_bigLose rfl rfl ?_
    refine s_isub (p := 40) m_Mo_bigLose rfl rfl ?_
    refine fi_step (pc' := 41) m_Mo_bigLose rfl rfl ?_
    refine r_get (p := 44) m_Mo_bigLose rfl rfl (by assumption) rfl ?_
    refine fi_step (pc' := 45) m_Mo_bigLose rfl rfl ?_
    refine r_ldI (p := 46) m_Mo_bigLose rfl rfl (by assumption) (by decide) rfl (by decide) (by omega) (by omega) ?_
    refine s_ic_ge (p := 49) m_Mo_bigLose rfl rfl (by omega) (by omega) (by omega) (by omega) (fun h => ?_) (fun h => ?_)
    · have : pad S u j = 0 := by rw [pad, if_neg (by omega)]
      refine s_lconst (p := 72) (v := 0) m_Mo_bigLose rfl rfl rfl ?_
      exact mid 0 (by rw [this]; simp)
    · have e7 : pad S u j = s 1 (140 * u + ((sh : Int) + j) - sh) := by
        rw [pad, if_pos (by omega), hc.1 _ (by omega), show 140 * u + ((sh : Int) + j) - sh = 140 * u + j by omega]
      rw [e7] at dU t2 t3
      refine fi_step (pc' := 50) m_Mo_bigLose rfl rfl ?_
      refine fi_step (pc' := 51) m_Mo_bigLose rfl rfl ?_
      refine r_get (p := 54) m_Mo_bigLose rfl rfl (by assumption) rfl ?_
      refine s_sipush (p := 57) m_Mo_bigLose rfl rfl rfl ?_
      refine fi_step (pc' := 58) m_Mo_bigLose rfl rfl ?_
      refine s_imul (p := 59) m_Mo_bigLose rfl rfl ?_
      refine fi_step (pc' := 61) m_Mo_bigLose rfl rfl ?_
      refine s_iadd (p := 62) m_Mo_bigLose rfl rfl ?_
      refine fi_step (pc' := 64) m_Mo_bigLose rfl rfl ?_
      refine s_isub (p := 65) m_Mo_bigLose rfl rfl ?_
      refine r_ldI (p := 66) m_Mo_bigLose rfl rfl (by assumption) (by decide) rfl (by decide) (by omega) (by omega) ?_
      refine s_i2l (p := 67) m_Mo_bigLose rfl rfl (by omega) (by omega) ?_
      refine s_lmul (p := 68) m_Mo_bigLose rfl rfl ?_
      refine fi_step (pc' := 72) m_Mo_bigLose rfl rfl ?_
      exact mid _ (by rw [e7])
theorem c_bigLose {k u ti : Int} {n n' sh : Nat} {m m' : Int} {w : ax_W} {s : mo_S} (hfr : 1 ≤ fr) (hlo : 21 ≤ lo) (hw : RW w0 w s) (k0 : 0 ≤ k) (k1 : k < 277) (u0 : 0 ≤ u) (u1 : u < 277) (hku : k ≠ u) (hk : Mag s k n m) (hu : Mag s u n' m') (hn : sh + n' ≤ n) (t0 : 0 ≤ ti) (t1 : ti < 16777216) (hle : ti * m' * 16777216 ^ sh ≤ m) :
    fin xs fr lo 156 0 (ax_ent [.ref 425, .int (jI k), .int (jI u), .long (jL ti), .int (jI sh)] 13) [] w (Ret fun v w' => v = none ∧ ∃ s' n1, RW w0 w' s' ∧ chP k s s' ∧ s' 3 = s 3 ∧ Mag s' k n1 (m - ti * m' * 16777216 ^ sh)) := by
  have ⟨k2, k3, k4, k5, k6⟩ := hk
  refine s_lconst (p := 1) (v := 0) m_Mo_bigLose rfl rfl rfl ?_
  refine fi_step (pc' := 3) m_Mo_bigLose rfl rfl ?_
  refine fi_step (pc' := 5) m_Mo_bigLose rfl rfl ?_
  refine fi_step (pc' := 7) m_Mo_bigLose rfl rfl ?_
  have := bigLose_loop (xs := xs) (w0 := w0) hfr hlo k0 k1 u0 u1 hku hk hu hn t0 t1 hle (n - sh) 0 0 none none none none w s hw (by omega) (chP_refl k s) rfl rfl (fun i hi => rfl) (fun i hi => k4 i (by omega)) (by decide) t0 (by rw [dvB_zero]; simp)
  rw [show (sh : Int) + ((0 : Nat) : Int) = sh by omega] at this
  exact this
end BIG5
