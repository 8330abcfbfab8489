/-! THE CLASS'S NUMBERS: over a digit, comparison -/
section WH8
variable {xs : List Int32} {fr lo : Nat} {w0 w : ax_W} {Q : Outcome → ax_W → Prop} {c d cap : Nat} {f : Int → Int} {n b : Int}
theorem over_loop {g k : Nat} {f0 : Int → Int} (g1 : 1 ≤ g) (g2 : g ≤ 1000000000) (hc : cap < 100000) (hk : k ≤ cap) (hd0 : dgs f0 k)
    (K : ∀ (w : ax_W) (f : Int → Int) (r : Int), TW w0 w c d cap f k b → dgs f k → dw f0 k = g * dw f k + r → 0 ≤ r → r < g → fin xs fr lo 65 51 [some (.ref c), some (.long (jL g)), none, some (.long (jL r)), none, some (.int (jI (-1)))] [] w Q) :
    ∀ (t : Nat) (r : Int) (w : ax_W) (f : Int → Int), t ≤ k → 0 ≤ r → r < g → TW w0 w c d cap f k b → (∀ i : Nat, i < t → f i = f0 i) → (∀ i : Nat, t ≤ i → i < k → 0 ≤ f i ∧ f i < 1000000000) → dvB 1000000000 f0 t (k - t) = g * dvB 1000000000 f t (k - t) + r →
    fin xs fr lo 65 10 [some (.ref c), some (.long (jL g)), none, some (.long (jL r)), none, some (.int (jI ((t : Int) - 1)))] [] w Q := by
  intro t
  induction t with
  | zero =>
    intro r w f ht r0 r1 hw hs hd hE
    refine fi_step (pc' := 12) m_Wh_overDigit rfl rfl ?_
    refine s_if_lt (p := 15) m_Wh_overDigit rfl rfl (by omega) (by omega) (fun hbr => ?_) (fun hbr => False.elim (by omega))
    exact K w f r hw (fun i hi => hd i (by omega) hi) (by rw [Nat.sub_zero] at hE; exact hE) r0 r1
  | succ t ih =>
    intro r w f ht r0 r1 hw hs hd hE
    have ft := hs t (by omega)
    have d0 := hd0 t (by omega)
    rw [← ft] at d0
    have e1 : ((t + 1 : Nat) : Int) - 1 = (t : Int) := by omega
    rw [e1]
    have hm := Int.emod_add_mul_ediv (r * 1000000000 + f t) g
    have m0 := Int.emod_nonneg (r * 1000000000 + f t) (show (g : Int) ≠ 0 by omega)
    have m1 := Int.emod_lt_of_pos (r * 1000000000 + f t) (show (0 : Int) < g by omega)
    have q0 : 0 ≤ (r * 1000000000 + f t) / g := Int.ediv_nonneg (by omega) (by omega)
    have q1 : (r * 1000000000 + f t) / g < 1000000000 := Int.ediv_lt_of_lt_mul (by omega) (by
      have : (r + 1) * 1000000000 ≤ g * 1000000000 := Int.mul_le_mul_of_nonneg_right (by omega) (by decide)
      omega)
    refine fi_step (pc' := 12) m_Wh_overDigit rfl rfl ?_
    refine s_if_lt (p := 15) m_Wh_overDigit rfl rfl (by omega) (by omega) (fun hbr => False.elim (by omega)) (fun hbr => ?_)
    refine fi_step (pc' := 16) m_Wh_overDigit rfl rfl ?_
    refine s_ldc2 (p := 19) 1000000000 m_Wh_overDigit rfl rfl rfl ?_
    refine s_lmul (p := 20) m_Wh_overDigit rfl rfl ?_
    refine fi_step (pc' := 21) m_Wh_overDigit rfl rfl ?_
    first | refine t_get (p := 24) m_Wh_overDigit rfl rfl (by assumption) rfl ?_ | refine o_get (p := 24) m_Wh_overDigit rfl rfl (by assumption) (by assumption) rfl ?_
    refine fi_step (pc' := 26) m_Wh_overDigit rfl rfl ?_
    first | refine t_ld (p := 27) m_Wh_overDigit rfl rfl (by assumption) (by omega) (by omega) (by omega) ?_ | refine o_ld (p := 27) m_Wh_overDigit rfl rfl (by assumption) (by assumption) (by omega) (by omega) (by omega) ?_
    refine s_i2l (p := 28) m_Wh_overDigit rfl rfl (by omega) (by omega) ?_
    refine s_ladd (p := 29) m_Wh_overDigit rfl rfl ?_
    refine fi_step (pc' := 30) m_Wh_overDigit rfl rfl ?_
    refine fi_step (pc' := 31) m_Wh_overDigit rfl rfl ?_
    first | refine t_get (p := 34) m_Wh_overDigit rfl rfl (by assumption) rfl ?_ | refine o_get (p := 34) m_Wh_overDigit rfl rfl (by assumption) (by assumption) rfl ?_
    refine fi_step (pc' := 36) m_Wh_overDigit rfl rfl ?_
    refine fi_step (pc' := 37) m_Wh_overDigit rfl rfl ?_
    refine fi_step (pc' := 38) m_Wh_overDigit rfl rfl ?_
    refine s_ldiv (p := 39) m_Wh_overDigit rfl rfl (by omega) (by omega) (by omega) (by omega) ?_
    refine s_l2i (p := 40) m_Wh_overDigit rfl rfl ?_
    refine t_st (p := 41) m_Wh_overDigit rfl rfl (by assumption) (by omega) (by omega) (by omega) (fun w hw => ?_)
    refine fi_step (pc' := 42) m_Wh_overDigit rfl rfl ?_
    refine fi_step (pc' := 43) m_Wh_overDigit rfl rfl ?_
    refine s_lrem (p := 44) m_Wh_overDigit rfl rfl (by omega) (by omega) (by omega) (by omega) ?_
    refine fi_step (pc' := 45) m_Wh_overDigit rfl rfl ?_
    refine s_iinc (p := 48) m_Wh_overDigit rfl rfl rfl ?_
    refine fi_step (pc' := 10) m_Wh_overDigit rfl rfl ?_
    rw [show (t : Int) + -1 = (t : Int) - 1 by omega]
    refine ih _ w _ (by omega) m0 m1 hw (fun i hi => by rw [up1_ne _ (by omega)]; exact hs i (by omega)) (fun i h0 h1 => ?_) ?_
    · by_cases e : i = t
      · subst e; rw [up1_same]; omega
      · rw [up1_ne _ (by omega)]; exact hd i (by omega) h1
    · have hkt : k - t = (k - (t + 1)) + 1 := by omega
      rw [hkt, dvB_low, dvB_low, up1_same, show (t : Int) + 1 = ((t + 1 : Nat) : Int) by omega, dvB_up_out (by omega), hE, ← ft]
      generalize dvB 1000000000 f ((t + 1 : Nat) : Int) (k - (t + 1)) = D at *
      generalize (r * 1000000000 + f t) % g = A at *
      generalize (r * 1000000000 + f t) / g = B at *
      have : f t = A + g * B - r * 1000000000 := by omega
      rw [this]; grind
theorem h_overDigit {g k : Nat} (hw : TW w0 w c d cap f k b) (g1 : 1 ≤ g) (g2 : g ≤ 1000000000) (hc : cap < 100000) (hk : k ≤ cap) (hd : dgs f k) (hb : b = 0) (hfr : 1 ≤ fr) (hlo : 30 ≤ lo) :
    fin xs fr lo 65 0 (ax_ent [.ref c, .long (jL g)] 6) [] w (Ret fun u w' => u = some (.long (jL (dw f k % g))) ∧ ∃ f' n' b', TW w0 w' c d cap f' n' b' ∧ n' ≤ k ∧ Wv f' n' b' (dw f k / g)) := by
  subst hb
  refine s_lconst (p := 1) (v := 0) m_Wh_overDigit rfl rfl rfl ?_
  refine fi_step (pc' := 2) m_Wh_overDigit rfl rfl ?_
  refine fi_step (pc' := 3) m_Wh_overDigit rfl rfl ?_
  first | refine t_get (p := 6) m_Wh_overDigit rfl rfl (by assumption) rfl ?_ | refine o_get (p := 6) m_Wh_overDigit rfl rfl (by assumption) (by assumption) rfl ?_
  refine fi_step (pc' := 7) m_Wh_overDigit rfl rfl ?_
  refine s_isub (p := 8) m_Wh_overDigit rfl rfl ?_
  refine fi_step (pc' := 10) m_Wh_overDigit rfl rfl ?_
  refine over_loop g1 g2 hc hk hd ?_ k 0 w f (by omega) (by omega) (by omega) hw (fun _ _ => rfl) (fun i h0 h1 => by omega) (by rw [Nat.sub_self, dvB_zero]; simp)
  intro w f2 r hw hd2 hE r0 r1
  refine fi_step (pc' := 52) m_Wh_overDigit rfl rfl ?_
  refine fi_step (pc' := 53) m_Wh_overDigit rfl rfl ?_
  first | refine t_get (p := 56) m_Wh_overDigit rfl rfl (by assumption) rfl ?_ | refine o_get (p := 56) m_Wh_overDigit rfl rfl (by assumption) (by assumption) rfl ?_
  refine g_2 (p := 59) m_Wh_overDigit rfl inv_v (by decide) m_Wh_trim rfl rfl (by omega) (by omega) (Nat.le_of_ble_eq_true rfl) (Nat.le_of_ble_eq_true rfl) (TW_rcv hw _) (h_trim (t := k) hc (Or.inl rfl) hw hk hd2) (fun v w hP => ?_)
  obtain ⟨rfl, n3, b3, hw, g2', _, g3⟩ := hP
  rw [if_neg (by decide)] at g3
  have e1 : dw f k % g = r := by rw [hE, Int.add_comm, Int.add_mul_emod_self_left, Int.emod_eq_of_lt r0 r1]
  have e2 : dw f k / g = dw f2 k := by rw [hE, Int.add_comm, Int.add_mul_ediv_left _ _ (by omega), Int.ediv_eq_zero_of_lt r0 r1]; omega
  rw [← e2] at g3
  rw [← e1]
  refine fi_step (pc' := 60) m_Wh_overDigit rfl rfl ?_
  refine p_retl m_Wh_overDigit rfl rfl ?_
  exact ⟨rfl, f2, n3, b3, hw, g2', g3⟩
theorem less_loop {a e cp k : Nat} {g : Int → Int} {q : Int} (hw : TW w0 w c d cap f k b) (hc : cap < 100000) (hk : k ≤ cap) (ho : OW w0 c d a e cp g k q) (hcp : cp < 100000) (hk' : k ≤ cp) (hd : dgs f k) (hg : dgs g k) :
    ∀ (t : Nat), t ≤ k → (∀ i : Nat, t ≤ i → i < k → f i = g i) → fin xs fr lo 66 35 [some (.ref c), some (.ref a), some (.int (jI ((t : Int) - 1)))] [] w (Same (.int (jI (if dw f k < dw g k then 1 else 0))) w) := by
  intro t
  induction t with
  | zero =>
    intro ht he
    have : dw f k = dw g k := dw_congr (fun i hi => he i (by omega) hi)
    rw [if_neg (by omega)]
    refine fi_step (pc' := 36) m_Wh_isSmallerThan rfl rfl ?_
    refine s_if_lt (p := 39) m_Wh_isSmallerThan rfl rfl (by omega) (by omega) (fun hbr => ?_) (fun hbr => False.elim (by omega))
    refine fi_step (pc' := 82) m_Wh_isSmallerThan rfl rfl ?_
    exact s_retb m_Wh_isSmallerThan rfl rfl (by omega) (by first | exact Or.inl rfl | exact Or.inr rfl | omega)
  | succ t ih =>
    intro ht he
    have e1 : ((t + 1 : Nat) : Int) - 1 = (t : Int) := by omega
    rw [e1]
    have d1 := hd t (by omega)
    have d2 := hg t (by omega)
    by_cases heq : f t = g t
    · refine fi_step (pc' := 36) m_Wh_isSmallerThan rfl rfl ?_
      refine s_if_lt (p := 39) m_Wh_isSmallerThan rfl rfl (by omega) (by omega) (fun hbr => False.elim (by omega)) (fun hbr => ?_)
      refine fi_step (pc' := 40) m_Wh_isSmallerThan rfl rfl ?_
      first | refine t_get (p := 43) m_Wh_isSmallerThan rfl rfl (by assumption) rfl ?_ | refine o_get (p := 43) m_Wh_isSmallerThan rfl rfl (by assumption) (by assumption) rfl ?_
      refine fi_step (pc' := 44) m_Wh_isSmallerThan rfl rfl ?_
      first | refine t_ld (p := 45) m_Wh_isSmallerThan rfl rfl (by assumption) (by omega) (by omega) (by omega) ?_ | refine o_ld (p := 45) m_Wh_isSmallerThan rfl rfl (by assumption) (by assumption) (by omega) (by omega) (by omega) ?_
      refine fi_step (pc' := 46) m_Wh_isSmallerThan rfl rfl ?_
      first | refine t_get (p := 49) m_Wh_isSmallerThan rfl rfl (by assumption) rfl ?_ | refine o_get (p := 49) m_Wh_isSmallerThan rfl rfl (by assumption) (by assumption) rfl ?_
      refine fi_step (pc' := 50) m_Wh_isSmallerThan rfl rfl ?_
      first | refine t_ld (p := 51) m_Wh_isSmallerThan rfl rfl (by assumption) (by omega) (by omega) (by omega) ?_ | refine o_ld (p := 51) m_Wh_isSmallerThan rfl rfl (by assumption) (by assumption) (by omega) (by omega) (by omega) ?_
      refine s_ic_eq (p := 54) m_Wh_isSmallerThan rfl rfl (by omega) (by omega) (by omega) (by omega) (fun hbr => ?_) (fun hbr => False.elim (by omega))
      refine s_iinc (p := 78) m_Wh_isSmallerThan rfl rfl rfl ?_
      refine fi_step (pc' := 35) m_Wh_isSmallerThan rfl rfl ?_
      rw [show (t : Int) + -1 = (t : Int) - 1 by omega]
      refine ih (by omega) (fun i h0 h1 => ?_)
      by_cases e' : i = t
      · subst e'; exact heq
      · exact he i (by omega) h1
    · by_cases hlt : f t < g t
      · have : dw f k < dw g k := dvB_cmp (B := 1000000000) (by decide) (f := f) (g := g) (o := 0) (p := 0) (n := k) (i := t) (dgs_digB.mp hd) (dgs_digB.mp hg) (by omega) (fun j h0 h1 => by rw [Int.zero_add]; exact he j (by omega) h1) (by rw [Int.zero_add]; exact hlt)
        rw [if_pos this]
        refine fi_step (pc' := 36) m_Wh_isSmallerThan rfl rfl ?_
        refine s_if_lt (p := 39) m_Wh_isSmallerThan rfl rfl (by omega) (by omega) (fun hbr => False.elim (by omega)) (fun hbr => ?_)
        refine fi_step (pc' := 40) m_Wh_isSmallerThan rfl rfl ?_
        first | refine t_get (p := 43) m_Wh_isSmallerThan rfl rfl (by assumption) rfl ?_ | refine o_get (p := 43) m_Wh_isSmallerThan rfl rfl (by assumption) (by assumption) rfl ?_
        refine fi_step (pc' := 44) m_Wh_isSmallerThan rfl rfl ?_
        first | refine t_ld (p := 45) m_Wh_isSmallerThan rfl rfl (by assumption) (by omega) (by omega) (by omega) ?_ | refine o_ld (p := 45) m_Wh_isSmallerThan rfl rfl (by assumption) (by assumption) (by omega) (by omega) (by omega) ?_
        refine fi_step (pc' := 46) m_Wh_isSmallerThan rfl rfl ?_
        first | refine t_get (p := 49) m_Wh_isSmallerThan rfl rfl (by assumption) rfl ?_ | refine o_get (p := 49) m_Wh_isSmallerThan rfl rfl (by assumption) (by assumption) rfl ?_
        refine fi_step (pc' := 50) m_Wh_isSmallerThan rfl rfl ?_
        first | refine t_ld (p := 51) m_Wh_isSmallerThan rfl rfl (by assumption) (by omega) (by omega) (by omega) ?_ | refine o_ld (p := 51) m_Wh_isSmallerThan rfl rfl (by assumption) (by assumption) (by omega) (by omega) (by omega) ?_
        refine s_ic_eq (p := 54) m_Wh_isSmallerThan rfl rfl (by omega) (by omega) (by omega) (by omega) (fun hbr => False.elim (by omega)) (fun hbr => ?_)
        refine fi_step (pc' := 55) m_Wh_isSmallerThan rfl rfl ?_
        first | refine t_get (p := 58) m_Wh_isSmallerThan rfl rfl (by assumption) rfl ?_ | refine o_get (p := 58) m_Wh_isSmallerThan rfl rfl (by assumption) (by assumption) rfl ?_
        refine fi_step (pc' := 59) m_Wh_isSmallerThan rfl rfl ?_
        first | refine t_ld (p := 60) m_Wh_isSmallerThan rfl rfl (by assumption) (by omega) (by omega) (by omega) ?_ | refine o_ld (p := 60) m_Wh_isSmallerThan rfl rfl (by assumption) (by assumption) (by omega) (by omega) (by omega) ?_
        refine fi_step (pc' := 61) m_Wh_isSmallerThan rfl rfl ?_
        first | refine t_get (p := 64) m_Wh_isSmallerThan rfl rfl (by assumption) rfl ?_ | refine o_get (p := 64) m_Wh_isSmallerThan rfl rfl (by assumption) (by assumption) rfl ?_
        refine fi_step (pc' := 65) m_Wh_isSmallerThan rfl rfl ?_
        first | refine t_ld (p := 66) m_Wh_isSmallerThan rfl rfl (by assumption) (by omega) (by omega) (by omega) ?_ | refine o_ld (p := 66) m_Wh_isSmallerThan rfl rfl (by assumption) (by assumption) (by omega) (by omega) (by omega) ?_
        refine s_ic_ge (p := 69) m_Wh_isSmallerThan rfl rfl (by omega) (by omega) (by omega) (by omega) (fun hbr => False.elim (by omega)) (fun hbr => ?_)
        refine fi_step (pc' := 70) m_Wh_isSmallerThan rfl rfl ?_
        refine fi_step (pc' := 74) m_Wh_isSmallerThan rfl rfl ?_
        exact s_retb m_Wh_isSmallerThan rfl rfl (by omega) (by first | exact Or.inl rfl | exact Or.inr rfl | omega)
      · have := dvB_cmp (B := 1000000000) (by decide) (f := g) (g := f) (o := 0) (p := 0) (n := k) (i := t) (dgs_digB.mp hg) (dgs_digB.mp hd) (by omega) (fun j h0 h1 => by rw [Int.zero_add]; exact (he j (by omega) h1).symm) (by rw [Int.zero_add]; omega)
        have h2 : dw g k < dw f k := this
        rw [if_neg (by omega)]
        refine fi_step (pc' := 36) m_Wh_isSmallerThan rfl rfl ?_
        refine s_if_lt (p := 39) m_Wh_isSmallerThan rfl rfl (by omega) (by omega) (fun hbr => False.elim (by omega)) (fun hbr => ?_)
        refine fi_step (pc' := 40) m_Wh_isSmallerThan rfl rfl ?_
        first | refine t_get (p := 43) m_Wh_isSmallerThan rfl rfl (by assumption) rfl ?_ | refine o_get (p := 43) m_Wh_isSmallerThan rfl rfl (by assumption) (by assumption) rfl ?_
        refine fi_step (pc' := 44) m_Wh_isSmallerThan rfl rfl ?_
        first | refine t_ld (p := 45) m_Wh_isSmallerThan rfl rfl (by assumption) (by omega) (by omega) (by omega) ?_ | refine o_ld (p := 45) m_Wh_isSmallerThan rfl rfl (by assumption) (by assumption) (by omega) (by omega) (by omega) ?_
        refine fi_step (pc' := 46) m_Wh_isSmallerThan rfl rfl ?_
        first | refine t_get (p := 49) m_Wh_isSmallerThan rfl rfl (by assumption) rfl ?_ | refine o_get (p := 49) m_Wh_isSmallerThan rfl rfl (by assumption) (by assumption) rfl ?_
        refine fi_step (pc' := 50) m_Wh_isSmallerThan rfl rfl ?_
        first | refine t_ld (p := 51) m_Wh_isSmallerThan rfl rfl (by assumption) (by omega) (by omega) (by omega) ?_ | refine o_ld (p := 51) m_Wh_isSmallerThan rfl rfl (by assumption) (by assumption) (by omega) (by omega) (by omega) ?_
        refine s_ic_eq (p := 54) m_Wh_isSmallerThan rfl rfl (by omega) (by omega) (by omega) (by omega) (fun hbr => False.elim (by omega)) (fun hbr => ?_)
        refine fi_step (pc' := 55) m_Wh_isSmallerThan rfl rfl ?_
        first | refine t_get (p := 58) m_Wh_isSmallerThan rfl rfl (by assumption) rfl ?_ | refine o_get (p := 58) m_Wh_isSmallerThan rfl rfl (by assumption) (by assumption) rfl ?_
        refine fi_step (pc' := 59) m_Wh_isSmallerThan rfl rfl ?_
        first | refine t_ld (p := 60) m_Wh_isSmallerThan rfl rfl (by assumption) (by omega) (by omega) (by omega) ?_ | refine o_ld (p := 60) m_Wh_isSmallerThan rfl rfl (by assumption) (by assumption) (by omega) (by omega) (by omega) ?_
        refine fi_step (pc' := 61) m_Wh_isSmallerThan rfl rfl ?_
        first | refine t_get (p := 64) m_Wh_isSmallerThan rfl rfl (by assumption) rfl ?_ | refine o_get (p := 64) m_Wh_isSmallerThan rfl rfl (by assumption) (by assumption) rfl ?_
        refine fi_step (pc' := 65) m_Wh_isSmallerThan rfl rfl ?_
        first | refine t_ld (p := 66) m_Wh_isSmallerThan rfl rfl (by assumption) (by omega) (by omega) (by omega) ?_ | refine o_ld (p := 66) m_Wh_isSmallerThan rfl rfl (by assumption) (by assumption) (by omega) (by omega) (by omega) ?_
        refine s_ic_ge (p := 69) m_Wh_isSmallerThan rfl rfl (by omega) (by omega) (by omega) (by omega) (fun hbr => ?_) (fun hbr => False.elim (by omega))
        refine fi_step (pc' := 74) m_Wh_isSmallerThan rfl rfl ?_
        exact s_retb m_Wh_isSmallerThan rfl rfl (by omega) (by first | exact Or.inl rfl | exact Or.inr rfl | omega)
theorem h_less {v va : Int} {a e cp k1 k2 : Nat} {g : Int → Int} {q : Int} (hw : TW w0 w c d cap f k1 b) (hv : Wv f k1 b v) (hc : cap < 100000) (hk : k1 ≤ cap) (ho : OW w0 c d a e cp g k2 q) (hva : Wv g k2 q va) (hcp : cp < 100000) (hk' : k2 ≤ cp) :
    fin xs fr lo 66 0 (ax_ent [.ref c, .ref a] 3) [] w (Same (.int (jI (if (v.natAbs : Int) < va.natAbs then 1 else 0))) w) := by
  have hl1 := @Wv_len _ _ _ _ k2 hv
  have hl2 := @Wv_len _ _ _ _ k1 hva
  obtain ⟨m, hm, hd, ev⟩ := Wv_abs hv
  obtain rfl := Int.ofNat.inj hm
  obtain ⟨m, hm, hg, eva⟩ := Wv_abs hva
  obtain rfl := Int.ofNat.inj hm
  have lt1 := dw_lt hd
  have lt2 := dw_lt hg
  rw [ev, eva]
  by_cases heq : k1 = k2
  · subst heq
    refine fi_step (pc' := 1) m_Wh_isSmallerThan rfl rfl ?_
    first | refine t_get (p := 4) m_Wh_isSmallerThan rfl rfl (by assumption) rfl ?_ | refine o_get (p := 4) m_Wh_isSmallerThan rfl rfl (by assumption) (by assumption) rfl ?_
    refine fi_step (pc' := 5) m_Wh_isSmallerThan rfl rfl ?_
    first | refine t_get (p := 8) m_Wh_isSmallerThan rfl rfl (by assumption) rfl ?_ | refine o_get (p := 8) m_Wh_isSmallerThan rfl rfl (by assumption) (by assumption) rfl ?_
    refine s_ic_eq (p := 11) m_Wh_isSmallerThan rfl rfl (by omega) (by omega) (by omega) (by omega) (fun hbr => ?_) (fun hbr => False.elim (by omega))
    refine fi_step (pc' := 29) m_Wh_isSmallerThan rfl rfl ?_
    first | refine t_get (p := 32) m_Wh_isSmallerThan rfl rfl (by assumption) rfl ?_ | refine o_get (p := 32) m_Wh_isSmallerThan rfl rfl (by assumption) (by assumption) rfl ?_
    refine fi_step (pc' := 33) m_Wh_isSmallerThan rfl rfl ?_
    refine s_isub (p := 34) m_Wh_isSmallerThan rfl rfl ?_
    refine fi_step (pc' := 35) m_Wh_isSmallerThan rfl rfl ?_
    exact less_loop hw hc hk ho hcp hk' hd hg k1 (by omega) (fun i h0 h1 => by omega)
  · by_cases hlt : k1 < k2
    · have : dw f k1 < dw g k2 := by
        refine Classical.byContradiction (fun h => ?_)
        have := hl2 (by omega)
        omega
      rw [if_pos this]
      refine fi_step (pc' := 1) m_Wh_isSmallerThan rfl rfl ?_
      first | refine t_get (p := 4) m_Wh_isSmallerThan rfl rfl (by assumption) rfl ?_ | refine o_get (p := 4) m_Wh_isSmallerThan rfl rfl (by assumption) (by assumption) rfl ?_
      refine fi_step (pc' := 5) m_Wh_isSmallerThan rfl rfl ?_
      first | refine t_get (p := 8) m_Wh_isSmallerThan rfl rfl (by assumption) rfl ?_ | refine o_get (p := 8) m_Wh_isSmallerThan rfl rfl (by assumption) (by assumption) rfl ?_
      refine s_ic_eq (p := 11) m_Wh_isSmallerThan rfl rfl (by omega) (by omega) (by omega) (by omega) (fun hbr => False.elim (by omega)) (fun hbr => ?_)
      refine fi_step (pc' := 12) m_Wh_isSmallerThan rfl rfl ?_
      first | refine t_get (p := 15) m_Wh_isSmallerThan rfl rfl (by assumption) rfl ?_ | refine o_get (p := 15) m_Wh_isSmallerThan rfl rfl (by assumption) (by assumption) rfl ?_
      refine fi_step (pc' := 16) m_Wh_isSmallerThan rfl rfl ?_
      first | refine t_get (p := 19) m_Wh_isSmallerThan rfl rfl (by assumption) rfl ?_ | refine o_get (p := 19) m_Wh_isSmallerThan rfl rfl (by assumption) (by assumption) rfl ?_
      refine s_ic_ge (p := 22) m_Wh_isSmallerThan rfl rfl (by omega) (by omega) (by omega) (by omega) (fun hbr => False.elim (by omega)) (fun hbr => ?_)
      refine fi_step (pc' := 23) m_Wh_isSmallerThan rfl rfl ?_
      refine fi_step (pc' := 27) m_Wh_isSmallerThan rfl rfl ?_
      exact s_retb m_Wh_isSmallerThan rfl rfl (by omega) (by first | exact Or.inl rfl | exact Or.inr rfl | omega)
    · have : ¬ dw f k1 < dw g k2 := by
        intro h
        have := hl1 (by omega)
        omega
      rw [if_neg this]
      refine fi_step (pc' := 1) m_Wh_isSmallerThan rfl rfl ?_
      first | refine t_get (p := 4) m_Wh_isSmallerThan rfl rfl (by assumption) rfl ?_ | refine o_get (p := 4) m_Wh_isSmallerThan rfl rfl (by assumption) (by assumption) rfl ?_
      refine fi_step (pc' := 5) m_Wh_isSmallerThan rfl rfl ?_
      first | refine t_get (p := 8) m_Wh_isSmallerThan rfl rfl (by assumption) rfl ?_ | refine o_get (p := 8) m_Wh_isSmallerThan rfl rfl (by assumption) (by assumption) rfl ?_
      refine s_ic_eq (p := 11) m_Wh_isSmallerThan rfl rfl (by omega) (by omega) (by omega) (by omega) (fun hbr => False.elim (by omega)) (fun hbr => ?_)
      refine fi_step (pc' := 12) m_Wh_isSmallerThan rfl rfl ?_
      first | refine t_get (p := 15) m_Wh_isSmallerThan rfl rfl (by assumption) rfl ?_ | refine o_get (p := 15) m_Wh_isSmallerThan rfl rfl (by assumption) (by assumption) rfl ?_
      refine fi_step (pc' := 16) m_Wh_isSmallerThan rfl rfl ?_
      first | refine t_get (p := 19) m_Wh_isSmallerThan rfl rfl (by assumption) rfl ?_ | refine o_get (p := 19) m_Wh_isSmallerThan rfl rfl (by assumption) (by assumption) rfl ?_
      refine s_ic_ge (p := 22) m_Wh_isSmallerThan rfl rfl (by omega) (by omega) (by omega) (by omega) (fun hbr => ?_) (fun hbr => False.elim (by omega))
      refine fi_step (pc' := 27) m_Wh_isSmallerThan rfl rfl ?_
      exact s_retb m_Wh_isSmallerThan rfl rfl (by omega) (by first | exact Or.inl rfl | exact Or.inr rfl | omega)
end WH8
