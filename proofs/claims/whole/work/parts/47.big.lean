/-! division of the reference's numbers: the whole of it -/
/-- everything but numbers k and q is as r says, number b has the size u, number k the size mk -/
def dvI (S s : mo_S) (r : Int → Int) (k b q : Int) (nb : Nat) (u mk : Int) : Prop := oth S s ∧ (∀ j, 0 ≤ j → j < 277 → j ≠ k → j ≠ q → isN s j (r j)) ∧ Mag s b nb u ∧ (∃ n, Mag s k n mk) ∧ s 3 k = 0 ∧ s 3 q = 0
theorem dvI_ch {S s s' : mo_S} {r : Int → Int} {k b q : Int} {nb n : Nat} {u mk mk' : Int} (h : dvI S s r k b q nb u mk) (hc : chP k s s') (h3 : s' 3 = s 3) (hbk : b ≠ k) (hm : Mag s' k n mk') : dvI S s' r k b q nb u mk' :=
  ⟨oth_trans h.1 (chP_oth hc), fun j j0 j1 jk jq => isN_ch (h.2.1 j j0 j1 jk jq) hc jk, Mag_ch h.2.2.1 hc hbk, ⟨n, hm⟩, by rw [h3]; exact h.2.2.2.2.1, by rw [h3]; exact h.2.2.2.2.2⟩
theorem div_guess {s : mo_S} {k b : Int} {n nb sh : Nat} {u mk top hi : Int} (hk : Mag s k n mk) (hb : Mag s b (nb + 1) u) (htop : top = s 1 (140 * b + nb) + 1) (hhi : hi = pad s k ((sh + nb + 1 : Nat) : Int) * 16777216 + pad s k ((sh + nb : Nat) : Int)) (h1 : mk < u * 16777216 ^ sh * 16777216) :
    1 ≤ top ∧ top ≤ 16777216 ∧ 0 ≤ hi ∧ hi < 281474976710656 ∧ hi / top * u * 16777216 ^ sh ≤ mk ∧ hi / top < 16777216 := by
  have ⟨k2, k3, k4, k5, k6⟩ := hk
  have ⟨b2, b3, b4, b5, b6⟩ := hb
  have d0 := b4 nb (by omega)
  have p1 := pad_dig k2 k4 (i := ((sh + nb + 1 : Nat) : Int)) (by omega)
  have p2 := pad_dig k2 k4 (i := ((sh + nb : Nat) : Int)) (by omega)
  have P := powB_pos (B := 16777216) (by decide) sh
  have Pn := powB_pos (B := 16777216) (by decide) nb
  have hn : n ≤ sh + nb + 2 := by
    rcases Nat.lt_or_ge (sh + nb + 2) n with h' | h'
    · obtain ⟨p, rfl⟩ : ∃ p, n = p + 1 := ⟨n - 1, by omega⟩
      have g1 := Mag_ge hk
      have g2 := Mag_lt hb
      have g3 := pow_mono (B := 16777216) (by decide) (show nb + 1 + sh + 1 ≤ p by omega)
      have g4 : u * 16777216 ^ sh * 16777216 ≤ 16777216 ^ (nb + 1) * 16777216 ^ sh * 16777216 := Int.mul_le_mul_of_nonneg_right (Int.mul_le_mul_of_nonneg_right (by omega) (Int.le_of_lt P)) (by decide)
      rw [← Int.pow_add, ← Int.pow_succ] at g4
      omega
    · exact h'
  have e1 : mk = dvB 16777216 (pad s k) 0 (sh + nb) + 16777216 ^ (sh + nb) * hi := by
    rw [k6, ← dvB_pad k2 hn, dvB_split _ _ _ (sh + nb) 2, dvB_succ, dvB_succ, dvB_zero, hhi]
    simp only [Int.zero_add, Int.pow_zero, Int.pow_one, Int.mul_one]
    rw [show ((sh + nb : Nat) : Int) + ((0 : Nat) : Int) = ((sh + nb : Nat) : Int) by omega, show ((sh + nb : Nat) : Int) + ((0 + 1 : Nat) : Int) = ((sh + nb + 1 : Nat) : Int) by omega]
    grind
  have e2 : 0 ≤ dvB 16777216 (pad s k) 0 (sh + nb) := dvB_nonneg (by decide) (fun i hi => (pad_dig k2 k4 (by omega)).1)
  have e3 : u ≤ top * 16777216 ^ nb := by
    have := dvB_lt (B := 16777216) (by decide) (digB_mono b4 (Nat.le_succ nb))
    rw [b6, dvB_succ, htop, Int.add_mul, Int.one_mul]; omega
  have t1 : 1 ≤ top ∧ top ≤ 16777216 := by omega
  have h0 : 0 ≤ hi := by omega
  have q0 : 0 ≤ hi / top := Int.ediv_nonneg h0 (by omega)
  have q1 : hi / top * top ≤ hi := Int.ediv_mul_le hi (by omega)
  have f1 : hi / top * u * 16777216 ^ sh ≤ hi / top * (top * 16777216 ^ nb) * 16777216 ^ sh := Int.mul_le_mul_of_nonneg_right (Int.mul_le_mul_of_nonneg_left e3 q0) (Int.le_of_lt P)
  have f2 : hi / top * (top * 16777216 ^ nb) * 16777216 ^ sh = hi / top * top * 16777216 ^ (sh + nb) := by rw [Int.pow_add]; grind
  have f3 : hi / top * top * 16777216 ^ (sh + nb) ≤ hi * 16777216 ^ (sh + nb) := Int.mul_le_mul_of_nonneg_right q1 (Int.le_of_lt (powB_pos (by decide) _))
  have f4 : hi / top * u * 16777216 ^ sh ≤ mk := by rw [e1, Int.mul_comm (16777216 ^ (sh + nb)) hi]; omega
  refine ⟨t1.1, t1.2, h0, by omega, f4, ?_⟩
  rcases Int.lt_or_le (hi / top) 16777216 with h' | h'
  · exact h'
  · have uP : 0 ≤ u * 16777216 ^ sh := Int.mul_nonneg (Mag_nn hb) (Int.le_of_lt P)
    have : 16777216 * (u * 16777216 ^ sh) ≤ hi / top * (u * 16777216 ^ sh) := Int.mul_le_mul_of_nonneg_right h' uP
    rw [← Int.mul_assoc, ← Int.mul_assoc] at this
    have e : 16777216 * u * 16777216 ^ sh = u * 16777216 ^ sh * 16777216 := by grind
    omega
section BIG6
variable {xs : List Int32} {fr lo : Nat} {w0 : ax_W} {Q : Outcome → ax_W → Prop}
theorem bigDivide_in {k b q mm top : Int} {nb sh : Nat} {u W : Int} {S T : mo_S} {r : Int → Int} (hfr : 2 ≤ fr) (hlo : 60 ≤ lo) (k0 : 0 ≤ k) (k1 : k < 277) (b0 : 0 ≤ b) (b1 : b < 277) (hbk : b ≠ k) (hsh : sh + nb + 1 ≤ 140) (hT : chP k T T) (htop : top = T 1 (140 * b + nb) + 1) (hW : W < u * 16777216 ^ sh * 16777216) (hu : 0 < u)
    (K : ∀ (w' : ax_W) (s' : mo_S) (al mk' : Int) (y10 y12 : Option Value), RW w0 w' s' → dvI S s' r k b q (nb + 1) u mk' → chP k T s' → 0 ≤ al → al < 16777216 → mk' + al * (u * 16777216 ^ sh) = W → mk' < u * 16777216 ^ sh →
      fin xs fr lo 154 170 [some (.ref 425), some (.int (jI k)), some (.int (jI b)), some (.int (jI q)), some (.int (jI mm)), some (.long (jL top)), none, some (.int (jI sh)), some (.long (jL al)), none, y10, none, y12, none] [] w' Q) :
    ∀ (g : Nat) (al mk : Int) (y10 y12 : Option Value) (w : ax_W) (s : mo_S), RW w0 w s → dvI S s r k b q (nb + 1) u mk → chP k T s → mk ≤ g → 0 ≤ al → mk + al * (u * 16777216 ^ sh) = W →
      fin xs fr lo 154 78 [some (.ref 425), some (.int (jI k)), some (.int (jI b)), some (.int (jI q)), some (.int (jI mm)), some (.long (jL top)), none, some (.int (jI sh)), some (.long (jL al)), none, y10, none, y12, none] [] w Q := by
  have P := powB_pos (B := 16777216) (by decide) sh
  have uP : 0 < u * 16777216 ^ sh := Int.mul_pos hu P
  intro g
  induction g with
  | zero =>
    intro al mk y10 y12 w s hw hI hc hg a0 hinv
    obtain ⟨n, hk⟩ := hI.2.2.2.1
    have hm := Mag_nn hk
    have ab : al < 16777216 := by
      rcases Int.lt_or_le al 16777216 with h' | h'
      · exact h'
      · have : 16777216 * (u * 16777216 ^ sh) ≤ al * (u * 16777216 ^ sh) := Int.mul_le_mul_of_nonneg_right h' (Int.le_of_lt uP)
        have e : 16777216 * (u * 16777216 ^ sh) = u * 16777216 ^ sh * 16777216 := by grind
        omega
    refine fi_step (pc' := 79) m_Mo_bigDivide rfl rfl ?_
    refine fi_step (pc' := 80) m_Mo_bigDivide rfl rfl ?_
    refine fi_step (pc' := 81) m_Mo_bigDivide rfl rfl ?_
    refine fi_step (pc' := 83) m_Mo_bigDivide rfl rfl ?_
    refine c_4 (p := 86) m_Mo_bigDivide rfl inv_v (by decide) m_Mo_bigHolds rfl rfl (by omega) (by omega) (Nat.le_of_ble_eq_true rfl) (Nat.le_of_ble_eq_true rfl) (RW_rcv hw _) (c_bigHolds (by omega) (by omega) hw k0 k1 b0 b1 hk hI.2.2.1 (by omega) (by omega)) ?_
    rw [if_neg (by omega)]
    refine s_if_eq (p := 89) m_Mo_bigDivide rfl rfl (by omega) (by omega) (fun hbr => ?_) (fun hbr => False.elim (by omega))
    exact K w s al mk _ _ hw hI hc a0 ab hinv (by omega)
  | succ g ih =>
    intro al mk y10 y12 w s hw hI hc hg a0 hinv
    obtain ⟨n, hk⟩ := hI.2.2.2.1
    have hb := hI.2.2.1
    have ⟨k2, k3, k4, k5, k6⟩ := hk
    have ⟨b2, b3, b4, b5, b6⟩ := hb
    have hm := Mag_nn hk
    have aP : 0 ≤ al * (u * 16777216 ^ sh) := Int.mul_nonneg a0 (Int.le_of_lt uP)
    have ab : al < 16777216 := by
      rcases Int.lt_or_le al 16777216 with h' | h'
      · exact h'
      · have : 16777216 * (u * 16777216 ^ sh) ≤ al * (u * 16777216 ^ sh) := Int.mul_le_mul_of_nonneg_right h' (Int.le_of_lt uP)
        have e : 16777216 * (u * 16777216 ^ sh) = u * 16777216 ^ sh * 16777216 := by grind
        omega
    refine fi_step (pc' := 79) m_Mo_bigDivide rfl rfl ?_
    refine fi_step (pc' := 80) m_Mo_bigDivide rfl rfl ?_
    refine fi_step (pc' := 81) m_Mo_bigDivide rfl rfl ?_
    refine fi_step (pc' := 83) m_Mo_bigDivide rfl rfl ?_
    refine c_4 (p := 86) m_Mo_bigDivide rfl inv_v (by decide) m_Mo_bigHolds rfl rfl (by omega) (by omega) (Nat.le_of_ble_eq_true rfl) (Nat.le_of_ble_eq_true rfl) (RW_rcv hw _) (c_bigHolds (by omega) (by omega) hw k0 k1 b0 b1 hk hI.2.2.1 (by omega) (by omega)) ?_
    by_cases hh : u * 16777216 ^ sh ≤ mk
    · rw [if_pos hh]
      have htop' : top = s 1 (140 * b + nb) + 1 := by rw [htop, hc.1 _ (by omega)]
      obtain ⟨t0, t1, h0, h1, h2, h3⟩ := div_guess (sh := sh) hk hb htop' rfl (by omega)
      have hnn : sh + (nb + 1) ≤ n := by
        have g1 := Mag_lt hk
        have g2 := Mag_ge hb
        have g3 : (16777216 : Int) ^ nb * 16777216 ^ sh ≤ u * 16777216 ^ sh := Int.mul_le_mul_of_nonneg_right g2 (Int.le_of_lt P)
        rw [← Int.pow_add] at g3
        have := pow_inj_lt (B := 16777216) (by decide) (show (16777216 : Int) ^ (nb + sh) < 16777216 ^ n by omega)
        omega
      have mid : ∀ (qq : Int) (y10 y12 : Option Value), 1 ≤ qq → qq < 16777216 → qq * u * 16777216 ^ sh ≤ mk → fin xs fr lo 154 148 [some (.ref 425), some (.int (jI k)), some (.int (jI b)), some (.int (jI q)), some (.int (jI mm)), some (.long (jL top)), none, some (.int (jI sh)), some (.long (jL al)), none, y10, none, y12, none] [.long (jL qq)] w Q := by
        intro qq y10 y12 q0 q1 q2
        refine fi_step (pc' := 150) m_Mo_bigDivide rfl rfl ?_
        refine fi_step (pc' := 151) m_Mo_bigDivide rfl rfl ?_
        refine fi_step (pc' := 152) m_Mo_bigDivide rfl rfl ?_
        refine fi_step (pc' := 153) m_Mo_bigDivide rfl rfl ?_
        refine fi_step (pc' := 155) m_Mo_bigDivide rfl rfl ?_
        refine fi_step (pc' := 157) m_Mo_bigDivide rfl rfl ?_
        refine g_5 (p := 160) m_Mo_bigDivide rfl inv_v (by decide) m_Mo_bigLose rfl rfl (by omega) (by omega) (Nat.le_of_ble_eq_true rfl) (Nat.le_of_ble_eq_true rfl) (RW_rcv hw _) (c_bigLose (by omega) (by omega) hw k0 k1 b0 b1 (fun e => hbk e.symm) hk hb hnn (by omega) q1 q2) (fun v w hP => ?_)
        obtain ⟨rfl, s', n1, g1, g2, g3, g4⟩ := hP
        refine fi_step (pc' := 162) m_Mo_bigDivide rfl rfl ?_
        refine fi_step (pc' := 164) m_Mo_bigDivide rfl rfl ?_
        refine s_ladd (p := 165) m_Mo_bigDivide rfl rfl ?_
        refine fi_step (pc' := 167) m_Mo_bigDivide rfl rfl ?_
        refine fi_step (pc' := 78) m_Mo_bigDivide rfl rfl ?_
        have e3 : qq * u * 16777216 ^ sh = qq * (u * 16777216 ^ sh) := Int.mul_assoc _ _ _
        have e4 : 1 * (u * 16777216 ^ sh) ≤ qq * (u * 16777216 ^ sh) := Int.mul_le_mul_of_nonneg_right q0 (Int.le_of_lt uP)
        refine ih (al + qq) _ _ _ w s' g1 (dvI_ch hI g2 g3 hbk g4) (chP_trans hc g2) (by omega) (by omega) ?_
        rw [Int.add_mul]; omega
      have ea : (if (sh : Int) + s 2 b < s 2 k then s 1 (140 * k + ((sh : Int) + s 2 b)) else 0) = pad s k ((sh + nb + 1 : Nat) : Int) := by
        rw [pad, show (sh : Int) + s 2 b = ((sh + nb + 1 : Nat) : Int) by omega]
      have eb : (if (sh : Int) + s 2 b - 1 < s 2 k then s 1 (140 * k + ((sh : Int) + s 2 b - 1)) else 0) = pad s k ((sh + nb : Nat) : Int) := by
        rw [pad, show (sh : Int) + s 2 b - 1 = ((sh + nb : Nat) : Int) by omega]
      have p1 := pad_dig k2 k4 (i := ((sh + nb + 1 : Nat) : Int)) (by omega)
      have p2 := pad_dig k2 k4 (i := ((sh + nb : Nat) : Int)) (by omega)
      refine s_if_eq (p := 89) m_Mo_bigDivide rfl rfl (by omega) (by omega) (fun hbr => False.elim (by omega)) (fun hbr => ?_)
      refine fi_step (pc' := 90) m_Mo_bigDivide rfl rfl ?_
      refine fi_step (pc' := 91) m_Mo_bigDivide rfl rfl ?_
      refine fi_step (pc' := 93) m_Mo_bigDivide rfl rfl ?_
      refine fi_step (pc' := 94) m_Mo_bigDivide rfl rfl ?_
      refine r_get (p := 97) m_Mo_bigDivide rfl rfl (by assumption) rfl ?_
      refine fi_step (pc' := 98) m_Mo_bigDivide rfl rfl ?_
      refine r_ldI (p := 99) m_Mo_bigDivide rfl rfl (by assumption) (by decide) rfl (by decide) (by omega) (by omega) ?_
      refine s_iadd (p := 100) m_Mo_bigDivide rfl rfl ?_
      refine c_3 (p := 103) m_Mo_bigDivide rfl inv_v (by decide) m_Mo_bigAt rfl rfl (by omega) (by omega) (Nat.le_of_ble_eq_true rfl) (Nat.le_of_ble_eq_true rfl) (RW_rcv hw _) (c_bigAt hw k0 k1 (by omega) (by omega) (by omega) (by omega)) ?_
      rw [ea]
      refine s_i2l (p := 104) m_Mo_bigDivide rfl rfl (by omega) (by omega) ?_
      refine s_ldc2 (p := 107) 16777216 m_Mo_bigDivide rfl rfl rfl ?_
      refine s_lmul (p := 108) m_Mo_bigDivide rfl rfl ?_
      refine fi_step (pc' := 109) m_Mo_bigDivide rfl rfl ?_
      refine fi_step (pc' := 110) m_Mo_bigDivide rfl rfl ?_
      refine fi_step (pc' := 112) m_Mo_bigDivide rfl rfl ?_
      refine fi_step (pc' := 113) m_Mo_bigDivide rfl rfl ?_
      refine r_get (p := 116) m_Mo_bigDivide rfl rfl (by assumption) rfl ?_
      refine fi_step (pc' := 117) m_Mo_bigDivide rfl rfl ?_
      refine r_ldI (p := 118) m_Mo_bigDivide rfl rfl (by assumption) (by decide) rfl (by decide) (by omega) (by omega) ?_
      refine s_iadd (p := 119) m_Mo_bigDivide rfl rfl ?_
      refine fi_step (pc' := 120) m_Mo_bigDivide rfl rfl ?_
      refine s_isub (p := 121) m_Mo_bigDivide rfl rfl ?_
      refine c_3 (p := 124) m_Mo_bigDivide rfl inv_v (by decide) m_Mo_bigAt rfl rfl (by omega) (by omega) (Nat.le_of_ble_eq_true rfl) (Nat.le_of_ble_eq_true rfl) (RW_rcv hw _) (c_bigAt hw k0 k1 (by omega) (by omega) (by omega) (by omega)) ?_
      rw [eb]
      refine s_i2l (p := 125) m_Mo_bigDivide rfl rfl (by omega) (by omega) ?_
      refine s_ladd (p := 126) m_Mo_bigDivide rfl rfl ?_
      refine fi_step (pc' := 128) m_Mo_bigDivide rfl rfl ?_
      refine fi_step (pc' := 130) m_Mo_bigDivide rfl rfl ?_
      refine fi_step (pc' := 132) m_Mo_bigDivide rfl rfl ?_
      refine s_ldiv (p := 133) m_Mo_bigDivide rfl rfl (by omega) (by omega) (by omega) (by omega) ?_
      refine fi_step (pc' := 135) m_Mo_bigDivide rfl rfl ?_
      generalize pad s k ((sh + nb + 1 : Nat) : Int) * 16777216 + pad s k ((sh + nb : Nat) : Int) = hi at h0 h1 h2 h3 ⊢
      have q0 : 0 ≤ hi / top := Int.ediv_nonneg h0 (by omega)
      refine fi_step (pc' := 137) m_Mo_bigDivide rfl rfl ?_
      refine s_lconst (p := 138) (v := 1) m_Mo_bigDivide rfl rfl rfl ?_
      refine s_lc_ge (q := 139) (p := 142) m_Mo_bigDivide rfl rfl rfl rfl (by omega) (by omega) (by omega) (by omega) (fun hq => ?_) (fun hq => ?_)
      · refine fi_step (pc' := 148) m_Mo_bigDivide rfl rfl ?_
        exact mid _ _ _ hq h3 h2
      · refine s_lconst (p := 143) (v := 1) m_Mo_bigDivide rfl rfl rfl ?_
        refine fi_step (pc' := 148) m_Mo_bigDivide rfl rfl ?_
        exact mid 1 _ _ (by decide) (by decide) (by rw [Int.one_mul]; exact hh)
    · rw [if_neg hh]
      refine s_if_eq (p := 89) m_Mo_bigDivide rfl rfl (by omega) (by omega) (fun hbr => ?_) (fun hbr => False.elim (by omega))
      exact K w s al mk _ _ hw hI hc a0 ab hinv (by omega)
end BIG6
