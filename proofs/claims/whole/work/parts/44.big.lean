/-! differences, sums with signs, products of the reference's numbers -/
theorem dvB_up_in {B : Int} {f : Int → Int} {o v : Int} {p : Nat} : ∀ {N : Nat}, p < N → dvB B (up1 f (o + p) v) o N = dvB B f o N + (v - f (o + p)) * B ^ p := by
  intro N h
  obtain ⟨d, rfl⟩ := Nat.exists_eq_add_of_lt h
  rw [show p + d + 1 = (p + 1) + d by omega, dvB_split _ _ _ (p + 1), dvB_split _ _ _ (p + 1), dvB_succ, dvB_succ, up1_same, dvB_up_out (by omega), dvB_up_out (by omega)]
  grind
theorem mul_nn_pp {a b : Int} (ha : a ≤ 0) (hb : b ≤ 0) : 0 ≤ a * b := by
  have := Int.mul_nonneg (show 0 ≤ -a by omega) (show 0 ≤ -b by omega); rwa [Int.neg_mul_neg] at this
theorem mul_np_np {a b : Int} (ha : 0 ≤ a) (hb : b ≤ 0) : a * b ≤ 0 := by
  have := Int.mul_nonneg ha (show 0 ≤ -b by omega); rw [Int.mul_neg] at this; omega
theorem mul_pn_np {a b : Int} (ha : a ≤ 0) (hb : 0 ≤ b) : a * b ≤ 0 := by
  rw [Int.mul_comm]; exact mul_np_np hb ha
section BIG3
variable {xs : List Int32} {fr lo : Nat} {w0 : ax_W}
theorem bigDiffer_loop {k u t sg : Int} {n n' N : Nat} {m m' : Int} {s0 : mo_S} (hfr : 1 ≤ fr) (hlo : 22 ≤ lo) (k0 : 0 ≤ k) (k1 : k < 277) (u0 : 0 ≤ u) (u1 : u < 277) (hku : k ≠ u) (hk : Mag s0 k n m) (hu : Mag s0 u n' m') (hN1 : n ≤ N ∧ n' ≤ N ∧ N ≤ 140) (hsg : (t = 0 ∧ sg = 1) ∨ (t = 1 ∧ sg = -1)) (hpos : 0 ≤ sg * (m - m')) :
    ∀ (c i : Nat) (bo : Int) (y : Option Value) (w : ax_W) (s : mo_S), RW w0 w s → i + c = N → chP k s0 s → s 2 k = n → s 3 = s0 3 → (∀ j : Nat, i ≤ j → s 1 (140 * k + j) = s0 1 (140 * k + j)) → digB 16777216 (s 1) (140 * k) i → 0 ≤ bo → bo ≤ 1 → dvB 16777216 (s 1) (140 * k) i - bo * 16777216 ^ i = sg * (dvB 16777216 (pad s0 k) 0 i - dvB 16777216 (pad s0 u) 0 i) →
    fin xs fr lo 138 38 [some (.ref 425), some (.int (jI k)), some (.int (jI u)), some (.int (jI t)), some (.int (jI N)), some (.int (jI bo)), some (.int (jI i)), y] [] w (Ret fun v w' => v = none ∧ ∃ s' n1, RW w0 w' s' ∧ chP k s0 s' ∧ s' 3 = s0 3 ∧ Mag s' k n1 (sg * (m - m'))) := by
  have ⟨k2, k3, k4, k5, k6⟩ := hk
  have ⟨u2, u3, u4, u5, u6⟩ := hu
  intro c
  induction c with
  | zero =>
    intro i bo y w s hw hi hc h2 h3 hs hd c0 c1 hinv
    have : i = N := by omega
    subst this
    rw [dvB_pad k2 hN1.1, dvB_pad u2 hN1.2.1, ← k6, ← u6] at hinv
    have hlt := dvB_lt (B := 16777216) (by decide) hd
    have : bo = 0 := by
      rcases (show bo = 0 ∨ bo = 1 by omega) with e | e
      · exact e
      · subst e; omega
    subst this
    refine fi_step (pc' := 40) m_Mo_bigDiffer rfl rfl ?_
    refine fi_step (pc' := 42) m_Mo_bigDiffer rfl rfl ?_
    refine s_ic_ge (p := 45) m_Mo_bigDiffer rfl rfl (by omega) (by omega) (by omega) (by omega) (fun hbr => ?_) (fun hbr => False.elim (by omega))
    refine fi_step (pc' := 134) m_Mo_bigDiffer rfl rfl ?_
    refine r_get (p := 137) m_Mo_bigDiffer rfl rfl (by assumption) rfl ?_
    refine fi_step (pc' := 138) m_Mo_bigDiffer rfl rfl ?_
    refine fi_step (pc' := 140) m_Mo_bigDiffer rfl rfl ?_
    refine r_stI (p := 141) m_Mo_bigDiffer rfl rfl (by assumption) (by decide) (fun _ => rfl) (by decide) (by omega) (by omega) (fun w hw => ?_)
    refine fi_step (pc' := 142) m_Mo_bigDiffer rfl rfl ?_
    refine fi_step (pc' := 143) m_Mo_bigDiffer rfl rfl ?_
    refine g_2 (p := 146) m_Mo_bigDiffer rfl inv_v (by decide) m_Mo_bigTrim rfl rfl (by omega) (by omega) (Nat.le_of_ble_eq_true rfl) (Nat.le_of_ble_eq_true rfl) (RW_rcv hw _) (c_bigTrim k0 k1 i w _ hw (by rw [up_same, up1_same]) hN1.2.2 (by rw [up_ne s (by decide)]; exact hd)) (fun v w hP => ?_)
    obtain ⟨rfl, n1, g1, g2⟩ := hP
    refine p_ret m_Mo_bigDiffer rfl rfl ?_
    rw [up_ne s (by decide)] at g2
    refine ⟨rfl, _, n1, g1, chP_trans hc (chP_trans (chP_up2 k s _) (chP_up2 k _ _)), by rw [up_ne _ (by decide), up_ne _ (by decide)]; exact h3, ?_⟩
    rw [show sg * (m - m') = dvB 16777216 (s 1) (140 * k) i by omega]; exact g2
  | succ c ih =>
    intro i bo y w s hw hi hc h2 h3 hs hd c0 c1 hinv
    have pa := pad_dig k2 k4 (i := i) (by omega)
    have pb := pad_dig u2 u4 (i := i) (by omega)
    have eb2 : s 2 u = s0 2 u := hc.2.1 u (fun e => hku e.symm)
    have ea : (if (i : Int) < s 2 k then s 1 (140 * k + i) else 0) = pad s0 k i := by
      rw [pad, h2, k2, hs i (Nat.le_refl i)]
    have eb : (if (i : Int) < s 2 u then s 1 (140 * u + i) else 0) = pad s0 u i := by
      rw [pad, eb2]
      split
      · exact hc.1 _ (by omega)
      · rfl
    have hsg' : sg = 1 ∨ sg = -1 := by omega
    have hr : -16777216 < sg * (pad s0 k i - pad s0 u i) ∧ sg * (pad s0 k i - pad s0 u i) < 16777216 := by
      rcases hsg' with rfl | rfl <;> omega
    have mid : ∀ d : Int, d = sg * (pad s0 k i - pad s0 u i) → fin xs fr lo 138 82 [some (.ref 425), some (.int (jI k)), some (.int (jI u)), some (.int (jI t)), some (.int (jI N)), some (.int (jI bo)), some (.int (jI i)), y] [.int (jI d)] w (Ret fun v w' => v = none ∧ ∃ s' n1, RW w0 w' s' ∧ chP k s0 s' ∧ s' 3 = s0 3 ∧ Mag s' k n1 (sg * (m - m'))) := by
      intro d hd1
      have hd2 : -16777216 < d ∧ d < 16777216 := by rw [hd1]; exact hr
      have fin1 : ∀ (dig b' : Int) (y' : Option Value) (w1 : ax_W), 0 ≤ dig → dig < 16777216 → 0 ≤ b' → b' ≤ 1 → dig - b' * 16777216 = d - bo → RW w0 w1 (up s 1 (140 * k + i) dig) → fin xs fr lo 138 38 [some (.ref 425), some (.int (jI k)), some (.int (jI u)), some (.int (jI t)), some (.int (jI N)), some (.int (jI b')), some (.int (jI ((i + 1 : Nat) : Int))), y'] [] w1 (Ret fun v w' => v = none ∧ ∃ s' n1, RW w0 w' s' ∧ chP k s0 s' ∧ s' 3 = s0 3 ∧ Mag s' k n1 (sg * (m - m'))) := by
        intro dig b' y' w1 d0 d1 b0 b1 he hw1
        refine ih (i + 1) b' y' w1 _ hw1 (by omega) (chP_trans hc (chP_up1 s _ (by omega) (by omega))) (by rw [up_ne s (by decide)]; exact h2) (by rw [up_ne s (by decide)]; exact h3) ?_ ?_ b0 b1 ?_
        · intro j hj; rw [up_same, up1_ne _ (by omega)]; exact hs j (by omega)
        · rw [up_same]; exact digB_up (fun j hj hne => hd j (by omega)) d0 d1
        · rw [up_same, dvB_succ, dvB_succ, dvB_succ, up1_same, dvB_up_out (by omega), Int.zero_add]
          have : dig = sg * (pad s0 k i - pad s0 u i) - bo + b' * 16777216 := by omega
          rw [this]; grind
      refine fi_step (pc' := 84) m_Mo_bigDiffer rfl rfl ?_
      refine s_isub (p := 85) m_Mo_bigDiffer rfl rfl ?_
      refine fi_step (pc' := 87) m_Mo_bigDiffer rfl rfl ?_
      refine fi_step (pc' := 89) m_Mo_bigDiffer rfl rfl ?_
      refine s_if_ge (p := 92) m_Mo_bigDiffer rfl rfl (by omega) (by omega) (fun g => ?_) (fun g => ?_)
      · refine fi_step (pc' := 97) m_Mo_bigDiffer rfl rfl ?_
        refine fi_step (pc' := 99) m_Mo_bigDiffer rfl rfl ?_
        refine fi_step (pc' := 100) m_Mo_bigDiffer rfl rfl ?_
        refine r_get (p := 103) m_Mo_bigDiffer rfl rfl (by assumption) rfl ?_
        refine s_sipush (p := 106) m_Mo_bigDiffer rfl rfl rfl ?_
        refine fi_step (pc' := 107) m_Mo_bigDiffer rfl rfl ?_
        refine s_imul (p := 108) m_Mo_bigDiffer rfl rfl ?_
        refine fi_step (pc' := 110) m_Mo_bigDiffer rfl rfl ?_
        refine s_iadd (p := 111) m_Mo_bigDiffer rfl rfl ?_
        refine fi_step (pc' := 113) m_Mo_bigDiffer rfl rfl ?_
        refine s_if_ge (p := 116) m_Mo_bigDiffer rfl rfl (by omega) (by omega) (fun hbr => ?_) (fun hbr => False.elim (by omega))
        refine fi_step (pc' := 126) m_Mo_bigDiffer rfl rfl ?_
        refine r_stI (p := 127) m_Mo_bigDiffer rfl rfl (by assumption) (by decide) (fun _ => rfl) (by decide) (by omega) (by omega) (fun w hw => ?_)
        refine s_iinc (p := 130) m_Mo_bigDiffer rfl rfl rfl ?_
        refine fi_step (pc' := 38) m_Mo_bigDiffer rfl rfl ?_
        exact fin1 (d - bo) 0 _ w (by omega) (by omega) (by decide) (by decide) (by omega) hw
      · refine fi_step (pc' := 93) m_Mo_bigDiffer rfl rfl ?_
        refine fi_step (pc' := 97) m_Mo_bigDiffer rfl rfl ?_
        refine fi_step (pc' := 99) m_Mo_bigDiffer rfl rfl ?_
        refine fi_step (pc' := 100) m_Mo_bigDiffer rfl rfl ?_
        refine r_get (p := 103) m_Mo_bigDiffer rfl rfl (by assumption) rfl ?_
        refine s_sipush (p := 106) m_Mo_bigDiffer rfl rfl rfl ?_
        refine fi_step (pc' := 107) m_Mo_bigDiffer rfl rfl ?_
        refine s_imul (p := 108) m_Mo_bigDiffer rfl rfl ?_
        refine fi_step (pc' := 110) m_Mo_bigDiffer rfl rfl ?_
        refine s_iadd (p := 111) m_Mo_bigDiffer rfl rfl ?_
        refine fi_step (pc' := 113) m_Mo_bigDiffer rfl rfl ?_
        refine s_if_ge (p := 116) m_Mo_bigDiffer rfl rfl (by omega) (by omega) (fun hbr => False.elim (by omega)) (fun hbr => ?_)
        refine fi_step (pc' := 118) m_Mo_bigDiffer rfl rfl ?_
        refine s_ldc (p := 120) 16777216 m_Mo_bigDiffer rfl rfl rfl ?_
        refine s_iadd (p := 121) m_Mo_bigDiffer rfl rfl ?_
        refine fi_step (pc' := 126) m_Mo_bigDiffer rfl rfl ?_
        refine r_stI (p := 127) m_Mo_bigDiffer rfl rfl (by assumption) (by decide) (fun _ => rfl) (by decide) (by omega) (by omega) (fun w hw => ?_)
        refine s_iinc (p := 130) m_Mo_bigDiffer rfl rfl rfl ?_
        refine fi_step (pc' := 38) m_Mo_bigDiffer rfl rfl ?_
        exact fin1 (d - bo + 16777216) 1 _ w (by omega) (by omega) (by decide) (by decide) (by omega) hw
    rcases hsg with ⟨rfl, rfl⟩ | ⟨rfl, rfl⟩
    · refine fi_step (pc' := 40) m_Mo_bigDiffer rfl rfl ?_
      refine fi_step (pc' := 42) m_Mo_bigDiffer rfl rfl ?_
      refine s_ic_ge (p := 45) m_Mo_bigDiffer rfl rfl (by omega) (by omega) (by omega) (by omega) (fun hbr => False.elim (by omega)) (fun hbr => ?_)
      refine fi_step (pc' := 46) m_Mo_bigDiffer rfl rfl ?_
      refine s_if_eq (p := 49) m_Mo_bigDiffer rfl rfl (by omega) (by omega) (fun hbr => ?_) (fun hbr => False.elim (by omega))
      refine fi_step (pc' := 68) m_Mo_bigDiffer rfl rfl ?_
      refine fi_step (pc' := 69) m_Mo_bigDiffer rfl rfl ?_
      refine fi_step (pc' := 71) m_Mo_bigDiffer rfl rfl ?_
      refine c_3 (p := 74) m_Mo_bigDiffer rfl inv_v (by decide) m_Mo_bigAt rfl rfl (by omega) (by omega) (Nat.le_of_ble_eq_true rfl) (Nat.le_of_ble_eq_true rfl) (RW_rcv hw _) (c_bigAt hw k0 k1 (by omega) (by omega) (by omega) (by omega)) ?_
      refine fi_step (pc' := 75) m_Mo_bigDiffer rfl rfl ?_
      refine fi_step (pc' := 76) m_Mo_bigDiffer rfl rfl ?_
      refine fi_step (pc' := 78) m_Mo_bigDiffer rfl rfl ?_
      refine c_3 (p := 81) m_Mo_bigDiffer rfl inv_v (by decide) m_Mo_bigAt rfl rfl (by omega) (by omega) (Nat.le_of_ble_eq_true rfl) (Nat.le_of_ble_eq_true rfl) (RW_rcv hw _) (c_bigAt hw u0 u1 (by omega) (by omega) (by omega) (by omega)) ?_
      rw [ea, eb]
      refine s_isub (p := 82) m_Mo_bigDiffer rfl rfl ?_
      exact mid _ (by omega)
    · refine fi_step (pc' := 40) m_Mo_bigDiffer rfl rfl ?_
      refine fi_step (pc' := 42) m_Mo_bigDiffer rfl rfl ?_
      refine s_ic_ge (p := 45) m_Mo_bigDiffer rfl rfl (by omega) (by omega) (by omega) (by omega) (fun hbr => False.elim (by omega)) (fun hbr => ?_)
      refine fi_step (pc' := 46) m_Mo_bigDiffer rfl rfl ?_
      refine s_if_eq (p := 49) m_Mo_bigDiffer rfl rfl (by omega) (by omega) (fun hbr => False.elim (by omega)) (fun hbr => ?_)
      refine fi_step (pc' := 50) m_Mo_bigDiffer rfl rfl ?_
      refine fi_step (pc' := 51) m_Mo_bigDiffer rfl rfl ?_
      refine fi_step (pc' := 53) m_Mo_bigDiffer rfl rfl ?_
      refine c_3 (p := 56) m_Mo_bigDiffer rfl inv_v (by decide) m_Mo_bigAt rfl rfl (by omega) (by omega) (Nat.le_of_ble_eq_true rfl) (Nat.le_of_ble_eq_true rfl) (RW_rcv hw _) (c_bigAt hw u0 u1 (by omega) (by omega) (by omega) (by omega)) ?_
      refine fi_step (pc' := 57) m_Mo_bigDiffer rfl rfl ?_
      refine fi_step (pc' := 58) m_Mo_bigDiffer rfl rfl ?_
      refine fi_step (pc' := 60) m_Mo_bigDiffer rfl rfl ?_
      refine c_3 (p := 63) m_Mo_bigDiffer rfl inv_v (by decide) m_Mo_bigAt rfl rfl (by omega) (by omega) (Nat.le_of_ble_eq_true rfl) (Nat.le_of_ble_eq_true rfl) (RW_rcv hw _) (c_bigAt hw k0 k1 (by omega) (by omega) (by omega) (by omega)) ?_
      rw [ea, eb]
      refine s_isub (p := 64) m_Mo_bigDiffer rfl rfl ?_
      refine fi_step (pc' := 82) m_Mo_bigDiffer rfl rfl ?_
      exact mid _ (by omega)
theorem c_bigDiffer {k u t sg : Int} {n n' : Nat} {m m' : Int} {w : ax_W} {s : mo_S} (hfr : 1 ≤ fr) (hlo : 22 ≤ lo) (hw : RW w0 w s) (k0 : 0 ≤ k) (k1 : k < 277) (u0 : 0 ≤ u) (u1 : u < 277) (hku : k ≠ u) (hk : Mag s k n m) (hu : Mag s u n' m') (hsg : (t = 0 ∧ sg = 1) ∨ (t = 1 ∧ sg = -1)) (hpos : 0 ≤ sg * (m - m')) :
    fin xs fr lo 138 0 (ax_ent [.ref 425, .int (jI k), .int (jI u), .int (jI t)] 8) [] w (Ret fun v w' => v = none ∧ ∃ s' n1, RW w0 w' s' ∧ chP k s s' ∧ s' 3 = s 3 ∧ Mag s' k n1 (sg * (m - m'))) := by
  have ⟨k2, k3, k4, k5, k6⟩ := hk
  have ⟨u2, u3, u4, u5, u6⟩ := hu
  refine fi_step (pc' := 1) m_Mo_bigDiffer rfl rfl ?_
  refine r_get (p := 4) m_Mo_bigDiffer rfl rfl (by assumption) rfl ?_
  refine fi_step (pc' := 5) m_Mo_bigDiffer rfl rfl ?_
  refine r_ldI (p := 6) m_Mo_bigDiffer rfl rfl (by assumption) (by decide) rfl (by decide) (by omega) (by omega) ?_
  refine fi_step (pc' := 7) m_Mo_bigDiffer rfl rfl ?_
  refine r_get (p := 10) m_Mo_bigDiffer rfl rfl (by assumption) rfl ?_
  refine fi_step (pc' := 11) m_Mo_bigDiffer rfl rfl ?_
  refine r_ldI (p := 12) m_Mo_bigDiffer rfl rfl (by assumption) (by decide) rfl (by decide) (by omega) (by omega) ?_
  refine s_ic_le (p := 15) m_Mo_bigDiffer rfl rfl (by omega) (by omega) (by omega) (by omega) (fun h => ?_) (fun h => ?_)
  · refine fi_step (pc' := 25) m_Mo_bigDiffer rfl rfl ?_
    refine r_get (p := 28) m_Mo_bigDiffer rfl rfl (by assumption) rfl ?_
    refine fi_step (pc' := 29) m_Mo_bigDiffer rfl rfl ?_
    refine r_ldI (p := 30) m_Mo_bigDiffer rfl rfl (by assumption) (by decide) rfl (by decide) (by omega) (by omega) ?_
    refine fi_step (pc' := 32) m_Mo_bigDiffer rfl rfl ?_
    refine fi_step (pc' := 33) m_Mo_bigDiffer rfl rfl ?_
    refine fi_step (pc' := 35) m_Mo_bigDiffer rfl rfl ?_
    refine fi_step (pc' := 36) m_Mo_bigDiffer rfl rfl ?_
    refine fi_step (pc' := 38) m_Mo_bigDiffer rfl rfl ?_
    rw [u2]
    exact bigDiffer_loop hfr hlo k0 k1 u0 u1 hku hk hu (N := n') ⟨by omega, by omega, by omega⟩ hsg hpos n' 0 0 _ w s hw (by omega) (chP_refl k s) k2 rfl (fun j hj => rfl) (fun j hj => by omega) (by decide) (by decide) (by simp [dvB_zero])
  · refine fi_step (pc' := 16) m_Mo_bigDiffer rfl rfl ?_
    refine r_get (p := 19) m_Mo_bigDiffer rfl rfl (by assumption) rfl ?_
    refine fi_step (pc' := 20) m_Mo_bigDiffer rfl rfl ?_
    refine r_ldI (p := 21) m_Mo_bigDiffer rfl rfl (by assumption) (by decide) rfl (by decide) (by omega) (by omega) ?_
    refine fi_step (pc' := 30) m_Mo_bigDiffer rfl rfl ?_
    refine fi_step (pc' := 32) m_Mo_bigDiffer rfl rfl ?_
    refine fi_step (pc' := 33) m_Mo_bigDiffer rfl rfl ?_
    refine fi_step (pc' := 35) m_Mo_bigDiffer rfl rfl ?_
    refine fi_step (pc' := 36) m_Mo_bigDiffer rfl rfl ?_
    refine fi_step (pc' := 38) m_Mo_bigDiffer rfl rfl ?_
    rw [k2]
    exact bigDiffer_loop hfr hlo k0 k1 u0 u1 hku hk hu (N := n) ⟨by omega, by omega, by omega⟩ hsg hpos n 0 0 _ w s hw (by omega) (chP_refl k s) k2 rfl (fun j hj => rfl) (fun j hj => by omega) (by decide) (by decide) (by simp [dvB_zero])
theorem bigAdd_mid {k u l ot : Int} {w : ax_W} {s : mo_S} {r : Int → Int} {e : Int} (hfr : 2 ≤ fr) (hlo : 80 ≤ lo) (hw : RW w0 w s) (hB : Bg s r) (k0 : 0 ≤ k) (k1 : k < 277) (u0 : 0 ≤ u) (u1 : u < 277) (hku : k ≠ u) (he : e = r u ∨ e = - r u) (hot : (ot = 0 ∧ 0 ≤ e) ∨ (ot = 1 ∧ e ≤ 0)) (hroom : ((r k).natAbs : Int) + ((r u).natAbs : Int) < rm 140) :
    fin xs fr lo 134 17 [some (.ref 425), some (.int (jI k)), some (.int (jI u)), some (.int (jI l)), some (.int (jI ot))] [] w (Ret fun v w' => v = none ∧ ∃ s', RW w0 w' s' ∧ oth s s' ∧ Bg s' (up1 r k (r k + e))) := by
  obtain ⟨n, hk, a1, a2, a3⟩ := isN_abs (hB k k0 k1)
  obtain ⟨n', hu, b1, b2, b3⟩ := isN_abs (hB u u0 u1)
  have ea : (e.natAbs : Int) = ((r u).natAbs : Int) := by omega
  refine fi_step (pc' := 18) m_Mo_bigAdd rfl rfl ?_
  refine r_get (p := 21) m_Mo_bigAdd rfl rfl (by assumption) rfl ?_
  refine fi_step (pc' := 22) m_Mo_bigAdd rfl rfl ?_
  refine r_ldB (p := 23) m_Mo_bigAdd rfl rfl (by assumption) (by decide) rfl (by decide) (by omega) (by omega) ?_
  refine fi_step (pc' := 25) m_Mo_bigAdd rfl rfl ?_
  refine s_ic_ne (p := 28) m_Mo_bigAdd rfl rfl (by omega) (by omega) (by omega) (by omega) (fun h => ?_) (fun h => ?_)
  · refine fi_step (pc' := 38) m_Mo_bigAdd rfl rfl ?_
    refine fi_step (pc' := 39) m_Mo_bigAdd rfl rfl ?_
    refine fi_step (pc' := 40) m_Mo_bigAdd rfl rfl ?_
    refine c_3 (p := 43) m_Mo_bigAdd rfl inv_v (by decide) m_Mo_bigSizes rfl rfl (by omega) (by omega) (Nat.le_of_ble_eq_true rfl) (Nat.le_of_ble_eq_true rfl) (RW_rcv hw _) (c_bigSizes (by omega) (by omega) hw k0 k1 u0 u1 hk hu) ?_
    by_cases hlt : ((r k).natAbs : Int) < ((r u).natAbs : Int)
    · rw [if_pos hlt]
      refine s_if_lt (p := 46) m_Mo_bigAdd rfl rfl (by omega) (by omega) (fun hbr => ?_) (fun hbr => False.elim (by omega))
      refine fi_step (pc' := 57) m_Mo_bigAdd rfl rfl ?_
      refine fi_step (pc' := 58) m_Mo_bigAdd rfl rfl ?_
      refine fi_step (pc' := 59) m_Mo_bigAdd rfl rfl ?_
      refine fi_step (pc' := 60) m_Mo_bigAdd rfl rfl ?_
      refine g_4 (p := 63) m_Mo_bigAdd rfl inv_v (by decide) m_Mo_bigDiffer rfl rfl (by omega) (by omega) (Nat.le_of_ble_eq_true rfl) (Nat.le_of_ble_eq_true rfl) (RW_rcv hw _) (c_bigDiffer (by omega) (by omega) hw k0 k1 u0 u1 hku hk hu (Or.inr ⟨rfl, rfl⟩) (by omega)) (fun v w hP => ?_)
      obtain ⟨rfl, s', n1, g1, g2, g3, g4⟩ := hP
      refine fi_step (pc' := 64) m_Mo_bigAdd rfl rfl ?_
      refine r_get (p := 67) m_Mo_bigAdd rfl rfl (by assumption) rfl ?_
      refine fi_step (pc' := 68) m_Mo_bigAdd rfl rfl ?_
      refine fi_step (pc' := 70) m_Mo_bigAdd rfl rfl ?_
      refine r_stB (p := 71) m_Mo_bigAdd rfl rfl (by assumption) (by decide) (fun _ => rfl) (by decide) (by omega) (by omega) (by omega) (by omega) (fun w hw => ?_)
      refine p_ret m_Mo_bigAdd rfl rfl ?_
      have gc := chP_trans g2 (chP_up3 k s' ot)
      refine ⟨rfl, _, hw, chP_oth gc, Bg_ch hB gc (isN_of (n := n1) (m := -1 * (((r k).natAbs : Int) - ((r u).natAbs : Int))) ?_ ?_ ?_)⟩
      · obtain ⟨q1, q2, q3, q4, q5⟩ := g4
        refine ⟨by rw [up_ne _ (by decide)]; exact q1, q2, ?_, ?_, ?_⟩
        · rw [up_ne _ (by decide)]; exact q3
        · rw [up_ne _ (by decide)]; exact q4
        · rw [up_ne _ (by decide)]; exact q5
      · omega
      · rw [up_same, up1_same]; omega
    · have : (if ((r k).natAbs : Int) < ((r u).natAbs : Int) then (-1 : Int) else if ((r k).natAbs : Int) = ((r u).natAbs : Int) then 0 else 1) = 0 ∨ (if ((r k).natAbs : Int) < ((r u).natAbs : Int) then (-1 : Int) else if ((r k).natAbs : Int) = ((r u).natAbs : Int) then 0 else 1) = 1 := by
        rw [if_neg hlt]; split
        · exact Or.inl rfl
        · exact Or.inr rfl
      refine s_if_lt (p := 46) m_Mo_bigAdd rfl rfl (by omega) (by omega) (fun hbr => False.elim (by omega)) (fun hbr => ?_)
      refine fi_step (pc' := 47) m_Mo_bigAdd rfl rfl ?_
      refine fi_step (pc' := 48) m_Mo_bigAdd rfl rfl ?_
      refine fi_step (pc' := 49) m_Mo_bigAdd rfl rfl ?_
      refine fi_step (pc' := 50) m_Mo_bigAdd rfl rfl ?_
      refine g_4 (p := 53) m_Mo_bigAdd rfl inv_v (by decide) m_Mo_bigDiffer rfl rfl (by omega) (by omega) (Nat.le_of_ble_eq_true rfl) (Nat.le_of_ble_eq_true rfl) (RW_rcv hw _) (c_bigDiffer (by omega) (by omega) hw k0 k1 u0 u1 hku hk hu (Or.inl ⟨rfl, rfl⟩) (by omega)) (fun v w hP => ?_)
      obtain ⟨rfl, s', n1, g1, g2, g3, g4⟩ := hP
      refine fi_step (pc' := 71) m_Mo_bigAdd rfl rfl ?_
      refine p_ret m_Mo_bigAdd rfl rfl ?_
      refine ⟨rfl, _, g1, chP_oth g2, Bg_ch hB g2 (isN_of g4 ?_ ?_)⟩
      · omega
      · rw [g3]; omega
  · refine fi_step (pc' := 29) m_Mo_bigAdd rfl rfl ?_
    refine fi_step (pc' := 30) m_Mo_bigAdd rfl rfl ?_
    refine fi_step (pc' := 31) m_Mo_bigAdd rfl rfl ?_
    refine g_3 (p := 34) m_Mo_bigAdd rfl inv_v (by decide) m_Mo_bigMore rfl rfl (by omega) (by omega) (Nat.le_of_ble_eq_true rfl) (Nat.le_of_ble_eq_true rfl) (RW_rcv hw _) (c_bigMore (by omega) (by omega) hw k0 k1 u0 u1 hku hk hu hroom) (fun v w hP => ?_)
    obtain ⟨rfl, s', n1, g1, g2, g3, g4⟩ := hP
    refine fi_step (pc' := 71) m_Mo_bigAdd rfl rfl ?_
    refine p_ret m_Mo_bigAdd rfl rfl ?_
    refine ⟨rfl, _, g1, chP_oth g2, Bg_ch hB g2 (isN_of g4 ?_ ?_)⟩
    · omega
    · rw [g3]; omega
theorem c_bigAdd {k u l : Int} {w : ax_W} {s : mo_S} {r : Int → Int} (hfr : 2 ≤ fr) (hlo : 80 ≤ lo) (hw : RW w0 w s) (hB : Bg s r) (k0 : 0 ≤ k) (k1 : k < 277) (u0 : 0 ≤ u) (u1 : u < 277) (hku : k ≠ u) (hl : l = 0 ∨ l = 1) (hroom : ((r k).natAbs : Int) + ((r u).natAbs : Int) < rm 140) :
    fin xs fr lo 134 0 (ax_ent [.ref 425, .int (jI k), .int (jI u), .int (jI l)] 5) [] w (Ret fun v w' => v = none ∧ ∃ s', RW w0 w' s' ∧ oth s s' ∧ Bg s' (up1 r k (if l = 1 then r k - r u else r k + r u))) := by
  obtain ⟨n', hu, b1, b2, b3⟩ := isN_abs (hB u u0 u1)
  rcases hl with rfl | rfl
  · rw [if_neg (by decide)]
    refine fi_step (pc' := 1) m_Mo_bigAdd rfl rfl ?_
    refine r_get (p := 4) m_Mo_bigAdd rfl rfl (by assumption) rfl ?_
    refine fi_step (pc' := 5) m_Mo_bigAdd rfl rfl ?_
    refine r_ldB (p := 6) m_Mo_bigAdd rfl rfl (by assumption) (by decide) rfl (by decide) (by omega) (by omega) ?_
    refine fi_step (pc' := 7) m_Mo_bigAdd rfl rfl ?_
    refine s_ic_eq (p := 10) m_Mo_bigAdd rfl rfl (by omega) (by omega) (by omega) (by omega) (fun h => ?_) (fun h => ?_)
    · refine fi_step (pc' := 15) m_Mo_bigAdd rfl rfl ?_
      refine fi_step (pc' := 17) m_Mo_bigAdd rfl rfl ?_
      exact bigAdd_mid hfr hlo hw hB k0 k1 u0 u1 hku (Or.inl rfl) (by omega) hroom
    · refine fi_step (pc' := 11) m_Mo_bigAdd rfl rfl ?_
      refine fi_step (pc' := 15) m_Mo_bigAdd rfl rfl ?_
      refine fi_step (pc' := 17) m_Mo_bigAdd rfl rfl ?_
      exact bigAdd_mid hfr hlo hw hB k0 k1 u0 u1 hku (Or.inl rfl) (by omega) hroom
  · rw [if_pos rfl, Int.sub_eq_add_neg]
    refine fi_step (pc' := 1) m_Mo_bigAdd rfl rfl ?_
    refine r_get (p := 4) m_Mo_bigAdd rfl rfl (by assumption) rfl ?_
    refine fi_step (pc' := 5) m_Mo_bigAdd rfl rfl ?_
    refine r_ldB (p := 6) m_Mo_bigAdd rfl rfl (by assumption) (by decide) rfl (by decide) (by omega) (by omega) ?_
    refine fi_step (pc' := 7) m_Mo_bigAdd rfl rfl ?_
    refine s_ic_eq (p := 10) m_Mo_bigAdd rfl rfl (by omega) (by omega) (by omega) (by omega) (fun h => ?_) (fun h => ?_)
    · refine fi_step (pc' := 15) m_Mo_bigAdd rfl rfl ?_
      refine fi_step (pc' := 17) m_Mo_bigAdd rfl rfl ?_
      exact bigAdd_mid hfr hlo hw hB k0 k1 u0 u1 hku (Or.inr rfl) (by omega) hroom
    · refine fi_step (pc' := 11) m_Mo_bigAdd rfl rfl ?_
      refine fi_step (pc' := 15) m_Mo_bigAdd rfl rfl ?_
      refine fi_step (pc' := 17) m_Mo_bigAdd rfl rfl ?_
      exact bigAdd_mid hfr hlo hw hB k0 k1 u0 u1 hku (Or.inr rfl) (by omega) hroom
end BIG3
