/-! products of the reference's numbers -/
section BIG4
variable {xs : List Int32} {fr lo : Nat} {w0 : ax_W} {Q : Outcome → ax_W → Prop} {k a b : Int} {na nb : Nat} {S : mo_S}
theorem bigProduct_zero {N : Nat} (k0 : 0 ≤ k) (k1 : k < 277) (hN : N ≤ 140) (h2 : S 2 k = N)
    (K : ∀ w' s', RW w0 w' s' → chP k S s' → s' 2 = S 2 → s' 3 = S 3 → (∀ j : Nat, j < N → s' 1 (140 * k + j) = 0) → fin xs fr lo 132 53 [some (.ref 425), some (.int (jI k)), some (.int (jI a)), some (.int (jI b)), some (.int (jI N)), none, none, none, none] [] w' Q) :
    ∀ (c i : Nat) (w : ax_W) (s : mo_S), RW w0 w s → i + c = N → chP k S s → s 2 = S 2 → s 3 = S 3 → (∀ j : Nat, j < i → s 1 (140 * k + j) = 0) →
    fin xs fr lo 132 22 [some (.ref 425), some (.int (jI k)), some (.int (jI a)), some (.int (jI b)), some (.int (jI i)), none, none, none, none] [] w Q := by
  intro c
  induction c with
  | zero =>
    intro i w s hw hi hc e2 e3 hz
    have : i = N := by omega
    subst this
    have e4 : s 2 k = i := by rw [e2]; exact h2
    refine fi_step (pc' := 24) m_Mo_bigProduct rfl rfl ?_
    refine fi_step (pc' := 25) m_Mo_bigProduct rfl rfl ?_
    refine r_get (p := 28) m_Mo_bigProduct rfl rfl (by assumption) rfl ?_
    refine fi_step (pc' := 29) m_Mo_bigProduct rfl rfl ?_
    refine r_ldI (p := 30) m_Mo_bigProduct rfl rfl (by assumption) (by decide) rfl (by decide) (by omega) (by omega) ?_
    refine s_ic_ge (p := 33) m_Mo_bigProduct rfl rfl (by omega) (by omega) (by omega) (by omega) (fun hbr => ?_) (fun hbr => False.elim (by omega))
    exact K w s hw hc e2 e3 hz
  | succ c ih =>
    intro i w s hw hi hc e2 e3 hz
    have e4 : s 2 k = N := by rw [e2]; exact h2
    refine fi_step (pc' := 24) m_Mo_bigProduct rfl rfl ?_
    refine fi_step (pc' := 25) m_Mo_bigProduct rfl rfl ?_
    refine r_get (p := 28) m_Mo_bigProduct rfl rfl (by assumption) rfl ?_
    refine fi_step (pc' := 29) m_Mo_bigProduct rfl rfl ?_
    refine r_ldI (p := 30) m_Mo_bigProduct rfl rfl (by assumption) (by decide) rfl (by decide) (by omega) (by omega) ?_
    refine s_ic_ge (p := 33) m_Mo_bigProduct rfl rfl (by omega) (by omega) (by omega) (by omega) (fun hbr => False.elim (by omega)) (fun hbr => ?_)
    refine fi_step (pc' := 34) m_Mo_bigProduct rfl rfl ?_
    refine r_get (p := 37) m_Mo_bigProduct rfl rfl (by assumption) rfl ?_
    refine s_sipush (p := 40) m_Mo_bigProduct rfl rfl rfl ?_
    refine fi_step (pc' := 41) m_Mo_bigProduct rfl rfl ?_
    refine s_imul (p := 42) m_Mo_bigProduct rfl rfl ?_
    refine fi_step (pc' := 44) m_Mo_bigProduct rfl rfl ?_
    refine s_iadd (p := 45) m_Mo_bigProduct rfl rfl ?_
    refine fi_step (pc' := 46) m_Mo_bigProduct rfl rfl ?_
    refine r_stI (p := 47) m_Mo_bigProduct rfl rfl (by assumption) (by decide) (fun _ => rfl) (by decide) (by omega) (by omega) (fun w hw => ?_)
    refine s_iinc (p := 50) m_Mo_bigProduct rfl rfl rfl ?_
    refine fi_step (pc' := 22) m_Mo_bigProduct rfl rfl ?_
    refine ih (i + 1) w _ hw (by omega) (chP_trans hc (chP_up1 s _ (by omega) (by omega))) (by rw [up_ne s (by decide)]; exact e2) (by rw [up_ne s (by decide)]; exact e3) (fun j hj => ?_)
    rw [up_same]
    by_cases e : j = i
    · subst e; rw [up1_same]
    · rw [up1_ne _ (by omega)]; exact hz j (by omega)
theorem bigProduct_in {N i : Nat} {V : Int} (k0 : 0 ≤ k) (k1 : k < 277) (a0 : 0 ≤ a) (a1 : a < 277) (b0 : 0 ≤ b) (b1 : b < 277) (hka : k ≠ a) (hkb : k ≠ b) (hN : N ≤ 140) (hNe : N = na + nb) (hi : i < na)
    (ha : S 2 a = na) (hb : S 2 b = nb) (da : digB 16777216 (S 1) (140 * a) na) (db : digB 16777216 (S 1) (140 * b) nb)
    (K : ∀ w' s' cy y, RW w0 w' s' → chP k S s' → s' 2 = S 2 → s' 3 = S 3 → digB 16777216 (s' 1) (140 * k) N → (∀ j : Nat, i + nb ≤ j → j < N → s' 1 (140 * k + j) = 0) → 0 ≤ cy → cy < 16777216 → dvB 16777216 (s' 1) (140 * k) N + cy * 16777216 ^ (i + nb) = V + S 1 (140 * a + i) * dvB 16777216 (S 1) (140 * b) nb * 16777216 ^ i →
      fin xs fr lo 132 168 [some (.ref 425), some (.int (jI k)), some (.int (jI a)), some (.int (jI b)), some (.int (jI i)), some (.long (jL cy)), none, some (.int (jI nb)), y] [] w' Q) :
    ∀ (c j : Nat) (cy : Int) (y : Option Value) (w : ax_W) (s : mo_S), RW w0 w s → j + c = nb → chP k S s → s 2 = S 2 → s 3 = S 3 → digB 16777216 (s 1) (140 * k) N → (∀ j : Nat, i + nb ≤ j → j < N → s 1 (140 * k + j) = 0) → 0 ≤ cy → cy < 16777216 → dvB 16777216 (s 1) (140 * k) N + cy * 16777216 ^ (i + j) = V + S 1 (140 * a + i) * dvB 16777216 (S 1) (140 * b) j * 16777216 ^ i →
    fin xs fr lo 132 73 [some (.ref 425), some (.int (jI k)), some (.int (jI a)), some (.int (jI b)), some (.int (jI i)), some (.long (jL cy)), none, some (.int (jI j)), y] [] w Q := by
  intro c
  induction c with
  | zero =>
    intro j cy y w s hw hj hc e2 e3 hd hz c0 c1 hinv
    have : j = nb := by omega
    subst this
    have e4 : s 2 b = j := by rw [e2]; exact hb
    refine fi_step (pc' := 75) m_Mo_bigProduct rfl rfl ?_
    refine fi_step (pc' := 76) m_Mo_bigProduct rfl rfl ?_
    refine r_get (p := 79) m_Mo_bigProduct rfl rfl (by assumption) rfl ?_
    refine fi_step (pc' := 80) m_Mo_bigProduct rfl rfl ?_
    refine r_ldI (p := 81) m_Mo_bigProduct rfl rfl (by assumption) (by decide) rfl (by decide) (by omega) (by omega) ?_
    refine s_ic_ge (p := 84) m_Mo_bigProduct rfl rfl (by omega) (by omega) (by omega) (by omega) (fun hbr => ?_) (fun hbr => False.elim (by omega))
    exact K w s cy y hw hc e2 e3 hd hz c0 c1 hinv
  | succ c ih =>
    intro j cy y w s hw hj hc e2 e3 hd hz c0 c1 hinv
    have e4 : s 2 b = nb := by rw [e2]; exact hb
    have dA := da i hi
    have dB := db j (by omega)
    have eA : s 1 (140 * a + i) = S 1 (140 * a + i) := hc.1 _ (by omega)
    have eB : s 1 (140 * b + j) = S 1 (140 * b + j) := hc.1 _ (by omega)
    have dK := hd (i + j) (by omega)
    have eK : 140 * k + (i : Int) + (j : Int) = 140 * k + ((i + j : Nat) : Int) := by omega
    have p0 : 0 ≤ S 1 (140 * a + i) * S 1 (140 * b + j) := Int.mul_nonneg dA.1 dB.1
    have p1 : S 1 (140 * a + i) * S 1 (140 * b + j) ≤ 16777215 * 16777215 := Int.mul_le_mul (by omega) (by omega) dB.1 (by decide)
    have x0 : 0 ≤ s 1 (140 * k + i + j) ∧ s 1 (140 * k + i + j) < 16777216 := by rw [eK]; exact dK
    rw [← eA, ← eB] at p0 p1
    rw [← eA] at dA
    rw [← eB] at dB
    generalize hT : cy + s 1 (140 * k + i + j) + s 1 (140 * a + i) * s 1 (140 * b + j) = T
    have m0 := Int.emod_nonneg T (show (16777216 : Int) ≠ 0 by decide)
    have m1 := Int.emod_lt_of_pos T (show (0 : Int) < 16777216 by decide)
    have me := Int.emod_add_mul_ediv T 16777216
    refine fi_step (pc' := 75) m_Mo_bigProduct rfl rfl ?_
    refine fi_step (pc' := 76) m_Mo_bigProduct rfl rfl ?_
    refine r_get (p := 79) m_Mo_bigProduct rfl rfl (by assumption) rfl ?_
    refine fi_step (pc' := 80) m_Mo_bigProduct rfl rfl ?_
    refine r_ldI (p := 81) m_Mo_bigProduct rfl rfl (by assumption) (by decide) rfl (by decide) (by omega) (by omega) ?_
    refine s_ic_ge (p := 84) m_Mo_bigProduct rfl rfl (by omega) (by omega) (by omega) (by omega) (fun hbr => False.elim (by omega)) (fun hbr => ?_)
    refine s_sipush (p := 87) m_Mo_bigProduct rfl rfl rfl ?_
    refine fi_step (pc' := 88) m_Mo_bigProduct rfl rfl ?_
    refine s_imul (p := 89) m_Mo_bigProduct rfl rfl ?_
    refine fi_step (pc' := 91) m_Mo_bigProduct rfl rfl ?_
    refine s_iadd (p := 92) m_Mo_bigProduct rfl rfl ?_
    refine fi_step (pc' := 94) m_Mo_bigProduct rfl rfl ?_
    refine s_iadd (p := 95) m_Mo_bigProduct rfl rfl ?_
    refine fi_step (pc' := 97) m_Mo_bigProduct rfl rfl ?_
    refine fi_step (pc' := 99) m_Mo_bigProduct rfl rfl ?_
    refine fi_step (pc' := 100) m_Mo_bigProduct rfl rfl ?_
    refine r_get (p := 103) m_Mo_bigProduct rfl rfl (by assumption) rfl ?_
    refine fi_step (pc' := 105) m_Mo_bigProduct rfl rfl ?_
    refine r_ldI (p := 106) m_Mo_bigProduct rfl rfl (by assumption) (by decide) rfl (by decide) (by omega) (by omega) ?_
    refine s_i2l (p := 107) m_Mo_bigProduct rfl rfl (by omega) (by omega) ?_
    refine s_ladd (p := 108) m_Mo_bigProduct rfl rfl ?_
    refine fi_step (pc' := 109) m_Mo_bigProduct rfl rfl ?_
    refine r_get (p := 112) m_Mo_bigProduct rfl rfl (by assumption) rfl ?_
    refine s_sipush (p := 115) m_Mo_bigProduct rfl rfl rfl ?_
    refine fi_step (pc' := 116) m_Mo_bigProduct rfl rfl ?_
    refine s_imul (p := 117) m_Mo_bigProduct rfl rfl ?_
    refine fi_step (pc' := 119) m_Mo_bigProduct rfl rfl ?_
    refine s_iadd (p := 120) m_Mo_bigProduct rfl rfl ?_
    refine r_ldI (p := 121) m_Mo_bigProduct rfl rfl (by assumption) (by decide) rfl (by decide) (by omega) (by omega) ?_
    refine s_i2l (p := 122) m_Mo_bigProduct rfl rfl (by omega) (by omega) ?_
    refine fi_step (pc' := 123) m_Mo_bigProduct rfl rfl ?_
    refine r_get (p := 126) m_Mo_bigProduct rfl rfl (by assumption) rfl ?_
    refine s_sipush (p := 129) m_Mo_bigProduct rfl rfl rfl ?_
    refine fi_step (pc' := 130) m_Mo_bigProduct rfl rfl ?_
    refine s_imul (p := 131) m_Mo_bigProduct rfl rfl ?_
    refine fi_step (pc' := 133) m_Mo_bigProduct rfl rfl ?_
    refine s_iadd (p := 134) m_Mo_bigProduct rfl rfl ?_
    refine r_ldI (p := 135) m_Mo_bigProduct rfl rfl (by assumption) (by decide) rfl (by decide) (by omega) (by omega) ?_
    refine s_i2l (p := 136) m_Mo_bigProduct rfl rfl (by omega) (by omega) ?_
    refine s_lmul (p := 137) m_Mo_bigProduct rfl rfl ?_
    refine s_ladd (p := 138) m_Mo_bigProduct rfl rfl ?_
    rw [hT]
    refine fi_step (pc' := 140) m_Mo_bigProduct rfl rfl ?_
    refine fi_step (pc' := 141) m_Mo_bigProduct rfl rfl ?_
    refine r_get (p := 144) m_Mo_bigProduct rfl rfl (by assumption) rfl ?_
    refine fi_step (pc' := 146) m_Mo_bigProduct rfl rfl ?_
    refine fi_step (pc' := 148) m_Mo_bigProduct rfl rfl ?_
    refine s_ldc2 (p := 151) 16777216 m_Mo_bigProduct rfl rfl rfl ?_
    refine s_lrem (p := 152) m_Mo_bigProduct rfl rfl (by omega) (by omega) (by omega) (by omega) ?_
    refine s_l2i (p := 153) m_Mo_bigProduct rfl rfl ?_
    refine r_stI (p := 154) m_Mo_bigProduct rfl rfl (by assumption) (by decide) (fun _ => rfl) (by decide) (by omega) (by omega) (fun w hw => ?_)
    refine fi_step (pc' := 156) m_Mo_bigProduct rfl rfl ?_
    refine s_ldc2 (p := 159) 16777216 m_Mo_bigProduct rfl rfl rfl ?_
    refine s_ldiv (p := 160) m_Mo_bigProduct rfl rfl (by omega) (by omega) (by omega) (by omega) ?_
    refine fi_step (pc' := 162) m_Mo_bigProduct rfl rfl ?_
    refine s_iinc (p := 165) m_Mo_bigProduct rfl rfl rfl ?_
    refine fi_step (pc' := 73) m_Mo_bigProduct rfl rfl ?_
    refine ih (j + 1) _ _ w _ hw (by omega) (chP_trans hc (chP_up1 s _ (by omega) (by omega))) (by rw [up_ne s (by decide)]; exact e2) (by rw [up_ne s (by decide)]; exact e3) ?_ ?_ (by omega) (by omega) ?_
    · rw [up_same]; exact digB_up (fun q hq hne => hd q hq) m0 m1
    · intro q q0 q1; rw [up_same, up1_ne _ (by omega)]; exact hz q q0 q1
    · rw [up_same, eK, dvB_up_in (by omega), dvB_succ]
      rw [eA, eB, eK] at hT
      grind
theorem bigProduct_out {N : Nat} (hfr : 1 ≤ fr) (hlo : 21 ≤ lo) (k0 : 0 ≤ k) (k1 : k < 277) (a0 : 0 ≤ a) (a1 : a < 277) (b0 : 0 ≤ b) (b1 : b < 277) (hka : k ≠ a) (hkb : k ≠ b) (hN : N ≤ 140) (hNe : N = na + nb)
    (ha : S 2 a = na) (hb : S 2 b = nb) (da : digB 16777216 (S 1) (140 * a) na) (db : digB 16777216 (S 1) (140 * b) nb) (h2 : S 2 k = N) (sa : S 3 a = 0 ∨ S 3 a = 1) (sb : S 3 b = 0 ∨ S 3 b = 1) :
    ∀ (c i : Nat) (y5 y6 y7 y8 : Option Value) (w : ax_W) (s : mo_S), RW w0 w s → i + c = na → chP k S s → s 2 = S 2 → s 3 = S 3 → digB 16777216 (s 1) (140 * k) N → (∀ j : Nat, i + nb ≤ j → j < N → s 1 (140 * k + j) = 0) → dvB 16777216 (s 1) (140 * k) N = dvB 16777216 (S 1) (140 * a) i * dvB 16777216 (S 1) (140 * b) nb →
    fin xs fr lo 132 56 [some (.ref 425), some (.int (jI k)), some (.int (jI a)), some (.int (jI b)), some (.int (jI i)), y5, y6, y7, y8] [] w (Ret fun v w' => v = none ∧ ∃ s' n', RW w0 w' s' ∧ chP k S s' ∧ Mag s' k n' (dvB 16777216 (S 1) (140 * a) na * dvB 16777216 (S 1) (140 * b) nb) ∧ s' 3 k = (if S 3 a = S 3 b then 0 else 1)) := by
  intro c
  induction c with
  | zero =>
    intro i y5 y6 y7 y8 w s hw hi hc e2 e3 hd hz hinv
    have : i = na := by omega
    subst this
    have e4 : s 2 a = i := by rw [e2]; exact ha
    have fin1 : ∀ (sg : Int) (w1 : ax_W), sg = (if S 3 a = S 3 b then 0 else 1) → RW w0 w1 (up s 3 k sg) → fin xs fr lo 132 223 [some (.ref 425), some (.int (jI k)), some (.int (jI a)), some (.int (jI b)), some (.int (jI i)), y5, y6, y7, y8] [] w1 (Ret fun v w' => v = none ∧ ∃ s' n', RW w0 w' s' ∧ chP k S s' ∧ Mag s' k n' (dvB 16777216 (S 1) (140 * a) i * dvB 16777216 (S 1) (140 * b) nb) ∧ s' 3 k = (if S 3 a = S 3 b then 0 else 1)) := by
      intro sg w1 hsg hw
      refine fi_step (pc' := 224) m_Mo_bigProduct rfl rfl ?_
      refine fi_step (pc' := 225) m_Mo_bigProduct rfl rfl ?_
      refine g_2 (p := 228) m_Mo_bigProduct rfl inv_v (by decide) m_Mo_bigTrim rfl rfl (by omega) (by omega) (Nat.le_of_ble_eq_true rfl) (Nat.le_of_ble_eq_true rfl) (RW_rcv hw _) (c_bigTrim k0 k1 N w1 _ hw (by rw [up_ne _ (by decide), e2]; exact h2) hN (by rw [up_ne _ (by decide)]; exact hd)) (fun v w hP => ?_)
      obtain ⟨rfl, n1, g1, g2⟩ := hP
      refine p_ret m_Mo_bigProduct rfl rfl ?_
      rw [up_ne s (by decide), hinv] at g2
      exact ⟨rfl, _, n1, g1, chP_trans hc (chP_trans (chP_up3 k s sg) (chP_up2 k _ _)), g2, by rw [up_ne _ (by decide), up_same, up1_same, hsg]⟩
    have sa' : s 3 a = S 3 a := by rw [e3]
    have sb' : s 3 b = S 3 b := by rw [e3]
    refine fi_step (pc' := 58) m_Mo_bigProduct rfl rfl ?_
    refine fi_step (pc' := 59) m_Mo_bigProduct rfl rfl ?_
    refine r_get (p := 62) m_Mo_bigProduct rfl rfl (by assumption) rfl ?_
    refine fi_step (pc' := 63) m_Mo_bigProduct rfl rfl ?_
    refine r_ldI (p := 64) m_Mo_bigProduct rfl rfl (by assumption) (by decide) rfl (by decide) (by omega) (by omega) ?_
    refine s_ic_ge (p := 67) m_Mo_bigProduct rfl rfl (by omega) (by omega) (by omega) (by omega) (fun hbr => ?_) (fun hbr => False.elim (by omega))
    refine fi_step (pc' := 198) m_Mo_bigProduct rfl rfl ?_
    refine r_get (p := 201) m_Mo_bigProduct rfl rfl (by assumption) rfl ?_
    refine fi_step (pc' := 202) m_Mo_bigProduct rfl rfl ?_
    refine fi_step (pc' := 203) m_Mo_bigProduct rfl rfl ?_
    refine r_get (p := 206) m_Mo_bigProduct rfl rfl (by assumption) rfl ?_
    refine fi_step (pc' := 207) m_Mo_bigProduct rfl rfl ?_
    refine r_ldB (p := 208) m_Mo_bigProduct rfl rfl (by assumption) (by decide) rfl (by decide) (by omega) (by omega) ?_
    refine fi_step (pc' := 209) m_Mo_bigProduct rfl rfl ?_
    refine r_get (p := 212) m_Mo_bigProduct rfl rfl (by assumption) rfl ?_
    refine fi_step (pc' := 213) m_Mo_bigProduct rfl rfl ?_
    refine r_ldB (p := 214) m_Mo_bigProduct rfl rfl (by assumption) (by decide) rfl (by decide) (by omega) (by omega) ?_
    refine s_ic_eq (p := 217) m_Mo_bigProduct rfl rfl (by omega) (by omega) (by omega) (by omega) (fun h => ?_) (fun h => ?_)
    · refine fi_step (pc' := 222) m_Mo_bigProduct rfl rfl ?_
      refine r_stB (p := 223) m_Mo_bigProduct rfl rfl (by assumption) (by decide) (fun _ => rfl) (by decide) (by omega) (by omega) (by omega) (by omega) (fun w hw => ?_)
      exact fin1 0 w (by rw [if_pos (by omega)]) hw
    · refine fi_step (pc' := 218) m_Mo_bigProduct rfl rfl ?_
      refine fi_step (pc' := 222) m_Mo_bigProduct rfl rfl ?_
      refine r_stB (p := 223) m_Mo_bigProduct rfl rfl (by assumption) (by decide) (fun _ => rfl) (by decide) (by omega) (by omega) (by omega) (by omega) (fun w hw => ?_)
      exact fin1 1 w (by rw [if_neg (by omega)]) hw
  | succ c ih =>
    intro i y5 y6 y7 y8 w s hw hi hc e2 e3 hd hz hinv
    have e4 : s 2 a = na := by rw [e2]; exact ha
    refine fi_step (pc' := 58) m_Mo_bigProduct rfl rfl ?_
    refine fi_step (pc' := 59) m_Mo_bigProduct rfl rfl ?_
    refine r_get (p := 62) m_Mo_bigProduct rfl rfl (by assumption) rfl ?_
    refine fi_step (pc' := 63) m_Mo_bigProduct rfl rfl ?_
    refine r_ldI (p := 64) m_Mo_bigProduct rfl rfl (by assumption) (by decide) rfl (by decide) (by omega) (by omega) ?_
    refine s_ic_ge (p := 67) m_Mo_bigProduct rfl rfl (by omega) (by omega) (by omega) (by omega) (fun hbr => False.elim (by omega)) (fun hbr => ?_)
    refine s_lconst (p := 68) (v := 0) m_Mo_bigProduct rfl rfl rfl ?_
    refine fi_step (pc' := 70) m_Mo_bigProduct rfl rfl ?_
    refine fi_step (pc' := 71) m_Mo_bigProduct rfl rfl ?_
    refine fi_step (pc' := 73) m_Mo_bigProduct rfl rfl ?_
    refine bigProduct_in (N := N) (i := i) (V := dvB 16777216 (S 1) (140 * a) i * dvB 16777216 (S 1) (140 * b) nb) k0 k1 a0 a1 b0 b1 hka hkb hN hNe (by omega) ha hb da db ?_ nb 0 0 _ w s hw (by omega) hc e2 e3 hd hz (by decide) (by decide) (by rw [dvB_zero]; simp; exact hinv)
    intro w1 s1 cy y hw f1 f2 f3 f4 f5 f6 f7 f8
    have e5 : s1 2 b = nb := by rw [f2]; exact hb
    have eK : 140 * k + (i : Int) + (nb : Int) = 140 * k + ((i + nb : Nat) : Int) := by omega
    refine fi_step (pc' := 169) m_Mo_bigProduct rfl rfl ?_
    refine r_get (p := 172) m_Mo_bigProduct rfl rfl (by assumption) rfl ?_
    refine s_sipush (p := 175) m_Mo_bigProduct rfl rfl rfl ?_
    refine fi_step (pc' := 176) m_Mo_bigProduct rfl rfl ?_
    refine s_imul (p := 177) m_Mo_bigProduct rfl rfl ?_
    refine fi_step (pc' := 179) m_Mo_bigProduct rfl rfl ?_
    refine s_iadd (p := 180) m_Mo_bigProduct rfl rfl ?_
    refine fi_step (pc' := 181) m_Mo_bigProduct rfl rfl ?_
    refine r_get (p := 184) m_Mo_bigProduct rfl rfl (by assumption) rfl ?_
    refine fi_step (pc' := 185) m_Mo_bigProduct rfl rfl ?_
    refine r_ldI (p := 186) m_Mo_bigProduct rfl rfl (by assumption) (by decide) rfl (by decide) (by omega) (by omega) ?_
    refine s_iadd (p := 187) m_Mo_bigProduct rfl rfl ?_
    refine fi_step (pc' := 189) m_Mo_bigProduct rfl rfl ?_
    refine s_l2i (p := 190) m_Mo_bigProduct rfl rfl ?_
    refine r_stI (p := 191) m_Mo_bigProduct rfl rfl (by assumption) (by decide) (fun _ => rfl) (by decide) (by omega) (by omega) (fun w hw => ?_)
    refine s_iinc (p := 194) m_Mo_bigProduct rfl rfl rfl ?_
    refine fi_step (pc' := 56) m_Mo_bigProduct rfl rfl ?_
    rw [e5] at hw
    refine ih (i + 1) _ _ _ _ w _ hw (by omega) (chP_trans f1 (chP_up1 s1 _ (by omega) (by omega))) (by rw [up_ne _ (by decide)]; exact f2) (by rw [up_ne _ (by decide)]; exact f3) ?_ ?_ ?_
    · rw [up_same]; exact digB_up (fun q hq hne => f4 q hq) f6 f7
    · intro q q0 q1; rw [up_same, up1_ne _ (by omega)]; exact f5 q (by omega) q1
    · have z := f5 (i + nb) (by omega) (by omega)
      rw [up_same, eK, dvB_up_in (by omega), z, dvB_succ]
      grind
theorem c_bigProduct {w : ax_W} {s : mo_S} {r : Int → Int} (hfr : 1 ≤ fr) (hlo : 21 ≤ lo) (hw : RW w0 w s) (hB : Bg s r) (k0 : 0 ≤ k) (k1 : k < 277) (a0 : 0 ≤ a) (a1 : a < 277) (b0 : 0 ≤ b) (b1 : b < 277) (hka : k ≠ a) (hkb : k ≠ b) (hroom : ((r a).natAbs : Int) * ((r b).natAbs : Int) < rm 138) :
    fin xs fr lo 132 0 (ax_ent [.ref 425, .int (jI k), .int (jI a), .int (jI b)] 9) [] w (Ret fun v w' => v = none ∧ ∃ s', RW w0 w' s' ∧ oth s s' ∧ Bg s' (up1 r k (r a * r b))) := by
  obtain ⟨na, ha, sa, sa0, sa1⟩ := isN_abs (hB a a0 a1)
  obtain ⟨nb, hb, sb, sb0, sb1⟩ := isN_abs (hB b b0 b1)
  have ⟨a2, a3, a4, a5, a6⟩ := ha
  have ⟨b2, b3, b4, b5, b6⟩ := hb
  have hN : na + nb ≤ 140 := by
    rcases Nat.eq_zero_or_pos na with e | e
    · omega
    · rcases Nat.eq_zero_or_pos nb with f | f
      · omega
      · obtain ⟨p, rfl⟩ : ∃ p, na = p + 1 := ⟨na - 1, by omega⟩
        obtain ⟨q, rfl⟩ : ∃ q, nb = q + 1 := ⟨nb - 1, by omega⟩
        have g1 := Mag_ge ha
        have g2 := Mag_ge hb
        have g3 : (16777216 : Int) ^ p * 16777216 ^ q ≤ ((r a).natAbs : Int) * ((r b).natAbs : Int) := Int.mul_le_mul g1 g2 (Int.le_of_lt (powB_pos (by decide) q)) (by omega)
        rw [← Int.pow_add] at g3
        rcases Nat.lt_or_ge (p + q) 138 with h' | h'
        · omega
        · have := rm_le h'; omega
  have eL : s 2 a + s 2 b = ((na + nb : Nat) : Int) := by omega
  have hc0 := chP_up2 k s ((na + nb : Nat) : Int)
  have hane : a ≠ k := fun e => hka e.symm
  have hbne : b ≠ k := fun e => hkb e.symm
  have ha' := Mag_ch ha hc0 hane
  have hb' := Mag_ch hb hc0 hbne
  refine fi_step (pc' := 1) m_Mo_bigProduct rfl rfl ?_
  refine r_get (p := 4) m_Mo_bigProduct rfl rfl (by assumption) rfl ?_
  refine fi_step (pc' := 5) m_Mo_bigProduct rfl rfl ?_
  refine fi_step (pc' := 6) m_Mo_bigProduct rfl rfl ?_
  refine r_get (p := 9) m_Mo_bigProduct rfl rfl (by assumption) rfl ?_
  refine fi_step (pc' := 10) m_Mo_bigProduct rfl rfl ?_
  refine r_ldI (p := 11) m_Mo_bigProduct rfl rfl (by assumption) (by decide) rfl (by decide) (by omega) (by omega) ?_
  refine fi_step (pc' := 12) m_Mo_bigProduct rfl rfl ?_
  refine r_get (p := 15) m_Mo_bigProduct rfl rfl (by assumption) rfl ?_
  refine fi_step (pc' := 16) m_Mo_bigProduct rfl rfl ?_
  refine r_ldI (p := 17) m_Mo_bigProduct rfl rfl (by assumption) (by decide) rfl (by decide) (by omega) (by omega) ?_
  refine s_iadd (p := 18) m_Mo_bigProduct rfl rfl ?_
  refine r_stI (p := 19) m_Mo_bigProduct rfl rfl (by assumption) (by decide) (fun _ => rfl) (by decide) (by omega) (by omega) (fun w hw => ?_)
  refine fi_step (pc' := 20) m_Mo_bigProduct rfl rfl ?_
  refine fi_step (pc' := 22) m_Mo_bigProduct rfl rfl ?_
  rw [eL] at hw
  refine bigProduct_zero (S := up s 2 k ((na + nb : Nat) : Int)) (N := na + nb) k0 k1 hN (by rw [up_same, up1_same]) ?_ (na + nb) 0 w _ hw (by omega) (chP_refl k _) rfl rfl (fun j hj => by omega)
  intro w1 s1 hw f1 f2 f3 f4
  refine fi_step (pc' := 54) m_Mo_bigProduct rfl rfl ?_
  refine fi_step (pc' := 56) m_Mo_bigProduct rfl rfl ?_
  refine fi_mono (bigProduct_out (S := up s 2 k ((na + nb : Nat) : Int)) (N := na + nb) hfr hlo k0 k1 a0 a1 b0 b1 hka hkb hN rfl ha'.1 hb'.1 ha'.2.2.1 hb'.2.2.1 (by rw [up_same, up1_same]) (by rw [up_ne _ (by decide)]; exact sa) (by rw [up_ne _ (by decide)]; exact sb) na 0 _ _ _ _ w1 s1 hw (by omega) f1 f2 f3 (fun j hj => by rw [f4 j hj]; decide) (fun j _ hj => f4 j hj) ?_) ?_
  · rw [dvB_zero, Int.zero_mul, dvB_congr (g := fun _ => 0) (p := 0) (fun i hi => f4 i hi)]
    have z : ∀ d : Nat, dvB 16777216 (fun _ => 0) 0 d = 0 := by
      intro d; induction d with
      | zero => rfl
      | succ d ih => rw [dvB_succ, ih]; simp
    exact z _
  · rintro o w' ⟨v, rfl, hv, s', n', g1, g2, g3, g4⟩
    have gc := chP_trans hc0 g2
    rw [up_ne _ (by decide)] at g4
    rw [← ha'.2.2.2.2, ← hb'.2.2.2.2] at g3
    refine ⟨v, rfl, hv, s', g1, chP_oth gc, Bg_ch hB gc (isN_of g3 ?_ ?_)⟩
    · rw [Int.natAbs_mul]; simp
    · rw [g4]
      rcases sa with e | e <;> rcases sb with f | f <;> rw [e, f]
      · exact Or.inl ⟨rfl, Int.mul_nonneg (sa0 e) (sb0 f)⟩
      · exact Or.inr ⟨rfl, mul_np_np (sa0 e) (sb1 f)⟩
      · exact Or.inr ⟨rfl, mul_pn_np (sa1 e) (sb0 f)⟩
      · exact Or.inl ⟨rfl, mul_nn_pp (sa1 e) (sb1 f)⟩
end BIG4
