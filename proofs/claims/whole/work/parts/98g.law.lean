/-! THE LAW: at, size, turn, character, same -/
section LAW3
variable {xs : List Int32} {fr lo L Z i : Nat} {w : ax_W} {Q : Outcome → ax_W → Prop} {y5 y6 y7 : Option Value}
theorem l_eq {z pc l t u2 u3 : Nat} {d : Int} {M : ax_M} {a : Int32} {ls : List (Option Value)} {st : List Value} (hM : ax_prog[z]? = some M) (he : M.1[pc]? = some (some (.if_icmp .eq d, l, t, u2, u3))) (kk : fin xs fr lo z t ls st w Q) : fin xs fr lo z pc ls (.int a :: .int a :: st) w Q := by
  refine fi_step hM he (w1 := w) (pc' := if ax_cmp .eq a a then t else pc + l) rfl ?_
  rw [if_pos (by simp [ax_cmp])]
  exact kk
set_option maxRecDepth 20000 in
theorem lw_at (hLK : LK w L Z) (hi : (i : Int) + 6 ≤ xs.length) (hx : xs.length ≤ 3072) (hfr : 12 ≤ fr) (hlo : 502 ≤ lo) (K : ∀ w y5 y6 y7, LK w (L + 1) (Z + 198) → fin xs fr lo 185 1412 [some (.retAddr 0), some (.ref 0), some (.ref 425), some (.ref 437), some (.int (jI (i : Int))), y5, y6, y7] [] w Q) : fin xs fr lo 185 296 [some (.retAddr 0), some (.ref 0), some (.ref 425), some (.ref 437), some (.int (jI (i : Int))), y5, y6, y7] [] w Q := by
  obtain ⟨w0, s, v, sr, r, o, hC, hok, hR, hout, hB, h5, hab⟩ := hLK
  have hM := MI_abs hab hok.1
  have h4' : rf s 4 = sr 4 := congrArg (fun α : AB => α.1) hab
  have h5' : rf s 5 = sr 5 := congrArg (fun α : AB => α.2.1) hab
  have h6' : rf s 6 = sr 6 := congrArg (fun α : AB => α.2.2.1) hab
  obtain ⟨p1, ep1⟩ : ∃ q, q = sc xs ((i : Int) + 1) := ⟨_, rfl⟩
  have bp1 := sc_b xs ((i : Int) + 1)
  rw [← ep1] at bp1
  obtain ⟨p2, ep2⟩ : ∃ q, q = sc xs ((i : Int) + 2) := ⟨_, rfl⟩
  have bp2 := sc_b xs ((i : Int) + 2)
  rw [← ep2] at bp2
  obtain ⟨p3, ep3⟩ : ∃ q, q = sc xs ((i : Int) + 3) := ⟨_, rfl⟩
  have bp3 := sc_b xs ((i : Int) + 3)
  rw [← ep3] at bp3
  refine fi_step (pc' := 297) m_La_law rfl rfl ?_
  refine fi_step (pc' := 298) m_La_law rfl rfl ?_
  refine fi_step (pc' := 300) m_La_law rfl rfl ?_
  refine fi_step (pc' := 301) m_La_law rfl rfl ?_
  refine s_iadd (p := 302) m_La_law rfl rfl ?_
  refine l_ld (p := 303) m_La_law rfl rfl (by omega) (by omega) (by omega) ?_
  refine fi_step (pc' := 304) m_La_law rfl rfl ?_
  refine fi_step (pc' := 306) m_La_law rfl rfl ?_
  refine fi_step (pc' := 307) m_La_law rfl rfl ?_
  refine s_iadd (p := 308) m_La_law rfl rfl ?_
  refine l_ld (p := 309) m_La_law rfl rfl (by omega) (by omega) (by omega) ?_
  refine fi_step (pc' := 310) m_La_law rfl rfl ?_
  refine fi_step (pc' := 312) m_La_law rfl rfl ?_
  refine fi_step (pc' := 313) m_La_law rfl rfl ?_
  refine s_iadd (p := 314) m_La_law rfl rfl ?_
  refine l_ld (p := 315) m_La_law rfl rfl (by omega) (by omega) (by omega) ?_
  refine fi_step (pc' := 316) m_La_law rfl rfl ?_
  rw [← ep1, ← ep2, ← ep3]
  by_cases hc : (0 ≤ p1 ∧ p1 < 6) ∧ (0 ≤ p2 ∧ p2 < s 2 p1) ∧ 0 ≤ p3 ∧ p3 < s 3 p1
  · have q5 : sr 5 p1 = s 2 p1 := by rw [← h5', rf_5 s hc.1.1 hc.1.2]
    have q6 : sr 6 p1 = s 3 p1 := by rw [← h6', rf_6 s hc.1.1 hc.1.2]
    obtain ⟨m, rfl⟩ := Int.eq_ofNat_of_zero_le hc.1.1
    obtain ⟨d1, d2, d3, d4⟩ := rf_dim hok.1 (show m < 6 by omega)
    have q4 : sr 4 (36 * m + 6 * p2 + p3) = s 1 (36 * m + (6 * p2 + p3)) := by rw [← h4', rf_4 s (by omega) (by omega), show 36 * (m : Int) + 6 * p2 + p3 = 36 * m + (6 * p2 + p3) by omega]
    have qn := rf_num hok.1 (x := 36 * m + (6 * p2 + p3)) (by omega) (by omega)
    have hcr : (0 ≤ (m : Int) ∧ (m : Int) < 6) ∧ (0 ≤ p2 ∧ p2 < sr 5 m) ∧ 0 ≤ p3 ∧ p3 < sr 6 m := by omega
    refine g_5 (p := 319) m_La_law rfl inv_s (by decide) m_La_at rfl rfl (by omega) (by omega) (Nat.le_of_ble_eq_true rfl) (Nat.le_of_ble_eq_true rfl) rfl (la_at hC hout (by omega) (by omega) (de_at hC hok.1 (show m < 6 by omega) hc.2.1.1 hc.2.1.2 hc.2.2.1 hc.2.2.2 (by omega) (by omega))) (fun v w hP => ?_)
    obtain ⟨rfl, rfl⟩ := hP
    obtain ⟨w0', s', v', hC', hok', hab', hR', hout'⟩ := CB_next hC hR hout ⟨s, v, hC, hok, rfl⟩ (jL (s 1 (36 * m + (6 * p2 + p3))))
    refine fi_step (pc' := 321) m_La_law rfl rfl ?_
    refine fi_step (pc' := 322) m_La_law rfl rfl ?_
    refine fi_step (pc' := 323) m_La_law rfl rfl ?_
    refine fi_step (pc' := 325) m_La_law rfl rfl ?_
    refine fi_step (pc' := 326) m_La_law rfl rfl ?_
    refine s_iadd (p := 327) m_La_law rfl rfl ?_
    refine l_ld (p := 328) m_La_law rfl rfl (by omega) (by omega) (by omega) ?_
    refine fi_step (pc' := 329) m_La_law rfl rfl ?_
    refine fi_step (pc' := 331) m_La_law rfl rfl ?_
    refine fi_step (pc' := 332) m_La_law rfl rfl ?_
    refine s_iadd (p := 333) m_La_law rfl rfl ?_
    refine l_ld (p := 334) m_La_law rfl rfl (by omega) (by omega) (by omega) ?_
    refine fi_step (pc' := 335) m_La_law rfl rfl ?_
    refine fi_step (pc' := 337) m_La_law rfl rfl ?_
    refine fi_step (pc' := 338) m_La_law rfl rfl ?_
    refine s_iadd (p := 339) m_La_law rfl rfl ?_
    refine l_ld (p := 340) m_La_law rfl rfl (by omega) (by omega) (by omega) ?_
    rw [← ep1, ← ep2, ← ep3]
    refine g_4 (p := 343) m_La_law rfl inv_v (by decide) m_Mo_at rfl rfl (by omega) (by omega) (Nat.le_of_ble_eq_true rfl) (Nat.le_of_ble_eq_true rfl) (RW_rcv hR' _) (c_at (by omega) (by omega) hR' hM bp1.1 bp1.2 bp2.1 bp2.2 bp3.1 bp3.2) (fun v w hP => ?_)
    obtain ⟨hX, rfl⟩ := hP
    rw [if_pos hcr] at hX
    rw [if_pos hcr, q4]
    obtain ⟨hL2, hout2, sr2, hR2, ht2⟩ := LK_ref hC' hok' hR' hout' (RX_up 0 hX hB h5) (hab'.trans hab)
    refine fi_step (pc' := 345) m_La_law rfl rfl ?_
    refine fi_step (pc' := 346) m_La_law rfl rfl ?_
    refine c_1 (p := 349) m_La_law rfl inv_v (by decide) m_Mo_thrown rfl rfl (by omega) (by omega) (Nat.le_of_ble_eq_true rfl) (Nat.le_of_ble_eq_true rfl) (RW_rcv hR2 _) (c_thrown hR2) ?_
    rw [ht2]
    refine fi_step (pc' := 351) m_La_law rfl rfl ?_
    refine s_ic_eq (p := 354) m_La_law rfl rfl (by omega) (by omega) (by omega) (by omega) (fun hbr => ?_) (fun hbr => False.elim (by omega))
    refine fi_step (pc' := 358) m_La_law rfl rfl ?_
    refine s_if_ne (p := 361) m_La_law rfl rfl (by omega) (by omega) (fun hbr => False.elim (by omega)) (fun hbr => ?_)
    refine fi_step (pc' := 362) m_La_law rfl rfl ?_
    refine fi_step (pc' := 363) m_La_law rfl rfl ?_
    refine fi_lald m_La_law rfl hout2 (by decide) (v := .long (jL (s 1 (36 * m + (6 * p2 + p3))))) rfl ?_
    refine fi_step (pc' := 366) m_La_law rfl rfl ?_
    refine s_lc_eq (q := 367) (p := 370) m_La_law rfl rfl rfl rfl (by omega) (by omega) (by omega) (by omega) (fun hbr => ?_) (fun hbr => False.elim (by omega))
    refine fi_step (pc' := 1412) m_La_law rfl rfl ?_
    exact K _ _ _ _ (LK_more hL2 (by omega) (by omega))
  · have hcr : ¬ ((0 ≤ p1 ∧ p1 < 6) ∧ (0 ≤ p2 ∧ p2 < sr 5 p1) ∧ 0 ≤ p3 ∧ p3 < sr 6 p1) := fun hn => hc (by
      rw [← h5', ← h6', rf_5 s hn.1.1 hn.1.2, rf_6 s hn.1.1 hn.1.2] at hn
      exact hn)
    refine g_5 (p := 319) m_La_law rfl inv_s (by decide) m_La_at rfl rfl (by omega) (by omega) (Nat.le_of_ble_eq_true rfl) (Nat.le_of_ble_eq_true rfl) rfl (la_atT hC (by omega) (by omega) (de_atT hC hok.1 bp1.1 bp1.2 bp2.1 bp2.2 bp3.1 bp3.2 hc (by omega) (by omega))) (fun v w hP => ?_)
    obtain ⟨rfl, rfl⟩ := hP
    obtain ⟨hC', hR', hout'⟩ := Thr_next hC hR hout (Or.inl rfl)
    refine fi_step (pc' := 321) m_La_law rfl rfl ?_
    refine fi_step (pc' := 322) m_La_law rfl rfl ?_
    refine fi_step (pc' := 323) m_La_law rfl rfl ?_
    refine fi_step (pc' := 325) m_La_law rfl rfl ?_
    refine fi_step (pc' := 326) m_La_law rfl rfl ?_
    refine s_iadd (p := 327) m_La_law rfl rfl ?_
    refine l_ld (p := 328) m_La_law rfl rfl (by omega) (by omega) (by omega) ?_
    refine fi_step (pc' := 329) m_La_law rfl rfl ?_
    refine fi_step (pc' := 331) m_La_law rfl rfl ?_
    refine fi_step (pc' := 332) m_La_law rfl rfl ?_
    refine s_iadd (p := 333) m_La_law rfl rfl ?_
    refine l_ld (p := 334) m_La_law rfl rfl (by omega) (by omega) (by omega) ?_
    refine fi_step (pc' := 335) m_La_law rfl rfl ?_
    refine fi_step (pc' := 337) m_La_law rfl rfl ?_
    refine fi_step (pc' := 338) m_La_law rfl rfl ?_
    refine s_iadd (p := 339) m_La_law rfl rfl ?_
    refine l_ld (p := 340) m_La_law rfl rfl (by omega) (by omega) (by omega) ?_
    rw [← ep1, ← ep2, ← ep3]
    refine g_4 (p := 343) m_La_law rfl inv_v (by decide) m_Mo_at rfl rfl (by omega) (by omega) (Nat.le_of_ble_eq_true rfl) (Nat.le_of_ble_eq_true rfl) (RW_rcv hR' _) (c_at (by omega) (by omega) hR' hM bp1.1 bp1.2 bp2.1 bp2.2 bp3.1 bp3.2) (fun v w hP => ?_)
    obtain ⟨hX, rfl⟩ := hP
    rw [if_neg hcr] at hX
    rw [if_neg hcr]
    obtain ⟨hL2, hout2, sr2, hR2, ht2⟩ := LK_ref hC' hok hR' hout' (RX_up 1 hX hB h5) hab
    refine fi_step (pc' := 345) m_La_law rfl rfl ?_
    refine fi_step (pc' := 346) m_La_law rfl rfl ?_
    refine c_1 (p := 349) m_La_law rfl inv_v (by decide) m_Mo_thrown rfl rfl (by omega) (by omega) (Nat.le_of_ble_eq_true rfl) (Nat.le_of_ble_eq_true rfl) (RW_rcv hR2 _) (c_thrown hR2) ?_
    rw [ht2]
    refine fi_step (pc' := 351) m_La_law rfl rfl ?_
    refine s_ic_eq (p := 354) m_La_law rfl rfl (by omega) (by omega) (by omega) (by omega) (fun hbr => ?_) (fun hbr => False.elim (by omega))
    refine fi_step (pc' := 358) m_La_law rfl rfl ?_
    refine s_if_ne (p := 361) m_La_law rfl rfl (by omega) (by omega) (fun hbr => ?_) (fun hbr => False.elim (by omega))
    refine fi_step (pc' := 1412) m_La_law rfl rfl ?_
    exact K _ _ _ _ hL2
set_option maxRecDepth 20000 in
theorem lw_size (hLK : LK w L Z) (hi : (i : Int) + 6 ≤ xs.length) (hx : xs.length ≤ 3072) (hfr : 12 ≤ fr) (hlo : 502 ≤ lo) (K : ∀ w y5 y6 y7, LK w (L + 1) (Z + 198) → fin xs fr lo 185 1412 [some (.retAddr 0), some (.ref 0), some (.ref 425), some (.ref 437), some (.int (jI (i : Int))), y5, y6, y7] [] w Q) : fin xs fr lo 185 375 [some (.retAddr 0), some (.ref 0), some (.ref 425), some (.ref 437), some (.int (jI (i : Int))), y5, y6, y7] [] w Q := by
  obtain ⟨w0, s, v, sr, r, o, hC, hok, hR, hout, hB, h5, hab⟩ := hLK
  have hM := MI_abs hab hok.1
  have h4' : rf s 4 = sr 4 := congrArg (fun α : AB => α.1) hab
  have h5' : rf s 5 = sr 5 := congrArg (fun α : AB => α.2.1) hab
  have h6' : rf s 6 = sr 6 := congrArg (fun α : AB => α.2.2.1) hab
  obtain ⟨p1, ep1⟩ : ∃ q, q = sc xs ((i : Int) + 1) := ⟨_, rfl⟩
  have bp1 := sc_b xs ((i : Int) + 1)
  rw [← ep1] at bp1
  obtain ⟨p2, ep2⟩ : ∃ q, q = sc xs ((i : Int) + 2) := ⟨_, rfl⟩
  have bp2 := sc_b xs ((i : Int) + 2)
  rw [← ep2] at bp2
  refine fi_step (pc' := 376) m_La_law rfl rfl ?_
  refine fi_step (pc' := 377) m_La_law rfl rfl ?_
  refine fi_step (pc' := 379) m_La_law rfl rfl ?_
  refine fi_step (pc' := 380) m_La_law rfl rfl ?_
  refine s_iadd (p := 381) m_La_law rfl rfl ?_
  refine l_ld (p := 382) m_La_law rfl rfl (by omega) (by omega) (by omega) ?_
  refine fi_step (pc' := 383) m_La_law rfl rfl ?_
  refine fi_step (pc' := 385) m_La_law rfl rfl ?_
  refine fi_step (pc' := 386) m_La_law rfl rfl ?_
  refine s_iadd (p := 387) m_La_law rfl rfl ?_
  refine l_ld (p := 388) m_La_law rfl rfl (by omega) (by omega) (by omega) ?_
  rw [← ep1, ← ep2]
  refine c_3 (p := 391) m_La_law rfl inv_v (by decide) m_De_size rfl rfl (by omega) (by omega) (Nat.le_of_ble_eq_true rfl) (Nat.le_of_ble_eq_true rfl) (C_rcvD hC _) (de_size hC hok.1 bp1.1 bp1.2 bp2.1 bp2.2) ?_
  refine fi_step (pc' := 392) m_La_law rfl rfl ?_
  refine fi_step (pc' := 393) m_La_law rfl rfl ?_
  refine fi_step (pc' := 395) m_La_law rfl rfl ?_
  refine fi_step (pc' := 396) m_La_law rfl rfl ?_
  refine s_iadd (p := 397) m_La_law rfl rfl ?_
  refine l_ld (p := 398) m_La_law rfl rfl (by omega) (by omega) (by omega) ?_
  refine fi_step (pc' := 399) m_La_law rfl rfl ?_
  refine fi_step (pc' := 401) m_La_law rfl rfl ?_
  refine fi_step (pc' := 402) m_La_law rfl rfl ?_
  refine s_iadd (p := 403) m_La_law rfl rfl ?_
  refine l_ld (p := 404) m_La_law rfl rfl (by omega) (by omega) (by omega) ?_
  rw [← ep1, ← ep2]
  refine g_3 (p := 407) m_La_law rfl inv_v (by decide) m_Mo_size rfl rfl (by omega) (by omega) (Nat.le_of_ble_eq_true rfl) (Nat.le_of_ble_eq_true rfl) (RW_rcv hR _) (c_size (by omega) (by omega) hR hM bp1.1 bp1.2 bp2.1 bp2.2) (fun v w hP => ?_)
  obtain ⟨hX, rfl⟩ := hP
  obtain ⟨hL2, hout2, sr2, hR2, ht2⟩ := LK_ref hC hok hR hout (RX_up 0 hX hB h5) hab
  have e : (if 0 ≤ p1 ∧ p1 < 6 then (if p2 = 0 then sr 5 p1 else if p2 = 1 then sr 6 p1 else -1) else -1) = (if 0 ≤ p1 ∧ p1 < 6 then (if p2 = 0 then s 2 p1 else if p2 = 1 then s 3 p1 else -1) else -1) := by
    by_cases hc : 0 ≤ p1 ∧ p1 < 6
    · rw [if_pos hc, if_pos hc, ← h5', ← h6', rf_5 s hc.1 hc.2, rf_6 s hc.1 hc.2]
    · rw [if_neg hc, if_neg hc]
  rw [e]
  refine l_eq m_La_law rfl ?_
  exact K _ _ _ _ (LK_more hL2 (by omega) (by omega))
set_option maxRecDepth 20000 in
theorem lw_turn (hLK : LK w L Z) (hi : (i : Int) + 6 ≤ xs.length) (hx : xs.length ≤ 3072) (hfr : 12 ≤ fr) (hlo : 502 ≤ lo) (K : ∀ w y5 y6 y7, LK w (L + 1) (Z + 198) → fin xs fr lo 185 1412 [some (.retAddr 0), some (.ref 0), some (.ref 425), some (.ref 437), some (.int (jI (i : Int))), y5, y6, y7] [] w Q) : fin xs fr lo 185 596 [some (.retAddr 0), some (.ref 0), some (.ref 425), some (.ref 437), some (.int (jI (i : Int))), y5, y6, y7] [] w Q := by
  obtain ⟨w0, s, v, sr, r, o, hC, hok, hR, hout, hB, h5, hab⟩ := hLK
  have hM := MI_abs hab hok.1
  have h4' : rf s 4 = sr 4 := congrArg (fun α : AB => α.1) hab
  have h5' : rf s 5 = sr 5 := congrArg (fun α : AB => α.2.1) hab
  have h6' : rf s 6 = sr 6 := congrArg (fun α : AB => α.2.2.1) hab
  obtain ⟨p1, ep1⟩ : ∃ q, q = sc xs ((i : Int) + 1) := ⟨_, rfl⟩
  have bp1 := sc_b xs ((i : Int) + 1)
  rw [← ep1] at bp1
  obtain ⟨p2, ep2⟩ : ∃ q, q = sc xs ((i : Int) + 2) := ⟨_, rfl⟩
  have bp2 := sc_b xs ((i : Int) + 2)
  rw [← ep2] at bp2
  refine fi_step (pc' := 597) m_La_law rfl rfl ?_
  refine fi_step (pc' := 598) m_La_law rfl rfl ?_
  refine fi_step (pc' := 600) m_La_law rfl rfl ?_
  refine fi_step (pc' := 601) m_La_law rfl rfl ?_
  refine s_iadd (p := 602) m_La_law rfl rfl ?_
  refine l_ld (p := 603) m_La_law rfl rfl (by omega) (by omega) (by omega) ?_
  refine fi_step (pc' := 604) m_La_law rfl rfl ?_
  refine fi_step (pc' := 606) m_La_law rfl rfl ?_
  refine fi_step (pc' := 607) m_La_law rfl rfl ?_
  refine s_iadd (p := 608) m_La_law rfl rfl ?_
  refine l_ld (p := 609) m_La_law rfl rfl (by omega) (by omega) (by omega) ?_
  rw [← ep1, ← ep2]
  by_cases hc : (0 ≤ p1 ∧ p1 < 6) ∧ (0 ≤ p2 ∧ p2 < 6)
  · have q5 : sr 5 p2 = s 2 p2 := by rw [← h5', rf_5 s hc.2.1 hc.2.2]
    have q6 : sr 6 p2 = s 3 p2 := by rw [← h6', rf_6 s hc.2.1 hc.2.2]
    obtain ⟨to, rfl⟩ := Int.eq_ofNat_of_zero_le hc.1.1
    obtain ⟨a, rfl⟩ := Int.eq_ofNat_of_zero_le hc.2.1
    obtain ⟨d1, d2, d3, d4⟩ := rf_dim hok.1 (show a < 6 by omega)
    refine g_3 (p := 612) m_La_law rfl inv_s (by decide) m_La_turn rfl rfl (by omega) (by omega) (Nat.le_of_ble_eq_true rfl) (Nat.le_of_ble_eq_true rfl) rfl (la_turn (P := fun w' => madeC w0 s L Z to (s 3 a) (s 2 a) (fun i j => s 1 (36 * a + 6 * j + i)) 0 (some (.int (jI 0))) w') hC (by omega) (by omega) (de_turn hC hok (show to < 6 by omega) (show a < 6 by omega) (by omega) (by omega))) (fun v w hP => ?_)
    obtain ⟨rfl, hm⟩ := hP
    obtain ⟨b, α', g1, g2, s', v', hC1, hok1, hab1, hu⟩ := CO_made (h := fun i j => sr 4 (36 * a + 6 * j + i)) (fun i j i0 i1 j0 j1 => by rw [← h4', rf_4 s (by omega) (by omega)]) hm
    obtain ⟨hR1, hout1⟩ := CB_keep hC hR hout hC1
    have hb : b = 0 := by
      rcases g2 with e | e
      · exact e
      · subst e
        simp only [Option.some.injEq, Value.int.injEq] at hu
        exact absurd hu (by decide)
    have hα : α' = gvA (absC s) to (s 3 a) (s 2 a) (fun i j => sr 4 (36 * a + 6 * j + i)) := by
      rcases g1 with ⟨_, _, e⟩ | ⟨_, e, _⟩
      · exact e
      · omega
    refine fi_step (pc' := 614) m_La_law rfl rfl ?_
    refine fi_step (pc' := 615) m_La_law rfl rfl ?_
    refine fi_step (pc' := 616) m_La_law rfl rfl ?_
    refine fi_step (pc' := 618) m_La_law rfl rfl ?_
    refine fi_step (pc' := 619) m_La_law rfl rfl ?_
    refine s_iadd (p := 620) m_La_law rfl rfl ?_
    refine l_ld (p := 621) m_La_law rfl rfl (by omega) (by omega) (by omega) ?_
    refine fi_step (pc' := 622) m_La_law rfl rfl ?_
    refine fi_step (pc' := 624) m_La_law rfl rfl ?_
    refine fi_step (pc' := 625) m_La_law rfl rfl ?_
    refine s_iadd (p := 626) m_La_law rfl rfl ?_
    refine l_ld (p := 627) m_La_law rfl rfl (by omega) (by omega) (by omega) ?_
    rw [← ep1, ← ep2]
    refine g_3 (p := 630) m_La_law rfl inv_v (by decide) m_Mo_turn rfl rfl (by omega) (by omega) (Nat.le_of_ble_eq_true rfl) (Nat.le_of_ble_eq_true rfl) (RW_rcv hR1 _) (c_turn (by omega) (by omega) hR1 hM hB bp1.1 bp1.2 bp2.1 bp2.2) (fun v w hP => ?_)
    obtain ⟨rfl, ⟨hn, _⟩ | ⟨_, sr', r', k1, k2, k3, k4⟩⟩ := hP
    · exact absurd hc hn
    · obtain ⟨z0, z10, z5⟩ := keepN_0 k3
      have hX := RX_given k1 k2 z0 z10 z5 h5 k4
      rw [q5, q6] at hX
      obtain ⟨hL2, hout2, sr2, hR2, ht2⟩ := LK_ref hC1 hok1 hR1 hout1 hX (by rw [hab1, hα, hab])
      refine fi_step (pc' := 631) m_La_law rfl rfl ?_
      refine c_1 (p := 634) m_La_law rfl inv_v (by decide) m_Mo_thrown rfl rfl (by omega) (by omega) (Nat.le_of_ble_eq_true rfl) (Nat.le_of_ble_eq_true rfl) (RW_rcv hR2 _) (c_thrown hR2) ?_
      rw [ht2]
      refine fi_step (pc' := 636) m_La_law rfl rfl ?_
      refine s_ic_eq (p := 639) m_La_law rfl rfl (by omega) (by omega) (by omega) (by omega) (fun hbr => ?_) (fun hbr => False.elim (by omega))
      refine fi_step (pc' := 1412) m_La_law rfl rfl ?_
      exact K _ _ _ _ (LK_more hL2 (by omega) (by omega))
  · refine g_3 (p := 612) m_La_law rfl inv_s (by decide) m_La_turn rfl rfl (by omega) (by omega) (Nat.le_of_ble_eq_true rfl) (Nat.le_of_ble_eq_true rfl) rfl (la_turnT9 hC (by omega) (by omega) (de_turnT hC bp1.1 bp1.2 bp2.1 bp2.2 hc (by omega) (by omega))) (fun v w hP => ?_)
    obtain ⟨rfl, rfl⟩ := hP
    obtain ⟨hC', hR', hout'⟩ := Thr_next hC hR hout (Or.inl rfl)
    refine fi_step (pc' := 614) m_La_law rfl rfl ?_
    refine fi_step (pc' := 615) m_La_law rfl rfl ?_
    refine fi_step (pc' := 616) m_La_law rfl rfl ?_
    refine fi_step (pc' := 618) m_La_law rfl rfl ?_
    refine fi_step (pc' := 619) m_La_law rfl rfl ?_
    refine s_iadd (p := 620) m_La_law rfl rfl ?_
    refine l_ld (p := 621) m_La_law rfl rfl (by omega) (by omega) (by omega) ?_
    refine fi_step (pc' := 622) m_La_law rfl rfl ?_
    refine fi_step (pc' := 624) m_La_law rfl rfl ?_
    refine fi_step (pc' := 625) m_La_law rfl rfl ?_
    refine s_iadd (p := 626) m_La_law rfl rfl ?_
    refine l_ld (p := 627) m_La_law rfl rfl (by omega) (by omega) (by omega) ?_
    rw [← ep1, ← ep2]
    refine g_3 (p := 630) m_La_law rfl inv_v (by decide) m_Mo_turn rfl rfl (by omega) (by omega) (Nat.le_of_ble_eq_true rfl) (Nat.le_of_ble_eq_true rfl) (RW_rcv hR' _) (c_turn (by omega) (by omega) hR' hM hB bp1.1 bp1.2 bp2.1 bp2.2) (fun v w hP => ?_)
    obtain ⟨rfl, ⟨_, k1⟩ | ⟨hn, _⟩⟩ := hP
    · obtain ⟨hL2, hout2, sr2, hR2, ht2⟩ := LK_ref hC' hok hR' hout' (RX_up 1 k1 hB h5) hab
      refine fi_step (pc' := 631) m_La_law rfl rfl ?_
      refine c_1 (p := 634) m_La_law rfl inv_v (by decide) m_Mo_thrown rfl rfl (by omega) (by omega) (Nat.le_of_ble_eq_true rfl) (Nat.le_of_ble_eq_true rfl) (RW_rcv hR2 _) (c_thrown hR2) ?_
      rw [ht2]
      refine fi_step (pc' := 636) m_La_law rfl rfl ?_
      refine s_ic_eq (p := 639) m_La_law rfl rfl (by omega) (by omega) (by omega) (by omega) (fun hbr => ?_) (fun hbr => False.elim (by omega))
      refine fi_step (pc' := 1412) m_La_law rfl rfl ?_
      exact K _ _ _ _ hL2
    · exact absurd hn hc
set_option maxRecDepth 20000 in
theorem lw_character (hLK : LK w L Z) (hi : (i : Int) + 6 ≤ xs.length) (hx : xs.length ≤ 3072) (hfr : 12 ≤ fr) (hlo : 502 ≤ lo) (K : ∀ w y5 y6 y7, LK w (L + 1) (Z + 198) → fin xs fr lo 185 1412 [some (.retAddr 0), some (.ref 0), some (.ref 425), some (.ref 437), some (.int (jI (i : Int))), y5, y6, y7] [] w Q) : fin xs fr lo 185 1256 [some (.retAddr 0), some (.ref 0), some (.ref 425), some (.ref 437), some (.int (jI (i : Int))), y5, y6, y7] [] w Q := by
  obtain ⟨w0, s, v, sr, r, o, hC, hok, hR, hout, hB, h5, hab⟩ := hLK
  have hM := MI_abs hab hok.1
  have h4' : rf s 4 = sr 4 := congrArg (fun α : AB => α.1) hab
  have h5' : rf s 5 = sr 5 := congrArg (fun α : AB => α.2.1) hab
  have h6' : rf s 6 = sr 6 := congrArg (fun α : AB => α.2.2.1) hab
  obtain ⟨p1, ep1⟩ : ∃ q, q = sc xs ((i : Int) + 1) := ⟨_, rfl⟩
  have bp1 := sc_b xs ((i : Int) + 1)
  rw [← ep1] at bp1
  have hseg : seg (s 4) 0 (s 0 0).toNat = seg (sr 10) 0 (sr 0 5).toNat := congrArg (fun α : AB => α.2.2.2) hab
  have c0 := hok.2.2.2.2.2.1
  have c1 := hok.2.2.2.2.2.2
  have hlen := congrArg List.length hseg
  rw [seg_len, seg_len] at hlen
  have e5 : sr 0 5 = s 0 0 := by omega
  refine fi_step (pc' := 1257) m_La_law rfl rfl ?_
  refine fi_step (pc' := 1258) m_La_law rfl rfl ?_
  refine fi_step (pc' := 1260) m_La_law rfl rfl ?_
  refine fi_step (pc' := 1261) m_La_law rfl rfl ?_
  refine s_iadd (p := 1262) m_La_law rfl rfl ?_
  refine l_ld (p := 1263) m_La_law rfl rfl (by omega) (by omega) (by omega) ?_
  rw [← ep1]
  refine c_2 (p := 1266) m_La_law rfl inv_v (by decide) m_De_character rfl rfl (by omega) (by omega) (Nat.le_of_ble_eq_true rfl) (Nat.le_of_ble_eq_true rfl) (C_rcvD hC _) (de_character hC c0 c1 bp1.1 bp1.2) ?_
  refine fi_step (pc' := 1267) m_La_law rfl rfl ?_
  refine fi_step (pc' := 1268) m_La_law rfl rfl ?_
  refine fi_step (pc' := 1270) m_La_law rfl rfl ?_
  refine fi_step (pc' := 1271) m_La_law rfl rfl ?_
  refine s_iadd (p := 1272) m_La_law rfl rfl ?_
  refine l_ld (p := 1273) m_La_law rfl rfl (by omega) (by omega) (by omega) ?_
  rw [← ep1]
  refine g_2 (p := 1276) m_La_law rfl inv_v (by decide) m_Mo_character rfl rfl (by omega) (by omega) (Nat.le_of_ble_eq_true rfl) (Nat.le_of_ble_eq_true rfl) (RW_rcv hR _) (c_character hR (by omega) (by omega) bp1.1 bp1.2) (fun v w hP => ?_)
  obtain ⟨hX, rfl⟩ := hP
  obtain ⟨hL2, hout2, sr2, hR2, ht2⟩ := LK_ref hC hok hR hout (RX_up 0 hX hB h5) hab
  have e : (if 0 ≤ p1 ∧ p1 < sr 0 5 then sr 10 p1 else -1) = (if 0 ≤ p1 ∧ p1 < s 0 0 then s 4 p1 else -1) := by
    rw [e5]
    by_cases hc : 0 ≤ p1 ∧ p1 < s 0 0
    · rw [if_pos hc, if_pos hc]
      obtain ⟨n, rfl⟩ := Int.eq_ofNat_of_zero_le hc.1
      have a1 := seg_get (s 4) (s 0 0).toNat 0 n (by omega)
      have a2 := seg_get (sr 10) (sr 0 5).toNat 0 n (by omega)
      rw [hseg, a2] at a1
      simp only [Option.some.injEq] at a1
      rw [show (0 : Int) + (n : Int) = (n : Int) by omega] at a1
      exact a1
    · rw [if_neg hc, if_neg hc]
  rw [e]
  refine l_eq m_La_law rfl ?_
  exact K _ _ _ _ (LK_more hL2 (by omega) (by omega))
set_option maxRecDepth 20000 in
theorem lw_same (hLK : LK w L Z) (hi : (i : Int) + 6 ≤ xs.length) (hx : xs.length ≤ 3072) (hfr : 12 ≤ fr) (hlo : 502 ≤ lo) (K : ∀ w y5 y6 y7, LK w (L + 1) (Z + 198) → fin xs fr lo 185 1412 [some (.retAddr 0), some (.ref 0), some (.ref 425), some (.ref 437), some (.int (jI (i : Int))), y5, y6, y7] [] w Q) : fin xs fr lo 185 1281 [some (.retAddr 0), some (.ref 0), some (.ref 425), some (.ref 437), some (.int (jI (i : Int))), y5, y6, y7] [] w Q := by
  obtain ⟨w0, s, v, sr, r, o, hC, hok, hR, hout, hB, h5, hab⟩ := hLK
  have hM := MI_abs hab hok.1
  have h4' : rf s 4 = sr 4 := congrArg (fun α : AB => α.1) hab
  have h5' : rf s 5 = sr 5 := congrArg (fun α : AB => α.2.1) hab
  have h6' : rf s 6 = sr 6 := congrArg (fun α : AB => α.2.2.1) hab
  obtain ⟨p1, ep1⟩ : ∃ q, q = sc xs ((i : Int) + 1) := ⟨_, rfl⟩
  have bp1 := sc_b xs ((i : Int) + 1)
  rw [← ep1] at bp1
  obtain ⟨p2, ep2⟩ : ∃ q, q = sc xs ((i : Int) + 2) := ⟨_, rfl⟩
  have bp2 := sc_b xs ((i : Int) + 2)
  rw [← ep2] at bp2
  refine fi_step (pc' := 1282) m_La_law rfl rfl ?_
  refine fi_step (pc' := 1283) m_La_law rfl rfl ?_
  refine fi_step (pc' := 1285) m_La_law rfl rfl ?_
  refine fi_step (pc' := 1286) m_La_law rfl rfl ?_
  refine s_iadd (p := 1287) m_La_law rfl rfl ?_
  refine l_ld (p := 1288) m_La_law rfl rfl (by omega) (by omega) (by omega) ?_
  refine fi_step (pc' := 1289) m_La_law rfl rfl ?_
  refine fi_step (pc' := 1291) m_La_law rfl rfl ?_
  refine fi_step (pc' := 1292) m_La_law rfl rfl ?_
  refine s_iadd (p := 1293) m_La_law rfl rfl ?_
  refine l_ld (p := 1294) m_La_law rfl rfl (by omega) (by omega) (by omega) ?_
  refine fi_step (pc' := 1295) m_La_law rfl rfl ?_
  rw [← ep1, ← ep2]
  by_cases hc : (0 ≤ p1 ∧ p1 < 6) ∧ (0 ≤ p2 ∧ p2 < 6)
  · have q5 : sr 5 p1 = s 2 p1 := by rw [← h5', rf_5 s hc.1.1 hc.1.2]
    have q6 : sr 6 p1 = s 3 p1 := by rw [← h6', rf_6 s hc.1.1 hc.1.2]
    have q5' : sr 5 p2 = s 2 p2 := by rw [← h5', rf_5 s hc.2.1 hc.2.2]
    have q6' : sr 6 p2 = s 3 p2 := by rw [← h6', rf_6 s hc.2.1 hc.2.2]
    obtain ⟨a, rfl⟩ := Int.eq_ofNat_of_zero_le hc.1.1
    obtain ⟨b, rfl⟩ := Int.eq_ofNat_of_zero_le hc.2.1
    obtain ⟨d1, d2, d3, d4⟩ := rf_dim hok.1 (show a < 6 by omega)
    have hE : (sr 5 a = sr 5 b ∧ sr 6 a = sr 6 b ∧ ∀ i j, 0 ≤ i → i < sr 5 a → 0 ≤ j → j < sr 6 a → sr 4 (36 * a + 6 * i + j) = sr 4 (36 * b + 6 * i + j)) ↔ eqC s a b := by
      unfold eqC
      rw [q5, q6, q5', q6', ← h4']
      constructor
      · rintro ⟨k1, k2, k3⟩
        refine ⟨k1, k2, fun i j i0 i1 j0 j1 => ?_⟩
        have := k3 i j i0 i1 j0 j1
        rw [rf_4 s (by omega) (by omega), rf_4 s (by omega) (by omega)] at this
        exact this
      · rintro ⟨k1, k2, k3⟩
        refine ⟨k1, k2, fun i j i0 i1 j0 j1 => ?_⟩
        rw [rf_4 s (by omega) (by omega), rf_4 s (by omega) (by omega)]
        exact k3 i j i0 i1 j0 j1
    refine g_4 (p := 1298) m_La_law rfl inv_s (by decide) m_La_same rfl rfl (by omega) (by omega) (Nat.le_of_ble_eq_true rfl) (Nat.le_of_ble_eq_true rfl) rfl (la_same (E := eqC s a b) hC hout (by omega) (by omega) (de_same hC hok (show a < 6 by omega) (show b < 6 by omega) (by omega) (by omega))) (fun v w hP => ?_)
    obtain ⟨rfl, c, hcE, rfl⟩ := hP
    obtain ⟨w0', s', v', hC', hok', hab', hR', hout'⟩ := CB_next hC hR hout ⟨s, v, hC, hok, rfl⟩ (jL c)
    refine fi_step (pc' := 1300) m_La_law rfl rfl ?_
    refine fi_step (pc' := 1301) m_La_law rfl rfl ?_
    refine fi_step (pc' := 1302) m_La_law rfl rfl ?_
    refine fi_step (pc' := 1304) m_La_law rfl rfl ?_
    refine fi_step (pc' := 1305) m_La_law rfl rfl ?_
    refine s_iadd (p := 1306) m_La_law rfl rfl ?_
    refine l_ld (p := 1307) m_La_law rfl rfl (by omega) (by omega) (by omega) ?_
    refine fi_step (pc' := 1308) m_La_law rfl rfl ?_
    refine fi_step (pc' := 1310) m_La_law rfl rfl ?_
    refine fi_step (pc' := 1311) m_La_law rfl rfl ?_
    refine s_iadd (p := 1312) m_La_law rfl rfl ?_
    refine l_ld (p := 1313) m_La_law rfl rfl (by omega) (by omega) (by omega) ?_
    rw [← ep1, ← ep2]
    refine g_3 (p := 1316) m_La_law rfl inv_v (by decide) m_Mo_same rfl rfl (by omega) (by omega) (Nat.le_of_ble_eq_true rfl) (Nat.le_of_ble_eq_true rfl) (RW_rcv hR' _) (c_same (by omega) (by omega) hR' hM bp1.1 bp1.2 bp2.1 bp2.2) (fun v w hP => ?_)
    rcases hP with ⟨hn, _⟩ | ⟨_, hX, hu⟩
    · exact absurd hc hn
    · obtain ⟨hL2, hout2, sr2, hR2, ht2⟩ := LK_ref hC' hok' hR' hout' (RX_up 0 hX hB h5) (hab'.trans hab)
      obtain ⟨d, rfl, hd⟩ : ∃ d : Int, v = some (.int (jI d)) ∧ ((d = 1 ∧ c = 1) ∨ (d = 0 ∧ c = 0)) := by
        rcases hu with ⟨k1, rfl⟩ | ⟨k1, rfl⟩
        · refine ⟨1, rfl, Or.inl ⟨rfl, ?_⟩⟩
          rcases hcE with ⟨_, e⟩ | ⟨e, _⟩
          · exact e
          · exact absurd (hE.mp k1) e
        · refine ⟨0, rfl, Or.inr ⟨rfl, ?_⟩⟩
          rcases hcE with ⟨e, _⟩ | ⟨_, e⟩
          · exact absurd (hE.mpr e) k1
          · exact e
      refine fi_step (pc' := 1318) m_La_law rfl rfl ?_
      refine fi_step (pc' := 1319) m_La_law rfl rfl ?_
      refine c_1 (p := 1322) m_La_law rfl inv_v (by decide) m_Mo_thrown rfl rfl (by omega) (by omega) (Nat.le_of_ble_eq_true rfl) (Nat.le_of_ble_eq_true rfl) (RW_rcv hR2 _) (c_thrown hR2) ?_
      rw [ht2]
      refine fi_step (pc' := 1324) m_La_law rfl rfl ?_
      refine s_ic_eq (p := 1327) m_La_law rfl rfl (by omega) (by omega) (by omega) (by omega) (fun hbr => ?_) (fun hbr => False.elim (by omega))
      refine fi_step (pc' := 1331) m_La_law rfl rfl ?_
      refine s_if_ne (p := 1334) m_La_law rfl rfl (by omega) (by omega) (fun hbr => False.elim (by omega)) (fun hbr => ?_)
      refine fi_step (pc' := 1335) m_La_law rfl rfl ?_
      refine fi_step (pc' := 1336) m_La_law rfl rfl ?_
      refine fi_lald m_La_law rfl hout2 (by decide) (v := .long (jL c)) rfl ?_
      rcases hd with ⟨rfl, rfl⟩ | ⟨rfl, rfl⟩
      · refine fi_step (pc' := 1339) m_La_law rfl rfl ?_
        refine s_if_eq (p := 1342) m_La_law rfl rfl (by omega) (by omega) (fun hbr => False.elim (by omega)) (fun hbr => ?_)
        refine s_lconst (p := 1343) (v := 1) m_La_law rfl rfl rfl ?_
        refine fi_step (pc' := 1347) m_La_law rfl rfl ?_
        refine s_lc_eq (q := 1348) (p := 1351) m_La_law rfl rfl rfl rfl (by omega) (by omega) (by omega) (by omega) (fun hbr => ?_) (fun hbr => False.elim (by omega))
        refine fi_step (pc' := 1412) m_La_law rfl rfl ?_
        exact K _ _ _ _ (LK_more hL2 (by omega) (by omega))
      · refine fi_step (pc' := 1339) m_La_law rfl rfl ?_
        refine s_if_eq (p := 1342) m_La_law rfl rfl (by omega) (by omega) (fun hbr => ?_) (fun hbr => False.elim (by omega))
        refine s_lconst (p := 1347) (v := 0) m_La_law rfl rfl rfl ?_
        refine s_lc_eq (q := 1348) (p := 1351) m_La_law rfl rfl rfl rfl (by omega) (by omega) (by omega) (by omega) (fun hbr => ?_) (fun hbr => False.elim (by omega))
        refine fi_step (pc' := 1412) m_La_law rfl rfl ?_
        exact K _ _ _ _ (LK_more hL2 (by omega) (by omega))
  · refine g_4 (p := 1298) m_La_law rfl inv_s (by decide) m_La_same rfl rfl (by omega) (by omega) (Nat.le_of_ble_eq_true rfl) (Nat.le_of_ble_eq_true rfl) rfl (la_sameT hC (by omega) (by omega) (de_sameT hC bp1.1 bp1.2 bp2.1 bp2.2 hc (by omega) (by omega))) (fun v w hP => ?_)
    obtain ⟨rfl, rfl⟩ := hP
    obtain ⟨hC', hR', hout'⟩ := Thr_next hC hR hout (Or.inl rfl)
    refine fi_step (pc' := 1300) m_La_law rfl rfl ?_
    refine fi_step (pc' := 1301) m_La_law rfl rfl ?_
    refine fi_step (pc' := 1302) m_La_law rfl rfl ?_
    refine fi_step (pc' := 1304) m_La_law rfl rfl ?_
    refine fi_step (pc' := 1305) m_La_law rfl rfl ?_
    refine s_iadd (p := 1306) m_La_law rfl rfl ?_
    refine l_ld (p := 1307) m_La_law rfl rfl (by omega) (by omega) (by omega) ?_
    refine fi_step (pc' := 1308) m_La_law rfl rfl ?_
    refine fi_step (pc' := 1310) m_La_law rfl rfl ?_
    refine fi_step (pc' := 1311) m_La_law rfl rfl ?_
    refine s_iadd (p := 1312) m_La_law rfl rfl ?_
    refine l_ld (p := 1313) m_La_law rfl rfl (by omega) (by omega) (by omega) ?_
    rw [← ep1, ← ep2]
    refine g_3 (p := 1316) m_La_law rfl inv_v (by decide) m_Mo_same rfl rfl (by omega) (by omega) (Nat.le_of_ble_eq_true rfl) (Nat.le_of_ble_eq_true rfl) (RW_rcv hR' _) (c_same (by omega) (by omega) hR' hM bp1.1 bp1.2 bp2.1 bp2.2) (fun v w hP => ?_)
    rcases hP with ⟨_, hX, rfl⟩ | ⟨hn, _⟩
    · obtain ⟨hL2, hout2, sr2, hR2, ht2⟩ := LK_ref hC' hok hR' hout' (RX_up 1 hX hB h5) hab
      refine fi_step (pc' := 1318) m_La_law rfl rfl ?_
      refine fi_step (pc' := 1319) m_La_law rfl rfl ?_
      refine c_1 (p := 1322) m_La_law rfl inv_v (by decide) m_Mo_thrown rfl rfl (by omega) (by omega) (Nat.le_of_ble_eq_true rfl) (Nat.le_of_ble_eq_true rfl) (RW_rcv hR2 _) (c_thrown hR2) ?_
      rw [ht2]
      refine fi_step (pc' := 1324) m_La_law rfl rfl ?_
      refine s_ic_eq (p := 1327) m_La_law rfl rfl (by omega) (by omega) (by omega) (by omega) (fun hbr => ?_) (fun hbr => False.elim (by omega))
      refine fi_step (pc' := 1331) m_La_law rfl rfl ?_
      refine s_if_ne (p := 1334) m_La_law rfl rfl (by omega) (by omega) (fun hbr => ?_) (fun hbr => False.elim (by omega))
      refine fi_step (pc' := 1412) m_La_law rfl rfl ?_
      exact K _ _ _ _ hL2
    · exact absurd hn hc
end LAW3
