/-! a tenth, the value, the sign of the reference's numbers -/
theorem tdiv_abs (v : Int) (d : Nat) : ((v.tdiv d).natAbs : Int) = (v.natAbs : Int) / d := by
  rw [Int.natAbs_tdiv]; simp only [Int.natAbs_natCast]
  show ((v.natAbs / d : Nat) : Int) = _
  rw [Int.natCast_ediv]
section BIG8
variable {xs : List Int32} {fr lo : Nat} {w0 : ax_W}
theorem bigTenth_loop {k : Int} {n : Nat} {S : mo_S} {m : Int} (hfr : 1 ≤ fr) (hlo : 21 ≤ lo) (k0 : 0 ≤ k) (k1 : k < 277) (hk : Mag S k n m) :
    ∀ (t : Nat) (le : Int) (y : Option Value) (w : ax_W) (s : mo_S), RW w0 w s → t ≤ n → chP k S s → s 2 = S 2 → s 3 = S 3 → (∀ i : Nat, i < t → s 1 (140 * k + i) = S 1 (140 * k + i)) → (∀ i : Nat, t ≤ i → i < n → 0 ≤ s 1 (140 * k + i) ∧ s 1 (140 * k + i) < 16777216) → 0 ≤ le → le < 10 → dvB 16777216 (S 1) (140 * k + t) (n - t) = 10 * dvB 16777216 (s 1) (140 * k + t) (n - t) + le →
      fin xs fr lo 176 11 [some (.ref 425), some (.int (jI k)), some (.int (jI le)), some (.int (jI ((t : Int) - 1))), y] [] w (Ret fun v w' => v = some (.int (jI (m % 10))) ∧ ∃ s' n', RW w0 w' s' ∧ chP k S s' ∧ s' 3 = S 3 ∧ Mag s' k n' (m / 10)) := by
  have ⟨k2, k3, k4, k5, k6⟩ := hk
  intro t
  induction t with
  | zero =>
    intro le y w s hw ht hc e2 e3 hs hd l0 l1 hinv
    simp only [Nat.sub_zero, show ((0 : Nat) : Int) = 0 from rfl, Int.add_zero] at hinv
    rw [← k6] at hinv
    have hdk : digB 16777216 (s 1) (140 * k) n := fun i hi => hd i (by omega) hi
    refine fi_step (pc' := 12) m_Mo_bigTenth rfl rfl ?_
    refine s_if_lt (p := 15) m_Mo_bigTenth rfl rfl (by omega) (by omega) (fun hbr => ?_) (fun hbr => False.elim (by omega))
    refine fi_step (pc' := 64) m_Mo_bigTenth rfl rfl ?_
    refine fi_step (pc' := 65) m_Mo_bigTenth rfl rfl ?_
    refine g_2 (p := 68) m_Mo_bigTenth rfl inv_v (by decide) m_Mo_bigTrim rfl rfl (by omega) (by omega) (Nat.le_of_ble_eq_true rfl) (Nat.le_of_ble_eq_true rfl) (RW_rcv hw _) (c_bigTrim k0 k1 n w s hw (by rw [e2]; exact k2) k3 hdk) (fun v w hP => ?_)
    obtain ⟨rfl, n', g1, g2⟩ := hP
    refine fi_step (pc' := 69) m_Mo_bigTenth rfl rfl ?_
    refine p_reti m_Mo_bigTenth rfl rfl ?_
    refine ⟨by rw [show le = m % 10 by omega], _, n', g1, chP_trans hc (chP_up2 k s _), by rw [up_ne _ (by decide)]; exact e3, ?_⟩
    rw [show m / 10 = dvB 16777216 (s 1) (140 * k) n by omega]; exact g2
  | succ t ih =>
    intro le y w s hw ht hc e2 e3 hs hd l0 l1 hinv
    have d1 := k4 t (by omega)
    have e4 := hs t (by omega)
    rw [← e4] at d1
    rw [show ((t + 1 : Nat) : Int) - 1 = (t : Int) by omega]
    refine fi_step (pc' := 12) m_Mo_bigTenth rfl rfl ?_
    refine s_if_lt (p := 15) m_Mo_bigTenth rfl rfl (by omega) (by omega) (fun hbr => False.elim (by omega)) (fun hbr => ?_)
    refine fi_step (pc' := 16) m_Mo_bigTenth rfl rfl ?_
    refine s_ldc (p := 18) 16777216 m_Mo_bigTenth rfl rfl rfl ?_
    refine s_imul (p := 19) m_Mo_bigTenth rfl rfl ?_
    refine fi_step (pc' := 20) m_Mo_bigTenth rfl rfl ?_
    refine r_get (p := 23) m_Mo_bigTenth rfl rfl (by assumption) rfl ?_
    refine s_sipush (p := 26) m_Mo_bigTenth rfl rfl rfl ?_
    refine fi_step (pc' := 27) m_Mo_bigTenth rfl rfl ?_
    refine s_imul (p := 28) m_Mo_bigTenth rfl rfl ?_
    refine fi_step (pc' := 29) m_Mo_bigTenth rfl rfl ?_
    refine s_iadd (p := 30) m_Mo_bigTenth rfl rfl ?_
    refine r_ldI (p := 31) m_Mo_bigTenth rfl rfl (by assumption) (by decide) rfl (by decide) (by omega) (by omega) ?_
    refine s_iadd (p := 32) m_Mo_bigTenth rfl rfl ?_
    generalize hv : le * 16777216 + s 1 (140 * k + t) = v
    refine fi_step (pc' := 34) m_Mo_bigTenth rfl rfl ?_
    refine fi_step (pc' := 35) m_Mo_bigTenth rfl rfl ?_
    refine r_get (p := 38) m_Mo_bigTenth rfl rfl (by assumption) rfl ?_
    refine s_sipush (p := 41) m_Mo_bigTenth rfl rfl rfl ?_
    refine fi_step (pc' := 42) m_Mo_bigTenth rfl rfl ?_
    refine s_imul (p := 43) m_Mo_bigTenth rfl rfl ?_
    refine fi_step (pc' := 44) m_Mo_bigTenth rfl rfl ?_
    refine s_iadd (p := 45) m_Mo_bigTenth rfl rfl ?_
    refine fi_step (pc' := 47) m_Mo_bigTenth rfl rfl ?_
    refine s_bipush (p := 49) m_Mo_bigTenth rfl rfl rfl ?_
    refine s_idiv (p := 50) m_Mo_bigTenth rfl rfl (by omega) (by omega) (by omega) (by omega) ?_
    refine r_stI (p := 51) m_Mo_bigTenth rfl rfl (by assumption) (by decide) (fun _ => rfl) (by decide) (by omega) (by omega) (fun w hw => ?_)
    refine fi_step (pc' := 53) m_Mo_bigTenth rfl rfl ?_
    refine s_bipush (p := 55) m_Mo_bigTenth rfl rfl rfl ?_
    refine s_irem (p := 56) m_Mo_bigTenth rfl rfl (by omega) (by omega) (by omega) (by omega) ?_
    refine fi_step (pc' := 57) m_Mo_bigTenth rfl rfl ?_
    refine s_iinc (p := 60) m_Mo_bigTenth rfl rfl rfl ?_
    refine fi_step (pc' := 11) m_Mo_bigTenth rfl rfl ?_
    refine ih (v % 10) _ w _ hw (by omega) (chP_trans hc (chP_up1 s _ (by omega) (by omega))) (by rw [up_ne _ (by decide)]; exact e2) (by rw [up_ne _ (by decide)]; exact e3) ?_ ?_ (by omega) (by omega) ?_
    · intro i hi; rw [up_same, up1_ne _ (by omega)]; exact hs i (by omega)
    · intro i h1 h2
      rw [up_same]
      by_cases e : i = t
      · subst e; rw [up1_same]; omega
      · rw [up1_ne _ (by omega)]; exact hd i (by omega) h2
    · rw [show n - t = (n - (t + 1)) + 1 by omega, dvB_low, dvB_low, up_same, up1_same, dvB_up_out (by omega)]
      rw [show 140 * k + ((t + 1 : Nat) : Int) = 140 * k + t + 1 by omega] at hinv
      rw [hinv, ← e4]
      omega
theorem c_bigTenth {k : Int} {w : ax_W} {s : mo_S} {r : Int → Int} (hfr : 1 ≤ fr) (hlo : 21 ≤ lo) (hw : RW w0 w s) (hB : Bg s r) (k0 : 0 ≤ k) (k1 : k < 277) :
    fin xs fr lo 176 0 (ax_ent [.ref 425, .int (jI k)] 5) [] w (Ret fun v w' => v = some (.int (jI (((r k).natAbs : Int) % 10))) ∧ ∃ s', RW w0 w' s' ∧ oth s s' ∧ Bg s' (up1 r k ((r k).tdiv 10))) := by
  obtain ⟨n, hk, sk, sk0, sk1⟩ := isN_abs (hB k k0 k1)
  have ⟨k2, k3, k4, k5, k6⟩ := hk
  refine fi_step (pc' := 1) m_Mo_bigTenth rfl rfl ?_
  refine fi_step (pc' := 2) m_Mo_bigTenth rfl rfl ?_
  refine fi_step (pc' := 3) m_Mo_bigTenth rfl rfl ?_
  refine r_get (p := 6) m_Mo_bigTenth rfl rfl (by assumption) rfl ?_
  refine fi_step (pc' := 7) m_Mo_bigTenth rfl rfl ?_
  refine r_ldI (p := 8) m_Mo_bigTenth rfl rfl (by assumption) (by decide) rfl (by decide) (by omega) (by omega) ?_
  refine fi_step (pc' := 9) m_Mo_bigTenth rfl rfl ?_
  refine s_isub (p := 10) m_Mo_bigTenth rfl rfl ?_
  refine fi_step (pc' := 11) m_Mo_bigTenth rfl rfl ?_
  rw [k2]
  refine fi_mono (bigTenth_loop hfr hlo k0 k1 hk n 0 _ w s hw (Nat.le_refl _) (chP_refl k s) rfl rfl (fun i hi => rfl) (fun i h1 h2 => by omega) (by decide) (by decide) (by rw [Nat.sub_self]; rfl)) ?_
  rintro o w' ⟨v, rfl, hv, s', n', g1, g2, g3, g4⟩
  refine ⟨v, rfl, hv, s', g1, chP_oth g2, Bg_ch hB g2 (isN_of g4 ?_ ?_)⟩
  · exact (tdiv_abs (r k) 10).symm
  · rw [g3]
    rcases sk with e | e
    · exact Or.inl ⟨e, Int.tdiv_nonneg (sk0 e) (by decide)⟩
    · refine Or.inr ⟨e, ?_⟩
      have := Int.tdiv_nonneg (show 0 ≤ -(r k) by have := sk1 e; omega) (show (0 : Int) ≤ 10 by decide)
      rw [Int.neg_tdiv] at this; omega
theorem bigValue_loop {k : Int} {n : Nat} {s : mo_S} {m : Int} {w : ax_W} (hw : RW w0 w s) (k0 : 0 ≤ k) (k1 : k < 277) (hk : Mag s k n m) (hm : m < 4611686018427387904) (h3 : s 3 k = 0 ∨ s 3 k = 1) :
    ∀ (t : Nat) (v : Int), t ≤ n → v = dvB 16777216 (s 1) (140 * k + t) (n - t) →
      fin xs fr lo 140 12 [some (.ref 425), some (.int (jI k)), some (.long (jL v)), none, some (.int (jI ((t : Int) - 1)))] [] w (Same (.long (jL (if s 3 k = 1 then -m else m))) w) := by
  have ⟨k2, k3, k4, k5, k6⟩ := hk
  intro t
  induction t with
  | zero =>
    intro v ht hv
    simp only [Nat.sub_zero, show ((0 : Nat) : Int) = 0 from rfl, Int.add_zero] at hv
    rw [← k6] at hv
    subst hv
    refine fi_step (pc' := 14) m_Mo_bigValue rfl rfl ?_
    refine s_if_lt (p := 17) m_Mo_bigValue rfl rfl (by omega) (by omega) (fun hbr => ?_) (fun hbr => False.elim (by omega))
    refine fi_step (pc' := 45) m_Mo_bigValue rfl rfl ?_
    refine r_get (p := 48) m_Mo_bigValue rfl rfl (by assumption) rfl ?_
    refine fi_step (pc' := 49) m_Mo_bigValue rfl rfl ?_
    refine r_ldB (p := 50) m_Mo_bigValue rfl rfl (by assumption) (by decide) rfl (by decide) (by omega) (by omega) ?_
    refine s_if_eq (p := 53) m_Mo_bigValue rfl rfl (by omega) (by omega) (fun h => ?_) (fun h => ?_)
    · rw [if_neg (by omega)]
      refine fi_step (pc' := 59) m_Mo_bigValue rfl rfl ?_
      exact s_retl m_Mo_bigValue rfl rfl (by omega)
    · rw [if_pos (by omega)]
      refine fi_step (pc' := 54) m_Mo_bigValue rfl rfl ?_
      refine s_lneg (p := 55) m_Mo_bigValue rfl rfl ?_
      refine fi_step (pc' := 59) m_Mo_bigValue rfl rfl ?_
      exact s_retl m_Mo_bigValue rfl rfl (by omega)
  | succ t ih =>
    intro v ht hv
    have d1 := k4 t (by omega)
    have e1 : v * 16777216 + s 1 (140 * k + t) = dvB 16777216 (s 1) (140 * k + t) (n - t) := by
      rw [show n - t = (n - (t + 1)) + 1 by omega, dvB_low, hv, show 140 * k + ((t + 1 : Nat) : Int) = 140 * k + t + 1 by omega]; omega
    have e2 : m = dvB 16777216 (s 1) (140 * k) t + 16777216 ^ t * dvB 16777216 (s 1) (140 * k + t) (n - t) := by
      rw [k6, ← dvB_split, show t + (n - t) = n by omega]
    have e3 : 0 ≤ dvB 16777216 (s 1) (140 * k) t := dvB_nonneg (by decide) (fun i hi => (k4 i (by omega)).1)
    have e4 : 0 ≤ dvB 16777216 (s 1) (140 * k + t) (n - t) := dvB_nonneg (by decide) (fun i hi => by
      have := (k4 (t + i) (by omega)).1; rwa [show 140 * k + ((t + i : Nat) : Int) = 140 * k + t + i by omega] at this)
    have e5 : 1 * dvB 16777216 (s 1) (140 * k + t) (n - t) ≤ 16777216 ^ t * dvB 16777216 (s 1) (140 * k + t) (n - t) := Int.mul_le_mul_of_nonneg_right (by have := powB_pos (B := 16777216) (by decide) t; omega) e4
    rw [show ((t + 1 : Nat) : Int) - 1 = (t : Int) by omega]
    refine fi_step (pc' := 14) m_Mo_bigValue rfl rfl ?_
    refine s_if_lt (p := 17) m_Mo_bigValue rfl rfl (by omega) (by omega) (fun hbr => False.elim (by omega)) (fun hbr => ?_)
    refine fi_step (pc' := 18) m_Mo_bigValue rfl rfl ?_
    refine s_ldc2 (p := 21) 16777216 m_Mo_bigValue rfl rfl rfl ?_
    refine s_lmul (p := 22) m_Mo_bigValue rfl rfl ?_
    refine fi_step (pc' := 23) m_Mo_bigValue rfl rfl ?_
    refine r_get (p := 26) m_Mo_bigValue rfl rfl (by assumption) rfl ?_
    refine s_sipush (p := 29) m_Mo_bigValue rfl rfl rfl ?_
    refine fi_step (pc' := 30) m_Mo_bigValue rfl rfl ?_
    refine s_imul (p := 31) m_Mo_bigValue rfl rfl ?_
    refine fi_step (pc' := 33) m_Mo_bigValue rfl rfl ?_
    refine s_iadd (p := 34) m_Mo_bigValue rfl rfl ?_
    refine r_ldI (p := 35) m_Mo_bigValue rfl rfl (by assumption) (by decide) rfl (by decide) (by omega) (by omega) ?_
    refine s_i2l (p := 36) m_Mo_bigValue rfl rfl (by omega) (by omega) ?_
    refine s_ladd (p := 37) m_Mo_bigValue rfl rfl ?_
    refine fi_step (pc' := 38) m_Mo_bigValue rfl rfl ?_
    refine s_iinc (p := 41) m_Mo_bigValue rfl rfl rfl ?_
    refine fi_step (pc' := 12) m_Mo_bigValue rfl rfl ?_
    exact ih _ (by omega) e1
theorem c_bigValue {k : Int} {w : ax_W} {s : mo_S} {r : Int → Int} (hw : RW w0 w s) (hB : Bg s r) (k0 : 0 ≤ k) (k1 : k < 277) (hm : ((r k).natAbs : Int) < 4611686018427387904) :
    fin xs fr lo 140 0 (ax_ent [.ref 425, .int (jI k)] 5) [] w (Same (.long (jL (r k))) w) := by
  obtain ⟨n, hk, sk, sk0, sk1⟩ := isN_abs (hB k k0 k1)
  have ⟨k2, k3, k4, k5, k6⟩ := hk
  refine s_lconst (p := 1) (v := 0) m_Mo_bigValue rfl rfl rfl ?_
  refine fi_step (pc' := 2) m_Mo_bigValue rfl rfl ?_
  refine fi_step (pc' := 3) m_Mo_bigValue rfl rfl ?_
  refine r_get (p := 6) m_Mo_bigValue rfl rfl (by assumption) rfl ?_
  refine fi_step (pc' := 7) m_Mo_bigValue rfl rfl ?_
  refine r_ldI (p := 8) m_Mo_bigValue rfl rfl (by assumption) (by decide) rfl (by decide) (by omega) (by omega) ?_
  refine fi_step (pc' := 9) m_Mo_bigValue rfl rfl ?_
  refine s_isub (p := 10) m_Mo_bigValue rfl rfl ?_
  refine fi_step (pc' := 12) m_Mo_bigValue rfl rfl ?_
  rw [k2]
  have := bigValue_loop (xs := xs) (fr := fr) (lo := lo) hw k0 k1 hk hm sk n 0 (Nat.le_refl _) (by rw [Nat.sub_self]; rfl)
  rw [show (if s 3 k = 1 then -((r k).natAbs : Int) else ((r k).natAbs : Int)) = r k by split <;> omega] at this
  exact this
theorem c_bigSign {k : Int} {w : ax_W} {s : mo_S} {r : Int → Int} (hw : RW w0 w s) (hB : Bg s r) (k0 : 0 ≤ k) (k1 : k < 277) :
    fin xs fr lo 174 0 (ax_ent [.ref 425, .int (jI k)] 2) [] w (Same (.int (jI (if r k = 0 then 0 else if r k < 0 then -1 else 1))) w) := by
  obtain ⟨n, hk, sk, sk0, sk1⟩ := isN_abs (hB k k0 k1)
  have ⟨k2, k3, k4, k5, k6⟩ := hk
  have hz := Mag_zero hk
  refine fi_step (pc' := 1) m_Mo_bigSign rfl rfl ?_
  refine r_get (p := 4) m_Mo_bigSign rfl rfl (by assumption) rfl ?_
  refine fi_step (pc' := 5) m_Mo_bigSign rfl rfl ?_
  refine r_ldI (p := 6) m_Mo_bigSign rfl rfl (by assumption) (by decide) rfl (by decide) (by omega) (by omega) ?_
  refine s_if_ne (p := 9) m_Mo_bigSign rfl rfl (by omega) (by omega) (fun h => ?_) (fun h => ?_)
  · have : r k ≠ 0 := fun e => by rw [e] at hz; simp at hz; omega
    rw [if_neg this]
    refine fi_step (pc' := 14) m_Mo_bigSign rfl rfl ?_
    refine r_get (p := 17) m_Mo_bigSign rfl rfl (by assumption) rfl ?_
    refine fi_step (pc' := 18) m_Mo_bigSign rfl rfl ?_
    refine r_ldB (p := 19) m_Mo_bigSign rfl rfl (by assumption) (by decide) rfl (by decide) (by omega) (by omega) ?_
    refine s_if_eq (p := 22) m_Mo_bigSign rfl rfl (by omega) (by omega) (fun g => ?_) (fun g => ?_)
    · have := sk0 g
      rw [if_neg (by omega)]
      refine fi_step (pc' := 27) m_Mo_bigSign rfl rfl ?_
      exact s_reti m_Mo_bigSign rfl rfl (by omega)
    · have := sk1 (by omega)
      rw [if_pos (by omega)]
      refine fi_step (pc' := 23) m_Mo_bigSign rfl rfl ?_
      refine fi_step (pc' := 27) m_Mo_bigSign rfl rfl ?_
      exact s_reti m_Mo_bigSign rfl rfl (by omega)
  · rw [if_pos (by omega)]
    refine fi_step (pc' := 10) m_Mo_bigSign rfl rfl ?_
    refine fi_step (pc' := 27) m_Mo_bigSign rfl rfl ?_
    exact s_reti m_Mo_bigSign rfl rfl (by omega)
theorem c_bigIsOne {k : Int} {w : ax_W} {s : mo_S} {r : Int → Int} (hw : RW w0 w s) (hB : Bg s r) (k0 : 0 ≤ k) (k1 : k < 277) :
    fin xs fr lo 180 0 (ax_ent [.ref 425, .int (jI k)] 2) [] w (Same (.int (jI (if (r k).natAbs = 1 then 1 else 0))) w) := by
  obtain ⟨n, hk, sk, sk0, sk1⟩ := isN_abs (hB k k0 k1)
  have ⟨k2, k3, k4, k5, k6⟩ := hk
  refine fi_step (pc' := 1) m_Mo_bigIsOne rfl rfl ?_
  refine r_get (p := 4) m_Mo_bigIsOne rfl rfl (by assumption) rfl ?_
  refine fi_step (pc' := 5) m_Mo_bigIsOne rfl rfl ?_
  refine r_ldI (p := 6) m_Mo_bigIsOne rfl rfl (by assumption) (by decide) rfl (by decide) (by omega) (by omega) ?_
  refine fi_step (pc' := 7) m_Mo_bigIsOne rfl rfl ?_
  refine s_ic_ne (p := 10) m_Mo_bigIsOne rfl rfl (by omega) (by omega) (by omega) (by omega) (fun h => ?_) (fun h => ?_)
  · have : ¬ (r k).natAbs = 1 := by
      intro e
      rcases Nat.lt_or_ge n 2 with h' | h'
      · have : n = 0 := by omega
        subst this; rw [dvB_zero] at k6; omega
      · obtain ⟨p, rfl⟩ : ∃ p, n = p + 1 := ⟨n - 1, by omega⟩
        have h1 := Mag_ge hk
        have h2 := pow_mono (B := 16777216) (by decide) (show 1 ≤ p by omega)
        rw [Int.pow_one] at h2; omega
    rw [if_neg this]
    refine fi_step (pc' := 29) m_Mo_bigIsOne rfl rfl ?_
    exact s_retb m_Mo_bigIsOne rfl rfl (by omega) (by first | exact Or.inl rfl | exact Or.inr rfl | omega)
  · have hn : n = 1 := by omega
    subst hn
    rw [dvB_succ, dvB_zero] at k6
    simp only [Int.pow_zero, Int.mul_one, Int.zero_add, show ((0 : Nat) : Int) = 0 from rfl, Int.add_zero] at k6
    have d0 := k4 0 (by decide)
    simp only [show ((0 : Nat) : Int) = 0 from rfl, Int.add_zero] at d0
    refine fi_step (pc' := 11) m_Mo_bigIsOne rfl rfl ?_
    refine r_get (p := 14) m_Mo_bigIsOne rfl rfl (by assumption) rfl ?_
    refine s_sipush (p := 17) m_Mo_bigIsOne rfl rfl rfl ?_
    refine fi_step (pc' := 18) m_Mo_bigIsOne rfl rfl ?_
    refine s_imul (p := 19) m_Mo_bigIsOne rfl rfl ?_
    refine r_ldI (p := 20) m_Mo_bigIsOne rfl rfl (by assumption) (by decide) rfl (by decide) (by omega) (by omega) ?_
    refine fi_step (pc' := 21) m_Mo_bigIsOne rfl rfl ?_
    refine s_ic_ne (p := 24) m_Mo_bigIsOne rfl rfl (by omega) (by omega) (by omega) (by omega) (fun g => ?_) (fun g => ?_)
    · rw [if_neg (by omega)]
      refine fi_step (pc' := 29) m_Mo_bigIsOne rfl rfl ?_
      exact s_retb m_Mo_bigIsOne rfl rfl (by omega) (by first | exact Or.inl rfl | exact Or.inr rfl | omega)
    · rw [if_pos (by omega)]
      refine fi_step (pc' := 25) m_Mo_bigIsOne rfl rfl ?_
      refine fi_step (pc' := 29) m_Mo_bigIsOne rfl rfl ?_
      exact s_retb m_Mo_bigIsOne rfl rfl (by omega) (by first | exact Or.inl rfl | exact Or.inr rfl | omega)
theorem c_isZ {k : Int} {w : ax_W} {s : mo_S} {r : Int → Int} (hw : RW w0 w s) (hB : Bg s r) (k0 : 0 ≤ k) (k1 : k < 277) :
    fin xs fr lo 151 0 (ax_ent [.ref 425, .int (jI k)] 2) [] w (Same (.int (jI (if r k = 0 then 1 else 0))) w) := by
  obtain ⟨n, hk, sk, sk0, sk1⟩ := isN_abs (hB k k0 k1)
  have ⟨k2, k3, k4, k5, k6⟩ := hk
  have hz := Mag_zero hk
  have := c_bigIsZero (xs := xs) (fr := fr) (lo := lo) hw k0 k1 (by omega) (by omega)
  rw [show (if s 2 k = 0 then (1 : Int) else 0) = (if r k = 0 then 1 else 0) by
    by_cases e : s 2 k = 0
    · rw [if_pos e, if_pos (by omega)]
    · rw [if_neg e, if_neg (by omega)]] at this
  exact this
theorem c_bigCmp {k u : Int} {w : ax_W} {s : mo_S} {r : Int → Int} (hfr : 1 ≤ fr) (hlo : 22 ≤ lo) (hw : RW w0 w s) (hB : Bg s r) (k0 : 0 ≤ k) (k1 : k < 277) (u0 : 0 ≤ u) (u1 : u < 277) :
    fin xs fr lo 137 0 (ax_ent [.ref 425, .int (jI k), .int (jI u)] 4) [] w (Same (.int (jI (if ((r k).natAbs : Int) < ((r u).natAbs : Int) then -1 else if ((r k).natAbs : Int) = ((r u).natAbs : Int) then 0 else 1))) w) := by
  obtain ⟨n, hk, _⟩ := isN_abs (hB k k0 k1)
  obtain ⟨n', hu, _⟩ := isN_abs (hB u u0 u1)
  exact c_bigSizes hfr hlo hw k0 k1 u0 u1 hk hu
end BIG8
