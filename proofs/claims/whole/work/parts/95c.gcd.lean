/-! THE CLASS: common divisors -/
theorem pow30 : ∀ k : Nat, (1000000000 : Int) ^ k ≤ 2 ^ (30 * k)
  | 0 => by decide
  | k + 1 => by
    have ih := pow30 k
    rw [Int.pow_succ, show 30 * (k + 1) = 30 * k + 30 by omega, Int.pow_add]
    have h0 : (0 : Int) ≤ 2 ^ (30 * k) := Int.le_of_lt (Int.pow_pos (by decide))
    have h1 : (1000000000 : Int) ^ k * 1000000000 ≤ 2 ^ (30 * k) * 1000000000 := Int.mul_le_mul_of_nonneg_right ih (by decide)
    have h2 : (2 : Int) ^ (30 * k) * 1000000000 ≤ 2 ^ (30 * k) * 2 ^ 30 := Int.mul_le_mul_of_nonneg_left (by decide) h0
    omega
theorem gcd_step (a b : Int) (ha : 0 ≤ a) (hb : 0 ≤ b) : Int.gcd b (a % b) = Int.gcd a b := by
  obtain ⟨m, rfl⟩ := Int.eq_ofNat_of_zero_le ha
  obtain ⟨n, rfl⟩ := Int.eq_ofNat_of_zero_le hb
  rw [← Int.natCast_emod]
  show Nat.gcd n (m % n) = Nat.gcd m n
  rw [Nat.gcd_comm n, ← Nat.gcd_rec, Nat.gcd_comm]
section GCD
variable {xs : List Int32} {fr lo : Nat} {w0 : ax_W} {L Z : Nat} {Q : Outcome → ax_W → Prop}
theorem cd_loop {c1 c2 kb : Nat} {v : Nat → Int} {g0 : Int} (hD0 : w0[18]? = some (1, [.ref 19, .ref 21, .ref 23, .ref 25, .ref 27])) (h1 : isWh c1) (h2 : isWh c2) (h12 : c1 ≠ c2) (x1 : 19 ≠ c1 ∧ 21 ≠ c1 ∧ 27 ≠ c1) (x2 : 19 ≠ c2 ∧ 21 ≠ c2 ∧ 27 ≠ c2) (v27 : v 27 = 1) (K1 : kb + 35 ≤ capB c1) (K2 : kb + 35 ≤ capB c2) (K3 : kb + 35 ≤ capB 19) (K4 : kb + 35 ≤ capB 21) (hfr : 5 ≤ fr) (hlo : 270 ≤ lo)
    (K : ∀ (w : ax_W) (G Ls : Nat) (u : Nat → Int) (s5 : Int) (y6 : Option Value), SN w0 w u L Z → ((G = c1 ∧ Ls = c2) ∨ (G = c2 ∧ Ls = c1)) → u G = g0 → (∀ j, j ≠ c1 → j ≠ c2 → j ≠ 19 → j ≠ 21 → u j = v j) → (u G).natAbs < 1000000000 ^ kb → fin xs fr lo 95 60 [some (.ref 18), some (.ref c1), some (.ref c2), some (.ref G), some (.ref Ls), some (.int (jI s5)), y6] [] w Q) :
    ∀ (k : Nat) (w : ax_W) (G Ls : Nat) (u : Nat → Int) (s5 : Int) (y6 : Option Value), SN w0 w u L Z → ((G = c1 ∧ Ls = c2) ∨ (G = c2 ∧ Ls = c1)) → 0 ≤ u G → 0 ≤ u Ls → u G < 1000000000 ^ kb → u Ls < 1000000000 ^ kb → u Ls < 2 ^ k → (Int.gcd (u G) (u Ls) : Int) = g0 → (∀ j, j ≠ c1 → j ≠ c2 → j ≠ 19 → j ≠ 21 → u j = v j) → 0 ≤ s5 → s5 + 2 * k + 2 ≤ 1000000 →
    fin xs fr lo 95 18 [some (.ref 18), some (.ref c1), some (.ref c2), some (.ref G), some (.ref Ls), some (.int (jI s5)), y6] [] w Q := by
  have i21 : isWh 21 := isWh_iff.mpr (by omega)
  have stop : ∀ (w : ax_W) (G Ls : Nat) (u : Nat → Int) (s5 : Int) (y6 : Option Value), SN w0 w u L Z → ((G = c1 ∧ Ls = c2) ∨ (G = c2 ∧ Ls = c1)) → 0 ≤ u G → u G < 1000000000 ^ kb → u Ls = 0 → (Int.gcd (u G) (u Ls) : Int) = g0 → (∀ j, j ≠ c1 → j ≠ c2 → j ≠ 19 → j ≠ 21 → u j = v j) → 0 ≤ s5 → s5 < 1000000 →
      fin xs fr lo 95 18 [some (.ref 18), some (.ref c1), some (.ref c2), some (.ref G), some (.ref Ls), some (.int (jI s5)), y6] [] w Q := by
    intro w G Ls u s5 y6 hS hor g0' gb hz hg ho s0 s1
    have hLs : isWh Ls := by rcases hor with ⟨_, rfl⟩ | ⟨_, rfl⟩ <;> assumption
    refine fi_step (pc' := 20) m_Di_commonDivisor rfl rfl ?_
    refine s_ldc (p := 22) 1000000 m_Di_commonDivisor rfl rfl rfl ?_
    refine s_ic_ge (p := 25) m_Di_commonDivisor rfl rfl (by omega) (by omega) (by omega) (by omega) (fun hbr => False.elim (by omega)) (fun hbr => ?_)
    refine fi_step (pc' := 27) m_Di_commonDivisor rfl rfl ?_
    refine c_1 (p := 30) m_Di_commonDivisor rfl inv_v (by decide) m_Wh_isZero rfl rfl (by omega) (by omega) (Nat.le_of_ble_eq_true rfl) (Nat.le_of_ble_eq_true rfl) (SN_rcv hS hLs _) (n_isZero hS hLs) ?_
    rw [if_pos hz]
    refine s_if_ne (p := 33) m_Di_commonDivisor rfl rfl (by omega) (by omega) (fun hbr => ?_) (fun hbr => False.elim (by omega))
    refine K w G Ls u s5 y6 hS hor ?_ ho (by have : ((u G).natAbs : Int) < ((1000000000 ^ kb : Nat) : Int) := by { rw [Int.natCast_pow]; show ((u G).natAbs : Int) < 1000000000 ^ kb; omega }
                                             exact Int.ofNat_lt.mp this)
    rw [hz, Int.gcd_zero_right] at hg
    omega
  have step : ∀ (w : ax_W) (G Ls : Nat) (u : Nat → Int) (s5 : Int) (y6 : Option Value), SN w0 w u L Z → ((G = c1 ∧ Ls = c2) ∨ (G = c2 ∧ Ls = c1)) → 0 ≤ u G → 0 < u Ls → u G < 1000000000 ^ kb → u Ls < 1000000000 ^ kb → (∀ j, j ≠ c1 → j ≠ c2 → j ≠ 19 → j ≠ 21 → u j = v j) → 0 ≤ s5 → s5 < 1000000 → (∀ (w : ax_W) (u' : Nat → Int) (y6 : Option Value), SN w0 w u' L Z → u' Ls = u Ls → u' G = u G % u Ls → (∀ j, j ≠ c1 → j ≠ c2 → j ≠ 19 → j ≠ 21 → u' j = v j) → fin xs fr lo 95 18 [some (.ref 18), some (.ref c1), some (.ref c2), some (.ref Ls), some (.ref G), some (.int (jI (s5 + 1))), y6] [] w Q) →
      fin xs fr lo 95 18 [some (.ref 18), some (.ref c1), some (.ref c2), some (.ref G), some (.ref Ls), some (.int (jI s5)), y6] [] w Q := by
    intro w G Ls u s5 y6 hS hor g0' l0 gb lb ho s0 s1 kk
    have fG : isWh G ∧ 19 ≠ G ∧ 21 ≠ G ∧ 27 ≠ G ∧ kb + 35 ≤ capB G := by rcases hor with ⟨rfl, _⟩ | ⟨rfl, _⟩ <;> simp_all
    have fL : isWh Ls ∧ 19 ≠ Ls ∧ 21 ≠ Ls ∧ 27 ≠ Ls ∧ Ls ≠ G := by
      rcases hor with ⟨rfl, rfl⟩ | ⟨rfl, rfl⟩
      · exact ⟨h2, x2.1, x2.2.1, x2.2.2, fun e => h12 e.symm⟩
      · exact ⟨h1, x1.1, x1.2.1, x1.2.2, h12⟩
    have hD := SN_const hS hD0 no18.1 no18.2
    have u27 : u 27 = 1 := by rw [ho 27 x1.2.2 x2.2.2 (by decide) (by decide)]; exact v27
    refine fi_step (pc' := 20) m_Di_commonDivisor rfl rfl ?_
    refine s_ldc (p := 22) 1000000 m_Di_commonDivisor rfl rfl rfl ?_
    refine s_ic_ge (p := 25) m_Di_commonDivisor rfl rfl (by omega) (by omega) (by omega) (by omega) (fun hbr => False.elim (by omega)) (fun hbr => ?_)
    refine fi_step (pc' := 27) m_Di_commonDivisor rfl rfl ?_
    refine c_1 (p := 30) m_Di_commonDivisor rfl inv_v (by decide) m_Wh_isZero rfl rfl (by omega) (by omega) (Nat.le_of_ble_eq_true rfl) (Nat.le_of_ble_eq_true rfl) (SN_rcv hS fL.1 _) (n_isZero hS fL.1) ?_
    rw [if_neg (by omega)]
    refine s_if_ne (p := 33) m_Di_commonDivisor rfl rfl (by omega) (by omega) (fun hbr => False.elim (by omega)) (fun hbr => ?_)
    refine fi_step (pc' := 34) m_Di_commonDivisor rfl rfl ?_
    refine fi_step (pc' := 35) m_Di_commonDivisor rfl rfl ?_
    refine fi_step (pc' := 37) m_Di_commonDivisor rfl rfl ?_
    refine fi_step (pc' := 38) m_Di_commonDivisor rfl rfl ?_
    refine k_get (p := 41) m_Di_commonDivisor rfl rfl (by assumption) rfl ?_
    refine g_4 (p := 44) m_Di_commonDivisor rfl inv_v (by decide) m_Di_divide rfl rfl (by omega) (by omega) (Nat.le_of_ble_eq_true rfl) (Nat.le_of_ble_eq_true rfl) (rcv18 hD _) (n_divide (kb := kb) hD0 hS fG.1 fL.1 i21 fL.2.2.2.2 fG.2.2.1 fL.2.2.1 fG.2.1 fL.2.1 (by decide) fG.2.2.2.1 (by decide) u27 l0 (by omega) lb fG.2.2.2.2 (by omega) (by omega) (by omega) (by omega)) (fun v w hP => ?_)
    obtain ⟨rfl, x, h3⟩ := hP
    refine fi_step (pc' := 45) m_Di_commonDivisor rfl rfl ?_
    refine fi_step (pc' := 47) m_Di_commonDivisor rfl rfl ?_
    refine fi_step (pc' := 49) m_Di_commonDivisor rfl rfl ?_
    refine fi_step (pc' := 50) m_Di_commonDivisor rfl rfl ?_
    refine fi_step (pc' := 52) m_Di_commonDivisor rfl rfl ?_
    refine fi_step (pc' := 54) m_Di_commonDivisor rfl rfl ?_
    refine s_iinc (p := 57) m_Di_commonDivisor rfl rfl rfl ?_
    refine fi_step (pc' := 18) m_Di_commonDivisor rfl rfl ?_
    refine kk w _ _ h3 ?_ ?_ (fun j j1 j2 j9 j21 => ?_)
    · rw [upv_ne _ (fun e => fL.2.2.1 e.symm), upv_ne _ fL.2.2.2.2, upv_ne _ (fun e => fL.2.1 e.symm)]
    · rw [upv_ne _ (fun e => fG.2.2.1 e.symm), upv_same]
    · have jG : j ≠ G := by rcases hor with ⟨rfl, _⟩ | ⟨rfl, _⟩ <;> assumption
      rw [upv_ne _ j21, upv_ne _ jG, upv_ne _ j9]; exact ho j j1 j2 j9 j21
  intro k
  induction k with
  | zero =>
    intro w G Ls u s5 y6 hS hor g0' l0 gb lb l2 hg ho s0 s1
    rw [Int.pow_zero] at l2
    exact stop w G Ls u s5 y6 hS hor g0' gb (by omega) hg ho s0 (by omega)
  | succ k ih =>
    intro w G Ls u s5 y6 hS hor g0' l0 gb lb l2 hg ho s0 s1
    have hor' : (Ls = c1 ∧ G = c2) ∨ (Ls = c2 ∧ G = c1) := by rcases hor with ⟨a, b⟩ | ⟨a, b⟩ <;> omega
    by_cases hz : u Ls = 0
    · exact stop w G Ls u s5 y6 hS hor g0' gb hz hg ho s0 (by omega)
    · refine step w G Ls u s5 y6 hS hor g0' (by omega) gb lb ho s0 (by omega) (fun w u' y6 hS' uL uG ho' => ?_)
      have r0 := Int.emod_nonneg (u G) hz
      have r1 := Int.emod_lt_of_pos (u G) (show 0 < u Ls by omega)
      have hg' : (Int.gcd (u' Ls) (u' G) : Int) = g0 := by rw [uL, uG, gcd_step _ _ g0' l0]; exact hg
      by_cases hz' : u G % u Ls = 0
      · exact stop w Ls G u' (s5 + 1) y6 hS' hor' (by omega) (by omega) (by omega) hg' ho' (by omega) (by omega)
      · refine step w Ls G u' (s5 + 1) y6 hS' hor' (by omega) (by omega) (by omega) (by omega) ho' (by omega) (by omega) (fun w u2 y6 hS2 uG2 uL2 ho2 => ?_)
        rw [uG] at uG2 uL2
        rw [uL] at uL2
        have m0 := Int.emod_nonneg (u Ls) hz'
        have m1 := Int.emod_lt_of_pos (u Ls) (show 0 < u G % u Ls by omega)
        have hle : u Ls % (u G % u Ls) + (u G % u Ls) ≤ u Ls := by
          have e := Int.emod_add_mul_ediv (u Ls) (u G % u Ls)
          have q1 : 1 ≤ u Ls / (u G % u Ls) := Int.le_ediv_of_mul_le (by omega) (by omega)
          have : (u G % u Ls) * 1 ≤ (u G % u Ls) * (u Ls / (u G % u Ls)) := Int.mul_le_mul_of_nonneg_left q1 (by omega)
          omega
        have hp : (2 : Int) ^ (k + 1) = 2 ^ k * 2 := Int.pow_succ ..
        exact ih w G Ls u2 (s5 + 1 + 1) y6 hS2 hor (by omega) (by omega) (by omega) (by omega) (by omega) (by rw [uG2, uL2, gcd_step _ _ l0 r0, ← hg', uL, uG]) ho2 (by omega) (by omega)
end GCD
