/-! THE CLASS: minors, rows taken in -/
/-- numbers of the minors: g, of size at most E, which has e digits -/
def NG (v : Nat → Int) (g : Int → Int) (R C : Nat) (E : Int) (e : Nat) : Prop := (∀ i j : Nat, i < R → j < C → v (31 + 2 * (6 * i + j)) = g (12 * i + j) ∧ ((g (12 * i + j)).natAbs : Int) ≤ E) ∧ 0 ≤ E ∧ E < 1000000000 ^ e ∧ e ≤ 36
theorem NG_keep {v v' : Nat → Int} {g : Int → Int} {R C : Nat} {E : Int} {e : Nat} (h : NG v g R C E e) (hR : R ≤ 6) (hC : C ≤ 6) (hv : ∀ c, c < 104 → v' c = v c) : NG v' g R C E e := ⟨fun i j hi hj => by rw [hv _ (by omega)]; exact h.1 i j hi hj, h.2⟩
section MI2
variable {xs : List Int32} {fr lo : Nat} {w0 w : ax_W} {s : mo_S} {v : Nat → Int} {L Z : Nat}
theorem tk_in {r z C e R : Nat} {x within E : Int} {g : Int → Int} {ys : List Int} {v0 : Nat → Int} {Q : Outcome → ax_W → Prop} (hfr : 4 ≤ fr) (hlo : 250 ≤ lo) (h2 : s 0 2 = C) (hC6 : C ≤ 6) (hR6 : R ≤ 6) (hr : r < R) (x0 : 0 ≤ x) (x1 : x < 2 ^ C) (hz : (els 6 x).length = z + 1) (hN : NG v0 g R C E e)
    (hyl : ys.length = z) (hyR : ∀ i, i ∈ ys → 0 ≤ i ∧ i < R)
    (hy : ∀ y, 0 ≤ y → y < 64 → subE y within → (els 6 y).length = z → v0 (104 + 2 * y.toNat) = dY g ys y) (hsub : subE x within)
    (K : ∀ w v y5 y6 y7, CW w0 w s v L Z → v (104 + 2 * x.toNat) = dY g (r :: ys) x → (∀ c, c ≠ 104 + 2 * x.toNat → v c = v0 c) → fin xs fr lo 51 125 [some (.ref 29), some (.int (jI (r : Int))), some (.int (jI ((z + 1 : Nat) : Int))), some (.int (jI within)), some (.int (jI x)), y5, y6, y7] [] w Q) :
    ∀ (c t : Nat) (w : ax_W) (v : Nat → Int) (y7 : Option Value), t + c = C → CW w0 w s v L Z → v (104 + 2 * x.toNat) = - (sg ((els t x).length + z) * asum (fun j => g (12 * r + j) * dY g ys (x - 2 ^ j.toNat)) (els t x)) → (∀ c, c ≠ 104 + 2 * x.toNat → v c = v0 c) →
    fin xs fr lo 51 57 [some (.ref 29), some (.int (jI (r : Int))), some (.int (jI ((z + 1 : Nat) : Int))), some (.int (jI within)), some (.int (jI x)), some (.int (jI (sg ((els t x).length + z)))), some (.int (jI (t : Int))), y7] [] w Q := by
  have h64 := S_pow hC6
  have hz6 := els_len x 6
  obtain ⟨hE1, E0, hEe, he⟩ := hN
  have hb : ∀ i j : Int, 0 ≤ i → i < R → 0 ≤ j → j < C → ((g (12 * i + j)).natAbs : Int) ≤ E := by
    intro i j i0 i1 j0 j1
    obtain ⟨i, rfl⟩ := Int.eq_ofNat_of_zero_le i0
    obtain ⟨j, rfl⟩ := Int.eq_ofNat_of_zero_le j0
    exact (hE1 i j (by omega) (by omega)).2
  have hG : ∀ t : Nat, t < C → x / 2 ^ t % 2 = 1 → (els 6 (x - 2 ^ t)).length = z ∧ 0 ≤ x - 2 ^ t ∧ x - 2 ^ t < x ∧ v0 (104 + 2 * (x - 2 ^ t).toNat) = dY g ys (x - 2 ^ t) ∧ ((dY g ys (x - 2 ^ t)).natAbs : Int) ≤ fac z * E ^ z := by
    intro t ht hb'
    have h1 := S_er x0 (by omega) (show t < 6 by omega) hb'
    have h3 := S_pow (show t ≤ 6 by omega)
    have h4 : (els 6 (x - 2 ^ t)).length = z := by rw [h1.1, List.length_erase_of_mem h1.2.2]; omega
    refine ⟨h4, by omega, by omega, hy _ (by omega) (by omega) (fun k hk => hsub k (by rw [h1.1] at hk; exact List.mem_of_mem_erase hk)) h4, ?_⟩
    have := dY_bound (g := g) (ys := ys) (x := x - 2 ^ t) E0 (by omega) (fun i hi j hj => by
      have a1 := hyR i hi
      rw [h1.1, ← S_cut x0 hC6 x1] at hj
      have a2 := els_mem (List.mem_of_mem_erase hj)
      exact hb i j a1.1 a1.2 a2.1 a2.2)
    rw [hyl] at this
    exact this
  have hterm : ∀ j, j ∈ els C x → (((g (12 * r + j) * dY g ys (x - 2 ^ j.toNat)).natAbs : Nat) : Int) ≤ E * (fac z * E ^ z) := by
    intro j hj
    have hm := els_mem hj
    obtain ⟨t, rfl⟩ := Int.eq_ofNat_of_zero_le hm.1
    have h1 := hG t (by omega) (bit_mem C hj)
    rw [Int.toNat_natCast]
    exact mul_size (hb r t (by omega) (by omega) (by omega) hm.2) h1.2.2.2.2
  have hK : ((z + 1 : Nat) : Int) * (E * (fac z * E ^ z)) = fac (z + 1) * E ^ (z + 1) := by
    rw [fac, Int.natCast_add]; grind
  have hq := fac_dig (c := z + 1) E0 hEe (by omega)
  have hq0 := fac_dig (c := z) E0 hEe (by omega)
  have hpp : 0 ≤ E * (fac z * E ^ z) := Int.mul_nonneg E0 (Int.mul_nonneg (fac_nn z) (Int.pow_nonneg E0))
  have hez : e * z ≤ 36 * z := Nat.mul_le_mul_right _ he
  have hez1 : e * (z + 1) = e * z + e := Nat.mul_succ e z
  intro c
  induction c with
  | zero =>
    intro t w v y7 ht hC hv hr'
    obtain rfl : t = C := by omega
    refine fi_step (pc' := 59) m_Mi_takeRow rfl rfl ?_
    refine fi_step (pc' := 60) m_Mi_takeRow rfl rfl ?_
    refine k_get (p := 63) m_Mi_takeRow rfl rfl (by first | exact C_print hC | exact C_minors hC | exact C_stairs hC | exact (CW_cst hC).2.1 | exact C_mat hC (by omega) | assumption) rfl ?_
    refine s_ic_ge (p := 66) m_Mi_takeRow rfl rfl (by omega) (by omega) (by omega) (by omega) (fun hbr => ?_) (fun hbr => False.elim (by omega))
    refine K w v _ _ _ hC ?_ hr'
    rw [hv, dY_cons x0 (by omega), S_cut x0 hC6 x1, hz, sg_odd (by omega)]
    omega
  | succ c ih =>
    intro t w v y7 ht hC hv hr'
    have hlt := els_len x t
    have hsg : sg ((els t x).length + z) = 1 ∨ sg ((els t x).length + z) = -1 := by unfold sg; split <;> omega
    refine fi_step (pc' := 59) m_Mi_takeRow rfl rfl ?_
    refine fi_step (pc' := 60) m_Mi_takeRow rfl rfl ?_
    refine k_get (p := 63) m_Mi_takeRow rfl rfl (by first | exact C_print hC | exact C_minors hC | exact C_stairs hC | exact (CW_cst hC).2.1 | exact C_mat hC (by omega) | assumption) rfl ?_
    refine s_ic_ge (p := 66) m_Mi_takeRow rfl rfl (by omega) (by omega) (by omega) (by omega) (fun hbr => False.elim (by omega)) (fun hbr => ?_)
    refine fi_step (pc' := 67) m_Mi_takeRow rfl rfl ?_
    refine fi_step (pc' := 69) m_Mi_takeRow rfl rfl ?_
    refine b_ishl (p := 70) m_Mi_takeRow rfl rfl (by omega) (by omega) ?_
    rw [Int.toNat_natCast]
    refine fi_step (pc' := 72) m_Mi_takeRow rfl rfl ?_
    refine fi_step (pc' := 74) m_Mi_takeRow rfl rfl ?_
    refine fi_step (pc' := 76) m_Mi_takeRow rfl rfl ?_
    refine b_andb (p := 77) m_Mi_takeRow rfl rfl x0 (by omega) (show t < 6 by omega) ?_
    have h3 := S_pow (show t ≤ 6 by omega)
    by_cases h : x / 2 ^ t % 2 = 1
    · rw [if_pos h]
      have e' : els (t + 1) x = (t : Int) :: els t x := by rw [els, if_pos h]
      have h1 := hG t (by omega) h
      have hmem : (t : Int) ∈ els C x := els_sub (show t + 1 ≤ C by omega) _ (by rw [e']; exact List.mem_cons_self ..)
      have acc : ((v (104 + 2 * x.toNat)).natAbs : Int) ≤ fac (z + 1) * E ^ (z + 1) := by
        have b1 := asum_bound (f := fun j => g (12 * r + j) * dY g ys (x - 2 ^ j.toNat)) (c := E * (fac z * E ^ z)) (xs := els t x) (fun j hj => hterm j (els_sub (show t ≤ C by omega) _ hj))
        have b3 := els_le (x := x) (show t ≤ 6 by omega)
        have b2 : ((els t x).length : Int) * (E * (fac z * E ^ z)) ≤ ((z + 1 : Nat) : Int) * (E * (fac z * E ^ z)) := Int.mul_le_mul_of_nonneg_right (by omega) hpp
        rw [hv, ← hK]
        rcases hsg with e1 | e1
        · rw [e1, Int.one_mul]; omega
        · rw [e1, Int.neg_one_mul]; omega
      have n1 : v (31 + 2 * (6 * r + t)) = g (12 * r + t) := by rw [hr' _ (by omega)]; exact (hE1 r t hr (by omega)).1
      have n2 : v (104 + 2 * (x - 2 ^ t).toNat) = dY g ys (x - 2 ^ t) := by rw [hr' _ (by omega)]; exact h1.2.2.2.1
      have n3 : ((g (12 * r + t)).natAbs : Int) ≤ E := (hE1 r t hr (by omega)).2
      refine s_if_eq (p := 80) m_Mi_takeRow rfl rfl (by omega) (by omega) (fun hbr => False.elim (by omega)) (fun hbr => ?_)
      refine fi_step (pc' := 81) m_Mi_takeRow rfl rfl ?_
      refine k_get (p := 84) m_Mi_takeRow rfl rfl (by first | exact C_print hC | exact C_minors hC | exact C_stairs hC | exact (CW_cst hC).2.1 | exact C_mat hC (by omega) | assumption) rfl ?_
      refine fi_step (pc' := 86) m_Mi_takeRow rfl rfl ?_
      refine i_ldM (p := 87) m_Mi_takeRow rfl rfl hC x0 (by omega) ?_
      refine fi_step (pc' := 88) m_Mi_takeRow rfl rfl ?_
      refine k_get (p := 91) m_Mi_takeRow rfl rfl (by first | exact C_print hC | exact C_minors hC | exact C_stairs hC | exact (CW_cst hC).2.1 | exact C_mat hC (by omega) | assumption) rfl ?_
      refine fi_step (pc' := 92) m_Mi_takeRow rfl rfl ?_
      refine s_bipush (p := 94) m_Mi_takeRow rfl rfl rfl ?_
      refine s_imul (p := 95) m_Mi_takeRow rfl rfl ?_
      refine fi_step (pc' := 97) m_Mi_takeRow rfl rfl ?_
      refine s_iadd (p := 98) m_Mi_takeRow rfl rfl ?_
      refine i_ldN (p := 99) m_Mi_takeRow rfl rfl hC (by omega) (by omega) ?_
      rw [show ((r : Int) * 6 + t).toNat = 6 * r + t by omega]
      refine fi_step (pc' := 100) m_Mi_takeRow rfl rfl ?_
      refine k_get (p := 103) m_Mi_takeRow rfl rfl (by first | exact C_print hC | exact C_minors hC | exact C_stairs hC | exact (CW_cst hC).2.1 | exact C_mat hC (by omega) | assumption) rfl ?_
      refine fi_step (pc' := 105) m_Mi_takeRow rfl rfl ?_
      refine fi_step (pc' := 107) m_Mi_takeRow rfl rfl ?_
      refine b_xorb (p := 108) m_Mi_takeRow rfl rfl x0 (by omega) (show t < 6 by omega) h ?_
      refine i_ldM (p := 109) m_Mi_takeRow rfl rfl hC (by omega) (by omega) ?_
      refine fi_step (pc' := 111) m_Mi_takeRow rfl rfl ?_
      have iA : isWh (104 + 2 * x.toNat) := i_min (by omega)
      refine g_4 (p := 114) m_Mi_takeRow rfl inv_v (by decide) m_Wh_addProduct rfl rfl (by omega) (by omega) (Nat.le_of_ble_eq_true rfl) (Nat.le_of_ble_eq_true rfl) (C_rcvW hC (by first | assumption | exact rfl) _) (cn_addProduct (k0 := e * (z + 1) + 1) (k1 := e) (k2 := e * z + 1) hC iA (i_num (k := 6 * r + t) (by omega)) (i_min (by omega)) (by omega) (by omega) hsg (by omega) (by rw [n1]; omega) (by rw [n2]; omega) (by rw [cap_min (by omega)]; omega) (by rw [cap_min (by omega)]; omega) (by omega) (by omega)) (fun v w hP => ?_)
      obtain ⟨rfl, hC⟩ := hP
      rw [n1, n2, hv] at hC
      refine fi_step (pc' := 116) m_Mi_takeRow rfl rfl ?_
      refine s_ineg (p := 117) m_Mi_takeRow rfl rfl ?_
      refine fi_step (pc' := 119) m_Mi_takeRow rfl rfl ?_
      refine s_iinc (p := 122) m_Mi_takeRow rfl rfl rfl ?_
      refine fi_step (pc' := 57) m_Mi_takeRow rfl rfl ?_
      have hih := ih (t + 1) w _ (some (.int (jI (2 ^ t)))) (by omega) hC (by
        rw [upv_same, e', List.length_cons, asum, Int.toNat_natCast, show (els t x).length + 1 + z = ((els t x).length + z) + 1 by omega, sg_succ]
        generalize asum _ (els t x) = A
        generalize g (12 * (r : Int) + t) * dY g ys (x - 2 ^ t) = T
        rcases hsg with e1 | e1 <;> rw [e1] <;> omega) (fun q hq' => by rw [upv_ne _ hq', hr' q hq'])
      rw [e', List.length_cons, show (els t x).length + 1 + z = ((els t x).length + z) + 1 by omega, sg_succ] at hih
      exact hih
    · rw [if_neg h]
      have e' : els (t + 1) x = els t x := by rw [els, if_neg h]
      refine s_if_eq (p := 80) m_Mi_takeRow rfl rfl (by omega) (by omega) (fun hbr => ?_) (fun hbr => False.elim (by omega))
      refine s_iinc (p := 122) m_Mi_takeRow rfl rfl rfl ?_
      refine fi_step (pc' := 57) m_Mi_takeRow rfl rfl ?_
      have hih := ih (t + 1) w v (some (.int (jI (2 ^ t)))) (by omega) hC (by rw [e']; exact hv) hr'
      rw [e'] at hih
      exact hih
theorem tk_out {r z C e R : Nat} {within E : Int} {g : Int → Int} {ys : List Int} {v0 : Nat → Int} (hfr : 4 ≤ fr) (hlo : 250 ≤ lo) (h2 : s 0 2 = C) (hC6 : C ≤ 6) (hR6 : R ≤ 6) (hr : r < R) (W0 : 0 ≤ within) (W1 : within < 2 ^ C) (hN : NG v0 g R C E e) (hz6 : z + 1 ≤ 6)
    (hyl : ys.length = z) (hyR : ∀ i, i ∈ ys → 0 ≤ i ∧ i < R)
    (hy : ∀ y, 0 ≤ y → y < 64 → subE y within → (els 6 y).length = z → v0 (104 + 2 * y.toNat) = dY g ys y) :
    ∀ (n : Nat) (x : Int) (w : ax_W) (v : Nat → Int) (y5 y6 y7 : Option Value), x + n = within + 1 → 1 ≤ x → CW w0 w s v L Z → (∀ y, 0 ≤ y → y < x → subE y within → (els 6 y).length = z + 1 → v (104 + 2 * y.toNat) = dY g (r :: ys) y) → (∀ c, (∀ y, 0 ≤ y → y < x → (els 6 y).length = z + 1 → c ≠ 104 + 2 * y.toNat) → v c = v0 c) →
    fin xs fr lo 51 3 [some (.ref 29), some (.int (jI (r : Int))), some (.int (jI ((z + 1 : Nat) : Int))), some (.int (jI within)), some (.int (jI x)), y5, y6, y7] [] w (Ret fun u w' => u = none ∧ ∃ v', CW w0 w' s v' L Z ∧ (∀ y, 0 ≤ y → y ≤ within → subE y within → (els 6 y).length = z + 1 → v' (104 + 2 * y.toNat) = dY g (r :: ys) y) ∧ ∀ c, (∀ y, 0 ≤ y → y ≤ within → (els 6 y).length = z + 1 → c ≠ 104 + 2 * y.toNat) → v' c = v0 c) := by
  have h64 := S_pow hC6
  intro n
  induction n with
  | zero =>
    intro x w v y5 y6 y7 hn hx hC hd hr'
    refine fi_step (pc' := 5) m_Mi_takeRow rfl rfl ?_
    refine fi_step (pc' := 6) m_Mi_takeRow rfl rfl ?_
    refine s_ic_gt (p := 9) m_Mi_takeRow rfl rfl (by omega) (by omega) (by omega) (by omega) (fun hbr => ?_) (fun hbr => False.elim (by omega))
    refine p_ret m_Mi_takeRow rfl rfl ?_
    exact ⟨rfl, v, hC, fun y a b => hd y a (by omega), fun c hc => hr' c (fun y a b => hc y a (by omega))⟩
  | succ n ih =>
    intro x w v y5 y6 y7 hn hx hC hd hr'
    have hrange := Int32.le_toInt (jI x &&& jI (-1 - within))
    have hrange' := Int32.toInt_lt (jI x &&& jI (-1 - within))
    have hsub := andw_sub (x := x) (y := within) (by omega) (by omega) W0 (by omega)
    have skip : ¬ (subE x within ∧ (els 6 x).length = z + 1) → ∀ y5 y6 y7, fin xs fr lo 51 125 [some (.ref 29), some (.int (jI (r : Int))), some (.int (jI ((z + 1 : Nat) : Int))), some (.int (jI within)), some (.int (jI x)), y5, y6, y7] [] w (Ret fun u w' => u = none ∧ ∃ v', CW w0 w' s v' L Z ∧ (∀ y, 0 ≤ y → y ≤ within → subE y within → (els 6 y).length = z + 1 → v' (104 + 2 * y.toNat) = dY g (r :: ys) y) ∧ ∀ c, (∀ y, 0 ≤ y → y ≤ within → (els 6 y).length = z + 1 → c ≠ 104 + 2 * y.toNat) → v' c = v0 c) := by
      intro hno y5 y6 y7
      refine s_iinc (p := 128) m_Mi_takeRow rfl rfl rfl ?_
      refine fi_step (pc' := 3) m_Mi_takeRow rfl rfl ?_
      refine ih (x + 1) w v _ _ _ (by omega) (by omega) hC (fun y a b hs hl => ?_) (fun c hc => hr' c (fun y a b => hc y a (by omega)))
      by_cases e1 : y = x
      · subst e1; exact absurd ⟨hs, hl⟩ hno
      · exact hd y a (by omega) hs hl
    refine fi_step (pc' := 5) m_Mi_takeRow rfl rfl ?_
    refine fi_step (pc' := 6) m_Mi_takeRow rfl rfl ?_
    refine s_ic_gt (p := 9) m_Mi_takeRow rfl rfl (by omega) (by omega) (by omega) (by omega) (fun hbr => False.elim (by omega)) (fun hbr => ?_)
    refine fi_step (pc' := 11) m_Mi_takeRow rfl rfl ?_
    refine fi_step (pc' := 12) m_Mi_takeRow rfl rfl ?_
    refine fi_step (pc' := 13) m_Mi_takeRow rfl rfl ?_
    refine b_ixor (p := 14) m_Mi_takeRow rfl rfl (by omega) (by omega) ?_
    refine b_andw (p := 15) m_Mi_takeRow rfl rfl ?_
    by_cases h1 : subE x within
    · have h1' := hsub.mpr h1
      refine s_if_ne (p := 18) m_Mi_takeRow rfl rfl (by omega) (by omega) (fun hbr => False.elim (by omega)) (fun hbr => ?_)
      refine fi_step (pc' := 20) m_Mi_takeRow rfl rfl ?_
      refine c_1 (p := 23) m_Mi_takeRow rfl inv_s (by decide) m_In_bitCount rfl rfl (by omega) (by omega) (Nat.le_of_ble_eq_true rfl) (Nat.le_of_ble_eq_true rfl) rfl (in_bitCount (by omega) (by omega)) ?_
      refine fi_step (pc' := 24) m_Mi_takeRow rfl rfl ?_
      have hl6 := els_len x 6
      by_cases hl : (els 6 x).length = z + 1
      · refine s_ic_eq (p := 27) m_Mi_takeRow rfl rfl (by omega) (by omega) (by omega) (by omega) (fun hbr => ?_) (fun hbr => False.elim (by omega))
        refine fi_step (pc' := 31) m_Mi_takeRow rfl rfl ?_
        refine k_get (p := 34) m_Mi_takeRow rfl rfl (by first | exact C_print hC | exact C_minors hC | exact C_stairs hC | exact (CW_cst hC).2.1 | exact C_mat hC (by omega) | assumption) rfl ?_
        refine fi_step (pc' := 36) m_Mi_takeRow rfl rfl ?_
        refine i_ldM (p := 37) m_Mi_takeRow rfl rfl hC (by omega) (by omega) ?_
        have iA : isWh (104 + 2 * x.toNat) := i_min (by omega)
        refine g_1 (p := 40) m_Mi_takeRow rfl inv_v (by decide) m_Wh_clear rfl rfl (by omega) (by omega) (Nat.le_of_ble_eq_true rfl) (Nat.le_of_ble_eq_true rfl) (C_rcvW hC (by first | assumption | exact rfl) _) (cn_clear hC iA) (fun v w hP => ?_)
        obtain ⟨rfl, hC⟩ := hP
        have fin2 : ∀ sgn : Int, sgn = sg z → ∀ y6 y7, fin xs fr lo 51 54 [some (.ref 29), some (.int (jI (r : Int))), some (.int (jI ((z + 1 : Nat) : Int))), some (.int (jI within)), some (.int (jI x)), some (.int (jI sgn)), y6, y7] [] w (Ret fun u w' => u = none ∧ ∃ v', CW w0 w' s v' L Z ∧ (∀ y, 0 ≤ y → y ≤ within → subE y within → (els 6 y).length = z + 1 → v' (104 + 2 * y.toNat) = dY g (r :: ys) y) ∧ ∀ c, (∀ y, 0 ≤ y → y ≤ within → (els 6 y).length = z + 1 → c ≠ 104 + 2 * y.toNat) → v' c = v0 c) := by
          intro sgn hsgn y6 y7
          subst hsgn
          refine fi_step (pc' := 55) m_Mi_takeRow rfl rfl ?_
          refine fi_step (pc' := 57) m_Mi_takeRow rfl rfl ?_
          have hcell : ∀ c : Nat, c < 104 → v c = v0 c := fun c hc => hr' c (fun y a b _ => by omega)
          have hN' : NG (upv v (104 + 2 * x.toNat) 0) g R C E e := NG_keep hN hR6 hC6 (fun c hc => by rw [upv_ne _ (by omega), hcell c hc])
          have hlow : ∀ y, 0 ≤ y → y < 64 → (els 6 y).length = z → upv v (104 + 2 * x.toNat) 0 (104 + 2 * y.toNat) = v0 (104 + 2 * y.toNat) := by
            intro y a b hl'
            have hne : ∀ y', 0 ≤ y' → (els 6 y').length = z + 1 → y ≠ y' := fun y' _ h' e1 => by rw [e1] at hl'; omega
            have := hne x (by omega) hl
            rw [upv_ne _ (by omega)]
            exact hr' _ (fun y' a' b' h' => by have := hne y' a' h'; omega)
          have := tk_in (xs := xs) (fr := fr) (lo := lo) (w0 := w0) (s := s) (L := L) (Z := Z) (v0 := upv v (104 + 2 * x.toNat) 0) (Q := (Ret fun u w' => u = none ∧ ∃ v', CW w0 w' s v' L Z ∧ (∀ y, 0 ≤ y → y ≤ within → subE y within → (els 6 y).length = z + 1 → v' (104 + 2 * y.toNat) = dY g (r :: ys) y) ∧ ∀ c, (∀ y, 0 ≤ y → y ≤ within → (els 6 y).length = z + 1 → c ≠ 104 + 2 * y.toNat) → v' c = v0 c)) (x := x) (within := within) hfr hlo h2 hC6 hR6 hr (by omega) (by omega) hl hN' hyl hyR (fun y a b hs hl' => by rw [hlow y a b hl']; exact hy y a b hs hl') h1 (fun w v1 y5 y6 y7 hC hval hrest => ?_) C 0 w _ y7 (by omega) hC (by rw [upv_same]; simp [els, asum]) (fun _ _ => rfl)
          · have e0 : (els 0 x).length + z = z := Nat.zero_add z
            rw [e0] at this
            exact this
          · refine s_iinc (p := 128) m_Mi_takeRow rfl rfl rfl ?_
            refine fi_step (pc' := 3) m_Mi_takeRow rfl rfl ?_
            refine ih (x + 1) w v1 _ _ _ (by omega) (by omega) hC (fun y a b hs hl' => ?_) (fun c hc => ?_)
            · by_cases e1 : y = x
              · subst e1; exact hval
              · rw [hrest _ (by omega), upv_ne _ (by omega)]; exact hd y a (by omega) hs hl'
            · have := hc x (by omega) (by omega) hl
              rw [hrest c this, upv_ne _ this]
              exact hr' c (fun y a b => hc y a (by omega))
        by_cases hpar : (z + 1) % 2 = 1
        · refine fi_step (pc' := 41) m_Mi_takeRow rfl rfl ?_
          refine fi_step (pc' := 42) m_Mi_takeRow rfl rfl ?_
          refine s_irem (p := 43) m_Mi_takeRow rfl rfl (by omega) (by omega) (by omega) (by omega) ?_
          refine fi_step (pc' := 44) m_Mi_takeRow rfl rfl ?_
          refine s_ic_ne (p := 47) m_Mi_takeRow rfl rfl (by omega) (by omega) (by omega) (by omega) (fun hbr => False.elim (by omega)) (fun hbr => ?_)
          refine fi_step (pc' := 48) m_Mi_takeRow rfl rfl ?_
          refine fi_step (pc' := 52) m_Mi_takeRow rfl rfl ?_
          refine fi_step (pc' := 54) m_Mi_takeRow rfl rfl ?_
          exact fin2 1 (by rw [sg_even (by omega)]) _ _
        · refine fi_step (pc' := 41) m_Mi_takeRow rfl rfl ?_
          refine fi_step (pc' := 42) m_Mi_takeRow rfl rfl ?_
          refine s_irem (p := 43) m_Mi_takeRow rfl rfl (by omega) (by omega) (by omega) (by omega) ?_
          refine fi_step (pc' := 44) m_Mi_takeRow rfl rfl ?_
          refine s_ic_ne (p := 47) m_Mi_takeRow rfl rfl (by omega) (by omega) (by omega) (by omega) (fun hbr => ?_) (fun hbr => False.elim (by omega))
          refine fi_step (pc' := 52) m_Mi_takeRow rfl rfl ?_
          refine fi_step (pc' := 54) m_Mi_takeRow rfl rfl ?_
          exact fin2 (-1) (by rw [sg_odd (by omega)]) _ _
      · refine s_ic_eq (p := 27) m_Mi_takeRow rfl rfl (by omega) (by omega) (by omega) (by omega) (fun hbr => False.elim (by omega)) (fun hbr => ?_)
        refine fi_step (pc' := 125) m_Mi_takeRow rfl rfl ?_
        exact skip (fun h => hl h.2) _ _ _
    · have h1' : (jI x &&& jI (-1 - within)).toInt ≠ 0 := fun h => h1 (hsub.mp h)
      refine s_if_ne (p := 18) m_Mi_takeRow rfl rfl (by omega) (by omega) (fun hbr => ?_) (fun hbr => False.elim (by omega))
      exact skip (fun h => h1 h.1) _ _ _
theorem mi_takeRow {r z C e R : Nat} {within E : Int} {g : Int → Int} {ys : List Int} (hC : CW w0 w s v L Z) (hfr : 4 ≤ fr) (hlo : 250 ≤ lo) (h2 : s 0 2 = C) (hC6 : C ≤ 6) (hR6 : R ≤ 6) (hr : r < R) (W0 : 0 ≤ within) (W1 : within < 2 ^ C) (hN : NG v g R C E e) (hz6 : z + 1 ≤ 6)
    (hyl : ys.length = z) (hyR : ∀ i, i ∈ ys → 0 ≤ i ∧ i < R)
    (hy : ∀ y, 0 ≤ y → y < 64 → subE y within → (els 6 y).length = z → v (104 + 2 * y.toNat) = dY g ys y) :
    fin xs fr lo 51 0 (ax_ent [.ref 29, .int (jI (r : Int)), .int (jI ((z + 1 : Nat) : Int)), .int (jI within)] 8) [] w (Ret fun u w' => u = none ∧ ∃ v', CW w0 w' s v' L Z ∧ (∀ y, 0 ≤ y → y ≤ within → subE y within → (els 6 y).length = z + 1 → v' (104 + 2 * y.toNat) = dY g (r :: ys) y) ∧ ∀ c, (∀ y, 0 ≤ y → y ≤ within → (els 6 y).length = z + 1 → c ≠ 104 + 2 * y.toNat) → v' c = v c) := by
  have h64 := S_pow hC6
  refine fi_step (pc' := 1) m_Mi_takeRow rfl rfl ?_
  refine fi_step (pc' := 3) m_Mi_takeRow rfl rfl ?_
  refine tk_out hfr hlo h2 hC6 hR6 hr W0 W1 hN hz6 hyl hyR hy within.toNat 1 w v _ _ _ (by omega) (by omega) hC (fun y a b hs hle => ?_) (fun _ _ => rfl)
  obtain rfl : y = 0 := by omega
  rw [show (els 6 0).length = 0 from rfl] at hle
  omega
end MI2
