/-! THE CLASS: solve -/
theorem solve_math {vs : List Vec} {X : Nat → Vec} {lead bv : Int → Int} {f R n : Nat} {x x' : Vec} (hE : ech (hl (fun k => lead k) X f 0)) (hsp : spEq (fam X f 0) vs) (hfm : isFrom lead f R n) (hl0 : ∀ k : Nat, k < f → 0 ≤ lead k) (hx : ∀ j : Int, 0 ≤ j → j < R → x j = - bv j) (hx0 : ∀ j : Int, R ≤ j → x j = 0) (hd : sp (fam X f 0) (fun j => x j - x' j)) (hs : ∀ k : Nat, k < f → 0 ≤ x' (lead k) ∧ x' (lead k) < X k (lead k)) :
    ((∃ j : Int, (0 ≤ j ∧ j < R) ∧ x' j ≠ 0) → noSol vs R bv) ∧ ((∀ j : Int, 0 ≤ j → j < R → x' j = 0) → isSol vs R bv f n lead X (fun j => x' j - x j)) := by
  have hy : sp (fam X f 0) (fun j => x' j - x j) := sp_ext (sp_mul (-1) hd) (fun j => by omega)
  refine ⟨fun ⟨j, ⟨j0, j1⟩, hj⟩ z hz hzb => hj ?_, fun h0 => ⟨(hsp _).mp hy, fun j j0 j1 => ?_, fun k h1 h2 => ?_⟩⟩
  · have hd2 : sp (fam X f 0) (fun j => (x' j - x j) - z j) := sp_sub hy ((hsp z).mpr hz)
    rw [← hl_vv (fun k => lead k) X f 0] at hd2
    have := ech_front (R := R) hE hd2 (fun p hp hlt => by
      obtain ⟨k, _, hk, rfl⟩ := hl_mem.mp hp
      simp only at hlt ⊢
      have q := hs k (by omega)
      have l0 := hl0 k (by omega)
      rw [hx _ l0 hlt, hzb _ l0 hlt]
      omega) j j1
    have this' : (x' j - x j) - z j = 0 := this
    rw [hx j j0 j1, hzb j j0 j1] at this'
    omega
  · simp only
    rw [h0 j j0 j1, hx j j0 j1]; omega
  · simp only
    rw [hx0 _ (hfm.2.2 k h1 h2), Int.sub_zero]
    exact hs k h2
section SOLVE
variable {xs : List Int32} {fr lo : Nat} {w0 w : ax_W} {s : mo_S} {v : Nat → Int} {L Z : Nat} {Q : Outcome → ax_W → Prop}
theorem sol_in {to a b p R : Nat} {v0 : Nat → Int} {y9 : Option Value} (hok : okC s v) (hb : b < 6) (hR : s 2 b = R) (h1 : s 3 b = 1) (hp : p < 7) (R6 : R ≤ 6) (hfr : 4 ≤ fr) (hlo : 240 ≤ lo)
    (K : ∀ (w : ax_W) (v : Nat → Int) (i : Int), CW w0 w s v L Z → kpR p v0 v → (∀ j : Nat, j < 12 → v (238 + 26 * p + 2 * j) = if j < R then - s 1 (36 * b + 6 * j) else 0) → fin xs fr lo 81 104 [some (.ref 0), some (.int (jI (to : Int))), some (.int (jI (a : Int))), some (.int (jI (b : Int))), some (.ref (2 + 2 * to)), some (.ref (2 + 2 * a)), some (.ref (2 + 2 * b)), some (.ref (236 + 26 * p)), some (.int (jI i)), y9] [] w Q) :
    ∀ (n i : Nat) (w : ax_W) (v : Nat → Int), i + n = R → CW w0 w s v L Z → kpR p v0 v → (∀ j : Nat, j < 12 → v (238 + 26 * p + 2 * j) = if j < i then - s 1 (36 * b + 6 * j) else 0) →
    fin xs fr lo 81 68 [some (.ref 0), some (.int (jI (to : Int))), some (.int (jI (a : Int))), some (.int (jI (b : Int))), some (.ref (2 + 2 * to)), some (.ref (2 + 2 * a)), some (.ref (2 + 2 * b)), some (.ref (236 + 26 * p)), some (.int (jI (i : Int))), y9] [] w Q := by
  intro n
  induction n with
  | zero =>
    intro i w v hi hC hk hv
    obtain rfl : i = R := by omega
    refine fi_step (pc' := 70) m_De_solve rfl rfl ?_
    refine fi_step (pc' := 72) m_De_solve rfl rfl ?_
    refine k_get (p := 75) m_De_solve rfl rfl (by first | exact C_print hC | exact C_minors hC | exact C_stairs hC | exact (CW_cst hC).2.1 | exact C_mat hC (by omega) | exact ((CW_cst hC).2.2.2.2.2.2 _ (by omega)).1 | assumption) rfl ?_
    refine s_ic_ge (p := 78) m_De_solve rfl rfl (by omega) (by omega) (by omega) (by omega) (fun hbr => ?_) (fun hbr => False.elim (by omega))
    exact K w v _ hC hk hv
  | succ n ih =>
    intro i w v hi hC hk hv
    have iA : isWh (238 + 26 * p + 2 * i) := i_row hp (by omega)
    have q := rf_num hok.1 (x := 36 * b + (6 * i + 0)) (by omega) (by omega)
    refine fi_step (pc' := 70) m_De_solve rfl rfl ?_
    refine fi_step (pc' := 72) m_De_solve rfl rfl ?_
    refine k_get (p := 75) m_De_solve rfl rfl (by first | exact C_print hC | exact C_minors hC | exact C_stairs hC | exact (CW_cst hC).2.1 | exact C_mat hC (by omega) | exact ((CW_cst hC).2.2.2.2.2.2 _ (by omega)).1 | assumption) rfl ?_
    refine s_ic_ge (p := 78) m_De_solve rfl rfl (by omega) (by omega) (by omega) (by omega) (fun hbr => False.elim (by omega)) (fun hbr => ?_)
    refine fi_step (pc' := 80) m_De_solve rfl rfl ?_
    refine k_get (p := 83) m_De_solve rfl rfl (by first | exact C_print hC | exact C_minors hC | exact C_stairs hC | exact (CW_cst hC).2.1 | exact C_mat hC (by omega) | exact ((CW_cst hC).2.2.2.2.2.2 _ (by omega)).1 | assumption) rfl ?_
    refine fi_step (pc' := 85) m_De_solve rfl rfl ?_
    refine r_ldN (p := 86) m_De_solve rfl rfl hC hp (by omega) (by omega) ?_
    rw [Int.toNat_natCast]
    refine fi_step (pc' := 88) m_De_solve rfl rfl ?_
    refine fi_step (pc' := 90) m_De_solve rfl rfl ?_
    refine fi_step (pc' := 91) m_De_solve rfl rfl ?_
    refine c_3 (p := 94) m_De_solve rfl inv_v (by decide) m_Ma_number rfl rfl (by omega) (by omega) (Nat.le_of_ble_eq_true rfl) (Nat.le_of_ble_eq_true rfl) (C_rcvM hC (by omega) _) (ma_number (i := (i : Int)) (j := 0) hC (show b < 7 by omega) (rf_dim hok.1 hb) (by omega) (by omega) (by omega) (by omega) (by omega) (by omega)) ?_
    refine s_lneg (p := 95) m_De_solve rfl rfl ?_
    refine g_2 (p := 98) m_De_solve rfl inv_v (by decide) m_Wh_becomeJ rfl rfl (by omega) (by omega) (Nat.le_of_ble_eq_true rfl) (Nat.le_of_ble_eq_true rfl) (C_rcvW hC (by first | assumption | exact rfl) _) (cn_becomeJ hC iA (by omega) (by omega) (by omega) (by omega)) (fun v w hP => ?_)
    obtain ⟨rfl, hC⟩ := hP
    refine s_iinc (p := 101) m_De_solve rfl rfl rfl ?_
    refine fi_step (pc' := 68) m_De_solve rfl rfl ?_
    rw [show (i : Int) + 1 = ((i + 1 : Nat) : Int) by omega]
    refine ih (i + 1) w _ (by omega) hC (fun c hc => by rw [upv_ne _ (hc i (by omega)), hk c hc]) (fun j hj => ?_)
    by_cases e : j = i
    · subst e
      rw [upv_same, if_pos (by omega), show 36 * (b : Int) + (6 * (j : Int) + 0) = 36 * b + 6 * j by omega]
    · rw [upv_ne _ (by omega), hv j hj]
      by_cases e' : j < i
      · rw [if_pos e', if_pos (by omega)]
      · rw [if_neg e', if_neg (by omega)]
theorem sol_out {to a b p R C : Nat} {T : Int → Int → Int} (hok : okC s v) (ht : to < 6) (ha : a < 6) (hR : s 2 a = R) (hCc : s 3 a = C) (hp : p < 7) (R6 : R ≤ 6) (C6 : C ≤ 6) (C1 : 1 ≤ C) (hT : T = fun i _ => PR v p (R + i)) (hfr : 3 ≤ fr) (hlo : 130 ≤ lo) :
    ∀ (n i : Nat) (g : Int → Int → Int) (w : ax_W) (y9 : Option Value), i + n = C → CW w0 w (gvM s 6 C 1 g) v L Z → (∀ i' j' : Int, 0 ≤ i' → i' < i → 0 ≤ j' → j' < 1 → g i' j' = T i' j' ∧ (T i' j').natAbs < 1000000000000000000) →
    fin xs fr lo 81 150 [some (.ref 0), some (.int (jI (to : Int))), some (.int (jI (a : Int))), some (.int (jI (b : Int))), some (.ref (2 + 2 * to)), some (.ref (2 + 2 * a)), some (.ref (2 + 2 * b)), some (.ref (236 + 26 * p)), some (.int (jI (i : Int))), y9] [] w (Ret (madeC w0 s L Z to C 1 T 1)) := by
  intro n
  induction n with
  | zero =>
    intro i g w y9 hi hC hg
    obtain rfl : i = C := by omega
    have e3 : gvM s 6 i 1 g 3 a = i := by rw [gv6_3 ha]; exact hCc
    refine fi_step (pc' := 152) m_De_solve rfl rfl ?_
    refine fi_step (pc' := 154) m_De_solve rfl rfl ?_
    refine k_get (p := 157) m_De_solve rfl rfl (by first | exact C_print hC | exact C_minors hC | exact C_stairs hC | exact (CW_cst hC).2.1 | exact C_mat hC (by omega) | exact ((CW_cst hC).2.2.2.2.2.2 _ (by omega)).1 | assumption) rfl ?_
    refine s_ic_ge (p := 160) m_De_solve rfl rfl (by omega) (by omega) (by omega) (by omega) (fun hbr => ?_) (fun hbr => False.elim (by omega))
    refine fi_step (pc' := 210) m_De_solve rfl rfl ?_
    refine fi_step (pc' := 211) m_De_solve rfl rfl ?_
    refine k_get (p := 214) m_De_solve rfl rfl (by first | exact C_print hC | exact C_minors hC | exact C_stairs hC | exact (CW_cst hC).2.1 | exact C_mat hC (by omega) | exact ((CW_cst hC).2.2.2.2.2.2 _ (by omega)).1 | assumption) rfl ?_
    refine g_2 (p := 217) m_De_solve rfl inv_v (by decide) m_Ma_become rfl rfl (by omega) (by omega) (Nat.le_of_ble_eq_true rfl) (Nat.le_of_ble_eq_true rfl) (C_rcvM hC (by omega) _) (ma_become6 hC ht (by omega) (by omega)) (fun v w hP => ?_)
    obtain ⟨rfl, hC⟩ := hP
    refine fi_step (pc' := 218) m_De_solve rfl rfl ?_
    refine p_reti m_De_solve rfl rfl ?_
    exact madeC_ok hok (by omega) (by omega) (by omega) (by omega) (by omega) (by omega) (fun i' j' a0 a1 b0 b1 => hg i' j' a0 a1 b0 b1) rfl rfl hC
  | succ n ih =>
    intro i g w y9 hi hC hg
    have e2 : gvM s 6 C 1 g 2 a = R := by rw [gv6_2 ha]; exact hR
    have e3 : gvM s 6 C 1 g 3 a = C := by rw [gv6_3 ha]; exact hCc
    have iA : isWh (238 + 26 * p + 2 * (R + i)) := i_row hp (by omega)
    have hTi : ∀ j, T i j = v (238 + 26 * p + 2 * (R + i)) := fun j => by
      rw [hT]
      show PR v p ((R : Int) + (i : Int)) = _
      rw [show (R : Int) + (i : Int) = ((R + i : Nat) : Int) by omega, PR_at v p (by omega)]
    refine fi_step (pc' := 152) m_De_solve rfl rfl ?_
    refine fi_step (pc' := 154) m_De_solve rfl rfl ?_
    refine k_get (p := 157) m_De_solve rfl rfl (by first | exact C_print hC | exact C_minors hC | exact C_stairs hC | exact (CW_cst hC).2.1 | exact C_mat hC (by omega) | exact ((CW_cst hC).2.2.2.2.2.2 _ (by omega)).1 | assumption) rfl ?_
    refine s_ic_ge (p := 160) m_De_solve rfl rfl (by omega) (by omega) (by omega) (by omega) (fun hbr => False.elim (by omega)) (fun hbr => ?_)
    refine fi_step (pc' := 162) m_De_solve rfl rfl ?_
    refine k_get (p := 165) m_De_solve rfl rfl (by first | exact C_print hC | exact C_minors hC | exact C_stairs hC | exact (CW_cst hC).2.1 | exact C_mat hC (by omega) | exact ((CW_cst hC).2.2.2.2.2.2 _ (by omega)).1 | assumption) rfl ?_
    refine fi_step (pc' := 167) m_De_solve rfl rfl ?_
    refine k_get (p := 170) m_De_solve rfl rfl (by first | exact C_print hC | exact C_minors hC | exact C_stairs hC | exact (CW_cst hC).2.1 | exact C_mat hC (by omega) | exact ((CW_cst hC).2.2.2.2.2.2 _ (by omega)).1 | assumption) rfl ?_
    refine fi_step (pc' := 172) m_De_solve rfl rfl ?_
    refine s_iadd (p := 173) m_De_solve rfl rfl ?_
    rw [e2]
    refine r_ldN (p := 174) m_De_solve rfl rfl hC hp (by omega) (by omega) ?_
    rw [show ((R : Int) + (i : Int)).toNat = R + i by omega]
    refine fi_step (pc' := 176) m_De_solve rfl rfl ?_
    refine fi_step (pc' := 178) m_De_solve rfl rfl ?_
    refine c_1 (p := 181) m_De_solve rfl inv_v (by decide) m_Wh_fits rfl rfl (by omega) (by omega) (Nat.le_of_ble_eq_true rfl) (Nat.le_of_ble_eq_true rfl) (C_rcvW hC (by first | assumption | exact rfl) _) (cn_fits hC iA) ?_
    rw [← hTi 0]
    by_cases hfit : (T i 0).natAbs < 1000000000000000000
    · rw [if_pos hfit]
      refine s_if_ne (p := 184) m_De_solve rfl rfl (by omega) (by omega) (fun hbr => ?_) (fun hbr => False.elim (by omega))
      refine fi_step (pc' := 188) m_De_solve rfl rfl ?_
      refine k_get (p := 191) m_De_solve rfl rfl (by first | exact C_print hC | exact C_minors hC | exact C_stairs hC | exact (CW_cst hC).2.1 | exact C_mat hC (by omega) | exact ((CW_cst hC).2.2.2.2.2.2 _ (by omega)).1 | assumption) rfl ?_
      refine fi_step (pc' := 193) m_De_solve rfl rfl ?_
      refine fi_step (pc' := 194) m_De_solve rfl rfl ?_
      refine fi_step (pc' := 196) m_De_solve rfl rfl ?_
      refine c_1 (p := 199) m_De_solve rfl inv_v (by decide) m_Wh_value rfl rfl (by omega) (by omega) (Nat.le_of_ble_eq_true rfl) (Nat.le_of_ble_eq_true rfl) (C_rcvW hC (by first | assumption | exact rfl) _) (cn_value hC iA (by rw [← hTi 0]; exact hfit)) ?_
      rw [← hTi 0]
      refine g_4 (p := 202) m_De_solve rfl inv_v (by decide) m_Ma_write rfl rfl (by omega) (by omega) (Nat.le_of_ble_eq_true rfl) (Nat.le_of_ble_eq_true rfl) (C_rcvM (m := 6) hC (by omega) _) (ma_write6 (i := (i : Int)) (j := 0) hC (by omega) (by omega) (by omega) (by omega) (by omega) (by omega) (by omega) (by omega) (by omega) (by omega)) (fun v w hP => ?_)
      obtain ⟨rfl, hC⟩ := hP
      refine s_iinc (p := 205) m_De_solve rfl rfl rfl ?_
      refine fi_step (pc' := 150) m_De_solve rfl rfl ?_
      rw [show (i : Int) + 1 = ((i + 1 : Nat) : Int) by omega]
      refine ih (i + 1) _ w _ (by omega) hC (fun i' j' a0 a1 b0 b1 => ?_)
      unfold upg
      obtain rfl : j' = 0 := by omega
      by_cases e : i' = i
      · subst e; rw [if_pos ⟨rfl, rfl⟩]; exact ⟨rfl, hfit⟩
      · rw [if_neg (fun h => e h.1)]; exact hg i' 0 a0 (by omega) b0 b1
    · rw [if_neg hfit]
      refine s_if_ne (p := 184) m_De_solve rfl rfl (by omega) (by omega) (fun hbr => False.elim (by omega)) (fun hbr => ?_)
      refine s_bipush (p := 186) m_De_solve rfl rfl rfl ?_
      refine p_reti m_De_solve rfl rfl ?_
      exact madeC_no hok rfl rfl hC (show (0 : Int) ≤ (i : Int) by omega) (by omega) (Int.le_refl 0) (by decide) hfit
theorem de_solve {to a b : Nat} (hC : CW w0 w s v L Z) (hok : okC s v) (ht : to < 6) (ha : a < 6) (hb : b < 6) (hfr : 9 ≤ fr) (hlo : 400 ≤ lo) :
    fin xs fr lo 81 0 (ax_ent [.ref 0, .int (jI (to : Int)), .int (jI (a : Int)), .int (jI (b : Int))] 10) [] w (Ret fun u w' => (¬ (s 3 b = 1 ∧ s 2 b = s 2 a) ∧ sameC w0 s v L Z (-2) u w') ∨ ((s 3 b = 1 ∧ s 2 b = s 2 a) ∧ ∃ (f n : Nat) (lead : Int → Int) (X : Nat → Vec), isForm (s 3 a).toNat (s 2 a + s 3 a) (gB (rf s) a) f lead X ∧ isFrom lead f (s 2 a) n ∧ (∀ k : Nat, k < f → 0 ≤ lead k) ∧ ((noSol (rowsOf (s 3 a).toNat (s 2 a + s 3 a) (gB (rf s) a)) (s 2 a) (fun j => rf s 4 (36 * b + 6 * j)) ∧ sameC w0 s v L Z 0 u w') ∨ (∃ x, isSol (rowsOf (s 3 a).toNat (s 2 a + s 3 a) (gB (rf s) a)) (s 2 a) (fun j => rf s 4 (36 * b + 6 * j)) f n lead X x ∧ madeC w0 s L Z to (s 3 a) 1 (fun i _ => x (s 2 a + i)) 1 u w')))) := by
  obtain ⟨d1, d2, d3, d4⟩ := rf_dim hok.1 ha
  obtain ⟨b1, b2, b3, b4⟩ := rf_dim hok.1 hb
  obtain ⟨R, hR⟩ := Int.eq_ofNat_of_zero_le (show 0 ≤ s 2 a by omega)
  obtain ⟨C, hCc⟩ := Int.eq_ofNat_of_zero_le (show 0 ≤ s 3 a by omega)
  refine fi_step (pc' := 1) m_De_solve rfl rfl ?_
  refine fi_step (pc' := 2) m_De_solve rfl rfl ?_
  refine c_2 (p := 5) m_De_solve rfl inv_v (by decide) m_De_matrix rfl rfl (by omega) (by omega) (Nat.le_of_ble_eq_true rfl) (Nat.le_of_ble_eq_true rfl) (C_rcvD hC _) (de_matrix hC ht) ?_
  refine fi_step (pc' := 7) m_De_solve rfl rfl ?_
  refine fi_step (pc' := 8) m_De_solve rfl rfl ?_
  refine fi_step (pc' := 9) m_De_solve rfl rfl ?_
  refine c_2 (p := 12) m_De_solve rfl inv_v (by decide) m_De_matrix rfl rfl (by omega) (by omega) (Nat.le_of_ble_eq_true rfl) (Nat.le_of_ble_eq_true rfl) (C_rcvD hC _) (de_matrix hC ha) ?_
  refine fi_step (pc' := 14) m_De_solve rfl rfl ?_
  refine fi_step (pc' := 15) m_De_solve rfl rfl ?_
  refine fi_step (pc' := 16) m_De_solve rfl rfl ?_
  refine c_2 (p := 19) m_De_solve rfl inv_v (by decide) m_De_matrix rfl rfl (by omega) (by omega) (Nat.le_of_ble_eq_true rfl) (Nat.le_of_ble_eq_true rfl) (C_rcvD hC _) (de_matrix hC hb) ?_
  refine fi_step (pc' := 21) m_De_solve rfl rfl ?_
  show fin xs fr lo 81 21 [some (.ref 0), some (.int (jI (to : Int))), some (.int (jI (a : Int))), some (.int (jI (b : Int))), some (.ref (2 + 2 * to)), some (.ref (2 + 2 * a)), some (.ref (2 + 2 * b)), none, none, none] [] w _
  by_cases h1 : s 3 b = 1
  · by_cases h2 : s 2 b = s 2 a
    · refine fi_step (pc' := 23) m_De_solve rfl rfl ?_
      refine k_get (p := 26) m_De_solve rfl rfl (by first | exact C_print hC | exact C_minors hC | exact C_stairs hC | exact (CW_cst hC).2.1 | exact C_mat hC (by omega) | exact ((CW_cst hC).2.2.2.2.2.2 _ (by omega)).1 | assumption) rfl ?_
      refine fi_step (pc' := 27) m_De_solve rfl rfl ?_
      refine s_ic_ne (p := 30) m_De_solve rfl rfl (by omega) (by omega) (by omega) (by omega) (fun hbr => False.elim (by omega)) (fun hbr => ?_)
      refine fi_step (pc' := 32) m_De_solve rfl rfl ?_
      refine k_get (p := 35) m_De_solve rfl rfl (by first | exact C_print hC | exact C_minors hC | exact C_stairs hC | exact (CW_cst hC).2.1 | exact C_mat hC (by omega) | exact ((CW_cst hC).2.2.2.2.2.2 _ (by omega)).1 | assumption) rfl ?_
      refine fi_step (pc' := 37) m_De_solve rfl rfl ?_
      refine k_get (p := 40) m_De_solve rfl rfl (by first | exact C_print hC | exact C_minors hC | exact C_stairs hC | exact (CW_cst hC).2.1 | exact C_mat hC (by omega) | exact ((CW_cst hC).2.2.2.2.2.2 _ (by omega)).1 | assumption) rfl ?_
      refine s_ic_eq (p := 43) m_De_solve rfl rfl (by omega) (by omega) (by omega) (by omega) (fun hbr => ?_) (fun hbr => False.elim (by omega))
      refine fi_step (pc' := 47) m_De_solve rfl rfl ?_
      refine k_get (p := 50) m_De_solve rfl rfl (by first | exact C_print hC | exact C_minors hC | exact C_stairs hC | exact (CW_cst hC).2.1 | exact C_mat hC (by omega) | exact ((CW_cst hC).2.2.2.2.2.2 _ (by omega)).1 | assumption) rfl ?_
      refine fi_step (pc' := 52) m_De_solve rfl rfl ?_
      refine fi_step (pc' := 53) m_De_solve rfl rfl ?_
      refine g_3 (p := 56) m_De_solve rfl inv_v (by decide) m_St_climb rfl rfl (by omega) (by omega) (Nat.le_of_ble_eq_true rfl) (Nat.le_of_ble_eq_true rfl) (C_rcvS hC _) (st_climb (tn := 1) (H := C) (F := R) (W := R + C) hC hok ha (Or.inr rfl) (by rw [if_pos rfl]; exact hR) (by rw [if_pos rfl]; exact hCc) (by omega) (by omega) (by omega)) (fun v w hP => ?_)
      obtain ⟨rfl, s1, v1, hC, hs, hpm, hv, h3, hW, hE⟩ := hP
      obtain ⟨hok1, hrf, hkp⟩ := ok_climb hok hs hpm hv
      have q2 : s1 2 = s 2 := hs.1 2 (by decide) (by decide) (by decide)
      have q3 : s1 3 = s 3 := hs.1 3 (by decide) (by decide) (by decide)
      have q1 : s1 1 = s 1 := hs.1 1 (by decide) (by decide) (by decide)
      have hF := back_form ha hR hCc (by omega) (by omega) rfl hE
      have hKR := (EC_KR hE (fam_len _ _ _) (by omega) (ld_mK hok.1 ha (by rw [if_pos rfl]; omega))).1
      obtain ⟨n, hn⟩ := from_ex (lead := s1 5) R (N := C) (fun i k h1 h2 => hE.2.1 i k h1 h2)
      obtain ⟨p, ep⟩ : ∃ p : Nat, s1 6 C = p := ⟨(s1 6 C).toNat, by have := hpm.1 C (by omega); omega⟩
      have hp : p < 7 := by have := hpm.1 C (by omega); omega
      have hfar : ∀ i : Nat, i < C → (s1 6 i).toNat ≠ p := fun i hi => by
        have := rv_ne hpm (show i < 7 by omega) (show C < 7 by omega) (by omega)
        rw [ep, Int.toNat_natCast] at this
        exact this
      have hl0 : ∀ k : Nat, k < C → 0 ≤ s1 5 k := fun k hk => (hE.1 k hk).1.1
      have hF25 := FB_25
      refine fi_step (pc' := 57) m_De_solve rfl rfl ?_
      refine k_get (p := 60) m_De_solve rfl rfl (by first | exact C_print hC | exact C_minors hC | exact C_stairs hC | exact (CW_cst hC).2.1 | exact C_mat hC (by omega) | exact ((CW_cst hC).2.2.2.2.2.2 _ (by omega)).1 | assumption) rfl ?_
      refine g_1 (p := 63) m_De_solve rfl inv_v (by decide) m_St_spareRow rfl rfl (by omega) (by omega) (Nat.le_of_ble_eq_true rfl) (Nat.le_of_ble_eq_true rfl) (C_rcvS hC _) (st_spareRow (n := C) hC h3 (by omega) (hpm.1 C (by omega)) (by omega) (by omega)) (fun v w hP => ?_)
      obtain ⟨rfl, v2, hC, k2, z2⟩ := hP
      rw [ep, Int.toNat_natCast] at k2 z2 ⊢
      refine fi_step (pc' := 65) m_De_solve rfl rfl ?_
      refine fi_step (pc' := 66) m_De_solve rfl rfl ?_
      refine fi_step (pc' := 68) m_De_solve rfl rfl ?_
      show fin xs fr lo 81 68 [some (.ref 0), some (.int (jI (to : Int))), some (.int (jI (a : Int))), some (.int (jI (b : Int))), some (.ref (2 + 2 * to)), some (.ref (2 + 2 * a)), some (.ref (2 + 2 * b)), some (.ref (236 + 26 * p)), some (.int (jI ((0 : Nat) : Int))), none] [] w _
      refine sol_in (R := R) (v0 := v1) hok1 hb (by rw [q2]; omega) (by rw [q3]; exact h1) hp (by omega) (by omega) (by omega) (fun w v3 i hC k3 z3 => ?_) R 0 w v2 (by omega) hC k2 (fun j hj => ?_)
      · -- the row is settled
        have hx : ∀ j : Int, 0 ≤ j → j < R → PR v3 p j = - rf s 4 (36 * b + 6 * j) := fun j j0 j1 => by
          obtain ⟨j, rfl⟩ := Int.eq_ofNat_of_zero_le j0
          rw [PR_at v3 p (by omega), z3 j (by omega), if_pos (by omega), rf_4 s (by omega) (by omega), q1]
        have hx0 : ∀ j : Int, R ≤ j → PR v3 p j = 0 := fun j hj => by
          by_cases j1 : j < 12
          · obtain ⟨j, rfl⟩ := Int.eq_ofNat_of_zero_le (show 0 ≤ j by omega)
            rw [PR_at v3 p (by omega), z3 j (by omega), if_neg (by omega)]
          · exact PR_out v3 p (by omega)
        have hxs : ∀ j : Int, ((PR v3 p j).natAbs : Int) < 1000000000 ^ 25 := fun j => by
          refine Int.lt_trans (b := 1000000000000000000) ?_ (by decide)
          by_cases j0 : 0 ≤ j ∧ j < R
          · rw [hx j j0.1 j0.2, rf_4 s (by omega) (by omega)]
            have := rf_num hok.1 (x := 36 * b + 6 * j) (by omega) (by omega)
            omega
          · by_cases j1 : j < 0
            · rw [PR_out v3 p (by omega)]; decide
            · rw [hx0 j (by omega)]; decide
        have kL3 : kpL p v1 v3 := kpR_L k3
        have hv3 : kpS v v3 := kpS_L hv hp kL3
        have hK3 : KR s1 v3 (R + C) 0 C FBND := KR_keep hKR kL3 (fun i _ hi => hfar i hi)
        have v273 : v3 27 = 1 := by rw [hv3 27 (by omega) (by omega) (by omega)]; exact hok.2.1
        have hrows : ∀ i : Nat, i < C → PR v3 (s1 6 i).toNat = rv s1 v1 i := fun i hi => kpL_PR kL3 (hfar i hi)
        refine fi_step (pc' := 105) m_De_solve rfl rfl ?_
        refine k_get (p := 108) m_De_solve rfl rfl (by first | exact C_print hC | exact C_minors hC | exact C_stairs hC | exact (CW_cst hC).2.1 | exact C_mat hC (by omega) | exact ((CW_cst hC).2.2.2.2.2.2 _ (by omega)).1 | assumption) rfl ?_
        refine fi_step (pc' := 110) m_De_solve rfl rfl ?_
        refine fi_step (pc' := 111) m_De_solve rfl rfl ?_
        refine g_3 (p := 114) m_De_solve rfl inv_v (by decide) m_St_settle rfl rfl (by omega) (by omega) (Nat.le_of_ble_eq_true rfl) (Nat.le_of_ble_eq_true rfl) (C_rcvS hC _) (st_settle (t := 25) (f := 0) (n := C) (W := R + C) (M := FBND) hC (by omega) (by omega) v273 hp (by omega) (by omega) h3 hW (by omega) hF25.1 hK3 (fun i _ hi => ⟨hfar i hi, hpm.1 i (by omega)⟩) (by omega) (by omega) hxs) (fun v w hP => ?_)
        obtain ⟨rfl, v4, hC, k4, _, t4⟩ := hP
        have hv4 : kpS v v4 := kpS_L hv3 hp k4
        have hok4 := (ok_climb hok hs hpm hv4).1
        have hmath := solve_math (vs := rowsOf C (R + C : Nat) (gB (rf s) a)) (X := rv s1 v1) (lead := s1 5) (bv := fun j => rf s 4 (36 * b + 6 * j)) (f := C) (R := R) (n := n) (x := PR v3 p) (x' := PR v4 p) hF.1 hF.2.2 hn hl0 hx hx0 (by
          have := t4.2.2
          rw [Nat.sub_zero, fam_congr (fun i _ hi => hrows i (by omega))] at this
          exact this) (fun k hk => by
          have := t4.1 k (by omega) hk
          rw [hrows k hk] at this
          exact this)
        have eR : s1 2 a = R := by rw [q2]; exact hR
        have eC : s1 3 a = C := by rw [q3]; exact hCc
        refine fi_step (pc' := 116) m_De_solve rfl rfl ?_
        refine fi_step (pc' := 118) m_De_solve rfl rfl ?_
        refine k_get (p := 121) m_De_solve rfl rfl (by first | exact C_print hC | exact C_minors hC | exact C_stairs hC | exact (CW_cst hC).2.1 | exact C_mat hC (by omega) | exact ((CW_cst hC).2.2.2.2.2.2 _ (by omega)).1 | assumption) rfl ?_
        rw [eR]
        refine g_2 (p := 124) m_De_solve rfl inv_v (by decide) m_Ro_lead rfl rfl (by omega) (by omega) (Nat.le_of_ble_eq_true rfl) (Nat.le_of_ble_eq_true rfl) (C_rcvR hC (by omega) _) (ro_lead (E := R) hC hp (by omega) (by omega) (by omega)) (fun v w hP => ?_)
        obtain ⟨rfl, ld, rfl, hld⟩ := hP
        rw [hR, hCc, Int.toNat_natCast, show (R : Int) + (C : Int) = ((R + C : Nat) : Int) by omega]
        have hld1 := hld.1
        by_cases hlt : ld < R
        · refine fi_step (pc' := 126) m_De_solve rfl rfl ?_
          refine k_get (p := 129) m_De_solve rfl rfl (by first | exact C_print hC | exact C_minors hC | exact C_stairs hC | exact (CW_cst hC).2.1 | exact C_mat hC (by omega) | exact ((CW_cst hC).2.2.2.2.2.2 _ (by omega)).1 | assumption) rfl ?_
          refine s_ic_ge (p := 132) m_De_solve rfl rfl (by omega) (by omega) (by omega) (by omega) (fun hbr => False.elim (by omega)) (fun hbr => ?_)
          refine fi_step (pc' := 133) m_De_solve rfl rfl ?_
          refine p_reti m_De_solve rfl rfl ?_
          exact Or.inr ⟨⟨h1, by omega⟩, C, n, s1 5, _, hF, hn, hl0, Or.inl ⟨hmath.1 ⟨ld, by omega, hld.2.2 hlt⟩, s1, v4, hC, hok4, hkp, hrf, rfl⟩⟩
        · refine fi_step (pc' := 126) m_De_solve rfl rfl ?_
          refine k_get (p := 129) m_De_solve rfl rfl (by first | exact C_print hC | exact C_minors hC | exact C_stairs hC | exact (CW_cst hC).2.1 | exact C_mat hC (by omega) | exact ((CW_cst hC).2.2.2.2.2.2 _ (by omega)).1 | assumption) rfl ?_
          refine s_ic_ge (p := 132) m_De_solve rfl rfl (by omega) (by omega) (by omega) (by omega) (fun hbr => ?_) (fun hbr => False.elim (by omega))
          refine fi_step (pc' := 135) m_De_solve rfl rfl ?_
          refine k_get (p := 138) m_De_solve rfl rfl (by first | exact C_print hC | exact C_minors hC | exact C_stairs hC | exact (CW_cst hC).2.1 | exact C_mat hC (by omega) | exact ((CW_cst hC).2.2.2.2.2.2 _ (by omega)).1 | assumption) rfl ?_
          refine fi_step (pc' := 140) m_De_solve rfl rfl ?_
          refine k_get (p := 143) m_De_solve rfl rfl (by first | exact C_print hC | exact C_minors hC | exact C_stairs hC | exact (CW_cst hC).2.1 | exact C_mat hC (by omega) | exact ((CW_cst hC).2.2.2.2.2.2 _ (by omega)).1 | assumption) rfl ?_
          refine fi_step (pc' := 144) m_De_solve rfl rfl ?_
          rw [eC]
          refine g_3 (p := 147) m_De_solve rfl inv_v (by decide) m_Ma_reset rfl rfl (by omega) (by omega) (Nat.le_of_ble_eq_true rfl) (Nat.le_of_ble_eq_true rfl) (C_rcvM (m := 6) hC (by omega) _) (ma_reset6 (R := (C : Int)) (C := 1) hC (by omega) (by omega)) (fun v w hP => ?_)
          obtain ⟨rfl, hC⟩ := hP
          refine fi_step (pc' := 148) m_De_solve rfl rfl ?_
          refine fi_step (pc' := 150) m_De_solve rfl rfl ?_
          have hldR : ld = R := by have := hld.1; omega
          subst hldR
          have hsol := hmath.2 (fun j j0 j1 => hld.2.1 j j1 j0)
          show fin xs fr lo 81 150 [some (.ref 0), some (.int (jI (to : Int))), some (.int (jI (a : Int))), some (.int (jI (b : Int))), some (.ref (2 + 2 * to)), some (.ref (2 + 2 * a)), some (.ref (2 + 2 * b)), some (.ref (236 + 26 * p)), some (.int (jI ((0 : Nat) : Int))), none] [] w _
          refine fi_mono (sol_out (R := ld) (C := C) (T := fun i _ => PR v4 p (ld + i)) hok4 ht ha eR eC hp (by omega) (by omega) (by omega) rfl (by omega) (by omega) C 0 _ w _ (by omega) hC (fun i' j' _ h => by omega)) (fun o w' ⟨u, e, h⟩ => ⟨u, e, Or.inr ⟨⟨h1, by omega⟩, C, n, s1 5, _, hF, hn, hl0, Or.inr ⟨_, hsol, ?_⟩⟩⟩)
          obtain ⟨s', v', g1, g2, g3, g4⟩ := madeC_rf hrf hkp h
          have hTe : ∀ i j : Int, 0 ≤ i → i < C → 0 ≤ j → j < 1 → PR v4 p (ld + i) = PR v4 p (ld + i) - PR v3 p (ld + i) := fun i j i0 i1 _ _ => by
            rw [hx0 _ (by omega), Int.sub_zero]
          refine ⟨s', v', g1, g2, g3, ?_⟩
          rcases g4 with ⟨f1, f2, f3⟩ | ⟨f1, f2, f3⟩
          · exact Or.inl ⟨fun i j i0 i1 j0 j1 => by have := f1 i j i0 i1 j0 j1; simp only at this ⊢; rw [← hTe i j i0 i1 j0 j1]; exact this, f2, given_congr (fun i j i0 i1 j0 j1 => hTe i j i0 i1 j0 j1) f3⟩
          · exact Or.inr ⟨fun hfit => f1 (fun i j i0 i1 j0 j1 => by have := hfit i j i0 i1 j0 j1; simp only at this ⊢; rw [hTe i j i0 i1 j0 j1]; exact this), f2, f3⟩
      · rw [if_neg (by omega), ← PR_at v2 p hj, z2]
    · refine fi_step (pc' := 23) m_De_solve rfl rfl ?_
      refine k_get (p := 26) m_De_solve rfl rfl (by first | exact C_print hC | exact C_minors hC | exact C_stairs hC | exact (CW_cst hC).2.1 | exact C_mat hC (by omega) | exact ((CW_cst hC).2.2.2.2.2.2 _ (by omega)).1 | assumption) rfl ?_
      refine fi_step (pc' := 27) m_De_solve rfl rfl ?_
      refine s_ic_ne (p := 30) m_De_solve rfl rfl (by omega) (by omega) (by omega) (by omega) (fun hbr => False.elim (by omega)) (fun hbr => ?_)
      refine fi_step (pc' := 32) m_De_solve rfl rfl ?_
      refine k_get (p := 35) m_De_solve rfl rfl (by first | exact C_print hC | exact C_minors hC | exact C_stairs hC | exact (CW_cst hC).2.1 | exact C_mat hC (by omega) | exact ((CW_cst hC).2.2.2.2.2.2 _ (by omega)).1 | assumption) rfl ?_
      refine fi_step (pc' := 37) m_De_solve rfl rfl ?_
      refine k_get (p := 40) m_De_solve rfl rfl (by first | exact C_print hC | exact C_minors hC | exact C_stairs hC | exact (CW_cst hC).2.1 | exact C_mat hC (by omega) | exact ((CW_cst hC).2.2.2.2.2.2 _ (by omega)).1 | assumption) rfl ?_
      refine s_ic_eq (p := 43) m_De_solve rfl rfl (by omega) (by omega) (by omega) (by omega) (fun hbr => False.elim (by omega)) (fun hbr => ?_)
      refine s_bipush (p := 45) m_De_solve rfl rfl rfl ?_
      refine p_reti m_De_solve rfl rfl ?_
      exact Or.inl ⟨fun h => h2 h.2, s, v, hC, hok, ⟨rfl, rfl⟩, rfl, rfl⟩
  · refine fi_step (pc' := 23) m_De_solve rfl rfl ?_
    refine k_get (p := 26) m_De_solve rfl rfl (by first | exact C_print hC | exact C_minors hC | exact C_stairs hC | exact (CW_cst hC).2.1 | exact C_mat hC (by omega) | exact ((CW_cst hC).2.2.2.2.2.2 _ (by omega)).1 | assumption) rfl ?_
    refine fi_step (pc' := 27) m_De_solve rfl rfl ?_
    refine s_ic_ne (p := 30) m_De_solve rfl rfl (by omega) (by omega) (by omega) (by omega) (fun hbr => ?_) (fun hbr => False.elim (by omega))
    refine s_bipush (p := 45) m_De_solve rfl rfl rfl ?_
    refine p_reti m_De_solve rfl rfl ?_
    exact Or.inl ⟨fun h => h1 h.1, s, v, hC, hok, ⟨rfl, rfl⟩, rfl, rfl⟩
theorem de_solveT {to a b : Int} (hC : CW w0 w s v L Z) (t0 : -2147483648 ≤ to) (t1 : to < 2147483648) (a0 : -2147483648 ≤ a) (a1 : a < 2147483648) (b0 : -2147483648 ≤ b) (b1 : b < 2147483648) (h : ¬ ((0 ≤ to ∧ to < 6) ∧ (0 ≤ a ∧ a < 6) ∧ (0 ≤ b ∧ b < 6))) (hfr : 8 ≤ fr) (hlo : 230 ≤ lo) : fin xs fr lo 81 0 (ax_ent [.ref 0, .int (jI to), .int (jI a), .int (jI b)] 10) [] w (Thr 9 w) := by
  refine fi_step (pc' := 1) m_De_solve rfl rfl ?_
  refine fi_step (pc' := 2) m_De_solve rfl rfl ?_
  by_cases h1 : 0 ≤ to ∧ to < 6
  · obtain ⟨to, rfl⟩ := Int.eq_ofNat_of_zero_le h1.1
    refine c_2 (p := 5) m_De_solve rfl inv_v (by decide) m_De_matrix rfl rfl (by omega) (by omega) (Nat.le_of_ble_eq_true rfl) (Nat.le_of_ble_eq_true rfl) (C_rcvD hC _) (de_matrix hC (show to < 6 by omega)) ?_
    refine fi_step (pc' := 7) m_De_solve rfl rfl ?_
    refine fi_step (pc' := 8) m_De_solve rfl rfl ?_
    refine fi_step (pc' := 9) m_De_solve rfl rfl ?_
    by_cases h2 : 0 ≤ a ∧ a < 6
    · obtain ⟨a, rfl⟩ := Int.eq_ofNat_of_zero_le h2.1
      refine c_2 (p := 12) m_De_solve rfl inv_v (by decide) m_De_matrix rfl rfl (by omega) (by omega) (Nat.le_of_ble_eq_true rfl) (Nat.le_of_ble_eq_true rfl) (C_rcvD hC _) (de_matrix hC (show a < 6 by omega)) ?_
      refine fi_step (pc' := 14) m_De_solve rfl rfl ?_
      refine fi_step (pc' := 15) m_De_solve rfl rfl ?_
      refine fi_step (pc' := 16) m_De_solve rfl rfl ?_
      exact t_2 m_De_solve rfl inv_v (by decide) m_De_matrix rfl (by omega) (by omega) (Nat.le_of_ble_eq_true rfl) (Nat.le_of_ble_eq_true rfl) (C_rcvD hC _) (de_matrixT b0 b1 (by omega) (by omega) (by omega)) rfl
    · exact t_2 m_De_solve rfl inv_v (by decide) m_De_matrix rfl (by omega) (by omega) (Nat.le_of_ble_eq_true rfl) (Nat.le_of_ble_eq_true rfl) (C_rcvD hC _) (de_matrixT a0 a1 h2 (by omega) (by omega)) rfl
  · exact t_2 m_De_solve rfl inv_v (by decide) m_De_matrix rfl (by omega) (by omega) (Nat.le_of_ble_eq_true rfl) (Nat.le_of_ble_eq_true rfl) (C_rcvD hC _) (de_matrixT t0 t1 h1 (by omega) (by omega)) rfl
end SOLVE
