/-! THE CLASS: check -/
section CHECK2
variable {xs : List Int32} {fr lo : Nat} {w0 w : ax_W} {s : mo_S} {v : Nat → Int} {L Z : Nat} {Q : Outcome → ax_W → Prop}
theorem ctf_in {a R C W r c : Nat} {v0 : Nat → Int} (hM : MI (rf s)) (ha : a < 6) (hR : s 2 a = R) (hCc : s 3 a = C) (hpm : prm s) (hr : r < R) (hc : c < C) (R6 : R ≤ 6) (C6 : C ≤ 6) (hKR : ∀ j : Int, ((rv s v0 r j).natAbs : Int) ≤ FBND) (hfr : 5 ≤ fr) (hlo : 270 ≤ lo) {F : Int → Int} (hF : F = fun k => s 1 (36 * a + 6 * k + c) * rv s v0 r (C + k))
    (K : ∀ (w : ax_W) (v : Nat → Int) (i : Int), CW w0 w s v L Z → kvo v0 v → v 419 = sumP F R → fin xs fr lo 113 86 [some (.ref 0), some (.ref (2 + 2 * a)), some (.int (jI (r : Int))), some (.int (jI (c : Int))), some (.int (jI i))] [] w Q) :
    ∀ (n i : Nat) (w : ax_W) (v : Nat → Int), i + n = R → CW w0 w s v L Z → kvo v0 v → v 419 = sumP F i →
    fin xs fr lo 113 30 [some (.ref 0), some (.ref (2 + 2 * a)), some (.int (jI (r : Int))), some (.int (jI (c : Int))), some (.int (jI (i : Int)))] [] w Q := by
  have hd := rf_dim hM ha
  have hp := hpm.1 r (by omega)
  have bF : ∀ k : Nat, k < R → ((F k).natAbs : Int) ≤ 1000000000000000000 * FBND := fun k hk => by
    rw [hF]
    have q := rf_num hM (x := 36 * a + 6 * k + c) (by omega) (by omega)
    exact mul_size (by omega) (hKR _)
  have big : (6 : Int) * (1000000000000000000 * FBND) < 1000000000 ^ 28 := by decide
  have hFB := FB_25
  have F0 : (0 : Int) ≤ 1000000000000000000 * FBND := by decide
  have hB3 : (1000000000 : Int) ^ 3 = 1000000000000000000000000000 := by decide
  intro n
  induction n with
  | zero =>
    intro i w v hi hC hv h4
    obtain rfl : i = R := by omega
    refine fi_step (pc' := 32) m_De_stepsComeToForm rfl rfl ?_
    refine fi_step (pc' := 33) m_De_stepsComeToForm rfl rfl ?_
    refine k_get (p := 36) m_De_stepsComeToForm rfl rfl (by first | exact C_print hC | exact C_minors hC | exact C_stairs hC | exact (CW_cst hC).2.1 | exact C_mat hC (by omega) | exact ((CW_cst hC).2.2.2.2.2.2 _ (by omega)).1 | assumption) rfl ?_
    refine s_ic_ge (p := 39) m_De_stepsComeToForm rfl rfl (by omega) (by omega) (by omega) (by omega) (fun hbr => ?_) (fun hbr => False.elim (by omega))
    exact K w v _ hC hv h4
  | succ n ih =>
    intro i w v hi hC hv h4
    have q := rf_num hM (x := 36 * a + (6 * i + c)) (by omega) (by omega)
    have iB : isWh (238 + 26 * (s 6 r).toNat + 2 * (C + i)) := i_row (by omega) (by omega)
    have eB : v (238 + 26 * (s 6 r).toNat + 2 * (C + i)) = rv s v0 r (C + i) := by
      rw [hv _ (by omega) (by omega) (by omega)]
      unfold rv
      rw [show (C : Int) + (i : Int) = ((C + i : Nat) : Int) by omega, PR_at v0 _ (by omega)]
    have bS : ((v 419).natAbs : Int) < 1000000000 ^ 28 := by
      rw [h4]
      have := sumP_bound (f := F) (n := i) (fun k hk => bF k (by omega))
      have h2 : (i : Int) * (1000000000000000000 * FBND) ≤ 6 * (1000000000000000000 * FBND) := Int.mul_le_mul_of_nonneg_right (by omega) F0
      omega
    have bB := hKR (C + i)
    refine fi_step (pc' := 32) m_De_stepsComeToForm rfl rfl ?_
    refine fi_step (pc' := 33) m_De_stepsComeToForm rfl rfl ?_
    refine k_get (p := 36) m_De_stepsComeToForm rfl rfl (by first | exact C_print hC | exact C_minors hC | exact C_stairs hC | exact (CW_cst hC).2.1 | exact C_mat hC (by omega) | exact ((CW_cst hC).2.2.2.2.2.2 _ (by omega)).1 | assumption) rfl ?_
    refine s_ic_ge (p := 39) m_De_stepsComeToForm rfl rfl (by omega) (by omega) (by omega) (by omega) (fun hbr => False.elim (by omega)) (fun hbr => ?_)
    refine fi_step (pc' := 40) m_De_stepsComeToForm rfl rfl ?_
    refine k_get (p := 43) m_De_stepsComeToForm rfl rfl (by first | exact C_print hC | exact C_minors hC | exact C_stairs hC | exact (CW_cst hC).2.1 | exact C_mat hC (by omega) | exact ((CW_cst hC).2.2.2.2.2.2 _ (by omega)).1 | assumption) rfl ?_
    refine fi_step (pc' := 44) m_De_stepsComeToForm rfl rfl ?_
    refine fi_step (pc' := 46) m_De_stepsComeToForm rfl rfl ?_
    refine fi_step (pc' := 47) m_De_stepsComeToForm rfl rfl ?_
    refine c_3 (p := 50) m_De_stepsComeToForm rfl inv_v (by decide) m_Ma_number rfl rfl (by omega) (by omega) (Nat.le_of_ble_eq_true rfl) (Nat.le_of_ble_eq_true rfl) (C_rcvM hC (by omega) _) (ma_number (i := (i : Int)) (j := (c : Int)) hC (show a < 7 by omega) hd (by omega) (by omega) (by omega) (by omega) (by omega) (by omega)) ?_
    refine g_2 (p := 53) m_De_stepsComeToForm rfl inv_v (by decide) m_Wh_becomeJ rfl rfl (by omega) (by omega) (Nat.le_of_ble_eq_true rfl) (Nat.le_of_ble_eq_true rfl) (C_rcvW hC (by first | assumption | exact rfl) _) (cn_becomeJ hC i421 (by omega) (by omega) (by omega) (by omega)) (fun v w hP => ?_)
    obtain ⟨rfl, hC⟩ := hP
    refine fi_step (pc' := 54) m_De_stepsComeToForm rfl rfl ?_
    refine k_get (p := 57) m_De_stepsComeToForm rfl rfl (by first | exact C_print hC | exact C_minors hC | exact C_stairs hC | exact (CW_cst hC).2.1 | exact C_mat hC (by omega) | exact ((CW_cst hC).2.2.2.2.2.2 _ (by omega)).1 | assumption) rfl ?_
    refine fi_step (pc' := 58) m_De_stepsComeToForm rfl rfl ?_
    refine k_get (p := 61) m_De_stepsComeToForm rfl rfl (by first | exact C_print hC | exact C_minors hC | exact C_stairs hC | exact (CW_cst hC).2.1 | exact C_mat hC (by omega) | exact ((CW_cst hC).2.2.2.2.2.2 _ (by omega)).1 | assumption) rfl ?_
    refine fi_step (pc' := 62) m_De_stepsComeToForm rfl rfl ?_
    refine k_get (p := 65) m_De_stepsComeToForm rfl rfl (by first | exact C_print hC | exact C_minors hC | exact C_stairs hC | exact (CW_cst hC).2.1 | exact C_mat hC (by omega) | exact ((CW_cst hC).2.2.2.2.2.2 _ (by omega)).1 | assumption) rfl ?_
    refine fi_step (pc' := 66) m_De_stepsComeToForm rfl rfl ?_
    refine fi_step (pc' := 67) m_De_stepsComeToForm rfl rfl ?_
    refine k_get (p := 70) m_De_stepsComeToForm rfl rfl (by first | exact C_print hC | exact C_minors hC | exact C_stairs hC | exact (CW_cst hC).2.1 | exact C_mat hC (by omega) | exact ((CW_cst hC).2.2.2.2.2.2 _ (by omega)).1 | assumption) rfl ?_
    refine fi_step (pc' := 72) m_De_stepsComeToForm rfl rfl ?_
    refine s_iadd (p := 73) m_De_stepsComeToForm rfl rfl ?_
    rw [hCc, show (C : Int) + (i : Int) = ((C + i : Nat) : Int) by omega]
    refine c_3 (p := 76) m_De_stepsComeToForm rfl inv_v (by decide) m_St_number rfl rfl (by omega) (by omega) (Nat.le_of_ble_eq_true rfl) (Nat.le_of_ble_eq_true rfl) (C_rcvS hC _) (st_number hC (by omega) (by omega) hp) ?_
    refine fi_step (pc' := 77) m_De_stepsComeToForm rfl rfl ?_
    obtain ⟨A, hA⟩ : ∃ A, A = s 1 (36 * a + (6 * i + c)) := ⟨_, rfl⟩
    rw [← hA] at hC q
    have u1 : upv v 421 A 421 = A := upv_same _ _ _
    have u2 : upv v 421 A 419 = v 419 := upv_ne _ (by decide) _
    have u3 : upv v 421 A (238 + 26 * (s 6 r).toNat + 2 * (C + i)) = rv s v0 r (C + i) := by rw [upv_ne _ (by omega)]; exact eB
    refine g_4 (p := 80) m_De_stepsComeToForm rfl inv_v (by decide) m_Wh_addProduct rfl rfl (by omega) (by omega) (Nat.le_of_ble_eq_true rfl) (Nat.le_of_ble_eq_true rfl) (C_rcvW hC (by first | assumption | exact rfl) _) (cn_addProduct (sg := 1) (k0 := 28) (k1 := 3) (k2 := 25) hC i419 i421 iB (by decide) (by omega) (Or.inl rfl) (by rw [u2]; exact bS) (by rw [u1]; omega) (by rw [u3]; omega) (by rw [cap419]; omega) (by rw [cap419]; omega) (by omega) (by omega)) (fun v w hP => ?_)
    obtain ⟨rfl, hC⟩ := hP
    rw [u1, u2, u3] at hC
    refine s_iinc (p := 83) m_De_stepsComeToForm rfl rfl rfl ?_
    refine fi_step (pc' := 30) m_De_stepsComeToForm rfl rfl ?_
    rw [show (i : Int) + 1 = ((i + 1 : Nat) : Int) by omega]
    refine ih (i + 1) w _ (by omega) hC (fun j j1 j2 j3 => by rw [upv_ne _ j1, upv_ne _ j2]; exact hv j j1 j2 j3) ?_
    rw [upv_same, sumP, h4, hF, hA, Int.one_mul, show 36 * (a : Int) + (6 * (i : Int) + c) = 36 * a + 6 * i + c by omega]
theorem ctf_loop {a R C W : Nat} {v0 : Nat → Int} {s0 : mo_S} (hM : MI (rf s)) (ha : a < 6) (hR : s 2 a = R) (hCc : s 3 a = C) (h1 : s0 1 = s 1) (h3 : s0 3 a = C) (hpm : prm s) (R1 : 1 ≤ R) (C1 : 1 ≤ C) (R6 : R ≤ 6) (C6 : C ≤ 6) (hE : EC s v0 W R 0 465 (fam (ldV s0 a 0) R 0)) (hKR : KR s v0 W 0 R FBND) (hfr : 5 ≤ fr) (hlo : 270 ≤ lo) :
    ∀ (f r c : Nat) (w : ax_W) (v : Nat → Int) (y4 : Option Value), (R - r) * 7 + (C - c) ≤ f → r < R → c ≤ C → CW w0 w s v L Z → kvo v0 v →
    fin xs fr lo 113 12 [some (.ref 0), some (.ref (2 + 2 * a)), some (.int (jI (r : Int))), some (.int (jI (c : Int))), y4] [] w (Ret fun u w' => u = some (.int (jI 1)) ∧ ∃ v', CW w0 w' s v' L Z ∧ kvo v0 v') := by
  intro f
  induction f with
  | zero => intro r c w v y4 hf hr hc; omega
  | succ f ih =>
    intro r c w v y4 hf hr hc hC hv
    by_cases hlt : c < C
    · have hp := hpm.1 r (by omega)
      have bR := (hKR r (by omega) hr).2.2.2.2.1
      have iB : isWh (238 + 26 * (s 6 r).toNat + 2 * c) := i_row (by omega) (by omega)
      have hsum : sumP (fun k => s 1 (36 * a + 6 * k + c) * rv s v0 r (C + k)) R = rv s v0 r c := by
        have hx : sp (fam (ldV s0 a 0) R 0) (rv s v0 r) := (hE.2.2.2.2 _).mp (sp_mem (fam_mem.mpr ⟨r, by omega, by omega, rfl⟩))
        rw [steps_form h3 hx (j := (c : Int)) (by omega) (by omega), h1]
      have hFB := FB_25
      have hbc := bR c
      have h28 : (1000000000 : Int) ^ 25 ≤ 1000000000 ^ 28 := by decide
      refine fi_step (pc' := 13) m_De_stepsComeToForm rfl rfl ?_
      refine fi_step (pc' := 14) m_De_stepsComeToForm rfl rfl ?_
      refine k_get (p := 17) m_De_stepsComeToForm rfl rfl (by first | exact C_print hC | exact C_minors hC | exact C_stairs hC | exact (CW_cst hC).2.1 | exact C_mat hC (by omega) | exact ((CW_cst hC).2.2.2.2.2.2 _ (by omega)).1 | assumption) rfl ?_
      refine s_ic_ge (p := 20) m_De_stepsComeToForm rfl rfl (by omega) (by omega) (by omega) (by omega) (fun hbr => False.elim (by omega)) (fun hbr => ?_)
      refine fi_step (pc' := 21) m_De_stepsComeToForm rfl rfl ?_
      refine k_get (p := 24) m_De_stepsComeToForm rfl rfl (by first | exact C_print hC | exact C_minors hC | exact C_stairs hC | exact (CW_cst hC).2.1 | exact C_mat hC (by omega) | exact ((CW_cst hC).2.2.2.2.2.2 _ (by omega)).1 | assumption) rfl ?_
      refine g_1 (p := 27) m_De_stepsComeToForm rfl inv_v (by decide) m_Wh_clear rfl rfl (by omega) (by omega) (Nat.le_of_ble_eq_true rfl) (Nat.le_of_ble_eq_true rfl) (C_rcvW hC (by first | assumption | exact rfl) _) (cn_clear hC i419) (fun v w hP => ?_)
      obtain ⟨rfl, hC⟩ := hP
      refine fi_step (pc' := 28) m_De_stepsComeToForm rfl rfl ?_
      refine fi_step (pc' := 30) m_De_stepsComeToForm rfl rfl ?_
      refine ctf_in (R := R) (C := C) (W := W) (r := r) (c := c) (v0 := v0) hM ha hR hCc hpm hr hlt R6 C6 bR hfr hlo rfl (fun w v i hC hv h4 => ?_) R 0 w _ (by omega) hC (fun j j1 j2 j3 => by rw [upv_ne _ j1]; exact hv j j1 j2 j3) (by rw [upv_same, sumP])
      rw [hsum] at h4
      have eB : v (238 + 26 * (s 6 r).toNat + 2 * c) = rv s v0 r c := by
        rw [hv _ (by omega) (by omega) (by omega)]
        unfold rv
        rw [PR_at v0 _ (by omega)]
      refine fi_step (pc' := 87) m_De_stepsComeToForm rfl rfl ?_
      refine k_get (p := 90) m_De_stepsComeToForm rfl rfl (by first | exact C_print hC | exact C_minors hC | exact C_stairs hC | exact (CW_cst hC).2.1 | exact C_mat hC (by omega) | exact ((CW_cst hC).2.2.2.2.2.2 _ (by omega)).1 | assumption) rfl ?_
      refine fi_step (pc' := 91) m_De_stepsComeToForm rfl rfl ?_
      refine k_get (p := 94) m_De_stepsComeToForm rfl rfl (by first | exact C_print hC | exact C_minors hC | exact C_stairs hC | exact (CW_cst hC).2.1 | exact C_mat hC (by omega) | exact ((CW_cst hC).2.2.2.2.2.2 _ (by omega)).1 | assumption) rfl ?_
      refine fi_step (pc' := 95) m_De_stepsComeToForm rfl rfl ?_
      refine fi_step (pc' := 96) m_De_stepsComeToForm rfl rfl ?_
      refine c_3 (p := 99) m_De_stepsComeToForm rfl inv_v (by decide) m_St_number rfl rfl (by omega) (by omega) (Nat.le_of_ble_eq_true rfl) (Nat.le_of_ble_eq_true rfl) (C_rcvS hC _) (st_number hC (by omega) (by omega) hp) ?_
      refine fi_step (pc' := 100) m_De_stepsComeToForm rfl rfl ?_
      refine g_3 (p := 103) m_De_stepsComeToForm rfl inv_v (by decide) m_Wh_add rfl rfl (by omega) (by omega) (Nat.le_of_ble_eq_true rfl) (Nat.le_of_ble_eq_true rfl) (C_rcvW hC (by first | assumption | exact rfl) _) (cn_add (sg := -1) (k1 := 25) (k2 := 25) hC i419 iB (by omega) (Or.inr rfl) (by rw [h4]; exact Int.lt_of_le_of_lt hbc hFB.1) (by rw [eB]; exact Int.lt_of_le_of_lt hbc hFB.1) (by rw [cap419]; omega) (by rw [cap419]; omega) (by omega) (by omega)) (fun v w hP => ?_)
      obtain ⟨rfl, hC⟩ := hP
      rw [h4, eB] at hC
      have u0 : upv v 419 (rv s v0 r c + -1 * rv s v0 r c) 419 = 0 := by rw [upv_same]; omega
      have hz := cn_isZero (xs := xs) (fr := fr - 1) (lo := lo - 20) hC i419
      refine fi_step (pc' := 104) m_De_stepsComeToForm rfl rfl ?_
      refine k_get (p := 107) m_De_stepsComeToForm rfl rfl (by first | exact C_print hC | exact C_minors hC | exact C_stairs hC | exact (CW_cst hC).2.1 | exact C_mat hC (by omega) | exact ((CW_cst hC).2.2.2.2.2.2 _ (by omega)).1 | assumption) rfl ?_
      refine c_1 (p := 110) m_De_stepsComeToForm rfl inv_v (by decide) m_Wh_isZero rfl rfl (by omega) (by omega) (Nat.le_of_ble_eq_true rfl) (Nat.le_of_ble_eq_true rfl) (C_rcvW hC (by first | assumption | exact rfl) _) (cn_isZero hC i419) ?_
      rw [if_pos u0]
      refine s_if_ne (p := 113) m_De_stepsComeToForm rfl rfl (by omega) (by omega) (fun hbr => ?_) (fun hbr => False.elim (by omega))
      refine s_iinc (p := 118) m_De_stepsComeToForm rfl rfl rfl ?_
      refine fi_step (pc' := 12) m_De_stepsComeToForm rfl rfl ?_
      rw [show (c : Int) + 1 = ((c + 1 : Nat) : Int) by omega]
      exact ih r (c + 1) w _ _ (by omega) hr (by omega) hC (fun j j1 j2 j3 => by rw [upv_ne _ j1]; exact hv j j1 j2 j3)
    · by_cases hi : r + 1 < R
      · refine fi_step (pc' := 13) m_De_stepsComeToForm rfl rfl ?_
        refine fi_step (pc' := 14) m_De_stepsComeToForm rfl rfl ?_
        refine k_get (p := 17) m_De_stepsComeToForm rfl rfl (by first | exact C_print hC | exact C_minors hC | exact C_stairs hC | exact (CW_cst hC).2.1 | exact C_mat hC (by omega) | exact ((CW_cst hC).2.2.2.2.2.2 _ (by omega)).1 | assumption) rfl ?_
        refine s_ic_ge (p := 20) m_De_stepsComeToForm rfl rfl (by omega) (by omega) (by omega) (by omega) (fun hbr => ?_) (fun hbr => False.elim (by omega))
        refine s_iinc (p := 124) m_De_stepsComeToForm rfl rfl rfl ?_
        refine fi_step (pc' := 2) m_De_stepsComeToForm rfl rfl ?_
        rw [show (r : Int) + 1 = ((r + 1 : Nat) : Int) by omega]
        refine fi_step (pc' := 3) m_De_stepsComeToForm rfl rfl ?_
        refine fi_step (pc' := 4) m_De_stepsComeToForm rfl rfl ?_
        refine k_get (p := 7) m_De_stepsComeToForm rfl rfl (by first | exact C_print hC | exact C_minors hC | exact C_stairs hC | exact (CW_cst hC).2.1 | exact C_mat hC (by omega) | exact ((CW_cst hC).2.2.2.2.2.2 _ (by omega)).1 | assumption) rfl ?_
        refine s_ic_ge (p := 10) m_De_stepsComeToForm rfl rfl (by omega) (by omega) (by omega) (by omega) (fun hbr => False.elim (by omega)) (fun hbr => ?_)
        refine fi_step (pc' := 11) m_De_stepsComeToForm rfl rfl ?_
        refine fi_step (pc' := 12) m_De_stepsComeToForm rfl rfl ?_
        exact ih (r + 1) 0 w v _ (by omega) hi (by omega) hC hv
      · refine fi_step (pc' := 13) m_De_stepsComeToForm rfl rfl ?_
        refine fi_step (pc' := 14) m_De_stepsComeToForm rfl rfl ?_
        refine k_get (p := 17) m_De_stepsComeToForm rfl rfl (by first | exact C_print hC | exact C_minors hC | exact C_stairs hC | exact (CW_cst hC).2.1 | exact C_mat hC (by omega) | exact ((CW_cst hC).2.2.2.2.2.2 _ (by omega)).1 | assumption) rfl ?_
        refine s_ic_ge (p := 20) m_De_stepsComeToForm rfl rfl (by omega) (by omega) (by omega) (by omega) (fun hbr => ?_) (fun hbr => False.elim (by omega))
        refine s_iinc (p := 124) m_De_stepsComeToForm rfl rfl rfl ?_
        refine fi_step (pc' := 2) m_De_stepsComeToForm rfl rfl ?_
        refine fi_step (pc' := 3) m_De_stepsComeToForm rfl rfl ?_
        refine fi_step (pc' := 4) m_De_stepsComeToForm rfl rfl ?_
        refine k_get (p := 7) m_De_stepsComeToForm rfl rfl (by first | exact C_print hC | exact C_minors hC | exact C_stairs hC | exact (CW_cst hC).2.1 | exact C_mat hC (by omega) | exact ((CW_cst hC).2.2.2.2.2.2 _ (by omega)).1 | assumption) rfl ?_
        refine s_ic_ge (p := 10) m_De_stepsComeToForm rfl rfl (by omega) (by omega) (by omega) (by omega) (fun hbr => ?_) (fun hbr => False.elim (by omega))
        refine fi_step (pc' := 128) m_De_stepsComeToForm rfl rfl ?_
        refine p_retb m_De_stepsComeToForm rfl rfl (by first | exact Or.inl rfl | exact Or.inr rfl | omega) ?_
        exact ⟨rfl, v, hC, hv⟩
theorem gb_loop {a R C W p : Nat} {v0 : Nat → Int} {s0 : mo_S} (hok : okC s v0) (ha : a < 6) (hR : s 2 a = R) (hCc : s 3 a = C) (h1 : s 1 = s0 1) (h2 : s 2 = s0 2) (h3' : s 3 = s0 3) (hpm : prm s) (R6 : R ≤ 6) (C6 : C ≤ 6) (hWe : R + C = W) (h3 : s 0 3 = R) (hW : s 0 4 = W) (ep : s 6 R = p) (hE : EC s v0 W R 0 465 (fam (ldV s0 a 0) R 0)) (hKR : KR s v0 W 0 R FBND) (hfr : 8 ≤ fr) (hlo : 370 ≤ lo) :
    ∀ (n i : Nat) (w : ax_W) (v : Nat → Int) (y4 : Option Value), i + n = R → CW w0 w s v L Z → kpL p v0 v →
    fin xs fr lo 114 12 [some (.ref 0), some (.ref (2 + 2 * a)), some (.int (jI (W : Int))), some (.int (jI (i : Int))), y4] [] w (Ret fun u w' => u = some (.int (jI 1)) ∧ ∃ v', CW w0 w' s v' L Z ∧ kpL p v0 v') := by
  have hp : p < 7 := by have := hpm.1 R (by omega); omega
  have hfar : ∀ i : Nat, i < R → (s 6 i).toNat ≠ p := fun i hi => by
    have := rv_ne hpm (show i < 7 by omega) (show R < 7 by omega) (by omega)
    rw [ep, Int.toNat_natCast] at this
    exact this
  have hF25 := FB_25
  intro n
  induction n with
  | zero =>
    intro i w v y4 hi hC hk
    obtain rfl : i = R := by omega
    refine fi_step (pc' := 13) m_De_stepsGoBack rfl rfl ?_
    refine fi_step (pc' := 14) m_De_stepsGoBack rfl rfl ?_
    refine k_get (p := 17) m_De_stepsGoBack rfl rfl (by first | exact C_print hC | exact C_minors hC | exact C_stairs hC | exact (CW_cst hC).2.1 | exact C_mat hC (by omega) | exact ((CW_cst hC).2.2.2.2.2.2 _ (by omega)).1 | assumption) rfl ?_
    refine s_ic_ge (p := 20) m_De_stepsGoBack rfl rfl (by omega) (by omega) (by omega) (by omega) (fun hbr => ?_) (fun hbr => False.elim (by omega))
    refine fi_step (pc' := 70) m_De_stepsGoBack rfl rfl ?_
    refine p_retb m_De_stepsGoBack rfl rfl (by first | exact Or.inl rfl | exact Or.inr rfl | omega) ?_
    exact ⟨rfl, v, hC, hk⟩
  | succ n ih =>
    intro i w v y4 hi hC hk
    have hi0 : (i : Int) < (if (0 : Int) = 1 then s 3 a else s 2 a) := by rw [if_neg (by decide)]; omega
    refine fi_step (pc' := 13) m_De_stepsGoBack rfl rfl ?_
    refine fi_step (pc' := 14) m_De_stepsGoBack rfl rfl ?_
    refine k_get (p := 17) m_De_stepsGoBack rfl rfl (by first | exact C_print hC | exact C_minors hC | exact C_stairs hC | exact (CW_cst hC).2.1 | exact C_mat hC (by omega) | exact ((CW_cst hC).2.2.2.2.2.2 _ (by omega)).1 | assumption) rfl ?_
    refine s_ic_ge (p := 20) m_De_stepsGoBack rfl rfl (by omega) (by omega) (by omega) (by omega) (fun hbr => False.elim (by omega)) (fun hbr => ?_)
    refine fi_step (pc' := 21) m_De_stepsGoBack rfl rfl ?_
    refine k_get (p := 24) m_De_stepsGoBack rfl rfl (by first | exact C_print hC | exact C_minors hC | exact C_stairs hC | exact (CW_cst hC).2.1 | exact C_mat hC (by omega) | exact ((CW_cst hC).2.2.2.2.2.2 _ (by omega)).1 | assumption) rfl ?_
    refine g_1 (p := 27) m_De_stepsGoBack rfl inv_v (by decide) m_St_spareRow rfl rfl (by omega) (by omega) (Nat.le_of_ble_eq_true rfl) (Nat.le_of_ble_eq_true rfl) (C_rcvS hC _) (st_spareRow (n := R) hC h3 (by omega) (hpm.1 R (by omega)) (by omega) (by omega)) (fun v w hP => ?_)
    obtain ⟨rfl, v1, hC, k1, z1⟩ := hP
    rw [ep, Int.toNat_natCast] at k1 z1 ⊢
    refine fi_step (pc' := 29) m_De_stepsGoBack rfl rfl ?_
    refine fi_step (pc' := 30) m_De_stepsGoBack rfl rfl ?_
    refine k_get (p := 33) m_De_stepsGoBack rfl rfl (by first | exact C_print hC | exact C_minors hC | exact C_stairs hC | exact (CW_cst hC).2.1 | exact C_mat hC (by omega) | exact ((CW_cst hC).2.2.2.2.2.2 _ (by omega)).1 | assumption) rfl ?_
    refine fi_step (pc' := 35) m_De_stepsGoBack rfl rfl ?_
    refine fi_step (pc' := 36) m_De_stepsGoBack rfl rfl ?_
    refine fi_step (pc' := 37) m_De_stepsGoBack rfl rfl ?_
    refine fi_step (pc' := 38) m_De_stepsGoBack rfl rfl ?_
    refine g_5 (p := 41) m_De_stepsGoBack rfl inv_v (by decide) m_St_load rfl rfl (by omega) (by omega) (Nat.le_of_ble_eq_true rfl) (Nat.le_of_ble_eq_true rfl) (C_rcvS hC _) (st_load (tn := 0) (i := i) hC hok.1 ha hp (Or.inl rfl) hi0 (by omega) (by omega)) (fun v w hP => ?_)
    obtain ⟨rfl, v2, hC, k2, l2⟩ := hP
    have kk : kpL p v0 v2 := kpL_trans hk (kpL_trans (kpR_L k1) (kpR_L k2))
    have v27 : v2 27 = 1 := by rw [kk 27 (fun j hj => by omega) (by omega) (by omega)]; exact hok.2.1
    have hK2 : KR s v2 W 0 R FBND := KR_keep hKR kk (fun i _ hi => hfar i hi)
    have hrows : ∀ i : Nat, i < R → PR v2 (s 6 i).toNat = rv s v0 i := fun i hi => kpL_PR kk (hfar i hi)
    refine fi_step (pc' := 42) m_De_stepsGoBack rfl rfl ?_
    refine k_get (p := 45) m_De_stepsGoBack rfl rfl (by first | exact C_print hC | exact C_minors hC | exact C_stairs hC | exact (CW_cst hC).2.1 | exact C_mat hC (by omega) | exact ((CW_cst hC).2.2.2.2.2.2 _ (by omega)).1 | assumption) rfl ?_
    refine fi_step (pc' := 47) m_De_stepsGoBack rfl rfl ?_
    refine fi_step (pc' := 48) m_De_stepsGoBack rfl rfl ?_
    refine g_3 (p := 51) m_De_stepsGoBack rfl inv_v (by decide) m_St_settle rfl rfl (by omega) (by omega) (Nat.le_of_ble_eq_true rfl) (Nat.le_of_ble_eq_true rfl) (C_rcvS hC _) (st_settle (t := 25) (f := 0) (n := R) (W := W) (M := FBND) hC (by omega) (by omega) v27 hp (by omega) (by omega) h3 hW (by omega) hF25.1 hK2 (fun i _ hi => ⟨hfar i hi, hpm.1 i (by omega)⟩) (by omega) (by omega) (fun j => by rw [l2]; exact Int.lt_of_le_of_lt (ldV_size hok.1 ha hi0 j) (by decide))) (fun v w hP => ?_)
    obtain ⟨rfl, v3, hC, k3, _, t3⟩ := hP
    have kk3 : kpL p v0 v3 := kpL_trans kk k3
    have hz : ∀ j : Int, PR v3 p j = 0 := by
      have hd := t3.2.2
      rw [Nat.sub_zero, fam_congr (fun i _ hi => hrows i (by omega)), l2, ldV_congr h1 h2 h3'] at hd
      have hx : sp (fam (rv s v0) R 0) (ldV s0 a 0 i) := (hE.2.2.2.2 _).mpr (sp_mem (fam_mem.mpr ⟨i, by omega, by omega, rfl⟩))
      have hx' : sp (fam (rv s v0) R 0) (PR v3 p) := sp_ext (sp_sub hx hd) (fun j => by omega)
      rw [← hl_vv (fun i => s 5 i) (rv s v0) R 0] at hx'
      refine ech_small (EC_ech hE) hx' (fun q hq => ?_)
      obtain ⟨k, _, hk', rfl⟩ := hl_mem.mp hq
      have := t3.1 k (by omega) (by omega)
      rw [hrows k (by omega)] at this
      simp only
      omega
    refine fi_step (pc' := 53) m_De_stepsGoBack rfl rfl ?_
    refine fi_step (pc' := 54) m_De_stepsGoBack rfl rfl ?_
    refine g_2 (p := 57) m_De_stepsGoBack rfl inv_v (by decide) m_Ro_lead rfl rfl (by omega) (by omega) (Nat.le_of_ble_eq_true rfl) (Nat.le_of_ble_eq_true rfl) (C_rcvR hC (by omega) _) (ro_lead (E := W) hC hp (by omega) (by omega) (by omega)) (fun v w hP => ?_)
    obtain ⟨rfl, ld, rfl, hld⟩ := hP
    have hldW : ¬ ld < W := fun h => hld.2.2 h (hz ld)
    have hld1 := hld.1
    refine fi_step (pc' := 58) m_De_stepsGoBack rfl rfl ?_
    refine s_ic_ge (p := 61) m_De_stepsGoBack rfl rfl (by omega) (by omega) (by omega) (by omega) (fun hbr => ?_) (fun hbr => False.elim (by omega))
    refine s_iinc (p := 66) m_De_stepsGoBack rfl rfl rfl ?_
    refine fi_step (pc' := 12) m_De_stepsGoBack rfl rfl ?_
    rw [show (i : Int) + 1 = ((i + 1 : Nat) : Int) by omega]
    exact ih (i + 1) w v3 _ (by omega) hC kk3
theorem rsq_loop {R C : Nat} {v0 : Nat → Int} {T : Nat → Nat → Int} (hpm : prm s) (R1 : 1 ≤ R) (R6 : R ≤ 6) (C6 : C ≤ 6) (hT : T = fun (i j : Nat) => v0 (238 + 26 * (s 6 i).toNat + 2 * (C + j))) (hb : ∀ i j, i < R → j < R → ((T i j).natAbs : Int) ≤ FBND) (hfr : 2 ≤ fr) (hlo : 130 ≤ lo) :
    ∀ (f i j : Nat) (w : ax_W) (v : Nat → Int), (R - i) * 7 + (R - j) ≤ f → i < R → j ≤ R → CW w0 w (lkS s R R) v L Z → (∀ c, (c < 31 ∨ 102 < c) → v c = v0 c) → (∀ i' j' : Nat, j' < R → (i' < i ∨ (i' = i ∧ j' < j)) → v (31 + 2 * (6 * i' + j')) = T i' j') →
    fin xs fr lo 116 25 [some (.ref 29), some (.ref 232), some (.int (jI (C : Int))), some (.int (jI (R : Int))), some (.int (jI (i : Int))), some (.int (jI (j : Int)))] [] w (Ret fun u w' => u = none ∧ ∃ v', CW w0 w' (lkS s R R) v' L Z ∧ (∀ c, (c < 31 ∨ 102 < c) → v' c = v0 c) ∧ ∀ i' j' : Nat, i' < R → j' < R → v' (31 + 2 * (6 * i' + j')) = T i' j') := by
  have e01 := lkS_1 s R R
  have e02 := lkS_2 s R R
  have e6 : lkS s R R 6 = s 6 := lkS_o s R R (by decide)
  have hF25 := FB_25
  intro f
  induction f with
  | zero => intro i j w v hf hi hj; omega
  | succ f ih =>
    intro i j w v hf hi hj hC hk hd
    by_cases hlt : j < R
    · have hp := hpm.1 i (by omega)
      have iA : isWh (31 + 2 * (6 * i + j)) := i_num (by omega)
      have iB : isWh (238 + 26 * (s 6 i).toNat + 2 * (C + j)) := i_row (by omega) (by omega)
      have eB : v (238 + 26 * (s 6 i).toNat + 2 * (C + j)) = T i j := by rw [hk _ (by omega), hT]
      have hbij := hb i j hi hlt
      refine fi_step (pc' := 27) m_Mi_readSquare rfl rfl ?_
      refine fi_step (pc' := 28) m_Mi_readSquare rfl rfl ?_
      refine k_get (p := 31) m_Mi_readSquare rfl rfl (by first | exact C_print hC | exact C_minors hC | exact C_stairs hC | exact (CW_cst hC).2.1 | exact C_mat hC (by omega) | exact ((CW_cst hC).2.2.2.2.2.2 _ (by omega)).1 | assumption) rfl ?_
      refine s_ic_ge (p := 34) m_Mi_readSquare rfl rfl (by omega) (by omega) (by omega) (by omega) (fun hbr => False.elim (by omega)) (fun hbr => ?_)
      refine fi_step (pc' := 35) m_Mi_readSquare rfl rfl ?_
      refine k_get (p := 38) m_Mi_readSquare rfl rfl (by first | exact C_print hC | exact C_minors hC | exact C_stairs hC | exact (CW_cst hC).2.1 | exact C_mat hC (by omega) | exact ((CW_cst hC).2.2.2.2.2.2 _ (by omega)).1 | assumption) rfl ?_
      refine fi_step (pc' := 40) m_Mi_readSquare rfl rfl ?_
      refine s_bipush (p := 42) m_Mi_readSquare rfl rfl rfl ?_
      refine s_imul (p := 43) m_Mi_readSquare rfl rfl ?_
      refine fi_step (pc' := 45) m_Mi_readSquare rfl rfl ?_
      refine s_iadd (p := 46) m_Mi_readSquare rfl rfl ?_
      refine i_ldN (p := 47) m_Mi_readSquare rfl rfl hC (by omega) (by omega) ?_
      rw [show ((i : Int) * 6 + j).toNat = 6 * i + j by omega]
      refine fi_step (pc' := 48) m_Mi_readSquare rfl rfl ?_
      refine fi_step (pc' := 50) m_Mi_readSquare rfl rfl ?_
      refine fi_step (pc' := 51) m_Mi_readSquare rfl rfl ?_
      refine fi_step (pc' := 53) m_Mi_readSquare rfl rfl ?_
      refine s_iadd (p := 54) m_Mi_readSquare rfl rfl ?_
      rw [show (C : Int) + (j : Int) = ((C + j : Nat) : Int) by omega]
      refine c_3 (p := 57) m_Mi_readSquare rfl inv_v (by decide) m_St_number rfl rfl (by omega) (by omega) (Nat.le_of_ble_eq_true rfl) (Nat.le_of_ble_eq_true rfl) (C_rcvS hC _) (st_number hC (by omega) (by omega) (by rw [e6]; exact hp)) ?_
      rw [e6]
      refine g_2 (p := 60) m_Mi_readSquare rfl inv_v (by decide) m_Wh_becomeW rfl rfl (by omega) (by omega) (Nat.le_of_ble_eq_true rfl) (Nat.le_of_ble_eq_true rfl) (C_rcvW hC (by first | assumption | exact rfl) _) (cn_becomeW (k := 25) hC iA iB (by omega) (by rw [eB]; exact Int.lt_of_le_of_lt hbij hF25.1) (by rw [cap_num (by omega)]; omega) (by omega) (by omega)) (fun v w hP => ?_)
      obtain ⟨rfl, hC⟩ := hP
      rw [eB] at hC
      refine s_iinc (p := 63) m_Mi_readSquare rfl rfl rfl ?_
      refine fi_step (pc' := 25) m_Mi_readSquare rfl rfl ?_
      rw [show (j : Int) + 1 = ((j + 1 : Nat) : Int) by omega]
      refine ih i (j + 1) w _ (by omega) hi (by omega) hC (fun c hc => by rw [upv_ne _ (by omega), hk c hc]) (fun i' j' b1 hlt' => ?_)
      by_cases e : i' = i ∧ j' = j
      · rw [e.1, e.2, upv_same]
      · rw [upv_ne _ (by omega)]; exact hd i' j' b1 (by omega)
    · by_cases hi' : i + 1 < R
      · refine fi_step (pc' := 27) m_Mi_readSquare rfl rfl ?_
        refine fi_step (pc' := 28) m_Mi_readSquare rfl rfl ?_
        refine k_get (p := 31) m_Mi_readSquare rfl rfl (by first | exact C_print hC | exact C_minors hC | exact C_stairs hC | exact (CW_cst hC).2.1 | exact C_mat hC (by omega) | exact ((CW_cst hC).2.2.2.2.2.2 _ (by omega)).1 | assumption) rfl ?_
        refine s_ic_ge (p := 34) m_Mi_readSquare rfl rfl (by omega) (by omega) (by omega) (by omega) (fun hbr => ?_) (fun hbr => False.elim (by omega))
        refine s_iinc (p := 69) m_Mi_readSquare rfl rfl rfl ?_
        refine fi_step (pc' := 13) m_Mi_readSquare rfl rfl ?_
        rw [show (i : Int) + 1 = ((i + 1 : Nat) : Int) by omega]
        refine fi_step (pc' := 15) m_Mi_readSquare rfl rfl ?_
        refine fi_step (pc' := 16) m_Mi_readSquare rfl rfl ?_
        refine k_get (p := 19) m_Mi_readSquare rfl rfl (by first | exact C_print hC | exact C_minors hC | exact C_stairs hC | exact (CW_cst hC).2.1 | exact C_mat hC (by omega) | exact ((CW_cst hC).2.2.2.2.2.2 _ (by omega)).1 | assumption) rfl ?_
        refine s_ic_ge (p := 22) m_Mi_readSquare rfl rfl (by omega) (by omega) (by omega) (by omega) (fun hbr => False.elim (by omega)) (fun hbr => ?_)
        refine fi_step (pc' := 23) m_Mi_readSquare rfl rfl ?_
        refine fi_step (pc' := 25) m_Mi_readSquare rfl rfl ?_
        exact ih (i + 1) 0 w v (by omega) hi' (by omega) hC hk (fun i' j' b1 hlt => hd i' j' b1 (by omega))
      · refine fi_step (pc' := 27) m_Mi_readSquare rfl rfl ?_
        refine fi_step (pc' := 28) m_Mi_readSquare rfl rfl ?_
        refine k_get (p := 31) m_Mi_readSquare rfl rfl (by first | exact C_print hC | exact C_minors hC | exact C_stairs hC | exact (CW_cst hC).2.1 | exact C_mat hC (by omega) | exact ((CW_cst hC).2.2.2.2.2.2 _ (by omega)).1 | assumption) rfl ?_
        refine s_ic_ge (p := 34) m_Mi_readSquare rfl rfl (by omega) (by omega) (by omega) (by omega) (fun hbr => ?_) (fun hbr => False.elim (by omega))
        refine s_iinc (p := 69) m_Mi_readSquare rfl rfl rfl ?_
        refine fi_step (pc' := 13) m_Mi_readSquare rfl rfl ?_
        refine fi_step (pc' := 15) m_Mi_readSquare rfl rfl ?_
        refine fi_step (pc' := 16) m_Mi_readSquare rfl rfl ?_
        refine k_get (p := 19) m_Mi_readSquare rfl rfl (by first | exact C_print hC | exact C_minors hC | exact C_stairs hC | exact (CW_cst hC).2.1 | exact C_mat hC (by omega) | exact ((CW_cst hC).2.2.2.2.2.2 _ (by omega)).1 | assumption) rfl ?_
        refine s_ic_ge (p := 22) m_Mi_readSquare rfl rfl (by omega) (by omega) (by omega) (by omega) (fun hbr => ?_) (fun hbr => False.elim (by omega))
        refine p_ret m_Mi_readSquare rfl rfl ?_
        exact ⟨rfl, v, hC, hk, fun i' j' a1 b1 => hd i' j' b1 (by omega)⟩
theorem mi_readSquare {R C : Nat} {T : Nat → Nat → Int} (hC : CW w0 w s v L Z) (hpm : prm s) (R1 : 1 ≤ R) (R6 : R ≤ 6) (C6 : C ≤ 6) (hT : T = fun (i j : Nat) => v (238 + 26 * (s 6 i).toNat + 2 * (C + j))) (hb : ∀ i j, i < R → j < R → ((T i j).natAbs : Int) ≤ FBND) (hfr : 2 ≤ fr) (hlo : 130 ≤ lo) :
    fin xs fr lo 116 0 (ax_ent [.ref 29, .ref 232, .int (jI (C : Int)), .int (jI (R : Int))] 6) [] w (Ret fun u w' => u = none ∧ ∃ v', CW w0 w' (lkS s R R) v' L Z ∧ (∀ c, (c < 31 ∨ 102 < c) → v' c = v c) ∧ ∀ i' j' : Nat, i' < R → j' < R → v' (31 + 2 * (6 * i' + j')) = T i' j') := by
  refine fi_step (pc' := 1) m_Mi_readSquare rfl rfl ?_
  refine fi_step (pc' := 2) m_Mi_readSquare rfl rfl ?_
  refine c_put33 (p := 5) m_Mi_readSquare rfl rfl hC (fun w hC => ?_)
  refine fi_step (pc' := 6) m_Mi_readSquare rfl rfl ?_
  refine fi_step (pc' := 7) m_Mi_readSquare rfl rfl ?_
  refine c_put34 (p := 10) m_Mi_readSquare rfl rfl hC (fun w hC => ?_)
  refine fi_step (pc' := 11) m_Mi_readSquare rfl rfl ?_
  refine fi_step (pc' := 13) m_Mi_readSquare rfl rfl ?_
  have hC : CW w0 w (lkS s R R) v L Z := hC
  have e01 := lkS_1 s R R
  refine fi_step (pc' := 15) m_Mi_readSquare rfl rfl ?_
  refine fi_step (pc' := 16) m_Mi_readSquare rfl rfl ?_
  refine k_get (p := 19) m_Mi_readSquare rfl rfl (by first | exact C_print hC | exact C_minors hC | exact C_stairs hC | exact (CW_cst hC).2.1 | exact C_mat hC (by omega) | exact ((CW_cst hC).2.2.2.2.2.2 _ (by omega)).1 | assumption) rfl ?_
  refine s_ic_ge (p := 22) m_Mi_readSquare rfl rfl (by omega) (by omega) (by omega) (by omega) (fun hbr => False.elim (by omega)) (fun hbr => ?_)
  refine fi_step (pc' := 23) m_Mi_readSquare rfl rfl ?_
  refine fi_step (pc' := 25) m_Mi_readSquare rfl rfl ?_
  exact rsq_loop hpm R1 R6 C6 hT hb hfr hlo 100 0 0 w v (by omega) (by omega) (by omega) hC (fun _ _ => rfl) (fun i' j' _ h => by omega)
theorem de_unit {a R C W : Nat} {s0 : mo_S} (hC : CW w0 w s v L Z) (hok : okC s v) (ha : a < 6) (hR : s 2 a = R) (hCc : s 3 a = C) (h3 : s0 3 a = C) (hpm : prm s) (R1 : 1 ≤ R) (R6 : R ≤ 6) (C6 : C ≤ 6) (hE : EC s v W R 0 465 (fam (ldV s0 a 0) R 0)) (hKR : KR s v W 0 R FBND) (hfr : 8 ≤ fr) (hlo : 370 ≤ lo) :
    fin xs fr lo 115 0 (ax_ent [.ref 0, .ref (2 + 2 * a)] 2) [] w (Ret fun u w' => u = some (.int (jI 1)) ∧ ∃ s' v', CW w0 w' s' v' L Z ∧ okC s' v' ∧ kpM s s' ∧ rf s' = rf s) := by
  have hp2 := S_pow R6
  have hpos : (0 : Int) < 2 ^ R := Int.pow_pos (by decide)
  have hall := els_all ⟨R, by omega⟩
  simp only at hall
  obtain ⟨T, hT⟩ : ∃ T : Nat → Nat → Int, T = fun (i j : Nat) => v (238 + 26 * (s 6 i).toNat + 2 * (C + j)) := ⟨_, rfl⟩
  have hTr : ∀ i j : Nat, i < R → j < R → T i j = rv s v i (C + j) := fun i j hi hj => by
    rw [hT]
    unfold rv
    rw [show (C : Int) + (j : Int) = ((C + j : Nat) : Int) by omega, PR_at v _ (by omega)]
  obtain ⟨g, hg⟩ : ∃ g : Int → Int, ∀ i j : Nat, i < R → j < R → g (12 * i + j) = T i j := ⟨fun x => T (x / 12).toNat (x % 12).toNat, fun i j hi hj => by
    simp only
    rw [show ((12 * (i : Int) + j) / 12).toNat = i by omega, show ((12 * (i : Int) + j) % 12).toNat = j by omega]⟩
  have hb : ∀ i j, i < R → j < R → ((T i j).natAbs : Int) ≤ FBND := fun i j hi hj => by rw [hTr i j hi hj]; exact (hKR i (by omega) hi).2.2.2.2.1 _
  have hdet := unit_det (g := g) R6 h3 hE (fun i j hi hj => by rw [hg i j hi hj, hTr i j hi hj])
  have hF25 := FB_25
  refine fi_step (pc' := 1) m_De_stepsHaveUnitDeterminant rfl rfl ?_
  refine k_get (p := 4) m_De_stepsHaveUnitDeterminant rfl rfl (by first | exact C_print hC | exact C_minors hC | exact C_stairs hC | exact (CW_cst hC).2.1 | exact C_mat hC (by omega) | exact ((CW_cst hC).2.2.2.2.2.2 _ (by omega)).1 | assumption) rfl ?_
  refine fi_step (pc' := 5) m_De_stepsHaveUnitDeterminant rfl rfl ?_
  refine k_get (p := 8) m_De_stepsHaveUnitDeterminant rfl rfl (by first | exact C_print hC | exact C_minors hC | exact C_stairs hC | exact (CW_cst hC).2.1 | exact C_mat hC (by omega) | exact ((CW_cst hC).2.2.2.2.2.2 _ (by omega)).1 | assumption) rfl ?_
  refine fi_step (pc' := 9) m_De_stepsHaveUnitDeterminant rfl rfl ?_
  refine k_get (p := 12) m_De_stepsHaveUnitDeterminant rfl rfl (by first | exact C_print hC | exact C_minors hC | exact C_stairs hC | exact (CW_cst hC).2.1 | exact C_mat hC (by omega) | exact ((CW_cst hC).2.2.2.2.2.2 _ (by omega)).1 | assumption) rfl ?_
  refine fi_step (pc' := 13) m_De_stepsHaveUnitDeterminant rfl rfl ?_
  refine k_get (p := 16) m_De_stepsHaveUnitDeterminant rfl rfl (by first | exact C_print hC | exact C_minors hC | exact C_stairs hC | exact (CW_cst hC).2.1 | exact C_mat hC (by omega) | exact ((CW_cst hC).2.2.2.2.2.2 _ (by omega)).1 | assumption) rfl ?_
  rw [hR, hCc]
  refine g_4 (p := 19) m_De_stepsHaveUnitDeterminant rfl inv_v (by decide) m_Mi_readSquare rfl rfl (by omega) (by omega) (Nat.le_of_ble_eq_true rfl) (Nat.le_of_ble_eq_true rfl) (C_rcvI hC _) (mi_readSquare hC hpm R1 R6 C6 hT hb (by omega) (by omega)) (fun v w hP => ?_)
  obtain ⟨rfl, v1, hC, k1, n1⟩ := hP
  have hok1 := okC_lk (R := (R : Int)) (C := (R : Int)) hok (k1 27 (by omega)) (k1 104 (by omega))
  have e2 : lkS s R R 2 a = R := by rw [lkS_o _ _ _ (by decide)]; exact hR
  have hNG : NG v1 g R R FBND 25 := ⟨fun i j hi hj => by rw [n1 i j hi hj, hg i j hi hj]; exact ⟨rfl, hb i j hi hj⟩, by decide, hF25.1, by omega⟩
  refine fi_step (pc' := 20) m_De_stepsHaveUnitDeterminant rfl rfl ?_
  refine k_get (p := 23) m_De_stepsHaveUnitDeterminant rfl rfl (by first | exact C_print hC | exact C_minors hC | exact C_stairs hC | exact (CW_cst hC).2.1 | exact C_mat hC (by omega) | exact ((CW_cst hC).2.2.2.2.2.2 _ (by omega)).1 | assumption) rfl ?_
  refine fi_step (pc' := 24) m_De_stepsHaveUnitDeterminant rfl rfl ?_
  refine k_get (p := 27) m_De_stepsHaveUnitDeterminant rfl rfl (by first | exact C_print hC | exact C_minors hC | exact C_stairs hC | exact (CW_cst hC).2.1 | exact C_mat hC (by omega) | exact ((CW_cst hC).2.2.2.2.2.2 _ (by omega)).1 | assumption) rfl ?_
  refine fi_step (pc' := 28) m_De_stepsHaveUnitDeterminant rfl rfl ?_
  refine k_get (p := 31) m_De_stepsHaveUnitDeterminant rfl rfl (by first | exact C_print hC | exact C_minors hC | exact C_stairs hC | exact (CW_cst hC).2.1 | exact C_mat hC (by omega) | exact ((CW_cst hC).2.2.2.2.2.2 _ (by omega)).1 | assumption) rfl ?_
  rw [e2]
  refine c_1 (p := 34) m_De_stepsHaveUnitDeterminant rfl inv_s (by decide) m_De_all rfl rfl (by omega) (by omega) (Nat.le_of_ble_eq_true rfl) (Nat.le_of_ble_eq_true rfl) rfl (de_all R6) ?_
  refine fi_step (pc' := 35) m_De_stepsHaveUnitDeterminant rfl rfl ?_
  refine k_get (p := 38) m_De_stepsHaveUnitDeterminant rfl rfl (by first | exact C_print hC | exact C_minors hC | exact C_stairs hC | exact (CW_cst hC).2.1 | exact C_mat hC (by omega) | exact ((CW_cst hC).2.2.2.2.2.2 _ (by omega)).1 | assumption) rfl ?_
  rw [e2]
  refine c_1 (p := 41) m_De_stepsHaveUnitDeterminant rfl inv_s (by decide) m_De_all rfl rfl (by omega) (by omega) (Nat.le_of_ble_eq_true rfl) (Nat.le_of_ble_eq_true rfl) rfl (de_all R6) ?_
  refine g_3 (p := 44) m_De_stepsHaveUnitDeterminant rfl inv_v (by decide) m_Mi_minor rfl rfl (by omega) (by omega) (Nat.le_of_ble_eq_true rfl) (Nat.le_of_ble_eq_true rfl) (C_rcvI hC _) (mi_minor (R := R) (C := R) (rs := 2 ^ R - 1) (cs' := 2 ^ R - 1) hC (by omega) (by omega) (lkS_1 _ _ _) (lkS_2 _ _ _) R6 R6 (by omega) (by omega) (by omega) (by omega) hNG (by rw [k1 104 (by omega)]; exact hok.2.2.1) (by rw [hall.1])) (fun v w hP => ?_)
  obtain ⟨rfl, v2, hC, n2, k2⟩ := hP
  obtain ⟨x, hx⟩ : ∃ x : Nat, x = ((2 : Int) ^ R - 1).toNat := ⟨_, rfl⟩
  rw [← hx] at n2 ⊢
  have iA : isWh (104 + 2 * x) := isWh_iff.mpr (by omega)
  have hone : (v2 (104 + 2 * x)).natAbs = 1 := by rw [n2]; exact hdet
  refine g_2 (p := 47) m_De_stepsHaveUnitDeterminant rfl inv_v (by decide) m_Wh_becomeW rfl rfl (by omega) (by omega) (Nat.le_of_ble_eq_true rfl) (Nat.le_of_ble_eq_true rfl) (C_rcvW hC (by first | assumption | exact rfl) _) (cn_becomeW (k := 1) hC i419 iA (by omega) (by rw [hone]; decide) (by rw [cap419]; omega) (by omega) (by omega)) (fun v w hP => ?_)
  obtain ⟨rfl, hC⟩ := hP
  obtain ⟨w1, hS, _, mk⟩ := CW_SN hC
  obtain ⟨d, cap, f, k, b, e, cp, g', m, q, hw, W1, _, _, _, _, _, _, _, _, back⟩ := SN_raw hS i419 i421 (by omega)
  rw [upv_same] at W1
  refine fi_step (pc' := 48) m_De_stepsHaveUnitDeterminant rfl rfl ?_
  refine k_get (p := 51) m_De_stepsHaveUnitDeterminant rfl rfl (by first | exact C_print hC | exact C_minors hC | exact C_stairs hC | exact (CW_cst hC).2.1 | exact C_mat hC (by omega) | exact ((CW_cst hC).2.2.2.2.2.2 _ (by omega)).1 | assumption) rfl ?_
  refine fi_step (pc' := 52) m_De_stepsHaveUnitDeterminant rfl rfl ?_
  refine t_put2 (p := 55) m_De_stepsHaveUnitDeterminant rfl rfl (by assumption) (by first | exact Or.inl rfl | exact Or.inr rfl | assumption | omega) (fun w hw => ?_)
  have hS2 := back w f k 0 _ hw (Wv_pos W1) (by omega)
  have hC := mk _ _ hS2
  rw [hone] at hC
  obtain ⟨v3, hv3⟩ : ∃ v3, v3 = upv (upv v2 419 (v2 (104 + 2 * x))) 419 ((1 : Nat) : Int) := ⟨_, rfl⟩
  rw [← hv3] at hC
  have h419 : v3 419 = 1 := by rw [hv3, upv_same]; rfl
  have hio := cn_isOne (xs := xs) (fr := fr - 1) (lo := lo - 20) hC i419
  refine fi_step (pc' := 56) m_De_stepsHaveUnitDeterminant rfl rfl ?_
  refine k_get (p := 59) m_De_stepsHaveUnitDeterminant rfl rfl (by first | exact C_print hC | exact C_minors hC | exact C_stairs hC | exact (CW_cst hC).2.1 | exact C_mat hC (by omega) | exact ((CW_cst hC).2.2.2.2.2.2 _ (by omega)).1 | assumption) rfl ?_
  refine c_1 (p := 62) m_De_stepsHaveUnitDeterminant rfl inv_v (by decide) m_Wh_isOne rfl rfl (by omega) (by omega) (Nat.le_of_ble_eq_true rfl) (Nat.le_of_ble_eq_true rfl) (C_rcvW hC (by first | assumption | exact rfl) _) (cn_isOne hC i419) ?_
  rw [if_pos h419]
  refine p_retb m_De_stepsHaveUnitDeterminant rfl rfl (by first | exact Or.inl rfl | exact Or.inr rfl | omega) ?_
  have k27 : v3 27 = v 27 := by rw [hv3, upv_ne _ (by decide), upv_ne _ (by decide), kpm_low k2 (c := 27) (by omega), k1 27 (by omega)]
  have k104 : v3 104 = v 104 := by rw [hv3, upv_ne _ (by decide), upv_ne _ (by decide), kpm_low k2 (c := 104) (by omega), k1 104 (by omega)]
  have hok3 := okC_lk (R := (R : Int)) (C := (R : Int)) hok k27 k104
  exact ⟨rfl, _, v3, hC, hok3.1, hok3.2.1, hok3.2.2⟩
theorem de_check {a : Nat} (hC : CW w0 w s v L Z) (hok : okC s v) (ha : a < 6) (hfr : 9 ≤ fr) (hlo : 400 ≤ lo) :
    fin xs fr lo 110 0 (ax_ent [.ref 0, .int (jI (a : Int))] 3) [] w (Ret fun u w' => sameC w0 s v L Z 1 u w') := by
  obtain ⟨d1, d2, d3, d4⟩ := rf_dim hok.1 ha
  obtain ⟨R, hR⟩ := Int.eq_ofNat_of_zero_le (show 0 ≤ s 2 a by omega)
  obtain ⟨C, hCc⟩ := Int.eq_ofNat_of_zero_le (show 0 ≤ s 3 a by omega)
  refine fi_step (pc' := 1) m_De_check rfl rfl ?_
  refine fi_step (pc' := 2) m_De_check rfl rfl ?_
  refine c_2 (p := 5) m_De_check rfl inv_v (by decide) m_De_matrix rfl rfl (by omega) (by omega) (Nat.le_of_ble_eq_true rfl) (Nat.le_of_ble_eq_true rfl) (C_rcvD hC _) (de_matrix hC ha) ?_
  refine fi_step (pc' := 6) m_De_check rfl rfl ?_
  refine fi_step (pc' := 7) m_De_check rfl rfl ?_
  refine k_get (p := 10) m_De_check rfl rfl (by first | exact C_print hC | exact C_minors hC | exact C_stairs hC | exact (CW_cst hC).2.1 | exact C_mat hC (by omega) | exact ((CW_cst hC).2.2.2.2.2.2 _ (by omega)).1 | assumption) rfl ?_
  refine fi_step (pc' := 11) m_De_check rfl rfl ?_
  refine fi_step (pc' := 12) m_De_check rfl rfl ?_
  refine g_3 (p := 15) m_De_check rfl inv_v (by decide) m_St_climb rfl rfl (by omega) (by omega) (Nat.le_of_ble_eq_true rfl) (Nat.le_of_ble_eq_true rfl) (C_rcvS hC _) (st_climb (tn := 0) (H := R) (F := C) (W := R + C) hC hok ha (Or.inl rfl) (by rw [if_neg (by decide)]; exact hCc) (by rw [if_neg (by decide)]; exact hR) (by omega) (by omega) (by omega)) (fun v w hP => ?_)
  obtain ⟨rfl, s1, v1, hC, hs, hpm, hv, h3, hW, hE⟩ := hP
  obtain ⟨hok1, hrf, hkp⟩ := ok_climb hok hs hpm hv
  have q1 : s1 1 = s 1 := hs.1 1 (by decide) (by decide) (by decide)
  have q2 : s1 2 = s 2 := hs.1 2 (by decide) (by decide) (by decide)
  have q3 : s1 3 = s 3 := hs.1 3 (by decide) (by decide) (by decide)
  have e2 : s1 2 a = R := by rw [q2]; exact hR
  have e3 : s1 3 a = C := by rw [q3]; exact hCc
  have hKR := (EC_KR hE (fam_len _ _ _) (by omega) (ld_mK hok.1 ha (by rw [if_neg (by decide)]; omega))).1
  have hM1 : MI (rf s1) := by rw [hrf]; exact hok.1
  refine fi_step (pc' := 16) m_De_check rfl rfl ?_
  refine k_get (p := 19) m_De_check rfl rfl (by first | exact C_print hC | exact C_minors hC | exact C_stairs hC | exact (CW_cst hC).2.1 | exact C_mat hC (by omega) | exact ((CW_cst hC).2.2.2.2.2.2 _ (by omega)).1 | assumption) rfl ?_
  refine fi_step (pc' := 20) m_De_check rfl rfl ?_
  refine k_get (p := 23) m_De_check rfl rfl (by first | exact C_print hC | exact C_minors hC | exact C_stairs hC | exact (CW_cst hC).2.1 | exact C_mat hC (by omega) | exact ((CW_cst hC).2.2.2.2.2.2 _ (by omega)).1 | assumption) rfl ?_
  refine fi_step (pc' := 24) m_De_check rfl rfl ?_
  refine k_get (p := 27) m_De_check rfl rfl (by first | exact C_print hC | exact C_minors hC | exact C_stairs hC | exact (CW_cst hC).2.1 | exact C_mat hC (by omega) | exact ((CW_cst hC).2.2.2.2.2.2 _ (by omega)).1 | assumption) rfl ?_
  rw [e2, e3]
  refine c_3 (p := 30) m_De_check rfl inv_v (by decide) m_St_isHermite rfl rfl (by omega) (by omega) (Nat.le_of_ble_eq_true rfl) (Nat.le_of_ble_eq_true rfl) (C_rcvS hC _) (st_isHermite (H := R) (F := C) hC hpm hE (by omega) (by omega) (by omega) (by omega) (by omega)) ?_
  refine s_if_eq (p := 33) m_De_check rfl rfl (by omega) (by omega) (fun hbr => False.elim (by omega)) (fun hbr => ?_)
  refine fi_step (pc' := 34) m_De_check rfl rfl ?_
  refine fi_step (pc' := 35) m_De_check rfl rfl ?_
  have hctf : ∀ (fr lo : Nat), 5 ≤ fr → 270 ≤ lo → fin xs fr lo 113 0 (ax_ent [.ref 0, .ref (2 + 2 * a)] 5) [] w (Ret fun u w' => u = some (.int (jI 1)) ∧ ∃ v', CW w0 w' s1 v' L Z ∧ kvo v1 v') := by
    intro fr lo hfr hlo
    refine fi_step (pc' := 1) m_De_stepsComeToForm rfl rfl ?_
    refine fi_step (pc' := 2) m_De_stepsComeToForm rfl rfl ?_
    refine fi_step (pc' := 3) m_De_stepsComeToForm rfl rfl ?_
    refine fi_step (pc' := 4) m_De_stepsComeToForm rfl rfl ?_
    refine k_get (p := 7) m_De_stepsComeToForm rfl rfl (by first | exact C_print hC | exact C_minors hC | exact C_stairs hC | exact (CW_cst hC).2.1 | exact C_mat hC (by omega) | exact ((CW_cst hC).2.2.2.2.2.2 _ (by omega)).1 | assumption) rfl ?_
    refine s_ic_ge (p := 10) m_De_stepsComeToForm rfl rfl (by omega) (by omega) (by omega) (by omega) (fun hbr => False.elim (by omega)) (fun hbr => ?_)
    refine fi_step (pc' := 11) m_De_stepsComeToForm rfl rfl ?_
    refine fi_step (pc' := 12) m_De_stepsComeToForm rfl rfl ?_
    exact ctf_loop (R := R) (C := C) (W := R + C) (v0 := v1) (s0 := s) hM1 ha e2 e3 q1.symm hCc hpm (by omega) (by omega) (by omega) (by omega) hE hKR hfr hlo 100 0 0 w v1 _ (by omega) (by omega) (by omega) hC (fun _ _ _ _ => rfl)
  refine g_2 (p := 38) m_De_check rfl inv_v (by decide) m_De_stepsComeToForm rfl rfl (by omega) (by omega) (Nat.le_of_ble_eq_true rfl) (Nat.le_of_ble_eq_true rfl) (C_rcvD hC _) (hctf _ _ (by omega) (by omega)) (fun v w hP => ?_)
  obtain ⟨rfl, v2, hC, k2⟩ := hP
  have hrv : ∀ i, i < R → rv s1 v2 i = rv s1 v1 i := fun i hi => rv_same (fun c c1 c2 => k2 c (by omega) (by omega) (by omega)) hpm (by omega)
  have hE2 : EC s1 v2 (R + C) R 0 465 (fam (ldV s a 0) R 0) := EC_same hE rfl hrv
  have hKR2 : KR s1 v2 (R + C) 0 R FBND := fun i h1 h2 => by
    have := hKR i h1 h2
    have e : PR v2 (s1 6 i).toNat = PR v1 (s1 6 i).toNat := hrv i h2
    rw [e]; exact this
  have hok2 : okC s1 v2 := okC_v hok1 (k2 27 (by decide) (by decide) (by decide)) (k2 104 (by decide) (by decide) (by decide))
  obtain ⟨p, ep⟩ : ∃ p : Nat, s1 6 R = p := ⟨(s1 6 R).toNat, by have := hpm.1 R (by omega); omega⟩
  have hp : p < 7 := by have := hpm.1 R (by omega); omega
  have hgb : ∀ (fr lo : Nat), 8 ≤ fr → 370 ≤ lo → fin xs fr lo 114 0 (ax_ent [.ref 0, .ref (2 + 2 * a)] 5) [] w (Ret fun u w' => u = some (.int (jI 1)) ∧ ∃ v', CW w0 w' s1 v' L Z ∧ kpL p v2 v') := by
    intro fr lo hfr hlo
    refine fi_step (pc' := 1) m_De_stepsGoBack rfl rfl ?_
    refine k_get (p := 4) m_De_stepsGoBack rfl rfl (by first | exact C_print hC | exact C_minors hC | exact C_stairs hC | exact (CW_cst hC).2.1 | exact C_mat hC (by omega) | exact ((CW_cst hC).2.2.2.2.2.2 _ (by omega)).1 | assumption) rfl ?_
    refine fi_step (pc' := 5) m_De_stepsGoBack rfl rfl ?_
    refine k_get (p := 8) m_De_stepsGoBack rfl rfl (by first | exact C_print hC | exact C_minors hC | exact C_stairs hC | exact (CW_cst hC).2.1 | exact C_mat hC (by omega) | exact ((CW_cst hC).2.2.2.2.2.2 _ (by omega)).1 | assumption) rfl ?_
    refine s_iadd (p := 9) m_De_stepsGoBack rfl rfl ?_
    refine fi_step (pc' := 10) m_De_stepsGoBack rfl rfl ?_
    refine fi_step (pc' := 11) m_De_stepsGoBack rfl rfl ?_
    refine fi_step (pc' := 12) m_De_stepsGoBack rfl rfl ?_
    rw [e2, e3, show (C : Int) + (R : Int) = ((R + C : Nat) : Int) by omega]
    exact gb_loop (R := R) (C := C) (W := R + C) (p := p) (v0 := v2) (s0 := s) hok2 ha e2 e3 q1 q2 q3 hpm (by omega) (by omega) rfl h3 hW ep hE2 hKR2 hfr hlo R 0 w v2 _ (by omega) hC (fun _ _ _ _ => rfl)
  refine s_if_eq (p := 41) m_De_check rfl rfl (by omega) (by omega) (fun hbr => False.elim (by omega)) (fun hbr => ?_)
  refine fi_step (pc' := 42) m_De_check rfl rfl ?_
  refine fi_step (pc' := 43) m_De_check rfl rfl ?_
  refine g_2 (p := 46) m_De_check rfl inv_v (by decide) m_De_stepsGoBack rfl rfl (by omega) (by omega) (Nat.le_of_ble_eq_true rfl) (Nat.le_of_ble_eq_true rfl) (C_rcvD hC _) (hgb _ _ (by omega) (by omega)) (fun v w hP => ?_)
  obtain ⟨rfl, v3, hC, k3⟩ := hP
  have hfar : ∀ i : Nat, i < R → (s1 6 i).toNat ≠ p := fun i hi => by
    have := rv_ne hpm (show i < 7 by omega) (show R < 7 by omega) (by omega)
    rw [ep, Int.toNat_natCast] at this
    exact this
  have hrv3 : ∀ i, i < R → rv s1 v3 i = rv s1 v2 i := fun i hi => kpL_PR k3 (hfar i hi)
  have hE3 : EC s1 v3 (R + C) R 0 465 (fam (ldV s a 0) R 0) := EC_same hE2 rfl hrv3
  have hKR3 : KR s1 v3 (R + C) 0 R FBND := KR_keep hKR2 k3 (fun i _ hi => hfar i hi)
  have hok3 : okC s1 v3 := okC_v hok2 (k3 27 (fun j hj => by omega) (by omega) (by omega)) (k3 104 (fun j hj => by omega) (by omega) (by omega))
  refine s_if_eq (p := 49) m_De_check rfl rfl (by omega) (by omega) (fun hbr => False.elim (by omega)) (fun hbr => ?_)
  refine fi_step (pc' := 50) m_De_check rfl rfl ?_
  refine fi_step (pc' := 51) m_De_check rfl rfl ?_
  refine g_2 (p := 54) m_De_check rfl inv_v (by decide) m_De_stepsHaveUnitDeterminant rfl rfl (by omega) (by omega) (Nat.le_of_ble_eq_true rfl) (Nat.le_of_ble_eq_true rfl) (C_rcvD hC _) (de_unit (R := R) (C := C) (W := R + C) (s0 := s) hC hok3 ha e2 e3 hCc hpm (by omega) (by omega) (by omega) hE3 hKR3 (by omega) (by omega)) (fun v w hP => ?_)
  obtain ⟨rfl, s4, v4, hC, hok4, hkp4, hrf4⟩ := hP
  refine s_if_eq (p := 57) m_De_check rfl rfl (by omega) (by omega) (fun hbr => False.elim (by omega)) (fun hbr => ?_)
  refine fi_step (pc' := 58) m_De_check rfl rfl ?_
  refine fi_step (pc' := 62) m_De_check rfl rfl ?_
  refine p_reti m_De_check rfl rfl ?_
  exact ⟨s4, v4, hC, hok4, ⟨hkp4.1.trans hkp.1, hkp4.2.trans hkp.2⟩, hrf4.trans hrf, rfl⟩
theorem de_checkT {m : Int} (hC : CW w0 w s v L Z) (m0 : -2147483648 ≤ m) (m1 : m < 2147483648) (hm : ¬ (0 ≤ m ∧ m < 6)) (hfr : 8 ≤ fr) (hlo : 230 ≤ lo) : fin xs fr lo 110 0 (ax_ent [.ref 0, .int (jI m)] 3) [] w (Thr 9 w) := by
  refine fi_step (pc' := 1) m_De_check rfl rfl ?_
  refine fi_step (pc' := 2) m_De_check rfl rfl ?_
  exact t_2 m_De_check rfl inv_v (by decide) m_De_matrix rfl (by omega) (by omega) (Nat.le_of_ble_eq_true rfl) (Nat.le_of_ble_eq_true rfl) (C_rcvD hC _) (de_matrixT m0 m1 hm (by omega) (by omega)) rfl
end CHECK2
