/-! THE CLASS: products of matrices, turned matrices, equality -/
section MUL
variable {xs : List Int32} {fr lo : Nat} {w w0 : ax_W} {s : mo_S} {v : Nat → Int} {L Z : Nat}
theorem mulC_in {to a b : Nat} {i j R C K : Int} {v0 : Nat → Int} {g : Int → Int → Int} {Q : Outcome → ax_W → Prop} (hok : okC s v0) (ha : a < 6) (hb : b < 6) (eK : s 3 a = K) (eK' : s 2 b = K) (k1 : 1 ≤ K) (k6 : K ≤ 6) (eR : s 2 a = R) (eC : s 3 b = C) (r6 : R ≤ 6) (c6 : C ≤ 6) (i0 : 0 ≤ i) (i1 : i < R) (j0 : 0 ≤ j) (j1 : j < C) (hfr : 5 ≤ fr) (hlo : 300 ≤ lo) {F : Int → Int} (hF : F = fun k => s 1 (36 * a + 6 * i + k) * s 1 (36 * b + 6 * k + j))
    (KK : ∀ w v, CW w0 w (gvM s 6 R C g) v L Z → kvo v0 v → v 419 = sumP F K.toNat → fin xs fr lo 43 128 [some (.ref 0), some (.int (jI to)), some (.int (jI a)), some (.int (jI b)), some (.ref (2 + 2 * to)), some (.ref (2 + 2 * a)), some (.ref (2 + 2 * b)), some (.int (jI i)), some (.int (jI j)), some (.int (jI K))] [] w Q) :
    ∀ (n k : Nat) (w : ax_W) (v : Nat → Int), (k : Int) + n = K → CW w0 w (gvM s 6 R C g) v L Z → kvo v0 v → v 419 = sumP F k →
    fin xs fr lo 43 90 [some (.ref 0), some (.int (jI to)), some (.int (jI a)), some (.int (jI b)), some (.ref (2 + 2 * to)), some (.ref (2 + 2 * a)), some (.ref (2 + 2 * b)), some (.int (jI i)), some (.int (jI j)), some (.int (jI (k : Int)))] [] w Q := by
  intro n
  have e3 : gvM s 6 R C g 3 a = K := by rw [gv6_3 ha, eK]
  have e2 : gvM s 6 R C g 2 a = R := by rw [gv6_2 ha, eR]
  have e2b : gvM s 6 R C g 2 b = K := by rw [gv6_2 hb, eK']
  have e3b : gvM s 6 R C g 3 b = C := by rw [gv6_3 hb, eC]
  have hFb : ∀ k : Nat, (k : Int) < K → ((F k).natAbs : Int) ≤ 1000000000000000000 * 1000000000000000000 := by
    intro k hk
    rw [hF]
    have qa := rf_num hok.1 (x := 36 * a + 6 * i + k) (by omega) (by omega)
    have qb := rf_num hok.1 (x := 36 * b + 6 * k + j) (by omega) (by omega)
    exact mul_size (by omega) (by omega)
  induction n with
  | zero =>
    intro k w v hk hC hv hs
    have ek : (k : Int) = K := by omega
    refine fi_step (pc' := 92) m_De_multiply rfl rfl ?_
    refine fi_step (pc' := 94) m_De_multiply rfl rfl ?_
    refine k_get (p := 97) m_De_multiply rfl rfl (by first | exact C_print hC | exact C_minors hC | exact C_stairs hC | exact (CW_cst hC).2.1 | exact C_mat hC (by omega) | assumption) rfl ?_
    refine s_ic_ge (p := 100) m_De_multiply rfl rfl (by omega) (by omega) (by omega) (by omega) (fun hbr => ?_) (fun hbr => False.elim (by omega))
    rw [ek]
    refine KK w v hC hv ?_
    rw [hs, show K.toNat = k by omega]
  | succ n ih =>
    intro k w v hk hC hv hs
    have hb1 := sumP_bound (f := F) (b := 1000000000000000000 * 1000000000000000000) (n := k) (fun k' hk' => hFb k' (by omega))
    have qa := rf_num hok.1 (x := 36 * a + 6 * i + k) (by omega) (by omega)
    have qb := rf_num hok.1 (x := 36 * b + 6 * k + j) (by omega) (by omega)
    have hB : (1000000000 : Int) ^ 8 = 1000000000000000000000000000000000000000000000000000000000000000000000000 := by decide
    refine fi_step (pc' := 92) m_De_multiply rfl rfl ?_
    refine fi_step (pc' := 94) m_De_multiply rfl rfl ?_
    refine k_get (p := 97) m_De_multiply rfl rfl (by first | exact C_print hC | exact C_minors hC | exact C_stairs hC | exact (CW_cst hC).2.1 | exact C_mat hC (by omega) | assumption) rfl ?_
    refine s_ic_ge (p := 100) m_De_multiply rfl rfl (by omega) (by omega) (by omega) (by omega) (fun hbr => False.elim (by omega)) (fun hbr => ?_)
    refine fi_step (pc' := 101) m_De_multiply rfl rfl ?_
    refine fi_step (pc' := 103) m_De_multiply rfl rfl ?_
    refine fi_step (pc' := 105) m_De_multiply rfl rfl ?_
    refine fi_step (pc' := 107) m_De_multiply rfl rfl ?_
    refine c_3 (p := 110) m_De_multiply rfl inv_v (by decide) m_Ma_number rfl rfl (by omega) (by omega) (Nat.le_of_ble_eq_true rfl) (Nat.le_of_ble_eq_true rfl) (C_rcvM hC (by omega) _) (ma_number hC (show a < 7 by omega) ⟨by omega, by omega, by omega, by omega⟩ i0 (by omega) (by omega) (by omega) (by omega) (by omega)) ?_
    refine fi_step (pc' := 112) m_De_multiply rfl rfl ?_
    refine fi_step (pc' := 114) m_De_multiply rfl rfl ?_
    refine fi_step (pc' := 116) m_De_multiply rfl rfl ?_
    rw [gv6_1 ha i0 (by omega) (by omega) (by omega)]
    refine c_3 (p := 119) m_De_multiply rfl inv_v (by decide) m_Ma_number rfl rfl (by omega) (by omega) (Nat.le_of_ble_eq_true rfl) (Nat.le_of_ble_eq_true rfl) (C_rcvM hC (by omega) _) (ma_number hC (show b < 7 by omega) ⟨by omega, by omega, by omega, by omega⟩ (by omega) (by omega) j0 (by omega) (by omega) (by omega)) ?_
    rw [gv6_1 hb (by omega) (by omega) j0 (by omega)]
    refine g_3 (p := 122) m_De_multiply rfl inv_v (by decide) m_De_addToSum rfl rfl (by omega) (by omega) (Nat.le_of_ble_eq_true rfl) (Nat.le_of_ble_eq_true rfl) (C_rcvD hC _) (de_addToSum hC (by omega) (by omega) (by omega) (by omega) (by rw [hs]; omega) (by omega) (by omega)) (fun v w hP => ?_)
    obtain ⟨rfl, v1, hC, n1, k1'⟩ := hP
    refine s_iinc (p := 125) m_De_multiply rfl rfl rfl ?_
    refine fi_step (pc' := 90) m_De_multiply rfl rfl ?_
    refine ih (k + 1) w v1 (by omega) hC (kvo_trans hv k1') ?_
    rw [n1, hs, sumP, hF]
theorem mulC_loop {to a b : Nat} {R C K : Int} {v0 : Nat → Int} (hok : okC s v0) (ht : to < 6) (ha : a < 6) (hb : b < 6) (eR : s 2 a = R) (eC : s 3 b = C) (eK : s 3 a = K) (eK' : s 2 b = K) (r1 : 1 ≤ R) (r6 : R ≤ 6) (c1 : 1 ≤ C) (c6 : C ≤ 6) (k1 : 1 ≤ K) (k6 : K ≤ 6) (hfr : 5 ≤ fr) (hlo : 300 ≤ lo) {T : Int → Int → Int} (hT : T = fun i j => sumP (fun k => s 1 (36 * a + 6 * i + k) * s 1 (36 * b + 6 * k + j)) K.toNat) :
    ∀ (f : Nat) (i j : Int) (g : Int → Int → Int) (w : ax_W) (v : Nat → Int) (y9 : Option Value), (R - i) * 7 + (C - j) ≤ f → 0 ≤ i → i < R → 0 ≤ j → j ≤ C → CW w0 w (gvM s 6 R C g) v L Z → kvo v0 v → (∀ i' j', 0 ≤ i' → 0 ≤ j' → j' < C → (i' < i ∨ (i' = i ∧ j' < j)) → g i' j' = T i' j' ∧ (T i' j').natAbs < 1000000000000000000) →
    fin xs fr lo 43 70 [some (.ref 0), some (.int (jI to)), some (.int (jI a)), some (.int (jI b)), some (.ref (2 + 2 * to)), some (.ref (2 + 2 * a)), some (.ref (2 + 2 * b)), some (.int (jI i)), some (.int (jI j)), y9] [] w (Ret (madeC w0 s L Z to R C T 0)) := by
  intro f
  induction f with
  | zero => intro i j g w v y9 hf i0 i1 j0 j1; omega
  | succ f ih =>
    intro i j g w v y9 hf i0 i1 j0 j1 hC hv hg
    have e2 : gvM s 6 R C g 2 a = R := by rw [gv6_2 ha, eR]
    have e3b : gvM s 6 R C g 3 b = C := by rw [gv6_3 hb, eC]
    by_cases hj : j < C
    · refine fi_step (pc' := 72) m_De_multiply rfl rfl ?_
      refine fi_step (pc' := 74) m_De_multiply rfl rfl ?_
      refine k_get (p := 77) m_De_multiply rfl rfl (by first | exact C_print hC | exact C_minors hC | exact C_stairs hC | exact (CW_cst hC).2.1 | exact C_mat hC (by omega) | assumption) rfl ?_
      refine s_ic_ge (p := 80) m_De_multiply rfl rfl (by omega) (by omega) (by omega) (by omega) (fun hbr => False.elim (by omega)) (fun hbr => ?_)
      refine fi_step (pc' := 81) m_De_multiply rfl rfl ?_
      refine k_get (p := 84) m_De_multiply rfl rfl (by first | exact C_print hC | exact C_minors hC | exact C_stairs hC | exact (CW_cst hC).2.1 | exact C_mat hC (by omega) | assumption) rfl ?_
      refine g_1 (p := 87) m_De_multiply rfl inv_v (by decide) m_Wh_clear rfl rfl (by omega) (by omega) (Nat.le_of_ble_eq_true rfl) (Nat.le_of_ble_eq_true rfl) (C_rcvW hC (by first | assumption | exact rfl) _) (cn_clear hC i419) (fun v w hP => ?_)
      obtain ⟨rfl, hC⟩ := hP
      refine fi_step (pc' := 88) m_De_multiply rfl rfl ?_
      refine fi_step (pc' := 90) m_De_multiply rfl rfl ?_
      refine mulC_in hok ha hb eK eK' k1 k6 eR eC r6 c6 i0 i1 j0 hj hfr hlo rfl ?_ K.toNat 0 w _ (by omega) hC (fun q a1 a2 a3 => by rw [upv_ne _ a1, hv q a1 a2 a3]) (by rw [upv_same]; rfl)
      intro w v1 hC kk n2
      have hTij : v1 419 = T i j := by rw [n2, hT]
      refine fi_step (pc' := 129) m_De_multiply rfl rfl ?_
      refine k_get (p := 132) m_De_multiply rfl rfl (by first | exact C_print hC | exact C_minors hC | exact C_stairs hC | exact (CW_cst hC).2.1 | exact C_mat hC (by omega) | assumption) rfl ?_
      refine c_1 (p := 135) m_De_multiply rfl inv_v (by decide) m_Wh_fits rfl rfl (by omega) (by omega) (Nat.le_of_ble_eq_true rfl) (Nat.le_of_ble_eq_true rfl) (C_rcvW hC (by first | assumption | exact rfl) _) (cn_fits hC i419) ?_
      rw [hTij]
      by_cases hfit : (T i j).natAbs < 1000000000000000000
      · rw [if_pos hfit]
        refine s_if_ne (p := 138) m_De_multiply rfl rfl (by omega) (by omega) (fun hbr => ?_) (fun hbr => False.elim (by omega))
        refine fi_step (pc' := 142) m_De_multiply rfl rfl ?_
        refine k_get (p := 145) m_De_multiply rfl rfl (by first | exact C_print hC | exact C_minors hC | exact C_stairs hC | exact (CW_cst hC).2.1 | exact C_mat hC (by omega) | assumption) rfl ?_
        refine fi_step (pc' := 147) m_De_multiply rfl rfl ?_
        refine fi_step (pc' := 149) m_De_multiply rfl rfl ?_
        refine fi_step (pc' := 150) m_De_multiply rfl rfl ?_
        refine k_get (p := 153) m_De_multiply rfl rfl (by first | exact C_print hC | exact C_minors hC | exact C_stairs hC | exact (CW_cst hC).2.1 | exact C_mat hC (by omega) | assumption) rfl ?_
        refine c_1 (p := 156) m_De_multiply rfl inv_v (by decide) m_Wh_value rfl rfl (by omega) (by omega) (Nat.le_of_ble_eq_true rfl) (Nat.le_of_ble_eq_true rfl) (C_rcvW hC (by first | assumption | exact rfl) _) (cn_value hC i419 (by rw [hTij]; exact hfit)) ?_
        rw [hTij]
        refine g_4 (p := 159) m_De_multiply rfl inv_v (by decide) m_Ma_write rfl rfl (by omega) (by omega) (Nat.le_of_ble_eq_true rfl) (Nat.le_of_ble_eq_true rfl) (C_rcvM (m := 6) hC (by omega) _) (ma_write6 hC r1 r6 c1 c6 i0 i1 j0 hj (by omega) (by omega)) (fun v w hP => ?_)
        obtain ⟨rfl, hC⟩ := hP
        refine s_iinc (p := 162) m_De_multiply rfl rfl rfl ?_
        refine fi_step (pc' := 70) m_De_multiply rfl rfl ?_
        refine ih i (j + 1) _ w v1 _ (by omega) i0 i1 (by omega) (by omega) hC kk (fun i' j' a0 b0 b1 hlt => ?_)
        unfold upg
        by_cases e : i' = i ∧ j' = j
        · rw [if_pos e, e.1, e.2]; exact ⟨rfl, hfit⟩
        · rw [if_neg e]; exact hg i' j' a0 b0 b1 (by omega)
      · rw [if_neg hfit]
        refine s_if_ne (p := 138) m_De_multiply rfl rfl (by omega) (by omega) (fun hbr => False.elim (by omega)) (fun hbr => ?_)
        refine s_bipush (p := 140) m_De_multiply rfl rfl rfl ?_
        refine p_reti m_De_multiply rfl rfl ?_
        exact madeC_no hok (kk 27 (by decide) (by decide) (by decide)) (kk 104 (by decide) (by decide) (by decide)) hC i0 i1 j0 hj hfit
    · by_cases hi : i + 1 < R
      · refine fi_step (pc' := 72) m_De_multiply rfl rfl ?_
        refine fi_step (pc' := 74) m_De_multiply rfl rfl ?_
        refine k_get (p := 77) m_De_multiply rfl rfl (by first | exact C_print hC | exact C_minors hC | exact C_stairs hC | exact (CW_cst hC).2.1 | exact C_mat hC (by omega) | assumption) rfl ?_
        refine s_ic_ge (p := 80) m_De_multiply rfl rfl (by omega) (by omega) (by omega) (by omega) (fun hbr => ?_) (fun hbr => False.elim (by omega))
        refine s_iinc (p := 168) m_De_multiply rfl rfl rfl ?_
        refine fi_step (pc' := 57) m_De_multiply rfl rfl ?_
        refine fi_step (pc' := 59) m_De_multiply rfl rfl ?_
        refine fi_step (pc' := 61) m_De_multiply rfl rfl ?_
        refine k_get (p := 64) m_De_multiply rfl rfl (by first | exact C_print hC | exact C_minors hC | exact C_stairs hC | exact (CW_cst hC).2.1 | exact C_mat hC (by omega) | assumption) rfl ?_
        refine s_ic_ge (p := 67) m_De_multiply rfl rfl (by omega) (by omega) (by omega) (by omega) (fun hbr => False.elim (by omega)) (fun hbr => ?_)
        refine fi_step (pc' := 68) m_De_multiply rfl rfl ?_
        refine fi_step (pc' := 70) m_De_multiply rfl rfl ?_
        exact ih (i + 1) 0 g w v y9 (by omega) (by omega) hi (by omega) (by omega) hC hv (fun i' j' a0 b0 b1 hlt => hg i' j' a0 b0 b1 (by omega))
      · refine fi_step (pc' := 72) m_De_multiply rfl rfl ?_
        refine fi_step (pc' := 74) m_De_multiply rfl rfl ?_
        refine k_get (p := 77) m_De_multiply rfl rfl (by first | exact C_print hC | exact C_minors hC | exact C_stairs hC | exact (CW_cst hC).2.1 | exact C_mat hC (by omega) | assumption) rfl ?_
        refine s_ic_ge (p := 80) m_De_multiply rfl rfl (by omega) (by omega) (by omega) (by omega) (fun hbr => ?_) (fun hbr => False.elim (by omega))
        refine s_iinc (p := 168) m_De_multiply rfl rfl rfl ?_
        refine fi_step (pc' := 57) m_De_multiply rfl rfl ?_
        refine fi_step (pc' := 59) m_De_multiply rfl rfl ?_
        refine fi_step (pc' := 61) m_De_multiply rfl rfl ?_
        refine k_get (p := 64) m_De_multiply rfl rfl (by first | exact C_print hC | exact C_minors hC | exact C_stairs hC | exact (CW_cst hC).2.1 | exact C_mat hC (by omega) | assumption) rfl ?_
        refine s_ic_ge (p := 67) m_De_multiply rfl rfl (by omega) (by omega) (by omega) (by omega) (fun hbr => ?_) (fun hbr => False.elim (by omega))
        refine fi_step (pc' := 173) m_De_multiply rfl rfl ?_
        refine fi_step (pc' := 174) m_De_multiply rfl rfl ?_
        refine k_get (p := 177) m_De_multiply rfl rfl (by first | exact C_print hC | exact C_minors hC | exact C_stairs hC | exact (CW_cst hC).2.1 | exact C_mat hC (by omega) | assumption) rfl ?_
        refine g_2 (p := 180) m_De_multiply rfl inv_v (by decide) m_Ma_become rfl rfl (by omega) (by omega) (Nat.le_of_ble_eq_true rfl) (Nat.le_of_ble_eq_true rfl) (C_rcvM hC (by omega) _) (ma_become6 hC ht (by omega) (by omega)) (fun v w hP => ?_)
        obtain ⟨rfl, hC⟩ := hP
        refine fi_step (pc' := 181) m_De_multiply rfl rfl ?_
        refine p_reti m_De_multiply rfl rfl ?_
        exact madeC_ok hok (by omega) (by omega) r1 r6 c1 c6 (fun i' j' a0 a1 b0 b1 => hg i' j' a0 b0 b1 (by omega)) (hv 27 (by decide) (by decide) (by decide)) (hv 104 (by decide) (by decide) (by decide)) hC
theorem de_multiply {to a b : Nat} (hC : CW w0 w s v L Z) (hok : okC s v) (ht : to < 6) (ha : a < 6) (hb : b < 6) (hfr : 5 ≤ fr) (hlo : 300 ≤ lo) :
    fin xs fr lo 43 0 (ax_ent [.ref 0, .int (jI (to : Int)), .int (jI (a : Int)), .int (jI (b : Int))] 10) [] w (Ret fun u w' => (¬ s 3 a = s 2 b ∧ sameC w0 s v L Z (-2) u w') ∨ (s 3 a = s 2 b ∧ madeC w0 s L Z to (s 2 a) (s 3 b) (fun i j => sumP (fun k => s 1 (36 * a + 6 * i + k) * s 1 (36 * b + 6 * k + j)) (s 3 a).toNat) 0 u w')) := by
  have da := rf_dim hok.1 ha
  have db := rf_dim hok.1 hb
  obtain ⟨a1, a2, a3, a4⟩ := da
  obtain ⟨b1, b2, b3, b4⟩ := db
  refine fi_step (pc' := 1) m_De_multiply rfl rfl ?_
  refine fi_step (pc' := 2) m_De_multiply rfl rfl ?_
  refine c_2 (p := 5) m_De_multiply rfl inv_v (by decide) m_De_matrix rfl rfl (by omega) (by omega) (Nat.le_of_ble_eq_true rfl) (Nat.le_of_ble_eq_true rfl) (C_rcvD hC _) (de_matrix hC ht) ?_
  refine fi_step (pc' := 7) m_De_multiply rfl rfl ?_
  refine fi_step (pc' := 8) m_De_multiply rfl rfl ?_
  refine fi_step (pc' := 9) m_De_multiply rfl rfl ?_
  refine c_2 (p := 12) m_De_multiply rfl inv_v (by decide) m_De_matrix rfl rfl (by omega) (by omega) (Nat.le_of_ble_eq_true rfl) (Nat.le_of_ble_eq_true rfl) (C_rcvD hC _) (de_matrix hC ha) ?_
  refine fi_step (pc' := 14) m_De_multiply rfl rfl ?_
  refine fi_step (pc' := 15) m_De_multiply rfl rfl ?_
  refine fi_step (pc' := 16) m_De_multiply rfl rfl ?_
  refine c_2 (p := 19) m_De_multiply rfl inv_v (by decide) m_De_matrix rfl rfl (by omega) (by omega) (Nat.le_of_ble_eq_true rfl) (Nat.le_of_ble_eq_true rfl) (C_rcvD hC _) (de_matrix hC hb) ?_
  refine fi_step (pc' := 21) m_De_multiply rfl rfl ?_
  show fin xs fr lo 43 21 [some (.ref 0), some (.int (jI to)), some (.int (jI a)), some (.int (jI b)), some (.ref (2 + 2 * to)), some (.ref (2 + 2 * a)), some (.ref (2 + 2 * b)), none, none, none] [] w _
  by_cases h1 : s 3 a = s 2 b
  · refine fi_step (pc' := 23) m_De_multiply rfl rfl ?_
    refine k_get (p := 26) m_De_multiply rfl rfl (by first | exact C_print hC | exact C_minors hC | exact C_stairs hC | exact (CW_cst hC).2.1 | exact C_mat hC (by omega) | assumption) rfl ?_
    refine fi_step (pc' := 28) m_De_multiply rfl rfl ?_
    refine k_get (p := 31) m_De_multiply rfl rfl (by first | exact C_print hC | exact C_minors hC | exact C_stairs hC | exact (CW_cst hC).2.1 | exact C_mat hC (by omega) | assumption) rfl ?_
    refine s_ic_eq (p := 34) m_De_multiply rfl rfl (by omega) (by omega) (by omega) (by omega) (fun hbr => ?_) (fun hbr => False.elim (by omega))
    refine fi_step (pc' := 38) m_De_multiply rfl rfl ?_
    refine k_get (p := 41) m_De_multiply rfl rfl (by first | exact C_print hC | exact C_minors hC | exact C_stairs hC | exact (CW_cst hC).2.1 | exact C_mat hC (by omega) | assumption) rfl ?_
    refine fi_step (pc' := 43) m_De_multiply rfl rfl ?_
    refine k_get (p := 46) m_De_multiply rfl rfl (by first | exact C_print hC | exact C_minors hC | exact C_stairs hC | exact (CW_cst hC).2.1 | exact C_mat hC (by omega) | assumption) rfl ?_
    refine fi_step (pc' := 48) m_De_multiply rfl rfl ?_
    refine k_get (p := 51) m_De_multiply rfl rfl (by first | exact C_print hC | exact C_minors hC | exact C_stairs hC | exact (CW_cst hC).2.1 | exact C_mat hC (by omega) | assumption) rfl ?_
    refine g_3 (p := 54) m_De_multiply rfl inv_v (by decide) m_Ma_reset rfl rfl (by omega) (by omega) (Nat.le_of_ble_eq_true rfl) (Nat.le_of_ble_eq_true rfl) (C_rcvM (m := 6) hC (by omega) _) (ma_reset6 (R := s 2 a) (C := s 3 b) hC (by omega) (by omega)) (fun v w hP => ?_)
    obtain ⟨rfl, hC⟩ := hP
    have e2 : gvM s 6 (s 2 a) (s 3 b) (fun _ _ => 0) 2 a = s 2 a := gv6_2 ha
    refine fi_step (pc' := 55) m_De_multiply rfl rfl ?_
    refine fi_step (pc' := 57) m_De_multiply rfl rfl ?_
    refine fi_step (pc' := 59) m_De_multiply rfl rfl ?_
    refine fi_step (pc' := 61) m_De_multiply rfl rfl ?_
    refine k_get (p := 64) m_De_multiply rfl rfl (by first | exact C_print hC | exact C_minors hC | exact C_stairs hC | exact (CW_cst hC).2.1 | exact C_mat hC (by omega) | assumption) rfl ?_
    refine s_ic_ge (p := 67) m_De_multiply rfl rfl (by omega) (by omega) (by omega) (by omega) (fun hbr => False.elim (by omega)) (fun hbr => ?_)
    refine fi_step (pc' := 68) m_De_multiply rfl rfl ?_
    refine fi_step (pc' := 70) m_De_multiply rfl rfl ?_
    show fin xs fr lo 43 70 [some (.ref 0), some (.int (jI to)), some (.int (jI a)), some (.int (jI b)), some (.ref (2 + 2 * to)), some (.ref (2 + 2 * a)), some (.ref (2 + 2 * b)), some (.int (jI 0)), some (.int (jI 0)), none] [] w _
    refine fi_mono (mulC_loop hok ht ha hb rfl rfl rfl h1.symm (by omega) (by omega) (by omega) (by omega) (by omega) (by omega) hfr hlo rfl 100 0 0 _ w v _ (by omega) (by omega) (by omega) (by omega) (by omega) hC (fun _ _ _ _ => rfl) (fun i' j' _ _ _ h => by omega)) (fun o w' ⟨u, e, h⟩ => ⟨u, e, Or.inr ⟨h1, h⟩⟩)
  · refine fi_step (pc' := 23) m_De_multiply rfl rfl ?_
    refine k_get (p := 26) m_De_multiply rfl rfl (by first | exact C_print hC | exact C_minors hC | exact C_stairs hC | exact (CW_cst hC).2.1 | exact C_mat hC (by omega) | assumption) rfl ?_
    refine fi_step (pc' := 28) m_De_multiply rfl rfl ?_
    refine k_get (p := 31) m_De_multiply rfl rfl (by first | exact C_print hC | exact C_minors hC | exact C_stairs hC | exact (CW_cst hC).2.1 | exact C_mat hC (by omega) | assumption) rfl ?_
    refine s_ic_eq (p := 34) m_De_multiply rfl rfl (by omega) (by omega) (by omega) (by omega) (fun hbr => False.elim (by omega)) (fun hbr => ?_)
    refine s_bipush (p := 36) m_De_multiply rfl rfl rfl ?_
    refine p_reti m_De_multiply rfl rfl ?_
    exact Or.inl ⟨h1, s, v, hC, hok, ⟨rfl, rfl⟩, rfl, rfl⟩
theorem de_multiplyT {to a b : Int} (hC : CW w0 w s v L Z) (t0 : -2147483648 ≤ to) (t1 : to < 2147483648) (a0 : -2147483648 ≤ a) (a1 : a < 2147483648) (b0 : -2147483648 ≤ b) (b1 : b < 2147483648) (h : ¬ ((0 ≤ to ∧ to < 6) ∧ (0 ≤ a ∧ a < 6) ∧ (0 ≤ b ∧ b < 6))) (hfr : 8 ≤ fr) (hlo : 230 ≤ lo) : fin xs fr lo 43 0 (ax_ent [.ref 0, .int (jI to), .int (jI a), .int (jI b)] 10) [] w (Thr 9 w) := by
  refine fi_step (pc' := 1) m_De_multiply rfl rfl ?_
  refine fi_step (pc' := 2) m_De_multiply rfl rfl ?_
  by_cases h1 : 0 ≤ to ∧ to < 6
  · obtain ⟨to, rfl⟩ := Int.eq_ofNat_of_zero_le h1.1
    refine c_2 (p := 5) m_De_multiply rfl inv_v (by decide) m_De_matrix rfl rfl (by omega) (by omega) (Nat.le_of_ble_eq_true rfl) (Nat.le_of_ble_eq_true rfl) (C_rcvD hC _) (de_matrix hC (show to < 6 by omega)) ?_
    refine fi_step (pc' := 7) m_De_multiply rfl rfl ?_
    refine fi_step (pc' := 8) m_De_multiply rfl rfl ?_
    refine fi_step (pc' := 9) m_De_multiply rfl rfl ?_
    by_cases h2 : 0 ≤ a ∧ a < 6
    · obtain ⟨a, rfl⟩ := Int.eq_ofNat_of_zero_le h2.1
      refine c_2 (p := 12) m_De_multiply rfl inv_v (by decide) m_De_matrix rfl rfl (by omega) (by omega) (Nat.le_of_ble_eq_true rfl) (Nat.le_of_ble_eq_true rfl) (C_rcvD hC _) (de_matrix hC (show a < 6 by omega)) ?_
      refine fi_step (pc' := 14) m_De_multiply rfl rfl ?_
      refine fi_step (pc' := 15) m_De_multiply rfl rfl ?_
      refine fi_step (pc' := 16) m_De_multiply rfl rfl ?_
      exact t_2 m_De_multiply rfl inv_v (by decide) m_De_matrix rfl (by omega) (by omega) (Nat.le_of_ble_eq_true rfl) (Nat.le_of_ble_eq_true rfl) (C_rcvD hC _) (de_matrixT b0 b1 (by omega) (by omega) (by omega)) rfl
    · exact t_2 m_De_multiply rfl inv_v (by decide) m_De_matrix rfl (by omega) (by omega) (Nat.le_of_ble_eq_true rfl) (Nat.le_of_ble_eq_true rfl) (C_rcvD hC _) (de_matrixT a0 a1 h2 (by omega) (by omega)) rfl
  · exact t_2 m_De_multiply rfl inv_v (by decide) m_De_matrix rfl (by omega) (by omega) (Nat.le_of_ble_eq_true rfl) (Nat.le_of_ble_eq_true rfl) (C_rcvD hC _) (de_matrixT t0 t1 h1 (by omega) (by omega)) rfl
theorem turnC_loop {to a : Nat} {R C : Int} {v : Nat → Int} (hok : okC s v) (ht : to < 6) (ha : a < 6) (eR : s 2 a = R) (eC : s 3 a = C) (r1 : 1 ≤ R) (r6 : R ≤ 6) (c1 : 1 ≤ C) (c6 : C ≤ 6) (hfr : 5 ≤ fr) (hlo : 300 ≤ lo) {T : Int → Int → Int} (hT : T = fun i j => s 1 (36 * a + 6 * j + i)) :
    ∀ (f : Nat) (i j : Int) (g : Int → Int → Int) (w : ax_W), (R - i) * 7 + (C - j) ≤ f → 0 ≤ i → i < R → 0 ≤ j → j ≤ C → CW w0 w (gvM s 6 C R g) v L Z → (∀ i' j', 0 ≤ i' → 0 ≤ j' → j' < C → (i' < i ∨ (i' = i ∧ j' < j)) → g j' i' = T j' i') →
    fin xs fr lo 45 46 [some (.ref 0), some (.int (jI to)), some (.int (jI a)), some (.ref (2 + 2 * to)), some (.ref (2 + 2 * a)), some (.int (jI i)), some (.int (jI j))] [] w (Ret fun u w' => u = none ∧ madeC w0 s L Z to C R T 0 (some (.int (jI 0))) w') := by
  intro f
  induction f with
  | zero => intro i j g w hf i0 i1 j0 j1; omega
  | succ f ih =>
    intro i j g w hf i0 i1 j0 j1 hC hg
    have e2 : gvM s 6 C R g 2 a = R := by rw [gv6_2 ha, eR]
    have e3 : gvM s 6 C R g 3 a = C := by rw [gv6_3 ha, eC]
    by_cases hj : j < C
    · have hTij : T j i = s 1 (36 * a + 6 * i + j) := by rw [hT]
      refine fi_step (pc' := 48) m_De_turn rfl rfl ?_
      refine fi_step (pc' := 50) m_De_turn rfl rfl ?_
      refine k_get (p := 53) m_De_turn rfl rfl (by first | exact C_print hC | exact C_minors hC | exact C_stairs hC | exact (CW_cst hC).2.1 | exact C_mat hC (by omega) | assumption) rfl ?_
      refine s_ic_ge (p := 56) m_De_turn rfl rfl (by omega) (by omega) (by omega) (by omega) (fun hbr => False.elim (by omega)) (fun hbr => ?_)
      refine fi_step (pc' := 57) m_De_turn rfl rfl ?_
      refine k_get (p := 60) m_De_turn rfl rfl (by first | exact C_print hC | exact C_minors hC | exact C_stairs hC | exact (CW_cst hC).2.1 | exact C_mat hC (by omega) | assumption) rfl ?_
      refine fi_step (pc' := 62) m_De_turn rfl rfl ?_
      refine fi_step (pc' := 64) m_De_turn rfl rfl ?_
      refine fi_step (pc' := 66) m_De_turn rfl rfl ?_
      refine fi_step (pc' := 68) m_De_turn rfl rfl ?_
      refine fi_step (pc' := 70) m_De_turn rfl rfl ?_
      refine c_3 (p := 73) m_De_turn rfl inv_v (by decide) m_Ma_number rfl rfl (by omega) (by omega) (Nat.le_of_ble_eq_true rfl) (Nat.le_of_ble_eq_true rfl) (C_rcvM hC (by omega) _) (ma_number hC (show a < 7 by omega) ⟨by omega, by omega, by omega, by omega⟩ i0 (by omega) j0 (by omega) (by omega) (by omega)) ?_
      rw [gv6_1 ha i0 (by omega) j0 (by omega), ← hTij]
      refine g_4 (p := 76) m_De_turn rfl inv_v (by decide) m_Ma_write rfl rfl (by omega) (by omega) (Nat.le_of_ble_eq_true rfl) (Nat.le_of_ble_eq_true rfl) (C_rcvM (m := 6) hC (by omega) _) (ma_write6 hC c1 c6 r1 r6 j0 hj i0 i1 (by omega) (by omega)) (fun v w hP => ?_)
      obtain ⟨rfl, hC⟩ := hP
      refine s_iinc (p := 79) m_De_turn rfl rfl rfl ?_
      refine fi_step (pc' := 46) m_De_turn rfl rfl ?_
      refine ih i (j + 1) _ w (by omega) i0 i1 (by omega) (by omega) hC (fun i' j' a0 b0 b1 hlt => ?_)
      unfold upg
      by_cases e : j' = j ∧ i' = i
      · rw [if_pos e, e.1, e.2]
      · rw [if_neg e]; exact hg i' j' a0 b0 b1 (by omega)
    · by_cases hi : i + 1 < R
      · refine fi_step (pc' := 48) m_De_turn rfl rfl ?_
        refine fi_step (pc' := 50) m_De_turn rfl rfl ?_
        refine k_get (p := 53) m_De_turn rfl rfl (by first | exact C_print hC | exact C_minors hC | exact C_stairs hC | exact (CW_cst hC).2.1 | exact C_mat hC (by omega) | assumption) rfl ?_
        refine s_ic_ge (p := 56) m_De_turn rfl rfl (by omega) (by omega) (by omega) (by omega) (fun hbr => ?_) (fun hbr => False.elim (by omega))
        refine s_iinc (p := 85) m_De_turn rfl rfl rfl ?_
        refine fi_step (pc' := 33) m_De_turn rfl rfl ?_
        refine fi_step (pc' := 35) m_De_turn rfl rfl ?_
        refine fi_step (pc' := 37) m_De_turn rfl rfl ?_
        refine k_get (p := 40) m_De_turn rfl rfl (by first | exact C_print hC | exact C_minors hC | exact C_stairs hC | exact (CW_cst hC).2.1 | exact C_mat hC (by omega) | assumption) rfl ?_
        refine s_ic_ge (p := 43) m_De_turn rfl rfl (by omega) (by omega) (by omega) (by omega) (fun hbr => False.elim (by omega)) (fun hbr => ?_)
        refine fi_step (pc' := 44) m_De_turn rfl rfl ?_
        refine fi_step (pc' := 46) m_De_turn rfl rfl ?_
        exact ih (i + 1) 0 g w (by omega) (by omega) hi (by omega) (by omega) hC (fun i' j' a0 b0 b1 hlt => hg i' j' a0 b0 b1 (by omega))
      · refine fi_step (pc' := 48) m_De_turn rfl rfl ?_
        refine fi_step (pc' := 50) m_De_turn rfl rfl ?_
        refine k_get (p := 53) m_De_turn rfl rfl (by first | exact C_print hC | exact C_minors hC | exact C_stairs hC | exact (CW_cst hC).2.1 | exact C_mat hC (by omega) | assumption) rfl ?_
        refine s_ic_ge (p := 56) m_De_turn rfl rfl (by omega) (by omega) (by omega) (by omega) (fun hbr => ?_) (fun hbr => False.elim (by omega))
        refine s_iinc (p := 85) m_De_turn rfl rfl rfl ?_
        refine fi_step (pc' := 33) m_De_turn rfl rfl ?_
        refine fi_step (pc' := 35) m_De_turn rfl rfl ?_
        refine fi_step (pc' := 37) m_De_turn rfl rfl ?_
        refine k_get (p := 40) m_De_turn rfl rfl (by first | exact C_print hC | exact C_minors hC | exact C_stairs hC | exact (CW_cst hC).2.1 | exact C_mat hC (by omega) | assumption) rfl ?_
        refine s_ic_ge (p := 43) m_De_turn rfl rfl (by omega) (by omega) (by omega) (by omega) (fun hbr => ?_) (fun hbr => False.elim (by omega))
        refine fi_step (pc' := 89) m_De_turn rfl rfl ?_
        refine fi_step (pc' := 90) m_De_turn rfl rfl ?_
        refine k_get (p := 93) m_De_turn rfl rfl (by first | exact C_print hC | exact C_minors hC | exact C_stairs hC | exact (CW_cst hC).2.1 | exact C_mat hC (by omega) | assumption) rfl ?_
        refine g_2 (p := 96) m_De_turn rfl inv_v (by decide) m_Ma_become rfl rfl (by omega) (by omega) (Nat.le_of_ble_eq_true rfl) (Nat.le_of_ble_eq_true rfl) (C_rcvM hC (by omega) _) (ma_become6 hC ht (by omega) (by omega)) (fun v w hP => ?_)
        obtain ⟨rfl, hC⟩ := hP
        refine p_ret m_De_turn rfl rfl ?_
        refine ⟨rfl, madeC_ok hok (by omega) (by omega) c1 c6 r1 r6 (fun j' i' b0 b1 a0 a1 => ⟨hg i' j' a0 b0 b1 (by omega), ?_⟩) rfl rfl hC⟩
        rw [hT]
        have := rf_num hok.1 (x := 36 * a + 6 * i' + j') (by omega) (by omega)
        simp only
        omega
theorem de_turn {to a : Nat} (hC : CW w0 w s v L Z) (hok : okC s v) (ht : to < 6) (ha : a < 6) (hfr : 5 ≤ fr) (hlo : 300 ≤ lo) :
    fin xs fr lo 45 0 (ax_ent [.ref 0, .int (jI (to : Int)), .int (jI (a : Int))] 7) [] w (Ret fun u w' => u = none ∧ madeC w0 s L Z to (s 3 a) (s 2 a) (fun i j => s 1 (36 * a + 6 * j + i)) 0 (some (.int (jI 0))) w') := by
  have da := rf_dim hok.1 ha
  obtain ⟨a1, a2, a3, a4⟩ := da
  refine fi_step (pc' := 1) m_De_turn rfl rfl ?_
  refine fi_step (pc' := 2) m_De_turn rfl rfl ?_
  refine c_2 (p := 5) m_De_turn rfl inv_v (by decide) m_De_matrix rfl rfl (by omega) (by omega) (Nat.le_of_ble_eq_true rfl) (Nat.le_of_ble_eq_true rfl) (C_rcvD hC _) (de_matrix hC ht) ?_
  refine fi_step (pc' := 6) m_De_turn rfl rfl ?_
  refine fi_step (pc' := 7) m_De_turn rfl rfl ?_
  refine fi_step (pc' := 8) m_De_turn rfl rfl ?_
  refine c_2 (p := 11) m_De_turn rfl inv_v (by decide) m_De_matrix rfl rfl (by omega) (by omega) (Nat.le_of_ble_eq_true rfl) (Nat.le_of_ble_eq_true rfl) (C_rcvD hC _) (de_matrix hC ha) ?_
  refine fi_step (pc' := 13) m_De_turn rfl rfl ?_
  refine fi_step (pc' := 14) m_De_turn rfl rfl ?_
  refine k_get (p := 17) m_De_turn rfl rfl (by first | exact C_print hC | exact C_minors hC | exact C_stairs hC | exact (CW_cst hC).2.1 | exact C_mat hC (by omega) | assumption) rfl ?_
  refine fi_step (pc' := 19) m_De_turn rfl rfl ?_
  refine k_get (p := 22) m_De_turn rfl rfl (by first | exact C_print hC | exact C_minors hC | exact C_stairs hC | exact (CW_cst hC).2.1 | exact C_mat hC (by omega) | assumption) rfl ?_
  refine fi_step (pc' := 24) m_De_turn rfl rfl ?_
  refine k_get (p := 27) m_De_turn rfl rfl (by first | exact C_print hC | exact C_minors hC | exact C_stairs hC | exact (CW_cst hC).2.1 | exact C_mat hC (by omega) | assumption) rfl ?_
  refine g_3 (p := 30) m_De_turn rfl inv_v (by decide) m_Ma_reset rfl rfl (by omega) (by omega) (Nat.le_of_ble_eq_true rfl) (Nat.le_of_ble_eq_true rfl) (C_rcvM (m := 6) hC (by omega) _) (ma_reset6 (R := s 3 a) (C := s 2 a) hC (by omega) (by omega)) (fun v w hP => ?_)
  obtain ⟨rfl, hC⟩ := hP
  have e2 : gvM s 6 (s 3 a) (s 2 a) (fun _ _ => 0) 2 a = s 2 a := gv6_2 ha
  refine fi_step (pc' := 31) m_De_turn rfl rfl ?_
  refine fi_step (pc' := 33) m_De_turn rfl rfl ?_
  refine fi_step (pc' := 35) m_De_turn rfl rfl ?_
  refine fi_step (pc' := 37) m_De_turn rfl rfl ?_
  refine k_get (p := 40) m_De_turn rfl rfl (by first | exact C_print hC | exact C_minors hC | exact C_stairs hC | exact (CW_cst hC).2.1 | exact C_mat hC (by omega) | assumption) rfl ?_
  refine s_ic_ge (p := 43) m_De_turn rfl rfl (by omega) (by omega) (by omega) (by omega) (fun hbr => False.elim (by omega)) (fun hbr => ?_)
  refine fi_step (pc' := 44) m_De_turn rfl rfl ?_
  refine fi_step (pc' := 46) m_De_turn rfl rfl ?_
  show fin xs fr lo 45 46 [some (.ref 0), some (.int (jI to)), some (.int (jI a)), some (.ref (2 + 2 * to)), some (.ref (2 + 2 * a)), some (.int (jI 0)), some (.int (jI 0))] [] w _
  exact turnC_loop hok ht ha rfl rfl (by omega) (by omega) (by omega) (by omega) hfr hlo rfl 100 0 0 _ w (by omega) (by omega) (by omega) (by omega) (by omega) hC (fun i' j' _ _ _ h => by omega)
theorem de_turnT {to a : Int} (hC : CW w0 w s v L Z) (t0 : -2147483648 ≤ to) (t1 : to < 2147483648) (a0 : -2147483648 ≤ a) (a1 : a < 2147483648) (h : ¬ ((0 ≤ to ∧ to < 6) ∧ (0 ≤ a ∧ a < 6))) (hfr : 8 ≤ fr) (hlo : 230 ≤ lo) : fin xs fr lo 45 0 (ax_ent [.ref 0, .int (jI to), .int (jI a)] 7) [] w (Thr 9 w) := by
  refine fi_step (pc' := 1) m_De_turn rfl rfl ?_
  refine fi_step (pc' := 2) m_De_turn rfl rfl ?_
  by_cases h1 : 0 ≤ to ∧ to < 6
  · obtain ⟨to, rfl⟩ := Int.eq_ofNat_of_zero_le h1.1
    refine c_2 (p := 5) m_De_turn rfl inv_v (by decide) m_De_matrix rfl rfl (by omega) (by omega) (Nat.le_of_ble_eq_true rfl) (Nat.le_of_ble_eq_true rfl) (C_rcvD hC _) (de_matrix hC (show to < 6 by omega)) ?_
    refine fi_step (pc' := 6) m_De_turn rfl rfl ?_
    refine fi_step (pc' := 7) m_De_turn rfl rfl ?_
    refine fi_step (pc' := 8) m_De_turn rfl rfl ?_
    exact t_2 m_De_turn rfl inv_v (by decide) m_De_matrix rfl (by omega) (by omega) (Nat.le_of_ble_eq_true rfl) (Nat.le_of_ble_eq_true rfl) (C_rcvD hC _) (de_matrixT a0 a1 (by omega) (by omega) (by omega)) rfl
  · exact t_2 m_De_turn rfl inv_v (by decide) m_De_matrix rfl (by omega) (by omega) (Nat.le_of_ble_eq_true rfl) (Nat.le_of_ble_eq_true rfl) (C_rcvD hC _) (de_matrixT t0 t1 h1 (by omega) (by omega)) rfl
def eqC (s : mo_S) (a b : Nat) : Prop := s 2 a = s 2 b ∧ s 3 a = s 3 b ∧ ∀ i j, 0 ≤ i → i < s 2 a → 0 ≤ j → j < s 3 a → s 1 (36 * a + 6 * i + j) = s 1 (36 * b + 6 * i + j)
theorem sameC_loop {a b : Nat} {R C : Int} (hC : CW w0 w s v L Z) (hok : okC s v) (ha : a < 6) (hb : b < 6) (eR : s 2 a = R) (eC : s 3 a = C) (eR' : s 2 b = R) (eC' : s 3 b = C) (r1 : 1 ≤ R) (r6 : R ≤ 6) (c1 : 1 ≤ C) (c6 : C ≤ 6) (hfr : 5 ≤ fr) (hlo : 300 ≤ lo) :
    ∀ (f : Nat) (i j : Int), (R - i) * 7 + (C - j) ≤ f → 0 ≤ i → i < R → 0 ≤ j → j ≤ C → (∀ i' j', 0 ≤ i' → 0 ≤ j' → j' < C → (i' < i ∨ (i' = i ∧ j' < j)) → s 1 (36 * a + 6 * i' + j') = s 1 (36 * b + 6 * i' + j')) →
    fin xs fr lo 108 54 [some (.ref 0), some (.int (jI a)), some (.int (jI b)), some (.ref (2 + 2 * a)), some (.ref (2 + 2 * b)), some (.int (jI i)), some (.int (jI j))] [] w (Ret fun u w' => w' = w ∧ ((eqC s a b ∧ u = some (.int (jI 1))) ∨ (¬ eqC s a b ∧ u = some (.int (jI 0))))) := by
  intro f
  induction f with
  | zero => intro i j hf i0 i1 j0 j1; omega
  | succ f ih =>
    intro i j hf i0 i1 j0 j1 hg
    by_cases hj : j < C
    · have qa := rf_num hok.1 (x := 36 * a + (6 * i + j)) (by omega) (by omega)
      have qb := rf_num hok.1 (x := 36 * b + (6 * i + j)) (by omega) (by omega)
      have fa : (36 * (a : Int) + (6 * i + j)) = 36 * a + 6 * i + j := by omega
      have fb : (36 * (b : Int) + (6 * i + j)) = 36 * b + 6 * i + j := by omega
      refine fi_step (pc' := 56) m_De_same rfl rfl ?_
      refine fi_step (pc' := 57) m_De_same rfl rfl ?_
      refine k_get (p := 60) m_De_same rfl rfl (by first | exact C_print hC | exact C_minors hC | exact C_stairs hC | exact (CW_cst hC).2.1 | exact C_mat hC (by omega) | assumption) rfl ?_
      refine s_ic_ge (p := 63) m_De_same rfl rfl (by omega) (by omega) (by omega) (by omega) (fun hbr => False.elim (by omega)) (fun hbr => ?_)
      refine fi_step (pc' := 64) m_De_same rfl rfl ?_
      refine fi_step (pc' := 66) m_De_same rfl rfl ?_
      refine fi_step (pc' := 68) m_De_same rfl rfl ?_
      refine c_3 (p := 71) m_De_same rfl inv_v (by decide) m_Ma_number rfl rfl (by omega) (by omega) (Nat.le_of_ble_eq_true rfl) (Nat.le_of_ble_eq_true rfl) (C_rcvM hC (by omega) _) (ma_number hC (show a < 7 by omega) ⟨by omega, by omega, by omega, by omega⟩ i0 (by omega) j0 (by omega) (by omega) (by omega)) ?_
      refine fi_step (pc' := 73) m_De_same rfl rfl ?_
      refine fi_step (pc' := 75) m_De_same rfl rfl ?_
      refine fi_step (pc' := 77) m_De_same rfl rfl ?_
      by_cases he : s 1 (36 * a + (6 * i + j)) = s 1 (36 * b + (6 * i + j))
      · refine c_3 (p := 80) m_De_same rfl inv_v (by decide) m_Ma_number rfl rfl (by omega) (by omega) (Nat.le_of_ble_eq_true rfl) (Nat.le_of_ble_eq_true rfl) (C_rcvM hC (by omega) _) (ma_number hC (show b < 7 by omega) ⟨by omega, by omega, by omega, by omega⟩ i0 (by omega) j0 (by omega) (by omega) (by omega)) ?_
        refine s_lc_eq (q := 81) (p := 84) m_De_same rfl rfl rfl rfl (by omega) (by omega) (by omega) (by omega) (fun hbr => ?_) (fun hbr => False.elim (by omega))
        refine s_iinc (p := 89) m_De_same rfl rfl rfl ?_
        refine fi_step (pc' := 54) m_De_same rfl rfl ?_
        refine ih i (j + 1) (by omega) i0 i1 (by omega) (by omega) (fun i' j' a0 b0 b1 hlt => ?_)
        by_cases e : i' = i ∧ j' = j
        · rw [e.1, e.2, ← fa, ← fb]; exact he
        · exact hg i' j' a0 b0 b1 (by omega)
      · refine c_3 (p := 80) m_De_same rfl inv_v (by decide) m_Ma_number rfl rfl (by omega) (by omega) (Nat.le_of_ble_eq_true rfl) (Nat.le_of_ble_eq_true rfl) (C_rcvM hC (by omega) _) (ma_number hC (show b < 7 by omega) ⟨by omega, by omega, by omega, by omega⟩ i0 (by omega) j0 (by omega) (by omega) (by omega)) ?_
        refine s_lc_eq (q := 81) (p := 84) m_De_same rfl rfl rfl rfl (by omega) (by omega) (by omega) (by omega) (fun hbr => False.elim (by omega)) (fun hbr => ?_)
        refine fi_step (pc' := 85) m_De_same rfl rfl ?_
        refine p_retb m_De_same rfl rfl (by first | exact Or.inl rfl | exact Or.inr rfl | omega) ?_
        refine ⟨rfl, Or.inr ⟨fun hh => he ?_, rfl⟩⟩
        rw [fa, fb]
        exact hh.2.2 i j i0 (by omega) j0 (by omega)
    · by_cases hi : i + 1 < R
      · refine fi_step (pc' := 56) m_De_same rfl rfl ?_
        refine fi_step (pc' := 57) m_De_same rfl rfl ?_
        refine k_get (p := 60) m_De_same rfl rfl (by first | exact C_print hC | exact C_minors hC | exact C_stairs hC | exact (CW_cst hC).2.1 | exact C_mat hC (by omega) | assumption) rfl ?_
        refine s_ic_ge (p := 63) m_De_same rfl rfl (by omega) (by omega) (by omega) (by omega) (fun hbr => ?_) (fun hbr => False.elim (by omega))
        refine s_iinc (p := 95) m_De_same rfl rfl rfl ?_
        refine fi_step (pc' := 42) m_De_same rfl rfl ?_
        refine fi_step (pc' := 44) m_De_same rfl rfl ?_
        refine fi_step (pc' := 45) m_De_same rfl rfl ?_
        refine k_get (p := 48) m_De_same rfl rfl (by first | exact C_print hC | exact C_minors hC | exact C_stairs hC | exact (CW_cst hC).2.1 | exact C_mat hC (by omega) | assumption) rfl ?_
        refine s_ic_ge (p := 51) m_De_same rfl rfl (by omega) (by omega) (by omega) (by omega) (fun hbr => False.elim (by omega)) (fun hbr => ?_)
        refine fi_step (pc' := 52) m_De_same rfl rfl ?_
        refine fi_step (pc' := 54) m_De_same rfl rfl ?_
        exact ih (i + 1) 0 (by omega) (by omega) hi (by omega) (by omega) (fun i' j' a0 b0 b1 hlt => hg i' j' a0 b0 b1 (by omega))
      · refine fi_step (pc' := 56) m_De_same rfl rfl ?_
        refine fi_step (pc' := 57) m_De_same rfl rfl ?_
        refine k_get (p := 60) m_De_same rfl rfl (by first | exact C_print hC | exact C_minors hC | exact C_stairs hC | exact (CW_cst hC).2.1 | exact C_mat hC (by omega) | assumption) rfl ?_
        refine s_ic_ge (p := 63) m_De_same rfl rfl (by omega) (by omega) (by omega) (by omega) (fun hbr => ?_) (fun hbr => False.elim (by omega))
        refine s_iinc (p := 95) m_De_same rfl rfl rfl ?_
        refine fi_step (pc' := 42) m_De_same rfl rfl ?_
        refine fi_step (pc' := 44) m_De_same rfl rfl ?_
        refine fi_step (pc' := 45) m_De_same rfl rfl ?_
        refine k_get (p := 48) m_De_same rfl rfl (by first | exact C_print hC | exact C_minors hC | exact C_stairs hC | exact (CW_cst hC).2.1 | exact C_mat hC (by omega) | assumption) rfl ?_
        refine s_ic_ge (p := 51) m_De_same rfl rfl (by omega) (by omega) (by omega) (by omega) (fun hbr => ?_) (fun hbr => False.elim (by omega))
        refine fi_step (pc' := 99) m_De_same rfl rfl ?_
        refine p_retb m_De_same rfl rfl (by first | exact Or.inl rfl | exact Or.inr rfl | omega) ?_
        exact ⟨rfl, Or.inl ⟨⟨by omega, by omega, fun i' j' a0 a1 b0 b1 => hg i' j' a0 b0 (by omega) (by omega)⟩, rfl⟩⟩
theorem de_same {a b : Nat} (hC : CW w0 w s v L Z) (hok : okC s v) (ha : a < 6) (hb : b < 6) (hfr : 5 ≤ fr) (hlo : 300 ≤ lo) :
    fin xs fr lo 108 0 (ax_ent [.ref 0, .int (jI (a : Int)), .int (jI (b : Int))] 7) [] w (Ret fun u w' => w' = w ∧ ((eqC s a b ∧ u = some (.int (jI 1))) ∨ (¬ eqC s a b ∧ u = some (.int (jI 0))))) := by
  have da := rf_dim hok.1 ha
  have db := rf_dim hok.1 hb
  obtain ⟨a1, a2, a3, a4⟩ := da
  obtain ⟨b1, b2, b3, b4⟩ := db
  refine fi_step (pc' := 1) m_De_same rfl rfl ?_
  refine fi_step (pc' := 2) m_De_same rfl rfl ?_
  refine c_2 (p := 5) m_De_same rfl inv_v (by decide) m_De_matrix rfl rfl (by omega) (by omega) (Nat.le_of_ble_eq_true rfl) (Nat.le_of_ble_eq_true rfl) (C_rcvD hC _) (de_matrix hC ha) ?_
  refine fi_step (pc' := 6) m_De_same rfl rfl ?_
  refine fi_step (pc' := 7) m_De_same rfl rfl ?_
  refine fi_step (pc' := 8) m_De_same rfl rfl ?_
  refine c_2 (p := 11) m_De_same rfl inv_v (by decide) m_De_matrix rfl rfl (by omega) (by omega) (Nat.le_of_ble_eq_true rfl) (Nat.le_of_ble_eq_true rfl) (C_rcvD hC _) (de_matrix hC hb) ?_
  refine fi_step (pc' := 13) m_De_same rfl rfl ?_
  show fin xs fr lo 108 13 [some (.ref 0), some (.int (jI a)), some (.int (jI b)), some (.ref (2 + 2 * a)), some (.ref (2 + 2 * b)), none, none] [] w _
  by_cases h1 : s 2 a = s 2 b
  · by_cases h2 : s 3 a = s 3 b
    · refine fi_step (pc' := 14) m_De_same rfl rfl ?_
      refine k_get (p := 17) m_De_same rfl rfl (by first | exact C_print hC | exact C_minors hC | exact C_stairs hC | exact (CW_cst hC).2.1 | exact C_mat hC (by omega) | assumption) rfl ?_
      refine fi_step (pc' := 19) m_De_same rfl rfl ?_
      refine k_get (p := 22) m_De_same rfl rfl (by first | exact C_print hC | exact C_minors hC | exact C_stairs hC | exact (CW_cst hC).2.1 | exact C_mat hC (by omega) | assumption) rfl ?_
      refine s_ic_ne (p := 25) m_De_same rfl rfl (by omega) (by omega) (by omega) (by omega) (fun hbr => False.elim (by omega)) (fun hbr => ?_)
      refine fi_step (pc' := 26) m_De_same rfl rfl ?_
      refine k_get (p := 29) m_De_same rfl rfl (by first | exact C_print hC | exact C_minors hC | exact C_stairs hC | exact (CW_cst hC).2.1 | exact C_mat hC (by omega) | assumption) rfl ?_
      refine fi_step (pc' := 31) m_De_same rfl rfl ?_
      refine k_get (p := 34) m_De_same rfl rfl (by first | exact C_print hC | exact C_minors hC | exact C_stairs hC | exact (CW_cst hC).2.1 | exact C_mat hC (by omega) | assumption) rfl ?_
      refine s_ic_eq (p := 37) m_De_same rfl rfl (by omega) (by omega) (by omega) (by omega) (fun hbr => ?_) (fun hbr => False.elim (by omega))
      refine fi_step (pc' := 40) m_De_same rfl rfl ?_
      refine fi_step (pc' := 42) m_De_same rfl rfl ?_
      refine fi_step (pc' := 44) m_De_same rfl rfl ?_
      refine fi_step (pc' := 45) m_De_same rfl rfl ?_
      refine k_get (p := 48) m_De_same rfl rfl (by first | exact C_print hC | exact C_minors hC | exact C_stairs hC | exact (CW_cst hC).2.1 | exact C_mat hC (by omega) | assumption) rfl ?_
      refine s_ic_ge (p := 51) m_De_same rfl rfl (by omega) (by omega) (by omega) (by omega) (fun hbr => False.elim (by omega)) (fun hbr => ?_)
      refine fi_step (pc' := 52) m_De_same rfl rfl ?_
      refine fi_step (pc' := 54) m_De_same rfl rfl ?_
      show fin xs fr lo 108 54 [some (.ref 0), some (.int (jI a)), some (.int (jI b)), some (.ref (2 + 2 * a)), some (.ref (2 + 2 * b)), some (.int (jI 0)), some (.int (jI 0))] [] w _
      exact sameC_loop hC hok ha hb rfl rfl h1.symm h2.symm (by omega) (by omega) (by omega) (by omega) hfr hlo 100 0 0 (by omega) (by omega) (by omega) (by omega) (by omega) (fun i' j' _ _ _ h => by omega)
    · refine fi_step (pc' := 14) m_De_same rfl rfl ?_
      refine k_get (p := 17) m_De_same rfl rfl (by first | exact C_print hC | exact C_minors hC | exact C_stairs hC | exact (CW_cst hC).2.1 | exact C_mat hC (by omega) | assumption) rfl ?_
      refine fi_step (pc' := 19) m_De_same rfl rfl ?_
      refine k_get (p := 22) m_De_same rfl rfl (by first | exact C_print hC | exact C_minors hC | exact C_stairs hC | exact (CW_cst hC).2.1 | exact C_mat hC (by omega) | assumption) rfl ?_
      refine s_ic_ne (p := 25) m_De_same rfl rfl (by omega) (by omega) (by omega) (by omega) (fun hbr => False.elim (by omega)) (fun hbr => ?_)
      refine fi_step (pc' := 26) m_De_same rfl rfl ?_
      refine k_get (p := 29) m_De_same rfl rfl (by first | exact C_print hC | exact C_minors hC | exact C_stairs hC | exact (CW_cst hC).2.1 | exact C_mat hC (by omega) | assumption) rfl ?_
      refine fi_step (pc' := 31) m_De_same rfl rfl ?_
      refine k_get (p := 34) m_De_same rfl rfl (by first | exact C_print hC | exact C_minors hC | exact C_stairs hC | exact (CW_cst hC).2.1 | exact C_mat hC (by omega) | assumption) rfl ?_
      refine s_ic_eq (p := 37) m_De_same rfl rfl (by omega) (by omega) (by omega) (by omega) (fun hbr => False.elim (by omega)) (fun hbr => ?_)
      refine fi_step (pc' := 38) m_De_same rfl rfl ?_
      refine p_retb m_De_same rfl rfl (by first | exact Or.inl rfl | exact Or.inr rfl | omega) ?_
      exact ⟨rfl, Or.inr ⟨fun h => h2 h.2.1, rfl⟩⟩
  · refine fi_step (pc' := 14) m_De_same rfl rfl ?_
    refine k_get (p := 17) m_De_same rfl rfl (by first | exact C_print hC | exact C_minors hC | exact C_stairs hC | exact (CW_cst hC).2.1 | exact C_mat hC (by omega) | assumption) rfl ?_
    refine fi_step (pc' := 19) m_De_same rfl rfl ?_
    refine k_get (p := 22) m_De_same rfl rfl (by first | exact C_print hC | exact C_minors hC | exact C_stairs hC | exact (CW_cst hC).2.1 | exact C_mat hC (by omega) | assumption) rfl ?_
    refine s_ic_ne (p := 25) m_De_same rfl rfl (by omega) (by omega) (by omega) (by omega) (fun hbr => ?_) (fun hbr => False.elim (by omega))
    refine fi_step (pc' := 38) m_De_same rfl rfl ?_
    refine p_retb m_De_same rfl rfl (by first | exact Or.inl rfl | exact Or.inr rfl | omega) ?_
    exact ⟨rfl, Or.inr ⟨fun h => h1 h.1, rfl⟩⟩
theorem de_sameT {a b : Int} (hC : CW w0 w s v L Z) (a0 : -2147483648 ≤ a) (a1 : a < 2147483648) (b0 : -2147483648 ≤ b) (b1 : b < 2147483648) (h : ¬ ((0 ≤ a ∧ a < 6) ∧ (0 ≤ b ∧ b < 6))) (hfr : 8 ≤ fr) (hlo : 230 ≤ lo) : fin xs fr lo 108 0 (ax_ent [.ref 0, .int (jI a), .int (jI b)] 7) [] w (Thr 9 w) := by
  refine fi_step (pc' := 1) m_De_same rfl rfl ?_
  refine fi_step (pc' := 2) m_De_same rfl rfl ?_
  by_cases h1 : 0 ≤ a ∧ a < 6
  · obtain ⟨a, rfl⟩ := Int.eq_ofNat_of_zero_le h1.1
    refine c_2 (p := 5) m_De_same rfl inv_v (by decide) m_De_matrix rfl rfl (by omega) (by omega) (Nat.le_of_ble_eq_true rfl) (Nat.le_of_ble_eq_true rfl) (C_rcvD hC _) (de_matrix hC (show a < 6 by omega)) ?_
    refine fi_step (pc' := 6) m_De_same rfl rfl ?_
    refine fi_step (pc' := 7) m_De_same rfl rfl ?_
    refine fi_step (pc' := 8) m_De_same rfl rfl ?_
    exact t_2 m_De_same rfl inv_v (by decide) m_De_matrix rfl (by omega) (by omega) (Nat.le_of_ble_eq_true rfl) (Nat.le_of_ble_eq_true rfl) (C_rcvD hC _) (de_matrixT b0 b1 (by omega) (by omega) (by omega)) rfl
  · exact t_2 m_De_same rfl inv_v (by decide) m_De_matrix rfl (by omega) (by omega) (Nat.le_of_ble_eq_true rfl) (Nat.le_of_ble_eq_true rfl) (C_rcvD hC _) (de_matrixT a0 a1 h1 (by omega) (by omega)) rfl
end MUL
