/-! THE CLASS: inverse -/
theorem sayS_nat (n : Nat) : sayS (n : Int) = decS n := by unfold sayS; rw [if_neg (by omega), List.nil_append, Int.natAbs_natCast]
theorem sayS_negN {n : Nat} (h : 0 < n) : sayS (-(n : Int)) = [45] ++ decS n := by unfold sayS; rw [if_pos (by omega), Int.natAbs_neg, Int.natAbs_natCast]
theorem frac_form {a d : Int} {b : Int} (hb : b = frN a d) : fracS b a d = (if b = 1 then [45] else []) ++ sayS ((a.natAbs / Int.gcd a d : Nat) : Int) ++ (if ((d.natAbs / Int.gcd a d : Nat) : Int) = 1 then [] else [47] ++ sayS ((d.natAbs / Int.gcd a d : Nat) : Int)) := by
  unfold fracS
  rw [Int.gcd_comm d a, sayS_nat, sayS_nat]
  have e2 : (if d.natAbs / a.gcd d = 1 then [] else 47 :: decS (d.natAbs / a.gcd d)) = (if ((d.natAbs / a.gcd d : Nat) : Int) = 1 then ([] : List Int) else [47] ++ decS (d.natAbs / a.gcd d)) := by
    by_cases h : d.natAbs / a.gcd d = 1
    · rw [if_pos h, if_pos (by omega)]
    · rw [if_neg h, if_neg (by omega)]; rfl
  rw [e2]
  congr 1
  by_cases h : b = 1
  · rw [if_pos h, if_pos h, sayS_negN]
    have ha : a ≠ 0 := frN_nz (by rw [← hb, h])
    exact Nat.div_pos (Nat.le_of_dvd (by omega) (Int.gcd_dvd_natAbs_left a d)) (Nat.pos_of_ne_zero (fun h0 => ha (Int.gcd_eq_zero_iff.mp h0).1))
  · rw [if_neg h, if_neg h, List.nil_append, sayS_nat]
section INV
variable {xs : List Int32} {fr lo : Nat} {w w0 : ax_W} {s : mo_S} {v : Nat → Int} {L Z : Nat}
theorem de_printFraction (hC : CW w0 w s v L Z) (v27 : v 27 = 1) (nz : v 423 ≠ 0) (b1 : ((v 421).natAbs : Int) ≤ MBND) (b2 : ((v 423).natAbs : Int) ≤ MBND) (hfr : 7 ≤ fr) (hlo : 330 ≤ lo) :
    fin xs fr lo 100 0 (ax_ent [.ref 0] 2) [] w (Ret fun u w' => u = none ∧ ∃ s' v', CW w0 w' s' v' L Z ∧ kpP s s' ∧ v' 27 = v 27 ∧ v' 104 = v 104 ∧ prC s' (fracS (frN (v 421) (v 423)) (v 421) (v 423)) ∧ (fracS (frN (v 421) (v 423)) (v 421) (v 423)).length ≤ 256) := by
  obtain ⟨dl, cl, fl, kl, bl, hwl, hvl, _, _⟩ := CW_TW hC i421
  obtain ⟨dr, cr, f2, kr, br, hwr, hvr, _, _⟩ := CW_TW hC i423
  have nl := Wv_neg hvl
  have nr := Wv_neg hvr
  have bl01 := Wv_b hvl
  have br01 := Wv_b hvr
  have hMB := MB_13
  have hM0 : (0 : Int) ≤ MBND := by decide
  have go : ∀ b : Int, b = frN (v 421) (v 423) → fin xs fr lo 100 33 [some (.ref 0), some (.int (jI b))] [] w (Ret fun u w' => u = none ∧ ∃ s' v', CW w0 w' s' v' L Z ∧ kpP s s' ∧ v' 27 = v 27 ∧ v' 104 = v 104 ∧ prC s' (fracS (frN (v 421) (v 423)) (v 421) (v 423)) ∧ (fracS (frN (v 421) (v 423)) (v 421) (v 423)).length ≤ 256) := by
    intro b hb
    have hb01 := frN_b (v 421) (v 423)
    have hform := frac_form hb
    refine fi_step (pc' := 34) m_De_printFraction rfl rfl ?_
    refine k_get (p := 37) m_De_printFraction rfl rfl (by first | exact C_print hC | exact C_minors hC | exact C_stairs hC | exact (CW_cst hC).2.1 | exact C_mat hC (by omega) | assumption) rfl ?_
    refine fi_step (pc' := 38) m_De_printFraction rfl rfl ?_
    refine k_get (p := 41) m_De_printFraction rfl rfl (by first | exact C_print hC | exact C_minors hC | exact C_stairs hC | exact (CW_cst hC).2.1 | exact C_mat hC (by omega) | assumption) rfl ?_
    refine fi_step (pc' := 42) m_De_printFraction rfl rfl ?_
    refine k_get (p := 45) m_De_printFraction rfl rfl (by first | exact C_print hC | exact C_minors hC | exact C_stairs hC | exact (CW_cst hC).2.1 | exact C_mat hC (by omega) | assumption) rfl ?_
    refine g_3 (p := 48) m_De_printFraction rfl inv_v (by decide) m_Di_lowerTerms rfl rfl (by omega) (by omega) (Nat.le_of_ble_eq_true rfl) (Nat.le_of_ble_eq_true rfl) (C_rcvV hC _) (cn_lowerTerms (kb := 13) hC i421 i423 (by omega) (by omega) (by omega) v27 nz (by omega) (by omega) (by omega) (by rw [cap421]; omega) (by rw [cap423]; omega) (by omega) (by omega)) (fun v w hP => ?_)
    obtain ⟨rfl, v1, hC, q1, q2, k1⟩ := hP
    obtain ⟨n1, hn1⟩ : ∃ n : Nat, n = (v 421).natAbs / Int.gcd (v 421) (v 423) := ⟨_, rfl⟩
    obtain ⟨n2, hn2⟩ : ∃ n : Nat, n = (v 423).natAbs / Int.gcd (v 421) (v 423) := ⟨_, rfl⟩
    rw [← hn1] at q1 hform
    rw [← hn2] at q2 hform
    have m1 : n1 ≤ (v 421).natAbs := by rw [hn1]; exact Nat.div_le_self _ _
    have m2 : n2 ≤ (v 423).natAbs := by rw [hn2]; exact Nat.div_le_self _ _
    have z1 : (v1 421).natAbs < 10 ^ (110 + 1) := MB_111 (by rw [q1]; omega)
    have z2 : (v1 423).natAbs < 10 ^ (110 + 1) := MB_111 (by rw [q2]; omega)
    have y1 := sayS_le z1
    have y2 := sayS_le z2
    have tail : ∀ (w : ax_W) (s1 : mo_S) (l : List Int), CW w0 w s1 v1 L Z → kpP s s1 → prC s1 l → l = (if b = 1 then [45] else []) → fin xs fr lo 100 68 [some (.ref 0), some (.int (jI b))] [] w (Ret fun u w' => u = none ∧ ∃ s' v', CW w0 w' s' v' L Z ∧ kpP s s' ∧ v' 27 = v 27 ∧ v' 104 = v 104 ∧ prC s' (fracS (frN (v 421) (v 423)) (v 421) (v 423)) ∧ (fracS (frN (v 421) (v 423)) (v 421) (v 423)).length ≤ 256) := by
      intro w s1 l hC hk hp hl
      have hll : l.length ≤ 1 := by rw [hl]; split <;> simp
      refine fi_step (pc' := 69) m_De_printFraction rfl rfl ?_
      refine k_get (p := 72) m_De_printFraction rfl rfl (by first | exact C_print hC | exact C_minors hC | exact C_stairs hC | exact (CW_cst hC).2.1 | exact C_mat hC (by omega) | assumption) rfl ?_
      refine fi_step (pc' := 73) m_De_printFraction rfl rfl ?_
      refine k_get (p := 76) m_De_printFraction rfl rfl (by first | exact C_print hC | exact C_minors hC | exact C_stairs hC | exact (CW_cst hC).2.1 | exact C_mat hC (by omega) | assumption) rfl ?_
      refine g_2 (p := 79) m_De_printFraction rfl inv_v (by decide) m_Pr_whole rfl rfl (by omega) (by omega) (Nat.le_of_ble_eq_true rfl) (Nat.le_of_ble_eq_true rfl) (C_rcv hC _) (p_whole hC i421 hp z1 (by omega) (by omega) (by omega)) (fun v w hP => ?_)
      obtain ⟨rfl, s2, hC, k2, p2⟩ := hP
      have lenw : (l ++ sayS (v1 421)).length ≤ 113 := by rw [List.length_append]; omega
      rw [← hb] at *
      rw [hform]
      refine fi_step (pc' := 80) m_De_printFraction rfl rfl ?_
      refine k_get (p := 83) m_De_printFraction rfl rfl (by first | exact C_print hC | exact C_minors hC | exact C_stairs hC | exact (CW_cst hC).2.1 | exact C_mat hC (by omega) | assumption) rfl ?_
      by_cases h1 : v1 423 = 1
      · have hh := cn_isOne (xs := xs) (fr := fr - 1) (lo := lo - 20) hC i423
        rw [if_pos h1] at hh
        refine c_1 (p := 86) m_De_printFraction rfl inv_v (by decide) m_Wh_isOne rfl rfl (by omega) (by omega) (Nat.le_of_ble_eq_true rfl) (Nat.le_of_ble_eq_true rfl) (C_rcvW hC (by first | assumption | exact rfl) _) hh ?_
        refine s_if_ne (p := 89) m_De_printFraction rfl rfl (by omega) (by omega) (fun hbr => ?_) (fun hbr => False.elim (by omega))
        refine p_ret m_De_printFraction rfl rfl ?_
        rw [← hl, ← q1, ← q2, if_pos h1, List.append_nil]
        exact ⟨rfl, s2, v1, hC, kpP_trans hk k2, k1 27 (by omega) (by omega) (by omega) (by omega) (by omega) (by omega), k1 104 (by omega) (by omega) (by omega) (by omega) (by omega) (by omega), p2, by omega⟩
      · have hh := cn_isOne (xs := xs) (fr := fr - 1) (lo := lo - 20) hC i423
        rw [if_neg h1] at hh
        refine c_1 (p := 86) m_De_printFraction rfl inv_v (by decide) m_Wh_isOne rfl rfl (by omega) (by omega) (Nat.le_of_ble_eq_true rfl) (Nat.le_of_ble_eq_true rfl) (C_rcvW hC (by first | assumption | exact rfl) _) hh ?_
        refine s_if_ne (p := 89) m_De_printFraction rfl rfl (by omega) (by omega) (fun hbr => False.elim (by omega)) (fun hbr => ?_)
        refine fi_step (pc' := 90) m_De_printFraction rfl rfl ?_
        refine k_get (p := 93) m_De_printFraction rfl rfl (by first | exact C_print hC | exact C_minors hC | exact C_stairs hC | exact (CW_cst hC).2.1 | exact C_mat hC (by omega) | assumption) rfl ?_
        refine s_bipush (p := 95) m_De_printFraction rfl rfl rfl ?_
        refine g_2 (p := 98) m_De_printFraction rfl inv_v (by decide) m_Pr_letter rfl rfl (by omega) (by omega) (Nat.le_of_ble_eq_true rfl) (Nat.le_of_ble_eq_true rfl) (C_rcv hC _) (p_letter hC p2 (by omega) (by omega) (by omega)) (fun v w hP => ?_)
        obtain ⟨rfl, s3, hC, k3, p3⟩ := hP
        have lenw3 : (l ++ sayS (v1 421) ++ [47]).length ≤ 114 := by rw [List.length_append]; simp; omega
        refine fi_step (pc' := 99) m_De_printFraction rfl rfl ?_
        refine k_get (p := 102) m_De_printFraction rfl rfl (by first | exact C_print hC | exact C_minors hC | exact C_stairs hC | exact (CW_cst hC).2.1 | exact C_mat hC (by omega) | assumption) rfl ?_
        refine fi_step (pc' := 103) m_De_printFraction rfl rfl ?_
        refine k_get (p := 106) m_De_printFraction rfl rfl (by first | exact C_print hC | exact C_minors hC | exact C_stairs hC | exact (CW_cst hC).2.1 | exact C_mat hC (by omega) | assumption) rfl ?_
        refine g_2 (p := 109) m_De_printFraction rfl inv_v (by decide) m_Pr_whole rfl rfl (by omega) (by omega) (Nat.le_of_ble_eq_true rfl) (Nat.le_of_ble_eq_true rfl) (C_rcv hC _) (p_whole hC i423 p3 z2 (by omega) (by omega) (by omega)) (fun v w hP => ?_)
        obtain ⟨rfl, s4, hC, k4, p4⟩ := hP
        refine p_ret m_De_printFraction rfl rfl ?_
        have lenw4 : (l ++ sayS (v1 421) ++ [47] ++ sayS (v1 423)).length ≤ 256 := by rw [List.length_append]; omega
        rw [← hl, ← q1, ← q2, if_neg h1, ← List.append_assoc]
        exact ⟨rfl, s4, v1, hC, kpP_trans (kpP_trans hk k2) (kpP_trans k3 k4), k1 27 (by omega) (by omega) (by omega) (by omega) (by omega) (by omega), k1 104 (by omega) (by omega) (by omega) (by omega) (by omega) (by omega), p4, lenw4⟩
    refine fi_step (pc' := 49) m_De_printFraction rfl rfl ?_
    refine k_get (p := 52) m_De_printFraction rfl rfl (by first | exact C_print hC | exact C_minors hC | exact C_stairs hC | exact (CW_cst hC).2.1 | exact C_mat hC (by omega) | assumption) rfl ?_
    refine g_1 (p := 55) m_De_printFraction rfl inv_v (by decide) m_Pr_clear rfl rfl (by omega) (by omega) (Nat.le_of_ble_eq_true rfl) (Nat.le_of_ble_eq_true rfl) (C_rcv hC _) (p_clear hC) (fun v w hP => ?_)
    obtain ⟨rfl, s1, hC, ks1, p1⟩ := hP
    by_cases h1 : b = 1
    · refine fi_step (pc' := 56) m_De_printFraction rfl rfl ?_
      refine s_if_eq (p := 59) m_De_printFraction rfl rfl (by omega) (by omega) (fun hbr => False.elim (by omega)) (fun hbr => ?_)
      refine fi_step (pc' := 60) m_De_printFraction rfl rfl ?_
      refine k_get (p := 63) m_De_printFraction rfl rfl (by first | exact C_print hC | exact C_minors hC | exact C_stairs hC | exact (CW_cst hC).2.1 | exact C_mat hC (by omega) | assumption) rfl ?_
      refine s_bipush (p := 65) m_De_printFraction rfl rfl rfl ?_
      refine g_2 (p := 68) m_De_printFraction rfl inv_v (by decide) m_Pr_letter rfl rfl (by omega) (by omega) (Nat.le_of_ble_eq_true rfl) (Nat.le_of_ble_eq_true rfl) (C_rcv hC _) (p_letter hC p1 (by simp) (by omega) (by omega)) (fun v w hP => ?_)
      obtain ⟨rfl, s2, hC, ks2, p2⟩ := hP
      exact tail w s2 _ hC (kpP_trans ks1 ks2) p2 (by rw [if_pos h1]; rfl)
    · refine fi_step (pc' := 56) m_De_printFraction rfl rfl ?_
      refine s_if_eq (p := 59) m_De_printFraction rfl rfl (by omega) (by omega) (fun hbr => ?_) (fun hbr => False.elim (by omega))
      exact tail w s1 _ hC ks1 p1 (by rw [if_neg h1])
  by_cases hsame : (v 421 < 0 ↔ v 423 < 0)
  · have hbb : bl = br := by omega
    refine fi_step (pc' := 1) m_De_printFraction rfl rfl ?_
    refine k_get (p := 4) m_De_printFraction rfl rfl (by first | exact C_print hC | exact C_minors hC | exact C_stairs hC | exact (CW_cst hC).2.1 | exact C_mat hC (by omega) | assumption) rfl ?_
    first | refine t_get (p := 7) m_De_printFraction rfl rfl (by assumption) rfl ?_ | refine o_get (p := 7) m_De_printFraction rfl rfl (by assumption) (by assumption) rfl ?_
    refine fi_step (pc' := 8) m_De_printFraction rfl rfl ?_
    refine k_get (p := 11) m_De_printFraction rfl rfl (by first | exact C_print hC | exact C_minors hC | exact C_stairs hC | exact (CW_cst hC).2.1 | exact C_mat hC (by omega) | assumption) rfl ?_
    first | refine t_get (p := 14) m_De_printFraction rfl rfl (by assumption) rfl ?_ | refine o_get (p := 14) m_De_printFraction rfl rfl (by assumption) (by assumption) rfl ?_
    refine s_ic_eq (p := 17) m_De_printFraction rfl rfl (by omega) (by omega) (by omega) (by omega) (fun hbr => ?_) (fun hbr => False.elim (by omega))
    refine fi_step (pc' := 32) m_De_printFraction rfl rfl ?_
    refine fi_step (pc' := 33) m_De_printFraction rfl rfl ?_
    exact go 0 (by unfold frN; rw [if_neg (fun h => h.2 hsame)])
  · have hbb : bl ≠ br := by omega
    refine fi_step (pc' := 1) m_De_printFraction rfl rfl ?_
    refine k_get (p := 4) m_De_printFraction rfl rfl (by first | exact C_print hC | exact C_minors hC | exact C_stairs hC | exact (CW_cst hC).2.1 | exact C_mat hC (by omega) | assumption) rfl ?_
    first | refine t_get (p := 7) m_De_printFraction rfl rfl (by assumption) rfl ?_ | refine o_get (p := 7) m_De_printFraction rfl rfl (by assumption) (by assumption) rfl ?_
    refine fi_step (pc' := 8) m_De_printFraction rfl rfl ?_
    refine k_get (p := 11) m_De_printFraction rfl rfl (by first | exact C_print hC | exact C_minors hC | exact C_stairs hC | exact (CW_cst hC).2.1 | exact C_mat hC (by omega) | assumption) rfl ?_
    first | refine t_get (p := 14) m_De_printFraction rfl rfl (by assumption) rfl ?_ | refine o_get (p := 14) m_De_printFraction rfl rfl (by assumption) (by assumption) rfl ?_
    refine s_ic_eq (p := 17) m_De_printFraction rfl rfl (by omega) (by omega) (by omega) (by omega) (fun hbr => False.elim (by omega)) (fun hbr => ?_)
    refine fi_step (pc' := 18) m_De_printFraction rfl rfl ?_
    refine k_get (p := 21) m_De_printFraction rfl rfl (by first | exact C_print hC | exact C_minors hC | exact C_stairs hC | exact (CW_cst hC).2.1 | exact C_mat hC (by omega) | assumption) rfl ?_
    by_cases hz : v 421 = 0
    · have hh := cn_isZero (xs := xs) (fr := fr - 1) (lo := lo - 20) hC i421
      rw [if_pos hz] at hh
      refine c_1 (p := 24) m_De_printFraction rfl inv_v (by decide) m_Wh_isZero rfl rfl (by omega) (by omega) (Nat.le_of_ble_eq_true rfl) (Nat.le_of_ble_eq_true rfl) (C_rcvW hC (by first | assumption | exact rfl) _) hh ?_
      refine s_if_ne (p := 27) m_De_printFraction rfl rfl (by omega) (by omega) (fun hbr => ?_) (fun hbr => False.elim (by omega))
      refine fi_step (pc' := 32) m_De_printFraction rfl rfl ?_
      refine fi_step (pc' := 33) m_De_printFraction rfl rfl ?_
      exact go 0 (by unfold frN; rw [if_neg (fun h => h.1 hz)])
    · have hh := cn_isZero (xs := xs) (fr := fr - 1) (lo := lo - 20) hC i421
      rw [if_neg hz] at hh
      refine c_1 (p := 24) m_De_printFraction rfl inv_v (by decide) m_Wh_isZero rfl rfl (by omega) (by omega) (Nat.le_of_ble_eq_true rfl) (Nat.le_of_ble_eq_true rfl) (C_rcvW hC (by first | assumption | exact rfl) _) hh ?_
      refine s_if_ne (p := 27) m_De_printFraction rfl rfl (by omega) (by omega) (fun hbr => False.elim (by omega)) (fun hbr => ?_)
      refine fi_step (pc' := 28) m_De_printFraction rfl rfl ?_
      refine fi_step (pc' := 32) m_De_printFraction rfl rfl ?_
      refine fi_step (pc' := 33) m_De_printFraction rfl rfl ?_
      exact go 1 (by unfold frN; rw [if_pos ⟨hz, hsame⟩])
theorem de_inverse {m : Nat} {i j : Int} (hC : CW w0 w s v L Z) (hok : okC s v) (hm : m < 6) (i0 : -2147483648 ≤ i) (i1 : i < 2147483648) (j0 : -2147483648 ≤ j) (j1 : j < 2147483648) (hfr : 9 ≤ fr) (hlo : 400 ≤ lo) :
    fin xs fr lo 99 0 (ax_ent [.ref 0, .int (jI (m : Int)), .int (jI i), .int (jI j)] 6) [] w (Ret fun u w' => (s 2 m ≠ s 3 m ∧ sameC w0 s v L Z (-2) u w') ∨ (s 2 m = s 3 m ∧ ¬ (0 ≤ i ∧ i < s 2 m ∧ 0 ≤ j ∧ j < s 2 m) ∧ sameC w0 s v L Z (-1) u w') ∨ (s 2 m = s 3 m ∧ (0 ≤ i ∧ i < s 2 m ∧ 0 ≤ j ∧ j < s 2 m) ∧ ∃ d a, d = mm (gm (rf s) m) (2 ^ (s 2 m).toNat - 1) (2 ^ (s 2 m).toNat - 1) ∧ a = (if (i + j) % 2 = 1 then - mm (gm (rf s) m) (2 ^ (s 2 m).toNat - 1 - 2 ^ j.toNat) (2 ^ (s 2 m).toNat - 1 - 2 ^ i.toNat) else mm (gm (rf s) m) (2 ^ (s 2 m).toNat - 1 - 2 ^ j.toNat) (2 ^ (s 2 m).toNat - 1 - 2 ^ i.toNat)) ∧ ((d = 0 ∧ sameC w0 s v L Z (-1) u w') ∨ (d ≠ 0 ∧ prtC w0 s L Z (fracS (frN a d) a d) u w')))) := by
  have dm := rf_dim hok.1 hm
  have hhas := ma_has (xs := xs) (fr := fr - 1) (lo := lo - 22) (m := m) (i := i) (j := j) hC (by omega) dm i0 i1 j0 j1
  obtain ⟨d1, d2, d3, d4⟩ := dm
  obtain ⟨R, hR⟩ : ∃ R : Nat, s 2 m = R := ⟨(s 2 m).toNat, by omega⟩
  have hRt : (s 2 m).toNat = R := by omega
  have hpw := S_pow (show R ≤ 6 by omega)
  have hall := els_all ⟨R, by omega⟩
  simp only at hall
  have hMB := MB_13
  have hM0 : (0 : Int) ≤ MBND := by decide
  refine fi_step (pc' := 1) m_De_inverse rfl rfl ?_
  refine fi_step (pc' := 2) m_De_inverse rfl rfl ?_
  by_cases hs : s 2 m = s 3 m
  · have hCt : (s 3 m).toNat = R := by omega
    refine c_2 (p := 5) m_De_inverse rfl inv_v (by decide) m_De_matrix rfl rfl (by omega) (by omega) (Nat.le_of_ble_eq_true rfl) (Nat.le_of_ble_eq_true rfl) (C_rcvD hC _) (de_matrix hC hm) ?_
    refine fi_step (pc' := 7) m_De_inverse rfl rfl ?_
    refine fi_step (pc' := 9) m_De_inverse rfl rfl ?_
    refine k_get (p := 12) m_De_inverse rfl rfl (by first | exact C_print hC | exact C_minors hC | exact C_stairs hC | exact (CW_cst hC).2.1 | exact C_mat hC (by omega) | assumption) rfl ?_
    refine fi_step (pc' := 14) m_De_inverse rfl rfl ?_
    refine k_get (p := 17) m_De_inverse rfl rfl (by first | exact C_print hC | exact C_minors hC | exact C_stairs hC | exact (CW_cst hC).2.1 | exact C_mat hC (by omega) | assumption) rfl ?_
    refine s_ic_eq (p := 20) m_De_inverse rfl rfl (by omega) (by omega) (by omega) (by omega) (fun hbr => ?_) (fun hbr => False.elim (by omega))
    refine fi_step (pc' := 25) m_De_inverse rfl rfl ?_
    refine fi_step (pc' := 26) m_De_inverse rfl rfl ?_
    refine fi_step (pc' := 27) m_De_inverse rfl rfl ?_
    by_cases hin : 0 ≤ i ∧ i < s 2 m ∧ 0 ≤ j ∧ j < s 2 m
    · rw [if_pos (by omega)] at hhas
      obtain ⟨i, rfl⟩ := Int.eq_ofNat_of_zero_le hin.1
      obtain ⟨j, rfl⟩ := Int.eq_ofNat_of_zero_le hin.2.2.1
      refine c_3 (p := 30) m_De_inverse rfl inv_v (by decide) m_Ma_has rfl rfl (by omega) (by omega) (Nat.le_of_ble_eq_true rfl) (Nat.le_of_ble_eq_true rfl) (C_rcvM hC (by omega) _) hhas ?_
      refine s_if_ne (p := 33) m_De_inverse rfl rfl (by omega) (by omega) (fun hbr => ?_) (fun hbr => False.elim (by omega))
      refine fi_step (pc' := 36) m_De_inverse rfl rfl ?_
      refine k_get (p := 39) m_De_inverse rfl rfl (by first | exact C_print hC | exact C_minors hC | exact C_stairs hC | exact (CW_cst hC).2.1 | exact C_mat hC (by omega) | assumption) rfl ?_
      refine fi_step (pc' := 41) m_De_inverse rfl rfl ?_
      refine g_2 (p := 44) m_De_inverse rfl inv_v (by decide) m_Mi_read rfl rfl (by omega) (by omega) (Nat.le_of_ble_eq_true rfl) (Nat.le_of_ble_eq_true rfl) (C_rcvI hC _) (mi_read hC hok hm (by omega) (by omega)) (fun v w hP => ?_)
      obtain ⟨rfl, v1, hC, k1', N1⟩ := hP
      have e2 : lkS s (s 2 m) (s 3 m) 2 m = R := by rw [lkS_o _ _ _ (by decide), hR]
      have o1 := okC_lk (R := s 2 m) (C := s 3 m) hok (k1' 27 (by omega)) (k1' 104 (by omega))
      have f1 : lkS s (s 2 m) (s 3 m) 0 1 = R := by rw [lkS_1, hR]
      have f2 : lkS s (s 2 m) (s 3 m) 0 2 = R := by rw [lkS_2, ← hs, hR]
      rw [hRt, hCt] at N1
      refine fi_step (pc' := 46) m_De_inverse rfl rfl ?_
      refine k_get (p := 49) m_De_inverse rfl rfl (by first | exact C_print hC | exact C_minors hC | exact C_stairs hC | exact (CW_cst hC).2.1 | exact C_mat hC (by omega) | assumption) rfl ?_
      rw [e2]
      refine c_1 (p := 52) m_De_inverse rfl inv_s (by decide) m_De_all rfl rfl (by omega) (by omega) (Nat.le_of_ble_eq_true rfl) (Nat.le_of_ble_eq_true rfl) rfl (de_all (show R ≤ 6 by omega)) ?_
      refine fi_step (pc' := 54) m_De_inverse rfl rfl ?_
      refine fi_step (pc' := 55) m_De_inverse rfl rfl ?_
      refine k_get (p := 58) m_De_inverse rfl rfl (by first | exact C_print hC | exact C_minors hC | exact C_stairs hC | exact (CW_cst hC).2.1 | exact C_mat hC (by omega) | assumption) rfl ?_
      refine fi_step (pc' := 59) m_De_inverse rfl rfl ?_
      refine k_get (p := 62) m_De_inverse rfl rfl (by first | exact C_print hC | exact C_minors hC | exact C_stairs hC | exact (CW_cst hC).2.1 | exact C_mat hC (by omega) | assumption) rfl ?_
      refine fi_step (pc' := 64) m_De_inverse rfl rfl ?_
      refine fi_step (pc' := 66) m_De_inverse rfl rfl ?_
      show fin xs fr lo 99 66 [some (.ref 0), some (.int (jI (m : Int))), some (.int (jI (i : Int))), some (.int (jI (j : Int))), some (.ref (2 + 2 * m)), some (.int (jI (2 ^ R - 1)))] [.int (jI (2 ^ R - 1)), .int (jI (2 ^ R - 1)), .ref 29, .ref 423] w _
      refine g_3 (p := 69) m_De_inverse rfl inv_v (by decide) m_Mi_minor rfl rfl (by omega) (by omega) (Nat.le_of_ble_eq_true rfl) (Nat.le_of_ble_eq_true rfl) (C_rcvI hC _) (mi_minor (C := R) (R := R) hC (by omega) (by omega) f1 f2 (by omega) (by omega) (by omega) (by omega) (by omega) (by omega) N1 o1.1.2.2.1 (by rw [hall.1])) (fun v w hP => ?_)
      obtain ⟨rfl, v2, hC, hval, k2⟩ := hP
      rw [← hall.1, ← mm_dY rfl] at hval
      have hb : ((mm (gm (rf s) m) (2 ^ R - 1) (2 ^ R - 1)).natAbs : Int) ≤ MBND := mm_bound (R := R) (C := R) (by omega) (by omega) (NG_hg N1) (by omega) (by omega) (by omega) (by omega) rfl
      have iM : isWh (104 + 2 * ((2 : Int) ^ R - 1).toNat) := i_min (by omega)
      have o2 := okC_v o1.1 (kpm_low k2 (c := 27) (by omega)) (kpm_low k2 (c := 104) (by omega))
      have N2 := NG_keep N1 (by omega) (by omega) (fun c hc => kpm_low k2 (c := c) (by omega))
      refine g_2 (p := 72) m_De_inverse rfl inv_v (by decide) m_Wh_becomeW rfl rfl (by omega) (by omega) (Nat.le_of_ble_eq_true rfl) (Nat.le_of_ble_eq_true rfl) (C_rcvW hC (by first | assumption | exact rfl) _) (cn_becomeW (k := 13) hC i423 iM (by omega) (by rw [hval]; omega) (by rw [cap423]; omega) (by omega) (by omega)) (fun v w hP => ?_)
      obtain ⟨rfl, hC⟩ := hP
      rw [hval] at hC
      obtain ⟨D, hD⟩ : ∃ D, D = mm (gm (rf s) m) (2 ^ R - 1) (2 ^ R - 1) := ⟨_, rfl⟩
      rw [← hD] at hC hb
      have o3 := okC_v (v' := upv v2 423 D) o2 (by rw [upv_ne _ (by decide)]) (by rw [upv_ne _ (by decide)])
      have N3 : NG (upv v2 423 D) (gm (rf s) m) R R 1000000000000000000 3 := NG_keep N2 (by omega) (by omega) (fun c hc => by rw [upv_ne _ (by omega)])
      refine fi_step (pc' := 73) m_De_inverse rfl rfl ?_
      refine k_get (p := 76) m_De_inverse rfl rfl (by first | exact C_print hC | exact C_minors hC | exact C_stairs hC | exact (CW_cst hC).2.1 | exact C_mat hC (by omega) | assumption) rfl ?_
      by_cases hz : D = 0
      · have hh := cn_isZero (xs := xs) (fr := fr - 1) (lo := lo - 20) hC i423
        rw [upv_same, if_pos hz] at hh
        refine c_1 (p := 79) m_De_inverse rfl inv_v (by decide) m_Wh_isZero rfl rfl (by omega) (by omega) (Nat.le_of_ble_eq_true rfl) (Nat.le_of_ble_eq_true rfl) (C_rcvW hC (by first | assumption | exact rfl) _) hh ?_
        refine s_if_eq (p := 82) m_De_inverse rfl rfl (by omega) (by omega) (fun hbr => False.elim (by omega)) (fun hbr => ?_)
        refine fi_step (pc' := 83) m_De_inverse rfl rfl ?_
        refine p_reti m_De_inverse rfl rfl ?_
        exact Or.inr (Or.inr ⟨hs, by omega, D, _, by rw [hRt, hD], rfl, Or.inl ⟨hz, sameC_rf hC o3 o1.2.1 o1.2.2⟩⟩)
      · have hh := cn_isZero (xs := xs) (fr := fr - 1) (lo := lo - 20) hC i423
        rw [upv_same, if_neg hz] at hh
        have pj := pow_lt64 (show j < 6 by omega)
        have pi := pow_lt64 (show i < 6 by omega)
        have bj := allbit ⟨R, by omega⟩ ⟨j, by omega⟩ (by simp only; omega)
        have bi := allbit ⟨R, by omega⟩ ⟨i, by omega⟩ (by simp only; omega)
        simp only at bj bi
        have ej := S_er (x := 2 ^ R - 1) (by omega) (by omega) (show j < 6 by omega) bj
        have ei := S_er (x := 2 ^ R - 1) (by omega) (by omega) (show i < 6 by omega) bi
        have lj : (els 6 (2 ^ R - 1 - 2 ^ j)).length = R - 1 := by rw [ej.1, List.length_erase_of_mem ej.2.2, hall.2]
        have li : (els 6 (2 ^ R - 1 - 2 ^ i)).length = R - 1 := by rw [ei.1, List.length_erase_of_mem ei.2.2, hall.2]
        refine c_1 (p := 79) m_De_inverse rfl inv_v (by decide) m_Wh_isZero rfl rfl (by omega) (by omega) (Nat.le_of_ble_eq_true rfl) (Nat.le_of_ble_eq_true rfl) (C_rcvW hC (by first | assumption | exact rfl) _) hh ?_
        refine s_if_eq (p := 82) m_De_inverse rfl rfl (by omega) (by omega) (fun hbr => ?_) (fun hbr => False.elim (by omega))
        refine fi_step (pc' := 85) m_De_inverse rfl rfl ?_
        refine k_get (p := 88) m_De_inverse rfl rfl (by first | exact C_print hC | exact C_minors hC | exact C_stairs hC | exact (CW_cst hC).2.1 | exact C_mat hC (by omega) | assumption) rfl ?_
        refine fi_step (pc' := 89) m_De_inverse rfl rfl ?_
        refine k_get (p := 92) m_De_inverse rfl rfl (by first | exact C_print hC | exact C_minors hC | exact C_stairs hC | exact (CW_cst hC).2.1 | exact C_mat hC (by omega) | assumption) rfl ?_
        refine fi_step (pc' := 94) m_De_inverse rfl rfl ?_
        refine fi_step (pc' := 95) m_De_inverse rfl rfl ?_
        refine fi_step (pc' := 96) m_De_inverse rfl rfl ?_
        refine b_ishl (p := 97) m_De_inverse rfl rfl (by omega) (by omega) ?_
        rw [Int.toNat_natCast]
        refine fi_step (pc' := 98) m_De_inverse rfl rfl ?_
        refine b_ixor (p := 99) m_De_inverse rfl rfl (by omega) (by omega) ?_
        refine b_andn (p := 100) m_De_inverse rfl rfl (by omega) (by omega) (show j < 6 by omega) bj ?_
        refine fi_step (pc' := 102) m_De_inverse rfl rfl ?_
        refine fi_step (pc' := 103) m_De_inverse rfl rfl ?_
        refine fi_step (pc' := 104) m_De_inverse rfl rfl ?_
        refine b_ishl (p := 105) m_De_inverse rfl rfl (by omega) (by omega) ?_
        rw [Int.toNat_natCast]
        refine fi_step (pc' := 106) m_De_inverse rfl rfl ?_
        refine b_ixor (p := 107) m_De_inverse rfl rfl (by omega) (by omega) ?_
        refine b_andn (p := 108) m_De_inverse rfl rfl (by omega) (by omega) (show i < 6 by omega) bi ?_
        have hcut : els R (2 ^ R - 1 - 2 ^ j) = els 6 (2 ^ R - 1 - 2 ^ j) := S_cut (by omega) (by omega) (by omega)
        refine g_3 (p := 111) m_De_inverse rfl inv_v (by decide) m_Mi_minor rfl rfl (by omega) (by omega) (Nat.le_of_ble_eq_true rfl) (Nat.le_of_ble_eq_true rfl) (C_rcvI hC _) (mi_minor (C := R) (R := R) hC (by omega) (by omega) f1 f2 (by omega) (by omega) (by omega) (by omega) (by omega) (by omega) N3 o3.2.2.1 (by rw [hcut]; omega)) (fun v w hP => ?_)
        obtain ⟨rfl, v4, hC, hval4, k4⟩ := hP
        rw [hcut, ← mm_dY (by omega)] at hval4
        have hb4 : ((mm (gm (rf s) m) (2 ^ R - 1 - 2 ^ j) (2 ^ R - 1 - 2 ^ i)).natAbs : Int) ≤ MBND := mm_bound (R := R) (C := R) (by omega) (by omega) (NG_hg N1) (by omega) (by omega) (by omega) (by omega) (by omega)
        have iM4 : isWh (104 + 2 * ((2 : Int) ^ R - 1 - 2 ^ i).toNat) := i_min (by omega)
        have o4 := okC_v o3 (kpm_low k4 (c := 27) (by omega)) (kpm_low k4 (c := 104) (by omega))
        have r4 : v4 423 = D := by rw [kpm_low k4 (c := 423) (by omega), upv_same]
        obtain ⟨A, hA⟩ : ∃ A, A = mm (gm (rf s) m) (2 ^ R - 1 - 2 ^ j) (2 ^ R - 1 - 2 ^ i) := ⟨_, rfl⟩
        rw [← hA] at hval4 hb4
        refine g_2 (p := 114) m_De_inverse rfl inv_v (by decide) m_Wh_becomeW rfl rfl (by omega) (by omega) (Nat.le_of_ble_eq_true rfl) (Nat.le_of_ble_eq_true rfl) (C_rcvW hC (by first | assumption | exact rfl) _) (cn_becomeW (k := 13) hC i421 iM4 (by omega) (by rw [hval4]; omega) (by rw [cap421]; omega) (by omega) (by omega)) (fun v w hP => ?_)
        obtain ⟨rfl, hC⟩ := hP
        rw [hval4] at hC
        have o5 := okC_v (v' := upv v4 421 A) o4 (by rw [upv_ne _ (by decide)]) (by rw [upv_ne _ (by decide)])
        have fin1 : ∀ (w : ax_W) (v5 : Nat → Int) (B : Int), CW w0 w (lkS s (s 2 m) (s 3 m)) v5 L Z → okC (lkS s (s 2 m) (s 3 m)) v5 → v5 421 = B → v5 423 = D → B = (if ((i : Int) + j) % 2 = 1 then -A else A) → fin xs fr lo 99 130 [some (.ref 0), some (.int (jI (m : Int))), some (.int (jI (i : Int))), some (.int (jI (j : Int))), some (.ref (2 + 2 * m)), some (.int (jI (2 ^ R - 1)))] [] w (Ret fun u w' => (s 2 m ≠ s 3 m ∧ sameC w0 s v L Z (-2) u w') ∨ (s 2 m = s 3 m ∧ ¬ (0 ≤ (i : Int) ∧ (i : Int) < s 2 m ∧ 0 ≤ (j : Int) ∧ (j : Int) < s 2 m) ∧ sameC w0 s v L Z (-1) u w') ∨ (s 2 m = s 3 m ∧ (0 ≤ (i : Int) ∧ (i : Int) < s 2 m ∧ 0 ≤ (j : Int) ∧ (j : Int) < s 2 m) ∧ ∃ d a, d = mm (gm (rf s) m) (2 ^ (s 2 m).toNat - 1) (2 ^ (s 2 m).toNat - 1) ∧ a = (if ((i : Int) + j) % 2 = 1 then - mm (gm (rf s) m) (2 ^ (s 2 m).toNat - 1 - 2 ^ (j : Int).toNat) (2 ^ (s 2 m).toNat - 1 - 2 ^ (i : Int).toNat) else mm (gm (rf s) m) (2 ^ (s 2 m).toNat - 1 - 2 ^ (j : Int).toNat) (2 ^ (s 2 m).toNat - 1 - 2 ^ (i : Int).toNat)) ∧ ((d = 0 ∧ sameC w0 s v L Z (-1) u w') ∨ (d ≠ 0 ∧ prtC w0 s L Z (fracS (frN a d) a d) u w')))) := by
          intro w v5 B hC o5 e1 e2 eB
          have hB : (B.natAbs : Int) ≤ MBND := by rw [eB]; split <;> omega
          refine fi_step (pc' := 131) m_De_inverse rfl rfl ?_
          refine g_1 (p := 134) m_De_inverse rfl inv_v (by decide) m_De_printFraction rfl rfl (by omega) (by omega) (Nat.le_of_ble_eq_true rfl) (Nat.le_of_ble_eq_true rfl) (C_rcvD hC _) (de_printFraction hC o5.2.1 (by rw [e2]; exact hz) (by rw [e1]; exact hB) (by rw [e2]; exact hb) (by omega) (by omega)) (fun v w hP => ?_)
          obtain ⟨rfl, s6, v6, hC, k6, a1, a2, p6, l6⟩ := hP
          rw [e1, e2] at p6 l6
          have o6 := okC_pr (okC_v o5 a1 a2) k6 p6 l6
          refine fi_step (pc' := 135) m_De_inverse rfl rfl ?_
          refine k_get (p := 138) m_De_inverse rfl rfl (by first | exact C_print hC | exact C_minors hC | exact C_stairs hC | exact (CW_cst hC).2.1 | exact C_mat hC (by omega) | assumption) rfl ?_
          refine k_get (p := 141) m_De_inverse rfl rfl (by first | exact C_print hC | exact C_minors hC | exact C_stairs hC | exact (CW_cst hC).2.1 | exact C_mat hC (by omega) | assumption) rfl ?_
          refine p_reti m_De_inverse rfl rfl ?_
          refine Or.inr (Or.inr ⟨hs, by omega, D, B, by rw [hRt, hD], ?_, Or.inr ⟨hz, s6, v6, hC, o6.1, by rw [o6.2, o1.2.2], p6, by rw [p6.1]⟩⟩)
          rw [hRt, Int.toNat_natCast, Int.toNat_natCast, ← hA]
          exact eB
        by_cases hpar : ((i : Int) + j) % 2 = 1
        · refine fi_step (pc' := 115) m_De_inverse rfl rfl ?_
          refine fi_step (pc' := 116) m_De_inverse rfl rfl ?_
          refine s_iadd (p := 117) m_De_inverse rfl rfl ?_
          refine fi_step (pc' := 118) m_De_inverse rfl rfl ?_
          refine s_irem (p := 119) m_De_inverse rfl rfl (by omega) (by omega) (by omega) (by omega) ?_
          refine fi_step (pc' := 120) m_De_inverse rfl rfl ?_
          refine s_ic_ne (p := 123) m_De_inverse rfl rfl (by omega) (by omega) (by omega) (by omega) (fun hbr => False.elim (by omega)) (fun hbr => ?_)
          refine fi_step (pc' := 124) m_De_inverse rfl rfl ?_
          refine k_get (p := 127) m_De_inverse rfl rfl (by first | exact C_print hC | exact C_minors hC | exact C_stairs hC | exact (CW_cst hC).2.1 | exact C_mat hC (by omega) | assumption) rfl ?_
          refine g_1 (p := 130) m_De_inverse rfl inv_v (by decide) m_Wh_negate rfl rfl (by omega) (by omega) (Nat.le_of_ble_eq_true rfl) (Nat.le_of_ble_eq_true rfl) (C_rcvW hC (by first | assumption | exact rfl) _) (cn_negate hC i421) (fun v w hP => ?_)
          obtain ⟨rfl, hC⟩ := hP
          rw [upv_same] at hC
          exact fin1 w _ (-A) hC (okC_v o5 (by rw [upv_ne _ (by decide)]) (by rw [upv_ne _ (by decide)])) (upv_same _ _ _) (by rw [upv_ne _ (by decide), upv_ne _ (by decide)]; exact r4) (by rw [if_pos hpar])
        · refine fi_step (pc' := 115) m_De_inverse rfl rfl ?_
          refine fi_step (pc' := 116) m_De_inverse rfl rfl ?_
          refine s_iadd (p := 117) m_De_inverse rfl rfl ?_
          refine fi_step (pc' := 118) m_De_inverse rfl rfl ?_
          refine s_irem (p := 119) m_De_inverse rfl rfl (by omega) (by omega) (by omega) (by omega) ?_
          refine fi_step (pc' := 120) m_De_inverse rfl rfl ?_
          refine s_ic_ne (p := 123) m_De_inverse rfl rfl (by omega) (by omega) (by omega) (by omega) (fun hbr => ?_) (fun hbr => False.elim (by omega))
          exact fin1 w _ A hC o5 (upv_same _ _ _) (by rw [upv_ne _ (by decide)]; exact r4) (by rw [if_neg hpar])
    · rw [if_neg (by omega)] at hhas
      refine c_3 (p := 30) m_De_inverse rfl inv_v (by decide) m_Ma_has rfl rfl (by omega) (by omega) (Nat.le_of_ble_eq_true rfl) (Nat.le_of_ble_eq_true rfl) (C_rcvM hC (by omega) _) hhas ?_
      refine s_if_ne (p := 33) m_De_inverse rfl rfl (by omega) (by omega) (fun hbr => False.elim (by omega)) (fun hbr => ?_)
      refine fi_step (pc' := 34) m_De_inverse rfl rfl ?_
      refine p_reti m_De_inverse rfl rfl ?_
      exact Or.inr (Or.inl ⟨hs, hin, sameC_rf hC hok ⟨rfl, rfl⟩ rfl⟩)
  · refine c_2 (p := 5) m_De_inverse rfl inv_v (by decide) m_De_matrix rfl rfl (by omega) (by omega) (Nat.le_of_ble_eq_true rfl) (Nat.le_of_ble_eq_true rfl) (C_rcvD hC _) (de_matrix hC hm) ?_
    refine fi_step (pc' := 7) m_De_inverse rfl rfl ?_
    refine fi_step (pc' := 9) m_De_inverse rfl rfl ?_
    refine k_get (p := 12) m_De_inverse rfl rfl (by first | exact C_print hC | exact C_minors hC | exact C_stairs hC | exact (CW_cst hC).2.1 | exact C_mat hC (by omega) | assumption) rfl ?_
    refine fi_step (pc' := 14) m_De_inverse rfl rfl ?_
    refine k_get (p := 17) m_De_inverse rfl rfl (by first | exact C_print hC | exact C_minors hC | exact C_stairs hC | exact (CW_cst hC).2.1 | exact C_mat hC (by omega) | assumption) rfl ?_
    refine s_ic_eq (p := 20) m_De_inverse rfl rfl (by omega) (by omega) (by omega) (by omega) (fun hbr => False.elim (by omega)) (fun hbr => ?_)
    refine s_bipush (p := 22) m_De_inverse rfl rfl rfl ?_
    refine p_reti m_De_inverse rfl rfl ?_
    exact Or.inl ⟨hs, sameC_rf hC hok ⟨rfl, rfl⟩ rfl⟩
theorem de_inverseT {m i j : Int} (hC : CW w0 w s v L Z) (m0 : -2147483648 ≤ m) (m1 : m < 2147483648) (hm : ¬ (0 ≤ m ∧ m < 6)) (hfr : 8 ≤ fr) (hlo : 230 ≤ lo) : fin xs fr lo 99 0 (ax_ent [.ref 0, .int (jI m), .int (jI i), .int (jI j)] 6) [] w (Thr 9 w) := by
  refine fi_step (pc' := 1) m_De_inverse rfl rfl ?_
  refine fi_step (pc' := 2) m_De_inverse rfl rfl ?_
  exact t_2 m_De_inverse rfl inv_v (by decide) m_De_matrix rfl (by omega) (by omega) (Nat.le_of_ble_eq_true rfl) (Nat.le_of_ble_eq_true rfl) (C_rcvD hC _) (de_matrixT m0 m1 hm (by omega) (by omega)) rfl
end INV
