/-! THE CLASS: determinant, divisor, factor, characteristic, inverse -/
/-- a number was printed -/
def prtC (w0 : ax_W) (s : mo_S) (L Z : Nat) (l : List Int) (u : Option Value) (w' : ax_W) : Prop := ∃ s' v', CW w0 w' s' v' L Z ∧ okC s' v' ∧ rf s' = rf s ∧ prC s' l ∧ u = some (.int (jI (l.length : Nat)))
theorem okC_pr {s s' : mo_S} {v : Nat → Int} {l : List Int} (h : okC s v) (hk : kpP s s') (hp : prC s' l) (hl : l.length ≤ 256) : okC s' v ∧ rf s' = rf s := by
  obtain ⟨a, b, c, d, e, p0, p1⟩ := h
  have hr : rf s' = rf s := rf_eq (fun x _ _ => by rw [hk.1 1 (by decide) (by decide)]) (fun m _ _ => by rw [hk.1 2 (by decide) (by decide)]) (fun m _ _ => by rw [hk.1 3 (by decide) (by decide)])
  exact ⟨⟨by rw [hr]; exact a, b, c, by rw [hk.1 6 (by decide) (by decide)]; exact d, by rw [hk.1 6 (by decide) (by decide)]; exact e, by rw [hp.1]; omega, by rw [hp.1]; omega⟩, hr⟩
theorem okC_v {s : mo_S} {v v' : Nat → Int} (h : okC s v) (h1 : v' 27 = v 27) (h2 : v' 104 = v 104) : okC s v' := by
  obtain ⟨a, b, c, d⟩ := h
  exact ⟨a, by rw [h1, b], by rw [h2, c], d⟩
theorem decS_len {n q : Nat} (h : n < 10 ^ (q + 1)) : (decS n).length ≤ q + 1 := by
  unfold decS; rw [List.length_map, List.length_reverse]; exact dd_len h
theorem sayS_le {d : Int} {q : Nat} (h : d.natAbs < 10 ^ (q + 1)) : (sayS d).length ≤ q + 2 := by
  have := decS_len h
  unfold sayS; rw [List.length_append]; split <;> simp <;> omega
theorem MB_115 {d : Int} (h : (d.natAbs : Int) ≤ 64 * MBND) : d.natAbs < 10 ^ (113 + 1) := by
  have h1 : (64 * MBND : Int) < ((10 ^ (113 + 1) : Nat) : Int) := by decide
  exact Int.ofNat_lt.mp (Int.lt_of_le_of_lt h h1)
theorem MB_111 {d : Int} (h : (d.natAbs : Int) ≤ MBND) : d.natAbs < 10 ^ (110 + 1) := by
  have h1 : (MBND : Int) < ((10 ^ (110 + 1) : Nat) : Int) := by decide
  exact Int.ofNat_lt.mp (Int.lt_of_le_of_lt h h1)
section DM
variable {xs : List Int32} {fr lo : Nat} {w w0 : ax_W} {s : mo_S} {v : Nat → Int} {L Z : Nat}
theorem de_printWhole {c q : Nat} (hC : CW w0 w s v L Z) (hok : okC s v) (hc : isWh c) (hq : (v c).natAbs < 10 ^ (q + 1)) (hl : q + 2 < 256) (hfr : 2 ≤ fr) (hlo : 60 ≤ lo) : fin xs fr lo 87 0 (ax_ent [.ref 0, .ref c] 2) [] w (Ret (prtC w0 s L Z (sayS (v c)))) := by
  refine fi_step (pc' := 1) m_De_printWhole rfl rfl ?_
  refine k_get (p := 4) m_De_printWhole rfl rfl (by first | exact C_print hC | exact C_minors hC | exact C_stairs hC | exact (CW_cst hC).2.1 | exact C_mat hC (by omega) | assumption) rfl ?_
  refine g_1 (p := 7) m_De_printWhole rfl inv_v (by decide) m_Pr_clear rfl rfl (by omega) (by omega) (Nat.le_of_ble_eq_true rfl) (Nat.le_of_ble_eq_true rfl) (C_rcv hC _) (p_clear hC) (fun v w hP => ?_)
  obtain ⟨rfl, s1, hC, k1, p1⟩ := hP
  refine fi_step (pc' := 8) m_De_printWhole rfl rfl ?_
  refine k_get (p := 11) m_De_printWhole rfl rfl (by first | exact C_print hC | exact C_minors hC | exact C_stairs hC | exact (CW_cst hC).2.1 | exact C_mat hC (by omega) | assumption) rfl ?_
  refine fi_step (pc' := 12) m_De_printWhole rfl rfl ?_
  refine g_2 (p := 15) m_De_printWhole rfl inv_v (by decide) m_Pr_whole rfl rfl (by omega) (by omega) (Nat.le_of_ble_eq_true rfl) (Nat.le_of_ble_eq_true rfl) (C_rcv hC _) (p_whole hC hc p1 hq (by simp; omega) (by omega) (by omega)) (fun v w hP => ?_)
  obtain ⟨rfl, s2, hC, k2, p2⟩ := hP
  rw [List.nil_append] at p2
  have h1 := okC_pr hok (kpP_trans k1 k2) p2 (by have := sayS_le hq; omega)
  refine fi_step (pc' := 16) m_De_printWhole rfl rfl ?_
  refine k_get (p := 19) m_De_printWhole rfl rfl (by first | exact C_print hC | exact C_minors hC | exact C_stairs hC | exact (CW_cst hC).2.1 | exact C_mat hC (by omega) | assumption) rfl ?_
  refine k_get (p := 22) m_De_printWhole rfl rfl (by first | exact C_print hC | exact C_minors hC | exact C_stairs hC | exact (CW_cst hC).2.1 | exact C_mat hC (by omega) | assumption) rfl ?_
  refine p_reti m_De_printWhole rfl rfl ?_
  exact ⟨s2, v, hC, h1.1, h1.2, p2, by rw [p2.1]⟩
theorem prtC_rf {s s' : mo_S} {l : List Int} {u : Option Value} {w' : ax_W} (hr : rf s' = rf s) (h : prtC w0 s' L Z l u w') : prtC w0 s L Z l u w' := by
  obtain ⟨a, b, c, d, e, f, g⟩ := h
  exact ⟨a, b, c, d, by rw [e, hr], f, g⟩
theorem sameC_rf {s' : mo_S} {v' : Nat → Int} {ans : Int} (hC : CW w0 w s' v' L Z) (hok : okC s' v') (hk : kpM s s') (hr : rf s' = rf s) : sameC w0 s v L Z ans (some (.int (jI ans))) w := ⟨s', v', hC, hok, hk, hr, rfl⟩
theorem de_determinant {m : Nat} (hC : CW w0 w s v L Z) (hok : okC s v) (hm : m < 6) (hfr : 8 ≤ fr) (hlo : 400 ≤ lo) :
    fin xs fr lo 84 0 (ax_ent [.ref 0, .int (jI (m : Int))] 3) [] w (Ret fun u w' => (s 2 m ≠ s 3 m ∧ sameC w0 s v L Z (-2) u w') ∨ (s 2 m = s 3 m ∧ ∃ d, d = mm (gm (rf s) m) (2 ^ (s 2 m).toNat - 1) (2 ^ (s 2 m).toNat - 1) ∧ prtC w0 s L Z (sayS d) u w')) := by
  have dm := rf_dim hok.1 hm
  obtain ⟨d1, d2, d3, d4⟩ := dm
  obtain ⟨R, hR⟩ : ∃ R : Nat, s 2 m = R := ⟨(s 2 m).toNat, by omega⟩
  have hpw := S_pow (show R ≤ 6 by omega)
  have hall := els_all ⟨R, by omega⟩
  simp only at hall
  refine fi_step (pc' := 1) m_De_determinant rfl rfl ?_
  refine fi_step (pc' := 2) m_De_determinant rfl rfl ?_
  by_cases hs : s 2 m = s 3 m
  · refine c_2 (p := 5) m_De_determinant rfl inv_v (by decide) m_De_matrix rfl rfl (by omega) (by omega) (Nat.le_of_ble_eq_true rfl) (Nat.le_of_ble_eq_true rfl) (C_rcvD hC _) (de_matrix hC hm) ?_
    refine fi_step (pc' := 6) m_De_determinant rfl rfl ?_
    refine fi_step (pc' := 7) m_De_determinant rfl rfl ?_
    refine k_get (p := 10) m_De_determinant rfl rfl (by first | exact C_print hC | exact C_minors hC | exact C_stairs hC | exact (CW_cst hC).2.1 | exact C_mat hC (by omega) | assumption) rfl ?_
    refine fi_step (pc' := 11) m_De_determinant rfl rfl ?_
    refine k_get (p := 14) m_De_determinant rfl rfl (by first | exact C_print hC | exact C_minors hC | exact C_stairs hC | exact (CW_cst hC).2.1 | exact C_mat hC (by omega) | assumption) rfl ?_
    refine s_ic_eq (p := 17) m_De_determinant rfl rfl (by omega) (by omega) (by omega) (by omega) (fun hbr => ?_) (fun hbr => False.elim (by omega))
    refine fi_step (pc' := 21) m_De_determinant rfl rfl ?_
    refine k_get (p := 24) m_De_determinant rfl rfl (by first | exact C_print hC | exact C_minors hC | exact C_stairs hC | exact (CW_cst hC).2.1 | exact C_mat hC (by omega) | assumption) rfl ?_
    refine fi_step (pc' := 25) m_De_determinant rfl rfl ?_
    refine g_2 (p := 28) m_De_determinant rfl inv_v (by decide) m_Mi_read rfl rfl (by omega) (by omega) (Nat.le_of_ble_eq_true rfl) (Nat.le_of_ble_eq_true rfl) (C_rcvI hC _) (mi_read hC hok hm (by omega) (by omega)) (fun v w hP => ?_)
    obtain ⟨rfl, v1, hC, k1, N1⟩ := hP
    have e2 : lkS s (s 2 m) (s 3 m) 2 m = R := by rw [lkS_o _ _ _ (by decide), hR]
    have o1 := okC_lk (R := s 2 m) (C := s 3 m) hok (k1 27 (by omega)) (k1 104 (by omega))
    have f1 : lkS s (s 2 m) (s 3 m) 0 1 = R := by rw [lkS_1, hR]
    have f2 : lkS s (s 2 m) (s 3 m) 0 2 = R := by rw [lkS_2, ← hs, hR]
    have hRt : (s 2 m).toNat = R := by omega
    have hCt : (s 3 m).toNat = R := by omega
    rw [hRt, hCt] at N1
    refine fi_step (pc' := 29) m_De_determinant rfl rfl ?_
    refine fi_step (pc' := 30) m_De_determinant rfl rfl ?_
    refine k_get (p := 33) m_De_determinant rfl rfl (by first | exact C_print hC | exact C_minors hC | exact C_stairs hC | exact (CW_cst hC).2.1 | exact C_mat hC (by omega) | assumption) rfl ?_
    refine fi_step (pc' := 34) m_De_determinant rfl rfl ?_
    refine k_get (p := 37) m_De_determinant rfl rfl (by first | exact C_print hC | exact C_minors hC | exact C_stairs hC | exact (CW_cst hC).2.1 | exact C_mat hC (by omega) | assumption) rfl ?_
    rw [e2]
    refine c_1 (p := 40) m_De_determinant rfl inv_s (by decide) m_De_all rfl rfl (by omega) (by omega) (Nat.le_of_ble_eq_true rfl) (Nat.le_of_ble_eq_true rfl) rfl (de_all (show R ≤ 6 by omega)) ?_
    refine fi_step (pc' := 41) m_De_determinant rfl rfl ?_
    refine k_get (p := 44) m_De_determinant rfl rfl (by first | exact C_print hC | exact C_minors hC | exact C_stairs hC | exact (CW_cst hC).2.1 | exact C_mat hC (by omega) | assumption) rfl ?_
    rw [e2]
    refine c_1 (p := 47) m_De_determinant rfl inv_s (by decide) m_De_all rfl rfl (by omega) (by omega) (Nat.le_of_ble_eq_true rfl) (Nat.le_of_ble_eq_true rfl) rfl (de_all (show R ≤ 6 by omega)) ?_
    refine g_3 (p := 50) m_De_determinant rfl inv_v (by decide) m_Mi_minor rfl rfl (by omega) (by omega) (Nat.le_of_ble_eq_true rfl) (Nat.le_of_ble_eq_true rfl) (C_rcvI hC _) (mi_minor (C := R) (R := R) hC (by omega) (by omega) f1 f2 (by omega) (by omega) (by omega) (by omega) (by omega) (by omega) N1 o1.1.2.2.1 (by rw [hall.1])) (fun v w hP => ?_)
    obtain ⟨rfl, v2, hC, hval, k2⟩ := hP
    rw [← hall.1, ← mm_dY rfl] at hval
    have hb : ((mm (gm (rf s) m) (2 ^ R - 1) (2 ^ R - 1)).natAbs : Int) ≤ MBND := mm_bound (R := R) (C := R) (by omega) (by omega) (NG_hg N1) (by omega) (by omega) (by omega) (by omega) rfl
    have iM : isWh (104 + 2 * ((2 : Int) ^ R - 1).toNat) := i_min (by omega)
    have o2 := okC_v o1.1 (kpm_low k2 (c := 27) (by omega)) (kpm_low k2 (c := 104) (by omega))
    refine g_2 (p := 53) m_De_determinant rfl inv_v (by decide) m_De_printWhole rfl rfl (by omega) (by omega) (Nat.le_of_ble_eq_true rfl) (Nat.le_of_ble_eq_true rfl) (C_rcvD hC _) (de_printWhole (q := 110) hC o2 iM (by rw [hval]; exact MB_111 hb) (by omega) (by omega) (by omega)) (fun v w hP => ?_)
    rw [hval] at hP
    have hP := prtC_rf o1.2.2 hP
    obtain ⟨s3, v3, a1, a2, a3, a4, rfl⟩ := hP
    refine p_reti m_De_determinant rfl rfl ?_
    exact Or.inr ⟨hs, _, by rw [hRt], s3, v3, a1, a2, a3, a4, rfl⟩
  · refine c_2 (p := 5) m_De_determinant rfl inv_v (by decide) m_De_matrix rfl rfl (by omega) (by omega) (Nat.le_of_ble_eq_true rfl) (Nat.le_of_ble_eq_true rfl) (C_rcvD hC _) (de_matrix hC hm) ?_
    refine fi_step (pc' := 6) m_De_determinant rfl rfl ?_
    refine fi_step (pc' := 7) m_De_determinant rfl rfl ?_
    refine k_get (p := 10) m_De_determinant rfl rfl (by first | exact C_print hC | exact C_minors hC | exact C_stairs hC | exact (CW_cst hC).2.1 | exact C_mat hC (by omega) | assumption) rfl ?_
    refine fi_step (pc' := 11) m_De_determinant rfl rfl ?_
    refine k_get (p := 14) m_De_determinant rfl rfl (by first | exact C_print hC | exact C_minors hC | exact C_stairs hC | exact (CW_cst hC).2.1 | exact C_mat hC (by omega) | assumption) rfl ?_
    refine s_ic_eq (p := 17) m_De_determinant rfl rfl (by omega) (by omega) (by omega) (by omega) (fun hbr => False.elim (by omega)) (fun hbr => ?_)
    refine s_bipush (p := 19) m_De_determinant rfl rfl rfl ?_
    refine p_reti m_De_determinant rfl rfl ?_
    exact Or.inl ⟨hs, sameC_rf hC hok ⟨rfl, rfl⟩ rfl⟩
theorem de_divisor {m : Nat} {k : Int} (hC : CW w0 w s v L Z) (hok : okC s v) (hm : m < 6) (k0 : -2147483648 ≤ k) (k1 : k < 2147483648) (hfr : 8 ≤ fr) (hlo : 400 ≤ lo) :
    fin xs fr lo 92 0 (ax_ent [.ref 0, .int (jI (m : Int)), .int (jI k)] 4) [] w (Ret fun u w' => (¬ (1 ≤ k ∧ k ≤ s 2 m ∧ k ≤ s 3 m) ∧ sameC w0 s v L Z (-1) u w') ∨ ((1 ≤ k ∧ k ≤ s 2 m ∧ k ≤ s 3 m) ∧ ∃ d, isD (gm (rf s) m) (s 2 m).toNat (s 3 m).toNat k.toNat d ∧ prtC w0 s L Z (sayS d) u w')) := by
  have dm := rf_dim hok.1 hm
  have hls := ma_lesserSide (xs := xs) (fr := fr - 1) (lo := lo - 20) (m := m) hC (by omega) dm (by omega) (by omega)
  obtain ⟨d1, d2, d3, d4⟩ := dm
  obtain ⟨R, hR⟩ : ∃ R : Nat, s 2 m = R := ⟨(s 2 m).toNat, by omega⟩
  obtain ⟨C, hCn⟩ : ∃ C : Nat, s 3 m = C := ⟨(s 3 m).toNat, by omega⟩
  have hRt : (s 2 m).toNat = R := by omega
  have hCt : (s 3 m).toNat = C := by omega
  refine fi_step (pc' := 1) m_De_divisor rfl rfl ?_
  refine fi_step (pc' := 2) m_De_divisor rfl rfl ?_
  by_cases h1 : 1 ≤ k
  · refine c_2 (p := 5) m_De_divisor rfl inv_v (by decide) m_De_matrix rfl rfl (by omega) (by omega) (Nat.le_of_ble_eq_true rfl) (Nat.le_of_ble_eq_true rfl) (C_rcvD hC _) (de_matrix hC hm) ?_
    refine fi_step (pc' := 6) m_De_divisor rfl rfl ?_
    refine fi_step (pc' := 7) m_De_divisor rfl rfl ?_
    refine fi_step (pc' := 8) m_De_divisor rfl rfl ?_
    refine s_ic_lt (p := 11) m_De_divisor rfl rfl (by omega) (by omega) (by omega) (by omega) (fun hbr => False.elim (by omega)) (fun hbr => ?_)
    refine fi_step (pc' := 12) m_De_divisor rfl rfl ?_
    refine fi_step (pc' := 13) m_De_divisor rfl rfl ?_
    by_cases h2 : k ≤ s 2 m ∧ k ≤ s 3 m
    · have h2' : k ≤ (if s 2 m ≤ s 3 m then s 2 m else s 3 m) := by split <;> omega
      have h2u : (if s 2 m ≤ s 3 m then s 2 m else s 3 m) ≤ 6 := by split <;> omega
      obtain ⟨k, rfl⟩ := Int.eq_ofNat_of_zero_le (show 0 ≤ k by omega)
      refine c_1 (p := 16) m_De_divisor rfl inv_v (by decide) m_Ma_lesserSide rfl rfl (by omega) (by omega) (Nat.le_of_ble_eq_true rfl) (Nat.le_of_ble_eq_true rfl) (C_rcvM hC (by omega) _) hls ?_
      refine s_ic_le (p := 19) m_De_divisor rfl rfl (by omega) (by omega) (by omega) (by omega) (fun hbr => ?_) (fun hbr => False.elim (by omega))
      refine fi_step (pc' := 22) m_De_divisor rfl rfl ?_
      refine k_get (p := 25) m_De_divisor rfl rfl (by first | exact C_print hC | exact C_minors hC | exact C_stairs hC | exact (CW_cst hC).2.1 | exact C_mat hC (by omega) | assumption) rfl ?_
      refine fi_step (pc' := 26) m_De_divisor rfl rfl ?_
      refine g_2 (p := 29) m_De_divisor rfl inv_v (by decide) m_Mi_read rfl rfl (by omega) (by omega) (Nat.le_of_ble_eq_true rfl) (Nat.le_of_ble_eq_true rfl) (C_rcvI hC _) (mi_read hC hok hm (by omega) (by omega)) (fun v w hP => ?_)
      obtain ⟨rfl, v1, hC, k1', N1⟩ := hP
      have o1 := okC_lk (R := s 2 m) (C := s 3 m) hok (k1' 27 (by omega)) (k1' 104 (by omega))
      have f1 : lkS s (s 2 m) (s 3 m) 0 1 = R := by rw [lkS_1, hR]
      have f2 : lkS s (s 2 m) (s 3 m) 0 2 = C := by rw [lkS_2, hCn]
      rw [hRt, hCt] at N1
      refine fi_step (pc' := 30) m_De_divisor rfl rfl ?_
      refine k_get (p := 33) m_De_divisor rfl rfl (by first | exact C_print hC | exact C_minors hC | exact C_stairs hC | exact (CW_cst hC).2.1 | exact C_mat hC (by omega) | assumption) rfl ?_
      refine fi_step (pc' := 34) m_De_divisor rfl rfl ?_
      refine fi_step (pc' := 35) m_De_divisor rfl rfl ?_
      refine k_get (p := 38) m_De_divisor rfl rfl (by first | exact C_print hC | exact C_minors hC | exact C_stairs hC | exact (CW_cst hC).2.1 | exact C_mat hC (by omega) | assumption) rfl ?_
      refine g_3 (p := 41) m_De_divisor rfl inv_v (by decide) m_Mi_commonDivisor rfl rfl (by omega) (by omega) (Nat.le_of_ble_eq_true rfl) (Nat.le_of_ble_eq_true rfl) (C_rcvI hC _) (mi_commonDivisor (R := R) (C := C) (k := k) hC (by omega) (by omega) f1 f2 (by omega) (by omega) i419 (by omega) cap419 (by omega) N1 o1.1.2.2.1 o1.1.2.1) (fun v w hP => ?_)
      obtain ⟨rfl, v2, hC, hD, k2⟩ := hP
      have hb := isD_bound (R := R) (C := C) (by omega) (by omega) (NG_hg N1) hD
      have hb0 := hD.1
      have o2 := okC_v o1.1 (kpF_104 (by omega) k2).2 (kpF_104 (by omega) k2).1
      refine fi_step (pc' := 42) m_De_divisor rfl rfl ?_
      refine fi_step (pc' := 43) m_De_divisor rfl rfl ?_
      refine k_get (p := 46) m_De_divisor rfl rfl (by first | exact C_print hC | exact C_minors hC | exact C_stairs hC | exact (CW_cst hC).2.1 | exact C_mat hC (by omega) | assumption) rfl ?_
      refine g_2 (p := 49) m_De_divisor rfl inv_v (by decide) m_De_printWhole rfl rfl (by omega) (by omega) (Nat.le_of_ble_eq_true rfl) (Nat.le_of_ble_eq_true rfl) (C_rcvD hC _) (de_printWhole (q := 110) hC o2 i419 (MB_111 (by omega)) (by omega) (by omega) (by omega)) (fun v w hP => ?_)
      have hP := prtC_rf o1.2.2 hP
      obtain ⟨s3, v3, a1, a2, a3, a4, rfl⟩ := hP
      refine p_reti m_De_divisor rfl rfl ?_
      exact Or.inr ⟨by omega, _, by rw [hRt, hCt, Int.toNat_natCast]; exact hD, s3, v3, a1, a2, a3, a4, rfl⟩
    · have h2' : ¬ k ≤ (if s 2 m ≤ s 3 m then s 2 m else s 3 m) := by split <;> omega
      have h2u : (if s 2 m ≤ s 3 m then s 2 m else s 3 m) ≤ 6 := by split <;> omega
      have h2v : 1 ≤ (if s 2 m ≤ s 3 m then s 2 m else s 3 m) := by split <;> omega
      refine c_1 (p := 16) m_De_divisor rfl inv_v (by decide) m_Ma_lesserSide rfl rfl (by omega) (by omega) (Nat.le_of_ble_eq_true rfl) (Nat.le_of_ble_eq_true rfl) (C_rcvM hC (by omega) _) hls ?_
      refine s_ic_le (p := 19) m_De_divisor rfl rfl (by omega) (by omega) (by omega) (by omega) (fun hbr => False.elim (by omega)) (fun hbr => ?_)
      refine fi_step (pc' := 20) m_De_divisor rfl rfl ?_
      refine p_reti m_De_divisor rfl rfl ?_
      exact Or.inl ⟨by omega, sameC_rf hC hok ⟨rfl, rfl⟩ rfl⟩
  · refine c_2 (p := 5) m_De_divisor rfl inv_v (by decide) m_De_matrix rfl rfl (by omega) (by omega) (Nat.le_of_ble_eq_true rfl) (Nat.le_of_ble_eq_true rfl) (C_rcvD hC _) (de_matrix hC hm) ?_
    refine fi_step (pc' := 6) m_De_divisor rfl rfl ?_
    refine fi_step (pc' := 7) m_De_divisor rfl rfl ?_
    refine fi_step (pc' := 8) m_De_divisor rfl rfl ?_
    refine s_ic_lt (p := 11) m_De_divisor rfl rfl (by omega) (by omega) (by omega) (by omega) (fun hbr => ?_) (fun hbr => False.elim (by omega))
    refine fi_step (pc' := 20) m_De_divisor rfl rfl ?_
    refine p_reti m_De_divisor rfl rfl ?_
    exact Or.inl ⟨by omega, sameC_rf hC hok ⟨rfl, rfl⟩ rfl⟩
theorem de_factor {m : Nat} {k : Int} (hC : CW w0 w s v L Z) (hok : okC s v) (hm : m < 6) (k0 : -2147483648 ≤ k) (k1 : k < 2147483648) (hfr : 8 ≤ fr) (hlo : 400 ≤ lo) :
    fin xs fr lo 97 0 (ax_ent [.ref 0, .int (jI (m : Int)), .int (jI k)] 4) [] w (Ret fun u w' => (¬ (1 ≤ k ∧ k ≤ s 2 m ∧ k ≤ s 3 m) ∧ sameC w0 s v L Z (-1) u w') ∨ ((1 ≤ k ∧ k ≤ s 2 m ∧ k ≤ s 3 m) ∧ ∃ d, isD (gm (rf s) m) (s 2 m).toNat (s 3 m).toNat k.toNat d ∧ ((d = 0 ∧ sameC w0 s v L Z (-1) u w') ∨ (d ≠ 0 ∧ ∃ e, isD (gm (rf s) m) (s 2 m).toNat (s 3 m).toNat (k.toNat - 1) e ∧ prtC w0 s L Z (sayS (d / e)) u w')))) := by
  have dm := rf_dim hok.1 hm
  have hls := ma_lesserSide (xs := xs) (fr := fr - 1) (lo := lo - 20) (m := m) hC (by omega) dm (by omega) (by omega)
  obtain ⟨d1, d2, d3, d4⟩ := dm
  obtain ⟨R, hR⟩ : ∃ R : Nat, s 2 m = R := ⟨(s 2 m).toNat, by omega⟩
  obtain ⟨C, hCn⟩ : ∃ C : Nat, s 3 m = C := ⟨(s 3 m).toNat, by omega⟩
  have hRt : (s 2 m).toNat = R := by omega
  have hCt : (s 3 m).toNat = C := by omega
  have hMB := MB_13
  have hM0 : (0 : Int) ≤ MBND := by decide
  refine fi_step (pc' := 1) m_De_factor rfl rfl ?_
  refine fi_step (pc' := 2) m_De_factor rfl rfl ?_
  by_cases h1 : 1 ≤ k
  · refine c_2 (p := 5) m_De_factor rfl inv_v (by decide) m_De_matrix rfl rfl (by omega) (by omega) (Nat.le_of_ble_eq_true rfl) (Nat.le_of_ble_eq_true rfl) (C_rcvD hC _) (de_matrix hC hm) ?_
    refine fi_step (pc' := 6) m_De_factor rfl rfl ?_
    refine fi_step (pc' := 7) m_De_factor rfl rfl ?_
    refine fi_step (pc' := 8) m_De_factor rfl rfl ?_
    refine s_ic_lt (p := 11) m_De_factor rfl rfl (by omega) (by omega) (by omega) (by omega) (fun hbr => False.elim (by omega)) (fun hbr => ?_)
    refine fi_step (pc' := 12) m_De_factor rfl rfl ?_
    refine fi_step (pc' := 13) m_De_factor rfl rfl ?_
    by_cases h2 : k ≤ s 2 m ∧ k ≤ s 3 m
    · have h2' : k ≤ (if s 2 m ≤ s 3 m then s 2 m else s 3 m) := by split <;> omega
      have h2u : (if s 2 m ≤ s 3 m then s 2 m else s 3 m) ≤ 6 := by split <;> omega
      obtain ⟨k, rfl⟩ := Int.eq_ofNat_of_zero_le (show 0 ≤ k by omega)
      refine c_1 (p := 16) m_De_factor rfl inv_v (by decide) m_Ma_lesserSide rfl rfl (by omega) (by omega) (Nat.le_of_ble_eq_true rfl) (Nat.le_of_ble_eq_true rfl) (C_rcvM hC (by omega) _) hls ?_
      refine s_ic_le (p := 19) m_De_factor rfl rfl (by omega) (by omega) (by omega) (by omega) (fun hbr => ?_) (fun hbr => False.elim (by omega))
      refine fi_step (pc' := 22) m_De_factor rfl rfl ?_
      refine k_get (p := 25) m_De_factor rfl rfl (by first | exact C_print hC | exact C_minors hC | exact C_stairs hC | exact (CW_cst hC).2.1 | exact C_mat hC (by omega) | assumption) rfl ?_
      refine fi_step (pc' := 26) m_De_factor rfl rfl ?_
      refine g_2 (p := 29) m_De_factor rfl inv_v (by decide) m_Mi_read rfl rfl (by omega) (by omega) (Nat.le_of_ble_eq_true rfl) (Nat.le_of_ble_eq_true rfl) (C_rcvI hC _) (mi_read hC hok hm (by omega) (by omega)) (fun v w hP => ?_)
      obtain ⟨rfl, v1, hC, k1', N1⟩ := hP
      have o1 := okC_lk (R := s 2 m) (C := s 3 m) hok (k1' 27 (by omega)) (k1' 104 (by omega))
      have f1 : lkS s (s 2 m) (s 3 m) 0 1 = R := by rw [lkS_1, hR]
      have f2 : lkS s (s 2 m) (s 3 m) 0 2 = C := by rw [lkS_2, hCn]
      rw [hRt, hCt] at N1
      refine fi_step (pc' := 30) m_De_factor rfl rfl ?_
      refine k_get (p := 33) m_De_factor rfl rfl (by first | exact C_print hC | exact C_minors hC | exact C_stairs hC | exact (CW_cst hC).2.1 | exact C_mat hC (by omega) | assumption) rfl ?_
      refine fi_step (pc' := 34) m_De_factor rfl rfl ?_
      refine fi_step (pc' := 35) m_De_factor rfl rfl ?_
      refine k_get (p := 38) m_De_factor rfl rfl (by first | exact C_print hC | exact C_minors hC | exact C_stairs hC | exact (CW_cst hC).2.1 | exact C_mat hC (by omega) | assumption) rfl ?_
      refine g_3 (p := 41) m_De_factor rfl inv_v (by decide) m_Mi_commonDivisor rfl rfl (by omega) (by omega) (Nat.le_of_ble_eq_true rfl) (Nat.le_of_ble_eq_true rfl) (C_rcvI hC _) (mi_commonDivisor (R := R) (C := C) (k := k) hC (by omega) (by omega) f1 f2 (by omega) (by omega) i421 (by omega) cap421 (by omega) N1 o1.1.2.2.1 o1.1.2.1) (fun v w hP => ?_)
      obtain ⟨rfl, v2, hC, hD, k2⟩ := hP
      have hb := isD_bound (R := R) (C := C) (by omega) (by omega) (NG_hg N1) hD
      have hb0 := hD.1
      have o2 := okC_v o1.1 (kpF_104 (by omega) k2).2 (kpF_104 (by omega) k2).1
      refine fi_step (pc' := 42) m_De_factor rfl rfl ?_
      refine k_get (p := 45) m_De_factor rfl rfl (by first | exact C_print hC | exact C_minors hC | exact C_stairs hC | exact (CW_cst hC).2.1 | exact C_mat hC (by omega) | assumption) rfl ?_
      by_cases hz : v2 421 = 0
      · have hh := cn_isZero (xs := xs) (fr := fr - 1) (lo := lo - 20) hC i421
        rw [if_pos hz] at hh
        refine c_1 (p := 48) m_De_factor rfl inv_v (by decide) m_Wh_isZero rfl rfl (by omega) (by omega) (Nat.le_of_ble_eq_true rfl) (Nat.le_of_ble_eq_true rfl) (C_rcvW hC (by first | assumption | exact rfl) _) hh ?_
        refine s_if_eq (p := 51) m_De_factor rfl rfl (by omega) (by omega) (fun hbr => False.elim (by omega)) (fun hbr => ?_)
        refine fi_step (pc' := 52) m_De_factor rfl rfl ?_
        refine p_reti m_De_factor rfl rfl ?_
        exact Or.inr ⟨by omega, v2 421, by rw [hRt, hCt, Int.toNat_natCast]; exact hD, Or.inl ⟨hz, sameC_rf hC o2 o1.2.1 o1.2.2⟩⟩
      · have hh := cn_isZero (xs := xs) (fr := fr - 1) (lo := lo - 20) hC i421
        rw [if_neg hz] at hh
        refine c_1 (p := 48) m_De_factor rfl inv_v (by decide) m_Wh_isZero rfl rfl (by omega) (by omega) (Nat.le_of_ble_eq_true rfl) (Nat.le_of_ble_eq_true rfl) (C_rcvW hC (by first | assumption | exact rfl) _) hh ?_
        refine s_if_eq (p := 51) m_De_factor rfl rfl (by omega) (by omega) (fun hbr => ?_) (fun hbr => False.elim (by omega))
        refine fi_step (pc' := 54) m_De_factor rfl rfl ?_
        refine k_get (p := 57) m_De_factor rfl rfl (by first | exact C_print hC | exact C_minors hC | exact C_stairs hC | exact (CW_cst hC).2.1 | exact C_mat hC (by omega) | assumption) rfl ?_
        refine fi_step (pc' := 58) m_De_factor rfl rfl ?_
        refine fi_step (pc' := 59) m_De_factor rfl rfl ?_
        refine s_isub (p := 60) m_De_factor rfl rfl ?_
        refine fi_step (pc' := 61) m_De_factor rfl rfl ?_
        refine k_get (p := 64) m_De_factor rfl rfl (by first | exact C_print hC | exact C_minors hC | exact C_stairs hC | exact (CW_cst hC).2.1 | exact C_mat hC (by omega) | assumption) rfl ?_
        rw [show ((k : Int) - 1) = ((k - 1 : Nat) : Int) by omega]
        have N2 := kpF_NG (by omega) k2 N1 (by omega) (by omega)
        refine g_3 (p := 67) m_De_factor rfl inv_v (by decide) m_Mi_commonDivisor rfl rfl (by omega) (by omega) (Nat.le_of_ble_eq_true rfl) (Nat.le_of_ble_eq_true rfl) (C_rcvI hC _) (mi_commonDivisor (R := R) (C := C) (k := k - 1) hC (by omega) (by omega) f1 f2 (by omega) (by omega) i423 (by omega) cap423 (by omega) N2 o2.2.2.1 o2.2.1) (fun v w hP => ?_)
        obtain ⟨rfl, v3, hC, hE, k3⟩ := hP
        have o3 := okC_v o2 (kpF_104 (by omega) k3).2 (kpF_104 (by omega) k3).1
        have e421 : v3 421 = v2 421 := k3 421 (by omega) (by omega) (by omega) (fun y _ _ => by omega)
        have hb3 := isD_bound (R := R) (C := C) (by omega) (by omega) (NG_hg N1) hE
        have hnz : v3 423 ≠ 0 := by
          intro h0
          have h3 := mm_none (k := k - 1) (show R ≤ 6 by omega) (show C ≤ 6 by omega) ((isD_zero hE).mp h0)
          rw [show k - 1 + 1 = k by omega] at h3
          exact hz ((isD_zero hD).mpr h3)
        have hpos := hE.1
        refine fi_step (pc' := 68) m_De_factor rfl rfl ?_
        refine k_get (p := 71) m_De_factor rfl rfl (by first | exact C_print hC | exact C_minors hC | exact C_stairs hC | exact (CW_cst hC).2.1 | exact C_mat hC (by omega) | assumption) rfl ?_
        refine fi_step (pc' := 72) m_De_factor rfl rfl ?_
        refine k_get (p := 75) m_De_factor rfl rfl (by first | exact C_print hC | exact C_minors hC | exact C_stairs hC | exact (CW_cst hC).2.1 | exact C_mat hC (by omega) | assumption) rfl ?_
        refine fi_step (pc' := 76) m_De_factor rfl rfl ?_
        refine k_get (p := 79) m_De_factor rfl rfl (by first | exact C_print hC | exact C_minors hC | exact C_stairs hC | exact (CW_cst hC).2.1 | exact C_mat hC (by omega) | assumption) rfl ?_
        refine fi_step (pc' := 80) m_De_factor rfl rfl ?_
        refine k_get (p := 83) m_De_factor rfl rfl (by first | exact C_print hC | exact C_minors hC | exact C_stairs hC | exact (CW_cst hC).2.1 | exact C_mat hC (by omega) | assumption) rfl ?_
        refine g_4 (p := 86) m_De_factor rfl inv_v (by decide) m_Di_divide rfl rfl (by omega) (by omega) (Nat.le_of_ble_eq_true rfl) (Nat.le_of_ble_eq_true rfl) (C_rcvV hC _) (cn_divide (kb := 13) hC i421 i423 i419 (by omega) (by omega) (by omega) (by omega) (by omega) (by omega) (by omega) (by omega) o3.2.1 (by omega) (by rw [e421]; omega) (by omega) (by rw [cap421]; omega) (by rw [cap419]; omega) (by omega) (by omega) (by omega)) (fun v w hP => ?_)
        obtain ⟨rfl, x, hC⟩ := hP
        rw [e421] at hC
        have o4 := okC_v (v' := upv (upv (upv v3 19 x) 421 (v2 421 % v3 423)) 419 (v2 421 / v3 423)) o3 (by rw [upv_ne _ (by decide), upv_ne _ (by decide), upv_ne _ (by decide)]) (by rw [upv_ne _ (by decide), upv_ne _ (by decide), upv_ne _ (by decide)])
        have hq : ((v2 421 / v3 423).natAbs : Int) ≤ MBND := by
          have q1 : 0 ≤ v2 421 / v3 423 := Int.ediv_nonneg hb0 hpos
          have q2 : v2 421 / v3 423 ≤ v2 421 := Int.ediv_le_self _ hb0
          omega
        refine fi_step (pc' := 87) m_De_factor rfl rfl ?_
        refine fi_step (pc' := 88) m_De_factor rfl rfl ?_
        refine k_get (p := 91) m_De_factor rfl rfl (by first | exact C_print hC | exact C_minors hC | exact C_stairs hC | exact (CW_cst hC).2.1 | exact C_mat hC (by omega) | assumption) rfl ?_
        refine g_2 (p := 94) m_De_factor rfl inv_v (by decide) m_De_printWhole rfl rfl (by omega) (by omega) (Nat.le_of_ble_eq_true rfl) (Nat.le_of_ble_eq_true rfl) (C_rcvD hC _) (de_printWhole (q := 110) hC o4 i419 (by rw [upv_same]; exact MB_111 hq) (by omega) (by omega) (by omega)) (fun v w hP => ?_)
        rw [upv_same] at hP
        have hP := prtC_rf o1.2.2 hP
        obtain ⟨s3, v3', a1, a2, a3, a4, rfl⟩ := hP
        refine p_reti m_De_factor rfl rfl ?_
        exact Or.inr ⟨by omega, v2 421, by rw [hRt, hCt, Int.toNat_natCast]; exact hD, Or.inr ⟨hz, v3 423, by rw [hRt, hCt, Int.toNat_natCast]; exact hE, s3, v3', a1, a2, a3, a4, rfl⟩⟩
    · have h2' : ¬ k ≤ (if s 2 m ≤ s 3 m then s 2 m else s 3 m) := by split <;> omega
      have h2u : (if s 2 m ≤ s 3 m then s 2 m else s 3 m) ≤ 6 := by split <;> omega
      have h2v : 1 ≤ (if s 2 m ≤ s 3 m then s 2 m else s 3 m) := by split <;> omega
      refine c_1 (p := 16) m_De_factor rfl inv_v (by decide) m_Ma_lesserSide rfl rfl (by omega) (by omega) (Nat.le_of_ble_eq_true rfl) (Nat.le_of_ble_eq_true rfl) (C_rcvM hC (by omega) _) hls ?_
      refine s_ic_le (p := 19) m_De_factor rfl rfl (by omega) (by omega) (by omega) (by omega) (fun hbr => False.elim (by omega)) (fun hbr => ?_)
      refine fi_step (pc' := 20) m_De_factor rfl rfl ?_
      refine p_reti m_De_factor rfl rfl ?_
      exact Or.inl ⟨by omega, sameC_rf hC hok ⟨rfl, rfl⟩ rfl⟩
  · refine c_2 (p := 5) m_De_factor rfl inv_v (by decide) m_De_matrix rfl rfl (by omega) (by omega) (Nat.le_of_ble_eq_true rfl) (Nat.le_of_ble_eq_true rfl) (C_rcvD hC _) (de_matrix hC hm) ?_
    refine fi_step (pc' := 6) m_De_factor rfl rfl ?_
    refine fi_step (pc' := 7) m_De_factor rfl rfl ?_
    refine fi_step (pc' := 8) m_De_factor rfl rfl ?_
    refine s_ic_lt (p := 11) m_De_factor rfl rfl (by omega) (by omega) (by omega) (by omega) (fun hbr => ?_) (fun hbr => False.elim (by omega))
    refine fi_step (pc' := 20) m_De_factor rfl rfl ?_
    refine p_reti m_De_factor rfl rfl ?_
    exact Or.inl ⟨by omega, sameC_rf hC hok ⟨rfl, rfl⟩ rfl⟩
theorem de_characteristic {m : Nat} {k : Int} (hC : CW w0 w s v L Z) (hok : okC s v) (hm : m < 6) (k0 : -2147483648 ≤ k) (k1 : k < 2147483648) (hfr : 9 ≤ fr) (hlo : 400 ≤ lo) :
    fin xs fr lo 105 0 (ax_ent [.ref 0, .int (jI (m : Int)), .int (jI k)] 5) [] w (Ret fun u w' => (s 2 m ≠ s 3 m ∧ sameC w0 s v L Z (-2) u w') ∨ (s 2 m = s 3 m ∧ ¬ (0 ≤ k ∧ k ≤ s 2 m) ∧ sameC w0 s v L Z (-1) u w') ∨ (s 2 m = s 3 m ∧ (0 ≤ k ∧ k ≤ s 2 m) ∧ ∃ d, d = (if (s 2 m - k) % 2 = 1 then - csum (gm (rf s) m) (s 2 m - k).toNat (2 ^ (s 2 m).toNat) else csum (gm (rf s) m) (s 2 m - k).toNat (2 ^ (s 2 m).toNat)) ∧ prtC w0 s L Z (sayS d) u w')) := by
  have dm := rf_dim hok.1 hm
  obtain ⟨d1, d2, d3, d4⟩ := dm
  obtain ⟨R, hR⟩ : ∃ R : Nat, s 2 m = R := ⟨(s 2 m).toNat, by omega⟩
  have hRt : (s 2 m).toNat = R := by omega
  have hpw := S_pow (show R ≤ 6 by omega)
  have hM0 : (0 : Int) ≤ MBND := by decide
  refine fi_step (pc' := 1) m_De_characteristic rfl rfl ?_
  refine fi_step (pc' := 2) m_De_characteristic rfl rfl ?_
  by_cases hs : s 2 m = s 3 m
  · have hCt : (s 3 m).toNat = R := by omega
    by_cases h1 : 0 ≤ k
    · by_cases h2 : k ≤ s 2 m
      · obtain ⟨t, ht⟩ : ∃ t : Nat, s 2 m - k = t := ⟨(s 2 m - k).toNat, by omega⟩
        have htt : (s 2 m - k).toNat = t := by omega
        refine c_2 (p := 5) m_De_characteristic rfl inv_v (by decide) m_De_matrix rfl rfl (by omega) (by omega) (Nat.le_of_ble_eq_true rfl) (Nat.le_of_ble_eq_true rfl) (C_rcvD hC _) (de_matrix hC hm) ?_
        refine fi_step (pc' := 6) m_De_characteristic rfl rfl ?_
        refine fi_step (pc' := 7) m_De_characteristic rfl rfl ?_
        refine k_get (p := 10) m_De_characteristic rfl rfl (by first | exact C_print hC | exact C_minors hC | exact C_stairs hC | exact (CW_cst hC).2.1 | exact C_mat hC (by omega) | assumption) rfl ?_
        refine fi_step (pc' := 11) m_De_characteristic rfl rfl ?_
        refine k_get (p := 14) m_De_characteristic rfl rfl (by first | exact C_print hC | exact C_minors hC | exact C_stairs hC | exact (CW_cst hC).2.1 | exact C_mat hC (by omega) | assumption) rfl ?_
        refine s_ic_eq (p := 17) m_De_characteristic rfl rfl (by omega) (by omega) (by omega) (by omega) (fun hbr => ?_) (fun hbr => False.elim (by omega))
        refine fi_step (pc' := 21) m_De_characteristic rfl rfl ?_
        refine s_if_lt (p := 24) m_De_characteristic rfl rfl (by omega) (by omega) (fun hbr => False.elim (by omega)) (fun hbr => ?_)
        refine fi_step (pc' := 25) m_De_characteristic rfl rfl ?_
        refine fi_step (pc' := 26) m_De_characteristic rfl rfl ?_
        refine k_get (p := 29) m_De_characteristic rfl rfl (by first | exact C_print hC | exact C_minors hC | exact C_stairs hC | exact (CW_cst hC).2.1 | exact C_mat hC (by omega) | assumption) rfl ?_
        refine s_ic_le (p := 32) m_De_characteristic rfl rfl (by omega) (by omega) (by omega) (by omega) (fun hbr => ?_) (fun hbr => False.elim (by omega))
        refine fi_step (pc' := 35) m_De_characteristic rfl rfl ?_
        refine k_get (p := 38) m_De_characteristic rfl rfl (by first | exact C_print hC | exact C_minors hC | exact C_stairs hC | exact (CW_cst hC).2.1 | exact C_mat hC (by omega) | assumption) rfl ?_
        refine fi_step (pc' := 39) m_De_characteristic rfl rfl ?_
        refine g_2 (p := 42) m_De_characteristic rfl inv_v (by decide) m_Mi_read rfl rfl (by omega) (by omega) (Nat.le_of_ble_eq_true rfl) (Nat.le_of_ble_eq_true rfl) (C_rcvI hC _) (mi_read hC hok hm (by omega) (by omega)) (fun v w hP => ?_)
        obtain ⟨rfl, v1, hC, k1', N1⟩ := hP
        have e2 : lkS s (s 2 m) (s 3 m) 2 m = R := by rw [lkS_o _ _ _ (by decide), hR]
        have o1 := okC_lk (R := s 2 m) (C := s 3 m) hok (k1' 27 (by omega)) (k1' 104 (by omega))
        have f1 : lkS s (s 2 m) (s 3 m) 0 1 = R := by rw [lkS_1, hR]
        have f2 : lkS s (s 2 m) (s 3 m) 0 2 = R := by rw [lkS_2, ← hs, hR]
        rw [hRt, hCt] at N1
        refine fi_step (pc' := 43) m_De_characteristic rfl rfl ?_
        refine k_get (p := 46) m_De_characteristic rfl rfl (by first | exact C_print hC | exact C_minors hC | exact C_stairs hC | exact (CW_cst hC).2.1 | exact C_mat hC (by omega) | assumption) rfl ?_
        refine fi_step (pc' := 47) m_De_characteristic rfl rfl ?_
        refine s_isub (p := 48) m_De_characteristic rfl rfl ?_
        rw [e2, show ((R : Int) - k) = (t : Int) by omega]
        refine fi_step (pc' := 50) m_De_characteristic rfl rfl ?_
        refine fi_step (pc' := 51) m_De_characteristic rfl rfl ?_
        refine k_get (p := 54) m_De_characteristic rfl rfl (by first | exact C_print hC | exact C_minors hC | exact C_stairs hC | exact (CW_cst hC).2.1 | exact C_mat hC (by omega) | assumption) rfl ?_
        refine fi_step (pc' := 56) m_De_characteristic rfl rfl ?_
        refine fi_step (pc' := 57) m_De_characteristic rfl rfl ?_
        refine k_get (p := 60) m_De_characteristic rfl rfl (by first | exact C_print hC | exact C_minors hC | exact C_stairs hC | exact (CW_cst hC).2.1 | exact C_mat hC (by omega) | assumption) rfl ?_
        refine g_3 (p := 63) m_De_characteristic rfl inv_v (by decide) m_Mi_principalSum rfl rfl (by omega) (by omega) (Nat.le_of_ble_eq_true rfl) (Nat.le_of_ble_eq_true rfl) (C_rcvI hC _) (mi_principalSum (R := R) (k := t) hC (by omega) (by omega) f1 f2 (by omega) i419 (by omega) cap419 (by omega) N1 o1.1.2.2.1) (fun v w hP => ?_)
        obtain ⟨rfl, v2, hC, hval, k2⟩ := hP
        have o2 := okC_v o1.1 (kpF_104 (by omega) k2).2 (kpF_104 (by omega) k2).1
        have hb : ((csum (gm (rf s) m) t (2 ^ R)).natAbs : Int) ≤ 64 * MBND := by
          have h3 : ((2 ^ R : Nat) : Int) = 2 ^ R := by simp
          have := csum_bound (g := gm (rf s) m) (k := t) (b := MBND) hM0 (n := 2 ^ R) (fun x hx => mm_bound (R := R) (C := R) (by omega) (by omega) (NG_hg N1) (by omega) (by omega) (by omega) (by omega) rfl)
          have h4 : ((2 ^ R : Nat) : Int) * MBND ≤ 64 * MBND := Int.mul_le_mul_of_nonneg_right (by omega) hM0
          omega
        by_cases hpar : (s 2 m - k) % 2 = 1
        · refine fi_step (pc' := 65) m_De_characteristic rfl rfl ?_
          refine fi_step (pc' := 66) m_De_characteristic rfl rfl ?_
          refine s_irem (p := 67) m_De_characteristic rfl rfl (by omega) (by omega) (by omega) (by omega) ?_
          refine fi_step (pc' := 68) m_De_characteristic rfl rfl ?_
          refine s_ic_ne (p := 71) m_De_characteristic rfl rfl (by omega) (by omega) (by omega) (by omega) (fun hbr => False.elim (by omega)) (fun hbr => ?_)
          refine fi_step (pc' := 72) m_De_characteristic rfl rfl ?_
          refine k_get (p := 75) m_De_characteristic rfl rfl (by first | exact C_print hC | exact C_minors hC | exact C_stairs hC | exact (CW_cst hC).2.1 | exact C_mat hC (by omega) | assumption) rfl ?_
          refine g_1 (p := 78) m_De_characteristic rfl inv_v (by decide) m_Wh_negate rfl rfl (by omega) (by omega) (Nat.le_of_ble_eq_true rfl) (Nat.le_of_ble_eq_true rfl) (C_rcvW hC (by first | assumption | exact rfl) _) (cn_negate hC i419) (fun v w hP => ?_)
          obtain ⟨rfl, hC⟩ := hP
          rw [hval] at hC
          have o3 := okC_v (v' := upv v2 419 (-csum (gm (rf s) m) t (2 ^ R))) o2 (by rw [upv_ne _ (by decide)]) (by rw [upv_ne _ (by decide)])
          refine fi_step (pc' := 79) m_De_characteristic rfl rfl ?_
          refine fi_step (pc' := 80) m_De_characteristic rfl rfl ?_
          refine k_get (p := 83) m_De_characteristic rfl rfl (by first | exact C_print hC | exact C_minors hC | exact C_stairs hC | exact (CW_cst hC).2.1 | exact C_mat hC (by omega) | assumption) rfl ?_
          refine g_2 (p := 86) m_De_characteristic rfl inv_v (by decide) m_De_printWhole rfl rfl (by omega) (by omega) (Nat.le_of_ble_eq_true rfl) (Nat.le_of_ble_eq_true rfl) (C_rcvD hC _) (de_printWhole (q := 113) hC o3 i419 (by rw [upv_same]; exact MB_115 (by omega)) (by omega) (by omega) (by omega)) (fun v w hP => ?_)
          rw [upv_same] at hP
          have hP := prtC_rf o1.2.2 hP
          obtain ⟨s3, v3, a1, a2, a3, a4, rfl⟩ := hP
          refine p_reti m_De_characteristic rfl rfl ?_
          exact Or.inr (Or.inr ⟨hs, ⟨h1, h2⟩, _, by rw [if_pos hpar, htt, hRt], s3, v3, a1, a2, a3, a4, rfl⟩)
        · refine fi_step (pc' := 65) m_De_characteristic rfl rfl ?_
          refine fi_step (pc' := 66) m_De_characteristic rfl rfl ?_
          refine s_irem (p := 67) m_De_characteristic rfl rfl (by omega) (by omega) (by omega) (by omega) ?_
          refine fi_step (pc' := 68) m_De_characteristic rfl rfl ?_
          refine s_ic_ne (p := 71) m_De_characteristic rfl rfl (by omega) (by omega) (by omega) (by omega) (fun hbr => ?_) (fun hbr => False.elim (by omega))
          refine fi_step (pc' := 79) m_De_characteristic rfl rfl ?_
          refine fi_step (pc' := 80) m_De_characteristic rfl rfl ?_
          refine k_get (p := 83) m_De_characteristic rfl rfl (by first | exact C_print hC | exact C_minors hC | exact C_stairs hC | exact (CW_cst hC).2.1 | exact C_mat hC (by omega) | assumption) rfl ?_
          refine g_2 (p := 86) m_De_characteristic rfl inv_v (by decide) m_De_printWhole rfl rfl (by omega) (by omega) (Nat.le_of_ble_eq_true rfl) (Nat.le_of_ble_eq_true rfl) (C_rcvD hC _) (de_printWhole (q := 113) hC o2 i419 (by rw [hval]; exact MB_115 (by omega)) (by omega) (by omega) (by omega)) (fun v w hP => ?_)
          rw [hval] at hP
          have hP := prtC_rf o1.2.2 hP
          obtain ⟨s3, v3, a1, a2, a3, a4, rfl⟩ := hP
          refine p_reti m_De_characteristic rfl rfl ?_
          exact Or.inr (Or.inr ⟨hs, ⟨h1, h2⟩, _, by rw [if_neg hpar, htt, hRt], s3, v3, a1, a2, a3, a4, rfl⟩)
      · refine c_2 (p := 5) m_De_characteristic rfl inv_v (by decide) m_De_matrix rfl rfl (by omega) (by omega) (Nat.le_of_ble_eq_true rfl) (Nat.le_of_ble_eq_true rfl) (C_rcvD hC _) (de_matrix hC hm) ?_
        refine fi_step (pc' := 6) m_De_characteristic rfl rfl ?_
        refine fi_step (pc' := 7) m_De_characteristic rfl rfl ?_
        refine k_get (p := 10) m_De_characteristic rfl rfl (by first | exact C_print hC | exact C_minors hC | exact C_stairs hC | exact (CW_cst hC).2.1 | exact C_mat hC (by omega) | assumption) rfl ?_
        refine fi_step (pc' := 11) m_De_characteristic rfl rfl ?_
        refine k_get (p := 14) m_De_characteristic rfl rfl (by first | exact C_print hC | exact C_minors hC | exact C_stairs hC | exact (CW_cst hC).2.1 | exact C_mat hC (by omega) | assumption) rfl ?_
        refine s_ic_eq (p := 17) m_De_characteristic rfl rfl (by omega) (by omega) (by omega) (by omega) (fun hbr => ?_) (fun hbr => False.elim (by omega))
        refine fi_step (pc' := 21) m_De_characteristic rfl rfl ?_
        refine s_if_lt (p := 24) m_De_characteristic rfl rfl (by omega) (by omega) (fun hbr => False.elim (by omega)) (fun hbr => ?_)
        refine fi_step (pc' := 25) m_De_characteristic rfl rfl ?_
        refine fi_step (pc' := 26) m_De_characteristic rfl rfl ?_
        refine k_get (p := 29) m_De_characteristic rfl rfl (by first | exact C_print hC | exact C_minors hC | exact C_stairs hC | exact (CW_cst hC).2.1 | exact C_mat hC (by omega) | assumption) rfl ?_
        refine s_ic_le (p := 32) m_De_characteristic rfl rfl (by omega) (by omega) (by omega) (by omega) (fun hbr => False.elim (by omega)) (fun hbr => ?_)
        refine fi_step (pc' := 33) m_De_characteristic rfl rfl ?_
        refine p_reti m_De_characteristic rfl rfl ?_
        exact Or.inr (Or.inl ⟨hs, by omega, sameC_rf hC hok ⟨rfl, rfl⟩ rfl⟩)
    · refine c_2 (p := 5) m_De_characteristic rfl inv_v (by decide) m_De_matrix rfl rfl (by omega) (by omega) (Nat.le_of_ble_eq_true rfl) (Nat.le_of_ble_eq_true rfl) (C_rcvD hC _) (de_matrix hC hm) ?_
      refine fi_step (pc' := 6) m_De_characteristic rfl rfl ?_
      refine fi_step (pc' := 7) m_De_characteristic rfl rfl ?_
      refine k_get (p := 10) m_De_characteristic rfl rfl (by first | exact C_print hC | exact C_minors hC | exact C_stairs hC | exact (CW_cst hC).2.1 | exact C_mat hC (by omega) | assumption) rfl ?_
      refine fi_step (pc' := 11) m_De_characteristic rfl rfl ?_
      refine k_get (p := 14) m_De_characteristic rfl rfl (by first | exact C_print hC | exact C_minors hC | exact C_stairs hC | exact (CW_cst hC).2.1 | exact C_mat hC (by omega) | assumption) rfl ?_
      refine s_ic_eq (p := 17) m_De_characteristic rfl rfl (by omega) (by omega) (by omega) (by omega) (fun hbr => ?_) (fun hbr => False.elim (by omega))
      refine fi_step (pc' := 21) m_De_characteristic rfl rfl ?_
      refine s_if_lt (p := 24) m_De_characteristic rfl rfl (by omega) (by omega) (fun hbr => ?_) (fun hbr => False.elim (by omega))
      refine fi_step (pc' := 33) m_De_characteristic rfl rfl ?_
      refine p_reti m_De_characteristic rfl rfl ?_
      exact Or.inr (Or.inl ⟨hs, by omega, sameC_rf hC hok ⟨rfl, rfl⟩ rfl⟩)
  · refine c_2 (p := 5) m_De_characteristic rfl inv_v (by decide) m_De_matrix rfl rfl (by omega) (by omega) (Nat.le_of_ble_eq_true rfl) (Nat.le_of_ble_eq_true rfl) (C_rcvD hC _) (de_matrix hC hm) ?_
    refine fi_step (pc' := 6) m_De_characteristic rfl rfl ?_
    refine fi_step (pc' := 7) m_De_characteristic rfl rfl ?_
    refine k_get (p := 10) m_De_characteristic rfl rfl (by first | exact C_print hC | exact C_minors hC | exact C_stairs hC | exact (CW_cst hC).2.1 | exact C_mat hC (by omega) | assumption) rfl ?_
    refine fi_step (pc' := 11) m_De_characteristic rfl rfl ?_
    refine k_get (p := 14) m_De_characteristic rfl rfl (by first | exact C_print hC | exact C_minors hC | exact C_stairs hC | exact (CW_cst hC).2.1 | exact C_mat hC (by omega) | assumption) rfl ?_
    refine s_ic_eq (p := 17) m_De_characteristic rfl rfl (by omega) (by omega) (by omega) (by omega) (fun hbr => False.elim (by omega)) (fun hbr => ?_)
    refine s_bipush (p := 19) m_De_characteristic rfl rfl rfl ?_
    refine p_reti m_De_characteristic rfl rfl ?_
    exact Or.inl ⟨hs, sameC_rf hC hok ⟨rfl, rfl⟩ rfl⟩
/-- a call of one matrix that isn't there -/
theorem de_determinantT {m : Int} (hC : CW w0 w s v L Z) (m0 : -2147483648 ≤ m) (m1 : m < 2147483648) (hm : ¬ (0 ≤ m ∧ m < 6)) (hfr : 8 ≤ fr) (hlo : 230 ≤ lo) : fin xs fr lo 84 0 (ax_ent [.ref 0, .int (jI m)] 3) [] w (Thr 9 w) := by
  refine fi_step (pc' := 1) m_De_determinant rfl rfl ?_
  refine fi_step (pc' := 2) m_De_determinant rfl rfl ?_
  exact t_2 m_De_determinant rfl inv_v (by decide) m_De_matrix rfl (by omega) (by omega) (Nat.le_of_ble_eq_true rfl) (Nat.le_of_ble_eq_true rfl) (C_rcvD hC _) (de_matrixT m0 m1 hm (by omega) (by omega)) rfl
theorem de_divisorT {m k : Int} (hC : CW w0 w s v L Z) (m0 : -2147483648 ≤ m) (m1 : m < 2147483648) (hm : ¬ (0 ≤ m ∧ m < 6)) (hfr : 8 ≤ fr) (hlo : 230 ≤ lo) : fin xs fr lo 92 0 (ax_ent [.ref 0, .int (jI m), .int (jI k)] 4) [] w (Thr 9 w) := by
  refine fi_step (pc' := 1) m_De_divisor rfl rfl ?_
  refine fi_step (pc' := 2) m_De_divisor rfl rfl ?_
  exact t_2 m_De_divisor rfl inv_v (by decide) m_De_matrix rfl (by omega) (by omega) (Nat.le_of_ble_eq_true rfl) (Nat.le_of_ble_eq_true rfl) (C_rcvD hC _) (de_matrixT m0 m1 hm (by omega) (by omega)) rfl
theorem de_factorT {m k : Int} (hC : CW w0 w s v L Z) (m0 : -2147483648 ≤ m) (m1 : m < 2147483648) (hm : ¬ (0 ≤ m ∧ m < 6)) (hfr : 8 ≤ fr) (hlo : 230 ≤ lo) : fin xs fr lo 97 0 (ax_ent [.ref 0, .int (jI m), .int (jI k)] 4) [] w (Thr 9 w) := by
  refine fi_step (pc' := 1) m_De_factor rfl rfl ?_
  refine fi_step (pc' := 2) m_De_factor rfl rfl ?_
  exact t_2 m_De_factor rfl inv_v (by decide) m_De_matrix rfl (by omega) (by omega) (Nat.le_of_ble_eq_true rfl) (Nat.le_of_ble_eq_true rfl) (C_rcvD hC _) (de_matrixT m0 m1 hm (by omega) (by omega)) rfl
theorem de_characteristicT {m k : Int} (hC : CW w0 w s v L Z) (m0 : -2147483648 ≤ m) (m1 : m < 2147483648) (hm : ¬ (0 ≤ m ∧ m < 6)) (hfr : 8 ≤ fr) (hlo : 230 ≤ lo) : fin xs fr lo 105 0 (ax_ent [.ref 0, .int (jI m), .int (jI k)] 5) [] w (Thr 9 w) := by
  refine fi_step (pc' := 1) m_De_characteristic rfl rfl ?_
  refine fi_step (pc' := 2) m_De_characteristic rfl rfl ?_
  exact t_2 m_De_characteristic rfl inv_v (by decide) m_De_matrix rfl (by omega) (by omega) (Nat.le_of_ble_eq_true rfl) (Nat.le_of_ble_eq_true rfl) (C_rcvD hC _) (de_matrixT m0 m1 hm (by omega) (by omega)) rfl
end DM
