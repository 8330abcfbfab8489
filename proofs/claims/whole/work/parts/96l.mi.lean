/-! THE CLASS: minors, their sums and common divisors -/
theorem mm_dY {g : Int → Int} {y x : Int} (hl : (els 6 y).length = (els 6 x).length) : mm g y x = dY g (els 6 y) x := by
  unfold mm dY; exact detC_eq _ _ _ (by rw [List.length_map]) hl.symm
theorem NG_hg {v : Nat → Int} {g : Int → Int} {R C : Nat} {E : Int} {e : Nat} (h : NG v g R C E e) : ∀ i j : Int, 0 ≤ i → i < R → 0 ≤ j → j < C → ((g (12 * i + j)).natAbs : Int) ≤ E := by
  intro i j i0 i1 j0 j1
  obtain ⟨i, rfl⟩ := Int.eq_ofNat_of_zero_le i0
  obtain ⟨j, rfl⟩ := Int.eq_ofNat_of_zero_le j0
  exact (h.1 i j (by omega) (by omega)).2
theorem MB_13 : 64 * MBND < 1000000000 ^ 13 := by unfold MBND; decide
theorem csum_one (g : Int → Int) (k : Nat) : csum g k 1 = if k = 0 then 1 else 0 := by
  unfold csum
  by_cases h : k = 0
  · subst h; rfl
  · rw [if_neg h, if_neg (by intro e; exact h e.symm)]; rfl
section MI4
variable {xs : List Int32} {fr lo : Nat} {w0 w : ax_W} {s : mo_S} {v : Nat → Int} {L Z : Nat}
theorem cn_commonDivisor {c1 c2 kb : Nat} (hC : CW w0 w s v L Z) (h1 : isWh c1) (h2 : isWh c2) (h12 : c1 ≠ c2) (x1 : 19 ≠ c1 ∧ 21 ≠ c1 ∧ 27 ≠ c1) (x2 : 19 ≠ c2 ∧ 21 ≠ c2 ∧ 27 ≠ c2) (v27 : v 27 = 1) (b1 : ((v c1).natAbs : Int) < 1000000000 ^ kb) (b2 : ((v c2).natAbs : Int) < 1000000000 ^ kb) (K1 : kb + 35 ≤ capB c1) (K2 : kb + 35 ≤ capB c2) (K3 : kb + 35 ≤ 700) (hfr : 5 ≤ fr) (hlo : 270 ≤ lo) :
    fin xs fr lo 95 0 (ax_ent [.ref 18, .ref c1, .ref c2] 7) [] w (Ret fun u w' => u = none ∧ ∃ y, CW w0 w' s y L Z ∧ y c1 = (Int.gcd (v c1) (v c2) : Int) ∧ ∀ j, j ≠ c1 → j ≠ c2 → j ≠ 19 → j ≠ 21 → y j = v j) := by
  obtain ⟨w1, hS, h18, bk⟩ := CW_SN hC
  exact fi_mono (n_commonDivisor h18 hS h1 h2 h12 x1 x2 v27 b1 b2 K1 K2 (by rw [show capB 19 = 700 from by decide]; exact K3) (by rw [show capB 21 = 700 from by decide]; exact K3) hfr hlo) (fun o w' ⟨u, e, hu, y, h, hh⟩ => ⟨u, e, hu, y, bk _ _ h, hh⟩)
theorem cn_lowerTerms {c1 c2 kb : Nat} (hC : CW w0 w s v L Z) (h1 : isWh c1) (h2 : isWh c2) (h12 : c1 ≠ c2) (x1 : 19 ≠ c1 ∧ 21 ≠ c1 ∧ 23 ≠ c1 ∧ 25 ≠ c1 ∧ 27 ≠ c1) (x2 : 19 ≠ c2 ∧ 21 ≠ c2 ∧ 23 ≠ c2 ∧ 25 ≠ c2 ∧ 27 ≠ c2) (v27 : v 27 = 1) (nz : v c2 ≠ 0) (b1 : ((v c1).natAbs : Int) < 1000000000 ^ kb) (b2 : ((v c2).natAbs : Int) < 1000000000 ^ kb) (kb0 : kb + 35 ≤ 700) (K1 : kb + 35 ≤ capB c1) (K2 : kb + 35 ≤ capB c2) (hfr : 6 ≤ fr) (hlo : 300 ≤ lo) :
    fin xs fr lo 101 0 (ax_ent [.ref 18, .ref c1, .ref c2] 3) [] w (Ret fun u w' => u = none ∧ ∃ y, CW w0 w' s y L Z ∧ y c1 = ((v c1).natAbs / Int.gcd (v c1) (v c2) : Nat) ∧ y c2 = ((v c2).natAbs / Int.gcd (v c1) (v c2) : Nat) ∧ ∀ j, j ≠ c1 → j ≠ c2 → j ≠ 19 → j ≠ 21 → j ≠ 23 → j ≠ 25 → y j = v j) := by
  obtain ⟨w1, hS, h18, bk⟩ := CW_SN hC
  exact fi_mono (n_lowerTerms h18 hS h1 h2 h12 x1 x2 v27 nz b1 b2 kb0 K1 K2 hfr hlo) (fun o w' ⟨u, e, hu, y, h, hh⟩ => ⟨u, e, hu, y, bk _ _ h, hh⟩)
theorem cn_divide {N V A kb : Nat} (hC : CW w0 w s v L Z) (hN : isWh N) (hV : isWh V) (hA : isWh A) (n1 : V ≠ N) (n2 : A ≠ N) (n3 : A ≠ V) (x1 : 19 ≠ N) (x2 : 19 ≠ V) (x3 : 19 ≠ A) (o1 : 27 ≠ N) (o3 : 27 ≠ A) (v27 : v 27 = 1) (vV : 0 < v V) (hb : ((v N).natAbs : Int) < 1000000000 ^ kb) (hbV : v V < 1000000000 ^ kb) (K1 : kb + 35 ≤ capB N) (K2 : kb + 35 ≤ capB A) (K3 : kb + 34 ≤ 700) (hfr : 4 ≤ fr) (hlo : 240 ≤ lo) :
    fin xs fr lo 63 0 (ax_ent [.ref 18, .ref N, .ref V, .ref A] 5) [] w (Ret fun u w' => u = none ∧ ∃ x, CW w0 w' s (upv (upv (upv v 19 x) N (v N % v V)) A (v N / v V)) L Z) := by
  obtain ⟨w1, hS, h18, bk⟩ := CW_SN hC
  exact fi_mono (n_divide h18 hS hN hV hA n1 n2 n3 x1 x2 x3 o1 o3 v27 vV hb hbV K1 K2 (by rw [show capB 19 = 700 from by decide]; exact K3) hfr hlo) (fun o w' ⟨u, e, hu, y, h⟩ => ⟨u, e, hu, y, bk _ _ h⟩)
/-- minors and one number have changed -/
def kpF (F : Nat) (v v' : Nat → Int) : Prop := ∀ c, c ≠ F → c ≠ 19 → c ≠ 21 → (∀ y : Int, 1 ≤ y → y < 64 → c ≠ 104 + 2 * y.toNat) → v' c = v c
theorem kpF_trans {F : Nat} {v v' v'' : Nat → Int} (h : kpF F v v') (h' : kpF F v' v'') : kpF F v v'' := fun c a b d e => (h' c a b d e).trans (h c a b d e)
theorem kpF_m {F : Nat} {v v' : Nat → Int} (h : kpm v v') : kpF F v v' := fun c _ _ _ e => h c e
theorem kpF_NG {F : Nat} {v v' : Nat → Int} {g : Int → Int} {R C : Nat} {E : Int} {e : Nat} (hF : 230 < F) (h : kpF F v v') (hN : NG v g R C E e) (hR : R ≤ 6) (hC : C ≤ 6) : NG v' g R C E e := ⟨fun i j hi hj => by rw [h _ (by omega) (by omega) (by omega) (fun y _ _ => by omega)]; exact hN.1 i j hi hj, hN.2⟩
theorem kpF_104 {F : Nat} {v v' : Nat → Int} (hF : 230 < F) (h : kpF F v v') : v' 104 = v 104 ∧ v' 27 = v 27 := ⟨h _ (by omega) (by omega) (by omega) (fun y _ _ => by omega), h _ (by omega) (by omega) (by omega) (fun y _ _ => by omega)⟩
theorem ps_loop {R k F : Nat} {g : Int → Int} {v0 : Nat → Int} (hfr : 7 ≤ fr) (hlo : 340 ≤ lo) (h1 : s 0 1 = R) (h2 : s 0 2 = R) (hR6 : R ≤ 6) (hF : isWh F) (hF2 : 230 < F) (hFc : capB F = 700) (hk : k ≤ 6) (hN : NG v0 g R R 1000000000000000000 3) (h104 : v0 104 = 1) :
    ∀ (n : Nat) (x : Nat) (w : ax_W) (v : Nat → Int), (x : Int) + n = 2 ^ R → 1 ≤ x → CW w0 w s v L Z → v F = csum g k x → kpF F v0 v →
    fin xs fr lo 106 15 [some (.ref 29), some (.int (jI (k : Int))), some (.ref F), some (.int (jI (x : Int)))] [] w (Ret fun u w' => u = none ∧ ∃ v', CW w0 w' s v' L Z ∧ v' F = csum g k (2 ^ R) ∧ kpF F v0 v') := by
  have h64 := S_pow hR6
  have hMB := MB_13
  have hM0 : (0 : Int) ≤ MBND := by decide
  have hbd : ∀ n : Nat, (n : Int) ≤ 2 ^ R → ((csum g k n).natAbs : Int) ≤ n * MBND := fun n hn => csum_bound (by decide) (fun x hx => mm_bound (R := R) (C := R) hR6 hR6 (NG_hg hN) (by omega) (by omega) (by omega) (by omega) rfl)
  intro n
  induction n with
  | zero =>
    intro x w v hx x1 hC hv hk0
    refine fi_step (pc' := 16) m_Mi_principalSum rfl rfl ?_
    refine fi_step (pc' := 17) m_Mi_principalSum rfl rfl ?_
    refine k_get (p := 20) m_Mi_principalSum rfl rfl (by first | exact C_print hC | exact C_minors hC | exact C_stairs hC | exact (CW_cst hC).2.1 | exact C_mat hC (by omega) | assumption) rfl ?_
    rw [h1]
    refine c_1 (p := 23) m_Mi_principalSum rfl inv_s (by decide) m_De_all rfl rfl (by omega) (by omega) (Nat.le_of_ble_eq_true rfl) (Nat.le_of_ble_eq_true rfl) rfl (de_all hR6) ?_
    refine s_ic_gt (p := 26) m_Mi_principalSum rfl rfl (by omega) (by omega) (by omega) (by omega) (fun hbr => ?_) (fun hbr => False.elim (by omega))
    refine p_ret m_Mi_principalSum rfl rfl ?_
    refine ⟨rfl, v, hC, ?_, hk0⟩
    rw [hv]
    congr 1
    have : ((2 ^ R : Nat) : Int) = 2 ^ R := by simp
    omega
  | succ n ih =>
    intro x w v hx x1 hC hv hk0
    have hl6 := els_len (x : Int) 6
    have hb := hbd x (by omega)
    have hx64 : (x : Int) * MBND ≤ 64 * MBND := Int.mul_le_mul_of_nonneg_right (by omega) hM0
    refine fi_step (pc' := 16) m_Mi_principalSum rfl rfl ?_
    refine fi_step (pc' := 17) m_Mi_principalSum rfl rfl ?_
    refine k_get (p := 20) m_Mi_principalSum rfl rfl (by first | exact C_print hC | exact C_minors hC | exact C_stairs hC | exact (CW_cst hC).2.1 | exact C_mat hC (by omega) | assumption) rfl ?_
    rw [h1]
    refine c_1 (p := 23) m_Mi_principalSum rfl inv_s (by decide) m_De_all rfl rfl (by omega) (by omega) (Nat.le_of_ble_eq_true rfl) (Nat.le_of_ble_eq_true rfl) rfl (de_all hR6) ?_
    refine s_ic_gt (p := 26) m_Mi_principalSum rfl rfl (by omega) (by omega) (by omega) (by omega) (fun hbr => False.elim (by omega)) (fun hbr => ?_)
    refine fi_step (pc' := 27) m_Mi_principalSum rfl rfl ?_
    by_cases hl : (els 6 (x : Int)).length = k
    · refine c_1 (p := 30) m_Mi_principalSum rfl inv_s (by decide) m_In_bitCount rfl rfl (by omega) (by omega) (Nat.le_of_ble_eq_true rfl) (Nat.le_of_ble_eq_true rfl) rfl (in_bitCount (by omega) (by omega)) ?_
      refine fi_step (pc' := 31) m_Mi_principalSum rfl rfl ?_
      refine s_ic_ne (p := 34) m_Mi_principalSum rfl rfl (by omega) (by omega) (by omega) (by omega) (fun hbr => False.elim (by omega)) (fun hbr => ?_)
      refine fi_step (pc' := 35) m_Mi_principalSum rfl rfl ?_
      refine fi_step (pc' := 36) m_Mi_principalSum rfl rfl ?_
      refine fi_step (pc' := 37) m_Mi_principalSum rfl rfl ?_
      refine fi_step (pc' := 38) m_Mi_principalSum rfl rfl ?_
      have hmb : ((mm g x x).natAbs : Int) ≤ MBND := mm_bound (R := R) (C := R) hR6 hR6 (NG_hg hN) (by omega) (by omega) (by omega) (by omega) rfl
      refine g_3 (p := 41) m_Mi_principalSum rfl inv_v (by decide) m_Mi_minor rfl rfl (by omega) (by omega) (Nat.le_of_ble_eq_true rfl) (Nat.le_of_ble_eq_true rfl) (C_rcvI hC _) (mi_minor (C := R) (R := R) hC (by omega) (by omega) h1 h2 hR6 hR6 (by omega) (by omega) (by omega) (by omega) (kpF_NG hF2 hk0 hN hR6 hR6) (by rw [(kpF_104 hF2 hk0).1]; exact h104) (by rw [S_cut (by omega) hR6 (by omega)])) (fun v w hP => ?_)
      obtain ⟨rfl, v1, hC, hval, k1⟩ := hP
      rw [S_cut (by omega) hR6 (by omega), ← mm_dY rfl] at hval
      have vF : v1 F = csum g k x := by rw [kpm_low k1 (Or.inr hF2)]; exact hv
      have iM : isWh (104 + 2 * ((x : Int)).toNat) := i_min (by omega)
      refine fi_step (pc' := 42) m_Mi_principalSum rfl rfl ?_
      refine g_3 (p := 45) m_Mi_principalSum rfl inv_v (by decide) m_Wh_add rfl rfl (by omega) (by omega) (Nat.le_of_ble_eq_true rfl) (Nat.le_of_ble_eq_true rfl) (C_rcvW hC (by first | assumption | exact rfl) _) (cn_add (sg := 1) (k1 := 13) (k2 := 13) hC hF iM (by omega) (Or.inl rfl) (by rw [vF]; omega) (by rw [hval]; omega) (by rw [hFc]; omega) (by rw [hFc]; omega) (by omega) (by omega)) (fun v w hP => ?_)
      obtain ⟨rfl, hC⟩ := hP
      rw [vF, hval] at hC
      refine s_iinc (p := 48) m_Mi_principalSum rfl rfl rfl ?_
      refine fi_step (pc' := 15) m_Mi_principalSum rfl rfl ?_
      rw [show ((x : Int) + 1) = ((x + 1 : Nat) : Int) by omega]
      refine ih (x + 1) w _ (by omega) (by omega) hC ?_ (kpF_trans hk0 (fun c a b d e => by rw [upv_ne _ a]; exact k1 c e))
      rw [upv_same, csum, if_pos hl]; omega
    · refine c_1 (p := 30) m_Mi_principalSum rfl inv_s (by decide) m_In_bitCount rfl rfl (by omega) (by omega) (Nat.le_of_ble_eq_true rfl) (Nat.le_of_ble_eq_true rfl) rfl (in_bitCount (by omega) (by omega)) ?_
      refine fi_step (pc' := 31) m_Mi_principalSum rfl rfl ?_
      refine s_ic_ne (p := 34) m_Mi_principalSum rfl rfl (by omega) (by omega) (by omega) (by omega) (fun hbr => ?_) (fun hbr => False.elim (by omega))
      refine s_iinc (p := 48) m_Mi_principalSum rfl rfl rfl ?_
      refine fi_step (pc' := 15) m_Mi_principalSum rfl rfl ?_
      rw [show ((x : Int) + 1) = ((x + 1 : Nat) : Int) by omega]
      refine ih (x + 1) w v (by omega) (by omega) hC ?_ hk0
      rw [hv, csum, if_neg hl]; omega
theorem mi_principalSum {R k F : Nat} {g : Int → Int} (hC : CW w0 w s v L Z) (hfr : 7 ≤ fr) (hlo : 340 ≤ lo) (h1 : s 0 1 = R) (h2 : s 0 2 = R) (hR6 : R ≤ 6) (hF : isWh F) (hF2 : 230 < F) (hFc : capB F = 700) (hk : k ≤ 6) (hN : NG v g R R 1000000000000000000 3) (h104 : v 104 = 1) :
    fin xs fr lo 106 0 (ax_ent [.ref 29, .int (jI (k : Int)), .ref F] 4) [] w (Ret fun u w' => u = none ∧ ∃ v', CW w0 w' s v' L Z ∧ v' F = csum g k (2 ^ R) ∧ kpF F v v') := by
  have h64 := S_pow hR6
  have go : ∀ w (x : Int), x = csum g k 1 → CW w0 w s (upv v F x) L Z → fin xs fr lo 106 13 [some (.ref 29), some (.int (jI (k : Int))), some (.ref F), none] [] w (Ret fun u w' => u = none ∧ ∃ v', CW w0 w' s v' L Z ∧ v' F = csum g k (2 ^ R) ∧ kpF F v v') := by
    intro w x hx hC
    refine fi_step (pc' := 14) m_Mi_principalSum rfl rfl ?_
    refine fi_step (pc' := 15) m_Mi_principalSum rfl rfl ?_
    have kk : kpF F v (upv v F x) := fun c a _ _ _ => upv_ne _ a _
    refine fi_mono (ps_loop hfr hlo h1 h2 hR6 hF hF2 hFc hk (kpF_NG hF2 kk hN hR6 hR6) (by rw [(kpF_104 hF2 kk).1]; exact h104) (2 ^ R - 1 : Int).toNat 1 w _ (by omega) (by omega) hC (by rw [upv_same, hx]) (fun _ _ _ _ _ => rfl)) (fun o w' ⟨u, e, hu, v', a, b, c⟩ => ⟨u, e, hu, v', a, b, kpF_trans kk c⟩)
  by_cases h0 : k = 0
  · refine fi_step (pc' := 1) m_Mi_principalSum rfl rfl ?_
    refine fi_step (pc' := 2) m_Mi_principalSum rfl rfl ?_
    refine s_if_ne (p := 5) m_Mi_principalSum rfl rfl (by omega) (by omega) (fun hbr => False.elim (by omega)) (fun hbr => ?_)
    refine s_lconst (p := 6) (v := 1) m_Mi_principalSum rfl rfl rfl ?_
    refine fi_step (pc' := 10) m_Mi_principalSum rfl rfl ?_
    refine g_2 (p := 13) m_Mi_principalSum rfl inv_v (by decide) m_Wh_becomeJ rfl rfl (by omega) (by omega) (Nat.le_of_ble_eq_true rfl) (Nat.le_of_ble_eq_true rfl) (C_rcvW hC (by first | assumption | exact rfl) _) (cn_becomeJ (x := 1) hC hF (by omega) (by omega) (by omega) (by omega)) (fun v w hP => ?_)
    obtain ⟨rfl, hC⟩ := hP
    exact go w 1 (by rw [csum_one, if_pos h0]) hC
  · refine fi_step (pc' := 1) m_Mi_principalSum rfl rfl ?_
    refine fi_step (pc' := 2) m_Mi_principalSum rfl rfl ?_
    refine s_if_ne (p := 5) m_Mi_principalSum rfl rfl (by omega) (by omega) (fun hbr => ?_) (fun hbr => False.elim (by omega))
    refine s_lconst (p := 10) (v := 0) m_Mi_principalSum rfl rfl rfl ?_
    refine g_2 (p := 13) m_Mi_principalSum rfl inv_v (by decide) m_Wh_becomeJ rfl rfl (by omega) (by omega) (Nat.le_of_ble_eq_true rfl) (Nat.le_of_ble_eq_true rfl) (C_rcvW hC (by first | assumption | exact rfl) _) (cn_becomeJ (x := 0) hC hF (by omega) (by omega) (by omega) (by omega)) (fun v w hP => ?_)
    obtain ⟨rfl, hC⟩ := hP
    exact go w 0 (by rw [csum_one, if_neg h0]) hC
theorem cd_in {R C k F : Nat} {g : Int → Int} {v0 : Nat → Int} {y : Int} {A : Int → Prop} {Q : Outcome → ax_W → Prop} (hfr : 6 ≤ fr) (hlo : 310 ≤ lo) (hR6 : R ≤ 6) (hC6 : C ≤ 6) (hF : isWh F) (hF2 : 230 < F) (hFc : capB F = 700) (hk : k ≤ 6) (k1 : 1 ≤ k) (y0 : 0 ≤ y) (y1 : y < 2 ^ R) (hly : (els 6 y).length = k) (hg : ∀ i j : Int, 0 ≤ i → i < R → 0 ≤ j → j < C → ((g (12 * i + j)).natAbs : Int) ≤ 1000000000000000000) (h27 : v0 27 = 1)
    (K : ∀ w v y5, CW w0 w s v L Z → 0 ≤ v F → v F ≤ MBND → (∀ d, d ∣ v F ↔ (A d ∧ ∀ x, 0 ≤ x → x < 2 ^ C → (els 6 x).length = k → d ∣ mm g y x)) → kpF F v0 v → fin xs fr lo 94 91 [some (.ref 29), some (.int (jI (k : Int))), some (.ref F), some (.int (jI (2 ^ C - 1))), some (.int (jI y)), y5] [] w Q) :
    ∀ (n : Nat) (x : Int) (w : ax_W) (v : Nat → Int), x + n = 2 ^ C → 1 ≤ x → CW w0 w s v L Z → 0 ≤ v F → v F ≤ MBND → (∀ d, d ∣ v F ↔ (A d ∧ ∀ x', 0 ≤ x' → x' < x → (els 6 x').length = k → d ∣ mm g y x')) → (∀ x', x ≤ x' → x' < 2 ^ C → (els 6 x').length = k → v (104 + 2 * x'.toNat) = mm g y x') → kpF F v0 v →
    fin xs fr lo 94 55 [some (.ref 29), some (.int (jI (k : Int))), some (.ref F), some (.int (jI (2 ^ C - 1))), some (.int (jI y)), some (.int (jI x))] [] w Q := by
  have h64 := S_pow hC6
  have hMB := MB_13
  have hM0 : (0 : Int) ≤ MBND := by decide
  intro n
  induction n with
  | zero =>
    intro x w v hx x1 hC v0' vM hd hm hk0
    refine fi_step (pc' := 57) m_Mi_commonDivisor rfl rfl ?_
    refine fi_step (pc' := 58) m_Mi_commonDivisor rfl rfl ?_
    refine s_ic_gt (p := 61) m_Mi_commonDivisor rfl rfl (by omega) (by omega) (by omega) (by omega) (fun hbr => ?_) (fun hbr => False.elim (by omega))
    refine K w v _ hC v0' vM (fun d => ?_) hk0
    rw [hd d, show x = 2 ^ C by omega]
  | succ n ih =>
    intro x w v hx x1 hC v0' vM hd hm hk0
    have hl6 := els_len x 6
    have hstep : ∀ d, (∀ x', 0 ≤ x' → x' < x + 1 → (els 6 x').length = k → d ∣ mm g y x') ↔ ((∀ x', 0 ≤ x' → x' < x → (els 6 x').length = k → d ∣ mm g y x') ∧ ((els 6 x).length = k → d ∣ mm g y x)) := by
      intro d
      constructor
      · intro h; exact ⟨fun x' a b c => h x' a (by omega) c, fun c => h x (by omega) (by omega) c⟩
      · intro h x' a b c
        by_cases e : x' = x
        · subst e; exact h.2 c
        · exact h.1 x' a (by omega) c
    refine fi_step (pc' := 57) m_Mi_commonDivisor rfl rfl ?_
    refine fi_step (pc' := 58) m_Mi_commonDivisor rfl rfl ?_
    refine s_ic_gt (p := 61) m_Mi_commonDivisor rfl rfl (by omega) (by omega) (by omega) (by omega) (fun hbr => False.elim (by omega)) (fun hbr => ?_)
    refine fi_step (pc' := 63) m_Mi_commonDivisor rfl rfl ?_
    by_cases hl : (els 6 x).length = k
    · refine c_1 (p := 66) m_Mi_commonDivisor rfl inv_s (by decide) m_In_bitCount rfl rfl (by omega) (by omega) (Nat.le_of_ble_eq_true rfl) (Nat.le_of_ble_eq_true rfl) rfl (in_bitCount (by omega) (by omega)) ?_
      refine fi_step (pc' := 67) m_Mi_commonDivisor rfl rfl ?_
      refine s_ic_ne (p := 70) m_Mi_commonDivisor rfl rfl (by omega) (by omega) (by omega) (by omega) (fun hbr => False.elim (by omega)) (fun hbr => ?_)
      refine fi_step (pc' := 71) m_Mi_commonDivisor rfl rfl ?_
      refine k_get (p := 74) m_Mi_commonDivisor rfl rfl (by first | exact C_print hC | exact C_minors hC | exact C_stairs hC | exact (CW_cst hC).2.1 | exact C_mat hC (by omega) | assumption) rfl ?_
      refine fi_step (pc' := 75) m_Mi_commonDivisor rfl rfl ?_
      refine fi_step (pc' := 76) m_Mi_commonDivisor rfl rfl ?_
      refine k_get (p := 79) m_Mi_commonDivisor rfl rfl (by first | exact C_print hC | exact C_minors hC | exact C_stairs hC | exact (CW_cst hC).2.1 | exact C_mat hC (by omega) | assumption) rfl ?_
      refine fi_step (pc' := 81) m_Mi_commonDivisor rfl rfl ?_
      refine i_ldM (p := 82) m_Mi_commonDivisor rfl rfl hC (by omega) (by omega) ?_
      have hval := hm x (by omega) (by omega) hl
      have hmb : ((mm g y x).natAbs : Int) ≤ MBND := mm_bound (R := R) (C := C) hR6 hC6 hg y0 y1 (by omega) (by omega) (by omega)
      have iM : isWh (104 + 2 * x.toNat) := i_min (by omega)
      refine g_3 (p := 85) m_Mi_commonDivisor rfl inv_v (by decide) m_Di_commonDivisor rfl rfl (by omega) (by omega) (Nat.le_of_ble_eq_true rfl) (Nat.le_of_ble_eq_true rfl) (C_rcvV hC _) (cn_commonDivisor (kb := 13) hC hF iM (by omega) (by omega) (by omega) (by rw [(kpF_104 hF2 hk0).2]; exact h27) (by omega) (by rw [hval]; omega) (by rw [hFc]; omega) (by rw [cap_min (by omega)]; omega) (by omega) (by omega) (by omega)) (fun v w hP => ?_)
      obtain ⟨rfl, v1, hC, g1, k1'⟩ := hP
      rw [hval] at g1
      refine s_iinc (p := 88) m_Mi_commonDivisor rfl rfl rfl ?_
      refine fi_step (pc' := 55) m_Mi_commonDivisor rfl rfl ?_
      have hle : v1 F ≤ MBND := by
        rw [g1]
        by_cases hz : mm g y x = 0
        · rw [hz, Int.gcd_zero_right]; omega
        · have := Nat.le_of_dvd (by omega) (Int.natAbs_dvd_natAbs.mpr (Int.gcd_dvd_right (v F) (mm g y x)))
          simp at this
          omega
      refine ih (x + 1) w v1 (by omega) (by omega) hC (by rw [g1]; omega) hle (fun d => ?_) (fun x' a b c => ?_) (kpF_trans hk0 (fun c a b d e => k1' c a (e x (by omega) (by omega)) b d))
      · rw [g1, Int.dvd_coe_gcd_iff, hd d, hstep d]
        constructor
        · intro h; exact ⟨h.1.1, h.1.2, fun _ => h.2⟩
        · intro h; exact ⟨⟨h.1, h.2.1⟩, h.2.2 hl⟩
      · rw [k1' _ (by omega) (by omega) (by omega) (by omega)]
        exact hm x' (by omega) b c
    · refine c_1 (p := 66) m_Mi_commonDivisor rfl inv_s (by decide) m_In_bitCount rfl rfl (by omega) (by omega) (Nat.le_of_ble_eq_true rfl) (Nat.le_of_ble_eq_true rfl) rfl (in_bitCount (by omega) (by omega)) ?_
      refine fi_step (pc' := 67) m_Mi_commonDivisor rfl rfl ?_
      refine s_ic_ne (p := 70) m_Mi_commonDivisor rfl rfl (by omega) (by omega) (by omega) (by omega) (fun hbr => ?_) (fun hbr => False.elim (by omega))
      refine s_iinc (p := 88) m_Mi_commonDivisor rfl rfl rfl ?_
      refine fi_step (pc' := 55) m_Mi_commonDivisor rfl rfl ?_
      refine ih (x + 1) w v (by omega) (by omega) hC v0' vM (fun d => ?_) (fun x' a b c => hm x' (by omega) b c) hk0
      rw [hd d, hstep d]
      constructor
      · intro h; exact ⟨h.1, h.2, fun c => absurd c hl⟩
      · intro h; exact ⟨h.1, h.2.1⟩
theorem cd_out {R C k F : Nat} {g : Int → Int} {v0 : Nat → Int} (hfr : 7 ≤ fr) (hlo : 340 ≤ lo) (h1 : s 0 1 = R) (h2 : s 0 2 = C) (hR6 : R ≤ 6) (hC6 : C ≤ 6) (hF : isWh F) (hF2 : 230 < F) (hFc : capB F = 700) (hk : k ≤ 6) (hN : NG v0 g R C 1000000000000000000 3) (h104 : v0 104 = 1) (h27 : v0 27 = 1) :
    ∀ (n : Nat) (y : Int) (w : ax_W) (v : Nat → Int) (y5 : Option Value), y + n = 2 ^ R → 1 ≤ y → CW w0 w s v L Z → 0 ≤ v F → v F ≤ MBND → (∀ d, d ∣ v F ↔ ∀ x y', 0 ≤ x → x < 2 ^ C → (els 6 x).length = k → 0 ≤ y' → y' < y → (els 6 y').length = k → d ∣ mm g y' x) → kpF F v0 v →
    fin xs fr lo 94 24 [some (.ref 29), some (.int (jI (k : Int))), some (.ref F), some (.int (jI (2 ^ C - 1))), some (.int (jI y)), y5] [] w (Ret fun u w' => u = none ∧ ∃ v', CW w0 w' s v' L Z ∧ isD g R C k (v' F) ∧ kpF F v0 v') := by
  have h64 := S_pow hC6
  have hR64 := S_pow hR6
  intro n
  induction n with
  | zero =>
    intro y w v y5 hy y1 hC v0' vM hd hk0
    refine fi_step (pc' := 26) m_Mi_commonDivisor rfl rfl ?_
    refine fi_step (pc' := 27) m_Mi_commonDivisor rfl rfl ?_
    refine k_get (p := 30) m_Mi_commonDivisor rfl rfl (by first | exact C_print hC | exact C_minors hC | exact C_stairs hC | exact (CW_cst hC).2.1 | exact C_mat hC (by omega) | assumption) rfl ?_
    rw [h1]
    refine c_1 (p := 33) m_Mi_commonDivisor rfl inv_s (by decide) m_De_all rfl rfl (by omega) (by omega) (Nat.le_of_ble_eq_true rfl) (Nat.le_of_ble_eq_true rfl) rfl (de_all hR6) ?_
    refine s_ic_gt (p := 36) m_Mi_commonDivisor rfl rfl (by omega) (by omega) (by omega) (by omega) (fun hbr => ?_) (fun hbr => False.elim (by omega))
    refine p_ret m_Mi_commonDivisor rfl rfl ?_
    refine ⟨rfl, v, hC, ⟨v0', fun d => ?_⟩, hk0⟩
    rw [hd d, show y = 2 ^ R by omega]
  | succ n ih =>
    intro y w v y5 hy y1 hC v0' vM hd hk0
    have hl6 := els_len y 6
    have hstep : ∀ d, (∀ x y', 0 ≤ x → x < 2 ^ C → (els 6 x).length = k → 0 ≤ y' → y' < y + 1 → (els 6 y').length = k → d ∣ mm g y' x) ↔ ((∀ x y', 0 ≤ x → x < 2 ^ C → (els 6 x).length = k → 0 ≤ y' → y' < y → (els 6 y').length = k → d ∣ mm g y' x) ∧ ((els 6 y).length = k → ∀ x, 0 ≤ x → x < 2 ^ C → (els 6 x).length = k → d ∣ mm g y x)) := by
      intro d
      constructor
      · intro h; exact ⟨fun x y' a b c d' e f => h x y' a b c d' (by omega) f, fun hl x a b c => h x y a b c (by omega) (by omega) hl⟩
      · intro h x y' a b c d' e f
        by_cases e' : y' = y
        · subst e'; exact h.2 f x a b c
        · exact h.1 x y' a b c d' (by omega) f
    refine fi_step (pc' := 26) m_Mi_commonDivisor rfl rfl ?_
    refine fi_step (pc' := 27) m_Mi_commonDivisor rfl rfl ?_
    refine k_get (p := 30) m_Mi_commonDivisor rfl rfl (by first | exact C_print hC | exact C_minors hC | exact C_stairs hC | exact (CW_cst hC).2.1 | exact C_mat hC (by omega) | assumption) rfl ?_
    rw [h1]
    refine c_1 (p := 33) m_Mi_commonDivisor rfl inv_s (by decide) m_De_all rfl rfl (by omega) (by omega) (Nat.le_of_ble_eq_true rfl) (Nat.le_of_ble_eq_true rfl) rfl (de_all hR6) ?_
    refine s_ic_gt (p := 36) m_Mi_commonDivisor rfl rfl (by omega) (by omega) (by omega) (by omega) (fun hbr => False.elim (by omega)) (fun hbr => ?_)
    refine fi_step (pc' := 38) m_Mi_commonDivisor rfl rfl ?_
    by_cases hl : (els 6 y).length = k
    · have k1 : 1 ≤ k := by
        have : ∀ y : Fin 64, (y : Nat) ≠ 0 → (els 6 ((y : Nat) : Int)).length ≠ 0 := by decide
        have h3 := this ⟨y.toNat, by omega⟩ (by simp only; omega)
        simp only [Int.toNat_of_nonneg (show 0 ≤ y by omega)] at h3
        omega
      refine c_1 (p := 41) m_Mi_commonDivisor rfl inv_s (by decide) m_In_bitCount rfl rfl (by omega) (by omega) (Nat.le_of_ble_eq_true rfl) (Nat.le_of_ble_eq_true rfl) rfl (in_bitCount (by omega) (by omega)) ?_
      refine fi_step (pc' := 42) m_Mi_commonDivisor rfl rfl ?_
      refine s_ic_ne (p := 45) m_Mi_commonDivisor rfl rfl (by omega) (by omega) (by omega) (by omega) (fun hbr => False.elim (by omega)) (fun hbr => ?_)
      refine fi_step (pc' := 46) m_Mi_commonDivisor rfl rfl ?_
      refine fi_step (pc' := 48) m_Mi_commonDivisor rfl rfl ?_
      refine fi_step (pc' := 49) m_Mi_commonDivisor rfl rfl ?_
      refine g_3 (p := 52) m_Mi_commonDivisor rfl inv_v (by decide) m_Mi_takeRows rfl rfl (by omega) (by omega) (Nat.le_of_ble_eq_true rfl) (Nat.le_of_ble_eq_true rfl) (C_rcvI hC _) (mi_takeRows (C := C) (R := R) (within := 2 ^ C - 1) hC (by omega) (by omega) h1 h2 hC6 hR6 (by omega) (by omega) (by omega) (by omega) (kpF_NG hF2 hk0 hN hR6 hC6) (by rw [(kpF_104 hF2 hk0).1]; exact h104)) (fun v w hP => ?_)
      obtain ⟨rfl, v1, hC, hval, k1'⟩ := hP
      rw [S_cut (by omega) hR6 (by omega)] at hval
      have vF : v1 F = v F := kpm_low k1' (Or.inr hF2)
      have kk := kpF_trans hk0 (kpF_m k1')
      refine fi_step (pc' := 53) m_Mi_commonDivisor rfl rfl ?_
      refine fi_step (pc' := 55) m_Mi_commonDivisor rfl rfl ?_
      refine cd_in (R := R) (C := C) (g := g) (v0 := v0) (y := y) (A := fun d => d ∣ v F) (by omega) (by omega) hR6 hC6 hF hF2 hFc hk k1 (by omega) (by omega) hl (NG_hg hN) h27 ?_ (2 ^ C - 1 : Int).toNat 1 w v1 (by omega) (by omega) hC (by rw [vF]; exact v0') (by rw [vF]; exact vM) (fun d => ?_) (fun x' a b c => ?_) kk
      · intro w v2 y5 hC b0 b1 hd2 hk2
        refine s_iinc (p := 94) m_Mi_commonDivisor rfl rfl rfl ?_
        refine fi_step (pc' := 24) m_Mi_commonDivisor rfl rfl ?_
        refine ih (y + 1) w v2 _ (by omega) (by omega) hC b0 b1 (fun d => ?_) hk2
        rw [hd2 d, hd d, hstep d]
        constructor
        · intro h; exact ⟨h.1, fun _ => h.2⟩
        · intro h; exact ⟨h.1, h.2 hl⟩
      · rw [vF]
        constructor
        · intro h
          refine ⟨h, fun x' a b c => ?_⟩
          obtain rfl : x' = 0 := by omega
          rw [show (els 6 0).length = 0 from rfl] at c
          omega
        · intro h; exact h.1
      · rw [mm_dY (by omega)]
        exact hval x' (by omega) (by omega) (sub_every (by omega) hC6 b) (by omega)
    · refine c_1 (p := 41) m_Mi_commonDivisor rfl inv_s (by decide) m_In_bitCount rfl rfl (by omega) (by omega) (Nat.le_of_ble_eq_true rfl) (Nat.le_of_ble_eq_true rfl) rfl (in_bitCount (by omega) (by omega)) ?_
      refine fi_step (pc' := 42) m_Mi_commonDivisor rfl rfl ?_
      refine s_ic_ne (p := 45) m_Mi_commonDivisor rfl rfl (by omega) (by omega) (by omega) (by omega) (fun hbr => ?_) (fun hbr => False.elim (by omega))
      refine s_iinc (p := 94) m_Mi_commonDivisor rfl rfl rfl ?_
      refine fi_step (pc' := 24) m_Mi_commonDivisor rfl rfl ?_
      refine ih (y + 1) w v _ (by omega) (by omega) hC v0' vM (fun d => ?_) hk0
      rw [hd d, hstep d]
      constructor
      · intro h; exact ⟨h, fun c => absurd c hl⟩
      · intro h; exact h.1
theorem mi_commonDivisor {R C k F : Nat} {g : Int → Int} (hC : CW w0 w s v L Z) (hfr : 7 ≤ fr) (hlo : 340 ≤ lo) (h1 : s 0 1 = R) (h2 : s 0 2 = C) (hR6 : R ≤ 6) (hC6 : C ≤ 6) (hF : isWh F) (hF2 : 230 < F) (hFc : capB F = 700) (hk : k ≤ 6) (hN : NG v g R C 1000000000000000000 3) (h104 : v 104 = 1) (h27 : v 27 = 1) :
    fin xs fr lo 94 0 (ax_ent [.ref 29, .int (jI (k : Int)), .ref F] 6) [] w (Ret fun u w' => u = none ∧ ∃ v', CW w0 w' s v' L Z ∧ isD g R C k (v' F) ∧ kpF F v v') := by
  have h64 := S_pow hR6
  have hM1 : (1 : Int) ≤ MBND := by decide
  have zero_len : ∀ y : Int, 0 ≤ y → y < 1 → (els 6 y).length = 0 ∧ y = 0 := fun y a b => by
    obtain rfl : y = 0 := by omega
    exact ⟨rfl, rfl⟩
  have go : ∀ w (q : Int), q = (if k = 0 then 1 else 0) → CW w0 w s (upv v F q) L Z → fin xs fr lo 94 13 [some (.ref 29), some (.int (jI (k : Int))), some (.ref F), none, none, none] [] w (Ret fun u w' => u = none ∧ ∃ v', CW w0 w' s v' L Z ∧ isD g R C k (v' F) ∧ kpF F v v') := by
    intro w q hq hC
    have kk : kpF F v (upv v F q) := fun c a _ _ _ => upv_ne _ a _
    refine fi_step (pc' := 14) m_Mi_commonDivisor rfl rfl ?_
    refine k_get (p := 17) m_Mi_commonDivisor rfl rfl (by first | exact C_print hC | exact C_minors hC | exact C_stairs hC | exact (CW_cst hC).2.1 | exact C_mat hC (by omega) | assumption) rfl ?_
    rw [h2]
    refine c_1 (p := 20) m_Mi_commonDivisor rfl inv_s (by decide) m_De_all rfl rfl (by omega) (by omega) (Nat.le_of_ble_eq_true rfl) (Nat.le_of_ble_eq_true rfl) rfl (de_all hC6) ?_
    refine fi_step (pc' := 21) m_Mi_commonDivisor rfl rfl ?_
    refine fi_step (pc' := 22) m_Mi_commonDivisor rfl rfl ?_
    refine fi_step (pc' := 24) m_Mi_commonDivisor rfl rfl ?_
    refine fi_mono (cd_out hfr hlo h1 h2 hR6 hC6 hF hF2 hFc hk (kpF_NG hF2 kk hN hR6 hC6) (by rw [(kpF_104 hF2 kk).1]; exact h104) (by rw [(kpF_104 hF2 kk).2]; exact h27) (2 ^ R - 1 : Int).toNat 1 w _ _ (by omega) (by omega) hC (by rw [upv_same, hq]; split <;> omega) (by rw [upv_same, hq]; split <;> omega) (fun d => ?_) (fun _ _ _ _ _ => rfl)) (fun o w' ⟨u, e, hu, v', a, b, c⟩ => ⟨u, e, hu, v', a, b, kpF_trans kk c⟩)
    rw [upv_same, hq]
    by_cases h0 : k = 0
    · rw [if_pos h0]
      constructor
      · intro hd x y' a b c a' b' c'
        obtain ⟨e1, rfl⟩ := zero_len y' a' b'
        have hx0 : x = 0 := by
          refine Classical.byContradiction (fun hne => ?_)
          have : ∀ y : Fin 64, (y : Nat) ≠ 0 → (els 6 ((y : Nat) : Int)).length ≠ 0 := by decide
          have h64' := S_pow hC6
          have h3 := this ⟨x.toNat, by omega⟩ (by simp only; omega)
          simp only [Int.toNat_of_nonneg a] at h3
          omega
        subst hx0
        exact hd
      · intro h
        have := h 0 0 (by omega) (by have := S_pow hC6; omega) (by rw [h0]; rfl) (by omega) (by omega) (by rw [h0]; rfl)
        exact this
    · rw [if_neg h0]
      constructor
      · intro _ x y' a b c a' b' c'
        have := (zero_len y' a' b').1
        omega
      · intro _; exact Int.dvd_zero d
  by_cases h0 : k = 0
  · refine fi_step (pc' := 1) m_Mi_commonDivisor rfl rfl ?_
    refine fi_step (pc' := 2) m_Mi_commonDivisor rfl rfl ?_
    refine s_if_ne (p := 5) m_Mi_commonDivisor rfl rfl (by omega) (by omega) (fun hbr => False.elim (by omega)) (fun hbr => ?_)
    refine s_lconst (p := 6) (v := 1) m_Mi_commonDivisor rfl rfl rfl ?_
    refine fi_step (pc' := 10) m_Mi_commonDivisor rfl rfl ?_
    refine g_2 (p := 13) m_Mi_commonDivisor rfl inv_v (by decide) m_Wh_becomeJ rfl rfl (by omega) (by omega) (Nat.le_of_ble_eq_true rfl) (Nat.le_of_ble_eq_true rfl) (C_rcvW hC (by first | assumption | exact rfl) _) (cn_becomeJ (x := 1) hC hF (by omega) (by omega) (by omega) (by omega)) (fun v w hP => ?_)
    obtain ⟨rfl, hC⟩ := hP
    exact go w 1 (by rw [if_pos h0]) hC
  · refine fi_step (pc' := 1) m_Mi_commonDivisor rfl rfl ?_
    refine fi_step (pc' := 2) m_Mi_commonDivisor rfl rfl ?_
    refine s_if_ne (p := 5) m_Mi_commonDivisor rfl rfl (by omega) (by omega) (fun hbr => ?_) (fun hbr => False.elim (by omega))
    refine s_lconst (p := 10) (v := 0) m_Mi_commonDivisor rfl rfl rfl ?_
    refine g_2 (p := 13) m_Mi_commonDivisor rfl inv_v (by decide) m_Wh_becomeJ rfl rfl (by omega) (by omega) (Nat.le_of_ble_eq_true rfl) (Nat.le_of_ble_eq_true rfl) (C_rcvW hC (by first | assumption | exact rfl) _) (cn_becomeJ (x := 0) hC hF (by omega) (by omega) (by omega) (by omega)) (fun v w hP => ?_)
    obtain ⟨rfl, hC⟩ := hP
    exact go w 0 (by rw [if_neg h0]) hC
end MI4
