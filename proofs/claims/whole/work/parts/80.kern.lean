/-! THE REFERENCE: kernel -/
/-- so many leads lie before column R -/
def isFrom (lead : Int → Int) (f : Nat) (R : Int) (n : Nat) : Prop := n ≤ f ∧ (∀ k : Nat, k < n → lead k < R) ∧ ∀ k : Nat, n ≤ k → k < f → R ≤ lead k
theorem hl_asc {c : Nat → Int} {X : Nat → Vec} : ∀ {n m : Nat}, ech (hl c X n m) → ∀ {i k : Nat}, m ≤ i → i < k → k < m + n → c i < c k
  | 0, m, _, i, k, h1, h2, h3 => by omega
  | n + 1, m, he, i, k, h1, h2, h3 => by
    by_cases e : i = m
    · subst e
      exact he.2.2.1 (c k, X k) (hl_mem.mpr ⟨k, by omega, by omega, rfl⟩)
    · exact hl_asc he.2.2.2 (by omega) h2 (by omega)
section KERN
variable {xs : List Int32} {fr lo : Nat} {w0 : ax_W} {Q : Outcome → ax_W → Prop}
theorem from_loop {m : Int} {f : Nat} {w : ax_W} {s : mo_S} (hw : RW w0 w s) (h3 : s 0 3 = f) (hf : f ≤ 6) (m0 : 0 ≤ m) (m1 : m < 6) (r0 : 0 ≤ s 5 m) (r1 : s 5 m ≤ 6) (hl : ∀ k : Nat, k < f → 0 ≤ s 9 k ∧ s 9 k < 12) (hasc : ∀ i k : Nat, i < k → k < f → s 9 i < s 9 k) :
    ∀ (d k : Nat), k + d = f → (∀ k' : Nat, k' < k → s 9 k' < s 5 m) → fin xs fr lo 170 2 [some (.ref 425), some (.int (jI m)), some (.int (jI k))] [] w (Ret fun u w' => w' = w ∧ ∃ n : Nat, u = some (.int (jI n)) ∧ isFrom (s 9) f (s 5 m) n) := by
  intro d
  induction d with
  | zero =>
    intro k hk hv
    obtain rfl : k = f := by omega
    refine fi_step (pc' := 3) m_Mo_kernelFrom rfl rfl ?_
    refine fi_step (pc' := 4) m_Mo_kernelFrom rfl rfl ?_
    refine r_get (p := 7) m_Mo_kernelFrom rfl rfl (by assumption) rfl ?_
    refine s_ic_ge (p := 10) m_Mo_kernelFrom rfl rfl (by omega) (by omega) (by omega) (by omega) (fun hbr => ?_) (fun hbr => False.elim (by omega))
    refine fi_step (pc' := 32) m_Mo_kernelFrom rfl rfl ?_
    refine p_reti m_Mo_kernelFrom rfl rfl ?_
    exact ⟨rfl, k, rfl, by omega, hv, fun k' h1 h2 => by omega⟩
  | succ d ih =>
    intro k hk hv
    have l1 := hl k (by omega)
    refine fi_step (pc' := 3) m_Mo_kernelFrom rfl rfl ?_
    refine fi_step (pc' := 4) m_Mo_kernelFrom rfl rfl ?_
    refine r_get (p := 7) m_Mo_kernelFrom rfl rfl (by assumption) rfl ?_
    refine s_ic_ge (p := 10) m_Mo_kernelFrom rfl rfl (by omega) (by omega) (by omega) (by omega) (fun hbr => False.elim (by omega)) (fun hbr => ?_)
    refine fi_step (pc' := 11) m_Mo_kernelFrom rfl rfl ?_
    refine r_get (p := 14) m_Mo_kernelFrom rfl rfl (by assumption) rfl ?_
    refine fi_step (pc' := 15) m_Mo_kernelFrom rfl rfl ?_
    refine r_ldI (p := 16) m_Mo_kernelFrom rfl rfl (by assumption) (by decide) rfl (by decide) (by omega) (by omega) ?_
    refine fi_step (pc' := 17) m_Mo_kernelFrom rfl rfl ?_
    refine r_get (p := 20) m_Mo_kernelFrom rfl rfl (by assumption) rfl ?_
    refine fi_step (pc' := 21) m_Mo_kernelFrom rfl rfl ?_
    refine r_ldI (p := 22) m_Mo_kernelFrom rfl rfl (by assumption) (by decide) rfl (by decide) (by omega) (by omega) ?_
    refine s_ic_ge (p := 25) m_Mo_kernelFrom rfl rfl (by omega) (by omega) (by omega) (by omega) (fun h => ?_) (fun h => ?_)
    · refine fi_step (pc' := 32) m_Mo_kernelFrom rfl rfl ?_
      refine p_reti m_Mo_kernelFrom rfl rfl ?_
      refine ⟨rfl, k, rfl, by omega, hv, fun k' h1 h2 => ?_⟩
      by_cases e : k' = k
      · subst e; exact h
      · have := hasc k k' (by omega) h2; omega
    · refine s_iinc (p := 28) m_Mo_kernelFrom rfl rfl rfl ?_
      refine fi_step (pc' := 2) m_Mo_kernelFrom rfl rfl ?_
      refine ih (k + 1) (by omega) (fun k' h' => ?_)
      by_cases e : k' = k
      · subst e; omega
      · exact hv k' (by omega)
theorem c_kernelFrom {m : Int} {f : Nat} {w : ax_W} {s : mo_S} (hw : RW w0 w s) (h3 : s 0 3 = f) (hf : f ≤ 6) (m0 : 0 ≤ m) (m1 : m < 6) (r0 : 0 ≤ s 5 m) (r1 : s 5 m ≤ 6) (hl : ∀ k : Nat, k < f → 0 ≤ s 9 k ∧ s 9 k < 12) (hasc : ∀ i k : Nat, i < k → k < f → s 9 i < s 9 k) :
    fin xs fr lo 170 0 (ax_ent [.ref 425, .int (jI m)] 3) [] w (Ret fun u w' => w' = w ∧ ∃ n : Nat, u = some (.int (jI n)) ∧ isFrom (s 9) f (s 5 m) n) := by
  refine fi_step (pc' := 1) m_Mo_kernelFrom rfl rfl ?_
  refine fi_step (pc' := 2) m_Mo_kernelFrom rfl rfl ?_
  exact from_loop hw h3 hf m0 m1 r0 r1 hl hasc f 0 (by omega) (fun k' h => by omega)
theorem kern_loop {a : Int} {R C q n : Nat} {S : mo_S} {R0 : Int → Int} {t : Value} (hfr : 3 ≤ fr) (hlo : 120 ≤ lo) (a0 : 0 ≤ a) (a1 : a < 6) (hR : S 5 a = R) (hC : S 6 a = C) (R6 : R ≤ 6) (C1 : 1 ≤ C) (C6 : C ≤ 6) (hq : q + n ≤ 6)
    (K : ∀ w s r y5 y6, RW w0 w s → oth S s → Bg s r → (∀ i j : Int, 0 ≤ i → i < n → 0 ≤ j → j < C → r (6 * i + j) = R0 (184 + 12 * (q + i) + R + j)) → fin xs fr lo 168 104 [some (.ref 425), some t, some (.int (jI a)), some (.int (jI q)), some (.int (jI n)), y5, y6] [] w Q) :
    ∀ (m : Nat) (i j : Int) (w : ax_W) (s : mo_S) (r : Int → Int), (n - i) * 7 + (C - j) ≤ m → 0 ≤ i → i < n → 0 ≤ j → j ≤ C → RW w0 w s → oth S s → Bg s r → (∀ i' j' : Int, 0 ≤ i' → 0 ≤ j' → j' < C → (i' < i ∨ (i' = i ∧ j' < j)) → r (6 * i' + j') = R0 (184 + 12 * (q + i') + R + j')) → (∀ k : Int, 36 ≤ k → r k = R0 k) →
    fin xs fr lo 168 48 [some (.ref 425), some t, some (.int (jI a)), some (.int (jI q)), some (.int (jI n)), some (.int (jI i)), some (.int (jI j))] [] w Q := by
  intro m
  induction m with
  | zero => intro i j w s r hm i0 i1 j0 j1; omega
  | succ m ih =>
    intro i j w s r hm i0 i1 j0 j1 hw ho hB hv hr
    have e5 : s 5 a = R := by rw [ho 5 (by decide) (by decide) (by decide)]; exact hR
    have e6 : s 6 a = C := by rw [ho 6 (by decide) (by decide) (by decide)]; exact hC
    by_cases hj : j = C
    · by_cases hlast : i + 1 < n
      · refine fi_step (pc' := 50) m_Mo_kernel rfl rfl ?_
        refine fi_step (pc' := 51) m_Mo_kernel rfl rfl ?_
        refine r_get (p := 54) m_Mo_kernel rfl rfl (by assumption) rfl ?_
        refine fi_step (pc' := 55) m_Mo_kernel rfl rfl ?_
        refine r_ldI (p := 56) m_Mo_kernel rfl rfl (by assumption) (by decide) rfl (by decide) (by omega) (by omega) ?_
        refine s_ic_ge (p := 59) m_Mo_kernel rfl rfl (by omega) (by omega) (by omega) (by omega) (fun hbr => ?_) (fun hbr => False.elim (by omega))
        refine s_iinc (p := 101) m_Mo_kernel rfl rfl rfl ?_
        refine fi_step (pc' := 38) m_Mo_kernel rfl rfl ?_
        refine fi_step (pc' := 40) m_Mo_kernel rfl rfl ?_
        refine fi_step (pc' := 42) m_Mo_kernel rfl rfl ?_
        refine s_ic_ge (p := 45) m_Mo_kernel rfl rfl (by omega) (by omega) (by omega) (by omega) (fun hbr => False.elim (by omega)) (fun hbr => ?_)
        refine fi_step (pc' := 46) m_Mo_kernel rfl rfl ?_
        refine fi_step (pc' := 48) m_Mo_kernel rfl rfl ?_
        exact ih (i + 1) 0 w s r (by omega) (by omega) hlast (by omega) (by omega) hw ho hB (fun i' j' p0 q0 q1 h => hv i' j' p0 q0 q1 (by omega)) hr
      · refine fi_step (pc' := 50) m_Mo_kernel rfl rfl ?_
        refine fi_step (pc' := 51) m_Mo_kernel rfl rfl ?_
        refine r_get (p := 54) m_Mo_kernel rfl rfl (by assumption) rfl ?_
        refine fi_step (pc' := 55) m_Mo_kernel rfl rfl ?_
        refine r_ldI (p := 56) m_Mo_kernel rfl rfl (by assumption) (by decide) rfl (by decide) (by omega) (by omega) ?_
        refine s_ic_ge (p := 59) m_Mo_kernel rfl rfl (by omega) (by omega) (by omega) (by omega) (fun hbr => ?_) (fun hbr => False.elim (by omega))
        refine s_iinc (p := 101) m_Mo_kernel rfl rfl rfl ?_
        refine fi_step (pc' := 38) m_Mo_kernel rfl rfl ?_
        refine fi_step (pc' := 40) m_Mo_kernel rfl rfl ?_
        refine fi_step (pc' := 42) m_Mo_kernel rfl rfl ?_
        refine s_ic_ge (p := 45) m_Mo_kernel rfl rfl (by omega) (by omega) (by omega) (by omega) (fun hbr => ?_) (fun hbr => False.elim (by omega))
        exact K w s r _ _ hw ho hB (fun i' j' p0 p1 q0 q1 => hv i' j' p0 q0 q1 (by omega))
    · refine fi_step (pc' := 50) m_Mo_kernel rfl rfl ?_
      refine fi_step (pc' := 51) m_Mo_kernel rfl rfl ?_
      refine r_get (p := 54) m_Mo_kernel rfl rfl (by assumption) rfl ?_
      refine fi_step (pc' := 55) m_Mo_kernel rfl rfl ?_
      refine r_ldI (p := 56) m_Mo_kernel rfl rfl (by assumption) (by decide) rfl (by decide) (by omega) (by omega) ?_
      refine s_ic_ge (p := 59) m_Mo_kernel rfl rfl (by omega) (by omega) (by omega) (by omega) (fun hbr => False.elim (by omega)) (fun hbr => ?_)
      refine fi_step (pc' := 60) m_Mo_kernel rfl rfl ?_
      refine fi_step (pc' := 61) m_Mo_kernel rfl rfl ?_
      refine fi_step (pc' := 63) m_Mo_kernel rfl rfl ?_
      refine fi_step (pc' := 65) m_Mo_kernel rfl rfl ?_
      refine c_3 (p := 68) m_Mo_kernel rfl inv_v (by decide) m_Mo_result rfl rfl (by omega) (by omega) (Nat.le_of_ble_eq_true rfl) (Nat.le_of_ble_eq_true rfl) (RW_rcv hw _) c_result ?_
      refine s_sipush (p := 71) m_Mo_kernel rfl rfl rfl ?_
      refine s_bipush (p := 73) m_Mo_kernel rfl rfl rfl ?_
      refine fi_step (pc' := 74) m_Mo_kernel rfl rfl ?_
      refine fi_step (pc' := 76) m_Mo_kernel rfl rfl ?_
      refine s_iadd (p := 77) m_Mo_kernel rfl rfl ?_
      refine s_imul (p := 78) m_Mo_kernel rfl rfl ?_
      refine s_iadd (p := 79) m_Mo_kernel rfl rfl ?_
      refine fi_step (pc' := 80) m_Mo_kernel rfl rfl ?_
      refine r_get (p := 83) m_Mo_kernel rfl rfl (by assumption) rfl ?_
      refine fi_step (pc' := 84) m_Mo_kernel rfl rfl ?_
      refine r_ldI (p := 85) m_Mo_kernel rfl rfl (by assumption) (by decide) rfl (by decide) (by omega) (by omega) ?_
      refine s_iadd (p := 86) m_Mo_kernel rfl rfl ?_
      refine fi_step (pc' := 88) m_Mo_kernel rfl rfl ?_
      refine s_iadd (p := 89) m_Mo_kernel rfl rfl ?_
      rw [e5]
      refine g_3 (p := 92) m_Mo_kernel rfl inv_v (by decide) m_Mo_bigCopy rfl rfl (by omega) (by omega) (Nat.le_of_ble_eq_true rfl) (Nat.le_of_ble_eq_true rfl) (RW_rcv hw _) (c_bigCopy hw hB (by omega) (by omega) (by omega) (by omega) (by omega)) (fun v w hP => ?_)
      obtain ⟨rfl, s1, hw, o1, B1⟩ := hP
      refine s_iinc (p := 95) m_Mo_kernel rfl rfl rfl ?_
      refine fi_step (pc' := 48) m_Mo_kernel rfl rfl ?_
      refine ih i (j + 1) w s1 _ (by omega) i0 i1 (by omega) (by omega) hw (oth_trans ho o1) B1 (fun i' j' p0 q0 q1 h => ?_) (fun k hk => by rw [up1_ne _ (by omega)]; exact hr k hk)
      by_cases e : i' = i ∧ j' = j
      · obtain ⟨rfl, rfl⟩ := e; rw [up1_same]; exact hr _ (by omega)
      · rw [up1_ne _ (by omega)]; exact hv i' j' p0 q0 q1 (by omega)
theorem beside_ok {s s' : mo_S} {m : Int} (hM : MI s) (m0 : 0 ≤ m) (m1 : m < 6) (h7 : ∀ i j, 0 ≤ i → i < s 6 m → 0 ≤ j → j < s 5 m + s 6 m → s' 7 (12 * i + j) = if j < s 5 m then s 4 (36 * m + 6 * j + i) else if j - s 5 m = i then 1 else 0) :
    (∀ i j : Int, 0 ≤ i → i < s 6 m → 0 ≤ j → j < s 5 m + s 6 m → s' 7 (12 * i + j) = gB s m (12 * i + j)) ∧ (∀ i j : Int, 0 ≤ i → i < s 6 m → 0 ≤ j → j < s 5 m + s 6 m → ((s' 7 (12 * i + j)).natAbs : Int) ≤ 1000000000000000000) := by
  have hr := hM.1 m m0 m1
  have hc := hM.2.1 m m0 m1
  refine ⟨fun i j i0 i1 j0 j1 => ?_, fun i j i0 i1 j0 j1 => ?_⟩
  · rw [h7 i j i0 i1 j0 j1, gB_at s m j0 (by omega)]
  · rw [h7 i j i0 i1 j0 j1]
    split
    · have := hM.2.2 (36 * m + 6 * j + i) (by omega) (by omega)
      omega
    · split <;> omega
theorem c_kernel {to a : Int} {w : ax_W} {s : mo_S} {r : Int → Int} (hfr : 10 ≤ fr) (hlo : 320 ≤ lo) (hw : RW w0 w s) (hM : MI s) (hB : Bg s r) (t0 : -2147483648 ≤ to) (t1 : to < 2147483648) (a0 : -2147483648 ≤ a) (a1 : a < 2147483648) :
    fin xs fr lo 168 0 (ax_ent [.ref 425, .int (jI to), .int (jI a)] 7) [] w (Ret fun u w' =>
      (¬ ((0 ≤ to ∧ to < 6) ∧ (0 ≤ a ∧ a < 6)) ∧ RW w0 w' (up s 0 0 1) ∧ u = some (.int (jI 0))) ∨
      (((0 ≤ to ∧ to < 6) ∧ (0 ≤ a ∧ a < 6)) ∧ ∃ (f n : Nat) (lead : Int → Int) (X : Nat → Vec), isForm (s 6 a).toNat (s 5 a + s 6 a) (gB s a) f lead X ∧ isFrom lead f (s 5 a) n ∧ ((n = f ∧ pub s w0 w' 0 none ∧ u = some (.int (jI 0))) ∨ (n < f ∧ madeF s w0 to (f - n : Nat) (s 6 a) (fun i j => X (n + i.toNat) (s 5 a + j)) (f - n : Nat) u w')))) := by
  refine fi_step (pc' := 1) m_Mo_kernel rfl rfl ?_
  refine fi_step (pc' := 2) m_Mo_kernel rfl rfl ?_
  refine fi_step (pc' := 3) m_Mo_kernel rfl rfl ?_
  refine fi_step (pc' := 4) m_Mo_kernel rfl rfl ?_
  refine g_4 (p := 7) m_Mo_kernel rfl inv_v (by decide) m_Mo_areThere rfl rfl (by omega) (by omega) (Nat.le_of_ble_eq_true rfl) (Nat.le_of_ble_eq_true rfl) (RW_rcv hw _) (c_areThere (by omega) (by omega) hw t0 t1 a0 a1 a0 a1) (fun v w hP => ?_)
  obtain ⟨hw, rfl⟩ := hP
  by_cases hh : (0 ≤ to ∧ to < 6) ∧ (0 ≤ a ∧ a < 6)
  · have hh' : (0 ≤ to ∧ to < 6) ∧ (0 ≤ a ∧ a < 6) ∧ (0 ≤ a ∧ a < 6) := ⟨hh.1, hh.2, hh.2⟩
    rw [if_pos hh'] at hw ⊢
    have hm := hh.2
    have K0 := kq_up s
    have M0 := MI_congr hM K0.1
    have hr := hM.1 a hm.1 hm.2
    have hc := hM.2.1 a hm.1 hm.2
    have e5 : up s 0 0 0 5 = s 5 := K0.1.2.1
    have e6 : up s 0 0 0 6 = s 6 := K0.1.2.2
    refine s_if_ne (p := 10) m_Mo_kernel rfl rfl (by omega) (by omega) (fun hbr => ?_) (fun hbr => False.elim (by omega))
    refine fi_step (pc' := 13) m_Mo_kernel rfl rfl ?_
    refine fi_step (pc' := 14) m_Mo_kernel rfl rfl ?_
    refine g_2 (p := 17) m_Mo_kernel rfl inv_v (by decide) m_Mo_lookBeside rfl rfl (by omega) (by omega) (Nat.le_of_ble_eq_true rfl) (Nat.le_of_ble_eq_true rfl) (RW_rcv hw _) (c_lookBeside (by omega) (by omega) hw M0 hm.1 hm.2) (fun v w hP => ?_)
    obtain ⟨rfl, s1, hw, kl, l1, l2, l7⟩ := hP
    rw [K0.1.2.1, K0.1.2.2, K0.1.1] at l7
    rw [e6] at l1
    rw [e5, e6] at l2
    obtain ⟨hgm, hgb⟩ := beside_ok hM hm.1 hm.2 l7
    have B1 : Bg s1 r := Bg_congr (Bg_up0 hB 0) (kl.1 1 (by decide) (by decide)) (kl.1 2 (by decide) (by decide)) (kl.1 3 (by decide) (by decide))
    have K1 := kq_kL K0 kl
    obtain ⟨R, hR⟩ : ∃ R : Nat, s 5 a = R := ⟨(s 5 a).toNat, by omega⟩
    obtain ⟨C, hC⟩ : ∃ C : Nat, s 6 a = C := ⟨(s 6 a).toNat, by omega⟩
    have hRC : ((R + C : Nat) : Int) = s 5 a + s 6 a := by omega
    rw [← hRC, hC] at hgm hgb
    refine fi_step (pc' := 18) m_Mo_kernel rfl rfl ?_
    refine g_1 (p := 21) m_Mo_kernel rfl inv_v (by decide) m_Mo_findForm rfl rfl (by omega) (by omega) (Nat.le_of_ble_eq_true rfl) (Nat.le_of_ble_eq_true rfl) (RW_rcv hw _) (c_findForm (R := C) (C := R + C) (by omega) (by omega) hw B1 (by omega) (by omega) (by omega) (by omega) (by omega) hgb) (fun v w hP => ?_)
    obtain ⟨rfl, s2, r2, f, X, hw, k2, B2, f3, fR, hF, hlr, hv, _, _⟩ := hP
    have K2 := kq_kF K1 k2
    have g5 : s2 5 a = R := by rw [K2.1.2.1]; exact hR
    have g6 : s2 6 a = C := by rw [K2.1.2.2]; exact hC
    have hasc : ∀ i k : Nat, i < k → k < f → s2 9 i < s2 9 k := fun i k hik hk => hl_asc hF.1 (by omega) hik (by omega)
    refine fi_step (pc' := 22) m_Mo_kernel rfl rfl ?_
    refine fi_step (pc' := 23) m_Mo_kernel rfl rfl ?_
    refine g_2 (p := 26) m_Mo_kernel rfl inv_v (by decide) m_Mo_kernelFrom rfl rfl (by omega) (by omega) (Nat.le_of_ble_eq_true rfl) (Nat.le_of_ble_eq_true rfl) (RW_rcv hw _) (c_kernelFrom (f := f) hw f3 (by omega) hm.1 hm.2 (by omega) (by omega) (fun k hk => by have := hlr k hk; omega) hasc) (fun v w hP => ?_)
    obtain ⟨rfl, n, rfl, hfrom⟩ := hP
    have hn := hfrom.1
    rw [g5, ← hR] at hfrom
    have hfm : isForm (s 6 a).toNat (s 5 a + s 6 a) (gB s a) f (s2 9) X := by rw [hC, Int.toNat_natCast, ← hC, ← hRC]; exact isForm_congr hgm hF
    by_cases hnf : n = f
    · subst hnf
      refine fi_step (pc' := 27) m_Mo_kernel rfl rfl ?_
      refine fi_step (pc' := 28) m_Mo_kernel rfl rfl ?_
      refine r_get (p := 31) m_Mo_kernel rfl rfl (by assumption) rfl ?_
      refine fi_step (pc' := 32) m_Mo_kernel rfl rfl ?_
      refine s_isub (p := 33) m_Mo_kernel rfl rfl ?_
      refine fi_step (pc' := 35) m_Mo_kernel rfl rfl ?_
      refine fi_step (pc' := 36) m_Mo_kernel rfl rfl ?_
      refine fi_step (pc' := 38) m_Mo_kernel rfl rfl ?_
      refine fi_step (pc' := 40) m_Mo_kernel rfl rfl ?_
      refine fi_step (pc' := 42) m_Mo_kernel rfl rfl ?_
      refine s_ic_ge (p := 45) m_Mo_kernel rfl rfl (by omega) (by omega) (by omega) (by omega) (fun hbr => ?_) (fun hbr => False.elim (by omega))
      refine fi_step (pc' := 106) m_Mo_kernel rfl rfl ?_
      refine s_if_ne (p := 109) m_Mo_kernel rfl rfl (by omega) (by omega) (fun hbr => False.elim (by omega)) (fun hbr => ?_)
      refine fi_step (pc' := 110) m_Mo_kernel rfl rfl ?_
      refine fi_step (pc' := 136) m_Mo_kernel rfl rfl ?_
      refine p_reti m_Mo_kernel rfl rfl ?_
      exact Or.inr ⟨hh, n, n, s2 9, X, hfm, hfrom, Or.inl ⟨rfl, kq_pub K2 hw B2, rfl⟩⟩
    · refine fi_step (pc' := 27) m_Mo_kernel rfl rfl ?_
      refine fi_step (pc' := 28) m_Mo_kernel rfl rfl ?_
      refine r_get (p := 31) m_Mo_kernel rfl rfl (by assumption) rfl ?_
      refine fi_step (pc' := 32) m_Mo_kernel rfl rfl ?_
      refine s_isub (p := 33) m_Mo_kernel rfl rfl ?_
      refine fi_step (pc' := 35) m_Mo_kernel rfl rfl ?_
      refine fi_step (pc' := 36) m_Mo_kernel rfl rfl ?_
      refine fi_step (pc' := 38) m_Mo_kernel rfl rfl ?_
      refine fi_step (pc' := 40) m_Mo_kernel rfl rfl ?_
      refine fi_step (pc' := 42) m_Mo_kernel rfl rfl ?_
      refine s_ic_ge (p := 45) m_Mo_kernel rfl rfl (by omega) (by omega) (by omega) (by omega) (fun hbr => False.elim (by omega)) (fun hbr => ?_)
      refine fi_step (pc' := 46) m_Mo_kernel rfl rfl ?_
      refine fi_step (pc' := 48) m_Mo_kernel rfl rfl ?_
      rw [f3, show (f : Int) - n = ((f - n : Nat) : Int) by omega]
      refine kern_loop (S := s2) (R0 := r2) (R := R) (C := C) (q := n) (n := f - n) (by omega) (by omega) hm.1 hm.2 g5 g6 (by omega) (by omega) (by omega) (by omega) ?_ 100 0 0 w s2 r2 (by omega) (by omega) (by omega) (by omega) (by omega) hw (oth_refl s2) B2 (fun i' j' _ _ _ h => by omega) (fun _ _ => rfl)
      intro w s3 r3 y5 y6 hw o3 B3 v3
      have m3 := keepM_oth o3
      have G6 : s3 6 a = C := by rw [m3.2.2, g6]
      have K3 := kq_oth K2 o3
      refine fi_step (pc' := 106) m_Mo_kernel rfl rfl ?_
      refine s_if_ne (p := 109) m_Mo_kernel rfl rfl (by omega) (by omega) (fun hbr => ?_) (fun hbr => False.elim (by omega))
      refine fi_step (pc' := 114) m_Mo_kernel rfl rfl ?_
      refine fi_step (pc' := 115) m_Mo_kernel rfl rfl ?_
      refine fi_step (pc' := 117) m_Mo_kernel rfl rfl ?_
      refine fi_step (pc' := 118) m_Mo_kernel rfl rfl ?_
      refine r_get (p := 121) m_Mo_kernel rfl rfl (by assumption) rfl ?_
      refine fi_step (pc' := 122) m_Mo_kernel rfl rfl ?_
      refine r_ldI (p := 123) m_Mo_kernel rfl rfl (by assumption) (by decide) rfl (by decide) (by omega) (by omega) ?_
      rw [G6]
      refine g_4 (p := 126) m_Mo_kernel rfl inv_v (by decide) m_Mo_give rfl rfl (by omega) (by omega) (Nat.le_of_ble_eq_true rfl) (Nat.le_of_ble_eq_true rfl) (RW_rcv hw _) (c_give (by omega) (by omega) hw B3 hh.1.1 hh.1.2 (by omega) (by omega) (by omega) (by omega)) (fun v w hP => ?_)
      obtain ⟨s4, r4, hw, B4, kn, hgv⟩ := hP
      have hvv : ∀ i j : Int, 0 ≤ i → i < ((f - n : Nat) : Int) → 0 ≤ j → j < s 6 a → r3 (6 * i + j) = X (n + i.toNat) (s 5 a + j) := by
        intro i j i0 i1 j0 j1
        rw [v3 i j i0 i1 j0 (by omega), ← hv (n + i.toNat) (s 5 a + j) (by omega) (by omega) (by omega)]
        congr 1
        omega
      rw [← hC] at hgv
      rcases hgv with ⟨ft, rfl, gg⟩ | ⟨ft, rfl, km⟩
      · refine s_if_eq (p := 129) m_Mo_kernel rfl rfl (by omega) (by omega) (fun hbr => False.elim (by omega)) (fun hbr => ?_)
        refine fi_step (pc' := 131) m_Mo_kernel rfl rfl ?_
        refine fi_step (pc' := 136) m_Mo_kernel rfl rfl ?_
        refine p_reti m_Mo_kernel rfl rfl ?_
        exact Or.inr ⟨hh, f, n, s2 9, X, hfm, hfrom, Or.inr ⟨by omega, made_give K3 hw B4 kn hvv (Or.inl ⟨ft, rfl, gg⟩)⟩⟩
      · refine s_if_eq (p := 129) m_Mo_kernel rfl rfl (by omega) (by omega) (fun hbr => ?_) (fun hbr => False.elim (by omega))
        refine s_bipush (p := 136) m_Mo_kernel rfl rfl rfl ?_
        refine p_reti m_Mo_kernel rfl rfl ?_
        exact Or.inr ⟨hh, f, n, s2 9, X, hfm, hfrom, Or.inr ⟨by omega, made_give K3 hw B4 kn hvv (Or.inr ⟨ft, rfl, km⟩)⟩⟩
  · have hh' : ¬ ((0 ≤ to ∧ to < 6) ∧ (0 ≤ a ∧ a < 6) ∧ (0 ≤ a ∧ a < 6)) := fun h => hh ⟨h.1, h.2.1⟩
    rw [if_neg hh'] at hw ⊢
    refine s_if_ne (p := 10) m_Mo_kernel rfl rfl (by omega) (by omega) (fun hbr => False.elim (by omega)) (fun hbr => ?_)
    refine fi_step (pc' := 11) m_Mo_kernel rfl rfl ?_
    refine p_reti m_Mo_kernel rfl rfl ?_
    exact Or.inl ⟨hh, hw, rfl⟩
end KERN
