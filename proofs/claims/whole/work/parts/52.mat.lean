/-! THE REFERENCE: products, turned matrices, equality, what is looked at -/
/-- a sum of so many products -/
def sumP (f : Int → Int) : Nat → Int
  | 0 => 0
  | n + 1 => sumP f n + f n
theorem sumP_congr {f g : Int → Int} : ∀ {n : Nat}, (∀ k : Nat, k < n → f k = g k) → sumP f n = sumP g n
  | 0, _ => rfl
  | n + 1, h => by rw [sumP, sumP, sumP_congr (fun k hk => h k (by omega)), h n (by omega)]
theorem sumP_bound {f : Int → Int} {b : Int} : ∀ {n : Nat}, (∀ k : Nat, k < n → ((f k).natAbs : Int) ≤ b) → ((sumP f n).natAbs : Int) ≤ n * b
  | 0, _ => by simp [sumP]
  | n + 1, h => by
    have h1 := sumP_bound (n := n) (fun k hk => h k (by omega))
    have h2 := h n (by omega)
    rw [sumP, show (((n + 1 : Nat)) : Int) * b = n * b + b by rw [Int.natCast_add, Int.add_mul]; simp]
    omega
section MAT4
variable {xs : List Int32} {fr lo : Nat} {w0 : ax_W} {Q : Outcome → ax_W → Prop}
theorem mul_in {to a b i j : Int} {S : mo_S} {n : Nat} (hfr : 4 ≤ fr) (hlo : 150 ≤ lo) (hM : MI S) (a0 : 0 ≤ a) (a1 : a < 6) (b0 : 0 ≤ b) (b1 : b < 6) (i0 : 0 ≤ i) (i1 : i < 6) (j0 : 0 ≤ j) (j1 : j < 6) (hn : S 6 a = n) {R : Int → Int}
    (K : ∀ w s r, RW w0 w s → oth S s → Bg s r → r (6 * i + j) = sumP (fun k => S 4 (36 * a + 6 * i + k) * S 4 (36 * b + 6 * k + j)) n → (∀ k, k < 268 → k ≠ 6 * i + j → r k = R k) → fin xs fr lo 141 121 [some (.ref 425), some (.int (jI to)), some (.int (jI a)), some (.int (jI b)), some (.int (jI i)), some (.int (jI j)), some (.int (jI n))] [] w Q) :
    ∀ (c k : Nat) (w : ax_W) (s : mo_S) (r : Int → Int), k + c = n → RW w0 w s → oth S s → Bg s r → r (6 * i + j) = sumP (fun k => S 4 (36 * a + 6 * i + k) * S 4 (36 * b + 6 * k + j)) k → (∀ k, k < 268 → k ≠ 6 * i + j → r k = R k) →
    fin xs fr lo 141 74 [some (.ref 425), some (.int (jI to)), some (.int (jI a)), some (.int (jI b)), some (.int (jI i)), some (.int (jI j)), some (.int (jI k))] [] w Q := by
  have hC := hM.2.1 a a0 a1
  intro c
  induction c with
  | zero =>
    intro k w s r hk hw ho hB hv hR
    have : k = n := by omega
    subst this
    have e6 : s 6 a = k := by rw [(keepM_oth ho).2.2]; exact hn
    refine fi_step (pc' := 76) m_Mo_multiply rfl rfl ?_
    refine fi_step (pc' := 77) m_Mo_multiply rfl rfl ?_
    refine r_get (p := 80) m_Mo_multiply rfl rfl (by assumption) rfl ?_
    refine fi_step (pc' := 81) m_Mo_multiply rfl rfl ?_
    refine r_ldI (p := 82) m_Mo_multiply rfl rfl (by assumption) (by decide) rfl (by decide) (by omega) (by omega) ?_
    refine s_ic_ge (p := 85) m_Mo_multiply rfl rfl (by omega) (by omega) (by omega) (by omega) (fun hbr => ?_) (fun hbr => False.elim (by omega))
    exact K w s r hw ho hB hv hR
  | succ c ih =>
    intro k w s r hk hw ho hB hv hR
    have m := keepM_oth ho
    have e6 : s 6 a = n := by rw [m.2.2]; exact hn
    have na := hM.2.2 (36 * a + 6 * i + k) (by omega) (by omega)
    have nb := hM.2.2 (36 * b + 6 * k + j) (by omega) (by omega)
    have hb : ((r (6 * i + j)).natAbs : Int) < 16777216 ^ 6 := by
      rw [hv]
      have := sumP_bound (f := fun k => S 4 (36 * a + 6 * i + k) * S 4 (36 * b + 6 * k + j)) (b := 1000000000000000000 * 1000000000000000000) (n := k) (fun q hq => by
        have qa := hM.2.2 (36 * a + 6 * i + q) (by omega) (by omega)
        have qb := hM.2.2 (36 * b + 6 * q + j) (by omega) (by omega)
        show (((S 4 (36 * a + 6 * i + q) * S 4 (36 * b + 6 * q + j)).natAbs : Nat) : Int) ≤ _
        rw [Int.natAbs_mul]
        have : ((S 4 (36 * a + 6 * i + q)).natAbs : Int) * ((S 4 (36 * b + 6 * q + j)).natAbs : Int) ≤ 1000000000000000000 * 1000000000000000000 := Int.mul_le_mul (by omega) (by omega) (by omega) (by decide)
        simpa using this)
      omega
    refine fi_step (pc' := 76) m_Mo_multiply rfl rfl ?_
    refine fi_step (pc' := 77) m_Mo_multiply rfl rfl ?_
    refine r_get (p := 80) m_Mo_multiply rfl rfl (by assumption) rfl ?_
    refine fi_step (pc' := 81) m_Mo_multiply rfl rfl ?_
    refine r_ldI (p := 82) m_Mo_multiply rfl rfl (by assumption) (by decide) rfl (by decide) (by omega) (by omega) ?_
    refine s_ic_ge (p := 85) m_Mo_multiply rfl rfl (by omega) (by omega) (by omega) (by omega) (fun hbr => False.elim (by omega)) (fun hbr => ?_)
    refine fi_step (pc' := 86) m_Mo_multiply rfl rfl ?_
    refine fi_step (pc' := 87) m_Mo_multiply rfl rfl ?_
    refine fi_step (pc' := 89) m_Mo_multiply rfl rfl ?_
    refine fi_step (pc' := 91) m_Mo_multiply rfl rfl ?_
    refine c_3 (p := 94) m_Mo_multiply rfl inv_v (by decide) m_Mo_result rfl rfl (by omega) (by omega) (Nat.le_of_ble_eq_true rfl) (Nat.le_of_ble_eq_true rfl) (RW_rcv hw _) c_result ?_
    refine fi_step (pc' := 95) m_Mo_multiply rfl rfl ?_
    refine fi_step (pc' := 96) m_Mo_multiply rfl rfl ?_
    refine fi_step (pc' := 98) m_Mo_multiply rfl rfl ?_
    refine fi_step (pc' := 100) m_Mo_multiply rfl rfl ?_
    refine c_4 (p := 103) m_Mo_multiply rfl inv_v (by decide) m_Mo_number rfl rfl (by omega) (by omega) (Nat.le_of_ble_eq_true rfl) (Nat.le_of_ble_eq_true rfl) (RW_rcv hw _) (c_number hw a0 a1 (by omega) (by omega) (by omega) (by omega)) ?_
    refine fi_step (pc' := 104) m_Mo_multiply rfl rfl ?_
    refine fi_step (pc' := 105) m_Mo_multiply rfl rfl ?_
    refine fi_step (pc' := 107) m_Mo_multiply rfl rfl ?_
    refine fi_step (pc' := 109) m_Mo_multiply rfl rfl ?_
    refine c_4 (p := 112) m_Mo_multiply rfl inv_v (by decide) m_Mo_number rfl rfl (by omega) (by omega) (Nat.le_of_ble_eq_true rfl) (Nat.le_of_ble_eq_true rfl) (RW_rcv hw _) (c_number hw b0 b1 (by omega) (by omega) (by omega) (by omega)) ?_
    rw [m.1]
    refine g_4 (p := 115) m_Mo_multiply rfl inv_v (by decide) m_Mo_addTimes rfl rfl (by omega) (by omega) (Nat.le_of_ble_eq_true rfl) (Nat.le_of_ble_eq_true rfl) (RW_rcv hw _) (c_addTimes (by omega) (by omega) hw hB (by omega) (by omega) (by omega) (by omega) (by omega) (by omega) hb) (fun v w hP => ?_)
    obtain ⟨rfl, s2, r2, hw, o2, B2, v2, k2⟩ := hP
    refine s_iinc (p := 118) m_Mo_multiply rfl rfl rfl ?_
    refine fi_step (pc' := 74) m_Mo_multiply rfl rfl ?_
    refine ih (k + 1) w s2 r2 (by omega) hw (oth_trans ho o2) B2 (by rw [v2, hv]; rfl) (fun q h1 h2 => by rw [k2 q h1 h2]; exact hR q h1 h2)
theorem mul_loop {to a b : Int} {S : mo_S} (hfr : 4 ≤ fr) (hlo : 150 ≤ lo) (hM : MI S) (a0 : 0 ≤ a) (a1 : a < 6) (b0 : 0 ≤ b) (b1 : b < 6)
    (K : ∀ w s r y z, RW w0 w s → oth S s → Bg s r → (∀ i j, 0 ≤ i → i < S 5 a → 0 ≤ j → j < S 6 b → r (6 * i + j) = sumP (fun k => S 4 (36 * a + 6 * i + k) * S 4 (36 * b + 6 * k + j)) (S 6 a).toNat) → fin xs fr lo 141 133 [some (.ref 425), some (.int (jI to)), some (.int (jI a)), some (.int (jI b)), some (.int (jI (S 5 a))), y, z] [] w Q) :
    ∀ (f : Nat) (i j : Int) (z : Option Value) (w : ax_W) (s : mo_S) (r : Int → Int), (S 5 a - i) * 7 + (S 6 b - j) ≤ f → 0 ≤ i → i < S 5 a → 0 ≤ j → j ≤ S 6 b → RW w0 w s → oth S s → Bg s r → (∀ i' j', 0 ≤ i' → 0 ≤ j' → j' < S 6 b → (i' < i ∨ (i' = i ∧ j' < j)) → r (6 * i' + j') = sumP (fun k => S 4 (36 * a + 6 * i' + k) * S 4 (36 * b + 6 * k + j')) (S 6 a).toNat) →
    fin xs fr lo 141 47 [some (.ref 425), some (.int (jI to)), some (.int (jI a)), some (.int (jI b)), some (.int (jI i)), some (.int (jI j)), z] [] w Q := by
  have hR := hM.1 a a0 a1
  have hCa := hM.2.1 a a0 a1
  have hC := hM.2.1 b b0 b1
  intro f
  induction f with
  | zero => intro i j z w s r hf i0 i1 j0 j1; omega
  | succ f ih =>
    intro i j z w s r hf i0 i1 j0 j1 hw ho hB hok
    have m := keepM_oth ho
    have e5 : s 5 a = S 5 a := by rw [m.2.1]
    have e6 : s 6 b = S 6 b := by rw [m.2.2]
    refine fi_step (pc' := 49) m_Mo_multiply rfl rfl ?_
    refine fi_step (pc' := 50) m_Mo_multiply rfl rfl ?_
    refine r_get (p := 53) m_Mo_multiply rfl rfl (by assumption) rfl ?_
    refine fi_step (pc' := 54) m_Mo_multiply rfl rfl ?_
    refine r_ldI (p := 55) m_Mo_multiply rfl rfl (by assumption) (by decide) rfl (by decide) (by omega) (by omega) ?_
    refine s_ic_ge (p := 58) m_Mo_multiply rfl rfl (by omega) (by omega) (by omega) (by omega) (fun h => ?_) (fun h => ?_)
    · have ej : j = S 6 b := by omega
      refine s_iinc (p := 130) m_Mo_multiply rfl rfl rfl ?_
      refine fi_step (pc' := 33) m_Mo_multiply rfl rfl ?_
      refine fi_step (pc' := 35) m_Mo_multiply rfl rfl ?_
      refine fi_step (pc' := 36) m_Mo_multiply rfl rfl ?_
      refine r_get (p := 39) m_Mo_multiply rfl rfl (by assumption) rfl ?_
      refine fi_step (pc' := 40) m_Mo_multiply rfl rfl ?_
      refine r_ldI (p := 41) m_Mo_multiply rfl rfl (by assumption) (by decide) rfl (by decide) (by omega) (by omega) ?_
      refine s_ic_ge (p := 44) m_Mo_multiply rfl rfl (by omega) (by omega) (by omega) (by omega) (fun g => ?_) (fun g => ?_)
      · have ei : i + 1 = S 5 a := by omega
        rw [ei]
        exact K w s r _ _ hw ho hB (fun i' j' a0 a1 b0 b1 => hok i' j' a0 b0 b1 (by omega))
      · refine fi_step (pc' := 45) m_Mo_multiply rfl rfl ?_
        refine fi_step (pc' := 47) m_Mo_multiply rfl rfl ?_
        exact ih (i + 1) 0 _ w s r (by omega) (by omega) (by omega) (by omega) (by omega) hw ho hB (fun i' j' a0 b0 b1 hh => hok i' j' a0 b0 b1 (by omega))
    · refine fi_step (pc' := 59) m_Mo_multiply rfl rfl ?_
      refine fi_step (pc' := 60) m_Mo_multiply rfl rfl ?_
      refine fi_step (pc' := 62) m_Mo_multiply rfl rfl ?_
      refine fi_step (pc' := 64) m_Mo_multiply rfl rfl ?_
      refine c_3 (p := 67) m_Mo_multiply rfl inv_v (by decide) m_Mo_result rfl rfl (by omega) (by omega) (Nat.le_of_ble_eq_true rfl) (Nat.le_of_ble_eq_true rfl) (RW_rcv hw _) c_result ?_
      refine s_lconst (p := 68) (v := 0) m_Mo_multiply rfl rfl rfl ?_
      refine g_3 (p := 71) m_Mo_multiply rfl inv_v (by decide) m_Mo_bigSet rfl rfl (by omega) (by omega) (Nat.le_of_ble_eq_true rfl) (Nat.le_of_ble_eq_true rfl) (RW_rcv hw _) (c_bigSet hw hB (by omega) (by omega) (by decide) (by decide)) (fun v w hP => ?_)
      obtain ⟨rfl, s1, hw, o1, B1⟩ := hP
      refine fi_step (pc' := 72) m_Mo_multiply rfl rfl ?_
      refine fi_step (pc' := 74) m_Mo_multiply rfl rfl ?_
      refine mul_in (S := S) (n := (S 6 a).toNat) (R := r) hfr hlo hM a0 a1 b0 b1 i0 (by omega) j0 (by omega) (by omega) ?_ (S 6 a).toNat 0 w s1 _ (by omega) hw (oth_trans ho o1) B1 (by rw [up1_same]; rfl) (fun q h1 h2 => up1_ne _ h2 _)
      intro w2 s2 r2 hw o2 B2 v2 k2
      refine s_iinc (p := 124) m_Mo_multiply rfl rfl rfl ?_
      refine fi_step (pc' := 47) m_Mo_multiply rfl rfl ?_
      refine ih i (j + 1) _ w2 s2 r2 (by omega) i0 i1 (by omega) (by omega) hw o2 B2 (fun i' j' a0' b0' b1' hh => ?_)
      by_cases e : i' = i ∧ j' = j
      · rw [e.1, e.2]; exact v2
      · rw [k2 _ (by omega) (by omega)]; exact hok i' j' a0' b0' b1' (by omega)
theorem c_multiply {to a b : Int} {w : ax_W} {s : mo_S} {r : Int → Int} (hfr : 5 ≤ fr) (hlo : 180 ≤ lo) (hw : RW w0 w s) (hM : MI s) (hB : Bg s r) (t0 : -2147483648 ≤ to) (t1 : to < 2147483648) (a0 : -2147483648 ≤ a) (a1 : a < 2147483648) (b0 : -2147483648 ≤ b) (b1 : b < 2147483648) :
    fin xs fr lo 141 0 (ax_ent [.ref 425, .int (jI to), .int (jI a), .int (jI b)] 7) [] w (Ret fun u w' =>
      (¬ ((0 ≤ to ∧ to < 6) ∧ (0 ≤ a ∧ a < 6) ∧ (0 ≤ b ∧ b < 6)) ∧ RW w0 w' (up s 0 0 1) ∧ u = some (.int (jI 0))) ∨
      (((0 ≤ to ∧ to < 6) ∧ (0 ≤ a ∧ a < 6) ∧ (0 ≤ b ∧ b < 6)) ∧ ¬ s 6 a = s 5 b ∧ RW w0 w' (up s 0 0 0) ∧ u = some (.int (jI (-2)))) ∨
      (((0 ≤ to ∧ to < 6) ∧ (0 ≤ a ∧ a < 6) ∧ (0 ≤ b ∧ b < 6)) ∧ s 6 a = s 5 b ∧ made s w0 to (s 5 a) (s 6 b) (fun i j => sumP (fun k => s 4 (36 * a + 6 * i + k) * s 4 (36 * b + 6 * k + j)) (s 6 a).toNat) 0 u w')) := by
  refine fi_step (pc' := 1) m_Mo_multiply rfl rfl ?_
  refine fi_step (pc' := 2) m_Mo_multiply rfl rfl ?_
  refine fi_step (pc' := 3) m_Mo_multiply rfl rfl ?_
  refine fi_step (pc' := 4) m_Mo_multiply rfl rfl ?_
  refine g_4 (p := 7) m_Mo_multiply rfl inv_v (by decide) m_Mo_areThere rfl rfl (by omega) (by omega) (Nat.le_of_ble_eq_true rfl) (Nat.le_of_ble_eq_true rfl) (RW_rcv hw _) (c_areThere (by omega) (by omega) hw t0 t1 a0 a1 b0 b1) (fun v w hP => ?_)
  obtain ⟨hw, rfl⟩ := hP
  by_cases hh : (0 ≤ to ∧ to < 6) ∧ (0 ≤ a ∧ a < 6) ∧ (0 ≤ b ∧ b < 6)
  · rw [if_pos hh] at hw
    have hra := hM.1 a hh.2.1.1 hh.2.1.2
    have hca := hM.2.1 a hh.2.1.1 hh.2.1.2
    have hrb := hM.1 b hh.2.2.1 hh.2.2.2
    have hcb := hM.2.1 b hh.2.2.1 hh.2.2.2
    have e4 : up s 0 0 0 4 = s 4 := up_ne _ (by decide) _ _
    have e5 : up s 0 0 0 5 = s 5 := up_ne _ (by decide) _ _
    have e6 : up s 0 0 0 6 = s 6 := up_ne _ (by decide) _ _
    have F1 : up s 0 0 0 5 a = s 5 a := by rw [e5]
    have F2 : up s 0 0 0 5 b = s 5 b := by rw [e5]
    have F3 : up s 0 0 0 6 a = s 6 a := by rw [e6]
    have F4 : up s 0 0 0 6 b = s 6 b := by rw [e6]
    have hB0 : Bg (up s 0 0 0) r := Bg_congr hB (up_ne _ (by decide) _ _) (up_ne _ (by decide) _ _) (up_ne _ (by decide) _ _)
    have hM0 : MI (up s 0 0 0) := MI_congr hM ⟨e4, e5, e6⟩
    rw [if_pos hh]
    refine s_if_ne (p := 10) m_Mo_multiply rfl rfl (by omega) (by omega) (fun hbr => ?_) (fun hbr => False.elim (by omega))
    refine fi_step (pc' := 13) m_Mo_multiply rfl rfl ?_
    refine r_get (p := 16) m_Mo_multiply rfl rfl (by assumption) rfl ?_
    refine fi_step (pc' := 17) m_Mo_multiply rfl rfl ?_
    refine r_ldI (p := 18) m_Mo_multiply rfl rfl (by assumption) (by decide) rfl (by decide) (by omega) (by omega) ?_
    refine fi_step (pc' := 19) m_Mo_multiply rfl rfl ?_
    refine r_get (p := 22) m_Mo_multiply rfl rfl (by assumption) rfl ?_
    refine fi_step (pc' := 23) m_Mo_multiply rfl rfl ?_
    refine r_ldI (p := 24) m_Mo_multiply rfl rfl (by assumption) (by decide) rfl (by decide) (by omega) (by omega) ?_
    refine s_ic_eq (p := 27) m_Mo_multiply rfl rfl (by omega) (by omega) (by omega) (by omega) (fun h1 => ?_) (fun h1 => ?_)
    · refine fi_step (pc' := 31) m_Mo_multiply rfl rfl ?_
      refine fi_step (pc' := 33) m_Mo_multiply rfl rfl ?_
      refine fi_step (pc' := 35) m_Mo_multiply rfl rfl ?_
      refine fi_step (pc' := 36) m_Mo_multiply rfl rfl ?_
      refine r_get (p := 39) m_Mo_multiply rfl rfl (by assumption) rfl ?_
      refine fi_step (pc' := 40) m_Mo_multiply rfl rfl ?_
      refine r_ldI (p := 41) m_Mo_multiply rfl rfl (by assumption) (by decide) rfl (by decide) (by omega) (by omega) ?_
      refine s_ic_ge (p := 44) m_Mo_multiply rfl rfl (by omega) (by omega) (by omega) (by omega) (fun hbr => False.elim (by omega)) (fun hbr => ?_)
      refine fi_step (pc' := 45) m_Mo_multiply rfl rfl ?_
      refine fi_step (pc' := 47) m_Mo_multiply rfl rfl ?_
      refine mul_loop (S := up s 0 0 0) (by omega) (by omega) hM0 hh.2.1.1 hh.2.1.2 hh.2.2.1 hh.2.2.2 ?_ 100 0 0 _ w _ r (by omega) (by omega) (by omega) (by omega) (by omega) hw (oth_refl _) hB0 (fun i' j' _ _ _ hh => by omega)
      intro w1 s1 r1 y z hw o1 B1 hv
      have m1 := keepM_oth o1
      have G5 : s1 5 a = s 5 a := by rw [m1.2.1, e5]
      have G6 : s1 6 b = s 6 b := by rw [m1.2.2, e6]
      refine fi_step (pc' := 134) m_Mo_multiply rfl rfl ?_
      refine fi_step (pc' := 135) m_Mo_multiply rfl rfl ?_
      refine fi_step (pc' := 136) m_Mo_multiply rfl rfl ?_
      refine r_get (p := 139) m_Mo_multiply rfl rfl (by assumption) rfl ?_
      refine fi_step (pc' := 140) m_Mo_multiply rfl rfl ?_
      refine r_ldI (p := 141) m_Mo_multiply rfl rfl (by assumption) (by decide) rfl (by decide) (by omega) (by omega) ?_
      refine fi_step (pc' := 142) m_Mo_multiply rfl rfl ?_
      refine r_get (p := 145) m_Mo_multiply rfl rfl (by assumption) rfl ?_
      refine fi_step (pc' := 146) m_Mo_multiply rfl rfl ?_
      refine r_ldI (p := 147) m_Mo_multiply rfl rfl (by assumption) (by decide) rfl (by decide) (by omega) (by omega) ?_
      rw [G5, G6]
      refine g_4 (p := 150) m_Mo_multiply rfl inv_v (by decide) m_Mo_give rfl rfl (by omega) (by omega) (Nat.le_of_ble_eq_true rfl) (Nat.le_of_ble_eq_true rfl) (RW_rcv hw _) (c_give (by omega) (by omega) hw B1 hh.1.1 hh.1.2 (by omega) (by omega) (by omega) (by omega)) (fun v w hP => ?_)
      obtain ⟨s2, r2, hw, B2, kn, hc⟩ := hP
      rw [e4, F1, F4, F3] at hv
      have kk : keepN (up s 0 0 0) s2 := keepN_trans (keepN_oth o1) kn
      rcases hc with ⟨f, rfl, g5, g6, g4⟩ | ⟨f, rfl, km⟩
      · refine s_if_eq (p := 153) m_Mo_multiply rfl rfl (by omega) (by omega) (fun hbr => False.elim (by omega)) (fun hbr => ?_)
        refine fi_step (pc' := 154) m_Mo_multiply rfl rfl ?_
        refine fi_step (pc' := 159) m_Mo_multiply rfl rfl ?_
        refine p_reti m_Mo_multiply rfl rfl ?_
        refine Or.inr (Or.inr ⟨hh, by omega, s2, r2, hw, B2, kk, Or.inl ⟨(fits_congr hv).mp f, rfl, ?_⟩⟩)
        refine ⟨by rw [g5, m1.2.1, e5], by rw [g6, m1.2.2, e6], by rw [g4, m1.1, e4]; exact newN_congr hv⟩
      · refine s_if_eq (p := 153) m_Mo_multiply rfl rfl (by omega) (by omega) (fun hbr => ?_) (fun hbr => False.elim (by omega))
        refine s_bipush (p := 159) m_Mo_multiply rfl rfl rfl ?_
        refine p_reti m_Mo_multiply rfl rfl ?_
        exact Or.inr (Or.inr ⟨hh, by omega, s2, r2, hw, B2, kk, Or.inr ⟨fun q => f ((fits_congr hv).mpr q), rfl, keepM_trans ⟨e4, e5, e6⟩ (keepM_trans m1 km)⟩⟩)
    · refine s_bipush (p := 29) m_Mo_multiply rfl rfl rfl ?_
      refine p_reti m_Mo_multiply rfl rfl ?_
      exact Or.inr (Or.inl ⟨hh, by omega, hw, rfl⟩)
  · rw [if_neg hh] at hw
    rw [if_neg hh]
    refine s_if_ne (p := 10) m_Mo_multiply rfl rfl (by omega) (by omega) (fun hbr => False.elim (by omega)) (fun hbr => ?_)
    refine fi_step (pc' := 11) m_Mo_multiply rfl rfl ?_
    refine p_reti m_Mo_multiply rfl rfl ?_
    exact Or.inl ⟨hh, hw, rfl⟩
theorem turn_loop {to a : Int} {S : mo_S} (hfr : 4 ≤ fr) (hlo : 150 ≤ lo) (hM : MI S) (a0 : 0 ≤ a) (a1 : a < 6)
    (K : ∀ w s r y, RW w0 w s → oth S s → Bg s r → (∀ i j, 0 ≤ i → i < S 5 a → 0 ≤ j → j < S 6 a → r (6 * j + i) = S 4 (36 * a + 6 * i + j)) → fin xs fr lo 142 67 [some (.ref 425), some (.int (jI to)), some (.int (jI a)), some (.int (jI (S 5 a))), y] [] w Q) :
    ∀ (f : Nat) (i j : Int) (w : ax_W) (s : mo_S) (r : Int → Int), (S 5 a - i) * 7 + (S 6 a - j) ≤ f → 0 ≤ i → i < S 5 a → 0 ≤ j → j ≤ S 6 a → RW w0 w s → oth S s → Bg s r → (∀ i' j', 0 ≤ i' → 0 ≤ j' → j' < S 6 a → (i' < i ∨ (i' = i ∧ j' < j)) → r (6 * j' + i') = S 4 (36 * a + 6 * i' + j')) →
    fin xs fr lo 142 25 [some (.ref 425), some (.int (jI to)), some (.int (jI a)), some (.int (jI i)), some (.int (jI j))] [] w Q := by
  have hR := hM.1 a a0 a1
  have hC := hM.2.1 a a0 a1
  intro f
  induction f with
  | zero => intro i j w s r hf i0 i1 j0 j1; omega
  | succ f ih =>
    intro i j w s r hf i0 i1 j0 j1 hw ho hB hok
    have m := keepM_oth ho
    have e5 : s 5 a = S 5 a := by rw [m.2.1]
    have e6 : s 6 a = S 6 a := by rw [m.2.2]
    refine fi_step (pc' := 27) m_Mo_turn rfl rfl ?_
    refine fi_step (pc' := 28) m_Mo_turn rfl rfl ?_
    refine r_get (p := 31) m_Mo_turn rfl rfl (by assumption) rfl ?_
    refine fi_step (pc' := 32) m_Mo_turn rfl rfl ?_
    refine r_ldI (p := 33) m_Mo_turn rfl rfl (by assumption) (by decide) rfl (by decide) (by omega) (by omega) ?_
    refine s_ic_ge (p := 36) m_Mo_turn rfl rfl (by omega) (by omega) (by omega) (by omega) (fun h => ?_) (fun h => ?_)
    · have ej : j = S 6 a := by omega
      refine s_iinc (p := 64) m_Mo_turn rfl rfl rfl ?_
      refine fi_step (pc' := 12) m_Mo_turn rfl rfl ?_
      refine fi_step (pc' := 13) m_Mo_turn rfl rfl ?_
      refine fi_step (pc' := 14) m_Mo_turn rfl rfl ?_
      refine r_get (p := 17) m_Mo_turn rfl rfl (by assumption) rfl ?_
      refine fi_step (pc' := 18) m_Mo_turn rfl rfl ?_
      refine r_ldI (p := 19) m_Mo_turn rfl rfl (by assumption) (by decide) rfl (by decide) (by omega) (by omega) ?_
      refine s_ic_ge (p := 22) m_Mo_turn rfl rfl (by omega) (by omega) (by omega) (by omega) (fun g => ?_) (fun g => ?_)
      · have ei : i + 1 = S 5 a := by omega
        rw [ei]
        exact K w s r _ hw ho hB (fun i' j' a0 a1 b0 b1 => hok i' j' a0 b0 b1 (by omega))
      · refine fi_step (pc' := 23) m_Mo_turn rfl rfl ?_
        refine fi_step (pc' := 25) m_Mo_turn rfl rfl ?_
        exact ih (i + 1) 0 w s r (by omega) (by omega) (by omega) (by omega) (by omega) hw ho hB (fun i' j' a0 b0 b1 hh => hok i' j' a0 b0 b1 (by omega))
    · have na := hM.2.2 (36 * a + 6 * i + j) (by omega) (by omega)
      refine fi_step (pc' := 37) m_Mo_turn rfl rfl ?_
      refine fi_step (pc' := 38) m_Mo_turn rfl rfl ?_
      refine fi_step (pc' := 40) m_Mo_turn rfl rfl ?_
      refine fi_step (pc' := 41) m_Mo_turn rfl rfl ?_
      refine c_3 (p := 44) m_Mo_turn rfl inv_v (by decide) m_Mo_result rfl rfl (by omega) (by omega) (Nat.le_of_ble_eq_true rfl) (Nat.le_of_ble_eq_true rfl) (RW_rcv hw _) c_result ?_
      refine fi_step (pc' := 45) m_Mo_turn rfl rfl ?_
      refine fi_step (pc' := 46) m_Mo_turn rfl rfl ?_
      refine fi_step (pc' := 47) m_Mo_turn rfl rfl ?_
      refine fi_step (pc' := 49) m_Mo_turn rfl rfl ?_
      refine c_4 (p := 52) m_Mo_turn rfl inv_v (by decide) m_Mo_number rfl rfl (by omega) (by omega) (Nat.le_of_ble_eq_true rfl) (Nat.le_of_ble_eq_true rfl) (RW_rcv hw _) (c_number hw a0 a1 (by omega) (by omega) (by omega) (by omega)) ?_
      rw [m.1]
      refine g_3 (p := 55) m_Mo_turn rfl inv_v (by decide) m_Mo_bigSet rfl rfl (by omega) (by omega) (Nat.le_of_ble_eq_true rfl) (Nat.le_of_ble_eq_true rfl) (RW_rcv hw _) (c_bigSet hw hB (by omega) (by omega) (by omega) (by omega)) (fun v w hP => ?_)
      obtain ⟨rfl, s1, hw, o1, B1⟩ := hP
      refine s_iinc (p := 58) m_Mo_turn rfl rfl rfl ?_
      refine fi_step (pc' := 25) m_Mo_turn rfl rfl ?_
      refine ih i (j + 1) w s1 _ (by omega) i0 i1 (by omega) (by omega) hw (oth_trans ho o1) B1 (fun i' j' a0' b0' b1' hh => ?_)
      by_cases e : i' = i ∧ j' = j
      · rw [e.1, e.2, up1_same]
      · rw [up1_ne _ (by omega)]; exact hok i' j' a0' b0' b1' (by omega)
theorem c_turn {to a : Int} {w : ax_W} {s : mo_S} {r : Int → Int} (hfr : 5 ≤ fr) (hlo : 180 ≤ lo) (hw : RW w0 w s) (hM : MI s) (hB : Bg s r) (t0 : -2147483648 ≤ to) (t1 : to < 2147483648) (a0 : -2147483648 ≤ a) (a1 : a < 2147483648) :
    fin xs fr lo 142 0 (ax_ent [.ref 425, .int (jI to), .int (jI a)] 5) [] w (Ret fun u w' => u = none ∧
      ((¬ ((0 ≤ to ∧ to < 6) ∧ (0 ≤ a ∧ a < 6)) ∧ RW w0 w' (up s 0 0 1)) ∨
      (((0 ≤ to ∧ to < 6) ∧ (0 ≤ a ∧ a < 6)) ∧ ∃ s' r', RW w0 w' s' ∧ Bg s' r' ∧ keepN (up s 0 0 0) s' ∧ given s s' to (s 6 a) (s 5 a) (fun i j => s 4 (36 * a + 6 * j + i))))) := by
  refine fi_step (pc' := 1) m_Mo_turn rfl rfl ?_
  refine fi_step (pc' := 2) m_Mo_turn rfl rfl ?_
  refine fi_step (pc' := 3) m_Mo_turn rfl rfl ?_
  refine fi_step (pc' := 4) m_Mo_turn rfl rfl ?_
  refine g_4 (p := 7) m_Mo_turn rfl inv_v (by decide) m_Mo_areThere rfl rfl (by omega) (by omega) (Nat.le_of_ble_eq_true rfl) (Nat.le_of_ble_eq_true rfl) (RW_rcv hw _) (c_areThere (by omega) (by omega) hw t0 t1 a0 a1 a0 a1) (fun v w hP => ?_)
  obtain ⟨hw, rfl⟩ := hP
  by_cases hh : (0 ≤ to ∧ to < 6) ∧ (0 ≤ a ∧ a < 6)
  · rw [if_pos ⟨hh.1, hh.2, hh.2⟩] at hw
    have hra := hM.1 a hh.2.1 hh.2.2
    have hca := hM.2.1 a hh.2.1 hh.2.2
    have e4 : up s 0 0 0 4 = s 4 := up_ne _ (by decide) _ _
    have e5 : up s 0 0 0 5 = s 5 := up_ne _ (by decide) _ _
    have e6 : up s 0 0 0 6 = s 6 := up_ne _ (by decide) _ _
    have F1 : up s 0 0 0 5 a = s 5 a := by rw [e5]
    have F3 : up s 0 0 0 6 a = s 6 a := by rw [e6]
    have hB0 : Bg (up s 0 0 0) r := Bg_congr hB (up_ne _ (by decide) _ _) (up_ne _ (by decide) _ _) (up_ne _ (by decide) _ _)
    have hM0 : MI (up s 0 0 0) := MI_congr hM ⟨e4, e5, e6⟩
    rw [if_pos ⟨hh.1, hh.2, hh.2⟩]
    refine s_if_eq (p := 10) m_Mo_turn rfl rfl (by omega) (by omega) (fun hbr => False.elim (by omega)) (fun hbr => ?_)
    refine fi_step (pc' := 11) m_Mo_turn rfl rfl ?_
    refine fi_step (pc' := 12) m_Mo_turn rfl rfl ?_
    refine fi_step (pc' := 13) m_Mo_turn rfl rfl ?_
    refine fi_step (pc' := 14) m_Mo_turn rfl rfl ?_
    refine r_get (p := 17) m_Mo_turn rfl rfl (by assumption) rfl ?_
    refine fi_step (pc' := 18) m_Mo_turn rfl rfl ?_
    refine r_ldI (p := 19) m_Mo_turn rfl rfl (by assumption) (by decide) rfl (by decide) (by omega) (by omega) ?_
    refine s_ic_ge (p := 22) m_Mo_turn rfl rfl (by omega) (by omega) (by omega) (by omega) (fun hbr => False.elim (by omega)) (fun hbr => ?_)
    refine fi_step (pc' := 23) m_Mo_turn rfl rfl ?_
    refine fi_step (pc' := 25) m_Mo_turn rfl rfl ?_
    refine turn_loop (S := up s 0 0 0) (by omega) (by omega) hM0 hh.2.1 hh.2.2 ?_ 100 0 0 w _ r (by omega) (by omega) (by omega) (by omega) (by omega) hw (oth_refl _) hB0 (fun i' j' _ _ _ hh => by omega)
    intro w1 s1 r1 y hw o1 B1 hv
    have m1 := keepM_oth o1
    have G5 : s1 5 a = s 5 a := by rw [m1.2.1, e5]
    have G6 : s1 6 a = s 6 a := by rw [m1.2.2, e6]
    refine fi_step (pc' := 68) m_Mo_turn rfl rfl ?_
    refine fi_step (pc' := 69) m_Mo_turn rfl rfl ?_
    refine fi_step (pc' := 70) m_Mo_turn rfl rfl ?_
    refine r_get (p := 73) m_Mo_turn rfl rfl (by assumption) rfl ?_
    refine fi_step (pc' := 74) m_Mo_turn rfl rfl ?_
    refine r_ldI (p := 75) m_Mo_turn rfl rfl (by assumption) (by decide) rfl (by decide) (by omega) (by omega) ?_
    refine fi_step (pc' := 76) m_Mo_turn rfl rfl ?_
    refine r_get (p := 79) m_Mo_turn rfl rfl (by assumption) rfl ?_
    refine fi_step (pc' := 80) m_Mo_turn rfl rfl ?_
    refine r_ldI (p := 81) m_Mo_turn rfl rfl (by assumption) (by decide) rfl (by decide) (by omega) (by omega) ?_
    rw [G5, G6]
    refine g_4 (p := 84) m_Mo_turn rfl inv_v (by decide) m_Mo_give rfl rfl (by omega) (by omega) (Nat.le_of_ble_eq_true rfl) (Nat.le_of_ble_eq_true rfl) (RW_rcv hw _) (c_give (by omega) (by omega) hw B1 hh.1.1 hh.1.2 (by omega) (by omega) (by omega) (by omega)) (fun v w hP => ?_)
    obtain ⟨s2, r2, hw, B2, kn, hc⟩ := hP
    rw [e4, F1, F3] at hv
    have hv' : ∀ i j, 0 ≤ i → i < s 6 a → 0 ≤ j → j < s 5 a → r1 (6 * i + j) = s 4 (36 * a + 6 * j + i) := fun i j i0 i1 j0 j1 => hv j i j0 j1 i0 i1
    have kk : keepN (up s 0 0 0) s2 := keepN_trans (keepN_oth o1) kn
    have hfit : fits (s 6 a) (s 5 a) (fun i j => r1 (6 * i + j)) := by
      refine (fits_congr hv').mpr (fun i j i0 i1 j0 j1 => ?_)
      have := hM.2.2 (36 * a + 6 * j + i) (by omega) (by omega)
      show (s 4 (36 * a + 6 * j + i)).natAbs < _
      omega
    rcases hc with ⟨f, rfl, g5, g6, g4⟩ | ⟨f, rfl, km⟩
    · refine fi_step (pc' := 85) m_Mo_turn rfl rfl ?_
      refine p_ret m_Mo_turn rfl rfl ?_
      refine ⟨rfl, Or.inr ⟨hh, s2, r2, hw, B2, kk, ?_⟩⟩
      exact ⟨by rw [g5, m1.2.1, e5], by rw [g6, m1.2.2, e6], by rw [g4, m1.1, e4]; exact newN_congr hv'⟩
    · exact absurd hfit f
  · have hn : ¬ ((0 ≤ to ∧ to < 6) ∧ (0 ≤ a ∧ a < 6) ∧ (0 ≤ a ∧ a < 6)) := fun q => hh ⟨q.1, q.2.1⟩
    rw [if_neg hn] at hw
    rw [if_neg hn]
    refine s_if_eq (p := 10) m_Mo_turn rfl rfl (by omega) (by omega) (fun hbr => ?_) (fun hbr => False.elim (by omega))
    refine p_ret m_Mo_turn rfl rfl ?_
    exact ⟨rfl, Or.inl ⟨hh, hw⟩⟩
end MAT4
