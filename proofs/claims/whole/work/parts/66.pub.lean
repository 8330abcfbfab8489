/-! THE REFERENCE: factor, characteristic, inverse -/
/-- the sum of the minors of so many rows and the same columns -/
def csum (g : Int → Int) (k : Nat) : Nat → Int
  | 0 => 0
  | n + 1 => csum g k n + if (els 6 n).length = k then mm g n n else 0
theorem csum_bound {g : Int → Int} {k : Nat} {b : Int} (b0 : 0 ≤ b) : ∀ {n : Nat}, (∀ x : Nat, x < n → ((mm g x x).natAbs : Int) ≤ b) → ((csum g k n).natAbs : Int) ≤ n * b
  | 0, _ => by simp [csum]
  | n + 1, h => by
    have h1 := csum_bound (k := k) b0 (n := n) (fun x hx => h x (by omega))
    have h2 := h n (by omega)
    rw [csum, show (((n + 1 : Nat)) : Int) * b = n * b + b by rw [Int.natCast_add, Int.add_mul]; simp]
    split <;> omega
theorem allbit : ∀ (R : Fin 7) (k : Fin 6), (k : Nat) < (R : Nat) → ((2 : Int) ^ (R : Nat) - 1) / 2 ^ (k : Nat) % 2 = 1 := by decide
/-- a fraction in least terms, as it is printed: a over d, the sign turned or not -/
def invS (a d : Int) (turned : Bool) : List Int := sayS (if a ≠ 0 ∧ ((decide (a < 0)) != ((decide (d < 0)) != turned)) = true then -((a.natAbs / Int.gcd d a : Nat) : Int) else ((a.natAbs / Int.gcd d a : Nat) : Int)) ++ (if d.natAbs / Int.gcd d a = 1 then [] else 47 :: decS (d.natAbs / Int.gcd d a))
section PUB3
variable {xs : List Int32} {fr lo : Nat} {w0 : ax_W} {Q : Outcome → ax_W → Prop}
theorem c_factor {m k : Int} {w : ax_W} {s : mo_S} {r : Int → Int} (hfr : 6 ≤ fr) (hlo : 220 ≤ lo) (hw : RW w0 w s) (hM : MI s) (hB : Bg s r) (m0 : -2147483648 ≤ m) (m1 : m < 2147483648) (k0 : -2147483648 ≤ k) (k1 : k < 2147483648) :
    fin xs fr lo 178 0 (ax_ent [.ref 425, .int (jI m), .int (jI k)] 4) [] w (Ret fun u w' => (¬ (0 ≤ m ∧ m < 6) ∧ pub s w0 w' 1 none ∧ u = some (.int (jI 0))) ∨ ((0 ≤ m ∧ m < 6) ∧ ¬ (1 ≤ k ∧ k ≤ s 5 m ∧ k ≤ s 6 m) ∧ pub s w0 w' 0 none ∧ u = some (.int (jI (-1)))) ∨ ((0 ≤ m ∧ m < 6) ∧ (1 ≤ k ∧ k ≤ s 5 m ∧ k ≤ s 6 m) ∧ ∃ d e, isD (gm s m) (s 5 m).toNat (s 6 m).toNat k.toNat d ∧ ((d = 0 ∧ pub s w0 w' 0 none ∧ u = some (.int (jI (-1)))) ∨ (d ≠ 0 ∧ e ≠ 0 ∧ isD (gm s m) (s 5 m).toNat (s 6 m).toNat (k.toNat - 1) e ∧ pub s w0 w' 0 (some (sayS (d / e))) ∧ u = some (.int (jI ((sayS (d / e)).length : Nat))))))) := by
  refine fi_step (pc' := 1) m_Mo_factor rfl rfl ?_
  refine fi_step (pc' := 2) m_Mo_factor rfl rfl ?_
  refine fi_step (pc' := 3) m_Mo_factor rfl rfl ?_
  refine c_2 (p := 6) m_Mo_factor rfl inv_v (by decide) m_Mo_isMatrix rfl rfl (by omega) (by omega) (Nat.le_of_ble_eq_true rfl) (Nat.le_of_ble_eq_true rfl) (RW_rcv hw _) (c_isMatrix m0 m1) ?_
  by_cases hm : 0 ≤ m ∧ m < 6
  · rw [if_pos hm]
    have e0 : up s 0 0 0 0 0 = 0 := by rw [up_same, up1_same]
    have K0 := kq_up s
    have M0 := MI_congr hM K0.1
    have hr := hM.1 m hm.1 hm.2
    have hc := hM.2.1 m hm.1 hm.2
    have e5 : up s 0 0 0 5 = s 5 := K0.1.2.1
    have e6 : up s 0 0 0 6 = s 6 := K0.1.2.2
    have E5 : up s 0 0 0 5 m = s 5 m := by rw [e5]
    have E6 : up s 0 0 0 6 m = s 6 m := by rw [e6]
    refine s_if_eq (p := 9) m_Mo_factor rfl rfl (by omega) (by omega) (fun hbr => False.elim (by omega)) (fun hbr => ?_)
    refine fi_step (pc' := 10) m_Mo_factor rfl rfl ?_
    refine fi_step (pc' := 14) m_Mo_factor rfl rfl ?_
    refine r_put (p := 17) 0 m_Mo_factor rfl rfl (by assumption) (r_put0 _ _) rfl (fun w hw => ?_)
    refine fi_step (pc' := 18) m_Mo_factor rfl rfl ?_
    refine r_get (p := 21) m_Mo_factor rfl rfl (by assumption) rfl ?_
    refine s_if_le (p := 24) m_Mo_factor rfl rfl (by omega) (by omega) (fun hbr => ?_) (fun hbr => False.elim (by omega))
    refine fi_step (pc' := 27) m_Mo_factor rfl rfl ?_
    refine fi_step (pc' := 28) m_Mo_factor rfl rfl ?_
    refine g_2 (p := 31) m_Mo_factor rfl inv_v (by decide) m_Mo_lookAt rfl rfl (by omega) (by omega) (Nat.le_of_ble_eq_true rfl) (Nat.le_of_ble_eq_true rfl) (RW_rcv hw _) (c_lookAt (by omega) (by omega) hw M0 hm.1 hm.2) (fun v w hP => ?_)
    obtain ⟨rfl, s1, hw, kl, l1, l2, l7⟩ := hP
    rw [K0.1.2.1, K0.1.2.2, K0.1.1] at l7
    rw [e5] at l1
    rw [e6] at l2
    obtain ⟨hgm, hgb⟩ := look_ok hM hm.1 hm.2 l7
    have B1 : Bg s1 r := Bg_congr (Bg_up0 hB 0) (kl.1 1 (by decide) (by decide)) (kl.1 2 (by decide) (by decide)) (kl.1 3 (by decide) (by decide))
    have K1 := kq_kL K0 kl
    refine fi_step (pc' := 32) m_Mo_factor rfl rfl ?_
    refine fi_step (pc' := 33) m_Mo_factor rfl rfl ?_
    refine s_ic_lt (p := 36) m_Mo_factor rfl rfl (by omega) (by omega) (by omega) (by omega) (fun hs => ?_) (fun hs => ?_)
    · refine fi_step (pc' := 64) m_Mo_factor rfl rfl ?_
      refine p_reti m_Mo_factor rfl rfl ?_
      exact Or.inr (Or.inl ⟨hm, by omega, kq_pub K1 hw B1, rfl⟩)
    · refine fi_step (pc' := 37) m_Mo_factor rfl rfl ?_
      refine fi_step (pc' := 38) m_Mo_factor rfl rfl ?_
      refine fi_step (pc' := 39) m_Mo_factor rfl rfl ?_
      refine r_get (p := 42) m_Mo_factor rfl rfl (by assumption) rfl ?_
      refine fi_step (pc' := 43) m_Mo_factor rfl rfl ?_
      refine r_get (p := 46) m_Mo_factor rfl rfl (by assumption) rfl ?_
      rw [l1, l2]
      refine c_3 (p := 49) m_Mo_factor rfl inv_v (by decide) m_Mo_least rfl rfl (by omega) (by omega) (Nat.le_of_ble_eq_true rfl) (Nat.le_of_ble_eq_true rfl) (RW_rcv hw _) (c_least (by omega) (by omega) (by omega) (by omega)) ?_
      have hmin : (if s 5 m < s 6 m then s 5 m else s 6 m) ≤ 6 ∧ 1 ≤ (if s 5 m < s 6 m then s 5 m else s 6 m) ∧ ∀ k, (k ≤ (if s 5 m < s 6 m then s 5 m else s 6 m) ↔ k ≤ s 5 m ∧ k ≤ s 6 m) := by
        split
        · exact ⟨by omega, by omega, fun k => by omega⟩
        · exact ⟨by omega, by omega, fun k => by omega⟩
      have hmk := hmin.2.2 k
      generalize (if s 5 m < s 6 m then s 5 m else s 6 m) = mn at hmin hmk ⊢
      refine s_ic_gt (p := 52) m_Mo_factor rfl rfl (by omega) (by omega) (by omega) (by omega) (fun hk => ?_) (fun hk => ?_)
      · refine fi_step (pc' := 64) m_Mo_factor rfl rfl ?_
        refine p_reti m_Mo_factor rfl rfl ?_
        exact Or.inr (Or.inl ⟨hm, by omega, kq_pub K1 hw B1, rfl⟩)
      · obtain ⟨q, rfl⟩ : ∃ q : Nat, k = ((q + 1 : Nat) : Int) := ⟨k.toNat - 1, by omega⟩
        refine fi_step (pc' := 53) m_Mo_factor rfl rfl ?_
        refine fi_step (pc' := 54) m_Mo_factor rfl rfl ?_
        refine s_sipush (p := 57) m_Mo_factor rfl rfl rfl ?_
        refine g_3 (p := 60) m_Mo_factor rfl inv_v (by decide) m_Mo_divisorOf rfl rfl (by omega) (by omega) (Nat.le_of_ble_eq_true rfl) (Nat.le_of_ble_eq_true rfl) (RW_rcv hw _) (c_divisorOf (k := q + 1) (to := 273) (R := (s 5 m).toNat) (C := (s 6 m).toNat) (by omega) (by omega) hw B1 (by omega) (by omega) (by omega) (by omega) (by omega) (Or.inl rfl) hgb) (fun v w hP => ?_)
        obtain ⟨s2, r2, hw, o2, B2, hD, rfl, _⟩ := hP
        have hD' := isD_congr (by omega) (by omega) hgm hD
        have K2 := kq_oth8 K1 o2
        by_cases hz : r2 273 = 0
        · rw [if_pos hz]
          refine s_if_ne (p := 63) m_Mo_factor rfl rfl (by omega) (by omega) (fun hbr => False.elim (by omega)) (fun hbr => ?_)
          refine fi_step (pc' := 64) m_Mo_factor rfl rfl ?_
          refine p_reti m_Mo_factor rfl rfl ?_
          exact Or.inr (Or.inr ⟨hm, by omega, r2 273, 0, by rw [Int.toNat_natCast]; exact hD', Or.inl ⟨hz, kq_pub K2 hw B2, rfl⟩⟩)
        · rw [if_neg hz]
          have e7 : s2 7 = s1 7 := o2 7 (by decide) (by decide) (by decide) (by decide)
          have e00 : s2 0 = s1 0 := o2 0 (by decide) (by decide) (by decide) (by decide)
          refine s_if_ne (p := 63) m_Mo_factor rfl rfl (by omega) (by omega) (fun hbr => ?_) (fun hbr => False.elim (by omega))
          refine fi_step (pc' := 66) m_Mo_factor rfl rfl ?_
          refine fi_step (pc' := 67) m_Mo_factor rfl rfl ?_
          refine fi_step (pc' := 68) m_Mo_factor rfl rfl ?_
          refine s_isub (p := 69) m_Mo_factor rfl rfl ?_
          refine s_sipush (p := 72) m_Mo_factor rfl rfl rfl ?_
          rw [show ((q + 1 : Nat) : Int) - 1 = (q : Int) by omega]
          refine g_3 (p := 75) m_Mo_factor rfl inv_v (by decide) m_Mo_divisorOf rfl rfl (by omega) (by omega) (Nat.le_of_ble_eq_true rfl) (Nat.le_of_ble_eq_true rfl) (RW_rcv hw _) (c_divisorOf (k := q) (to := 274) (R := (s 5 m).toNat) (C := (s 6 m).toNat) (by omega) (by omega) hw B2 (by rw [e00]; omega) (by omega) (by rw [e00]; omega) (by omega) (by omega) (Or.inr rfl) (by rw [e7]; exact hgb)) (fun v w hP => ?_)
          obtain ⟨s3, r3, hw, o3, B3, hE, rfl, k3⟩ := hP
          rw [e7] at hE
          have hE' := isD_congr (by omega) (by omega) hgm hE
          have K3 := kq_oth8 K2 o3
          have v3 : r3 273 = r2 273 := k3 273 (by omega) (by omega) (by unfold tmpK; omega)
          have hez : r3 274 ≠ 0 := fun e => hz ((isD_zero hD).mpr (mm_none (by omega) (by omega) ((isD_zero hE).mp e)))
          refine fi_step (pc' := 76) m_Mo_factor rfl rfl ?_
          refine fi_step (pc' := 77) m_Mo_factor rfl rfl ?_
          refine s_sipush (p := 80) m_Mo_factor rfl rfl rfl ?_
          refine s_sipush (p := 83) m_Mo_factor rfl rfl rfl ?_
          refine s_sipush (p := 86) m_Mo_factor rfl rfl rfl ?_
          refine g_4 (p := 89) m_Mo_factor rfl inv_v (by decide) m_Mo_bigDivide rfl rfl (by omega) (by omega) (Nat.le_of_ble_eq_true rfl) (Nat.le_of_ble_eq_true rfl) (RW_rcv hw _) (c_bigDivide (by omega) (by omega) hw B3 (by omega) (by omega) (by omega) (by omega) (by omega) (by omega) (by omega) (by omega) (by omega) hez) (fun v w hP => ?_)
          obtain ⟨rfl, s4, hw, o4, B4⟩ := hP
          refine fi_step (pc' := 90) m_Mo_factor rfl rfl ?_
          refine s_sipush (p := 93) m_Mo_factor rfl rfl rfl ?_
          refine s_sipush (p := 96) m_Mo_factor rfl rfl rfl ?_
          refine g_3 (p := 99) m_Mo_factor rfl inv_v (by decide) m_Mo_bigCopy rfl rfl (by omega) (by omega) (Nat.le_of_ble_eq_true rfl) (Nat.le_of_ble_eq_true rfl) (RW_rcv hw _) (c_bigCopy hw B4 (by omega) (by omega) (by omega) (by omega) (by omega)) (fun v w hP => ?_)
          obtain ⟨rfl, s5, hw, o5, B5⟩ := hP
          have hval : up1 (up1 (up1 r3 272 (((r3 273).natAbs : Int) / ((r3 274).natAbs : Int))) 273 (((r3 273).natAbs : Int) % ((r3 274).natAbs : Int))) 273 (up1 (up1 r3 272 (((r3 273).natAbs : Int) / ((r3 274).natAbs : Int))) 273 (((r3 273).natAbs : Int) % ((r3 274).natAbs : Int)) 272) 273 = r2 273 / r3 274 := by
            rw [up1_same, up1_ne _ (by decide), up1_same, v3, Int.natAbs_of_nonneg hD.1, Int.natAbs_of_nonneg hE.1]
          have hb := isD_bound (by omega) (by omega) hgb hD
          have hM0 : (0 : Int) ≤ MBND := by decide
          have hq0 : 0 ≤ r2 273 / r3 274 := Int.ediv_nonneg hD.1 hE.1
          have hq1 : r2 273 / r3 274 ≤ r2 273 := Int.ediv_le_self _ hD.1
          refine fi_step (pc' := 100) m_Mo_factor rfl rfl ?_
          refine s_sipush (p := 103) m_Mo_factor rfl rfl rfl ?_
          refine g_2 (p := 106) m_Mo_factor rfl inv_v (by decide) m_Mo_say rfl rfl (by omega) (by omega) (Nat.le_of_ble_eq_true rfl) (Nat.le_of_ble_eq_true rfl) (RW_rcv hw _) (c_say (by omega) (by omega) hw B5 (by omega) (by omega) (by omega) (by rw [hval]; exact lt_120 (by omega))) (fun v w hP => ?_)
          obtain ⟨s6, r6, hw, k6, B6, _, p6, rfl⟩ := hP
          rw [hval] at p6 ⊢
          refine p_reti m_Mo_factor rfl rfl ?_
          exact Or.inr (Or.inr ⟨hm, by omega, r2 273, r3 274, by rw [Int.toNat_natCast]; exact hD', Or.inr ⟨hz, hez, by rw [Int.toNat_natCast]; exact hE', kq_say (kq_oth (kq_oth K3 o4) o5) k6 hw B6 p6, rfl⟩⟩)
  · rw [if_neg hm]
    have e0 : up s 0 0 1 0 0 = 1 := by rw [up_same, up1_same]
    refine s_if_eq (p := 9) m_Mo_factor rfl rfl (by omega) (by omega) (fun hbr => ?_) (fun hbr => False.elim (by omega))
    refine fi_step (pc' := 14) m_Mo_factor rfl rfl ?_
    refine r_put (p := 17) 0 m_Mo_factor rfl rfl (by assumption) (r_put0 _ _) rfl (fun w hw => ?_)
    refine fi_step (pc' := 18) m_Mo_factor rfl rfl ?_
    refine r_get (p := 21) m_Mo_factor rfl rfl (by assumption) rfl ?_
    refine s_if_le (p := 24) m_Mo_factor rfl rfl (by omega) (by omega) (fun hbr => False.elim (by omega)) (fun hbr => ?_)
    refine fi_step (pc' := 25) m_Mo_factor rfl rfl ?_
    refine p_reti m_Mo_factor rfl rfl ?_
    exact Or.inl ⟨hm, pub_no hw hB, rfl⟩
theorem char_loop {m : Int} {k kk R : Nat} {S : mo_S} {g : Int → Int} (hfr : 4 ≤ fr) (hlo : 180 ≤ lo) (hR1 : S 0 1 = R) (hR2 : S 0 2 = R) (hR6 : R ≤ 6) (hk : k ≤ R) (hg : ∀ i j : Int, 0 ≤ i → i < R → 0 ≤ j → j < R → S 7 (12 * i + j) = g (12 * i + j)) (hgb : ∀ i j : Int, 0 ≤ i → i < R → 0 ≤ j → j < R → ((S 7 (12 * i + j)).natAbs : Int) ≤ 1000000000000000000)
    (K : ∀ w s r y4 y5, RW w0 w s → oth8 S s → Bg s r → r 273 = (if k % 2 = 1 then - csum g k (2 ^ R) else csum g k (2 ^ R)) → fin xs fr lo 181 149 [some (.ref 425), some (.int (jI m)), some (.int (jI kk)), some (.int (jI k)), y4, y5] [] w Q) :
    ∀ (f n : Nat) (w : ax_W) (s : mo_S) (r : Int → Int) (y5 : Option Value), n ≤ 2 ^ R → 2 ^ R - n ≤ f → RW w0 w s → oth8 S s → Bg s r → r 273 = (if k % 2 = 1 then - csum g k n else csum g k n) →
    fin xs fr lo 181 85 [some (.ref 425), some (.int (jI m)), some (.int (jI kk)), some (.int (jI k)), some (.int (jI n)), y5] [] w Q := by
  have h64 := S_pow hR6
  have hN : ((2 ^ R : Nat) : Int) = 2 ^ R := by rw [Int.natCast_pow]; rfl
  have hRt : (S 0 1).toNat = R := by omega
  have hbd : ∀ n : Nat, n ≤ 2 ^ R → ((csum g k n).natAbs : Int) ≤ n * MBND := fun n hn => csum_bound (by decide) (fun x hx => mm_bound (R := R) (C := R) hR6 hR6 (fun i j i0 i1 j0 j1 => by rw [← hg i j i0 i1 j0 j1]; exact hgb i j i0 i1 j0 j1) (by omega) (by omega) (by omega) (by omega) rfl)
  intro f
  induction f with
  | zero =>
    intro n w s r y5 hn hf hw ho hB hv
    have e1 : s 0 1 = R := by rw [ho 0 (by decide) (by decide) (by decide) (by decide)]; exact hR1
    have e2 : (2 : Int) ^ (s 0 1).toNat = 2 ^ R := by rw [e1]; rfl
    have : n = 2 ^ R := by omega
    subst this
    refine fi_step (pc' := 87) m_Mo_characteristic rfl rfl ?_
    refine fi_step (pc' := 88) m_Mo_characteristic rfl rfl ?_
    refine fi_step (pc' := 89) m_Mo_characteristic rfl rfl ?_
    refine r_get (p := 92) m_Mo_characteristic rfl rfl (by assumption) rfl ?_
    refine b_ishl (p := 93) m_Mo_characteristic rfl rfl (by omega) (by omega) ?_
    refine s_ic_ge (p := 96) m_Mo_characteristic rfl rfl (by omega) (by omega) (by omega) (by omega) (fun hbr => ?_) (fun hbr => False.elim (by omega))
    exact K w s r _ _ hw ho hB hv
  | succ f ih =>
    intro n w s r y5 hn hf hw ho hB hv
    have e1 : s 0 1 = R := by rw [ho 0 (by decide) (by decide) (by decide) (by decide)]; exact hR1
    have e2' : s 0 2 = R := by rw [ho 0 (by decide) (by decide) (by decide) (by decide)]; exact hR2
    have e2 : (2 : Int) ^ (s 0 1).toNat = 2 ^ R := by rw [e1]; rfl
    have e7 : s 7 = S 7 := ho 7 (by decide) (by decide) (by decide) (by decide)
    have hl := els_len n 6
    have hcut := S_cut (x := n) (c := R) (by omega) hR6
    refine fi_step (pc' := 87) m_Mo_characteristic rfl rfl ?_
    refine fi_step (pc' := 88) m_Mo_characteristic rfl rfl ?_
    refine fi_step (pc' := 89) m_Mo_characteristic rfl rfl ?_
    refine r_get (p := 92) m_Mo_characteristic rfl rfl (by assumption) rfl ?_
    refine b_ishl (p := 93) m_Mo_characteristic rfl rfl (by omega) (by omega) ?_
    refine s_ic_ge (p := 96) m_Mo_characteristic rfl rfl (by omega) (by omega) (by omega) (by omega) (fun h => ?_) (fun h => ?_)
    · have : n = 2 ^ R := by omega
      subst this
      exact K w s r _ _ hw ho hB hv
    · have hcut := hcut (by omega)
      refine fi_step (pc' := 98) m_Mo_characteristic rfl rfl ?_
      refine c_1 (p := 101) m_Mo_characteristic rfl inv_s (by decide) m_Mo_sizeOf rfl rfl (by omega) (by omega) (Nat.le_of_ble_eq_true rfl) (Nat.le_of_ble_eq_true rfl) rfl (c_sizeOf (x := n) (by omega) (by omega)) ?_
      rw [S_12 (by omega) (by omega)]
      refine fi_step (pc' := 102) m_Mo_characteristic rfl rfl ?_
      refine s_ic_ne (p := 105) m_Mo_characteristic rfl rfl (by omega) (by omega) (by omega) (by omega) (fun hs => ?_) (fun hs => ?_)
      · refine s_iinc (p := 146) m_Mo_characteristic rfl rfl rfl ?_
        refine fi_step (pc' := 85) m_Mo_characteristic rfl rfl ?_
        exact ih (n + 1) w s r _ (by omega) (by omega) hw ho hB (by have hcs : csum g k (n + 1) = csum g k n := by { rw [csum, if_neg (by omega), Int.add_zero] }; rw [hcs]; exact hv)
      · have hlk : (els 6 n).length = k := by omega
        refine fi_step (pc' := 106) m_Mo_characteristic rfl rfl ?_
        refine fi_step (pc' := 108) m_Mo_characteristic rfl rfl ?_
        refine g_2 (p := 111) m_Mo_characteristic rfl inv_v (by decide) m_Mo_pick rfl rfl (by omega) (by omega) (Nat.le_of_ble_eq_true rfl) (Nat.le_of_ble_eq_true rfl) (RW_rcv hw _) (c_pick (c := R) hw (by omega) (by omega) e2' (by omega) (by rw [hcut]; omega)) (fun v w hP => ?_)
        obtain ⟨rfl, s1, hw, o1, p1⟩ := hP
        rw [hcut] at p1 ⊢
        have o1' : oth8 s s1 := fun a _ _ _ h8 => o1 a h8
        have B1 : Bg s1 r := Bg_congr hB (o1 1 (by decide)) (o1 2 (by decide)) (o1 3 (by decide))
        have hin := pick_in (C := R) p1 hcut
        rw [hlk] at hin
        refine fi_step (pc' := 113) m_Mo_characteristic rfl rfl ?_
        refine fi_step (pc' := 114) m_Mo_characteristic rfl rfl ?_
        refine fi_step (pc' := 116) m_Mo_characteristic rfl rfl ?_
        rw [hlk]
        refine g_2 (p := 119) m_Mo_characteristic rfl inv_v (by decide) m_Mo_findMinors rfl rfl (by omega) (by omega) (Nat.le_of_ble_eq_true rfl) (Nat.le_of_ble_eq_true rfl) (RW_rcv hw _) (c_findMinors (n := k) (R := R) (by omega) (by omega) hw B1 (by rw [o1 0 (by decide)]; exact e1) hR6 (by omega) (fun q hq => by have := hin q hq; omega) (fun i j i0 i1 ⟨q, hq, hj⟩ => by rw [o1 7 (by decide), e7]; have := hin q hq; exact hgb i j i0 i1 (by omega) (by omega))) (fun v w hP => ?_)
        obtain ⟨rfl, s2, r2, hw, o2, B2, v2, k2⟩ := hP
        have hmv : r2 (36 + n) = mm g n n := by
          rw [v2 n (by omega) (by omega), if_pos (by omega), mnr_mm rfl p1, o1 7 (by decide), e7]
          exact mm_congr (R := R) (C := R) hR6 hR6 hg (by omega) (by omega) (by omega) (by omega)
        have hb1 := hbd n (by omega)
        have hb2 := hbd (n + 1) (by omega)
        have hmb : ((mm g n n).natAbs : Int) ≤ MBND := mm_bound (R := R) (C := R) hR6 hR6 (fun i j i0 i1 j0 j1 => by rw [← hg i j i0 i1 j0 j1]; exact hgb i j i0 i1 j0 j1) (by omega) (by omega) (by omega) (by omega) rfl
        have hrm : 65 * MBND < rm 140 := Int.lt_of_lt_of_le (by decide) (le_rm (i := 20) (by decide))
        have hnM : (n : Int) * MBND ≤ 64 * MBND := Int.mul_le_mul_of_nonneg_right (by omega) (by decide)
        have hv2 : r2 273 = (if k % 2 = 1 then - csum g k n else csum g k n) := by rw [k2 273 (by omega) (by omega) (by omega)]; exact hv
        have hab : ((r2 273).natAbs : Int) ≤ n * MBND := by rw [hv2]; split <;> omega
        have step : ∀ l : Int, (l = 1 ∧ k % 2 = 1) ∨ (l = 0 ∧ k % 2 = 0) → fin xs fr lo 181 140 [some (.ref 425), some (.int (jI m)), some (.int (jI kk)), some (.int (jI k)), some (.int (jI n)), some (.int (jI k))] [.int (jI l), .int (jI (36 + n)), .int (jI 273), .ref 425] w Q := by
          intro l hl
          refine g_4 (p := 143) m_Mo_characteristic rfl inv_v (by decide) m_Mo_bigAdd rfl rfl (by omega) (by omega) (Nat.le_of_ble_eq_true rfl) (Nat.le_of_ble_eq_true rfl) (RW_rcv hw _) (c_bigAdd (by omega) (by omega) hw B2 (by omega) (by omega) (by omega) (by omega) (by omega) (by omega) (by rw [hmv]; omega)) (fun v w hP => ?_)
          obtain ⟨rfl, s3, hw, o3, B3⟩ := hP
          refine s_iinc (p := 146) m_Mo_characteristic rfl rfl rfl ?_
          refine fi_step (pc' := 85) m_Mo_characteristic rfl rfl ?_
          refine ih (n + 1) w s3 _ _ (by omega) (by omega) hw (oth8_trans ho (oth8_trans o1' (oth8_trans (oth8_oth o2) (oth8_oth o3)))) B3 ?_
          rw [up1_same, hmv, hv2, csum, if_pos hlk]
          rcases hl with ⟨rfl, hk2⟩ | ⟨rfl, hk2⟩
          · rw [if_pos rfl, if_pos hk2, if_pos hk2]; omega
          · rw [if_neg (by decide), if_neg (by omega), if_neg (by omega)]
        refine fi_step (pc' := 120) m_Mo_characteristic rfl rfl ?_
        refine s_sipush (p := 123) m_Mo_characteristic rfl rfl rfl ?_
        refine s_bipush (p := 125) m_Mo_characteristic rfl rfl rfl ?_
        refine fi_step (pc' := 127) m_Mo_characteristic rfl rfl ?_
        refine s_iadd (p := 128) m_Mo_characteristic rfl rfl ?_
        refine fi_step (pc' := 129) m_Mo_characteristic rfl rfl ?_
        refine fi_step (pc' := 130) m_Mo_characteristic rfl rfl ?_
        refine s_irem (p := 131) m_Mo_characteristic rfl rfl (by omega) (by omega) (by omega) (by omega) ?_
        refine fi_step (pc' := 132) m_Mo_characteristic rfl rfl ?_
        refine s_ic_ne (p := 135) m_Mo_characteristic rfl rfl (by omega) (by omega) (by omega) (by omega) (fun h2 => ?_) (fun h2 => ?_)
        · refine fi_step (pc' := 140) m_Mo_characteristic rfl rfl ?_
          exact step 0 (by omega)
        · refine fi_step (pc' := 136) m_Mo_characteristic rfl rfl ?_
          refine fi_step (pc' := 140) m_Mo_characteristic rfl rfl ?_
          exact step 1 (by omega)
theorem c_characteristic {m k : Int} {w : ax_W} {s : mo_S} {r : Int → Int} (hfr : 6 ≤ fr) (hlo : 220 ≤ lo) (hw : RW w0 w s) (hM : MI s) (hB : Bg s r) (m0 : -2147483648 ≤ m) (m1 : m < 2147483648) (k0 : -2147483648 ≤ k) (k1 : k < 2147483648) :
    fin xs fr lo 181 0 (ax_ent [.ref 425, .int (jI m), .int (jI k)] 6) [] w (Ret fun u w' => (¬ (0 ≤ m ∧ m < 6) ∧ pub s w0 w' 1 none ∧ u = some (.int (jI 0))) ∨ ((0 ≤ m ∧ m < 6) ∧ s 5 m ≠ s 6 m ∧ pub s w0 w' 0 none ∧ u = some (.int (jI (-2)))) ∨ ((0 ≤ m ∧ m < 6) ∧ s 5 m = s 6 m ∧ ¬ (0 ≤ k ∧ k ≤ s 5 m) ∧ pub s w0 w' 0 none ∧ u = some (.int (jI (-1)))) ∨ ((0 ≤ m ∧ m < 6) ∧ s 5 m = s 6 m ∧ (0 ≤ k ∧ k ≤ s 5 m) ∧ ∃ d, d = (if (s 5 m - k) % 2 = 1 then - csum (gm s m) (s 5 m - k).toNat (2 ^ (s 5 m).toNat) else csum (gm s m) (s 5 m - k).toNat (2 ^ (s 5 m).toNat)) ∧ pub s w0 w' 0 (some (sayS d)) ∧ u = some (.int (jI ((sayS d).length : Nat))))) := by
  refine fi_step (pc' := 1) m_Mo_characteristic rfl rfl ?_
  refine fi_step (pc' := 2) m_Mo_characteristic rfl rfl ?_
  refine fi_step (pc' := 3) m_Mo_characteristic rfl rfl ?_
  refine c_2 (p := 6) m_Mo_characteristic rfl inv_v (by decide) m_Mo_isMatrix rfl rfl (by omega) (by omega) (Nat.le_of_ble_eq_true rfl) (Nat.le_of_ble_eq_true rfl) (RW_rcv hw _) (c_isMatrix m0 m1) ?_
  by_cases hm : 0 ≤ m ∧ m < 6
  · rw [if_pos hm]
    have e0 : up s 0 0 0 0 0 = 0 := by rw [up_same, up1_same]
    have K0 := kq_up s
    have M0 := MI_congr hM K0.1
    have hr := hM.1 m hm.1 hm.2
    have hc := hM.2.1 m hm.1 hm.2
    have e5 : up s 0 0 0 5 = s 5 := K0.1.2.1
    have e6 : up s 0 0 0 6 = s 6 := K0.1.2.2
    have E5 : up s 0 0 0 5 m = s 5 m := by rw [e5]
    have E6 : up s 0 0 0 6 m = s 6 m := by rw [e6]
    refine s_if_eq (p := 9) m_Mo_characteristic rfl rfl (by omega) (by omega) (fun hbr => False.elim (by omega)) (fun hbr => ?_)
    refine fi_step (pc' := 10) m_Mo_characteristic rfl rfl ?_
    refine fi_step (pc' := 14) m_Mo_characteristic rfl rfl ?_
    refine r_put (p := 17) 0 m_Mo_characteristic rfl rfl (by assumption) (r_put0 _ _) rfl (fun w hw => ?_)
    refine fi_step (pc' := 18) m_Mo_characteristic rfl rfl ?_
    refine r_get (p := 21) m_Mo_characteristic rfl rfl (by assumption) rfl ?_
    refine s_if_le (p := 24) m_Mo_characteristic rfl rfl (by omega) (by omega) (fun hbr => ?_) (fun hbr => False.elim (by omega))
    refine fi_step (pc' := 27) m_Mo_characteristic rfl rfl ?_
    refine r_get (p := 30) m_Mo_characteristic rfl rfl (by assumption) rfl ?_
    refine fi_step (pc' := 31) m_Mo_characteristic rfl rfl ?_
    refine r_ldI (p := 32) m_Mo_characteristic rfl rfl (by assumption) (by decide) rfl (by decide) (by omega) (by omega) ?_
    refine fi_step (pc' := 33) m_Mo_characteristic rfl rfl ?_
    refine r_get (p := 36) m_Mo_characteristic rfl rfl (by assumption) rfl ?_
    refine fi_step (pc' := 37) m_Mo_characteristic rfl rfl ?_
    refine r_ldI (p := 38) m_Mo_characteristic rfl rfl (by assumption) (by decide) rfl (by decide) (by omega) (by omega) ?_
    refine s_ic_eq (p := 41) m_Mo_characteristic rfl rfl (by omega) (by omega) (by omega) (by omega) (fun hs => ?_) (fun hs => ?_)
    · rw [e5, e6] at hs
      refine fi_step (pc' := 45) m_Mo_characteristic rfl rfl ?_
      refine s_if_lt (p := 48) m_Mo_characteristic rfl rfl (by omega) (by omega) (fun hk0 => ?_) (fun hk0 => ?_)
      · refine fi_step (pc' := 59) m_Mo_characteristic rfl rfl ?_
        refine p_reti m_Mo_characteristic rfl rfl ?_
        exact Or.inr (Or.inr (Or.inl ⟨hm, hs, by omega, kq_pub K0 hw (Bg_up0 hB 0), rfl⟩))
      · refine fi_step (pc' := 49) m_Mo_characteristic rfl rfl ?_
        refine fi_step (pc' := 50) m_Mo_characteristic rfl rfl ?_
        refine r_get (p := 53) m_Mo_characteristic rfl rfl (by assumption) rfl ?_
        refine fi_step (pc' := 54) m_Mo_characteristic rfl rfl ?_
        refine r_ldI (p := 55) m_Mo_characteristic rfl rfl (by assumption) (by decide) rfl (by decide) (by omega) (by omega) ?_
        refine s_ic_le (p := 58) m_Mo_characteristic rfl rfl (by omega) (by omega) (by omega) (by omega) (fun hk1 => ?_) (fun hk1 => ?_)
        · rw [e5] at hk1
          refine fi_step (pc' := 61) m_Mo_characteristic rfl rfl ?_
          refine fi_step (pc' := 62) m_Mo_characteristic rfl rfl ?_
          refine g_2 (p := 65) m_Mo_characteristic rfl inv_v (by decide) m_Mo_lookAt rfl rfl (by omega) (by omega) (Nat.le_of_ble_eq_true rfl) (Nat.le_of_ble_eq_true rfl) (RW_rcv hw _) (c_lookAt (by omega) (by omega) hw M0 hm.1 hm.2) (fun v w hP => ?_)
          obtain ⟨rfl, s1, hw, kl, l1, l2, l7⟩ := hP
          rw [K0.1.2.1, K0.1.2.2, K0.1.1] at l7
          rw [e5] at l1
          rw [e6] at l2
          obtain ⟨hgm, hgb⟩ := look_ok hM hm.1 hm.2 l7
          have B1 : Bg s1 r := Bg_congr (Bg_up0 hB 0) (kl.1 1 (by decide) (by decide)) (kl.1 2 (by decide) (by decide)) (kl.1 3 (by decide) (by decide))
          have K1 := kq_kL K0 kl
          have e51 : s1 5 = s 5 := K1.1.2.1
          obtain ⟨R, hR⟩ : ∃ R : Nat, s 5 m = R := ⟨(s 5 m).toNat, by omega⟩
          have hRt : (s 5 m).toNat = R := by omega
          have hCt : (s 6 m).toNat = R := by omega
          obtain ⟨q, hq⟩ : ∃ q : Nat, s 5 m - k = q := ⟨(s 5 m - k).toNat, by omega⟩
          obtain ⟨kk, rfl⟩ : ∃ kk : Nat, k = kk := ⟨k.toNat, by omega⟩
          refine fi_step (pc' := 66) m_Mo_characteristic rfl rfl ?_
          refine r_get (p := 69) m_Mo_characteristic rfl rfl (by assumption) rfl ?_
          refine fi_step (pc' := 70) m_Mo_characteristic rfl rfl ?_
          refine r_ldI (p := 71) m_Mo_characteristic rfl rfl (by assumption) (by decide) rfl (by decide) (by omega) (by omega) ?_
          refine fi_step (pc' := 72) m_Mo_characteristic rfl rfl ?_
          refine s_isub (p := 73) m_Mo_characteristic rfl rfl ?_
          refine fi_step (pc' := 74) m_Mo_characteristic rfl rfl ?_
          refine fi_step (pc' := 75) m_Mo_characteristic rfl rfl ?_
          refine s_sipush (p := 78) m_Mo_characteristic rfl rfl rfl ?_
          refine s_lconst (p := 79) (v := 0) m_Mo_characteristic rfl rfl rfl ?_
          rw [e51, hq]
          refine g_3 (p := 82) m_Mo_characteristic rfl inv_v (by decide) m_Mo_bigSet rfl rfl (by omega) (by omega) (Nat.le_of_ble_eq_true rfl) (Nat.le_of_ble_eq_true rfl) (RW_rcv hw _) (c_bigSet hw B1 (by omega) (by omega) (by decide) (by decide)) (fun v w hP => ?_)
          obtain ⟨rfl, s2, hw, o2, B2⟩ := hP
          have K2 := kq_oth K1 o2
          refine fi_step (pc' := 83) m_Mo_characteristic rfl rfl ?_
          refine fi_step (pc' := 85) m_Mo_characteristic rfl rfl ?_
          refine char_loop (S := s2) (R := R) (k := q) (g := gm s m) (by omega) (by omega) (by rw [o2 0 (by decide) (by decide) (by decide), l1, hR]) (by rw [o2 0 (by decide) (by decide) (by decide), l2]; omega) (by omega) (by omega) (fun i j i0 i1 j0 j1 => by rw [o2 7 (by decide) (by decide) (by decide)]; exact hgm i j i0 (by omega) j0 (by omega)) (fun i j i0 i1 j0 j1 => by rw [o2 7 (by decide) (by decide) (by decide)]; exact hgb i j i0 (by omega) j0 (by omega)) ?_ 64 0 w s2 _ _ (Nat.zero_le _) (by have := S_pow (show R ≤ 6 by omega); have h2 : ((2 ^ R : Nat) : Int) = 2 ^ R := by { rw [Int.natCast_pow]; rfl }; omega) hw (oth8_refl s2) B2 (by rw [up1_same]; simp [csum])
          intro w s3 r3 y4 y5 hw o3 B3 hv
          have hb : ((r3 273).natAbs : Int) ≤ 64 * MBND := by
            have h2 : ((2 ^ R : Nat) : Int) = 2 ^ R := by rw [Int.natCast_pow]; rfl
            have hp := S_pow (show R ≤ 6 by omega)
            have := csum_bound (g := gm s m) (k := q) (b := MBND) (by decide) (n := 2 ^ R) (fun x hx => mm_bound (R := R) (C := R) (by omega) (by omega) (fun i j i0 i1 j0 j1 => by rw [← hgm i j i0 (by omega) j0 (by omega)]; exact hgb i j i0 (by omega) j0 (by omega)) (by omega) (by omega) (by omega) (by omega) rfl)
            have hnM : ((2 ^ R : Nat) : Int) * MBND ≤ 64 * MBND := Int.mul_le_mul_of_nonneg_right (by omega) (by decide)
            rw [hv]; split <;> omega
          refine fi_step (pc' := 150) m_Mo_characteristic rfl rfl ?_
          refine s_sipush (p := 153) m_Mo_characteristic rfl rfl rfl ?_
          refine g_2 (p := 156) m_Mo_characteristic rfl inv_v (by decide) m_Mo_say rfl rfl (by omega) (by omega) (Nat.le_of_ble_eq_true rfl) (Nat.le_of_ble_eq_true rfl) (RW_rcv hw _) (c_say (by omega) (by omega) hw B3 (by omega) (by omega) (by omega) (lt_120 hb)) (fun v w hP => ?_)
          obtain ⟨s4, r4, hw, k4, B4, _, p4, rfl⟩ := hP
          refine p_reti m_Mo_characteristic rfl rfl ?_
          refine Or.inr (Or.inr (Or.inr ⟨hm, hs, by omega, r3 273, ?_, kq_say (kq_oth8 K2 o3) k4 hw B4 p4, rfl⟩))
          rw [hv, hRt, Int.toNat_natCast]
          by_cases h2 : q % 2 = 1
          · rw [if_pos h2, if_pos (by omega)]
          · rw [if_neg h2, if_neg (by omega)]
        · rw [e5] at hk1
          refine fi_step (pc' := 59) m_Mo_characteristic rfl rfl ?_
          refine p_reti m_Mo_characteristic rfl rfl ?_
          exact Or.inr (Or.inr (Or.inl ⟨hm, hs, by omega, kq_pub K0 hw (Bg_up0 hB 0), rfl⟩))
    · rw [e5, e6] at hs
      refine s_bipush (p := 43) m_Mo_characteristic rfl rfl rfl ?_
      refine p_reti m_Mo_characteristic rfl rfl ?_
      exact Or.inr (Or.inl ⟨hm, hs, kq_pub K0 hw (Bg_up0 hB 0), rfl⟩)
  · rw [if_neg hm]
    have e0 : up s 0 0 1 0 0 = 1 := by rw [up_same, up1_same]
    refine s_if_eq (p := 9) m_Mo_characteristic rfl rfl (by omega) (by omega) (fun hbr => ?_) (fun hbr => False.elim (by omega))
    refine fi_step (pc' := 14) m_Mo_characteristic rfl rfl ?_
    refine r_put (p := 17) 0 m_Mo_characteristic rfl rfl (by assumption) (r_put0 _ _) rfl (fun w hw => ?_)
    refine fi_step (pc' := 18) m_Mo_characteristic rfl rfl ?_
    refine r_get (p := 21) m_Mo_characteristic rfl rfl (by assumption) rfl ?_
    refine s_if_le (p := 24) m_Mo_characteristic rfl rfl (by omega) (by omega) (fun hbr => False.elim (by omega)) (fun hbr => ?_)
    refine fi_step (pc' := 25) m_Mo_characteristic rfl rfl ?_
    refine p_reti m_Mo_characteristic rfl rfl ?_
    exact Or.inl ⟨hm, pub_no hw hB, rfl⟩
end PUB3
