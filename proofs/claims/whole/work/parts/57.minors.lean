/-! THE REFERENCE: findMinors -/
section FM
variable {xs : List Int32} {fr lo : Nat} {w0 : ax_W} {Q : Outcome → ax_W → Prop}
theorem find_in {x n : Int} {R z : Nat} {S : mo_S} {R0 : Int → Int} (hfr : 3 ≤ fr) (hlo : 120 ≤ lo) (hR : S 0 1 = R) (hR6 : R ≤ 6) (x0 : 0 ≤ x) (x1 : x < 2 ^ R) (hz : (els 6 x).length = z + 1) (hp : ∀ k : Nat, k < z + 1 → 0 ≤ S 8 k ∧ S 8 k < 12) (hg : ∀ i j : Int, 0 ≤ i → i < R → (∃ k : Nat, k < z + 1 ∧ j = S 8 k) → ((S 7 (12 * i + j)).natAbs : Int) ≤ 1000000000000000000)
    (K : ∀ w s r y4 y5, RW w0 w s → oth S s → Bg s r → r (36 + x) = mnr (S 7) (S 8) x → (∀ k, k ≠ 36 + x → k ≠ 268 → k ≠ 269 → r k = R0 k) → fin xs fr lo 150 152 [some (.ref 425), some (.int (jI n)), some (.int (jI x)), some (.int (jI (z + 1 : Nat))), y4, y5] [] w Q)
    (hprev : ∀ y, 0 ≤ y → y < x → (els 6 y).length = z → R0 (36 + y) = mnr (S 7) (S 8) y) :
    ∀ (c t : Nat) (w : ax_W) (s : mo_S) (r : Int → Int), t + c = R → RW w0 w s → oth S s → Bg s r → r (36 + x) = sg ((els t x).length + (z + 1)) * asum (fun i => S 7 (12 * i + S 8 z) * mnr (S 7) (S 8) (x - 2 ^ i.toNat)) (els t x) → (∀ k, k ≠ 36 + x → k ≠ 268 → k ≠ 269 → r k = R0 k) →
    fin xs fr lo 150 49 [some (.ref 425), some (.int (jI n)), some (.int (jI x)), some (.int (jI (z + 1 : Nat))), some (.int (jI ((els t x).length : Nat))), some (.int (jI t))] [] w Q := by
  have h64 := S_pow hR6
  have hzl := els_len x 6
  have hbr := big_rm
  have hbr' := rm_138
  have hMB : 0 ≤ MBND := by decide
  have hG : ∀ t : Nat, t < R → x / 2 ^ t % 2 = 1 → els 6 (x - 2 ^ t) = (els 6 x).erase t ∧ (els 6 (x - 2 ^ t)).length = z ∧ 0 ≤ x - 2 ^ t ∧ x - 2 ^ t < x ∧ ((mnr (S 7) (S 8) (x - 2 ^ t)).natAbs : Int) ≤ MBND := by
    intro t ht hb
    have h1 := S_er x0 (by omega) (show t < 6 by omega) hb
    have h2 : (els 6 (x - 2 ^ t)).length = z := by rw [h1.1, List.length_erase_of_mem h1.2.2]; omega
    have h3 := S_pow (show t ≤ 6 by omega)
    refine ⟨h1.1, h2, by omega, by omega, mnr_bound hR6 (by omega) (by omega) (fun i j i0 i1 hj => ?_)⟩
    obtain ⟨k, hk, rfl⟩ := hj
    exact hg i _ i0 i1 ⟨k, by omega, rfl⟩
  have hbit : ∀ i, i ∈ els 6 x → ∀ t : Nat, i = t → x / 2 ^ t % 2 = 1 := by
    intro i hi t ht
    subst ht
    have : ∀ n : Nat, (t : Int) ∈ els n x → x / 2 ^ t % 2 = 1 := by
      intro n
      induction n with
      | zero => intro h; simp [els] at h
      | succ n ih =>
        intro h
        rw [els] at h
        split at h
        · rename_i hb
          rcases List.mem_cons.mp h with e | e
          · have : t = n := by omega
            subst this; exact hb
          · exact ih e
        · exact ih h
    exact this 6 hi
  have hterm : ∀ i, i ∈ els R x → (((S 7 (12 * i + S 8 z) * mnr (S 7) (S 8) (x - 2 ^ i.toNat)).natAbs : Nat) : Int) ≤ 1000000000000000000 * MBND := by
    intro i hi
    have hm := els_mem hi
    obtain ⟨t, rfl⟩ := Int.eq_ofNat_of_zero_le hm.1
    have h1 := hG t (by omega) (hbit t (els_sub hR6 _ hi) t rfl)
    rw [Int.natAbs_mul, Int.natCast_mul, Int.toNat_natCast]
    exact Int.mul_le_mul (hg t _ (by omega) (by omega) ⟨z, by omega, rfl⟩) h1.2.2.2.2 (by omega) (by decide)
  intro c
  induction c with
  | zero =>
    intro t w s r ht hw ho hB hv hr
    have : t = R := by omega
    subst this
    have e1 : s 0 1 = t := by rw [ho 0 (by decide) (by decide) (by decide)]; exact hR
    refine fi_step (pc' := 51) m_Mo_findMinors rfl rfl ?_
    refine fi_step (pc' := 52) m_Mo_findMinors rfl rfl ?_
    refine r_get (p := 55) m_Mo_findMinors rfl rfl (by assumption) rfl ?_
    refine s_ic_ge (p := 58) m_Mo_findMinors rfl rfl (by omega) (by omega) (by omega) (by omega) (fun hbr => ?_) (fun hbr => False.elim (by omega))
    refine K w s r _ _ hw ho hB ?_ hr
    rw [hv, S_cut x0 hR6 x1, hz, sg_even (by omega), Int.one_mul]
    unfold mnr
    rw [hz, plist, detC_nd (S_nd x0 (by omega))]
    refine asum_congr (fun i hi => ?_)
    rw [← S_cut x0 hR6 x1] at hi
    have hm := els_mem hi
    obtain ⟨q, rfl⟩ := Int.eq_ofNat_of_zero_le hm.1
    have h1 := hG q (by omega) (hbit q (els_sub hR6 _ hi) q rfl)
    rw [Int.toNat_natCast, h1.2.1, h1.1]
  | succ c ih =>
    intro t w s r ht hw ho hB hv hr
    have e1 : s 0 1 = R := by rw [ho 0 (by decide) (by decide) (by decide)]; exact hR
    have e7 : s 7 = S 7 := ho 7 (by decide) (by decide) (by decide)
    have e8 : s 8 = S 8 := ho 8 (by decide) (by decide) (by decide)
    have htt : ((t : Nat) : Int).toNat = t := Int.toNat_natCast t
    have hlt := els_len x t
    refine fi_step (pc' := 51) m_Mo_findMinors rfl rfl ?_
    refine fi_step (pc' := 52) m_Mo_findMinors rfl rfl ?_
    refine r_get (p := 55) m_Mo_findMinors rfl rfl (by assumption) rfl ?_
    refine s_ic_ge (p := 58) m_Mo_findMinors rfl rfl (by omega) (by omega) (by omega) (by omega) (fun hbr => False.elim (by omega)) (fun hbr => ?_)
    refine fi_step (pc' := 59) m_Mo_findMinors rfl rfl ?_
    refine fi_step (pc' := 61) m_Mo_findMinors rfl rfl ?_
    refine b_ishr (p := 62) m_Mo_findMinors rfl rfl (by omega) (by omega) (by omega) (by omega) ?_
    refine fi_step (pc' := 63) m_Mo_findMinors rfl rfl ?_
    refine b_iand (p := 64) m_Mo_findMinors rfl rfl  ?_
    refine fi_step (pc' := 65) m_Mo_findMinors rfl rfl ?_
    refine s_ic_ne (p := 68) m_Mo_findMinors rfl rfl (by omega) (by omega) (by omega) (by omega) (fun h => ?_) (fun h => ?_)
    · rw [htt] at h
      have e : els (t + 1) x = els t x := by rw [els, if_neg h]
      refine s_iinc (p := 149) m_Mo_findMinors rfl rfl rfl ?_
      refine fi_step (pc' := 49) m_Mo_findMinors rfl rfl ?_
      have := ih (t + 1) w s r (by omega) hw ho hB (by rw [e]; exact hv) hr
      rw [e] at this
      exact this
    · have hh := h
      rw [htt] at hh
      have e : els (t + 1) x = (t : Int) :: els t x := by rw [els, if_pos hh]
      have h1 := hG t (by omega) hh
      have hpz := hp z (by omega)
      have hgz := hg t (S 8 z) (by omega) (by omega) ⟨z, by omega, rfl⟩
      have h3 := S_pow (show t ≤ 6 by omega)
      have h3' : (2 : Int) ^ t ≤ 32 := by
        have : ∀ q : Fin 6, (2 : Int) ^ (q : Nat) ≤ 32 := by decide
        exact this ⟨t, by omega⟩
      have e8z : s 8 (((z + 1 : Nat) : Int) - 1) = S 8 z := by rw [e8, show ((z + 1 : Nat) : Int) - 1 = (z : Int) by omega]
      have e7z : s 7 (12 * (t : Int) + s 8 (((z + 1 : Nat) : Int) - 1)) = S 7 (12 * t + S 8 z) := by rw [e8z, e7]
      have acc : ((r (36 + x)).natAbs : Int) ≤ 6 * (1000000000000000000 * MBND) := by
        have b1 := asum_bound (f := fun i => S 7 (12 * i + S 8 z) * mnr (S 7) (S 8) (x - 2 ^ i.toNat)) (c := 1000000000000000000 * MBND) (xs := els t x) (fun i hi => hterm i (els_sub (show t ≤ R by omega) _ hi))
        have b2 : ((els t x).length : Int) * (1000000000000000000 * MBND) ≤ 6 * (1000000000000000000 * MBND) := Int.mul_le_mul_of_nonneg_right (by omega) (by omega)
        rw [hv]
        unfold sg; split
        · rw [Int.one_mul]; omega
        · rw [Int.neg_one_mul]; omega
      have term := hterm t (by rw [show R = (t + 1) + (R - (t + 1)) by omega]; exact els_sub (show t + 1 ≤ t + 1 + (R - (t + 1)) by omega) _ (by rw [e]; exact List.mem_cons_self ..))
      rw [htt] at term
      have p0 : 0 ≤ s 8 (((z + 1 : Nat) : Int) - 1) ∧ s 8 (((z + 1 : Nat) : Int) - 1) < 12 := by rw [e8z]; exact hpz
      refine fi_step (pc' := 69) m_Mo_findMinors rfl rfl ?_
      refine s_sipush (p := 72) m_Mo_findMinors rfl rfl rfl ?_
      refine fi_step (pc' := 73) m_Mo_findMinors rfl rfl ?_
      refine r_get (p := 76) m_Mo_findMinors rfl rfl (by assumption) rfl ?_
      refine s_bipush (p := 78) m_Mo_findMinors rfl rfl rfl ?_
      refine fi_step (pc' := 80) m_Mo_findMinors rfl rfl ?_
      refine s_imul (p := 81) m_Mo_findMinors rfl rfl ?_
      refine fi_step (pc' := 82) m_Mo_findMinors rfl rfl ?_
      refine r_get (p := 85) m_Mo_findMinors rfl rfl (by assumption) rfl ?_
      refine fi_step (pc' := 86) m_Mo_findMinors rfl rfl ?_
      refine fi_step (pc' := 87) m_Mo_findMinors rfl rfl ?_
      refine s_isub (p := 88) m_Mo_findMinors rfl rfl ?_
      refine r_ldI (p := 89) m_Mo_findMinors rfl rfl (by assumption) (by decide) rfl (by decide) (by omega) (by omega) ?_
      refine s_iadd (p := 90) m_Mo_findMinors rfl rfl ?_
      refine r_ldL (p := 91) m_Mo_findMinors rfl rfl (by assumption) (by decide) rfl (by decide) (by omega) (by omega) ?_
      rw [e7z]
      refine g_3 (p := 94) m_Mo_findMinors rfl inv_v (by decide) m_Mo_bigSet rfl rfl (by omega) (by omega) (Nat.le_of_ble_eq_true rfl) (Nat.le_of_ble_eq_true rfl) (RW_rcv hw _) (c_bigSet hw hB (by decide) (by decide) (by omega) (by omega)) (fun v w hP => ?_)
      obtain ⟨rfl, s1, hw, o1, B1⟩ := hP
      rw [htt] at h
      have R1 : up1 r 268 (S 7 (12 * t + S 8 z)) 268 = S 7 (12 * t + S 8 z) := up1_same _ _ _
      have R2 : up1 r 268 (S 7 (12 * t + S 8 z)) (36 + (x - 2 ^ t)) = mnr (S 7) (S 8) (x - 2 ^ t) := by
        rw [up1_ne _ (by omega), hr _ (by omega) (by omega) (by omega)]; exact hprev _ h1.2.2.1 h1.2.2.2.1 h1.2.1
      have mulb : ((S 7 (12 * t + S 8 z)).natAbs : Int) * ((mnr (S 7) (S 8) (x - 2 ^ t)).natAbs : Int) ≤ 1000000000000000000 * MBND := by
        rw [← Int.natCast_mul, ← Int.natAbs_mul]; exact term
      refine fi_step (pc' := 95) m_Mo_findMinors rfl rfl ?_
      refine s_sipush (p := 98) m_Mo_findMinors rfl rfl rfl ?_
      refine s_sipush (p := 101) m_Mo_findMinors rfl rfl rfl ?_
      refine s_bipush (p := 103) m_Mo_findMinors rfl rfl rfl ?_
      refine fi_step (pc' := 104) m_Mo_findMinors rfl rfl ?_
      refine fi_step (pc' := 105) m_Mo_findMinors rfl rfl ?_
      refine fi_step (pc' := 107) m_Mo_findMinors rfl rfl ?_
      refine b_ishl (p := 108) m_Mo_findMinors rfl rfl (by first | omega | (rw [htt]; first | omega | assumption)) (by first | omega | (rw [htt]; first | omega | assumption)) ?_
      refine fi_step (pc' := 109) m_Mo_findMinors rfl rfl ?_
      refine b_ixor (p := 110) m_Mo_findMinors rfl rfl (by first | omega | (rw [htt]; first | omega | assumption)) (by first | omega | (rw [htt]; first | omega | assumption)) ?_
      refine b_andn (p := 111) m_Mo_findMinors rfl rfl (by first | omega | (rw [htt]; first | omega | assumption)) (by first | omega | (rw [htt]; first | omega | assumption)) (by first | omega | (rw [htt]; first | omega | assumption)) (by first | omega | (rw [htt]; first | omega | assumption)) ?_
      refine s_iadd (p := 112) m_Mo_findMinors rfl rfl ?_
      rw [htt]
      refine g_4 (p := 115) m_Mo_findMinors rfl inv_v (by decide) m_Mo_bigProduct rfl rfl (by omega) (by omega) (Nat.le_of_ble_eq_true rfl) (Nat.le_of_ble_eq_true rfl) (RW_rcv hw _) (c_bigProduct (by omega) (by omega) hw B1 (by decide) (by decide) (by decide) (by decide) (by omega) (by omega) (by decide) (by omega) (by rw [R1, R2]; omega)) (fun v w hP => ?_)
      obtain ⟨rfl, s2, hw, o2, B2⟩ := hP
      rw [R1, R2] at B2
      generalize hT : S 7 (12 * t + S 8 z) * mnr (S 7) (S 8) (x - 2 ^ t) = T at B2 term
      have R3 : up1 (up1 r 268 (S 7 (12 * t + S 8 z))) 269 T (36 + x) = r (36 + x) := by rw [up1_ne _ (by omega), up1_ne _ (by omega)]
      have R4 : up1 (up1 r 268 (S 7 (12 * t + S 8 z))) 269 T 269 = T := up1_same _ _ _
      have fin1 : ∀ (li : Int) (w1 : ax_W), RW w0 w1 s2 → ((li = 0 ∧ ((els t x).length + z) % 2 = 0) ∨ (li = 1 ∧ ((els t x).length + z) % 2 = 1)) → fin xs fr lo 150 140 [some (.ref 425), some (.int (jI n)), some (.int (jI x)), some (.int (jI (z + 1 : Nat))), some (.int (jI ((els t x).length : Nat))), some (.int (jI t))] [.int (jI li), .int (jI 269), .int (jI (36 + x)), .ref 425] w1 Q := by
        intro li w1 hw hl
        refine g_4 (p := 143) m_Mo_findMinors rfl inv_v (by decide) m_Mo_bigAdd rfl rfl (by omega) (by omega) (Nat.le_of_ble_eq_true rfl) (Nat.le_of_ble_eq_true rfl) (RW_rcv hw _) (c_bigAdd (by omega) (by omega) hw B2 (by omega) (by omega) (by decide) (by decide) (by omega) (by omega) (by rw [R3, R4]; omega)) (fun v w hP => ?_)
        obtain ⟨rfl, s3, hw, o3, B3⟩ := hP
        rw [R3, R4] at B3
        refine s_iinc (p := 146) m_Mo_findMinors rfl rfl rfl ?_
        refine s_iinc (p := 149) m_Mo_findMinors rfl rfl rfl ?_
        refine fi_step (pc' := 49) m_Mo_findMinors rfl rfl ?_
        have := ih (t + 1) w s3 _ (by omega) hw (oth_trans ho (oth_trans o1 (oth_trans o2 o3))) B3 ?_ ?_
        · rw [e, List.length_cons] at this
          exact this
        · rw [up1_same, e, List.length_cons, asum, htt, hT]
          rw [hv] 
          rcases hl with ⟨rfl, hpar⟩ | ⟨rfl, hpar⟩
          · rw [if_neg (by decide), sg_odd (n := (els t x).length + (z + 1)) (by omega), sg_even (by omega)]; omega
          · rw [if_pos rfl, sg_even (n := (els t x).length + (z + 1)) (by omega), sg_odd (by omega)]; omega
        · intro k k1 k2 k3
          rw [up1_ne _ k1, up1_ne _ k3, up1_ne _ k2]; exact hr k k1 k2 k3
      refine fi_step (pc' := 116) m_Mo_findMinors rfl rfl ?_
      refine s_bipush (p := 118) m_Mo_findMinors rfl rfl rfl ?_
      refine fi_step (pc' := 119) m_Mo_findMinors rfl rfl ?_
      refine s_iadd (p := 120) m_Mo_findMinors rfl rfl ?_
      refine s_sipush (p := 123) m_Mo_findMinors rfl rfl rfl ?_
      refine fi_step (pc' := 125) m_Mo_findMinors rfl rfl ?_
      refine fi_step (pc' := 126) m_Mo_findMinors rfl rfl ?_
      refine s_iadd (p := 127) m_Mo_findMinors rfl rfl ?_
      refine fi_step (pc' := 128) m_Mo_findMinors rfl rfl ?_
      refine s_isub (p := 129) m_Mo_findMinors rfl rfl ?_
      refine fi_step (pc' := 130) m_Mo_findMinors rfl rfl ?_
      refine s_irem (p := 131) m_Mo_findMinors rfl rfl (by omega) (by omega) (by omega) (by omega) ?_
      refine fi_step (pc' := 132) m_Mo_findMinors rfl rfl ?_
      refine s_ic_ne (p := 135) m_Mo_findMinors rfl rfl (by omega) (by omega) (by omega) (by omega) (fun hs => ?_) (fun hs => ?_)
      · refine fi_step (pc' := 140) m_Mo_findMinors rfl rfl ?_
        exact fin1 0 w hw (Or.inl ⟨rfl, by omega⟩)
      · refine fi_step (pc' := 136) m_Mo_findMinors rfl rfl ?_
        refine fi_step (pc' := 140) m_Mo_findMinors rfl rfl ?_
        exact fin1 1 w hw (Or.inr ⟨rfl, by omega⟩)
end FM
