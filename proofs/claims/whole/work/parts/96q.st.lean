/-! THE CLASS: a row is lowered by another, by all others; rows loaded -/
theorem fdiv_le {x y : Int} (hy : 0 < y) : ((x / y).natAbs : Int) ≤ x.natAbs := by
  by_cases hx : 0 ≤ x
  · have h1 := Int.ediv_nonneg hx (Int.le_of_lt hy)
    have h2 := Int.ediv_le_self y hx
    omega
  · have h1 : x ≤ x / y := by
      rw [Int.le_ediv_iff_mul_le hy]
      have : x * y ≤ x * 1 := Int.mul_le_mul_of_nonpos_left (by omega) (by omega)
      omega
    have h2 : x / y < 0 := Int.ediv_neg_of_neg_of_pos (by omega) hy
    omega
/-- the row x, less a multiple of the row y, by column c -/
def lowV (x y : Vec) (c : Int) : Vec := fun j => x j - x c / y c * y j
theorem lowV_c (x y : Vec) (c : Int) : lowV x y c c = x c % y c := by
  unfold lowV; rw [Int.emod_def, Int.mul_comm]
section LOW
variable {xs : List Int32} {fr lo : Nat} {w0 w : ax_W} {s : mo_S} {v : Nat → Int} {L Z : Nat}
theorem low_loop {p q c W t u m : Nat} {x y : Vec} {Qt : Int} {v0 : Nat → Int} (hfr : 4 ≤ fr) (hlo : 240 ≤ lo) (hp : p < 7) (hq : q < 7) (hpq : p ≠ q) (hW : s 0 4 = W) (W12 : W ≤ 12) (hcW : c < W) (hx : ∀ j : Int, ((x j).natAbs : Int) < 1000000000 ^ t) (hy : ∀ j : Int, ((y j).natAbs : Int) < 1000000000 ^ m) (hQ : ((Qt).natAbs : Int) < 1000000000 ^ u) (ht : t ≤ 665) (hum : u + m ≤ 667) (hyq : PR v0 q = y) :
    ∀ (n j : Nat) (w : ax_W) (v : Nat → Int), j + n = W → c < j → CW w0 w s v L Z → v 233 = Qt → kpL p v0 v → (∀ j' : Nat, j' < 12 → v (238 + 26 * p + 2 * j') = if c ≤ j' ∧ j' < j then x j' - Qt * y j' else x j') →
    fin xs fr lo 62 38 [some (.ref 232), some (.ref (236 + 26 * p)), some (.ref (236 + 26 * q)), some (.int (jI (c : Int))), some (.int (jI (j : Int)))] [] w (Ret fun u w' => u = none ∧ ∃ v', CW w0 w' s v' L Z ∧ kpL p v0 v' ∧ ∀ j' : Nat, j' < 12 → v' (238 + 26 * p + 2 * j') = if c ≤ j' ∧ j' < W then x j' - Qt * y j' else x j') := by
  intro n
  induction n with
  | zero =>
    intro j w v hj hcj hC h233 hk hv
    obtain rfl : j = W := by omega
    refine fi_step (pc' := 40) m_St_lower rfl rfl ?_
    refine fi_step (pc' := 41) m_St_lower rfl rfl ?_
    refine k_get (p := 44) m_St_lower rfl rfl (by first | exact C_print hC | exact C_minors hC | exact C_stairs hC | exact (CW_cst hC).2.1 | exact C_mat hC (by omega) | exact ((CW_cst hC).2.2.2.2.2.2 _ (by omega)).1 | assumption) rfl ?_
    refine s_ic_ge (p := 47) m_St_lower rfl rfl (by omega) (by omega) (by omega) (by omega) (fun hbr => ?_) (fun hbr => False.elim (by omega))
    refine p_ret m_St_lower rfl rfl ?_
    exact ⟨rfl, v, hC, hk, hv⟩
  | succ n ih =>
    intro j w v hj hcj hC h233 hk hv
    refine fi_step (pc' := 40) m_St_lower rfl rfl ?_
    refine fi_step (pc' := 41) m_St_lower rfl rfl ?_
    refine k_get (p := 44) m_St_lower rfl rfl (by first | exact C_print hC | exact C_minors hC | exact C_stairs hC | exact (CW_cst hC).2.1 | exact C_mat hC (by omega) | exact ((CW_cst hC).2.2.2.2.2.2 _ (by omega)).1 | assumption) rfl ?_
    refine s_ic_ge (p := 47) m_St_lower rfl rfl (by omega) (by omega) (by omega) (by omega) (fun hbr => False.elim (by omega)) (fun hbr => ?_)
    refine fi_step (pc' := 48) m_St_lower rfl rfl ?_
    refine k_get (p := 51) m_St_lower rfl rfl (by first | exact C_print hC | exact C_minors hC | exact C_stairs hC | exact (CW_cst hC).2.1 | exact C_mat hC (by omega) | exact ((CW_cst hC).2.2.2.2.2.2 _ (by omega)).1 | assumption) rfl ?_
    refine fi_step (pc' := 53) m_St_lower rfl rfl ?_
    refine r_ldN (p := 54) m_St_lower rfl rfl hC hp (by omega) (by omega) ?_
    rw [Int.toNat_natCast]
    refine fi_step (pc' := 55) m_St_lower rfl rfl ?_
    refine k_get (p := 58) m_St_lower rfl rfl (by first | exact C_print hC | exact C_minors hC | exact C_stairs hC | exact (CW_cst hC).2.1 | exact C_mat hC (by omega) | exact ((CW_cst hC).2.2.2.2.2.2 _ (by omega)).1 | assumption) rfl ?_
    refine fi_step (pc' := 59) m_St_lower rfl rfl ?_
    refine k_get (p := 62) m_St_lower rfl rfl (by first | exact C_print hC | exact C_minors hC | exact C_stairs hC | exact (CW_cst hC).2.1 | exact C_mat hC (by omega) | exact ((CW_cst hC).2.2.2.2.2.2 _ (by omega)).1 | assumption) rfl ?_
    refine fi_step (pc' := 64) m_St_lower rfl rfl ?_
    refine r_ldN (p := 65) m_St_lower rfl rfl hC hq (by omega) (by omega) ?_
    rw [Int.toNat_natCast]
    have iA : isWh (238 + 26 * p + 2 * j) := i_row hp (by omega)
    have iB : isWh (238 + 26 * q + 2 * j) := i_row hq (by omega)
    have vA : v (238 + 26 * p + 2 * j) = x j := by rw [hv j (by omega), if_neg (by omega)]
    have vB : v (238 + 26 * q + 2 * j) = y j := by rw [← PR_at v q (by omega), kpL_PR hk (by omega), hyq]
    have hxj := hx j
    have hyj := hy j
    refine fi_step (pc' := 66) m_St_lower rfl rfl ?_
    refine g_4 (p := 69) m_St_lower rfl inv_v (by decide) m_Wh_addProduct rfl rfl (by omega) (by omega) (Nat.le_of_ble_eq_true rfl) (Nat.le_of_ble_eq_true rfl) (C_rcvW hC (by first | assumption | exact rfl) _) (cn_addProduct (sg := -1) (k0 := t) (k1 := u) (k2 := m) hC iA i233 iB (by omega) (by omega) (Or.inr rfl) (by rw [vA]; exact hxj) (by rw [h233]; exact hQ) (by rw [vB]; exact hyj) (by rw [cap_row]; omega) (by rw [cap_row]; omega) (by omega) (by omega)) (fun v w hP => ?_)
    obtain ⟨rfl, hC⟩ := hP
    rw [vA, vB, h233] at hC
    refine s_iinc (p := 72) m_St_lower rfl rfl rfl ?_
    refine fi_step (pc' := 38) m_St_lower rfl rfl ?_
    rw [show (j : Int) + 1 = ((j + 1 : Nat) : Int) by omega]
    refine ih (j + 1) w _ (by omega) (by omega) hC (by rw [upv_ne _ (by omega)]; exact h233) (fun c' a b d => by rw [upv_ne _ (a j (by omega)), hk c' a b d]) (fun j' hj' => ?_)
    by_cases e : j' = j
    · subst e; rw [upv_same, if_pos (by omega)]; omega
    · rw [upv_ne _ (by omega), hv j' hj']
      by_cases e' : c ≤ j' ∧ j' < j
      · rw [if_pos e', if_pos (by omega)]
      · rw [if_neg e', if_neg (by omega)]
theorem st_lower {p q c W t u m kb : Nat} (hC : CW w0 w s v L Z) (hfr : 5 ≤ fr) (hlo : 270 ≤ lo) (v27 : v 27 = 1) (hp : p < 7) (hq : q < 7) (hpq : p ≠ q) (hW : s 0 4 = W) (W12 : W ≤ 12) (hcW : c < W) (hx : ∀ j : Int, ((PR v p j).natAbs : Int) < 1000000000 ^ t) (hy : ∀ j : Int, ((PR v q j).natAbs : Int) < 1000000000 ^ m) (hQ : ((PR v p c / PR v q c).natAbs : Int) < 1000000000 ^ u) (ht : t ≤ 665) (hum : u + m ≤ 667) (pos : 0 < PR v q c) (hz : ∀ j : Int, j < c → PR v q j = 0) (hzW : ∀ j : Int, W ≤ j → PR v q j = 0) (kx : ((PR v p c).natAbs : Int) < 1000000000 ^ kb) (ky : PR v q c < 1000000000 ^ kb) (hkb : kb ≤ 665) :
    fin xs fr lo 62 0 (ax_ent [.ref 232, .ref (236 + 26 * p), .ref (236 + 26 * q), .int (jI (c : Int))] 5) [] w (Ret fun u w' => u = none ∧ ∃ v', CW w0 w' s v' L Z ∧ kpL p v v' ∧ PR v' p = lowV (PR v p) (PR v q) c) := by
  have eA := PR_at v p (show c < 12 by omega)
  have eB := PR_at v q (show c < 12 by omega)
  have iA : isWh (238 + 26 * p + 2 * c) := i_row hp (by omega)
  have iB : isWh (238 + 26 * q + 2 * c) := i_row hq (by omega)
  refine fi_step (pc' := 1) m_St_lower rfl rfl ?_
  refine k_get (p := 4) m_St_lower rfl rfl (by first | exact C_print hC | exact C_minors hC | exact C_stairs hC | exact (CW_cst hC).2.1 | exact C_mat hC (by omega) | exact ((CW_cst hC).2.2.2.2.2.2 _ (by omega)).1 | assumption) rfl ?_
  refine fi_step (pc' := 5) m_St_lower rfl rfl ?_
  refine k_get (p := 8) m_St_lower rfl rfl (by first | exact C_print hC | exact C_minors hC | exact C_stairs hC | exact (CW_cst hC).2.1 | exact C_mat hC (by omega) | exact ((CW_cst hC).2.2.2.2.2.2 _ (by omega)).1 | assumption) rfl ?_
  refine fi_step (pc' := 9) m_St_lower rfl rfl ?_
  refine r_ldN (p := 10) m_St_lower rfl rfl hC hp (by omega) (by omega) ?_
  rw [Int.toNat_natCast]
  refine fi_step (pc' := 11) m_St_lower rfl rfl ?_
  refine k_get (p := 14) m_St_lower rfl rfl (by first | exact C_print hC | exact C_minors hC | exact C_stairs hC | exact (CW_cst hC).2.1 | exact C_mat hC (by omega) | exact ((CW_cst hC).2.2.2.2.2.2 _ (by omega)).1 | assumption) rfl ?_
  refine fi_step (pc' := 15) m_St_lower rfl rfl ?_
  refine r_ldN (p := 16) m_St_lower rfl rfl hC hq (by omega) (by omega) ?_
  rw [Int.toNat_natCast]
  refine fi_step (pc' := 17) m_St_lower rfl rfl ?_
  refine k_get (p := 20) m_St_lower rfl rfl (by first | exact C_print hC | exact C_minors hC | exact C_stairs hC | exact (CW_cst hC).2.1 | exact C_mat hC (by omega) | exact ((CW_cst hC).2.2.2.2.2.2 _ (by omega)).1 | assumption) rfl ?_
  refine g_4 (p := 23) m_St_lower rfl inv_v (by decide) m_Di_divide rfl rfl (by omega) (by omega) (Nat.le_of_ble_eq_true rfl) (Nat.le_of_ble_eq_true rfl) (C_rcvV hC _) (cn_divide (kb := kb) hC iA iB i233 (by omega) (by omega) (by omega) (by omega) (by omega) (by omega) (by omega) (by omega) v27 (by rw [← eB]; exact pos) (by rw [← eA]; exact kx) (by rw [← eB]; exact ky) (by rw [cap_row]; omega) (by rw [cap233]; omega) (by omega) (by omega) (by omega)) (fun v w hP => ?_)
  obtain ⟨rfl, r, hC⟩ := hP
  rw [← eA, ← eB] at hC
  obtain ⟨x, hxe⟩ : ∃ x, x = PR v p := ⟨_, rfl⟩
  obtain ⟨y, hye⟩ : ∃ y, y = PR v q := ⟨_, rfl⟩
  rw [← hxe] at hx hQ kx eA hC ⊢
  rw [← hye] at hy hQ pos hz hzW ky eB hC ⊢
  obtain ⟨Qt, hQt⟩ : ∃ Q, Q = x c / y c := ⟨_, rfl⟩
  rw [← hQt] at hQ hC
  obtain ⟨v1, hv1⟩ : ∃ v1, v1 = upv (upv (upv v 19 r) (238 + 26 * p + 2 * c) (x c % y c)) 233 Qt := ⟨_, rfl⟩
  rw [← hv1] at hC
  have k1 : kpL p v v1 := fun c' a b d => by rw [hv1, upv_ne _ d, upv_ne _ (a c (by omega)), upv_ne _ b]
  have hmod : x c % y c = x c - Qt * y c := by rw [hQt, Int.emod_def, Int.mul_comm]
  have hcol : ∀ j' : Nat, j' < 12 → v1 (238 + 26 * p + 2 * j') = if c ≤ j' ∧ j' < c + 1 then x j' - Qt * y j' else x j' := by
    intro j' hj'
    rw [hv1, upv_ne _ (by omega)]
    by_cases e : j' = c
    · subst e; rw [upv_same, if_pos (by omega), hmod]
    · rw [upv_ne _ (by omega), upv_ne _ (by omega), if_neg (by omega), hxe, PR_at v p hj']
  have fin1 : ∀ v' : Nat → Int, (∀ j' : Nat, j' < 12 → v' (238 + 26 * p + 2 * j') = if c ≤ j' ∧ j' < W then x j' - Qt * y j' else x j') → PR v' p = lowV x y c := by
    intro v' h
    refine PR_eq (fun j hj => ?_) (fun j hj => ?_)
    · rw [h j hj]
      unfold lowV
      rw [← hQt]
      by_cases e : c ≤ j ∧ j < W
      · rw [if_pos e]
      · rw [if_neg e]
        have : y j = 0 := by
          by_cases e' : j < c
          · exact hz j (by omega)
          · exact hzW j (by omega)
        rw [this]; simp
    · unfold lowV
      rw [hxe, hye, PR_out v p hj, PR_out v q hj]; simp
  have h233 : v1 233 = Qt := by rw [hv1, upv_same]
  by_cases h0 : Qt = 0
  · have hh := cn_isZero (xs := xs) (fr := fr - 1) (lo := lo - 20) hC i233
    rw [h233, if_pos h0] at hh
    refine fi_step (pc' := 24) m_St_lower rfl rfl ?_
    refine k_get (p := 27) m_St_lower rfl rfl (by first | exact C_print hC | exact C_minors hC | exact C_stairs hC | exact (CW_cst hC).2.1 | exact C_mat hC (by omega) | exact ((CW_cst hC).2.2.2.2.2.2 _ (by omega)).1 | assumption) rfl ?_
    refine c_1 (p := 30) m_St_lower rfl inv_v (by decide) m_Wh_isZero rfl rfl (by omega) (by omega) (Nat.le_of_ble_eq_true rfl) (Nat.le_of_ble_eq_true rfl) (C_rcvW hC (by first | assumption | exact rfl) _) hh ?_
    refine s_if_ne (p := 33) m_St_lower rfl rfl (by omega) (by omega) (fun hbr => ?_) (fun hbr => False.elim (by omega))
    refine p_ret m_St_lower rfl rfl ?_
    refine ⟨rfl, v1, hC, k1, fin1 v1 (fun j' hj' => ?_)⟩
    rw [hcol j' hj', h0]
    split <;> split <;> simp
  · have hh := cn_isZero (xs := xs) (fr := fr - 1) (lo := lo - 20) hC i233
    rw [h233, if_neg h0] at hh
    refine fi_step (pc' := 24) m_St_lower rfl rfl ?_
    refine k_get (p := 27) m_St_lower rfl rfl (by first | exact C_print hC | exact C_minors hC | exact C_stairs hC | exact (CW_cst hC).2.1 | exact C_mat hC (by omega) | exact ((CW_cst hC).2.2.2.2.2.2 _ (by omega)).1 | assumption) rfl ?_
    refine c_1 (p := 30) m_St_lower rfl inv_v (by decide) m_Wh_isZero rfl rfl (by omega) (by omega) (Nat.le_of_ble_eq_true rfl) (Nat.le_of_ble_eq_true rfl) (C_rcvW hC (by first | assumption | exact rfl) _) hh ?_
    refine s_if_ne (p := 33) m_St_lower rfl rfl (by omega) (by omega) (fun hbr => False.elim (by omega)) (fun hbr => ?_)
    refine fi_step (pc' := 34) m_St_lower rfl rfl ?_
    refine fi_step (pc' := 35) m_St_lower rfl rfl ?_
    refine s_iadd (p := 36) m_St_lower rfl rfl ?_
    refine fi_step (pc' := 38) m_St_lower rfl rfl ?_
    rw [show (c : Int) + 1 = ((c + 1 : Nat) : Int) by omega]
    refine fi_mono (low_loop (x := x) (y := y) (v0 := v) (by omega) (by omega) hp hq hpq hW W12 hcW hx hy hQ ht hum hye.symm (W - (c + 1)) (c + 1) w v1 (by omega) (by omega) hC h233 k1 hcol) (fun o w' ⟨u, e, hu, v', h1, h2, h3⟩ => ⟨u, e, hu, v', h1, h2, fin1 v' h3⟩)
/-- rows that are kept: their leads, zeros before and behind, sizes -/
def KR (s : mo_S) (v : Nat → Int) (W f n : Nat) (M : Int) : Prop := ∀ i : Nat, f ≤ i → i < n → (0 ≤ s 5 i ∧ s 5 i < W) ∧ 0 < PR v (s 6 i).toNat (s 5 i) ∧ (∀ j : Int, j < s 5 i → PR v (s 6 i).toNat j = 0) ∧ (∀ j : Int, W ≤ j → PR v (s 6 i).toNat j = 0) ∧ (∀ j : Int, ((PR v (s 6 i).toNat j).natAbs : Int) ≤ M) ∧ ∀ k : Nat, i < k → k < n → s 5 i < s 5 k
theorem KR_sub {s : mo_S} {v : Nat → Int} {W f f' n : Nat} {M : Int} (h : KR s v W f n M) (hf : f ≤ f') : KR s v W f' n M := fun i a b => h i (by omega) b
theorem KR_keep {s : mo_S} {v v' : Nat → Int} {W f n p : Nat} {M : Int} (h : KR s v W f n M) (hk : kpL p v v') (hne : ∀ i : Nat, f ≤ i → i < n → (s 6 i).toNat ≠ p) : KR s v' W f n M := fun i a b => by rw [kpL_PR hk (hne i a b)]; exact h i a b
/-- what settling comes to -/
def stl (s : mo_S) (v : Nat → Int) (f n : Nat) (x x' : Vec) : Prop := (∀ i : Nat, f ≤ i → i < n → 0 ≤ x' (s 5 i) ∧ x' (s 5 i) < PR v (s 6 i).toNat (s 5 i)) ∧ (∀ j : Int, (∀ i : Nat, f ≤ i → i < n → j < s 5 i) → x' j = x j) ∧ sp (fam (fun i => PR v (s 6 i).toNat) (n - f) f) (fun j => x j - x' j)
theorem B_step {X M x q y : Int} {t m : Nat} (hX : X = 1000000000 ^ t) (hM : M < 1000000000 ^ m) (hx : (x.natAbs : Int) < X) (hq : (q.natAbs : Int) < X) (hy : (y.natAbs : Int) ≤ M) : ((x - q * y).natAbs : Int) < 1000000000 ^ (t + m) := by
  have h1 : (((q * y).natAbs : Nat) : Int) ≤ (X - 1) * M := mul_size (by omega) hy
  have h2 : (X - 1) * (M + 1) ≤ (X - 1) * 1000000000 ^ m := Int.mul_le_mul_of_nonneg_left (by omega) (by omega)
  have h3 : (X - 1) * (M + 1) = (X - 1) * M + (X - 1) := by rw [Int.mul_add, Int.mul_one]
  have h4 : (X - 1) * 1000000000 ^ m = 1000000000 ^ (t + m) - 1000000000 ^ m := by rw [hX, Int.sub_mul, Int.one_mul, Int.pow_add]
  have h5 : (0 : Int) < 1000000000 ^ m := Int.pow_pos (by decide)
  omega
theorem stl_loop {p f n W : Nat} {M : Int} {v0 : Nat → Int} (hfr : 6 ≤ fr) (hlo : 300 ≤ lo) (v27 : v0 27 = 1) (hp : p < 7) (hn : n ≤ 6) (h3 : s 0 3 = n) (hW : s 0 4 = W) (W12 : W ≤ 12) (hM : M < 1000000000 ^ 25) (hK : KR s v0 W f n M) (hne : ∀ i : Nat, f ≤ i → i < n → (s 6 i).toNat ≠ p ∧ 0 ≤ s 6 i ∧ s 6 i < 7) :
    ∀ (k i t : Nat) (w : ax_W) (v : Nat → Int), i + k = n → f ≤ i → CW w0 w s v L Z → kpL p v0 v → 25 ≤ t → t + 25 * k ≤ 665 → (∀ j : Int, ((PR v p j).natAbs : Int) < 1000000000 ^ t) → stl s v0 f i (PR v0 p) (PR v p) →
    fin xs fr lo 72 2 [some (.ref 232), some (.ref (236 + 26 * p)), some (.int (jI (f : Int))), some (.int (jI (i : Int)))] [] w (Ret fun u w' => u = none ∧ ∃ v', CW w0 w' s v' L Z ∧ kpL p v0 v' ∧ (∀ j : Int, ((PR v' p j).natAbs : Int) < 1000000000 ^ (t + 25 * k)) ∧ stl s v0 f n (PR v0 p) (PR v' p)) := by
  intro k
  induction k with
  | zero =>
    intro i t w v hi hf hC hk ht25 ht hx hs
    obtain rfl : i = n := by omega
    refine fi_step (pc' := 3) m_St_settle rfl rfl ?_
    refine fi_step (pc' := 4) m_St_settle rfl rfl ?_
    refine k_get (p := 7) m_St_settle rfl rfl (by first | exact C_print hC | exact C_minors hC | exact C_stairs hC | exact (CW_cst hC).2.1 | exact C_mat hC (by omega) | exact ((CW_cst hC).2.2.2.2.2.2 _ (by omega)).1 | assumption) rfl ?_
    refine s_ic_ge (p := 10) m_St_settle rfl rfl (by omega) (by omega) (by omega) (by omega) (fun hbr => ?_) (fun hbr => False.elim (by omega))
    refine p_ret m_St_settle rfl rfl ?_
    exact ⟨rfl, v, hC, hk, by simpa using hx, hs⟩
  | succ k ih =>
    intro i t w v hi hf hC hk ht25 ht hx hs
    have hKi := KR_keep hK hk (fun i a b => (hne i a b).1) i hf (by omega)
    obtain ⟨⟨l0, l1⟩, lp, lz, lW, lM, linc⟩ := hKi
    obtain ⟨n1, n2, n3⟩ := hne i hf (by omega)
    obtain ⟨c, hc⟩ := Int.eq_ofNat_of_zero_le l0
    obtain ⟨q, hq⟩ : ∃ q, q = (s 6 i).toNat := ⟨_, rfl⟩
    have hc' : s 5 (i : Int) = (c : Int) := hc
    rw [hc'] at l1 lp lz
    rw [← hq] at lp lz lW lM n1
    have v27' : v 27 = 1 := by rw [hk 27 (fun j hj => by omega) (by omega) (by omega)]; exact v27
    have hQ : ((PR v p c / PR v q c).natAbs : Int) < 1000000000 ^ t := Int.lt_of_le_of_lt (fdiv_le lp) (hx c)
    have hyM : ∀ j : Int, ((PR v q j).natAbs : Int) < 1000000000 ^ 25 := fun j => Int.lt_of_le_of_lt (lM j) hM
    have hB25 : (1000000000 : Int) ^ 25 ≤ 1000000000 ^ t := pow_mono (by decide) ht25
    have hyc := hyM c
    refine fi_step (pc' := 3) m_St_settle rfl rfl ?_
    refine fi_step (pc' := 4) m_St_settle rfl rfl ?_
    refine k_get (p := 7) m_St_settle rfl rfl (by first | exact C_print hC | exact C_minors hC | exact C_stairs hC | exact (CW_cst hC).2.1 | exact C_mat hC (by omega) | exact ((CW_cst hC).2.2.2.2.2.2 _ (by omega)).1 | assumption) rfl ?_
    refine s_ic_ge (p := 10) m_St_settle rfl rfl (by omega) (by omega) (by omega) (by omega) (fun hbr => False.elim (by omega)) (fun hbr => ?_)
    refine fi_step (pc' := 11) m_St_settle rfl rfl ?_
    refine fi_step (pc' := 12) m_St_settle rfl rfl ?_
    refine fi_step (pc' := 13) m_St_settle rfl rfl ?_
    refine k_get (p := 16) m_St_settle rfl rfl (by first | exact C_print hC | exact C_minors hC | exact C_stairs hC | exact (CW_cst hC).2.1 | exact C_mat hC (by omega) | exact ((CW_cst hC).2.2.2.2.2.2 _ (by omega)).1 | assumption) rfl ?_
    refine fi_step (pc' := 17) m_St_settle rfl rfl ?_
    refine r_ldR (p := 18) m_St_settle rfl rfl hC (by omega) (by omega) ?_
    rw [← hq]
    refine fi_step (pc' := 19) m_St_settle rfl rfl ?_
    refine k_get (p := 22) m_St_settle rfl rfl (by first | exact C_print hC | exact C_minors hC | exact C_stairs hC | exact (CW_cst hC).2.1 | exact C_mat hC (by omega) | exact ((CW_cst hC).2.2.2.2.2.2 _ (by omega)).1 | assumption) rfl ?_
    refine fi_step (pc' := 23) m_St_settle rfl rfl ?_
    refine d_ldL (p := 24) m_St_settle rfl rfl hC (by omega) (by omega) ?_
    rw [hc']
    refine g_4 (p := 27) m_St_settle rfl inv_v (by decide) m_St_lower rfl rfl (by omega) (by omega) (Nat.le_of_ble_eq_true rfl) (Nat.le_of_ble_eq_true rfl) (C_rcvS hC _) (st_lower (t := t) (u := t) (m := 25) (kb := t) hC (by omega) (by omega) v27' hp (by omega) (fun e => n1 e.symm) hW W12 (by omega) hx hyM hQ (by omega) (by omega) lp lz lW (hx c) (by omega) (by omega)) (fun v w hP => ?_)
    obtain ⟨rfl, v1, hC, k1, e1⟩ := hP
    refine s_iinc (p := 30) m_St_settle rfl rfl rfl ?_
    refine fi_step (pc' := 2) m_St_settle rfl rfl ?_
    rw [show (i : Int) + 1 = ((i + 1 : Nat) : Int) by omega]
    have hyq : PR v q = PR v0 q := kpL_PR hk n1
    have hnew := ih (i + 1) (t + 25) w v1 (by omega) (by omega) hC (kpL_trans hk k1) (by omega) (by omega) (fun j => by
      rw [e1]; unfold lowV
      exact B_step rfl hM (hx j) hQ (lM j)) ⟨fun i' a b => ?_, fun j hj => ?_, ?_⟩
    · rw [show t + 25 * (k + 1) = t + 25 + 25 * k by omega]; exact hnew
    · rw [e1]
      by_cases e : i' = i
      · subst e
        rw [← hq, hc', lowV_c, ← hyq]
        exact ⟨Int.emod_nonneg _ (by omega), Int.emod_lt_of_pos _ lp⟩
      · have := (hK i' a (by omega)).2.2.2.2.2 i (by omega) (by omega)
        rw [hc'] at this
        unfold lowV
        rw [lz _ this]
        simpa using hs.1 i' a (by omega)
    · rw [e1]
      have hji := hj i hf (by omega)
      rw [hc'] at hji
      unfold lowV
      rw [lz j hji]
      simpa using hs.2.1 j (fun i' a b => hj i' a (by omega))
    · rw [e1, show i + 1 - f = (i - f) + 1 by omega]
      have h1 := hs.2.2
      have hmem : sp (fam (fun i => PR v0 (s 6 i).toNat) (i - f + 1) f) (PR v0 q) := sp_mem (fam_mem.mpr ⟨i, hf, by omega, by rw [hq]⟩)
      have h2 : sp (fam (fun i => PR v0 (s 6 i).toNat) (i - f + 1) f) (fun j => PR v0 p j - PR v p j) := sp_sub' (fun u hu => by
        obtain ⟨i', a, b, rfl⟩ := fam_mem.mp hu
        exact sp_mem (fam_mem.mpr ⟨i', a, by omega, rfl⟩)) h1
      refine sp_ext (sp_lin 1 (PR v p c / PR v q c) h2 hmem) (fun j => ?_)
      unfold lowV
      rw [hyq]
      grind
theorem st_settle {p f n W t : Nat} {M : Int} (hC : CW w0 w s v L Z) (hfr : 6 ≤ fr) (hlo : 300 ≤ lo) (v27 : v 27 = 1) (hp : p < 7) (hn : n ≤ 6) (hf : f ≤ n) (h3 : s 0 3 = n) (hW : s 0 4 = W) (W12 : W ≤ 12) (hM : M < 1000000000 ^ 25) (hK : KR s v W f n M) (hne : ∀ i : Nat, f ≤ i → i < n → (s 6 i).toNat ≠ p ∧ 0 ≤ s 6 i ∧ s 6 i < 7) (ht25 : 25 ≤ t) (ht : t + 25 * (n - f) ≤ 665) (hx : ∀ j : Int, ((PR v p j).natAbs : Int) < 1000000000 ^ t) :
    fin xs fr lo 72 0 (ax_ent [.ref 232, .ref (236 + 26 * p), .int (jI (f : Int))] 4) [] w (Ret fun u w' => u = none ∧ ∃ v', CW w0 w' s v' L Z ∧ kpL p v v' ∧ (∀ j : Int, ((PR v' p j).natAbs : Int) < 1000000000 ^ (t + 25 * (n - f))) ∧ stl s v f n (PR v p) (PR v' p)) := by
  refine fi_step (pc' := 1) m_St_settle rfl rfl ?_
  refine fi_step (pc' := 2) m_St_settle rfl rfl ?_
  refine stl_loop hfr hlo v27 hp hn h3 hW W12 hM hK hne (n - f) f t w v (by omega) (Nat.le_refl _) hC (fun _ _ _ _ => rfl) ht25 ht hx ⟨fun i a b => by omega, fun j _ => rfl, ?_⟩
  rw [Nat.sub_self]
  refine sp_ext sp_zero (fun j => ?_)
  omega
end LOW
