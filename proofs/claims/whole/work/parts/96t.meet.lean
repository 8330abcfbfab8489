/-! THE CLASS: two rows meet -/
/-- the order of two rows alone may have changed -/
def pSw (s0 s' : mo_S) (k n : Nat) : Prop := (∀ a, a ≠ 6 → s' a = s0 a) ∧ ∀ i : Int, i ≠ k → i ≠ n → s' 6 i = s0 6 i
/-- two rows and the numbers of the division -/
def kp2 (p q : Nat) (v v' : Nat → Int) : Prop := ∀ c, (∀ j : Nat, j < 12 → c ≠ 238 + 26 * p + 2 * j ∧ c ≠ 238 + 26 * q + 2 * j) → c ≠ 19 → c ≠ 233 → v' c = v c
theorem kp2_PR {p q r : Nat} {v v' : Nat → Int} (h : kp2 p q v v') (h1 : r ≠ p) (h2 : r ≠ q) : PR v' r = PR v r := by
  funext j
  unfold PR
  split
  · rename_i hj
    exact h _ (fun j' hj' => by omega) (by omega) (by omega)
  · rfl
theorem kpL_2l {p q : Nat} {v v' v'' : Nat → Int} (h : kp2 p q v v') (h' : kpL p v' v'') : kp2 p q v v'' := fun c a b d => (h' c (fun j hj => (a j hj).1) b d).trans (h c a b d)
theorem kpL_2r {p q : Nat} {v v' v'' : Nat → Int} (h : kp2 p q v v') (h' : kpL q v' v'') : kp2 p q v v'' := fun c a b d => (h' c (fun j hj => (a j hj).2) b d).trans (h c a b d)
/-- what two rows come to when they meet in column c -/
def mtO (w0 w' : ax_W) (s0 : mo_S) (v0 : Nat → Int) (L Z k n c W p0 q0 : Nat) (P0 S0 : Vec) (X : Int) : Prop := ∃ (s' : mo_S) (v' : Nat → Int) (p q : Nat), CW w0 w' s' v' L Z ∧ pSw s0 s' k n ∧ s' 6 n = p ∧ s' 6 k = q ∧ ((p = p0 ∧ q = q0) ∨ (p = q0 ∧ q = p0)) ∧ kp2 p0 q0 v0 v' ∧ (PR v' p c = 0 ∧ 0 < PR v' q c) ∧ (∀ j : Int, j < c → PR v' p j = 0 ∧ PR v' q j = 0) ∧ (∀ j : Int, W ≤ j → PR v' p j = 0 ∧ PR v' q j = 0) ∧ spEq [PR v' q, PR v' p] [P0, S0] ∧ ∀ j : Int, ((PR v' q j).natAbs : Int) < X ∧ ((PR v' p j).natAbs : Int) < X
/-- how large the two rows are, on Euclid's way -/
def szE (P S : Vec) (c : Nat) (a B : Int) : Prop := ∃ g0 g1 : Int, 0 ≤ g0 ∧ 0 ≤ g1 ∧ g0 ≤ 2 * a ∧ P c * g1 + S c * g0 ≤ 2 * a ∧ ∀ j : Int, ((P j).natAbs : Int) ≤ g0 * B ∧ ((S j).natAbs : Int) ≤ g1 * B
theorem szE_le {P S : Vec} {c : Nat} {a B X : Int} (h : szE P S c a B) (hP : 0 < P c) (hS : 0 ≤ S c) (hB : 0 ≤ B) (hX : 2 * a * B < X) : ∀ j : Int, ((P j).natAbs : Int) < X ∧ ((S j).natAbs : Int) < X := by
  obtain ⟨g0, g1, a0, a1, a2, a3, a4⟩ := h
  intro j
  have h1 : g0 * B ≤ 2 * a * B := Int.mul_le_mul_of_nonneg_right a2 hB
  have h2 : 1 * g1 ≤ P c * g1 := Int.mul_le_mul_of_nonneg_right (by omega) a1
  have h3 : 0 ≤ S c * g0 := Int.mul_nonneg hS a0
  have h4 : g1 * B ≤ 2 * a * B := Int.mul_le_mul_of_nonneg_right (by omega) hB
  have := a4 j
  omega
theorem szE_step {P S : Vec} {c : Nat} {a B : Int} (h : szE P S c a B) (hP : 0 < P c) (hS : 0 < S c) (hB : 0 ≤ B) : szE S (lowV P S c) c a B := by
  obtain ⟨g0, g1, a0, a1, a2, a3, a4⟩ := h
  have hq : 0 ≤ P c / S c := Int.ediv_nonneg (by omega) (by omega)
  have h2 : 1 * g1 ≤ P c * g1 := Int.mul_le_mul_of_nonneg_right (by omega) a1
  have h3 : 0 ≤ S c * g0 := Int.mul_nonneg (by omega) a0
  refine ⟨g1, g0 + P c / S c * g1, a1, Int.add_nonneg a0 (Int.mul_nonneg hq a1), by omega, ?_, fun j => ⟨(a4 j).2, ?_⟩⟩
  · have : S c * (g0 + P c / S c * g1) + lowV P S c c * g1 = P c * g1 + S c * g0 := by unfold lowV; grind
    omega
  · unfold lowV
    have m := mul_size (a := P c / S c) (b := S j) (x := P c / S c) (y := g1 * B) (by omega) (a4 j).2
    have p := (a4 j).1
    have e : (g0 + P c / S c * g1) * B = g0 * B + P c / S c * (g1 * B) := by grind
    rw [e]
    omega
theorem low_half {x y : Int} (hx : y < x) (hy : 0 < y) : y * (x % y) * 2 ≤ x * y := by
  have r0 := Int.emod_nonneg x (show y ≠ 0 by omega)
  have r1 := Int.emod_lt_of_pos x hy
  have e := Int.emod_add_mul_ediv x y
  have q1 : 1 ≤ x / y := Int.le_ediv_of_mul_le hy (by omega)
  have h : y * 1 ≤ y * (x / y) := Int.mul_le_mul_of_nonneg_left q1 (by omega)
  have h2 : y * (x % y * 2) ≤ y * x := Int.mul_le_mul_of_nonneg_left (by omega) (by omega)
  have e1 : y * (x % y) * 2 = y * (x % y * 2) := by grind
  have e2 : y * x = x * y := Int.mul_comm _ _
  omega
section MEET
variable {xs : List Int32} {fr lo : Nat} {w0 w : ax_W} {s : mo_S} {v : Nat → Int} {L Z : Nat}
theorem meet_loop {k n c W T p0 q0 : Nat} {a B X : Int} {s0 : mo_S} {v0 : Nat → Int} {P0 S0 : Vec} (hfr : 6 ≤ fr) (hlo : 300 ≤ lo) (v27 : v0 27 = 1) (hkn : k < n) (hn : n < 7) (hp0 : p0 < 7) (hq0 : q0 < 7) (hpq : p0 ≠ q0) (h3 : s0 0 3 = n) (hW : s0 0 4 = W) (W12 : W ≤ 12) (hcW : c < W) (a13 : a < 1000000000 ^ 13) (hB : 0 ≤ B) (hX : X = 1000000000 ^ T) (hT : 2 * a * B < X) (T652 : T ≤ 652) :
    ∀ (d : Nat) (w : ax_W) (s : mo_S) (v : Nat → Int) (st : Int) (y : Option Value) (p q : Nat), CW w0 w s v L Z → pSw s0 s k n → s 6 n = p → s 6 k = q → ((p = p0 ∧ q = q0) ∨ (p = q0 ∧ q = p0)) → kp2 p0 q0 v0 v → (0 ≤ PR v p c ∧ PR v p c < PR v q c) → (∀ j : Int, j < c → PR v p j = 0 ∧ PR v q j = 0) → (∀ j : Int, W ≤ j → PR v p j = 0 ∧ PR v q j = 0) → spEq [PR v q, PR v p] [P0, S0] → PR v q c ≤ a → szE (PR v q) (PR v p) c a B → PR v q c * PR v p c < 2 ^ d → 0 ≤ st → st + d + 1 ≤ 1000000 →
    fin xs fr lo 61 29 [some (.ref 232), some (.int (jI (k : Int))), some (.int (jI (c : Int))), some (.int (jI st)), y] [] w (Ret fun u w' => u = none ∧ mtO w0 w' s0 v0 L Z k n c W p0 q0 P0 S0 X) := by
  have stop : ∀ (w : ax_W) (s : mo_S) (v : Nat → Int) (st : Int) (y : Option Value) (p q : Nat), CW w0 w s v L Z → pSw s0 s k n → s 6 n = p → s 6 k = q → ((p = p0 ∧ q = q0) ∨ (p = q0 ∧ q = p0)) → kp2 p0 q0 v0 v → (0 ≤ PR v p c ∧ PR v p c < PR v q c) → (∀ j : Int, j < c → PR v p j = 0 ∧ PR v q j = 0) → (∀ j : Int, W ≤ j → PR v p j = 0 ∧ PR v q j = 0) → spEq [PR v q, PR v p] [P0, S0] → PR v q c ≤ a → szE (PR v q) (PR v p) c a B → PR v p c = 0 → 0 ≤ st → st + 1 ≤ 1000000 →
      fin xs fr lo 61 29 [some (.ref 232), some (.int (jI (k : Int))), some (.int (jI (c : Int))), some (.int (jI st)), y] [] w (Ret fun u w' => u = none ∧ mtO w0 w' s0 v0 L Z k n c W p0 q0 P0 S0 X) := by
    intro w s v st y p q hC hs ep eq hor hk hlt hz hzW hsp hqa hsz h0 st0 st1
    have hp : p < 7 := by rcases hor with ⟨a, b⟩ | ⟨a, b⟩ <;> omega
    have h3' : s 0 3 = n := by rw [hs.1 0 (by decide)]; exact h3
    have iA : isWh (238 + 26 * p + 2 * c) := i_row hp (by omega)
    have eA := PR_at v p (show c < 12 by omega)
    refine fi_step (pc' := 30) m_St_meet rfl rfl ?_
    refine s_ldc (p := 32) 1000000 m_St_meet rfl rfl rfl ?_
    refine s_ic_ge (p := 35) m_St_meet rfl rfl (by omega) (by omega) (by omega) (by omega) (fun hbr => False.elim (by omega)) (fun hbr => ?_)
    refine fi_step (pc' := 36) m_St_meet rfl rfl ?_
    refine k_get (p := 39) m_St_meet rfl rfl (by first | exact C_print hC | exact C_minors hC | exact C_stairs hC | exact (CW_cst hC).2.1 | exact C_mat hC (by omega) | exact ((CW_cst hC).2.2.2.2.2.2 _ (by omega)).1 | assumption) rfl ?_
    refine fi_step (pc' := 40) m_St_meet rfl rfl ?_
    refine k_get (p := 43) m_St_meet rfl rfl (by first | exact C_print hC | exact C_minors hC | exact C_stairs hC | exact (CW_cst hC).2.1 | exact C_mat hC (by omega) | exact ((CW_cst hC).2.2.2.2.2.2 _ (by omega)).1 | assumption) rfl ?_
    rw [h3']
    refine r_ldR (p := 44) m_St_meet rfl rfl hC (by omega) (by omega) ?_
    rw [ep, Int.toNat_natCast]
    refine k_get (p := 47) m_St_meet rfl rfl (by first | exact C_print hC | exact C_minors hC | exact C_stairs hC | exact (CW_cst hC).2.1 | exact C_mat hC (by omega) | exact ((CW_cst hC).2.2.2.2.2.2 _ (by omega)).1 | assumption) rfl ?_
    refine fi_step (pc' := 48) m_St_meet rfl rfl ?_
    refine r_ldN (p := 49) m_St_meet rfl rfl hC hp (by omega) (by omega) ?_
    rw [Int.toNat_natCast]
    have hh := cn_isZero (xs := xs) (fr := fr - 1) (lo := lo - 20) hC iA
    rw [if_pos (by rw [← eA]; exact h0)] at hh
    refine c_1 (p := 52) m_St_meet rfl inv_v (by decide) m_Wh_isZero rfl rfl (by omega) (by omega) (Nat.le_of_ble_eq_true rfl) (Nat.le_of_ble_eq_true rfl) (C_rcvW hC (by first | assumption | exact rfl) _) hh ?_
    refine s_if_ne (p := 55) m_St_meet rfl rfl (by omega) (by omega) (fun hbr => ?_) (fun hbr => False.elim (by omega))
    refine p_ret m_St_meet rfl rfl ?_
    exact ⟨rfl, s, v, p, q, hC, hs, ep, eq, hor, hk, ⟨h0, by omega⟩, hz, hzW, hsp, szE_le hsz (by omega) (by omega) hB hT⟩
  intro d
  induction d with
  | zero =>
    intro w s v st y p q hC hs ep eq hor hk hlt hz hzW hsp hqa hsz hd st0 st1
    refine stop w s v st y p q hC hs ep eq hor hk hlt hz hzW hsp hqa hsz ?_ st0 (by omega)
    refine Classical.byContradiction (fun hne => ?_)
    have : 1 * 1 ≤ PR v q c * PR v p c := Int.mul_le_mul (by omega) (by omega) (by omega) (by omega)
    rw [Int.pow_zero] at hd
    omega
  | succ d ih =>
    intro w s v st y p q hC hs ep eq hor hk hlt hz hzW hsp hqa hsz hd st0 st1
    by_cases h0 : PR v p c = 0
    · exact stop w s v st y p q hC hs ep eq hor hk hlt hz hzW hsp hqa hsz h0 st0 (by omega)
    have hp : p < 7 := by rcases hor with ⟨a, b⟩ | ⟨a, b⟩ <;> omega
    have hq : q < 7 := by rcases hor with ⟨a, b⟩ | ⟨a, b⟩ <;> omega
    have hqp : q ≠ p := by rcases hor with ⟨a, b⟩ | ⟨a, b⟩ <;> omega
    have h3' : s 0 3 = n := by rw [hs.1 0 (by decide)]; exact h3
    have iA : isWh (238 + 26 * p + 2 * c) := i_row hp (by omega)
    have eA := PR_at v p (show c < 12 by omega)
    refine fi_step (pc' := 30) m_St_meet rfl rfl ?_
    refine s_ldc (p := 32) 1000000 m_St_meet rfl rfl rfl ?_
    refine s_ic_ge (p := 35) m_St_meet rfl rfl (by omega) (by omega) (by omega) (by omega) (fun hbr => False.elim (by omega)) (fun hbr => ?_)
    refine fi_step (pc' := 36) m_St_meet rfl rfl ?_
    refine k_get (p := 39) m_St_meet rfl rfl (by first | exact C_print hC | exact C_minors hC | exact C_stairs hC | exact (CW_cst hC).2.1 | exact C_mat hC (by omega) | exact ((CW_cst hC).2.2.2.2.2.2 _ (by omega)).1 | assumption) rfl ?_
    refine fi_step (pc' := 40) m_St_meet rfl rfl ?_
    refine k_get (p := 43) m_St_meet rfl rfl (by first | exact C_print hC | exact C_minors hC | exact C_stairs hC | exact (CW_cst hC).2.1 | exact C_mat hC (by omega) | exact ((CW_cst hC).2.2.2.2.2.2 _ (by omega)).1 | assumption) rfl ?_
    rw [h3']
    refine r_ldR (p := 44) m_St_meet rfl rfl hC (by omega) (by omega) ?_
    rw [ep, Int.toNat_natCast]
    refine k_get (p := 47) m_St_meet rfl rfl (by first | exact C_print hC | exact C_minors hC | exact C_stairs hC | exact (CW_cst hC).2.1 | exact C_mat hC (by omega) | exact ((CW_cst hC).2.2.2.2.2.2 _ (by omega)).1 | assumption) rfl ?_
    refine fi_step (pc' := 48) m_St_meet rfl rfl ?_
    refine r_ldN (p := 49) m_St_meet rfl rfl hC hp (by omega) (by omega) ?_
    rw [Int.toNat_natCast]
    have hh := cn_isZero (xs := xs) (fr := fr - 1) (lo := lo - 20) hC iA
    rw [if_neg (by rw [← eA]; exact h0)] at hh
    refine c_1 (p := 52) m_St_meet rfl inv_v (by decide) m_Wh_isZero rfl rfl (by omega) (by omega) (Nat.le_of_ble_eq_true rfl) (Nat.le_of_ble_eq_true rfl) (C_rcvW hC (by first | assumption | exact rfl) _) hh ?_
    refine s_if_ne (p := 55) m_St_meet rfl rfl (by omega) (by omega) (fun hbr => False.elim (by omega)) (fun hbr => ?_)
    refine fi_step (pc' := 56) m_St_meet rfl rfl ?_
    refine k_get (p := 59) m_St_meet rfl rfl (by first | exact C_print hC | exact C_minors hC | exact C_stairs hC | exact (CW_cst hC).2.1 | exact C_mat hC (by omega) | exact ((CW_cst hC).2.2.2.2.2.2 _ (by omega)).1 | assumption) rfl ?_
    refine fi_step (pc' := 60) m_St_meet rfl rfl ?_
    refine k_get (p := 63) m_St_meet rfl rfl (by first | exact C_print hC | exact C_minors hC | exact C_stairs hC | exact (CW_cst hC).2.1 | exact C_mat hC (by omega) | exact ((CW_cst hC).2.2.2.2.2.2 _ (by omega)).1 | assumption) rfl ?_
    rw [h3']
    refine r_ldR (p := 64) m_St_meet rfl rfl hC (by omega) (by omega) ?_
    rw [ep, Int.toNat_natCast]
    refine fi_step (pc' := 66) m_St_meet rfl rfl ?_
    refine fi_step (pc' := 67) m_St_meet rfl rfl ?_
    refine k_get (p := 70) m_St_meet rfl rfl (by first | exact C_print hC | exact C_minors hC | exact C_stairs hC | exact (CW_cst hC).2.1 | exact C_mat hC (by omega) | exact ((CW_cst hC).2.2.2.2.2.2 _ (by omega)).1 | assumption) rfl ?_
    refine fi_step (pc' := 71) m_St_meet rfl rfl ?_
    refine k_get (p := 74) m_St_meet rfl rfl (by first | exact C_print hC | exact C_minors hC | exact C_stairs hC | exact (CW_cst hC).2.1 | exact C_mat hC (by omega) | exact ((CW_cst hC).2.2.2.2.2.2 _ (by omega)).1 | assumption) rfl ?_
    refine fi_step (pc' := 75) m_St_meet rfl rfl ?_
    refine k_get (p := 78) m_St_meet rfl rfl (by first | exact C_print hC | exact C_minors hC | exact C_stairs hC | exact (CW_cst hC).2.1 | exact C_mat hC (by omega) | exact ((CW_cst hC).2.2.2.2.2.2 _ (by omega)).1 | assumption) rfl ?_
    refine fi_step (pc' := 79) m_St_meet rfl rfl ?_
    refine r_ldR (p := 80) m_St_meet rfl rfl hC (by omega) (by omega) ?_
    rw [eq, Int.toNat_natCast, h3']
    refine r_stR (p := 81) m_St_meet rfl rfl hC (by omega) (by omega) hq (fun w hC => ?_)
    refine fi_step (pc' := 82) m_St_meet rfl rfl ?_
    refine k_get (p := 85) m_St_meet rfl rfl (by first | exact C_print hC | exact C_minors hC | exact C_stairs hC | exact (CW_cst hC).2.1 | exact C_mat hC (by omega) | exact ((CW_cst hC).2.2.2.2.2.2 _ (by omega)).1 | assumption) rfl ?_
    refine fi_step (pc' := 86) m_St_meet rfl rfl ?_
    refine fi_step (pc' := 88) m_St_meet rfl rfl ?_
    refine r_stR (p := 89) m_St_meet rfl rfl hC (by omega) (by omega) hp (fun w hC => ?_)
    obtain ⟨s1, hs1⟩ : ∃ s1, s1 = up (up s 6 n q) 6 k p := ⟨_, rfl⟩
    rw [← hs1] at hC
    have hs' : pSw s0 s1 k n := ⟨fun a ha => by rw [hs1, up_ne _ ha, up_ne _ ha]; exact hs.1 a ha, fun i i1 i2 => by rw [hs1, up_same, up1_ne _ i1, up_same, up1_ne _ i2]; exact hs.2 i i1 i2⟩
    have ep' : s1 6 n = q := by rw [hs1, up_same, up1_ne _ (by omega), up_same, up1_same]
    have eq' : s1 6 k = p := by rw [hs1, up_same, up1_same]
    have h31 : s1 0 3 = n := by rw [hs'.1 0 (by decide)]; exact h3
    have h41 : s1 0 4 = W := by rw [hs'.1 0 (by decide)]; exact hW
    have v27' : v 27 = 1 := by rw [hk 27 (fun j hj => by omega) (by omega) (by omega)]; exact v27
    have hle := szE_le hsz (by omega) (by omega) hB hT
    rw [hX] at hle
    have hQ : ((PR v q c / PR v p c).natAbs : Int) < 1000000000 ^ 13 := Int.lt_of_le_of_lt (fdiv_le (by omega)) (by omega)
    refine fi_step (pc' := 90) m_St_meet rfl rfl ?_
    refine fi_step (pc' := 91) m_St_meet rfl rfl ?_
    refine k_get (p := 94) m_St_meet rfl rfl (by first | exact C_print hC | exact C_minors hC | exact C_stairs hC | exact (CW_cst hC).2.1 | exact C_mat hC (by omega) | exact ((CW_cst hC).2.2.2.2.2.2 _ (by omega)).1 | assumption) rfl ?_
    refine fi_step (pc' := 95) m_St_meet rfl rfl ?_
    refine k_get (p := 98) m_St_meet rfl rfl (by first | exact C_print hC | exact C_minors hC | exact C_stairs hC | exact (CW_cst hC).2.1 | exact C_mat hC (by omega) | exact ((CW_cst hC).2.2.2.2.2.2 _ (by omega)).1 | assumption) rfl ?_
    rw [h31]
    refine r_ldR (p := 99) m_St_meet rfl rfl hC (by omega) (by omega) ?_
    rw [ep', Int.toNat_natCast]
    refine fi_step (pc' := 100) m_St_meet rfl rfl ?_
    refine k_get (p := 103) m_St_meet rfl rfl (by first | exact C_print hC | exact C_minors hC | exact C_stairs hC | exact (CW_cst hC).2.1 | exact C_mat hC (by omega) | exact ((CW_cst hC).2.2.2.2.2.2 _ (by omega)).1 | assumption) rfl ?_
    refine fi_step (pc' := 104) m_St_meet rfl rfl ?_
    refine r_ldR (p := 105) m_St_meet rfl rfl hC (by omega) (by omega) ?_
    rw [eq', Int.toNat_natCast]
    refine fi_step (pc' := 106) m_St_meet rfl rfl ?_
    refine g_4 (p := 109) m_St_meet rfl inv_v (by decide) m_St_lower rfl rfl (by omega) (by omega) (Nat.le_of_ble_eq_true rfl) (Nat.le_of_ble_eq_true rfl) (C_rcvS hC _) (st_lower (t := T) (u := 13) (m := T) (kb := 13) hC (by omega) (by omega) v27' hq hp hqp h41 W12 hcW (fun j => (hle j).1) (fun j => (hle j).2) hQ (by omega) (by omega) (by omega) (fun j hj => (hz j hj).1) (fun j hj => (hzW j hj).1) (by omega) (by omega) (by omega)) (fun v w hP => ?_)
    obtain ⟨rfl, v1, hC, k1, e1⟩ := hP
    have e2 : PR v1 p = PR v p := kpL_PR k1 (by omega)
    refine s_iinc (p := 112) m_St_meet rfl rfl rfl ?_
    refine fi_step (pc' := 29) m_St_meet rfl rfl ?_
    have hmod := lowV_c (PR v q) (PR v p) c
    have m0 := Int.emod_nonneg (PR v q c) (show PR v p c ≠ 0 by omega)
    have m1 := Int.emod_lt_of_pos (PR v q c) (show 0 < PR v p c by omega)
    refine ih w s1 v1 (st + 1) _ q p hC hs' ep' eq' (by omega) ?_ ?_ (fun j hj => ?_) (fun j hj => ?_) ?_ ?_ ?_ ?_ (by omega) (by omega)
    · rcases hor with ⟨e, e'⟩ | ⟨e, e'⟩
      · subst e; subst e'; exact kpL_2r hk k1
      · subst e; subst e'; exact kpL_2l hk k1
    · rw [e1, e2, hmod]; omega
    · rw [e1, e2]; unfold lowV; rw [(hz j hj).1, (hz j hj).2]; simp
    · rw [e1, e2]; unfold lowV; rw [(hzW j hj).1, (hzW j hj).2]; simp
    · rw [e1, e2]; exact spEq_trans (sp2_low _ _ _) hsp
    · rw [e2]; omega
    · rw [e1, e2]; exact szE_step hsz (by omega) (by omega) hB
    · rw [e1, e2, hmod]
      have := low_half hlt.2 (show 0 < PR v p c by omega)
      rw [Int.pow_succ] at hd
      omega
theorem st_meet {k n c W t p q : Nat} {M : Int} (hC : CW w0 w s v L Z) (hfr : 6 ≤ fr) (hlo : 300 ≤ lo) (v27 : v 27 = 1) (hkn : k < n) (hn : n < 7) (hp : p < 7) (hq : q < 7) (hpq : p ≠ q) (ep : s 6 n = p) (eq : s 6 k = q) (h3 : s 0 3 = n) (hW : s 0 4 = W) (W12 : W ≤ 12) (hc : s 5 k = c) (hcW : c < W) (pos : 0 < PR v q c) (a13 : 2 * PR v q c < 1000000000 ^ 13) (hz : ∀ j : Int, j < c → PR v p j = 0 ∧ PR v q j = 0) (hzW : ∀ j : Int, W ≤ j → PR v p j = 0 ∧ PR v q j = 0) (hM : M < 1000000000 ^ 25) (hqM : ∀ j : Int, ((PR v q j).natAbs : Int) ≤ M) (ht25 : 25 ≤ t) (ht : t + 38 ≤ 652) (hx : ∀ j : Int, ((PR v p j).natAbs : Int) < 1000000000 ^ t) :
    fin xs fr lo 61 0 (ax_ent [.ref 232, .int (jI (k : Int))] 5) [] w (Ret fun u w' => u = none ∧ mtO w0 w' s v L Z k n c W p q (PR v q) (PR v p) (1000000000 ^ (t + 38))) := by
  have hQ : ((PR v p c / PR v q c).natAbs : Int) < 1000000000 ^ t := Int.lt_of_le_of_lt (fdiv_le pos) (hx c)
  have hyM : ∀ j : Int, ((PR v q j).natAbs : Int) < 1000000000 ^ 25 := fun j => Int.lt_of_le_of_lt (hqM j) hM
  have hB25 : (1000000000 : Int) ^ 25 ≤ 1000000000 ^ t := pow_mono (by decide) ht25
  have hyc := hyM c
  refine fi_step (pc' := 1) m_St_meet rfl rfl ?_
  refine k_get (p := 4) m_St_meet rfl rfl (by first | exact C_print hC | exact C_minors hC | exact C_stairs hC | exact (CW_cst hC).2.1 | exact C_mat hC (by omega) | exact ((CW_cst hC).2.2.2.2.2.2 _ (by omega)).1 | assumption) rfl ?_
  refine fi_step (pc' := 5) m_St_meet rfl rfl ?_
  refine d_ldL (p := 6) m_St_meet rfl rfl hC (by omega) (by omega) ?_
  rw [hc]
  refine fi_step (pc' := 7) m_St_meet rfl rfl ?_
  refine fi_step (pc' := 8) m_St_meet rfl rfl ?_
  refine fi_step (pc' := 9) m_St_meet rfl rfl ?_
  refine k_get (p := 12) m_St_meet rfl rfl (by first | exact C_print hC | exact C_minors hC | exact C_stairs hC | exact (CW_cst hC).2.1 | exact C_mat hC (by omega) | exact ((CW_cst hC).2.2.2.2.2.2 _ (by omega)).1 | assumption) rfl ?_
  refine fi_step (pc' := 13) m_St_meet rfl rfl ?_
  refine k_get (p := 16) m_St_meet rfl rfl (by first | exact C_print hC | exact C_minors hC | exact C_stairs hC | exact (CW_cst hC).2.1 | exact C_mat hC (by omega) | exact ((CW_cst hC).2.2.2.2.2.2 _ (by omega)).1 | assumption) rfl ?_
  rw [h3]
  refine r_ldR (p := 17) m_St_meet rfl rfl hC (by omega) (by omega) ?_
  rw [ep, Int.toNat_natCast]
  refine fi_step (pc' := 18) m_St_meet rfl rfl ?_
  refine k_get (p := 21) m_St_meet rfl rfl (by first | exact C_print hC | exact C_minors hC | exact C_stairs hC | exact (CW_cst hC).2.1 | exact C_mat hC (by omega) | exact ((CW_cst hC).2.2.2.2.2.2 _ (by omega)).1 | assumption) rfl ?_
  refine fi_step (pc' := 22) m_St_meet rfl rfl ?_
  refine r_ldR (p := 23) m_St_meet rfl rfl hC (by omega) (by omega) ?_
  rw [eq, Int.toNat_natCast]
  refine fi_step (pc' := 24) m_St_meet rfl rfl ?_
  refine g_4 (p := 27) m_St_meet rfl inv_v (by decide) m_St_lower rfl rfl (by omega) (by omega) (Nat.le_of_ble_eq_true rfl) (Nat.le_of_ble_eq_true rfl) (C_rcvS hC _) (st_lower (t := t) (u := t) (m := 25) (kb := t) hC (by omega) (by omega) v27 hp hq hpq hW W12 hcW hx hyM hQ (by omega) (by omega) pos (fun j hj => (hz j hj).2) (fun j hj => (hzW j hj).2) (hx c) (by omega) (by omega)) (fun v w hP => ?_)
  obtain ⟨rfl, v1, hC, k1, e1⟩ := hP
  have e2 : PR v1 q = PR v q := kpL_PR k1 (by omega)
  refine fi_step (pc' := 28) m_St_meet rfl rfl ?_
  refine fi_step (pc' := 29) m_St_meet rfl rfl ?_
  have hmod := lowV_c (PR v p) (PR v q) c
  have m0 := Int.emod_nonneg (PR v p c) (show PR v q c ≠ 0 by omega)
  have m1 := Int.emod_lt_of_pos (PR v p c) pos
  have hbig : (1000000000 : Int) ^ 25 ≤ 1000000000 ^ (t + 25) := pow_mono (by decide) (by omega)
  have hB0 : (0 : Int) < 1000000000 ^ (t + 25) := Int.pow_pos (by decide)
  have hT : 2 * PR v q c * 1000000000 ^ (t + 25) < 1000000000 ^ (t + 38) := by
    have e : (1000000000 : Int) ^ (t + 38) = 1000000000 ^ 13 * 1000000000 ^ (t + 25) := by rw [← Int.pow_add, show 13 + (t + 25) = t + 38 by omega]
    rw [e]
    exact Int.mul_lt_mul_of_pos_right a13 hB0
  refine meet_loop (T := t + 38) (a := PR v q c) (B := 1000000000 ^ (t + 25)) (s0 := s) (v0 := v) hfr hlo v27 hkn hn hp hq hpq h3 hW W12 hcW (by omega) (by omega) rfl hT (by omega) 780 w s v1 0 _ p q hC ⟨fun _ _ => rfl, fun _ _ _ => rfl⟩ ep eq (Or.inl ⟨rfl, rfl⟩) (kpL_2l (fun _ _ _ _ => rfl) k1) ?_ (fun j hj => ?_) (fun j hj => ?_) ?_ ?_ ?_ ?_ (by omega) (by omega)
  · rw [e1, e2, hmod]; omega
  · rw [e1, e2]; unfold lowV; rw [(hz j hj).1, (hz j hj).2]; simp
  · rw [e1, e2]; unfold lowV; rw [(hzW j hj).1, (hzW j hj).2]; simp
  · rw [e1, e2]; exact spEq_trans (sp2_low _ _ _) (sp2_swap _ _)
  · rw [e2]; omega
  · rw [e1, e2]
    refine ⟨1, 1, by omega, by omega, by omega, ?_, fun j => ⟨?_, ?_⟩⟩
    · rw [hmod]; omega
    · have := hyM j; omega
    · have := B_step rfl hM (hx j) hQ (hqM j)
      unfold lowV
      omega
  · rw [e1, e2, hmod]
    have l1 : PR v p c % PR v q c < 1000000000 ^ 13 := by omega
    have h1 : PR v q c * (PR v p c % PR v q c) ≤ 1000000000 ^ 13 * (PR v p c % PR v q c) := Int.mul_le_mul_of_nonneg_right (by omega) m0
    have h2 : (1000000000 : Int) ^ 13 * (PR v p c % PR v q c) < 1000000000 ^ 13 * 1000000000 ^ 13 := Int.mul_lt_mul_of_pos_left l1 (by decide)
    have h3 : (1000000000 : Int) ^ 13 * 1000000000 ^ 13 ≤ 2 ^ 780 := by rw [← Int.pow_add]; exact pow30 26
    exact Int.lt_of_lt_of_le (Int.lt_of_le_of_lt h1 h2) h3
end MEET
