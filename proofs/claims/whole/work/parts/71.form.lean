/-! THE REFERENCE: rests, the row that holds a lead -/
theorem mod_neg {x D : Int} (hx : x < 0) (hD : 0 < D) : (((x.natAbs : Int) % D = 0) → x % D = 0) ∧ (((x.natAbs : Int) % D ≠ 0) → x % D = -((x.natAbs : Int) % D) + D) := by
  have e : x = -(x.natAbs : Int) := by omega
  have h := Int.emod_add_mul_ediv (x.natAbs : Int) D
  have p := Int.emod_nonneg (x.natAbs : Int) (show D ≠ 0 by omega)
  have q := Int.emod_lt_of_pos (x.natAbs : Int) hD
  generalize ht : (x.natAbs : Int) % D = t at h p q
  generalize hq : (x.natAbs : Int) / D = z at h
  constructor
  · intro h0
    have : x = 0 + (-z) * D := by rw [e, ← h, h0]; grind
    rw [this, Int.add_mul_emod_self_right]; simp
  · intro h0
    have : x = (-t + D) + (-z - 1) * D := by rw [e, ← h]; grind
    rw [this, Int.add_mul_emod_self_right, Int.emod_eq_of_lt (by omega) (by omega)]
theorem mod_sub (x y : Int) : x % y = x - x / y * y := by have := Int.emod_add_mul_ediv x y; rw [Int.mul_comm y] at this; omega
section FORM
variable {xs : List Int32} {fr lo : Nat} {w0 : ax_W} {Q : Outcome → ax_W → Prop}
theorem c_remain {k D : Int} {w : ax_W} {s : mo_S} {r : Int → Int} (hfr : 3 ≤ fr) (hlo : 120 ≤ lo) (hw : RW w0 w s) (hB : Bg s r) (k0 : 0 ≤ k) (k1 : k < 268) (hD : r 276 = D) (D0 : 0 < D) (D1 : D ≤ MBND) :
    fin xs fr lo 162 0 (ax_ent [.ref 425, .int (jI k)] 3) [] w (Ret fun u w' => u = none ∧ ∃ s' r', RW w0 w' s' ∧ oth s s' ∧ Bg s' r' ∧ r' k = r k % D ∧ ∀ j : Int, j ≠ k → j ≠ 269 → j ≠ 272 → r' j = r j) := by
  obtain ⟨n, _, sk, sk0, sk1⟩ := isN_abs (hB k k0 (by omega))
  have hDn : (D.natAbs : Int) = D := by omega
  have tl : ∀ b : Int, (b = 1 ∧ r k < 0) ∨ (b = 0 ∧ 0 ≤ r k) → fin xs fr lo 162 22 [some (.ref 425), some (.int (jI k)), none] [.int (jI b)] w (Ret fun u w' => u = none ∧ ∃ s' r', RW w0 w' s' ∧ oth s s' ∧ Bg s' r' ∧ r' k = r k % D ∧ ∀ j : Int, j ≠ k → j ≠ 269 → j ≠ 272 → r' j = r j) := by
    intro b hb
    refine fi_step (pc' := 23) m_Mo_remain rfl rfl ?_
    refine fi_step (pc' := 24) m_Mo_remain rfl rfl ?_
    refine s_sipush (p := 27) m_Mo_remain rfl rfl rfl ?_
    refine s_sipush (p := 30) m_Mo_remain rfl rfl rfl ?_
    refine g_3 (p := 33) m_Mo_remain rfl inv_v (by decide) m_Mo_bigCopy rfl rfl (by omega) (by omega) (Nat.le_of_ble_eq_true rfl) (Nat.le_of_ble_eq_true rfl) (RW_rcv hw _) (c_bigCopy hw hB (by omega) (by omega) (by omega) (by omega) (by omega)) (fun v w hP => ?_)
    obtain ⟨rfl, s1, hw, o1, B1⟩ := hP
    obtain ⟨r1, B1, v1, q1, k1'⟩ : ∃ r1, Bg s1 r1 ∧ r1 269 = D ∧ r1 k = r k ∧ ∀ j : Int, j ≠ 269 → r1 j = r j := ⟨_, B1, by rw [up1_same, hD], up1_ne _ (by omega) _, fun j hj => up1_ne _ hj _⟩
    refine fi_step (pc' := 34) m_Mo_remain rfl rfl ?_
    refine fi_step (pc' := 35) m_Mo_remain rfl rfl ?_
    refine s_sipush (p := 38) m_Mo_remain rfl rfl rfl ?_
    refine s_sipush (p := 41) m_Mo_remain rfl rfl rfl ?_
    refine g_4 (p := 44) m_Mo_remain rfl inv_v (by decide) m_Mo_bigDivide rfl rfl (by omega) (by omega) (Nat.le_of_ble_eq_true rfl) (Nat.le_of_ble_eq_true rfl) (RW_rcv hw _) (c_bigDivide (by omega) (by omega) hw B1 (by omega) (by omega) (by omega) (by omega) (by omega) (by omega) (by omega) (by omega) (by omega) (by omega)) (fun v w hP => ?_)
    obtain ⟨rfl, s2, hw, o2, B2⟩ := hP
    obtain ⟨r2, B2, v2, k2⟩ : ∃ r2, Bg s2 r2 ∧ r2 k = ((r k).natAbs : Int) % D ∧ ∀ j : Int, j ≠ k → j ≠ 269 → j ≠ 272 → r2 j = r j := ⟨_, B2, by rw [up1_same, v1, q1, hDn], fun j h1 h2 h3 => by rw [up1_ne _ h1, up1_ne _ h3, k1' j h2]⟩
    have p := Int.emod_nonneg ((r k).natAbs : Int) (show D ≠ 0 by omega)
    have q := Int.emod_lt_of_pos ((r k).natAbs : Int) D0
    rcases hb with ⟨rfl, hneg⟩ | ⟨rfl, hpos⟩
    · have hmn := mod_neg hneg D0
      refine fi_step (pc' := 45) m_Mo_remain rfl rfl ?_
      refine s_if_eq (p := 48) m_Mo_remain rfl rfl (by omega) (by omega) (fun hbr => False.elim (by omega)) (fun hbr => ?_)
      refine fi_step (pc' := 49) m_Mo_remain rfl rfl ?_
      refine fi_step (pc' := 50) m_Mo_remain rfl rfl ?_
      refine c_2 (p := 53) m_Mo_remain rfl inv_v (by decide) m_Mo_bigIsZero rfl rfl (by omega) (by omega) (Nat.le_of_ble_eq_true rfl) (Nat.le_of_ble_eq_true rfl) (RW_rcv hw _) (c_isZ hw B2 (by omega) (by omega)) ?_
      rw [v2]
      by_cases hz : ((r k).natAbs : Int) % D = 0
      · rw [if_pos hz]
        refine s_if_ne (p := 56) m_Mo_remain rfl rfl (by omega) (by omega) (fun hbr => ?_) (fun hbr => False.elim (by omega))
        refine p_ret m_Mo_remain rfl rfl ?_
        exact ⟨rfl, s2, r2, hw, oth_trans o1 o2, B2, by rw [v2, hz, hmn.1 hz], k2⟩
      · rw [if_neg hz]
        refine s_if_ne (p := 56) m_Mo_remain rfl rfl (by omega) (by omega) (fun hbr => False.elim (by omega)) (fun hbr => ?_)
        refine fi_step (pc' := 57) m_Mo_remain rfl rfl ?_
        refine r_get (p := 60) m_Mo_remain rfl rfl (by assumption) rfl ?_
        refine fi_step (pc' := 61) m_Mo_remain rfl rfl ?_
        refine fi_step (pc' := 62) m_Mo_remain rfl rfl ?_
        refine r_stB (p := 63) m_Mo_remain rfl rfl (by assumption) (by decide) (fun _ => rfl) (by decide) (by omega) (by omega) (by omega) (by omega) (fun w hw => ?_)
        refine fi_step (pc' := 64) m_Mo_remain rfl rfl ?_
        refine fi_step (pc' := 65) m_Mo_remain rfl rfl ?_
        refine s_sipush (p := 68) m_Mo_remain rfl rfl rfl ?_
        refine fi_step (pc' := 69) m_Mo_remain rfl rfl ?_
        have B3 := Bg_sign B2 (k := k) (b := 1) k0 (by omega) (Or.inr rfl)
        obtain ⟨r3, B3, v3, k3⟩ : ∃ r3, Bg (up s2 3 k 1) r3 ∧ r3 k = -(((r k).natAbs : Int) % D) ∧ ∀ j : Int, j ≠ k → j ≠ 269 → j ≠ 272 → r3 j = r j := ⟨_, B3, by rw [up1_same, if_pos rfl, v2]; omega, fun j h1 h2 h3 => by rw [up1_ne _ h1, k2 j h1 h2 h3]⟩
        have d3 : r3 276 = D := by rw [k3 276 (by omega) (by decide) (by decide), hD]
        have hrm : 2 * MBND < rm 140 := Int.lt_of_lt_of_le (by decide) (le_rm (i := 20) (by decide))
        refine g_4 (p := 72) m_Mo_remain rfl inv_v (by decide) m_Mo_bigAdd rfl rfl (by omega) (by omega) (Nat.le_of_ble_eq_true rfl) (Nat.le_of_ble_eq_true rfl) (RW_rcv hw _) (c_bigAdd (l := 0) (by omega) (by omega) hw B3 (by omega) (by omega) (by omega) (by omega) (by omega) (Or.inl rfl) (by rw [v3, d3]; omega)) (fun v w hP => ?_)
        obtain ⟨rfl, s4, hw, o4, B4⟩ := hP
        refine p_ret m_Mo_remain rfl rfl ?_
        refine ⟨rfl, s4, _, hw, oth_trans o1 (oth_trans o2 (oth_trans (oth_up3 _ _ _) o4)), B4, ?_, fun j h1 h2 h3 => by rw [up1_ne _ h1, k3 j h1 h2 h3]⟩
        rw [up1_same, if_neg (by decide), v3, d3, hmn.2 hz]
    · refine fi_step (pc' := 45) m_Mo_remain rfl rfl ?_
      refine s_if_eq (p := 48) m_Mo_remain rfl rfl (by omega) (by omega) (fun hbr => ?_) (fun hbr => False.elim (by omega))
      refine p_ret m_Mo_remain rfl rfl ?_
      exact ⟨rfl, s2, r2, hw, oth_trans o1 o2, B2, by rw [v2]; congr 1; omega, k2⟩
  refine fi_step (pc' := 1) m_Mo_remain rfl rfl ?_
  refine r_get (p := 4) m_Mo_remain rfl rfl (by assumption) rfl ?_
  refine fi_step (pc' := 5) m_Mo_remain rfl rfl ?_
  refine r_ldB (p := 6) m_Mo_remain rfl rfl (by assumption) (by decide) rfl (by decide) (by omega) (by omega) ?_
  refine s_if_eq (p := 9) m_Mo_remain rfl rfl (by omega) (by omega) (fun h => ?_) (fun h => ?_)
  · have := sk0 h
    refine fi_step (pc' := 22) m_Mo_remain rfl rfl ?_
    exact tl 0 (by omega)
  · have := sk1 (by omega)
    refine fi_step (pc' := 10) m_Mo_remain rfl rfl ?_
    refine fi_step (pc' := 11) m_Mo_remain rfl rfl ?_
    refine c_2 (p := 14) m_Mo_remain rfl inv_v (by decide) m_Mo_bigIsZero rfl rfl (by omega) (by omega) (Nat.le_of_ble_eq_true rfl) (Nat.le_of_ble_eq_true rfl) (RW_rcv hw _) (c_isZ hw hB (by omega) (by omega)) ?_
    by_cases hz : r k = 0
    · rw [if_pos hz]
      refine s_if_ne (p := 17) m_Mo_remain rfl rfl (by omega) (by omega) (fun hbr => ?_) (fun hbr => False.elim (by omega))
      refine fi_step (pc' := 22) m_Mo_remain rfl rfl ?_
      exact tl 0 (by omega)
    · rw [if_neg hz]
      refine s_if_ne (p := 17) m_Mo_remain rfl rfl (by omega) (by omega) (fun hbr => False.elim (by omega)) (fun hbr => ?_)
      refine fi_step (pc' := 18) m_Mo_remain rfl rfl ?_
      refine fi_step (pc' := 22) m_Mo_remain rfl rfl ?_
      exact tl 1 (by omega)
/-- all numbers of the pool that matter lie between 0 and D -/
def inP (r : Int → Int) (D : Int) (R k f : Nat) : Prop := ∀ i e : Nat, i ≤ R → k ≤ e → e < f → 0 ≤ r (100 + 6 * i + e) ∧ r (100 + 6 * i + e) ≤ D
theorem lose_loop {i b k f : Nat} {q D : Int} {S : mo_S} {R0 : Int → Int} (hfr : 4 ≤ fr) (hlo : 150 ≤ lo) (h3 : S 0 3 = f) (hf : f ≤ 6) (hi : i ≤ 6) (hb : b ≤ 6) (hib : i ≠ b) (D0 : 0 < D) (D1 : D ≤ MBND) (q0 : 0 ≤ q) (q1 : q ≤ D) (hPo : ∀ e : Nat, k < e → e < f → 0 ≤ R0 (100 + 6 * i + e) ∧ R0 (100 + 6 * i + e) ≤ D ∧ 0 ≤ R0 (100 + 6 * b + e) ∧ R0 (100 + 6 * b + e) ≤ D) :
    ∀ (d e : Nat) (w : ax_W) (s : mo_S) (r : Int → Int), e + d = f → k < e → RW w0 w s → oth S s → Bg s r → r 270 = q → r 276 = D → (∀ j : Int, j ≠ 268 → j ≠ 269 → j ≠ 272 → (∀ e' : Nat, k < e' → e' < e → j ≠ 100 + 6 * i + e') → r j = R0 j) → (∀ e' : Nat, k < e' → e' < e → r (100 + 6 * i + e') = (R0 (100 + 6 * i + e') - q * R0 (100 + 6 * b + e')) % D) →
    fin xs fr lo 164 44 [some (.ref 425), some (.int (jI i)), some (.int (jI b)), some (.int (jI k)), some (.int (jI e))] [] w (Ret fun u w' => u = none ∧ ∃ s' r', RW w0 w' s' ∧ oth S s' ∧ Bg s' r' ∧ r' 276 = D ∧ (∀ j : Int, j ≠ 268 → j ≠ 269 → j ≠ 272 → (∀ e' : Nat, k < e' → e' < f → j ≠ 100 + 6 * i + e') → r' j = R0 j) ∧ ∀ e' : Nat, k < e' → e' < f → r' (100 + 6 * i + e') = (R0 (100 + 6 * i + e') - q * R0 (100 + 6 * b + e')) % D) := by
  intro d
  induction d with
  | zero =>
    intro e w s r he hk hw ho hB v0 vD kr vr
    have e3 : s 0 3 = f := by rw [ho 0 (by decide) (by decide) (by decide)]; exact h3
    obtain rfl : e = f := by omega
    refine fi_step (pc' := 46) m_Mo_lose rfl rfl ?_
    refine fi_step (pc' := 47) m_Mo_lose rfl rfl ?_
    refine r_get (p := 50) m_Mo_lose rfl rfl (by assumption) rfl ?_
    refine s_ic_ge (p := 53) m_Mo_lose rfl rfl (by omega) (by omega) (by omega) (by omega) (fun hbr => ?_) (fun hbr => False.elim (by omega))
    refine p_ret m_Mo_lose rfl rfl ?_
    exact ⟨rfl, s, r, hw, ho, hB, vD, kr, vr⟩
  | succ d ih =>
    intro e w s r he hk hw ho hB v0 vD kr vr
    have e3 : s 0 3 = f := by rw [ho 0 (by decide) (by decide) (by decide)]; exact h3
    obtain ⟨p1, p2, p3, p4⟩ := hPo e hk (by omega)
    have vb : r (100 + 6 * b + e) = R0 (100 + 6 * b + e) := kr _ (by omega) (by omega) (by omega) (fun e' _ _ => by omega)
    have vi : r (100 + 6 * i + e) = R0 (100 + 6 * i + e) := kr _ (by omega) (by omega) (by omega) (fun e' _ _ => by omega)
    have hqm : q * R0 (100 + 6 * b + e) ≤ MBND * MBND := Int.le_trans (Int.mul_le_mul_of_nonneg_right (show q ≤ MBND by omega) p3) (Int.mul_le_mul_of_nonneg_left (by omega) (by decide))
    have hq0 : 0 ≤ q * R0 (100 + 6 * b + e) := Int.mul_nonneg q0 p3
    have hrm : MBND * MBND < rm 138 := Int.lt_of_lt_of_le (by decide) (le_rm (i := 40) (by decide))
    have hrm2 : MBND + MBND * MBND < rm 140 := Int.lt_of_lt_of_le (by decide) (le_rm (i := 40) (by decide))
    refine fi_step (pc' := 46) m_Mo_lose rfl rfl ?_
    refine fi_step (pc' := 47) m_Mo_lose rfl rfl ?_
    refine r_get (p := 50) m_Mo_lose rfl rfl (by assumption) rfl ?_
    refine s_ic_ge (p := 53) m_Mo_lose rfl rfl (by omega) (by omega) (by omega) (by omega) (fun hbr => False.elim (by omega)) (fun hbr => ?_)
    refine fi_step (pc' := 54) m_Mo_lose rfl rfl ?_
    refine s_sipush (p := 57) m_Mo_lose rfl rfl rfl ?_
    refine s_sipush (p := 60) m_Mo_lose rfl rfl rfl ?_
    refine fi_step (pc' := 61) m_Mo_lose rfl rfl ?_
    refine fi_step (pc' := 62) m_Mo_lose rfl rfl ?_
    refine fi_step (pc' := 64) m_Mo_lose rfl rfl ?_
    refine c_3 (p := 67) m_Mo_lose rfl inv_v (by decide) m_Mo_cell rfl rfl (by omega) (by omega) (Nat.le_of_ble_eq_true rfl) (Nat.le_of_ble_eq_true rfl) (RW_rcv hw _) c_cell ?_
    refine g_4 (p := 70) m_Mo_lose rfl inv_v (by decide) m_Mo_bigProduct rfl rfl (by omega) (by omega) (Nat.le_of_ble_eq_true rfl) (Nat.le_of_ble_eq_true rfl) (RW_rcv hw _) (c_bigProduct (by omega) (by omega) hw hB (by omega) (by omega) (by omega) (by omega) (by omega) (by omega) (by omega) (by omega) (by rw [v0, vb, ← Int.natCast_mul, ← Int.natAbs_mul]; omega)) (fun v w hP => ?_)
    obtain ⟨rfl, s1, hw, o1, B1⟩ := hP
    obtain ⟨r1, B1, u1, k1⟩ : ∃ r1, Bg s1 r1 ∧ r1 268 = q * R0 (100 + 6 * b + e) ∧ ∀ j : Int, j ≠ 268 → r1 j = r j := ⟨_, B1, by rw [up1_same, v0, vb], fun j hj => up1_ne _ hj _⟩
    have i1 : r1 (100 + 6 * i + e) = R0 (100 + 6 * i + e) := by rw [k1 _ (by omega), vi]
    refine fi_step (pc' := 71) m_Mo_lose rfl rfl ?_
    refine fi_step (pc' := 72) m_Mo_lose rfl rfl ?_
    refine fi_step (pc' := 73) m_Mo_lose rfl rfl ?_
    refine fi_step (pc' := 75) m_Mo_lose rfl rfl ?_
    refine c_3 (p := 78) m_Mo_lose rfl inv_v (by decide) m_Mo_cell rfl rfl (by omega) (by omega) (Nat.le_of_ble_eq_true rfl) (Nat.le_of_ble_eq_true rfl) (RW_rcv hw _) c_cell ?_
    refine s_sipush (p := 81) m_Mo_lose rfl rfl rfl ?_
    refine fi_step (pc' := 82) m_Mo_lose rfl rfl ?_
    refine g_4 (p := 85) m_Mo_lose rfl inv_v (by decide) m_Mo_bigAdd rfl rfl (by omega) (by omega) (Nat.le_of_ble_eq_true rfl) (Nat.le_of_ble_eq_true rfl) (RW_rcv hw _) (c_bigAdd (l := 1) (by omega) (by omega) hw B1 (by omega) (by omega) (by omega) (by omega) (by omega) (Or.inr rfl) (by rw [u1, i1]; omega)) (fun v w hP => ?_)
    obtain ⟨rfl, s2, hw, o2, B2⟩ := hP
    obtain ⟨r2, B2, i2, k2⟩ : ∃ r2, Bg s2 r2 ∧ r2 (100 + 6 * i + e) = R0 (100 + 6 * i + e) - q * R0 (100 + 6 * b + e) ∧ ∀ j : Int, j ≠ 268 → j ≠ 100 + 6 * i + e → r2 j = r j := ⟨_, B2, by rw [up1_same, if_pos rfl, i1, u1], fun j hj h2 => by rw [up1_ne _ h2, k1 _ hj]⟩
    refine fi_step (pc' := 86) m_Mo_lose rfl rfl ?_
    refine fi_step (pc' := 87) m_Mo_lose rfl rfl ?_
    refine fi_step (pc' := 88) m_Mo_lose rfl rfl ?_
    refine fi_step (pc' := 90) m_Mo_lose rfl rfl ?_
    refine c_3 (p := 93) m_Mo_lose rfl inv_v (by decide) m_Mo_cell rfl rfl (by omega) (by omega) (Nat.le_of_ble_eq_true rfl) (Nat.le_of_ble_eq_true rfl) (RW_rcv hw _) c_cell ?_
    refine g_2 (p := 96) m_Mo_lose rfl inv_v (by decide) m_Mo_remain rfl rfl (by omega) (by omega) (Nat.le_of_ble_eq_true rfl) (Nat.le_of_ble_eq_true rfl) (RW_rcv hw _) (c_remain (D := D) (by omega) (by omega) hw B2 (by omega) (by omega) (by rw [k2 _ (by omega) (by omega)]; exact vD) D0 D1) (fun v w hP => ?_)
    obtain ⟨rfl, s3, r3, hw, o3, B3, i3, k3⟩ := hP
    refine s_iinc (p := 99) m_Mo_lose rfl rfl rfl ?_
    refine fi_step (pc' := 44) m_Mo_lose rfl rfl ?_
    refine ih (e + 1) w s3 r3 (by omega) (by omega) hw (oth_trans ho (oth_trans o1 (oth_trans o2 o3))) B3 ?_ ?_ (fun j j1 j2 j3 j4 => ?_) (fun e' h1 h2 => ?_)
    · rw [k3 _ (by omega) (by omega) (by omega), k2 _ (by omega) (by omega)]; exact v0
    · rw [k3 _ (by omega) (by omega) (by omega), k2 _ (by omega) (by omega)]; exact vD
    · have hj := j4 e hk (by omega)
      rw [k3 j hj j2 j3, k2 j j1 hj]
      exact kr j j1 j2 j3 (fun e' h1 h2 => j4 e' h1 (by omega))
    · by_cases ee : e' = e
      · subst ee; rw [i3, i2]
      · rw [k3 _ (by omega) (by omega) (by omega), k2 _ (by omega) (by omega)]; exact vr e' h1 (by omega)
theorem c_lose {i b k f R : Nat} {D : Int} {w : ax_W} {s : mo_S} {r : Int → Int} (hfr : 4 ≤ fr) (hlo : 150 ≤ lo) (hw : RW w0 w s) (hB : Bg s r) (h3 : s 0 3 = f) (hf : f ≤ 6) (hR : R ≤ 6) (hi : i ≤ R) (hb : b ≤ R) (hk : k < f) (hib : i ≠ b) (hD : r 276 = D) (D0 : 0 < D) (D1 : D ≤ MBND) (hPo : inP r D R k f) (hnz : r (100 + 6 * b + k) ≠ 0) :
    fin xs fr lo 164 0 (ax_ent [.ref 425, .int (jI i), .int (jI b), .int (jI k)] 5) [] w (Ret fun u w' => u = none ∧ ∃ s' r', RW w0 w' s' ∧ oth s s' ∧ Bg s' r' ∧ r' 276 = D ∧ r' (100 + 6 * i + k) = r (100 + 6 * i + k) % r (100 + 6 * b + k) ∧ (∀ e' : Nat, k < e' → e' < f → r' (100 + 6 * i + e') = (r (100 + 6 * i + e') - r (100 + 6 * i + k) / r (100 + 6 * b + k) * r (100 + 6 * b + e')) % D) ∧ ∀ j : Int, (j < 268 ∨ j = 275) → (∀ e' : Nat, k ≤ e' → e' < f → j ≠ 100 + 6 * i + e') → r' j = r j) := by
  have pi := hPo i k (by omega) (by omega) hk
  have pb := hPo b k (by omega) (by omega) hk
  have q0 : 0 ≤ r (100 + 6 * i + k) / r (100 + 6 * b + k) := Int.ediv_nonneg pi.1 pb.1
  have q1 : r (100 + 6 * i + k) / r (100 + 6 * b + k) ≤ r (100 + 6 * i + k) := Int.ediv_le_self _ pi.1
  refine fi_step (pc' := 1) m_Mo_lose rfl rfl ?_
  refine s_sipush (p := 4) m_Mo_lose rfl rfl rfl ?_
  refine fi_step (pc' := 5) m_Mo_lose rfl rfl ?_
  refine fi_step (pc' := 6) m_Mo_lose rfl rfl ?_
  refine fi_step (pc' := 7) m_Mo_lose rfl rfl ?_
  refine c_3 (p := 10) m_Mo_lose rfl inv_v (by decide) m_Mo_cell rfl rfl (by omega) (by omega) (Nat.le_of_ble_eq_true rfl) (Nat.le_of_ble_eq_true rfl) (RW_rcv hw _) c_cell ?_
  refine g_3 (p := 13) m_Mo_lose rfl inv_v (by decide) m_Mo_bigCopy rfl rfl (by omega) (by omega) (Nat.le_of_ble_eq_true rfl) (Nat.le_of_ble_eq_true rfl) (RW_rcv hw _) (c_bigCopy hw hB (by omega) (by omega) (by omega) (by omega) (by omega)) (fun v w hP => ?_)
  obtain ⟨rfl, s1, hw, o1, B1⟩ := hP
  obtain ⟨r1, B1, v1, k1⟩ : ∃ r1, Bg s1 r1 ∧ r1 269 = r (100 + 6 * b + k) ∧ ∀ j : Int, j ≠ 269 → r1 j = r j := ⟨_, B1, up1_same .., fun j hj => up1_ne _ hj _⟩
  have i1 : r1 (100 + 6 * i + k) = r (100 + 6 * i + k) := k1 _ (by omega)
  refine fi_step (pc' := 14) m_Mo_lose rfl rfl ?_
  refine fi_step (pc' := 15) m_Mo_lose rfl rfl ?_
  refine fi_step (pc' := 16) m_Mo_lose rfl rfl ?_
  refine fi_step (pc' := 17) m_Mo_lose rfl rfl ?_
  refine c_3 (p := 20) m_Mo_lose rfl inv_v (by decide) m_Mo_cell rfl rfl (by omega) (by omega) (Nat.le_of_ble_eq_true rfl) (Nat.le_of_ble_eq_true rfl) (RW_rcv hw _) c_cell ?_
  refine s_sipush (p := 23) m_Mo_lose rfl rfl rfl ?_
  refine s_sipush (p := 26) m_Mo_lose rfl rfl rfl ?_
  refine g_4 (p := 29) m_Mo_lose rfl inv_v (by decide) m_Mo_bigDivide rfl rfl (by omega) (by omega) (Nat.le_of_ble_eq_true rfl) (Nat.le_of_ble_eq_true rfl) (RW_rcv hw _) (c_bigDivide (by omega) (by omega) hw B1 (by omega) (by omega) (by omega) (by omega) (by omega) (by omega) (by omega) (by omega) (by omega) (by omega)) (fun v w hP => ?_)
  obtain ⟨rfl, s2, hw, o2, B2⟩ := hP
  obtain ⟨r2, B2, v2, q2, k2⟩ : ∃ r2, Bg s2 r2 ∧ r2 (100 + 6 * i + k) = r (100 + 6 * i + k) % r (100 + 6 * b + k) ∧ r2 272 = r (100 + 6 * i + k) / r (100 + 6 * b + k) ∧ ∀ j : Int, j ≠ 269 → j ≠ 272 → j ≠ 100 + 6 * i + k → r2 j = r j := ⟨_, B2, by rw [up1_same, v1, i1, Int.natAbs_of_nonneg pi.1, Int.natAbs_of_nonneg pb.1], by rw [up1_ne _ (by omega), up1_same, v1, i1, Int.natAbs_of_nonneg pi.1, Int.natAbs_of_nonneg pb.1], fun j h1 h2 h3 => by rw [up1_ne _ h3, up1_ne _ h2, k1 j h1]⟩
  refine fi_step (pc' := 30) m_Mo_lose rfl rfl ?_
  refine s_sipush (p := 33) m_Mo_lose rfl rfl rfl ?_
  refine s_sipush (p := 36) m_Mo_lose rfl rfl rfl ?_
  refine g_3 (p := 39) m_Mo_lose rfl inv_v (by decide) m_Mo_bigCopy rfl rfl (by omega) (by omega) (Nat.le_of_ble_eq_true rfl) (Nat.le_of_ble_eq_true rfl) (RW_rcv hw _) (c_bigCopy hw B2 (by omega) (by omega) (by omega) (by omega) (by omega)) (fun v w hP => ?_)
  obtain ⟨rfl, s3, hw, o3, B3⟩ := hP
  obtain ⟨r3, B3, v3, k3⟩ : ∃ r3, Bg s3 r3 ∧ r3 270 = r (100 + 6 * i + k) / r (100 + 6 * b + k) ∧ ∀ j : Int, j ≠ 270 → r3 j = r2 j := ⟨_, B3, by rw [up1_same, q2], fun j hj => up1_ne _ hj _⟩
  have o13 := oth_trans o1 (oth_trans o2 o3)
  refine fi_step (pc' := 40) m_Mo_lose rfl rfl ?_
  refine fi_step (pc' := 41) m_Mo_lose rfl rfl ?_
  refine s_iadd (p := 42) m_Mo_lose rfl rfl ?_
  refine fi_step (pc' := 44) m_Mo_lose rfl rfl ?_
  refine fi_mono (lose_loop (i := i) (b := b) (k := k) (f := f) (D := D) (S := s3) (R0 := r3) hfr hlo (by rw [o13 0 (by decide) (by decide) (by decide)]; exact h3) hf (by omega) (by omega) hib D0 D1 q0 (by omega) (fun e e0 e1 => ?_) (f - (k + 1)) (k + 1) w s3 r3 (by omega) (by omega) hw (oth_refl s3) B3 v3 (by rw [k3 _ (by decide), k2 _ (by decide) (by decide) (by omega)]; exact hD) (fun _ _ _ _ _ => rfl) (fun e' _ _ => by omega)) ?_
  · have a := hPo i e (by omega) (by omega) e1
    have c := hPo b e (by omega) (by omega) e1
    rw [k3 _ (by omega), k2 _ (by omega) (by omega) (by omega), k3 (100 + 6 * b + e) (by omega), k2 (100 + 6 * b + e) (by omega) (by omega) (by omega)]
    exact ⟨a.1, a.2, c.1, c.2⟩
  · rintro o w' ⟨v, rfl, rfl, s', r', g1, g2, g3, g4, g5, g6⟩
    refine ⟨none, rfl, rfl, s', r', g1, oth_trans o13 g2, g3, g4, ?_, fun e' h1 h2 => ?_, fun j j0 j1 => ?_⟩
    · rw [g5 _ (by omega) (by omega) (by omega) (fun e' _ _ => by omega), k3 _ (by omega), v2]
    · rw [g6 e' h1 h2, k3 _ (by omega), k2 _ (by omega) (by omega) (by omega), k3 (100 + 6 * b + e') (by omega), k2 (100 + 6 * b + e') (by omega) (by omega) (by omega)]
    · have := j1 k (by omega) hk
      rw [g5 j (by omega) (by omega) (by omega) (fun e' h1 h2 => j1 e' (by omega) h2), k3 j (by omega), k2 j (by omega) (by omega) this]
end FORM
