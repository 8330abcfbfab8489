/-! THE REFERENCE: solve -/
/-- what is small at the leads before column R is 0 before it -/
theorem ech_front {R : Int} : ∀ {hs : HL}, ech hs → ∀ {x : Vec}, sp (vv hs) x → (∀ p, p ∈ hs → p.1 < R → ((x p.1).natAbs : Int) < p.2 p.1) → ∀ j : Int, j < R → x j = 0
  | [], _, x, hx, _, j, _ => hx j
  | (c, v) :: t, he, x, hx, hs, j, hj => by
    by_cases hc : c < R
    · obtain ⟨q, e, _, ht⟩ := ech_step he hx
      have h1 := hs (c, v) (List.mem_cons_self ..) hc
      simp only at h1
      have hq : q = 0 := by
        refine Classical.byContradiction (fun hq => ?_)
        rw [e, Int.natAbs_mul] at h1
        have hv := he.1
        have : (v c).natAbs ≤ q.natAbs * (v c).natAbs := Nat.le_mul_of_pos_left _ (by omega)
        omega
      subst hq
      exact ech_front he.2.2.2 (sp_ext ht (fun j => by simp)) (fun p hp => hs p (List.mem_cons_of_mem _ hp)) j hj
    · refine ech_before (k := R - 1) he (fun p hp => ?_) hx j (by omega)
      rcases List.mem_cons.mp hp with e | e
      · subst e; simp only; omega
      · have := he.2.2.1 p e; omega
def QB (n : Nat) : Int := 1000000000000000000 * (1 + MBND) ^ n
theorem QB_succ (n : Nat) : QB (n + 1) = QB n + QB n * MBND := by unfold QB; rw [Int.pow_succ]; grind
theorem QB_pos (n : Nat) : 0 ≤ QB n := Int.mul_nonneg (by decide) (Int.pow_nonneg (by decide))
theorem QB_le : ∀ {n m : Nat}, n ≤ m → QB n ≤ QB m
  | n, 0, h => by rw [show n = 0 by omega]; omega
  | n, m + 1, h => by
    by_cases e : n = m + 1
    · subst e; omega
    · have := QB_le (n := n) (m := m) (by omega)
      rw [QB_succ]
      have := Int.mul_nonneg (QB_pos m) (show (0 : Int) ≤ MBND by decide)
      omega
def LB (n : Nat) : Int := 1000000000000000000 + n * (QB 6 * FBND)
theorem LB_succ (n : Nat) : LB (n + 1) = LB n + QB 6 * FBND := by unfold LB; rw [Int.natCast_add, Int.add_mul]; omega
theorem QF_rm : QB 6 * FBND < rm 138 ∧ LB 7 < rm 140 ∧ QB 6 < rm 138 := ⟨Int.lt_of_lt_of_le (by decide) (le_rm (i := 135) (by decide)), Int.lt_of_lt_of_le (by decide) (le_rm (i := 135) (by decide)), Int.lt_of_lt_of_le (by decide) (le_rm (i := 135) (by decide))⟩
theorem LB_le {n m : Nat} (h : n ≤ m) : LB n ≤ LB m := by
  unfold LB
  have : (n : Int) * (QB 6 * FBND) ≤ m * (QB 6 * FBND) := Int.mul_le_mul_of_nonneg_right (by omega) (Int.mul_nonneg (QB_pos 6) (by decide))
  omega
section SOLVE
variable {xs : List Int32} {fr lo : Nat} {w0 : ax_W} {Q : Outcome → ax_W → Prop}
theorem solve_init {a b : Int} {R W n : Nat} {S : mo_S} {R0 : Int → Int} {t : Value} (hfr : 1 ≤ fr) (hlo : 30 ≤ lo) (a0 : 0 ≤ a) (a1 : a < 6) (b0 : 0 ≤ b) (b1 : b < 6) (hR : S 5 a = R) (R6 : R ≤ 6) (hW : S 0 2 = W) (W12 : W ≤ 12) (hb : ∀ j : Int, 0 ≤ j → j < 6 → ((S 4 (36 * b + 6 * j)).natAbs : Int) ≤ 1000000000000000000)
    (K : ∀ w s r, RW w0 w s → oth S s → Bg s r → (∀ j : Nat, j < W → r (256 + j) = if (j : Int) < R then S 4 (36 * b + 6 * j) else 0) → (∀ k : Int, k < 256 → r k = R0 k) → fin xs fr lo 171 107 [some (.ref 425), some t, some (.int (jI a)), some (.int (jI b)), some (.int (jI n)), some (.int (jI W)), none] [] w Q) :
    ∀ (d j : Nat) (w : ax_W) (s : mo_S) (r : Int → Int), j + d = W → RW w0 w s → oth S s → Bg s r → (∀ j' : Nat, j' < j → r (256 + j') = if (j' : Int) < R then S 4 (36 * b + 6 * j') else 0) → (∀ k : Int, k < 256 → r k = R0 k) →
    fin xs fr lo 171 59 [some (.ref 425), some t, some (.int (jI a)), some (.int (jI b)), some (.int (jI n)), some (.int (jI j)), none] [] w Q := by
  intro d
  induction d with
  | zero =>
    intro j w s r hj hw ho hB hv hr
    have e2 : s 0 2 = W := by rw [ho 0 (by decide) (by decide) (by decide)]; exact hW
    obtain rfl : j = W := by omega
    refine fi_step (pc' := 61) m_Mo_solve rfl rfl ?_
    refine fi_step (pc' := 62) m_Mo_solve rfl rfl ?_
    refine r_get (p := 65) m_Mo_solve rfl rfl (by assumption) rfl ?_
    refine s_ic_ge (p := 68) m_Mo_solve rfl rfl (by omega) (by omega) (by omega) (by omega) (fun hbr => ?_) (fun hbr => False.elim (by omega))
    exact K w s r hw ho hB hv hr
  | succ d ih =>
    intro j w s r hj hw ho hB hv hr
    have e2 : s 0 2 = W := by rw [ho 0 (by decide) (by decide) (by decide)]; exact hW
    have e5 : s 5 a = R := by rw [ho 5 (by decide) (by decide) (by decide)]; exact hR
    have e4 : s 4 = S 4 := ho 4 (by decide) (by decide) (by decide)
    have nx : ∀ v : Int, v = (if (j : Int) < R then S 4 (36 * b + 6 * j) else 0) → fin xs fr lo 171 98 [some (.ref 425), some t, some (.int (jI a)), some (.int (jI b)), some (.int (jI n)), some (.int (jI j)), none] [.long (jL v), .int (jI (256 + j)), .ref 425] w Q := by
      intro v hvv
      have hvb : -1000000000000000000 ≤ v ∧ v ≤ 1000000000000000000 := by
        rw [hvv]; split
        · have := hb j (by omega) (by omega); omega
        · omega
      refine g_3 (p := 101) m_Mo_solve rfl inv_v (by decide) m_Mo_bigSet rfl rfl (by omega) (by omega) (Nat.le_of_ble_eq_true rfl) (Nat.le_of_ble_eq_true rfl) (RW_rcv hw _) (c_bigSet hw hB (by omega) (by omega) (by omega) (by omega)) (fun v w hP => ?_)
      obtain ⟨rfl, s1, hw, o1, B1⟩ := hP
      refine s_iinc (p := 104) m_Mo_solve rfl rfl rfl ?_
      refine fi_step (pc' := 59) m_Mo_solve rfl rfl ?_
      refine ih (j + 1) w s1 _ (by omega) hw (oth_trans ho o1) B1 (fun j' h => ?_) (fun k hk => by rw [up1_ne _ (by omega)]; exact hr k hk)
      by_cases e : j' = j
      · subst e; rw [up1_same, hvv]
      · rw [up1_ne _ (by omega)]; exact hv j' (by omega)
    refine fi_step (pc' := 61) m_Mo_solve rfl rfl ?_
    refine fi_step (pc' := 62) m_Mo_solve rfl rfl ?_
    refine r_get (p := 65) m_Mo_solve rfl rfl (by assumption) rfl ?_
    refine s_ic_ge (p := 68) m_Mo_solve rfl rfl (by omega) (by omega) (by omega) (by omega) (fun hbr => False.elim (by omega)) (fun hbr => ?_)
    refine fi_step (pc' := 69) m_Mo_solve rfl rfl ?_
    refine s_sipush (p := 72) m_Mo_solve rfl rfl rfl ?_
    refine fi_step (pc' := 74) m_Mo_solve rfl rfl ?_
    refine s_iadd (p := 75) m_Mo_solve rfl rfl ?_
    refine fi_step (pc' := 77) m_Mo_solve rfl rfl ?_
    refine fi_step (pc' := 78) m_Mo_solve rfl rfl ?_
    refine r_get (p := 81) m_Mo_solve rfl rfl (by assumption) rfl ?_
    refine fi_step (pc' := 82) m_Mo_solve rfl rfl ?_
    refine r_ldI (p := 83) m_Mo_solve rfl rfl (by assumption) (by decide) rfl (by decide) (by omega) (by omega) ?_
    refine s_ic_ge (p := 86) m_Mo_solve rfl rfl (by omega) (by omega) (by omega) (by omega) (fun h => ?_) (fun h => ?_)
    · refine s_lconst (p := 98) (v := 0) m_Mo_solve rfl rfl rfl ?_
      exact nx 0 (by rw [if_neg (by omega)])
    · refine fi_step (pc' := 87) m_Mo_solve rfl rfl ?_
      refine fi_step (pc' := 88) m_Mo_solve rfl rfl ?_
      refine fi_step (pc' := 90) m_Mo_solve rfl rfl ?_
      refine fi_step (pc' := 91) m_Mo_solve rfl rfl ?_
      refine c_4 (p := 94) m_Mo_solve rfl inv_v (by decide) m_Mo_number rfl rfl (by omega) (by omega) (Nat.le_of_ble_eq_true rfl) (Nat.le_of_ble_eq_true rfl) (RW_rcv hw _) (c_number hw b0 b1 (by omega) (by omega) (by omega) (by omega)) ?_
      refine fi_step (pc' := 98) m_Mo_solve rfl rfl ?_
      rw [Int.add_zero, e4]
      exact nx _ (by rw [if_pos (by omega)])
def ngI (s : mo_S) (r : Int → Int) (k : Int) : Prop := (s 3 k = 1 → ∃ r', Bg (up s 3 k 0) r' ∧ r' k = - r k ∧ ∀ j : Int, j ≠ k → r' j = r j) ∧ (s 3 k = 0 → r k = 0 → ∃ r', Bg (up s 3 k 0) r' ∧ r' k = - r k ∧ ∀ j : Int, j ≠ k → r' j = r j) ∧ (s 3 k = 0 → r k ≠ 0 → ∃ r', Bg (up s 3 k 1) r' ∧ r' k = - r k ∧ ∀ j : Int, j ≠ k → r' j = r j)
theorem neg1 {k : Int} {s : mo_S} {r : Int → Int} (hB : Bg s r) (k0 : 0 ≤ k) (k1 : k < 277) : (s 3 k = 0 ∨ s 3 k = 1) ∧ ngI s r k := by
  obtain ⟨_, _, sk, sk0, sk1⟩ := isN_abs (hB k k0 k1)
  have B0 := Bg_sign hB (k := k) (b := 0) k0 k1 (Or.inl rfl)
  have B1 := Bg_sign hB (k := k) (b := 1) k0 k1 (Or.inr rfl)
  refine ⟨sk, fun h => ⟨_, B0, ?_, fun j hj => up1_ne _ hj _⟩, fun h hz => ⟨_, B0, ?_, fun j hj => up1_ne _ hj _⟩, fun h hz => ⟨_, B1, ?_, fun j hj => up1_ne _ hj _⟩⟩
  · rw [up1_same, if_neg (by decide)]; have := sk1 h; omega
  · rw [up1_same, if_neg (by decide)]; omega
  · rw [up1_same, if_pos rfl]; have := sk0 h; omega
theorem solve_neg {a : Int} {R W : Nat} {S : mo_S} {R0 : Int → Int} {t v3 v4 : Value} {i5 : Int} (hfr : 3 ≤ fr) (hlo : 120 ≤ lo) (hW : S 0 2 = W) (W12 : W ≤ 12)
    (K : ∀ w s r, RW w0 w s → oth S s → Bg s r → (∀ j : Nat, R ≤ j → j < W → r (256 + j) = - R0 (256 + j)) → (∀ k : Int, (∀ j : Nat, R ≤ j → j < W → k ≠ 256 + j) → r k = R0 k) → fin xs fr lo 171 192 [some (.ref 425), some t, some (.int (jI a)), some v3, some v4, some (.int (jI i5)), some (.int (jI W))] [] w Q) :
    ∀ (d j : Nat) (w : ax_W) (s : mo_S) (r : Int → Int), j + d = W → R ≤ j → RW w0 w s → oth S s → Bg s r → (∀ j' : Nat, R ≤ j' → j' < j → r (256 + j') = - R0 (256 + j')) → (∀ k : Int, (∀ j' : Nat, R ≤ j' → j' < j → k ≠ 256 + j') → r k = R0 k) →
    fin xs fr lo 171 134 [some (.ref 425), some t, some (.int (jI a)), some v3, some v4, some (.int (jI i5)), some (.int (jI j))] [] w Q := by
  intro d
  induction d with
  | zero =>
    intro j w s r hj hRj hw ho hB hv hr
    have e2 : s 0 2 = W := by rw [ho 0 (by decide) (by decide) (by decide)]; exact hW
    obtain rfl : j = W := by omega
    refine fi_step (pc' := 136) m_Mo_solve rfl rfl ?_
    refine fi_step (pc' := 137) m_Mo_solve rfl rfl ?_
    refine r_get (p := 140) m_Mo_solve rfl rfl (by assumption) rfl ?_
    refine s_ic_ge (p := 143) m_Mo_solve rfl rfl (by omega) (by omega) (by omega) (by omega) (fun hbr => ?_) (fun hbr => False.elim (by omega))
    exact K w s r hw ho hB hv hr
  | succ d ih =>
    intro j w s r hj hRj hw ho hB hv hr
    have e2 : s 0 2 = W := by rw [ho 0 (by decide) (by decide) (by decide)]; exact hW
    obtain ⟨hs, hng⟩ := neg1 hB (k := 256 + j) (by omega) (by omega)
    have go : ∀ (c : Int) (w : ax_W), RW w0 w (up s 3 (256 + j) c) → (∃ r', Bg (up s 3 (256 + j) c) r' ∧ r' (256 + j) = - r (256 + j) ∧ ∀ k : Int, k ≠ 256 + (j : Int) → r' k = r k) → fin xs fr lo 171 186 [some (.ref 425), some t, some (.int (jI a)), some v3, some v4, some (.int (jI i5)), some (.int (jI j))] [] w Q := by
      rintro c w hw ⟨r', B', v', k'⟩
      refine s_iinc (p := 189) m_Mo_solve rfl rfl rfl ?_
      refine fi_step (pc' := 134) m_Mo_solve rfl rfl ?_
      refine ih (j + 1) w _ r' (by omega) (by omega) hw (oth_trans ho (oth_up3 _ _ _)) B' (fun j' h0 h1 => ?_) (fun k hk => ?_)
      · by_cases e : j' = j
        · subst e; rw [v', hr _ (fun j'' _ _ => by omega)]
        · rw [k' _ (by omega)]; exact hv j' h0 (by omega)
      · rw [k' _ (hk j hRj (by omega))]; exact hr k (fun j' h0 h1 => hk j' h0 (by omega))
    refine fi_step (pc' := 136) m_Mo_solve rfl rfl ?_
    refine fi_step (pc' := 137) m_Mo_solve rfl rfl ?_
    refine r_get (p := 140) m_Mo_solve rfl rfl (by assumption) rfl ?_
    refine s_ic_ge (p := 143) m_Mo_solve rfl rfl (by omega) (by omega) (by omega) (by omega) (fun hbr => False.elim (by omega)) (fun hbr => ?_)
    refine fi_step (pc' := 144) m_Mo_solve rfl rfl ?_
    refine r_get (p := 147) m_Mo_solve rfl rfl (by assumption) rfl ?_
    refine s_sipush (p := 150) m_Mo_solve rfl rfl rfl ?_
    refine fi_step (pc' := 152) m_Mo_solve rfl rfl ?_
    refine s_iadd (p := 153) m_Mo_solve rfl rfl ?_
    refine fi_step (pc' := 154) m_Mo_solve rfl rfl ?_
    refine r_get (p := 157) m_Mo_solve rfl rfl (by assumption) rfl ?_
    refine s_sipush (p := 160) m_Mo_solve rfl rfl rfl ?_
    refine fi_step (pc' := 162) m_Mo_solve rfl rfl ?_
    refine s_iadd (p := 163) m_Mo_solve rfl rfl ?_
    refine r_ldB (p := 164) m_Mo_solve rfl rfl (by assumption) (by decide) rfl (by decide) (by omega) (by omega) ?_
    refine s_if_ne (p := 167) m_Mo_solve rfl rfl (by omega) (by omega) (fun h1 => ?_) (fun h1 => ?_)
    · refine fi_step (pc' := 185) m_Mo_solve rfl rfl ?_
      refine r_stB (p := 186) m_Mo_solve rfl rfl (by assumption) (by decide) (fun _ => rfl) (by decide) (by omega) (by omega) (by omega) (by omega) (fun w hw => ?_)
      exact go 0 w hw (hng.1 (by omega))
    · refine fi_step (pc' := 168) m_Mo_solve rfl rfl ?_
      refine s_sipush (p := 171) m_Mo_solve rfl rfl rfl ?_
      refine fi_step (pc' := 173) m_Mo_solve rfl rfl ?_
      refine s_iadd (p := 174) m_Mo_solve rfl rfl ?_
      refine c_2 (p := 177) m_Mo_solve rfl inv_v (by decide) m_Mo_bigIsZero rfl rfl (by omega) (by omega) (Nat.le_of_ble_eq_true rfl) (Nat.le_of_ble_eq_true rfl) (RW_rcv hw _) (c_isZ hw hB (by omega) (by omega)) ?_
      by_cases hz : r (256 + j) = 0
      · rw [if_pos hz]
        refine s_if_ne (p := 180) m_Mo_solve rfl rfl (by omega) (by omega) (fun hbr => ?_) (fun hbr => False.elim (by omega))
        refine fi_step (pc' := 185) m_Mo_solve rfl rfl ?_
        refine r_stB (p := 186) m_Mo_solve rfl rfl (by assumption) (by decide) (fun _ => rfl) (by decide) (by omega) (by omega) (by omega) (by omega) (fun w hw => ?_)
        exact go 0 w hw (hng.2.1 (by omega) hz)
      · rw [if_neg hz]
        refine s_if_ne (p := 180) m_Mo_solve rfl rfl (by omega) (by omega) (fun hbr => False.elim (by omega)) (fun hbr => ?_)
        refine fi_step (pc' := 181) m_Mo_solve rfl rfl ?_
        refine fi_step (pc' := 185) m_Mo_solve rfl rfl ?_
        refine r_stB (p := 186) m_Mo_solve rfl rfl (by assumption) (by decide) (fun _ => rfl) (by decide) (by omega) (by omega) (by omega) (by omega) (fun w hw => ?_)
        exact go 1 w hw (hng.2.2 (by omega) hz)
theorem solve_neg2 {a : Int} {R W : Nat} {S : mo_S} {R0 : Int → Int} {t v3 : Value} {n4 : Int} {y6 : Option Value} (hfr : 3 ≤ fr) (hlo : 120 ≤ lo) (hW : S 0 2 = W) (W12 : W ≤ 12)
    (K : ∀ w s r, RW w0 w s → oth S s → Bg s r → (∀ j : Nat, R ≤ j → j < W → r (256 + j) = - R0 (256 + j)) → (∀ k : Int, (∀ j : Nat, R ≤ j → j < W → k ≠ 256 + j) → r k = R0 k) → fin xs fr lo 171 369 [some (.ref 425), some t, some (.int (jI a)), some v3, some (.int (jI n4)), some (.int (jI W)), y6] [] w Q) :
    ∀ (d j : Nat) (w : ax_W) (s : mo_S) (r : Int → Int), j + d = W → R ≤ j → RW w0 w s → oth S s → Bg s r → (∀ j' : Nat, R ≤ j' → j' < j → r (256 + j') = - R0 (256 + j')) → (∀ k : Int, (∀ j' : Nat, R ≤ j' → j' < j → k ≠ 256 + j') → r k = R0 k) →
    fin xs fr lo 171 311 [some (.ref 425), some t, some (.int (jI a)), some v3, some (.int (jI n4)), some (.int (jI j)), y6] [] w Q := by
  intro d
  induction d with
  | zero =>
    intro j w s r hj hRj hw ho hB hv hr
    have e2 : s 0 2 = W := by rw [ho 0 (by decide) (by decide) (by decide)]; exact hW
    obtain rfl : j = W := by omega
    refine fi_step (pc' := 313) m_Mo_solve rfl rfl ?_
    refine fi_step (pc' := 314) m_Mo_solve rfl rfl ?_
    refine r_get (p := 317) m_Mo_solve rfl rfl (by assumption) rfl ?_
    refine s_ic_ge (p := 320) m_Mo_solve rfl rfl (by omega) (by omega) (by omega) (by omega) (fun hbr => ?_) (fun hbr => False.elim (by omega))
    exact K w s r hw ho hB hv hr
  | succ d ih =>
    intro j w s r hj hRj hw ho hB hv hr
    have e2 : s 0 2 = W := by rw [ho 0 (by decide) (by decide) (by decide)]; exact hW
    obtain ⟨hs, hng⟩ := neg1 hB (k := 256 + j) (by omega) (by omega)
    have go : ∀ (c : Int) (w : ax_W), RW w0 w (up s 3 (256 + j) c) → (∃ r', Bg (up s 3 (256 + j) c) r' ∧ r' (256 + j) = - r (256 + j) ∧ ∀ k : Int, k ≠ 256 + (j : Int) → r' k = r k) → fin xs fr lo 171 363 [some (.ref 425), some t, some (.int (jI a)), some v3, some (.int (jI n4)), some (.int (jI j)), y6] [] w Q := by
      rintro c w hw ⟨r', B', v', k'⟩
      refine s_iinc (p := 366) m_Mo_solve rfl rfl rfl ?_
      refine fi_step (pc' := 311) m_Mo_solve rfl rfl ?_
      refine ih (j + 1) w _ r' (by omega) (by omega) hw (oth_trans ho (oth_up3 _ _ _)) B' (fun j' h0 h1 => ?_) (fun k hk => ?_)
      · by_cases e : j' = j
        · subst e; rw [v', hr _ (fun j'' _ _ => by omega)]
        · rw [k' _ (by omega)]; exact hv j' h0 (by omega)
      · rw [k' _ (hk j hRj (by omega))]; exact hr k (fun j' h0 h1 => hk j' h0 (by omega))
    refine fi_step (pc' := 313) m_Mo_solve rfl rfl ?_
    refine fi_step (pc' := 314) m_Mo_solve rfl rfl ?_
    refine r_get (p := 317) m_Mo_solve rfl rfl (by assumption) rfl ?_
    refine s_ic_ge (p := 320) m_Mo_solve rfl rfl (by omega) (by omega) (by omega) (by omega) (fun hbr => False.elim (by omega)) (fun hbr => ?_)
    refine fi_step (pc' := 321) m_Mo_solve rfl rfl ?_
    refine r_get (p := 324) m_Mo_solve rfl rfl (by assumption) rfl ?_
    refine s_sipush (p := 327) m_Mo_solve rfl rfl rfl ?_
    refine fi_step (pc' := 329) m_Mo_solve rfl rfl ?_
    refine s_iadd (p := 330) m_Mo_solve rfl rfl ?_
    refine fi_step (pc' := 331) m_Mo_solve rfl rfl ?_
    refine r_get (p := 334) m_Mo_solve rfl rfl (by assumption) rfl ?_
    refine s_sipush (p := 337) m_Mo_solve rfl rfl rfl ?_
    refine fi_step (pc' := 339) m_Mo_solve rfl rfl ?_
    refine s_iadd (p := 340) m_Mo_solve rfl rfl ?_
    refine r_ldB (p := 341) m_Mo_solve rfl rfl (by assumption) (by decide) rfl (by decide) (by omega) (by omega) ?_
    refine s_if_ne (p := 344) m_Mo_solve rfl rfl (by omega) (by omega) (fun h1 => ?_) (fun h1 => ?_)
    · refine fi_step (pc' := 362) m_Mo_solve rfl rfl ?_
      refine r_stB (p := 363) m_Mo_solve rfl rfl (by assumption) (by decide) (fun _ => rfl) (by decide) (by omega) (by omega) (by omega) (by omega) (fun w hw => ?_)
      exact go 0 w hw (hng.1 (by omega))
    · refine fi_step (pc' := 345) m_Mo_solve rfl rfl ?_
      refine s_sipush (p := 348) m_Mo_solve rfl rfl rfl ?_
      refine fi_step (pc' := 350) m_Mo_solve rfl rfl ?_
      refine s_iadd (p := 351) m_Mo_solve rfl rfl ?_
      refine c_2 (p := 354) m_Mo_solve rfl inv_v (by decide) m_Mo_bigIsZero rfl rfl (by omega) (by omega) (Nat.le_of_ble_eq_true rfl) (Nat.le_of_ble_eq_true rfl) (RW_rcv hw _) (c_isZ hw hB (by omega) (by omega)) ?_
      by_cases hz : r (256 + j) = 0
      · rw [if_pos hz]
        refine s_if_ne (p := 357) m_Mo_solve rfl rfl (by omega) (by omega) (fun hbr => ?_) (fun hbr => False.elim (by omega))
        refine fi_step (pc' := 362) m_Mo_solve rfl rfl ?_
        refine r_stB (p := 363) m_Mo_solve rfl rfl (by assumption) (by decide) (fun _ => rfl) (by decide) (by omega) (by omega) (by omega) (by omega) (fun w hw => ?_)
        exact go 0 w hw (hng.2.1 (by omega) hz)
      · rw [if_neg hz]
        refine s_if_ne (p := 357) m_Mo_solve rfl rfl (by omega) (by omega) (fun hbr => False.elim (by omega)) (fun hbr => ?_)
        refine fi_step (pc' := 358) m_Mo_solve rfl rfl ?_
        refine fi_step (pc' := 362) m_Mo_solve rfl rfl ?_
        refine r_stB (p := 363) m_Mo_solve rfl rfl (by assumption) (by decide) (fun _ => rfl) (by decide) (by omega) (by omega) (by omega) (by omega) (fun w hw => ?_)
        exact go 1 w hw (hng.2.2 (by omega) hz)
theorem solve_sub {a q : Int} {W i : Nat} {S : mo_S} {R0 : Int → Int} {t v3 v4 : Value} (hfr : 3 ≤ fr) (hlo : 120 ≤ lo) (hW : S 0 2 = W) (W12 : W ≤ 12) (hi : i < 6) (hq : (q.natAbs : Int) ≤ QB 6) (hF : ∀ j : Nat, j < W → ((R0 (184 + 12 * i + j)).natAbs : Int) ≤ FBND) (hL : ∀ j : Nat, j < W → ((R0 (256 + j)).natAbs : Int) ≤ LB 6)
    (K : ∀ w s r, RW w0 w s → oth S s → Bg s r → (∀ j : Nat, j < W → r (256 + j) = R0 (256 + j) - q * R0 (184 + 12 * i + j)) → (∀ k : Int, k ≠ 268 → (∀ j : Nat, j < W → k ≠ 256 + j) → r k = R0 k) → fin xs fr lo 171 288 [some (.ref 425), some t, some (.int (jI a)), some v3, some v4, some (.int (jI i)), some (.int (jI W))] [] w Q) :
    ∀ (d j : Nat) (w : ax_W) (s : mo_S) (r : Int → Int), j + d = W → RW w0 w s → oth S s → Bg s r → r 270 = q → (∀ j' : Nat, j' < j → r (256 + j') = R0 (256 + j') - q * R0 (184 + 12 * i + j')) → (∀ k : Int, k ≠ 268 → (∀ j' : Nat, j' < j → k ≠ 256 + j') → r k = R0 k) →
    fin xs fr lo 171 237 [some (.ref 425), some t, some (.int (jI a)), some v3, some v4, some (.int (jI i)), some (.int (jI j))] [] w Q := by
  have hrm := QF_rm
  have hLs : LB 7 = LB 6 + QB 6 * FBND := LB_succ 6
  intro d
  induction d with
  | zero =>
    intro j w s r hj hw ho hB v0 hv hr
    have e2 : s 0 2 = W := by rw [ho 0 (by decide) (by decide) (by decide)]; exact hW
    obtain rfl : j = W := by omega
    refine fi_step (pc' := 239) m_Mo_solve rfl rfl ?_
    refine fi_step (pc' := 240) m_Mo_solve rfl rfl ?_
    refine r_get (p := 243) m_Mo_solve rfl rfl (by assumption) rfl ?_
    refine s_ic_ge (p := 246) m_Mo_solve rfl rfl (by omega) (by omega) (by omega) (by omega) (fun hbr => ?_) (fun hbr => False.elim (by omega))
    exact K w s r hw ho hB hv hr
  | succ d ih =>
    intro j w s r hj hw ho hB v0 hv hr
    have e2 : s 0 2 = W := by rw [ho 0 (by decide) (by decide) (by decide)]; exact hW
    have vF : r (184 + 12 * i + j) = R0 (184 + 12 * i + j) := hr _ (by omega) (fun j' h => by omega)
    have vR : r (256 + j) = R0 (256 + j) := hr _ (by omega) (fun j' h => by omega)
    have bF := hF j (by omega)
    have bL := hL j (by omega)
    have bp := abs_mul_le hq bF (QB_pos 6)
    refine fi_step (pc' := 239) m_Mo_solve rfl rfl ?_
    refine fi_step (pc' := 240) m_Mo_solve rfl rfl ?_
    refine r_get (p := 243) m_Mo_solve rfl rfl (by assumption) rfl ?_
    refine s_ic_ge (p := 246) m_Mo_solve rfl rfl (by omega) (by omega) (by omega) (by omega) (fun hbr => False.elim (by omega)) (fun hbr => ?_)
    refine fi_step (pc' := 247) m_Mo_solve rfl rfl ?_
    refine s_sipush (p := 250) m_Mo_solve rfl rfl rfl ?_
    refine s_sipush (p := 253) m_Mo_solve rfl rfl rfl ?_
    refine s_sipush (p := 256) m_Mo_solve rfl rfl rfl ?_
    refine s_bipush (p := 258) m_Mo_solve rfl rfl rfl ?_
    refine fi_step (pc' := 260) m_Mo_solve rfl rfl ?_
    refine s_imul (p := 261) m_Mo_solve rfl rfl ?_
    refine s_iadd (p := 262) m_Mo_solve rfl rfl ?_
    refine fi_step (pc' := 264) m_Mo_solve rfl rfl ?_
    refine s_iadd (p := 265) m_Mo_solve rfl rfl ?_
    refine g_4 (p := 268) m_Mo_solve rfl inv_v (by decide) m_Mo_bigProduct rfl rfl (by omega) (by omega) (Nat.le_of_ble_eq_true rfl) (Nat.le_of_ble_eq_true rfl) (RW_rcv hw _) (c_bigProduct (by omega) (by omega) hw hB (by omega) (by omega) (by omega) (by omega) (by omega) (by omega) (by omega) (by omega) (by rw [v0, vF, ← Int.natCast_mul, ← Int.natAbs_mul]; omega)) (fun v w hP => ?_)
    obtain ⟨rfl, s1, hw, o1, B1⟩ := hP
    obtain ⟨r1, B1, u1, k1⟩ : ∃ r1, Bg s1 r1 ∧ r1 268 = q * R0 (184 + 12 * i + j) ∧ ∀ j : Int, j ≠ 268 → r1 j = r j := ⟨_, B1, by rw [up1_same, v0, vF], fun j hj => up1_ne _ hj _⟩
    have i1 : r1 (256 + j) = R0 (256 + j) := by rw [k1 _ (by omega), vR]
    refine fi_step (pc' := 269) m_Mo_solve rfl rfl ?_
    refine s_sipush (p := 272) m_Mo_solve rfl rfl rfl ?_
    refine fi_step (pc' := 274) m_Mo_solve rfl rfl ?_
    refine s_iadd (p := 275) m_Mo_solve rfl rfl ?_
    refine s_sipush (p := 278) m_Mo_solve rfl rfl rfl ?_
    refine fi_step (pc' := 279) m_Mo_solve rfl rfl ?_
    refine g_4 (p := 282) m_Mo_solve rfl inv_v (by decide) m_Mo_bigAdd rfl rfl (by omega) (by omega) (Nat.le_of_ble_eq_true rfl) (Nat.le_of_ble_eq_true rfl) (RW_rcv hw _) (c_bigAdd (l := 1) (by omega) (by omega) hw B1 (by omega) (by omega) (by omega) (by omega) (by omega) (Or.inr rfl) (by rw [u1, i1]; omega)) (fun v w hP => ?_)
    obtain ⟨rfl, s2, hw, o2, B2⟩ := hP
    refine s_iinc (p := 285) m_Mo_solve rfl rfl rfl ?_
    refine fi_step (pc' := 237) m_Mo_solve rfl rfl ?_
    refine ih (j + 1) w s2 _ (by omega) hw (oth_trans ho (oth_trans o1 o2)) B2 ?_ (fun j' h => ?_) (fun k k0 hk => ?_)
    · rw [up1_ne _ (by omega), k1 _ (by omega)]; exact v0
    · by_cases e : j' = j
      · subst e; rw [up1_same, if_pos rfl, i1, u1]
      · rw [up1_ne _ (by omega), k1 _ (by omega)]; exact hv j' (by omega)
    · rw [up1_ne _ (hk j (by omega)), k1 k k0]; exact hr k k0 (fun j' h => hk j' (by omega))
end SOLVE
