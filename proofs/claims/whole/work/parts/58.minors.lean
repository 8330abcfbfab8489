/-! THE REFERENCE: findMinors, the greatest common divisor -/
section FM2
variable {xs : List Int32} {fr lo : Nat} {w0 : ax_W} {Q : Outcome → ax_W → Prop}
theorem find_out {n R : Nat} {S : mo_S} {R0 : Int → Int} (hfr : 3 ≤ fr) (hlo : 120 ≤ lo) (hR : S 0 1 = R) (hR6 : R ≤ 6) (hn : n ≤ 6) (hp : ∀ k : Nat, k < n → 0 ≤ S 8 k ∧ S 8 k < 12) (hg : ∀ i j : Int, 0 ≤ i → i < R → (∃ k : Nat, k < n ∧ j = S 8 k) → ((S 7 (12 * i + j)).natAbs : Int) ≤ 1000000000000000000) :
    ∀ (f : Nat) (x : Int) (y3 y4 y5 : Option Value) (w : ax_W) (s : mo_S) (r : Int → Int), 0 ≤ x → x ≤ 2 ^ R → 2 ^ R - x ≤ f → RW w0 w s → oth S s → Bg s r → (∀ y, 0 ≤ y → y < x → r (36 + y) = if (els 6 y).length ≤ n then mnr (S 7) (S 8) y else 0) → (∀ k, k < 36 ∨ 100 ≤ k → k ≠ 268 → k ≠ 269 → r k = R0 k) →
    fin xs fr lo 150 2 [some (.ref 425), some (.int (jI n)), some (.int (jI x)), y3, y4, y5] [] w (Ret fun u w' => u = none ∧ ∃ s' r', RW w0 w' s' ∧ oth S s' ∧ Bg s' r' ∧ (∀ y, 0 ≤ y → y < 2 ^ R → r' (36 + y) = if (els 6 y).length ≤ n then mnr (S 7) (S 8) y else 0) ∧ ∀ k, k < 36 ∨ 100 ≤ k → k ≠ 268 → k ≠ 269 → r' k = R0 k) := by
  have h64 := S_pow hR6
  have hRt : (S 0 1).toNat = R := by omega
  intro f
  induction f with
  | zero =>
    intro x y3 y4 y5 w s r x0 x1 hf hw ho hB hv hr
    have e1 : s 0 1 = S 0 1 := by rw [ho 0 (by decide) (by decide) (by decide)]
    have e2 : (2 : Int) ^ (s 0 1).toNat = 2 ^ R := by rw [e1, hRt]
    refine fi_step (pc' := 3) m_Mo_findMinors rfl rfl ?_
    refine fi_step (pc' := 4) m_Mo_findMinors rfl rfl ?_
    refine fi_step (pc' := 5) m_Mo_findMinors rfl rfl ?_
    refine r_get (p := 8) m_Mo_findMinors rfl rfl (by assumption) rfl ?_
    refine b_ishl (p := 9) m_Mo_findMinors rfl rfl (by omega) (by omega) ?_
    refine s_ic_ge (p := 12) m_Mo_findMinors rfl rfl (by omega) (by omega) (by omega) (by omega) (fun hbr => ?_) (fun hbr => False.elim (by omega))
    refine p_ret m_Mo_findMinors rfl rfl ?_
    exact ⟨rfl, s, r, hw, ho, hB, fun y y0 y1 => hv y y0 (by omega), hr⟩
  | succ f ih =>
    intro x y3 y4 y5 w s r x0 x1 hf hw ho hB hv hr
    have e1 : s 0 1 = S 0 1 := by rw [ho 0 (by decide) (by decide) (by decide)]
    have e2 : (2 : Int) ^ (s 0 1).toNat = 2 ^ R := by rw [e1, hRt]
    refine fi_step (pc' := 3) m_Mo_findMinors rfl rfl ?_
    refine fi_step (pc' := 4) m_Mo_findMinors rfl rfl ?_
    refine fi_step (pc' := 5) m_Mo_findMinors rfl rfl ?_
    refine r_get (p := 8) m_Mo_findMinors rfl rfl (by assumption) rfl ?_
    refine b_ishl (p := 9) m_Mo_findMinors rfl rfl (by omega) (by omega) ?_
    refine s_ic_ge (p := 12) m_Mo_findMinors rfl rfl (by omega) (by omega) (by omega) (by omega) (fun h => ?_) (fun h => ?_)
    · refine p_ret m_Mo_findMinors rfl rfl ?_
      exact ⟨rfl, s, r, hw, ho, hB, fun y y0 y1 => hv y y0 (by omega), hr⟩
    · have hx : x < 2 ^ R := by omega
      have hl := els_len x 6
      have next : ∀ (w1 : ax_W) (s1 : mo_S) (r1 : Int → Int) (y3 y4 y5 : Option Value), RW w0 w1 s1 → oth S s1 → Bg s1 r1 → r1 (36 + x) = (if (els 6 x).length ≤ n then mnr (S 7) (S 8) x else 0) → (∀ k, k ≠ 36 + x → k ≠ 268 → k ≠ 269 → r1 k = r k) → fin xs fr lo 150 152 [some (.ref 425), some (.int (jI n)), some (.int (jI x)), y3, y4, y5] [] w1 (Ret fun u w' => u = none ∧ ∃ s' r', RW w0 w' s' ∧ oth S s' ∧ Bg s' r' ∧ (∀ y, 0 ≤ y → y < 2 ^ R → r' (36 + y) = if (els 6 y).length ≤ n then mnr (S 7) (S 8) y else 0) ∧ ∀ k, k < 36 ∨ 100 ≤ k → k ≠ 268 → k ≠ 269 → r' k = R0 k) := by
        intro w1 s1 r1 y3 y4 y5 hw ho1 hB1 hx1 hr1
        refine s_iinc (p := 155) m_Mo_findMinors rfl rfl rfl ?_
        refine fi_step (pc' := 2) m_Mo_findMinors rfl rfl ?_
        refine ih (x + 1) _ _ _ w1 s1 r1 (by omega) (by omega) (by omega) hw ho1 hB1 (fun y y0 y1 => ?_) (fun k k0 k1 k2 => by rw [hr1 k (by omega) k1 k2]; exact hr k k0 k1 k2)
        by_cases e : y = x
        · rw [e]; exact hx1
        · rw [hr1 _ (by omega) (by omega) (by omega)]; exact hv y y0 (by omega)
      refine fi_step (pc' := 13) m_Mo_findMinors rfl rfl ?_
      refine c_1 (p := 16) m_Mo_findMinors rfl inv_s (by decide) m_Mo_sizeOf rfl rfl (by omega) (by omega) (Nat.le_of_ble_eq_true rfl) (Nat.le_of_ble_eq_true rfl) rfl (c_sizeOf x0 (by omega)) ?_
      rw [S_12 x0 (by omega)]
      by_cases hz : (els 6 x).length = 0
      · rw [hz]
        refine fi_step (pc' := 17) m_Mo_findMinors rfl rfl ?_
        refine fi_step (pc' := 18) m_Mo_findMinors rfl rfl ?_
        refine s_bipush (p := 20) m_Mo_findMinors rfl rfl rfl ?_
        refine fi_step (pc' := 21) m_Mo_findMinors rfl rfl ?_
        refine s_iadd (p := 22) m_Mo_findMinors rfl rfl ?_
        refine fi_step (pc' := 23) m_Mo_findMinors rfl rfl ?_
        refine s_if_ne (p := 26) m_Mo_findMinors rfl rfl (by omega) (by omega) (fun hbr => False.elim (by omega)) (fun hbr => ?_)
        refine s_lconst (p := 27) (v := 1) m_Mo_findMinors rfl rfl rfl ?_
        refine fi_step (pc' := 31) m_Mo_findMinors rfl rfl ?_
        refine g_3 (p := 34) m_Mo_findMinors rfl inv_v (by decide) m_Mo_bigSet rfl rfl (by omega) (by omega) (Nat.le_of_ble_eq_true rfl) (Nat.le_of_ble_eq_true rfl) (RW_rcv hw _) (c_bigSet hw hB (by omega) (by omega) (by decide) (by decide)) (fun v w hP => ?_)
        obtain ⟨rfl, s1, hw, o1, B1⟩ := hP
        refine fi_step (pc' := 35) m_Mo_findMinors rfl rfl ?_
        refine s_if_le (p := 38) m_Mo_findMinors rfl rfl (by omega) (by omega) (fun hbr => ?_) (fun hbr => False.elim (by omega))
        refine next w s1 _ _ _ _ hw (oth_trans ho o1) B1 ?_ (fun k k1 _ _ => up1_ne _ k1 _)
        rw [up1_same, if_pos (by omega)]
        unfold mnr; rw [hz]; simp [plist, detC]
      · refine fi_step (pc' := 17) m_Mo_findMinors rfl rfl ?_
        refine fi_step (pc' := 18) m_Mo_findMinors rfl rfl ?_
        refine s_bipush (p := 20) m_Mo_findMinors rfl rfl rfl ?_
        refine fi_step (pc' := 21) m_Mo_findMinors rfl rfl ?_
        refine s_iadd (p := 22) m_Mo_findMinors rfl rfl ?_
        refine fi_step (pc' := 23) m_Mo_findMinors rfl rfl ?_
        refine s_if_ne (p := 26) m_Mo_findMinors rfl rfl (by omega) (by omega) (fun hbr => ?_) (fun hbr => False.elim (by omega))
        refine s_lconst (p := 31) (v := 0) m_Mo_findMinors rfl rfl rfl ?_
        refine g_3 (p := 34) m_Mo_findMinors rfl inv_v (by decide) m_Mo_bigSet rfl rfl (by omega) (by omega) (Nat.le_of_ble_eq_true rfl) (Nat.le_of_ble_eq_true rfl) (RW_rcv hw _) (c_bigSet hw hB (by omega) (by omega) (by decide) (by decide)) (fun v w hP => ?_)
        obtain ⟨rfl, s1, hw, o1, B1⟩ := hP
        refine fi_step (pc' := 35) m_Mo_findMinors rfl rfl ?_
        refine s_if_le (p := 38) m_Mo_findMinors rfl rfl (by omega) (by omega) (fun hbr => False.elim (by omega)) (fun hbr => ?_)
        refine fi_step (pc' := 39) m_Mo_findMinors rfl rfl ?_
        refine fi_step (pc' := 40) m_Mo_findMinors rfl rfl ?_
        refine s_ic_gt (p := 43) m_Mo_findMinors rfl rfl (by omega) (by omega) (by omega) (by omega) (fun hgt => ?_) (fun hgt => ?_)
        · refine next w s1 _ _ _ _ hw (oth_trans ho o1) B1 ?_ (fun k k1 _ _ => up1_ne _ k1 _)
          rw [up1_same, if_neg (by omega)]
        · obtain ⟨z, hz'⟩ : ∃ z, (els 6 x).length = z + 1 := ⟨(els 6 x).length - 1, by omega⟩
          rw [hz']
          refine fi_step (pc' := 44) m_Mo_findMinors rfl rfl ?_
          refine fi_step (pc' := 46) m_Mo_findMinors rfl rfl ?_
          refine fi_step (pc' := 47) m_Mo_findMinors rfl rfl ?_
          refine fi_step (pc' := 49) m_Mo_findMinors rfl rfl ?_
          refine find_in (S := S) (R := R) (z := z) (R0 := up1 r (36 + x) 0) hfr hlo hR hR6 x0 hx hz' (fun k hk => hp k (by omega)) (fun i j i0 i1 ⟨k, hk, hj⟩ => hg i j i0 i1 ⟨k, by omega, hj⟩) ?_ ?_ R 0 w s1 _ (by omega) hw (oth_trans ho o1) B1 (by rw [up1_same]; simp [els, asum]) (fun k _ _ _ => rfl)
          · intro w2 s2 r2 y4 y5 hw2 o2 B2 v2 k2
            exact next w2 s2 r2 _ _ _ hw2 o2 B2 (by rw [v2, if_pos (by omega)]) (fun k k1 k3 k4 => by rw [k2 k k1 k3 k4, up1_ne _ k1])
          · intro y y0 y1 hy
            rw [up1_ne _ (by omega), hv y y0 y1, if_pos (by omega)]
theorem c_findMinors {n R : Nat} {w : ax_W} {s : mo_S} {r : Int → Int} (hfr : 3 ≤ fr) (hlo : 120 ≤ lo) (hw : RW w0 w s) (hB : Bg s r) (hR : s 0 1 = R) (hR6 : R ≤ 6) (hn : n ≤ 6) (hp : ∀ k : Nat, k < n → 0 ≤ s 8 k ∧ s 8 k < 12) (hg : ∀ i j : Int, 0 ≤ i → i < R → (∃ k : Nat, k < n ∧ j = s 8 k) → ((s 7 (12 * i + j)).natAbs : Int) ≤ 1000000000000000000) :
    fin xs fr lo 150 0 (ax_ent [.ref 425, .int (jI n)] 6) [] w (Ret fun u w' => u = none ∧ ∃ s' r', RW w0 w' s' ∧ oth s s' ∧ Bg s' r' ∧ (∀ y, 0 ≤ y → y < 2 ^ R → r' (36 + y) = if (els 6 y).length ≤ n then mnr (s 7) (s 8) y else 0) ∧ ∀ k, k < 36 ∨ 100 ≤ k → k ≠ 268 → k ≠ 269 → r' k = r k) := by
  have h64 := S_pow hR6
  refine fi_step (pc' := 1) m_Mo_findMinors rfl rfl ?_
  refine fi_step (pc' := 2) m_Mo_findMinors rfl rfl ?_
  exact find_out hfr hlo hR hR6 hn hp hg 64 0 _ _ _ w s r (by omega) (by omega) (by omega) hw (oth_refl s) hB (fun y y0 y1 => by omega) (fun _ _ _ _ => rfl)
theorem Bg_sign {s : mo_S} {r : Int → Int} {k b : Int} (hB : Bg s r) (k0 : 0 ≤ k) (k1 : k < 277) (hb : b = 0 ∨ b = 1) : Bg (up s 3 k b) (up1 r k (if b = 1 then -((r k).natAbs : Int) else ((r k).natAbs : Int))) := by
  obtain ⟨n, ⟨k2, k3, k4, k5, k6⟩, _⟩ := isN_abs (hB k k0 k1)
  refine Bg_ch hB (chP_up3 k s b) (isN_of (n := n) (m := ((r k).natAbs : Int)) ⟨?_, k3, ?_, ?_, ?_⟩ ?_ ?_)
  · rw [up_ne _ (by decide)]; exact k2
  · rw [up_ne _ (by decide)]; exact k4
  · rw [up_ne _ (by decide)]; exact k5
  · rw [up_ne _ (by decide)]; exact k6
  · split <;> omega
  · rw [up_same, up1_same]
    rcases hb with rfl | rfl
    · rw [if_neg (by decide)]; exact Or.inl ⟨rfl, by omega⟩
    · rw [if_pos rfl]; exact Or.inr ⟨rfl, by omega⟩
theorem oth_up3 (s : mo_S) (k b : Int) : oth s (up s 3 k b) := fun a _ _ h => up_ne s h k b
/-- numbers that a division or a common divisor uses up -/
def tmpK (k : Int) : Prop := k = 268 ∨ k = 269 ∨ k = 270 ∨ k = 272
theorem divide_loop {to : Int} {S : mo_S} {R0 : Int → Int} {G : Int} (hfr : 3 ≤ fr) (hlo : 120 ≤ lo) (t0 : 0 ≤ to) (t1 : to < 277) (ht : ¬ tmpK to) (y : Value) :
    ∀ (g : Nat) (a b : Nat) (w : ax_W) (s : mo_S) (r : Int → Int), b ≤ g → RW w0 w s → oth S s → Bg s r → r to = a → r 268 = b → (Int.gcd a b : Int) = G → (∀ k, k ≠ to → ¬ tmpK k → r k = R0 k) →
    fin xs fr lo 152 24 [some (.ref 425), some (.int (jI to)), some y] [] w (Ret fun u w' => u = none ∧ ∃ s' r', RW w0 w' s' ∧ oth S s' ∧ Bg s' r' ∧ r' to = G ∧ ∀ k, k ≠ to → ¬ tmpK k → r' k = R0 k) := by
  unfold tmpK at ht ⊢
  intro g
  induction g with
  | zero =>
    intro a b w s r hg hw ho hB ha hb hG hr
    have : b = 0 := by omega
    subst this
    refine fi_step (pc' := 25) m_Mo_divide rfl rfl ?_
    refine s_sipush (p := 28) m_Mo_divide rfl rfl rfl ?_
    refine c_2 (p := 31) m_Mo_divide rfl inv_v (by decide) m_Mo_bigIsZero rfl rfl (by omega) (by omega) (Nat.le_of_ble_eq_true rfl) (Nat.le_of_ble_eq_true rfl) (RW_rcv hw _) (c_isZ hw hB (by decide) (by decide)) ?_
    rw [if_pos (by omega)]
    refine s_if_ne (p := 34) m_Mo_divide rfl rfl (by omega) (by omega) (fun hbr => ?_) (fun hbr => False.elim (by omega))
    refine p_ret m_Mo_divide rfl rfl ?_
    refine ⟨rfl, s, r, hw, ho, hB, ?_, hr⟩
    rw [ha, ← hG]; simp
  | succ g ih =>
    intro a b w s r hg hw ho hB ha hb hG hr
    refine fi_step (pc' := 25) m_Mo_divide rfl rfl ?_
    refine s_sipush (p := 28) m_Mo_divide rfl rfl rfl ?_
    refine c_2 (p := 31) m_Mo_divide rfl inv_v (by decide) m_Mo_bigIsZero rfl rfl (by omega) (by omega) (Nat.le_of_ble_eq_true rfl) (Nat.le_of_ble_eq_true rfl) (RW_rcv hw _) (c_isZ hw hB (by decide) (by decide)) ?_
    by_cases hz : b = 0
    · subst hz
      rw [if_pos (by omega)]
      refine s_if_ne (p := 34) m_Mo_divide rfl rfl (by omega) (by omega) (fun hbr => ?_) (fun hbr => False.elim (by omega))
      refine p_ret m_Mo_divide rfl rfl ?_
      refine ⟨rfl, s, r, hw, ho, hB, ?_, hr⟩
      rw [ha, ← hG]; simp
    · rw [if_neg (by omega)]
      refine s_if_ne (p := 34) m_Mo_divide rfl rfl (by omega) (by omega) (fun hbr => False.elim (by omega)) (fun hbr => ?_)
      refine fi_step (pc' := 35) m_Mo_divide rfl rfl ?_
      refine s_sipush (p := 38) m_Mo_divide rfl rfl rfl ?_
      refine s_sipush (p := 41) m_Mo_divide rfl rfl rfl ?_
      refine g_3 (p := 44) m_Mo_divide rfl inv_v (by decide) m_Mo_bigCopy rfl rfl (by omega) (by omega) (Nat.le_of_ble_eq_true rfl) (Nat.le_of_ble_eq_true rfl) (RW_rcv hw _) (c_bigCopy hw hB (by decide) (by decide) (by decide) (by decide) (by decide)) (fun v w hP => ?_)
      obtain ⟨rfl, s1, hw, o1, B1⟩ := hP
      have x1 : up1 r 269 (r 268) 269 = b := by rw [up1_same]; exact hb
      have x2 : up1 r 269 (r 268) to = a := by rw [up1_ne _ (by omega)]; exact ha
      refine fi_step (pc' := 45) m_Mo_divide rfl rfl ?_
      refine fi_step (pc' := 46) m_Mo_divide rfl rfl ?_
      refine s_sipush (p := 49) m_Mo_divide rfl rfl rfl ?_
      refine s_sipush (p := 52) m_Mo_divide rfl rfl rfl ?_
      refine g_4 (p := 55) m_Mo_divide rfl inv_v (by decide) m_Mo_bigDivide rfl rfl (by omega) (by omega) (Nat.le_of_ble_eq_true rfl) (Nat.le_of_ble_eq_true rfl) (RW_rcv hw _) (c_bigDivide (by omega) (by omega) hw B1 t0 t1 (by decide) (by decide) (by decide) (by decide) (by omega) (by decide) (by omega) (by rw [x1]; omega)) (fun v w hP => ?_)
      obtain ⟨rfl, s2, hw, o2, B2⟩ := hP
      rw [x1, x2] at B2
      refine fi_step (pc' := 56) m_Mo_divide rfl rfl ?_
      refine s_sipush (p := 59) m_Mo_divide rfl rfl rfl ?_
      refine fi_step (pc' := 60) m_Mo_divide rfl rfl ?_
      refine g_3 (p := 63) m_Mo_divide rfl inv_v (by decide) m_Mo_bigCopy rfl rfl (by omega) (by omega) (Nat.le_of_ble_eq_true rfl) (Nat.le_of_ble_eq_true rfl) (RW_rcv hw _) (c_bigCopy hw B2 (by decide) (by decide) t0 t1 (by omega)) (fun v w hP => ?_)
      obtain ⟨rfl, s3, hw, o3, B3⟩ := hP
      refine fi_step (pc' := 64) m_Mo_divide rfl rfl ?_
      refine fi_step (pc' := 65) m_Mo_divide rfl rfl ?_
      refine s_sipush (p := 68) m_Mo_divide rfl rfl rfl ?_
      refine g_3 (p := 71) m_Mo_divide rfl inv_v (by decide) m_Mo_bigCopy rfl rfl (by omega) (by omega) (Nat.le_of_ble_eq_true rfl) (Nat.le_of_ble_eq_true rfl) (RW_rcv hw _) (c_bigCopy hw B3 t0 t1 (by decide) (by decide) (by omega)) (fun v w hP => ?_)
      obtain ⟨rfl, s4, hw, o4, B4⟩ := hP
      refine fi_step (pc' := 72) m_Mo_divide rfl rfl ?_
      refine s_sipush (p := 75) m_Mo_divide rfl rfl rfl ?_
      refine s_sipush (p := 78) m_Mo_divide rfl rfl rfl ?_
      refine g_3 (p := 81) m_Mo_divide rfl inv_v (by decide) m_Mo_bigCopy rfl rfl (by omega) (by omega) (Nat.le_of_ble_eq_true rfl) (Nat.le_of_ble_eq_true rfl) (RW_rcv hw _) (c_bigCopy hw B4 (by decide) (by decide) (by decide) (by decide) (by decide)) (fun v w hP => ?_)
      obtain ⟨rfl, s5, hw, o5, B5⟩ := hP
      refine fi_step (pc' := 24) m_Mo_divide rfl rfl ?_
      refine ih b (a % b) w s5 _ (by have := Nat.mod_lt a (show b > 0 by omega); omega) hw (oth_trans ho (oth_trans o1 (oth_trans o2 (oth_trans o3 (oth_trans o4 o5))))) B5 ?_ ?_ ?_ ?_
      · rw [up1_ne _ (by omega), up1_same, up1_ne _ (by omega), up1_ne _ (by omega), up1_ne _ (by omega), up1_ne _ (by omega)]; exact hb
      · rw [up1_same, up1_ne _ (by omega), up1_same, up1_same]; simp
      · rw [← hG]
        show ((Nat.gcd b (a % b) : Nat) : Int) = ((Nat.gcd a b : Nat) : Int)
        rw [Nat.gcd_comm b, ← Nat.gcd_rec, Nat.gcd_comm]
      · intro k k0 k1
        rw [up1_ne _ (by omega), up1_ne _ k0, up1_ne _ (by omega), up1_ne _ k0, up1_ne _ (by omega), up1_ne _ (by omega)]; exact hr k k0 k1
theorem c_divide {to b : Int} {w : ax_W} {s : mo_S} {r : Int → Int} (hfr : 3 ≤ fr) (hlo : 120 ≤ lo) (hw : RW w0 w s) (hB : Bg s r) (t0 : 0 ≤ to) (t1 : to < 277) (ht : ¬ tmpK to) (b0 : 0 ≤ b) (b1 : b < 277) (hb : b ≠ 268) :
    fin xs fr lo 152 0 (ax_ent [.ref 425, .int (jI to), .int (jI b)] 3) [] w (Ret fun u w' => u = none ∧ ∃ s' r', RW w0 w' s' ∧ oth s s' ∧ Bg s' r' ∧ r' to = (Int.gcd (r to) (r b) : Int) ∧ ∀ k, k ≠ to → ¬ tmpK k → r' k = r k) := by
  have ht' := ht
  unfold tmpK at ht'
  refine fi_step (pc' := 1) m_Mo_divide rfl rfl ?_
  refine s_sipush (p := 4) m_Mo_divide rfl rfl rfl ?_
  refine fi_step (pc' := 5) m_Mo_divide rfl rfl ?_
  refine g_3 (p := 8) m_Mo_divide rfl inv_v (by decide) m_Mo_bigCopy rfl rfl (by omega) (by omega) (Nat.le_of_ble_eq_true rfl) (Nat.le_of_ble_eq_true rfl) (RW_rcv hw _) (c_bigCopy hw hB (by decide) (by decide) b0 b1 (by omega)) (fun v w hP => ?_)
  obtain ⟨rfl, s1, hw, o1, B1⟩ := hP
  refine fi_step (pc' := 9) m_Mo_divide rfl rfl ?_
  refine r_get (p := 12) m_Mo_divide rfl rfl (by assumption) rfl ?_
  refine s_sipush (p := 15) m_Mo_divide rfl rfl rfl ?_
  refine fi_step (pc' := 16) m_Mo_divide rfl rfl ?_
  refine r_stB (p := 17) m_Mo_divide rfl rfl (by assumption) (by decide) (fun _ => rfl) (by decide) (by omega) (by omega) (by omega) (by omega) (fun w hw => ?_)
  refine fi_step (pc' := 18) m_Mo_divide rfl rfl ?_
  refine r_get (p := 21) m_Mo_divide rfl rfl (by assumption) rfl ?_
  refine fi_step (pc' := 22) m_Mo_divide rfl rfl ?_
  refine fi_step (pc' := 23) m_Mo_divide rfl rfl ?_
  refine r_stB (p := 24) m_Mo_divide rfl rfl (by assumption) (by decide) (fun _ => rfl) (by decide) (by omega) (by omega) (by omega) (by omega) (fun w hw => ?_)
  have B2 := Bg_sign B1 (k := 268) (b := 0) (by decide) (by decide) (Or.inl rfl)
  have B3 := Bg_sign B2 (k := to) (b := 0) t0 t1 (Or.inl rfl)
  refine divide_loop (S := s) (R0 := r) (G := (Int.gcd (r to) (r b) : Int)) hfr hlo t0 t1 ht _ (r b).natAbs (r to).natAbs (r b).natAbs w _ _ (Nat.le_refl _) hw (oth_trans o1 (oth_trans (oth_up3 _ _ _) (oth_up3 _ _ _))) B3 ?_ ?_ ?_ ?_
  · rw [up1_same, if_neg (by decide), up1_ne _ (by omega), up1_ne _ (by omega)]
  · rw [up1_ne _ (by omega), up1_same, if_neg (by decide), up1_same]
  · simp [Int.gcd]
  · intro k k0 k1
    unfold tmpK at k1
    rw [up1_ne _ k0, up1_ne _ (by omega), up1_ne _ (by omega)]
end FM2
