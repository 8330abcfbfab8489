/-! THE REFERENCE: the numbers above leads made small -/
/-- stairs, and from row m on numbers above leads are small -/
def SI (r lead : Int → Int) (f m : Nat) : Prop := (∀ i : Nat, i < f → 0 < r (184 + 12 * i + lead i)) ∧ (∀ i e : Nat, i < f → e < i → r (184 + 12 * i + lead e) = 0) ∧ (∀ i e : Nat, i < f → e < f → ((r (184 + 12 * i + lead e)).natAbs : Int) ≤ MBND) ∧ ∀ i k : Nat, m ≤ i → i < k → k < f → 0 ≤ r (184 + 12 * i + lead k) ∧ r (184 + 12 * i + lead k) < r (184 + 12 * k + lead k)
def BB (n : Nat) : Int := MBND * (1 + MBND) ^ n
theorem BB_succ (n : Nat) : BB (n + 1) = BB n + BB n * MBND := by unfold BB; rw [Int.pow_succ]; grind
theorem BB_pos (n : Nat) : 0 ≤ BB n := Int.mul_nonneg (by decide) (Int.pow_nonneg (by decide))
theorem BB_le : ∀ {n m : Nat}, n ≤ m → BB n ≤ BB m
  | n, 0, h => by rw [show n = 0 by omega]; omega
  | n, m + 1, h => by
    by_cases e : n = m + 1
    · subst e; omega
    · have := BB_le (n := n) (m := m) (by omega)
      rw [BB_succ]
      have := Int.mul_nonneg (BB_pos m) (show (0 : Int) ≤ MBND by decide)
      omega
theorem BB_rm : BB 5 * MBND < rm 138 ∧ BB 5 + BB 5 * MBND < rm 140 := ⟨Int.lt_of_lt_of_le (by decide) (le_rm (i := 120) (by decide)), Int.lt_of_lt_of_le (by decide) (le_rm (i := 120) (by decide))⟩
theorem abs_mul_le {a b A B : Int} (ha : (a.natAbs : Int) ≤ A) (hb : (b.natAbs : Int) ≤ B) (A0 : 0 ≤ A) : ((a * b).natAbs : Int) ≤ A * B := by
  rw [Int.natAbs_mul, Int.natCast_mul]
  exact Int.le_trans (Int.mul_le_mul_of_nonneg_right ha (by omega)) (Int.mul_le_mul_of_nonneg_left hb A0)
section SHORT2
variable {xs : List Int32} {fr lo : Nat} {w0 : ax_W} {Q : Outcome → ax_W → Prop}
theorem short_e {i k f : Nat} {q : Int} {S : mo_S} {R0 : Int → Int} (hfr : 3 ≤ fr) (hlo : 120 ≤ lo) (h3 : S 0 3 = f) (hf : f ≤ 6) (hik : i < k) (hk : k < f) (hl : ∀ k : Nat, k < f → 0 ≤ S 9 k ∧ S 9 k < 12) (hinj : ∀ e e' : Nat, e < f → e' < f → S 9 e = S 9 e' → e = e') (hbd : ∀ e : Nat, e < f → ((R0 (184 + 12 * i + S 9 e)).natAbs : Int) ≤ BB 5 ∧ ((R0 (184 + 12 * k + S 9 e)).natAbs : Int) ≤ MBND) (hq : (q.natAbs : Int) ≤ BB 5)
    (K : ∀ w s r, RW w0 w s → oth S s → Bg s r → (∀ e : Nat, k ≤ e → e < f → r (184 + 12 * i + S 9 e) = R0 (184 + 12 * i + S 9 e) - q * R0 (184 + 12 * k + S 9 e)) → (∀ j : Int, j ≠ 268 → (∀ e : Nat, k ≤ e → e < f → j ≠ 184 + 12 * i + S 9 e) → r j = R0 j) → fin xs fr lo 165 131 [some (.ref 425), some (.int (jI i)), some (.int (jI k)), some (.int (jI f))] [] w Q) :
    ∀ (d e : Nat) (w : ax_W) (s : mo_S) (r : Int → Int), e + d = f → k ≤ e → RW w0 w s → oth S s → Bg s r → r 270 = q → (∀ e' : Nat, k ≤ e' → e' < e → r (184 + 12 * i + S 9 e') = R0 (184 + 12 * i + S 9 e') - q * R0 (184 + 12 * k + S 9 e')) → (∀ j : Int, j ≠ 268 → (∀ e' : Nat, k ≤ e' → e' < e → j ≠ 184 + 12 * i + S 9 e') → r j = R0 j) →
    fin xs fr lo 165 69 [some (.ref 425), some (.int (jI i)), some (.int (jI k)), some (.int (jI e))] [] w Q := by
  intro d
  induction d with
  | zero =>
    intro e w s r he hke hw ho hB v0 hv hr
    have h3' : s 0 3 = f := by rw [ho 0 (by decide) (by decide) (by decide)]; exact h3
    obtain rfl : e = f := by omega
    refine fi_step (pc' := 70) m_Mo_shorten rfl rfl ?_
    refine fi_step (pc' := 71) m_Mo_shorten rfl rfl ?_
    refine r_get (p := 74) m_Mo_shorten rfl rfl (by assumption) rfl ?_
    refine s_ic_ge (p := 77) m_Mo_shorten rfl rfl (by omega) (by omega) (by omega) (by omega) (fun hbr => ?_) (fun hbr => False.elim (by omega))
    exact K w s r hw ho hB hv hr
  | succ d ih =>
    intro e w s r he hke hw ho hB v0 hv hr
    have h3' : s 0 3 = f := by rw [ho 0 (by decide) (by decide) (by decide)]; exact h3
    have e9 : s 9 = S 9 := ho 9 (by decide) (by decide) (by decide)
    have l1 := hl e (by omega)
    have ne : ∀ e' : Nat, k ≤ e' → e' < e → (184 + 12 * i + S 9 e : Int) ≠ 184 + 12 * i + S 9 e' := fun e' h0 h1 h => by
      have := hinj e e' (by omega) (by omega) (by omega); omega
    have vi : r (184 + 12 * i + S 9 e) = R0 (184 + 12 * i + S 9 e) := hr _ (by omega) ne
    have vk : r (184 + 12 * k + S 9 e) = R0 (184 + 12 * k + S 9 e) := hr _ (by omega) (fun e' h0 h1 => by have := hl e' (by omega); omega)
    obtain ⟨b1, b2⟩ := hbd e (by omega)
    have hp := abs_mul_le hq b2 (BB_pos 5)
    have hrm := BB_rm
    refine fi_step (pc' := 70) m_Mo_shorten rfl rfl ?_
    refine fi_step (pc' := 71) m_Mo_shorten rfl rfl ?_
    refine r_get (p := 74) m_Mo_shorten rfl rfl (by assumption) rfl ?_
    refine s_ic_ge (p := 77) m_Mo_shorten rfl rfl (by (first | omega | (rw [e9]; omega))) (by (first | omega | (rw [e9]; omega))) (by (first | omega | (rw [e9]; omega))) (by (first | omega | (rw [e9]; omega))) (fun hbr => False.elim (by (first | omega | (rw [e9]; omega)))) (fun hbr => ?_)
    refine fi_step (pc' := 78) m_Mo_shorten rfl rfl ?_
    refine s_sipush (p := 81) m_Mo_shorten rfl rfl rfl ?_
    refine s_sipush (p := 84) m_Mo_shorten rfl rfl rfl ?_
    refine s_sipush (p := 87) m_Mo_shorten rfl rfl rfl ?_
    refine s_bipush (p := 89) m_Mo_shorten rfl rfl rfl ?_
    refine fi_step (pc' := 90) m_Mo_shorten rfl rfl ?_
    refine s_imul (p := 91) m_Mo_shorten rfl rfl ?_
    refine s_iadd (p := 92) m_Mo_shorten rfl rfl ?_
    refine fi_step (pc' := 93) m_Mo_shorten rfl rfl ?_
    refine r_get (p := 96) m_Mo_shorten rfl rfl (by assumption) rfl ?_
    refine fi_step (pc' := 97) m_Mo_shorten rfl rfl ?_
    refine r_ldI (p := 98) m_Mo_shorten rfl rfl (by assumption) (by decide) rfl (by decide) (by (first | omega | (rw [e9]; omega))) (by (first | omega | (rw [e9]; omega))) ?_
    refine s_iadd (p := 99) m_Mo_shorten rfl rfl ?_
    rw [e9]
    refine g_4 (p := 102) m_Mo_shorten rfl inv_v (by decide) m_Mo_bigProduct rfl rfl (by omega) (by omega) (Nat.le_of_ble_eq_true rfl) (Nat.le_of_ble_eq_true rfl) (RW_rcv hw _) (c_bigProduct (by omega) (by omega) hw hB (by omega) (by omega) (by omega) (by omega) (by omega) (by omega) (by omega) (by omega) (by rw [v0, vk, ← Int.natCast_mul, ← Int.natAbs_mul]; omega)) (fun v w hP => ?_)
    obtain ⟨rfl, s1, hw, o1, B1⟩ := hP
    obtain ⟨r1, B1, u1, k1⟩ : ∃ r1, Bg s1 r1 ∧ r1 268 = q * R0 (184 + 12 * k + S 9 e) ∧ ∀ j : Int, j ≠ 268 → r1 j = r j := ⟨_, B1, by rw [up1_same, v0, vk], fun j hj => up1_ne _ hj _⟩
    have i1 : r1 (184 + 12 * i + S 9 e) = R0 (184 + 12 * i + S 9 e) := by rw [k1 _ (by omega), vi]
    have e91 : s1 9 = S 9 := by rw [o1 9 (by decide) (by decide) (by decide), e9]
    refine fi_step (pc' := 103) m_Mo_shorten rfl rfl ?_
    refine s_sipush (p := 106) m_Mo_shorten rfl rfl rfl ?_
    refine s_bipush (p := 108) m_Mo_shorten rfl rfl rfl ?_
    refine fi_step (pc' := 109) m_Mo_shorten rfl rfl ?_
    refine s_imul (p := 110) m_Mo_shorten rfl rfl ?_
    refine s_iadd (p := 111) m_Mo_shorten rfl rfl ?_
    refine fi_step (pc' := 112) m_Mo_shorten rfl rfl ?_
    refine r_get (p := 115) m_Mo_shorten rfl rfl (by assumption) rfl ?_
    refine fi_step (pc' := 116) m_Mo_shorten rfl rfl ?_
    refine r_ldI (p := 117) m_Mo_shorten rfl rfl (by assumption) (by decide) rfl (by decide) (by (first | omega | (rw [e91]; omega))) (by (first | omega | (rw [e91]; omega))) ?_
    refine s_iadd (p := 118) m_Mo_shorten rfl rfl ?_
    refine s_sipush (p := 121) m_Mo_shorten rfl rfl rfl ?_
    refine fi_step (pc' := 122) m_Mo_shorten rfl rfl ?_
    rw [e91]
    refine g_4 (p := 125) m_Mo_shorten rfl inv_v (by decide) m_Mo_bigAdd rfl rfl (by omega) (by omega) (Nat.le_of_ble_eq_true rfl) (Nat.le_of_ble_eq_true rfl) (RW_rcv hw _) (c_bigAdd (l := 1) (by omega) (by omega) hw B1 (by omega) (by omega) (by omega) (by omega) (by omega) (Or.inr rfl) (by rw [u1, i1]; omega)) (fun v w hP => ?_)
    obtain ⟨rfl, s2, hw, o2, B2⟩ := hP
    refine s_iinc (p := 128) m_Mo_shorten rfl rfl rfl ?_
    refine fi_step (pc' := 69) m_Mo_shorten rfl rfl ?_
    refine ih (e + 1) w s2 _ (by omega) (by omega) hw (oth_trans ho (oth_trans o1 o2)) B2 ?_ (fun e' h0 h1 => ?_) (fun j j0 j1 => ?_)
    · rw [up1_ne _ (by omega), k1 _ (by omega)]; exact v0
    · by_cases ee : e' = e
      · subst ee; rw [up1_same, if_pos rfl, i1, u1]
      · have l2 := hl e' (by omega)
        rw [up1_ne _ (fun h => ee (hinj e' e (by omega) (by omega) (by omega))), k1 _ (by omega)]; exact hv e' h0 (by omega)
    · rw [up1_ne _ (j1 e hke (by omega)), k1 j j0]; exact hr j j0 (fun e' h0 h1 => j1 e' h0 (by omega))
theorem short_k {i f : Nat} {S : mo_S} {R0 : Int → Int} (hfr : 4 ≤ fr) (hlo : 150 ≤ lo) (h3 : S 0 3 = f) (hf : f ≤ 6) (hi : i + 1 < f) (hl : ∀ k : Nat, k < f → 0 ≤ S 9 k ∧ S 9 k < 12) (hinj : ∀ e e' : Nat, e < f → e' < f → S 9 e = S 9 e' → e = e') (hS : SI R0 (S 9) f (i + 1))
    (K : ∀ w s r y2 y3, RW w0 w s → oth S s → Bg s r → SI r (S 9) f i → spEq (fam (tw R0 (S 9) f) f 0) (fam (tw r (S 9) f) f 0) → r 275 = R0 275 → r 276 = R0 276 → fin xs fr lo 165 137 [some (.ref 425), some (.int (jI i)), y2, y3] [] w Q) :
    ∀ (d k : Nat) (y3 : Option Value) (w : ax_W) (s : mo_S) (r : Int → Int), k + d = f → i < k → RW w0 w s → oth S s → Bg s r → (∀ j : Int, j < 268 ∨ 275 ≤ j → (∀ e : Nat, i < e → e < f → j ≠ 184 + 12 * i + S 9 e) → r j = R0 j) → (∀ e : Nat, e < f → ((r (184 + 12 * i + S 9 e)).natAbs : Int) ≤ BB (k - i - 1)) → (∀ e : Nat, i < e → e < k → 0 ≤ r (184 + 12 * i + S 9 e) ∧ r (184 + 12 * i + S 9 e) < R0 (184 + 12 * e + S 9 e)) → spEq (fam (tw R0 (S 9) f) f 0) (fam (tw r (S 9) f) f 0) →
    fin xs fr lo 165 15 [some (.ref 425), some (.int (jI i)), some (.int (jI k)), y3] [] w Q := by
  intro d
  induction d with
  | zero =>
    intro k y3 w s r hk hik hw ho hB hr hb hs hsp
    have h3' : s 0 3 = f := by rw [ho 0 (by decide) (by decide) (by decide)]; exact h3
    obtain rfl : k = f := by omega
    have row : ∀ m e : Nat, m < k → m ≠ i → e < k → r (184 + 12 * m + S 9 e) = R0 (184 + 12 * m + S 9 e) := fun m e hm hne he => hr _ (by have := hl e he; omega) (fun e' h0 h1 => by have := hl e he; have := hl e' h1; omega)
    have rii : ∀ e : Nat, e ≤ i → r (184 + 12 * i + S 9 e) = R0 (184 + 12 * i + S 9 e) := fun e he => hr _ (by have := hl e (by omega); omega) (fun e' h0 h1 h => by have := hinj e e' (by omega) h1 (by omega); omega)
    refine fi_step (pc' := 16) m_Mo_shorten rfl rfl ?_
    refine fi_step (pc' := 17) m_Mo_shorten rfl rfl ?_
    refine r_get (p := 20) m_Mo_shorten rfl rfl (by assumption) rfl ?_
    refine s_ic_ge (p := 23) m_Mo_shorten rfl rfl (by omega) (by omega) (by omega) (by omega) (fun hbr => ?_) (fun hbr => False.elim (by omega))
    refine K w s r _ _ hw ho hB ⟨fun m hm => ?_, fun m e hm he => ?_, fun m e hm he => ?_, fun m q h0 h1 h2 => ?_⟩ hsp (hr _ (by omega) (fun e h0 h1 => by have := hl e h1; omega)) (hr _ (by omega) (fun e h0 h1 => by have := hl e h1; omega))
    · by_cases e : m = i
      · subst e; rw [rii m (by omega)]; exact hS.1 m hm
      · rw [row m m hm e hm]; exact hS.1 m hm
    · by_cases e' : m = i
      · subst e'; rw [rii e (by omega)]; exact hS.2.1 m e hm he
      · rw [row m e hm e' (by omega)]; exact hS.2.1 m e hm he
    · by_cases e' : m = i
      · subst e'
        by_cases hle : e ≤ m
        · rw [rii e hle]; exact hS.2.2.1 m e hm he
        · have a := hs e (by omega) he
          have b := hS.2.2.1 e e he he
          omega
      · rw [row m e hm e' he]; exact hS.2.2.1 m e hm he
    · by_cases e' : m = i
      · subst e'; rw [row q q h2 (by omega) h2]; exact hs q h1 h2
      · rw [row m q (by omega) e' h2, row q q h2 (by omega) h2]; exact hS.2.2.2 m q (by omega) h1 h2
  | succ d ih =>
    intro k y3 w s r hk hik hw ho hB hr hb hs hsp
    have h3' : s 0 3 = f := by rw [ho 0 (by decide) (by decide) (by decide)]; exact h3
    have e9 : s 9 = S 9 := ho 9 (by decide) (by decide) (by decide)
    have l1 := hl k (by omega)
    have row : ∀ m e : Nat, m < f → m ≠ i → e < f → r (184 + 12 * m + S 9 e) = R0 (184 + 12 * m + S 9 e) := fun m e hm hne he => hr _ (by have := hl e he; omega) (fun e' h0 h1 => by have := hl e he; have := hl e' h1; omega)
    have vkk := row k k (by omega) (by omega) (by omega)
    have pos := hS.1 k (by omega)
    have hb5 : BB (k - i - 1) ≤ BB 5 := BB_le (by omega)
    have hbik := hb k (by omega)
    have hrm := BB_rm
    have hb50 := BB_pos 5
    have hbm0 := Int.mul_nonneg hb50 (show (0 : Int) ≤ MBND by decide)
    have hrm138 : BB 5 < rm 138 := by
      have : BB 5 * 1 ≤ BB 5 * MBND := Int.mul_le_mul_of_nonneg_left (by decide) hb50
      omega
    have qb := ediv_abs_le (x := r (184 + 12 * i + S 9 k)) pos
    refine fi_step (pc' := 16) m_Mo_shorten rfl rfl ?_
    refine fi_step (pc' := 17) m_Mo_shorten rfl rfl ?_
    refine r_get (p := 20) m_Mo_shorten rfl rfl (by assumption) rfl ?_
    refine s_ic_ge (p := 23) m_Mo_shorten rfl rfl (by (first | omega | (rw [e9]; omega))) (by (first | omega | (rw [e9]; omega))) (by (first | omega | (rw [e9]; omega))) (by (first | omega | (rw [e9]; omega))) (fun hbr => False.elim (by (first | omega | (rw [e9]; omega)))) (fun hbr => ?_)
    refine fi_step (pc' := 24) m_Mo_shorten rfl rfl ?_
    refine s_sipush (p := 27) m_Mo_shorten rfl rfl rfl ?_
    refine s_bipush (p := 29) m_Mo_shorten rfl rfl rfl ?_
    refine fi_step (pc' := 30) m_Mo_shorten rfl rfl ?_
    refine s_imul (p := 31) m_Mo_shorten rfl rfl ?_
    refine s_iadd (p := 32) m_Mo_shorten rfl rfl ?_
    refine fi_step (pc' := 33) m_Mo_shorten rfl rfl ?_
    refine r_get (p := 36) m_Mo_shorten rfl rfl (by assumption) rfl ?_
    refine fi_step (pc' := 37) m_Mo_shorten rfl rfl ?_
    refine r_ldI (p := 38) m_Mo_shorten rfl rfl (by assumption) (by decide) rfl (by decide) (by (first | omega | (rw [e9]; omega))) (by (first | omega | (rw [e9]; omega))) ?_
    refine s_iadd (p := 39) m_Mo_shorten rfl rfl ?_
    refine s_sipush (p := 42) m_Mo_shorten rfl rfl rfl ?_
    refine s_bipush (p := 44) m_Mo_shorten rfl rfl rfl ?_
    refine fi_step (pc' := 45) m_Mo_shorten rfl rfl ?_
    refine s_imul (p := 46) m_Mo_shorten rfl rfl ?_
    refine s_iadd (p := 47) m_Mo_shorten rfl rfl ?_
    refine fi_step (pc' := 48) m_Mo_shorten rfl rfl ?_
    refine r_get (p := 51) m_Mo_shorten rfl rfl (by assumption) rfl ?_
    refine fi_step (pc' := 52) m_Mo_shorten rfl rfl ?_
    refine r_ldI (p := 53) m_Mo_shorten rfl rfl (by assumption) (by decide) rfl (by decide) (by (first | omega | (rw [e9]; omega))) (by (first | omega | (rw [e9]; omega))) ?_
    refine s_iadd (p := 54) m_Mo_shorten rfl rfl ?_
    rw [e9]
    refine g_3 (p := 57) m_Mo_shorten rfl inv_v (by decide) m_Mo_floor rfl rfl (by omega) (by omega) (Nat.le_of_ble_eq_true rfl) (Nat.le_of_ble_eq_true rfl) (RW_rcv hw _) (c_floor (by omega) (by omega) hw hB (by omega) (by omega) (by omega) (by omega) (by rw [vkk]; exact pos) (by omega)) (fun v w hP => ?_)
    obtain ⟨rfl, s1, r1, hw, o1, B1, q1, k1⟩ := hP
    rw [vkk] at q1
    refine fi_step (pc' := 58) m_Mo_shorten rfl rfl ?_
    refine s_sipush (p := 61) m_Mo_shorten rfl rfl rfl ?_
    refine s_sipush (p := 64) m_Mo_shorten rfl rfl rfl ?_
    refine g_3 (p := 67) m_Mo_shorten rfl inv_v (by decide) m_Mo_bigCopy rfl rfl (by omega) (by omega) (Nat.le_of_ble_eq_true rfl) (Nat.le_of_ble_eq_true rfl) (RW_rcv hw _) (c_bigCopy hw B1 (by omega) (by omega) (by omega) (by omega) (by omega)) (fun v w hP => ?_)
    obtain ⟨rfl, s2, hw, o2, B2⟩ := hP
    obtain ⟨r2, B2, q2, k2⟩ : ∃ r2, Bg s2 r2 ∧ r2 270 = r (184 + 12 * i + S 9 k) / R0 (184 + 12 * k + S 9 k) ∧ ∀ j : Int, j < 268 ∨ 275 ≤ j → r2 j = r j := ⟨_, B2, by rw [up1_same, q1], fun j hj => by rw [up1_ne _ (by omega)]; exact k1 j (by omega) (by omega) (by omega)⟩
    have o12 := oth_trans o1 o2
    have e92 : s2 9 = S 9 := by rw [o12 9 (by decide) (by decide) (by decide), e9]
    have f2 : ∀ m e : Nat, m < f → e < f → r2 (184 + 12 * m + S 9 e) = r (184 + 12 * m + S 9 e) := fun m e hm he => k2 _ (by have := hl e he; omega)
    refine fi_step (pc' := 68) m_Mo_shorten rfl rfl ?_
    refine fi_step (pc' := 69) m_Mo_shorten rfl rfl ?_
    refine short_e (S := s2) (R0 := r2) (i := i) (k := k) (f := f) (q := r (184 + 12 * i + S 9 k) / R0 (184 + 12 * k + S 9 k)) (by omega) (by omega) (by rw [o12 0 (by decide) (by decide) (by decide)]; exact h3') hf hik (by omega) (by rw [e92]; exact hl) (by rw [e92]; exact hinj) (fun e he => ?_) (by omega) ?_ (f - k) k w s2 r2 (by omega) (by omega) hw (oth_refl s2) B2 q2 (fun e' h0 h1 => by omega) (fun j _ _ => rfl)
    · rw [e92, f2 i e (by omega) he, f2 k e (by omega) he, row k e (by omega) (by omega) he]
      have := hb e he
      exact ⟨by omega, hS.2.2.1 k e (by omega) he⟩
    · rw [e92]
      intro w s3 r3 hw o3 B3 v3 k3
      have new : ∀ e : Nat, e < f → r3 (184 + 12 * i + S 9 e) = r (184 + 12 * i + S 9 e) - r (184 + 12 * i + S 9 k) / R0 (184 + 12 * k + S 9 k) * R0 (184 + 12 * k + S 9 e) := by
        intro e he
        by_cases hek : k ≤ e
        · rw [v3 e hek he, f2 i e (by omega) he, f2 k e (by omega) he, row k e (by omega) (by omega) he]
        · rw [k3 _ (by have := hl e he; omega) (fun e' h0 h1 h => by have := hinj e e' he h1 (by omega); omega), f2 i e (by omega) he, hS.2.1 k e (by omega) (by omega)]; simp
      have oth3 : ∀ m e : Nat, m < f → m ≠ i → e < f → r3 (184 + 12 * m + S 9 e) = r (184 + 12 * m + S 9 e) := by
        intro m e hm hne he
        rw [k3 _ (by have := hl e he; omega) (fun e' h0 h1 h => by have := hl e he; have := hl e' h1; omega), f2 m e hm he]
      refine s_iinc (p := 134) m_Mo_shorten rfl rfl rfl ?_
      refine fi_step (pc' := 15) m_Mo_shorten rfl rfl ?_
      refine ih (k + 1) _ w s3 r3 (by omega) (by omega) hw (oth_trans ho (oth_trans o12 o3)) B3 (fun j j0 j1 => ?_) (fun e he => ?_) (fun e h0 h1 => ?_) (spEq_trans hsp ?_)
      · rw [k3 j (by omega) (fun e' h0 h1 => j1 e' (by omega) h1), k2 j j0]; exact hr j j0 j1
      · rw [new e he, show k + 1 - i - 1 = (k - i - 1) + 1 by omega, BB_succ]
        have a := hb e he
        have c := hS.2.2.1 k e (by omega) he
        have m := abs_mul_le (a := r (184 + 12 * i + S 9 k) / R0 (184 + 12 * k + S 9 k)) (b := R0 (184 + 12 * k + S 9 e)) (A := BB (k - i - 1)) (B := MBND) (by omega) c (BB_pos _)
        omega
      · by_cases ee : e = k
        · subst ee
          rw [new e (by omega)]
          have a := mod_sub (r (184 + 12 * i + S 9 e)) (R0 (184 + 12 * e + S 9 e))
          have p := Int.emod_nonneg (r (184 + 12 * i + S 9 e)) (show R0 (184 + 12 * e + S 9 e) ≠ 0 by omega)
          have q := Int.emod_lt_of_pos (r (184 + 12 * i + S 9 e)) pos
          omega
        · rw [new e (by omega), hS.2.1 k e (by omega) (by omega)]
          have := hs e h0 (by omega)
          simpa using this
      · have := fam_step (A := []) (U := []) (v := tw r (S 9) f) (v' := tw r3 (S 9) f) (n := f) (i := i) (b := k) (by omega) (by omega) (by omega) (fun m hm hne => tw_congr (fun e he => oth3 m e hm hne he)) (q := r (184 + 12 * i + S 9 k) / R0 (184 + 12 * k + S 9 k)) (z := fun _ => 0) (fun _ => rfl) (fun e => ?_)
        · simpa using this
        · by_cases he : 0 ≤ e ∧ e < f
          · have e1 : ((e.toNat : Nat) : Int) = e := by omega
            have a := new e.toNat (by omega)
            have b := row k e.toNat (by omega) (by omega) (by omega)
            rw [e1] at a b
            rw [tw_in he.1 he.2, tw_in he.1 he.2, tw_in he.1 he.2, a, b]; simp
          · rw [tw_out he, tw_out he, tw_out he]; simp
theorem short_out {f : Nat} {S : mo_S} {R0 : Int → Int} (hfr : 4 ≤ fr) (hlo : 150 ≤ lo) (h3 : S 0 3 = f) (hf : f ≤ 6) (hl : ∀ k : Nat, k < f → 0 ≤ S 9 k ∧ S 9 k < 12) (hinj : ∀ e e' : Nat, e < f → e' < f → S 9 e = S 9 e' → e = e') :
    ∀ (n : Nat) (i : Int) (y2 y3 : Option Value) (w : ax_W) (s : mo_S) (r : Int → Int), i + 1 ≤ n → -2 ≤ i → i + 1 < f ∨ i < 0 → RW w0 w s → oth S s → Bg s r → SI r (S 9) f (i + 1).toNat → spEq (fam (tw R0 (S 9) f) f 0) (fam (tw r (S 9) f) f 0) → r 275 = R0 275 → r 276 = R0 276 →
    fin xs fr lo 165 7 [some (.ref 425), some (.int (jI i)), y2, y3] [] w (Ret fun u w' => u = none ∧ ∃ s' r', RW w0 w' s' ∧ oth S s' ∧ Bg s' r' ∧ SI r' (S 9) f 0 ∧ spEq (fam (tw R0 (S 9) f) f 0) (fam (tw r' (S 9) f) f 0) ∧ r' 275 = R0 275 ∧ r' 276 = R0 276) := by
  intro n
  induction n with
  | zero =>
    intro i y2 y3 w s r hn hi2 hi hw ho hB hS hsp h5 h6
    refine fi_step (pc' := 8) m_Mo_shorten rfl rfl ?_
    refine s_if_lt (p := 11) m_Mo_shorten rfl rfl (by omega) (by omega) (fun hbr => ?_) (fun hbr => False.elim (by omega))
    refine p_ret m_Mo_shorten rfl rfl ?_
    exact ⟨rfl, s, r, hw, ho, hB, by rw [show (i + 1).toNat = 0 by omega] at hS; exact hS, hsp, h5, h6⟩
  | succ n ih =>
    intro i y2 y3 w s r hn hi2 hi hw ho hB hS hsp h5 h6
    refine fi_step (pc' := 8) m_Mo_shorten rfl rfl ?_
    refine s_if_lt (p := 11) m_Mo_shorten rfl rfl (by omega) (by omega) (fun h => ?_) (fun h => ?_)
    · refine p_ret m_Mo_shorten rfl rfl ?_
      exact ⟨rfl, s, r, hw, ho, hB, by rw [show (i + 1).toNat = 0 by omega] at hS; exact hS, hsp, h5, h6⟩
    · obtain ⟨m, rfl⟩ : ∃ m : Nat, i = m := ⟨i.toNat, by omega⟩
      have e9 : s 9 = S 9 := ho 9 (by decide) (by decide) (by decide)
      rw [show ((m : Int) + 1).toNat = m + 1 by omega] at hS
      refine fi_step (pc' := 12) m_Mo_shorten rfl rfl ?_
      refine fi_step (pc' := 13) m_Mo_shorten rfl rfl ?_
      refine s_iadd (p := 14) m_Mo_shorten rfl rfl ?_
      refine fi_step (pc' := 15) m_Mo_shorten rfl rfl ?_
      rw [show (m : Int) + 1 = ((m + 1 : Nat) : Int) by omega]
      refine short_k (S := s) (R0 := r) (i := m) (f := f) hfr hlo (by rw [ho 0 (by decide) (by decide) (by decide)]; exact h3) hf (by omega) (by rw [e9]; exact hl) (by rw [e9]; exact hinj) (by rw [e9]; exact hS) ?_ (f - (m + 1)) (m + 1) _ w s r (by omega) (by omega) hw (oth_refl s) hB (fun _ _ _ => rfl) (fun e he => ?_) (fun e h0 h1 => by omega) (spEq_refl _)
      · rw [e9]
        intro w s1 r1 y2 y3 hw o1 B1 S1 sp1 g5 g6
        refine s_iinc (p := 140) m_Mo_shorten rfl rfl rfl ?_
        refine fi_step (pc' := 7) m_Mo_shorten rfl rfl ?_
        refine ih ((m : Int) + -1) _ _ w s1 r1 (by omega) (by omega) (by omega) hw (oth_trans ho o1) B1 (by rw [show ((m : Int) + -1 + 1).toNat = m by omega]; exact S1) (spEq_trans hsp sp1) (g5.trans h5) (g6.trans h6)
      · rw [e9, show m + 1 - m - 1 = 0 by omega]
        have := hS.2.2.1 m e (by omega) he
        unfold BB; rw [Int.pow_zero, Int.mul_one]; exact this
theorem c_shorten {f : Nat} {D : Int} {w : ax_W} {s : mo_S} {r : Int → Int} (hfr : 4 ≤ fr) (hlo : 150 ≤ lo) (hw : RW w0 w s) (hB : Bg s r) (h3 : s 0 3 = f) (hf : f ≤ 6) (hl : ∀ k : Nat, k < f → 0 ≤ s 9 k ∧ s 9 k < 12) (hinj : ∀ e e' : Nat, e < f → e' < f → s 9 e = s 9 e' → e = e') (D1 : D ≤ MBND) (hT : stT r (s 9) D f f) :
    fin xs fr lo 165 0 (ax_ent [.ref 425] 4) [] w (Ret fun u w' => u = none ∧ ∃ s' r', RW w0 w' s' ∧ oth s s' ∧ Bg s' r' ∧ SI r' (s 9) f 0 ∧ spEq (fam (tw r (s 9) f) f 0) (fam (tw r' (s 9) f) f 0) ∧ r' 275 = r 275 ∧ r' 276 = r 276) := by
  refine fi_step (pc' := 1) m_Mo_shorten rfl rfl ?_
  refine r_get (p := 4) m_Mo_shorten rfl rfl (by assumption) rfl ?_
  refine fi_step (pc' := 5) m_Mo_shorten rfl rfl ?_
  refine s_isub (p := 6) m_Mo_shorten rfl rfl ?_
  refine fi_step (pc' := 7) m_Mo_shorten rfl rfl ?_
  rw [h3]
  refine short_out (S := s) (R0 := r) (f := f) hfr hlo h3 hf hl hinj 6 ((f : Int) - 2) none none w s r (by omega) (by omega) (by omega) hw (oth_refl s) hB ⟨hT.1, hT.2.1, fun i e hi he => ?_, fun i k h0 h1 h2 => by omega⟩ (spEq_refl _) rfl rfl
  have := hT.2.2 i e hi he
  omega
end SHORT2
