/-! THE REFERENCE: rows in the columns of leads -/
theorem up_self (s : mo_S) (a : Nat) (i : Int) : up s a i (s a i) = s := by
  funext b
  by_cases h : b = a
  · subst h; rw [up_same]; funext j
    by_cases hj : j = i
    · subst hj; rw [up1_same]
    · rw [up1_ne _ hj]
  · rw [up_ne _ h]
section BRING
variable {xs : List Int32} {fr lo : Nat} {w0 : ax_W} {Q : Outcome → ax_W → Prop}
theorem copy_self_loop {k : Int} {n : Nat} (k0 : 0 ≤ k) (k1 : k < 277) (hn : n ≤ 140) : ∀ (c i : Nat) (w : ax_W) (s : mo_S), RW w0 w s → i + c = n → s 2 k = n →
    fin xs fr lo 153 26 [some (.ref 425), some (.int (jI k)), some (.int (jI k)), some (.int (jI i))] [] w (Ret fun v w' => v = none ∧ RW w0 w' s) := by
  intro c
  induction c with
  | zero =>
    intro i w s hw hi h2
    refine fi_step (pc' := 27) m_Mo_bigCopy rfl rfl ?_
    refine fi_step (pc' := 28) m_Mo_bigCopy rfl rfl ?_
    refine r_get (p := 31) m_Mo_bigCopy rfl rfl (by assumption) rfl ?_
    refine fi_step (pc' := 32) m_Mo_bigCopy rfl rfl ?_
    refine r_ldI (p := 33) m_Mo_bigCopy rfl rfl (by assumption) (by decide) rfl (by decide) (by omega) (by omega) ?_
    refine s_ic_ge (p := 36) m_Mo_bigCopy rfl rfl (by omega) (by omega) (by omega) (by omega) (fun hbr => ?_) (fun hbr => False.elim (by omega))
    refine p_ret m_Mo_bigCopy rfl rfl ?_
    exact ⟨rfl, hw⟩
  | succ c ih =>
    intro i w s hw hi h2
    refine fi_step (pc' := 27) m_Mo_bigCopy rfl rfl ?_
    refine fi_step (pc' := 28) m_Mo_bigCopy rfl rfl ?_
    refine r_get (p := 31) m_Mo_bigCopy rfl rfl (by assumption) rfl ?_
    refine fi_step (pc' := 32) m_Mo_bigCopy rfl rfl ?_
    refine r_ldI (p := 33) m_Mo_bigCopy rfl rfl (by assumption) (by decide) rfl (by decide) (by omega) (by omega) ?_
    refine s_ic_ge (p := 36) m_Mo_bigCopy rfl rfl (by omega) (by omega) (by omega) (by omega) (fun hbr => False.elim (by omega)) (fun hbr => ?_)
    refine fi_step (pc' := 37) m_Mo_bigCopy rfl rfl ?_
    refine r_get (p := 40) m_Mo_bigCopy rfl rfl (by assumption) rfl ?_
    refine s_sipush (p := 43) m_Mo_bigCopy rfl rfl rfl ?_
    refine fi_step (pc' := 44) m_Mo_bigCopy rfl rfl ?_
    refine s_imul (p := 45) m_Mo_bigCopy rfl rfl ?_
    refine fi_step (pc' := 46) m_Mo_bigCopy rfl rfl ?_
    refine s_iadd (p := 47) m_Mo_bigCopy rfl rfl ?_
    refine fi_step (pc' := 48) m_Mo_bigCopy rfl rfl ?_
    refine r_get (p := 51) m_Mo_bigCopy rfl rfl (by assumption) rfl ?_
    refine s_sipush (p := 54) m_Mo_bigCopy rfl rfl rfl ?_
    refine fi_step (pc' := 55) m_Mo_bigCopy rfl rfl ?_
    refine s_imul (p := 56) m_Mo_bigCopy rfl rfl ?_
    refine fi_step (pc' := 57) m_Mo_bigCopy rfl rfl ?_
    refine s_iadd (p := 58) m_Mo_bigCopy rfl rfl ?_
    refine r_ldI (p := 59) m_Mo_bigCopy rfl rfl (by assumption) (by decide) rfl (by decide) (by omega) (by omega) ?_
    refine r_stI (p := 60) m_Mo_bigCopy rfl rfl (by assumption) (by decide) (fun _ => rfl) (by decide) (by omega) (by omega) (fun w hw => ?_)
    refine s_iinc (p := 63) m_Mo_bigCopy rfl rfl rfl ?_
    refine fi_step (pc' := 26) m_Mo_bigCopy rfl rfl ?_
    rw [up_self] at hw
    exact ih (i + 1) w s hw (by omega) h2
theorem c_copySelf {k : Int} {w : ax_W} {s : mo_S} {r : Int → Int} (hw : RW w0 w s) (hB : Bg s r) (k0 : 0 ≤ k) (k1 : k < 277) :
    fin xs fr lo 153 0 (ax_ent [.ref 425, .int (jI k), .int (jI k)] 4) [] w (Ret fun v w' => v = none ∧ RW w0 w' s) := by
  obtain ⟨n, m, ⟨h1, h2, h3, h4, h5⟩, h6⟩ := hB k k0 k1
  have h3u : 0 ≤ s 3 k ∧ s 3 k ≤ 1 := by rcases h6 with ⟨h, _⟩ | ⟨h, _⟩ <;> omega
  have eL : up s 3 k (s 3 k) 2 k = s 2 k := by rw [up_self]
  refine fi_step (pc' := 1) m_Mo_bigCopy rfl rfl ?_
  refine r_get (p := 4) m_Mo_bigCopy rfl rfl (by assumption) rfl ?_
  refine fi_step (pc' := 5) m_Mo_bigCopy rfl rfl ?_
  refine fi_step (pc' := 6) m_Mo_bigCopy rfl rfl ?_
  refine r_get (p := 9) m_Mo_bigCopy rfl rfl (by assumption) rfl ?_
  refine fi_step (pc' := 10) m_Mo_bigCopy rfl rfl ?_
  refine r_ldB (p := 11) m_Mo_bigCopy rfl rfl (by assumption) (by decide) rfl (by decide) (by omega) (by omega) ?_
  refine r_stB (p := 12) m_Mo_bigCopy rfl rfl (by assumption) (by decide) (fun _ => rfl) (by decide) (by omega) (by omega) (by omega) (by omega) (fun w hw => ?_)
  refine fi_step (pc' := 13) m_Mo_bigCopy rfl rfl ?_
  refine r_get (p := 16) m_Mo_bigCopy rfl rfl (by assumption) rfl ?_
  refine fi_step (pc' := 17) m_Mo_bigCopy rfl rfl ?_
  refine fi_step (pc' := 18) m_Mo_bigCopy rfl rfl ?_
  refine r_get (p := 21) m_Mo_bigCopy rfl rfl (by assumption) rfl ?_
  refine fi_step (pc' := 22) m_Mo_bigCopy rfl rfl ?_
  refine r_ldI (p := 23) m_Mo_bigCopy rfl rfl (by assumption) (by decide) rfl (by decide) (by omega) (by omega) ?_
  refine r_stI (p := 24) m_Mo_bigCopy rfl rfl (by assumption) (by decide) (fun _ => rfl) (by decide) (by omega) (by omega) (fun w hw => ?_)
  refine fi_step (pc' := 25) m_Mo_bigCopy rfl rfl ?_
  refine fi_step (pc' := 26) m_Mo_bigCopy rfl rfl ?_
  rw [up_self, up_self] at hw
  exact copy_self_loop k0 k1 h2 n 0 w s hw (by omega) h1
/-- a copy, of itself too -/
theorem c_copyAny {k u : Int} {w : ax_W} {s : mo_S} {r : Int → Int} (hw : RW w0 w s) (hB : Bg s r) (k0 : 0 ≤ k) (k1 : k < 277) (u0 : 0 ≤ u) (u1 : u < 277) :
    fin xs fr lo 153 0 (ax_ent [.ref 425, .int (jI k), .int (jI u)] 4) [] w (Ret fun v w' => v = none ∧ ∃ s' r', RW w0 w' s' ∧ oth s s' ∧ Bg s' r' ∧ r' k = r u ∧ ∀ j : Int, j ≠ k → r' j = r j) := by
  by_cases h : k = u
  · subst h
    refine fi_mono (c_copySelf hw hB k0 k1) ?_
    rintro o w' ⟨v, rfl, hv, h⟩
    exact ⟨v, rfl, hv, s, r, h, oth_refl s, hB, rfl, fun _ _ => rfl⟩
  · refine fi_mono (c_bigCopy hw hB k0 k1 u0 u1 h) ?_
    rintro o w' ⟨v, rfl, hv, s', g1, g2, g3⟩
    exact ⟨v, rfl, hv, s', _, g1, g2, g3, up1_same .., fun j hj => up1_ne _ hj _⟩
theorem bring1 {R f : Nat} {D : Int} {S : mo_S} {R0 : Int → Int} (hfr : 4 ≤ fr) (hlo : 150 ≤ lo) (e1 : S 0 1 = R) (hR : R ≤ 6) (h3 : S 0 3 = f) (hf : f ≤ 6) (D0 : 0 < D) (D1 : D ≤ MBND) (hl : ∀ k : Nat, k < f → 0 ≤ S 9 k ∧ S 9 k < 12) (hg : ∀ i k : Nat, i < R → k < f → ((S 7 (12 * i + S 9 k)).natAbs : Int) ≤ 1000000000000000000)
    (K : ∀ w s r y2 y3, RW w0 w s → oth S s → Bg s r → r 276 = D → (∀ i k : Nat, i < R → k < f → r (100 + 6 * i + k) = S 7 (12 * i + S 9 k) % D) → (∀ j : Int, j < 100 ∨ 142 ≤ j → j ≠ 269 → j ≠ 272 → r j = R0 j) → fin xs fr lo 160 68 [some (.ref 425), some (.int (jI R)), y2, y3] [] w Q) :
    ∀ (n i k : Nat) (w : ax_W) (s : mo_S) (r : Int → Int), (R - i) * 7 + (f - k) ≤ n → i < R → k ≤ f → RW w0 w s → oth S s → Bg s r → r 276 = D → (∀ i' k' : Nat, i' < R → k' < f → (i' < i ∨ (i' = i ∧ k' < k)) → r (100 + 6 * i' + k') = S 7 (12 * i' + S 9 k') % D) → (∀ j : Int, j < 100 ∨ 142 ≤ j → j ≠ 269 → j ≠ 272 → r j = R0 j) →
    fin xs fr lo 160 12 [some (.ref 425), some (.int (jI i)), some (.int (jI k)), none] [] w Q := by
  have nxt : ∀ (i k : Nat) (w : ax_W) (s : mo_S) (r : Int → Int), i < R → k = f → RW w0 w s → oth S s → Bg s r → r 276 = D → (∀ i' k' : Nat, i' < R → k' < f → (i' < i ∨ (i' = i ∧ k' < k)) → r (100 + 6 * i' + k') = S 7 (12 * i' + S 9 k') % D) → (∀ j : Int, j < 100 ∨ 142 ≤ j → j ≠ 269 → j ≠ 272 → r j = R0 j) → (i + 1 < R → fin xs fr lo 160 12 [some (.ref 425), some (.int (jI ((i + 1 : Nat) : Int))), some (.int (jI ((0 : Nat) : Int))), none] [] w Q) → fin xs fr lo 160 12 [some (.ref 425), some (.int (jI i)), some (.int (jI k)), none] [] w Q := by
    intro i k w s r hi hk hw ho hB hD hv hr hn
    subst hk
    have e1' : s 0 1 = R := by rw [ho 0 (by decide) (by decide) (by decide)]; exact e1
    have h3' : s 0 3 = k := by rw [ho 0 (by decide) (by decide) (by decide)]; exact h3
    by_cases hlast : i + 1 < R
    · refine fi_step (pc' := 13) m_Mo_bring rfl rfl ?_
      refine fi_step (pc' := 14) m_Mo_bring rfl rfl ?_
      refine r_get (p := 17) m_Mo_bring rfl rfl (by assumption) rfl ?_
      refine s_ic_ge (p := 20) m_Mo_bring rfl rfl (by omega) (by omega) (by omega) (by omega) (fun hbr => ?_) (fun hbr => False.elim (by omega))
      refine s_iinc (p := 65) m_Mo_bring rfl rfl rfl ?_
      refine fi_step (pc' := 2) m_Mo_bring rfl rfl ?_
      refine fi_step (pc' := 3) m_Mo_bring rfl rfl ?_
      refine fi_step (pc' := 4) m_Mo_bring rfl rfl ?_
      refine r_get (p := 7) m_Mo_bring rfl rfl (by assumption) rfl ?_
      refine s_ic_ge (p := 10) m_Mo_bring rfl rfl (by omega) (by omega) (by omega) (by omega) (fun hbr => False.elim (by omega)) (fun hbr => ?_)
      refine fi_step (pc' := 11) m_Mo_bring rfl rfl ?_
      refine fi_step (pc' := 12) m_Mo_bring rfl rfl ?_
      exact hn hlast
    · obtain rfl : R = i + 1 := by omega
      refine fi_step (pc' := 13) m_Mo_bring rfl rfl ?_
      refine fi_step (pc' := 14) m_Mo_bring rfl rfl ?_
      refine r_get (p := 17) m_Mo_bring rfl rfl (by assumption) rfl ?_
      refine s_ic_ge (p := 20) m_Mo_bring rfl rfl (by omega) (by omega) (by omega) (by omega) (fun hbr => ?_) (fun hbr => False.elim (by omega))
      refine s_iinc (p := 65) m_Mo_bring rfl rfl rfl ?_
      refine fi_step (pc' := 2) m_Mo_bring rfl rfl ?_
      refine fi_step (pc' := 3) m_Mo_bring rfl rfl ?_
      refine fi_step (pc' := 4) m_Mo_bring rfl rfl ?_
      refine r_get (p := 7) m_Mo_bring rfl rfl (by assumption) rfl ?_
      refine s_ic_ge (p := 10) m_Mo_bring rfl rfl (by omega) (by omega) (by omega) (by omega) (fun hbr => ?_) (fun hbr => False.elim (by omega))
      exact K w s r _ _ hw ho hB hD (fun i' k' a b => hv i' k' a b (by omega)) hr
  intro n
  induction n with
  | zero =>
    intro i k w s r hn hi; omega
  | succ n ih =>
    intro i k w s r hn hi hk hw ho hB hD hv hr
    by_cases hkf : k = f
    · refine nxt i k w s r hi hkf hw ho hB hD hv hr (fun h => ih (i + 1) 0 w s r (by omega) h (by omega) hw ho hB hD (fun i' k' a b c => hv i' k' a b (by omega)) hr)
    · have h3' : s 0 3 = f := by rw [ho 0 (by decide) (by decide) (by decide)]; exact h3
      have e7 : s 7 = S 7 := ho 7 (by decide) (by decide) (by decide)
      have e9 : s 9 = S 9 := ho 9 (by decide) (by decide) (by decide)
      have l1 := hl k (by omega)
      have g1 := hg i k hi (by omega)
      refine fi_step (pc' := 13) m_Mo_bring rfl rfl ?_
      refine fi_step (pc' := 14) m_Mo_bring rfl rfl ?_
      refine r_get (p := 17) m_Mo_bring rfl rfl (by assumption) rfl ?_
      refine s_ic_ge (p := 20) m_Mo_bring rfl rfl (by omega) (by omega) (by omega) (by omega) (fun hbr => False.elim (by omega)) (fun hbr => ?_)
      refine fi_step (pc' := 21) m_Mo_bring rfl rfl ?_
      refine fi_step (pc' := 22) m_Mo_bring rfl rfl ?_
      refine fi_step (pc' := 23) m_Mo_bring rfl rfl ?_
      refine fi_step (pc' := 24) m_Mo_bring rfl rfl ?_
      refine c_3 (p := 27) m_Mo_bring rfl inv_v (by decide) m_Mo_cell rfl rfl (by omega) (by omega) (Nat.le_of_ble_eq_true rfl) (Nat.le_of_ble_eq_true rfl) (RW_rcv hw _) c_cell ?_
      refine fi_step (pc' := 28) m_Mo_bring rfl rfl ?_
      refine r_get (p := 31) m_Mo_bring rfl rfl (by assumption) rfl ?_
      refine s_bipush (p := 33) m_Mo_bring rfl rfl rfl ?_
      refine fi_step (pc' := 34) m_Mo_bring rfl rfl ?_
      refine s_imul (p := 35) m_Mo_bring rfl rfl ?_
      refine fi_step (pc' := 36) m_Mo_bring rfl rfl ?_
      refine r_get (p := 39) m_Mo_bring rfl rfl (by assumption) rfl ?_
      refine fi_step (pc' := 40) m_Mo_bring rfl rfl ?_
      refine r_ldI (p := 41) m_Mo_bring rfl rfl (by assumption) (by decide) rfl (by decide) (by (first | omega | (rw [e9]; omega))) (by (first | omega | (rw [e9]; omega))) ?_
      refine s_iadd (p := 42) m_Mo_bring rfl rfl ?_
      refine r_ldL (p := 43) m_Mo_bring rfl rfl (by assumption) (by decide) rfl (by decide) (by (first | omega | (rw [e9]; omega))) (by (first | omega | (rw [e9]; omega))) ?_
      rw [e7, e9]
      refine g_3 (p := 46) m_Mo_bring rfl inv_v (by decide) m_Mo_bigSet rfl rfl (by omega) (by omega) (Nat.le_of_ble_eq_true rfl) (Nat.le_of_ble_eq_true rfl) (RW_rcv hw _) (c_bigSet hw hB (by omega) (by omega) (by omega) (by omega)) (fun v w hP => ?_)
      obtain ⟨rfl, s1, hw, o1, B1⟩ := hP
      refine fi_step (pc' := 47) m_Mo_bring rfl rfl ?_
      refine fi_step (pc' := 48) m_Mo_bring rfl rfl ?_
      refine fi_step (pc' := 49) m_Mo_bring rfl rfl ?_
      refine fi_step (pc' := 50) m_Mo_bring rfl rfl ?_
      refine c_3 (p := 53) m_Mo_bring rfl inv_v (by decide) m_Mo_cell rfl rfl (by omega) (by omega) (Nat.le_of_ble_eq_true rfl) (Nat.le_of_ble_eq_true rfl) (RW_rcv hw _) c_cell ?_
      refine g_2 (p := 56) m_Mo_bring rfl inv_v (by decide) m_Mo_remain rfl rfl (by omega) (by omega) (Nat.le_of_ble_eq_true rfl) (Nat.le_of_ble_eq_true rfl) (RW_rcv hw _) (c_remain (D := D) (by omega) (by omega) hw B1 (by omega) (by omega) (by rw [up1_ne _ (by omega)]; exact hD) D0 D1) (fun v w hP => ?_)
      obtain ⟨rfl, s2, r2, hw, o2, B2, v2, k2⟩ := hP
      refine s_iinc (p := 59) m_Mo_bring rfl rfl rfl ?_
      refine fi_step (pc' := 12) m_Mo_bring rfl rfl ?_
      refine ih i (k + 1) w s2 r2 (by omega) hi (by omega) hw (oth_trans ho (oth_trans o1 o2)) B2 (by rw [k2 _ (by omega) (by omega) (by omega), up1_ne _ (by omega)]; exact hD) (fun i' k' a b c => ?_) (fun j j0 j1 j2 => by rw [k2 j (by omega) j1 j2, up1_ne _ (by omega)]; exact hr j j0 j1 j2)
      by_cases e : i' = i ∧ k' = k
      · obtain ⟨rfl, rfl⟩ := e; rw [v2, up1_same]
      · rw [k2 _ (by omega) (by omega) (by omega), up1_ne _ (by omega)]; exact hv i' k' a b (by omega)
theorem bring_zero {k R f : Nat} {S : mo_S} {R0 : Int → Int} {y3 : Option Value} (hfr : 3 ≤ fr) (hlo : 120 ≤ lo) (e1 : S 0 1 = R) (hR : R ≤ 6) (h3 : S 0 3 = f) (hf : f ≤ 6)
    (K : ∀ w s r, RW w0 w s → oth S s → Bg s r → (∀ e : Nat, e < f → r (100 + 6 * R + e) = 0) → (∀ j : Int, (∀ e : Nat, e < f → j ≠ 100 + 6 * R + e) → r j = R0 j) → fin xs fr lo 160 108 [some (.ref 425), some (.int (jI k)), some (.int (jI f)), y3] [] w Q) :
    ∀ (d e : Nat) (w : ax_W) (s : mo_S) (r : Int → Int), e + d = f → RW w0 w s → oth S s → Bg s r → (∀ e' : Nat, e' < e → r (100 + 6 * R + e') = 0) → (∀ j : Int, (∀ e' : Nat, e' < e → j ≠ 100 + 6 * R + e') → r j = R0 j) →
    fin xs fr lo 160 80 [some (.ref 425), some (.int (jI k)), some (.int (jI e)), y3] [] w Q := by
  intro d
  induction d with
  | zero =>
    intro e w s r he hw ho hB hz hr
    have h3' : s 0 3 = f := by rw [ho 0 (by decide) (by decide) (by decide)]; exact h3
    obtain rfl : e = f := by omega
    refine fi_step (pc' := 81) m_Mo_bring rfl rfl ?_
    refine fi_step (pc' := 82) m_Mo_bring rfl rfl ?_
    refine r_get (p := 85) m_Mo_bring rfl rfl (by assumption) rfl ?_
    refine s_ic_ge (p := 88) m_Mo_bring rfl rfl (by omega) (by omega) (by omega) (by omega) (fun hbr => ?_) (fun hbr => False.elim (by omega))
    exact K w s r hw ho hB hz hr
  | succ d ih =>
    intro e w s r he hw ho hB hz hr
    have h3' : s 0 3 = f := by rw [ho 0 (by decide) (by decide) (by decide)]; exact h3
    have e1' : s 0 1 = R := by rw [ho 0 (by decide) (by decide) (by decide)]; exact e1
    refine fi_step (pc' := 81) m_Mo_bring rfl rfl ?_
    refine fi_step (pc' := 82) m_Mo_bring rfl rfl ?_
    refine r_get (p := 85) m_Mo_bring rfl rfl (by assumption) rfl ?_
    refine s_ic_ge (p := 88) m_Mo_bring rfl rfl (by omega) (by omega) (by omega) (by omega) (fun hbr => False.elim (by omega)) (fun hbr => ?_)
    refine fi_step (pc' := 89) m_Mo_bring rfl rfl ?_
    refine fi_step (pc' := 90) m_Mo_bring rfl rfl ?_
    refine fi_step (pc' := 91) m_Mo_bring rfl rfl ?_
    refine r_get (p := 94) m_Mo_bring rfl rfl (by assumption) rfl ?_
    refine fi_step (pc' := 95) m_Mo_bring rfl rfl ?_
    rw [e1']
    refine c_3 (p := 98) m_Mo_bring rfl inv_v (by decide) m_Mo_cell rfl rfl (by omega) (by omega) (Nat.le_of_ble_eq_true rfl) (Nat.le_of_ble_eq_true rfl) (RW_rcv hw _) c_cell ?_
    refine s_lconst (p := 99) (v := 0) m_Mo_bring rfl rfl rfl ?_
    refine g_3 (p := 102) m_Mo_bring rfl inv_v (by decide) m_Mo_bigSet rfl rfl (by omega) (by omega) (Nat.le_of_ble_eq_true rfl) (Nat.le_of_ble_eq_true rfl) (RW_rcv hw _) (c_bigSet hw hB (by omega) (by omega) (by decide) (by decide)) (fun v w hP => ?_)
    obtain ⟨rfl, s1, hw, o1, B1⟩ := hP
    refine s_iinc (p := 105) m_Mo_bring rfl rfl rfl ?_
    refine fi_step (pc' := 80) m_Mo_bring rfl rfl ?_
    refine ih (e + 1) w s1 _ (by omega) hw (oth_trans ho o1) B1 (fun e' h => ?_) (fun j hj => ?_)
    · by_cases ee : e' = e
      · subst ee; rw [up1_same]
      · rw [up1_ne _ (by omega)]; exact hz e' (by omega)
    · rw [up1_ne _ (hj e (by omega))]; exact hr j (fun e' h => hj e' (by omega))
theorem bring_copy {k R f n : Nat} {S : mo_S} {R0 : Int → Int} (hfr : 3 ≤ fr) (hlo : 120 ≤ lo) (e1 : S 0 1 = R) (hR : R ≤ 6) (h3 : S 0 3 = f) (hf : f ≤ 6) (hk : k < f) (hn : n ≤ R) (hl : ∀ k : Nat, k < f → 0 ≤ S 9 k ∧ S 9 k < 12) (hinj : ∀ e e' : Nat, e < f → e' < f → S 9 e = S 9 e' → e = e')
    (K : ∀ w s r y3, RW w0 w s → oth S s → Bg s r → (∀ e : Nat, e < f → r (184 + 12 * k + S 9 e) = R0 (100 + 6 * n + e)) → (∀ e : Nat, e < f → r (100 + 6 * n + e) = R0 (100 + 6 * R + e)) → (∀ j : Int, (∀ e : Nat, e < f → j ≠ 100 + 6 * n + e ∧ j ≠ 184 + 12 * k + S 9 e) → r j = R0 j) → fin xs fr lo 160 190 [some (.ref 425), some (.int (jI k)), some (.int (jI n)), y3] [] w Q) :
    ∀ (d e : Nat) (w : ax_W) (s : mo_S) (r : Int → Int), e + d = f → RW w0 w s → oth S s → Bg s r → (∀ e' : Nat, e' < e → r (184 + 12 * k + S 9 e') = R0 (100 + 6 * n + e')) → (∀ e' : Nat, e' < e → r (100 + 6 * n + e') = R0 (100 + 6 * R + e')) → (∀ j : Int, (∀ e' : Nat, e' < e → j ≠ 100 + 6 * n + e' ∧ j ≠ 184 + 12 * k + S 9 e') → r j = R0 j) →
    fin xs fr lo 160 132 [some (.ref 425), some (.int (jI k)), some (.int (jI n)), some (.int (jI e))] [] w Q := by
  intro d
  induction d with
  | zero =>
    intro e w s r he hw ho hB hz hz2 hr
    have h3' : s 0 3 = f := by rw [ho 0 (by decide) (by decide) (by decide)]; exact h3
    obtain rfl : e = f := by omega
    refine fi_step (pc' := 133) m_Mo_bring rfl rfl ?_
    refine fi_step (pc' := 134) m_Mo_bring rfl rfl ?_
    refine r_get (p := 137) m_Mo_bring rfl rfl (by assumption) rfl ?_
    refine s_ic_ge (p := 140) m_Mo_bring rfl rfl (by omega) (by omega) (by omega) (by omega) (fun hbr => ?_) (fun hbr => False.elim (by omega))
    exact K w s r _ hw ho hB hz hz2 hr
  | succ d ih =>
    intro e w s r he hw ho hB hz hz2 hr
    have h3' : s 0 3 = f := by rw [ho 0 (by decide) (by decide) (by decide)]; exact h3
    have e1' : s 0 1 = R := by rw [ho 0 (by decide) (by decide) (by decide)]; exact e1
    have e9 : s 9 = S 9 := ho 9 (by decide) (by decide) (by decide)
    have l1 := hl e (by omega)
    have vn : r (100 + 6 * n + e) = R0 (100 + 6 * n + e) := hr _ (fun e' h => ⟨by omega, by have := hl e' (by omega); omega⟩)
    have vR : r (100 + 6 * R + e) = R0 (100 + 6 * R + e) := hr _ (fun e' h => ⟨by omega, by have := hl e' (by omega); omega⟩)
    refine fi_step (pc' := 133) m_Mo_bring rfl rfl ?_
    refine fi_step (pc' := 134) m_Mo_bring rfl rfl ?_
    refine r_get (p := 137) m_Mo_bring rfl rfl (by assumption) rfl ?_
    refine s_ic_ge (p := 140) m_Mo_bring rfl rfl (by (first | omega | (rw [e9]; omega))) (by (first | omega | (rw [e9]; omega))) (by (first | omega | (rw [e9]; omega))) (by (first | omega | (rw [e9]; omega))) (fun hbr => False.elim (by (first | omega | (rw [e9]; omega)))) (fun hbr => ?_)
    refine fi_step (pc' := 141) m_Mo_bring rfl rfl ?_
    refine s_sipush (p := 144) m_Mo_bring rfl rfl rfl ?_
    refine s_bipush (p := 146) m_Mo_bring rfl rfl rfl ?_
    refine fi_step (pc' := 147) m_Mo_bring rfl rfl ?_
    refine s_imul (p := 148) m_Mo_bring rfl rfl ?_
    refine s_iadd (p := 149) m_Mo_bring rfl rfl ?_
    refine fi_step (pc' := 150) m_Mo_bring rfl rfl ?_
    refine r_get (p := 153) m_Mo_bring rfl rfl (by assumption) rfl ?_
    refine fi_step (pc' := 154) m_Mo_bring rfl rfl ?_
    refine r_ldI (p := 155) m_Mo_bring rfl rfl (by assumption) (by decide) rfl (by decide) (by (first | omega | (rw [e9]; omega))) (by (first | omega | (rw [e9]; omega))) ?_
    refine s_iadd (p := 156) m_Mo_bring rfl rfl ?_
    refine fi_step (pc' := 157) m_Mo_bring rfl rfl ?_
    refine fi_step (pc' := 158) m_Mo_bring rfl rfl ?_
    refine fi_step (pc' := 159) m_Mo_bring rfl rfl ?_
    refine c_3 (p := 162) m_Mo_bring rfl inv_v (by decide) m_Mo_cell rfl rfl (by omega) (by omega) (Nat.le_of_ble_eq_true rfl) (Nat.le_of_ble_eq_true rfl) (RW_rcv hw _) c_cell ?_
    rw [e9]
    refine g_3 (p := 165) m_Mo_bring rfl inv_v (by decide) m_Mo_bigCopy rfl rfl (by omega) (by omega) (Nat.le_of_ble_eq_true rfl) (Nat.le_of_ble_eq_true rfl) (RW_rcv hw _) (c_bigCopy hw hB (by omega) (by omega) (by omega) (by omega) (by omega)) (fun v w hP => ?_)
    obtain ⟨rfl, s1, hw, o1, B1⟩ := hP
    have e11 : s1 0 1 = R := by rw [o1 0 (by decide) (by decide) (by decide)]; exact e1'
    refine fi_step (pc' := 166) m_Mo_bring rfl rfl ?_
    refine fi_step (pc' := 167) m_Mo_bring rfl rfl ?_
    refine fi_step (pc' := 168) m_Mo_bring rfl rfl ?_
    refine fi_step (pc' := 169) m_Mo_bring rfl rfl ?_
    refine c_3 (p := 172) m_Mo_bring rfl inv_v (by decide) m_Mo_cell rfl rfl (by omega) (by omega) (Nat.le_of_ble_eq_true rfl) (Nat.le_of_ble_eq_true rfl) (RW_rcv hw _) c_cell ?_
    refine fi_step (pc' := 173) m_Mo_bring rfl rfl ?_
    refine fi_step (pc' := 174) m_Mo_bring rfl rfl ?_
    refine r_get (p := 177) m_Mo_bring rfl rfl (by assumption) rfl ?_
    refine fi_step (pc' := 178) m_Mo_bring rfl rfl ?_
    rw [e11]
    refine c_3 (p := 181) m_Mo_bring rfl inv_v (by decide) m_Mo_cell rfl rfl (by omega) (by omega) (Nat.le_of_ble_eq_true rfl) (Nat.le_of_ble_eq_true rfl) (RW_rcv hw _) c_cell ?_
    refine g_3 (p := 184) m_Mo_bring rfl inv_v (by decide) m_Mo_bigCopy rfl rfl (by omega) (by omega) (Nat.le_of_ble_eq_true rfl) (Nat.le_of_ble_eq_true rfl) (RW_rcv hw _) (c_copyAny hw B1 (by omega) (by omega) (by omega) (by omega)) (fun v w hP => ?_)
    obtain ⟨rfl, s2, r2, hw, o2, B2, v2, k2⟩ := hP
    rw [up1_ne _ (by omega), vR] at v2
    refine s_iinc (p := 187) m_Mo_bring rfl rfl rfl ?_
    refine fi_step (pc' := 132) m_Mo_bring rfl rfl ?_
    refine ih (e + 1) w s2 r2 (by omega) hw (oth_trans ho (oth_trans o1 o2)) B2 (fun e' h => ?_) (fun e' h => ?_) (fun j hj => ?_)
    · have l2 := hl e' (by omega)
      by_cases ee : e' = e
      · subst ee; rw [k2 _ (by omega), up1_same, vn]
      · rw [k2 _ (by omega), up1_ne _ (fun h' => ee (hinj e' e (by omega) (by omega) (by omega)))]; exact hz e' (by omega)
    · by_cases ee : e' = e
      · subst ee; exact v2
      · rw [k2 _ (by omega), up1_ne _ (by omega)]; exact hz2 e' (by omega)
    · have := hj e (by omega)
      rw [k2 _ this.1, up1_ne _ this.2]; exact hr j (fun e' h => hj e' (by omega))
end BRING
