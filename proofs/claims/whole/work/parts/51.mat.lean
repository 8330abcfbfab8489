/-! THE REFERENCE: results given, sums and products of matrices -/
/-- what isn't a number or a matrix stays -/
def keepN (s s' : mo_S) : Prop := ∀ a, a ≠ 1 → a ≠ 2 → a ≠ 3 → a ≠ 4 → a ≠ 5 → a ≠ 6 → s' a = s a
theorem keepN_oth {s s' : mo_S} (h : oth s s') : keepN s s' := fun a h1 h2 h3 _ _ _ => h a h1 h2 h3
theorem keepN_O {s s' : mo_S} (h : keepO s s') : keepN s s' := fun a _ _ _ h4 h5 h6 => h a h4 h5 h6
theorem keepN_trans {s s' s'' : mo_S} (h : keepN s s') (h' : keepN s' s'') : keepN s s'' := fun a h1 h2 h3 h4 h5 h6 => (h' a h1 h2 h3 h4 h5 h6).trans (h a h1 h2 h3 h4 h5 h6)
/-- all numbers of the result are of a size below 10^18 -/
def fits (R C : Int) (g : Int → Int → Int) : Prop := ∀ i j, 0 ≤ i → i < R → 0 ≤ j → j < C → (g i j).natAbs < 1000000000000000000
/-- what a result does to the matrices: it is given, or it is too large and nothing changes -/
def given (s s' : mo_S) (to R C : Int) (g : Int → Int → Int) : Prop := s' 5 = up1 (s 5) to R ∧ s' 6 = up1 (s 6) to C ∧ s' 4 = newN (s 4) to R C g
theorem given_MI {s s' : mo_S} {to R C : Int} {g : Int → Int → Int} (h : MI s) (hg : given s s' to R C g) (hf : fits R C g) (r0 : 1 ≤ R) (r1 : R ≤ 6) (c0 : 1 ≤ C) (c1 : C ≤ 6) : MI s' := by
  obtain ⟨g5, g6, g4⟩ := hg
  refine ⟨fun m m0 m1 => ?_, fun m m0 m1 => ?_, fun x x0 x1 => ?_⟩
  · rw [g5]; by_cases e : m = to
    · subst e; rw [up1_same]; omega
    · rw [up1_ne _ e]; exact h.1 m m0 m1
  · rw [g6]; by_cases e : m = to
    · subst e; rw [up1_same]; omega
    · rw [up1_ne _ e]; exact h.2.1 m m0 m1
  · rw [g4]; unfold newN
    split
    · split
      · rename_i h1 h2
        have := hf ((x - 36 * to) / 6) ((x - 36 * to) % 6) (by omega) h2.1 (by omega) h2.2
        omega
      · omega
    · exact h.2.2 x x0 x1
section MAT2
variable {xs : List Int32} {fr lo : Nat} {w0 : ax_W} {Q : Outcome → ax_W → Prop}
theorem c_addTimes {to a b : Int} {w : ax_W} {s : mo_S} {r : Int → Int} (hfr : 3 ≤ fr) (hlo : 120 ≤ lo) (hw : RW w0 w s) (hB : Bg s r) (t0 : 0 ≤ to) (t1 : to < 268) (a0 : -4611686018427387904 ≤ a) (a1 : a ≤ 4611686018427387904) (b0 : -4611686018427387904 ≤ b) (b1 : b ≤ 4611686018427387904) (hs : ((r to).natAbs : Int) < 16777216 ^ 6) :
    fin xs fr lo 131 0 (ax_ent [.ref 425, .int (jI to), .long (jL a), .long (jL b)] 6) [] w (Ret fun v w' => v = none ∧ ∃ s' r', RW w0 w' s' ∧ oth s s' ∧ Bg s' r' ∧ r' to = r to + a * b ∧ ∀ k, k < 268 → k ≠ to → r' k = r k) := by
  have hab : ((a.natAbs : Nat) : Int) * ((b.natAbs : Nat) : Int) ≤ 4611686018427387904 * 4611686018427387904 := Int.mul_le_mul (by omega) (by omega) (by omega) (by decide)
  have h138 : (16777216 : Int) ^ 6 ≤ rm 138 := le_rm (by decide)
  have h140 : (16777216 : Int) ^ 7 ≤ rm 140 := le_rm (by decide)
  refine fi_step (pc' := 1) m_Mo_addTimes rfl rfl ?_
  refine s_sipush (p := 4) m_Mo_addTimes rfl rfl rfl ?_
  refine fi_step (pc' := 5) m_Mo_addTimes rfl rfl ?_
  refine g_3 (p := 8) m_Mo_addTimes rfl inv_v (by decide) m_Mo_bigSet rfl rfl (by omega) (by omega) (Nat.le_of_ble_eq_true rfl) (Nat.le_of_ble_eq_true rfl) (RW_rcv hw _) (c_bigSet hw hB (by decide) (by decide) a0 a1) (fun v w hP => ?_)
  obtain ⟨rfl, s1, hw, o1, B1⟩ := hP
  refine fi_step (pc' := 9) m_Mo_addTimes rfl rfl ?_
  refine s_sipush (p := 12) m_Mo_addTimes rfl rfl rfl ?_
  refine fi_step (pc' := 14) m_Mo_addTimes rfl rfl ?_
  refine g_3 (p := 17) m_Mo_addTimes rfl inv_v (by decide) m_Mo_bigSet rfl rfl (by omega) (by omega) (Nat.le_of_ble_eq_true rfl) (Nat.le_of_ble_eq_true rfl) (RW_rcv hw _) (c_bigSet hw B1 (by decide) (by decide) b0 b1) (fun v w hP => ?_)
  obtain ⟨rfl, s2, hw, o2, B2⟩ := hP
  have ea : up1 (up1 r 268 a) 269 b 268 = a := by rw [up1_ne _ (by decide), up1_same]
  have eb : up1 (up1 r 268 a) 269 b 269 = b := by rw [up1_same]
  refine fi_step (pc' := 18) m_Mo_addTimes rfl rfl ?_
  refine s_sipush (p := 21) m_Mo_addTimes rfl rfl rfl ?_
  refine s_sipush (p := 24) m_Mo_addTimes rfl rfl rfl ?_
  refine s_sipush (p := 27) m_Mo_addTimes rfl rfl rfl ?_
  refine g_4 (p := 30) m_Mo_addTimes rfl inv_v (by decide) m_Mo_bigProduct rfl rfl (by omega) (by omega) (Nat.le_of_ble_eq_true rfl) (Nat.le_of_ble_eq_true rfl) (RW_rcv hw _) (c_bigProduct (by omega) (by omega) hw B2 (by decide) (by decide) (by decide) (by decide) (by decide) (by decide) (by decide) (by decide) (by rw [ea, eb]; omega)) (fun v w hP => ?_)
  obtain ⟨rfl, s3, hw, o3, B3⟩ := hP
  rw [ea, eb] at B3
  have ec : up1 (up1 (up1 r 268 a) 269 b) 270 (a * b) 270 = a * b := by rw [up1_same]
  have ed : up1 (up1 (up1 r 268 a) 269 b) 270 (a * b) to = r to := by rw [up1_ne _ (by omega), up1_ne _ (by omega), up1_ne _ (by omega)]
  have hab2 : ((a * b).natAbs : Int) = ((a.natAbs : Nat) : Int) * ((b.natAbs : Nat) : Int) := by rw [Int.natAbs_mul]; simp
  refine fi_step (pc' := 31) m_Mo_addTimes rfl rfl ?_
  refine fi_step (pc' := 32) m_Mo_addTimes rfl rfl ?_
  refine s_sipush (p := 35) m_Mo_addTimes rfl rfl rfl ?_
  refine fi_step (pc' := 36) m_Mo_addTimes rfl rfl ?_
  refine g_4 (p := 39) m_Mo_addTimes rfl inv_v (by decide) m_Mo_bigAdd rfl rfl (by omega) (by omega) (Nat.le_of_ble_eq_true rfl) (Nat.le_of_ble_eq_true rfl) (RW_rcv hw _) (c_bigAdd (by omega) (by omega) hw B3 t0 (by omega) (by decide) (by decide) (by omega) (Or.inl rfl) (by rw [ec, ed, hab2]; omega)) (fun v w hP => ?_)
  obtain ⟨rfl, s4, hw, o4, B4⟩ := hP
  rw [if_neg (by decide), ec, ed] at B4
  refine p_ret m_Mo_addTimes rfl rfl ?_
  exact ⟨rfl, s4, _, hw, oth_trans (oth_trans o1 o2) (oth_trans o3 o4), B4, up1_same _ _ _, fun k k0 k1 => by rw [up1_ne _ k1, up1_ne _ (by omega), up1_ne _ (by omega), up1_ne _ (by omega)]⟩
theorem give_A {P : Option Value → ax_W → Prop} {to R C : Int} {w : ax_W} {s : mo_S} {r : Int → Int} (hfr : 2 ≤ fr) (hlo : 60 ≤ lo) (hw : RW w0 w s) (hB : Bg s r) (hE : r 271 = 1000000000000000000) (r0 : 1 ≤ R) (r1 : R ≤ 6) (c0 : 1 ≤ C) (c1 : C ≤ 6)
    (K : fits R C (fun i j => r (6 * i + j)) → ∀ y, fin xs fr lo 139 60 [some (.ref 425), some (.int (jI to)), some (.int (jI R)), some (.int (jI C)), some (.int (jI R)), y] [] w (Ret P))
    (K' : ¬ fits R C (fun i j => r (6 * i + j)) → P (some (.int (jI 0))) w) :
    ∀ (f : Nat) (i j : Int), (R - i) * 7 + (C - j) ≤ f → 0 ≤ i → i < R → 0 ≤ j → j ≤ C → (∀ i' j', 0 ≤ i' → 0 ≤ j' → j' < C → (i' < i ∨ (i' = i ∧ j' < j)) → (r (6 * i' + j')).natAbs < 1000000000000000000) →
    fin xs fr lo 139 22 [some (.ref 425), some (.int (jI to)), some (.int (jI R)), some (.int (jI C)), some (.int (jI i)), some (.int (jI j))] [] w (Ret P) := by
  intro f
  induction f with
  | zero => intro i j hf i0 i1 j0 j1; omega
  | succ f ih =>
    intro i j hf i0 i1 j0 j1 hok
    refine fi_step (pc' := 24) m_Mo_give rfl rfl ?_
    refine fi_step (pc' := 25) m_Mo_give rfl rfl ?_
    refine s_ic_ge (p := 28) m_Mo_give rfl rfl (by omega) (by omega) (by omega) (by omega) (fun h => ?_) (fun h => ?_)
    · have ej : j = C := by omega
      subst ej
      refine s_iinc (p := 57) m_Mo_give rfl rfl rfl ?_
      refine fi_step (pc' := 13) m_Mo_give rfl rfl ?_
      refine fi_step (pc' := 15) m_Mo_give rfl rfl ?_
      refine fi_step (pc' := 16) m_Mo_give rfl rfl ?_
      refine s_ic_ge (p := 19) m_Mo_give rfl rfl (by omega) (by omega) (by omega) (by omega) (fun g => ?_) (fun g => ?_)
      · have ei : i + 1 = R := by omega
        rw [ei]
        exact K (fun i' j' a0 a1 b0 b1 => hok i' j' a0 b0 b1 (by omega)) _
      · refine fi_step (pc' := 20) m_Mo_give rfl rfl ?_
        refine fi_step (pc' := 22) m_Mo_give rfl rfl ?_
        exact ih (i + 1) 0 (by omega) (by omega) (by omega) (by omega) (by omega) (fun i' j' a0 b0 b1 hh => hok i' j' a0 b0 b1 (by omega))
    · refine fi_step (pc' := 29) m_Mo_give rfl rfl ?_
      refine fi_step (pc' := 30) m_Mo_give rfl rfl ?_
      refine fi_step (pc' := 32) m_Mo_give rfl rfl ?_
      refine fi_step (pc' := 34) m_Mo_give rfl rfl ?_
      refine c_3 (p := 37) m_Mo_give rfl inv_v (by decide) m_Mo_result rfl rfl (by omega) (by omega) (Nat.le_of_ble_eq_true rfl) (Nat.le_of_ble_eq_true rfl) (RW_rcv hw _) c_result ?_
      refine s_sipush (p := 40) m_Mo_give rfl rfl rfl ?_
      refine c_3 (p := 43) m_Mo_give rfl inv_v (by decide) m_Mo_bigSizes rfl rfl (by omega) (by omega) (Nat.le_of_ble_eq_true rfl) (Nat.le_of_ble_eq_true rfl) (RW_rcv hw _) (c_bigCmp (by omega) (by omega) hw hB (by omega) (by omega) (by decide) (by decide)) ?_
      rw [hE, Int.natAbs_of_nonneg (show (0 : Int) ≤ 1000000000000000000 by decide)]
      by_cases hlt : ((r (6 * i + j)).natAbs : Int) < (1000000000000000000 : Int)
      · rw [if_pos hlt]
        refine s_if_lt (p := 46) m_Mo_give rfl rfl (by omega) (by omega) (fun hbr => ?_) (fun hbr => False.elim (by omega))
        refine s_iinc (p := 51) m_Mo_give rfl rfl rfl ?_
        refine fi_step (pc' := 22) m_Mo_give rfl rfl ?_
        refine ih i (j + 1) (by omega) i0 i1 (by omega) (by omega) (fun i' j' a0 b0 b1 hh => ?_)
        by_cases e : i' = i ∧ j' = j
        · rw [e.1, e.2]; omega
        · exact hok i' j' a0 b0 b1 (by omega)
      · have hv : (if ((r (6 * i + j)).natAbs : Int) < (1000000000000000000 : Int) then (-1 : Int) else if ((r (6 * i + j)).natAbs : Int) = (1000000000000000000 : Int) then 0 else 1) = 0 ∨ (if ((r (6 * i + j)).natAbs : Int) < (1000000000000000000 : Int) then (-1 : Int) else if ((r (6 * i + j)).natAbs : Int) = (1000000000000000000 : Int) then 0 else 1) = 1 := by
          rw [if_neg hlt]; split
          · exact Or.inl rfl
          · exact Or.inr rfl
        refine s_if_lt (p := 46) m_Mo_give rfl rfl (by omega) (by omega) (fun hbr => False.elim (by omega)) (fun hbr => ?_)
        refine fi_step (pc' := 47) m_Mo_give rfl rfl ?_
        refine p_retb m_Mo_give rfl rfl (by first | exact Or.inl rfl | exact Or.inr rfl | omega) ?_
        exact K' (fun hf => by have : (r (6 * i + j)).natAbs < 1000000000000000000 := hf i j i0 i1 j0 (by omega); omega)
theorem give_B {P : Option Value → ax_W → Prop} {to R C : Int} {S : mo_S} {r : Int → Int} (hfr : 2 ≤ fr) (hlo : 60 ≤ lo) (t0 : 0 ≤ to) (t1 : to < 6) (r1 : R ≤ 6) (c0 : 1 ≤ C) (c1 : C ≤ 6) (hB : Bg S r) (hfit : fits R C (fun i j => r (6 * i + j)))
    (K : ∀ w' s', RW w0 w' s' → (∀ a, a ≠ 4 → s' a = S a) → s' 4 = newN (S 4) to R C (fun i j => r (6 * i + j)) → P (some (.int (jI 1))) w') :
    ∀ (f : Nat) (i j : Int) (w : ax_W) (s : mo_S), (R - i) * 7 + (C - j) ≤ f → 0 ≤ i → i < R → 0 ≤ j → j ≤ C → RW w0 w s → (∀ a, a ≠ 4 → s a = S a) → (∀ x, s 4 x = if 36 * to ≤ x ∧ x < 36 * to + 36 then (if ((x - 36 * to) / 6 < i ∨ ((x - 36 * to) / 6 = i ∧ (x - 36 * to) % 6 < j)) ∧ (x - 36 * to) % 6 < C then r (6 * ((x - 36 * to) / 6) + (x - 36 * to) % 6) else 0) else S 4 x) →
    fin xs fr lo 139 79 [some (.ref 425), some (.int (jI to)), some (.int (jI R)), some (.int (jI C)), some (.int (jI i)), some (.int (jI j))] [] w (Ret P) := by
  intro f
  induction f with
  | zero => intro i j w s hf i0 i1 j0 j1; omega
  | succ f ih =>
    intro i j w s hf i0 i1 j0 j1 hw ho h4
    have hB' : Bg s r := Bg_congr hB (ho 1 (by decide)) (ho 2 (by decide)) (ho 3 (by decide))
    refine fi_step (pc' := 81) m_Mo_give rfl rfl ?_
    refine fi_step (pc' := 82) m_Mo_give rfl rfl ?_
    refine s_ic_ge (p := 85) m_Mo_give rfl rfl (by omega) (by omega) (by omega) (by omega) (fun h => ?_) (fun h => ?_)
    · have ej : j = C := by omega
      subst ej
      refine s_iinc (p := 124) m_Mo_give rfl rfl rfl ?_
      refine fi_step (pc' := 70) m_Mo_give rfl rfl ?_
      refine fi_step (pc' := 72) m_Mo_give rfl rfl ?_
      refine fi_step (pc' := 73) m_Mo_give rfl rfl ?_
      refine s_ic_ge (p := 76) m_Mo_give rfl rfl (by omega) (by omega) (by omega) (by omega) (fun g => ?_) (fun g => ?_)
      · refine fi_step (pc' := 128) m_Mo_give rfl rfl ?_
        refine p_retb m_Mo_give rfl rfl (by first | exact Or.inl rfl | exact Or.inr rfl | omega) ?_
        refine K w s hw ho ?_
        funext x; rw [h4 x]; unfold newN
        by_cases e : 36 * to ≤ x ∧ x < 36 * to + 36
        · rw [if_pos e, if_pos e]
          by_cases e' : (x - 36 * to) / 6 < R ∧ (x - 36 * to) % 6 < j
          · rw [if_pos (by omega), if_pos e']
          · rw [if_neg (by omega), if_neg e']
        · rw [if_neg e, if_neg e]
      · refine fi_step (pc' := 77) m_Mo_give rfl rfl ?_
        refine fi_step (pc' := 79) m_Mo_give rfl rfl ?_
        refine ih (i + 1) 0 w s (by omega) (by omega) (by omega) (by omega) (by omega) hw ho (fun x => ?_)
        rw [h4 x]
        by_cases e : 36 * to ≤ x ∧ x < 36 * to + 36
        · rw [if_pos e, if_pos e]
          by_cases e' : ((x - 36 * to) / 6 < i ∨ ((x - 36 * to) / 6 = i ∧ (x - 36 * to) % 6 < j)) ∧ (x - 36 * to) % 6 < j
          · rw [if_pos e', if_pos (by omega)]
          · rw [if_neg e', if_neg (by omega)]
        · rw [if_neg e, if_neg e]
    · have hfij : (r (6 * i + j)).natAbs < 1000000000000000000 := hfit i j i0 i1 j0 (by omega)
      refine fi_step (pc' := 86) m_Mo_give rfl rfl ?_
      refine r_get (p := 89) m_Mo_give rfl rfl (by assumption) rfl ?_
      refine s_bipush (p := 91) m_Mo_give rfl rfl rfl ?_
      refine fi_step (pc' := 92) m_Mo_give rfl rfl ?_
      refine s_imul (p := 93) m_Mo_give rfl rfl ?_
      refine s_bipush (p := 95) m_Mo_give rfl rfl rfl ?_
      refine fi_step (pc' := 97) m_Mo_give rfl rfl ?_
      refine s_imul (p := 98) m_Mo_give rfl rfl ?_
      refine s_iadd (p := 99) m_Mo_give rfl rfl ?_
      refine fi_step (pc' := 101) m_Mo_give rfl rfl ?_
      refine s_iadd (p := 102) m_Mo_give rfl rfl ?_
      refine fi_step (pc' := 103) m_Mo_give rfl rfl ?_
      refine fi_step (pc' := 104) m_Mo_give rfl rfl ?_
      refine fi_step (pc' := 106) m_Mo_give rfl rfl ?_
      refine fi_step (pc' := 108) m_Mo_give rfl rfl ?_
      refine c_3 (p := 111) m_Mo_give rfl inv_v (by decide) m_Mo_result rfl rfl (by omega) (by omega) (Nat.le_of_ble_eq_true rfl) (Nat.le_of_ble_eq_true rfl) (RW_rcv hw _) c_result ?_
      refine c_2 (p := 114) m_Mo_give rfl inv_v (by decide) m_Mo_bigValue rfl rfl (by omega) (by omega) (Nat.le_of_ble_eq_true rfl) (Nat.le_of_ble_eq_true rfl) (RW_rcv hw _) (c_bigValue hw hB' (by omega) (by omega) (by omega)) ?_
      refine r_stL (p := 115) m_Mo_give rfl rfl (by assumption) (by decide) (fun _ => rfl) (by decide) (by omega) (by omega) (fun w hw => ?_)
      refine s_iinc (p := 118) m_Mo_give rfl rfl rfl ?_
      refine fi_step (pc' := 79) m_Mo_give rfl rfl ?_
      refine ih i (j + 1) w _ (by omega) i0 i1 (by omega) (by omega) hw (fun a ha => by rw [up_ne _ ha]; exact ho a ha) (fun x => ?_)
      rw [up_same]
      by_cases e : x = 36 * to + 6 * i + j
      · subst e
        rw [up1_same, if_pos (by omega), if_pos (by omega)]
        congr 1; omega
      · rw [up1_ne _ e, h4 x]
        by_cases e1 : 36 * to ≤ x ∧ x < 36 * to + 36
        · rw [if_pos e1, if_pos e1]
          by_cases e' : ((x - 36 * to) / 6 < i ∨ ((x - 36 * to) / 6 = i ∧ (x - 36 * to) % 6 < j)) ∧ (x - 36 * to) % 6 < C
          · rw [if_pos e', if_pos (by omega)]
          · rw [if_neg e', if_neg (by omega)]
        · rw [if_neg e1, if_neg e1]
theorem c_give {to R C : Int} {w : ax_W} {s : mo_S} {r : Int → Int} (hfr : 3 ≤ fr) (hlo : 90 ≤ lo) (hw : RW w0 w s) (hB : Bg s r) (t0 : 0 ≤ to) (t1 : to < 6) (r0 : 1 ≤ R) (r1 : R ≤ 6) (c0 : 1 ≤ C) (c1 : C ≤ 6) :
    fin xs fr lo 139 0 (ax_ent [.ref 425, .int (jI to), .int (jI R), .int (jI C)] 6) [] w (Ret fun u w' => ∃ s' r', RW w0 w' s' ∧ Bg s' r' ∧ keepN s s' ∧ ((fits R C (fun i j => r (6 * i + j)) ∧ u = some (.int (jI 1)) ∧ given s s' to R C (fun i j => r (6 * i + j))) ∨ (¬ fits R C (fun i j => r (6 * i + j)) ∧ u = some (.int (jI 0)) ∧ keepM s s'))) := by
  refine fi_step (pc' := 1) m_Mo_give rfl rfl ?_
  refine s_sipush (p := 4) m_Mo_give rfl rfl rfl ?_
  refine s_ldc2 (p := 7) 1000000000000000000 m_Mo_give rfl rfl rfl ?_
  refine g_3 (p := 10) m_Mo_give rfl inv_v (by decide) m_Mo_bigSet rfl rfl (by omega) (by omega) (Nat.le_of_ble_eq_true rfl) (Nat.le_of_ble_eq_true rfl) (RW_rcv hw _) (c_bigSet hw hB (by decide) (by decide) (by decide) (by decide)) (fun v w hP => ?_)
  obtain ⟨rfl, s1, hw, o1, B1⟩ := hP
  have er : ∀ i j, 0 ≤ i → i < R → 0 ≤ j → j < C → up1 r 271 1000000000000000000 (6 * i + j) = r (6 * i + j) := fun i j a0 a1 b0 b1 => up1_ne _ (by omega) _
  have ef : fits R C (fun i j => up1 r 271 1000000000000000000 (6 * i + j)) ↔ fits R C (fun i j => r (6 * i + j)) :=
    ⟨fun h i j a0 a1 b0 b1 => by have := h i j a0 a1 b0 b1; simp only [er i j a0 a1 b0 b1] at this; exact this, fun h i j a0 a1 b0 b1 => by simp only [er i j a0 a1 b0 b1]; exact h i j a0 a1 b0 b1⟩
  refine fi_step (pc' := 11) m_Mo_give rfl rfl ?_
  refine fi_step (pc' := 13) m_Mo_give rfl rfl ?_
  refine fi_step (pc' := 15) m_Mo_give rfl rfl ?_
  refine fi_step (pc' := 16) m_Mo_give rfl rfl ?_
  refine s_ic_ge (p := 19) m_Mo_give rfl rfl (by omega) (by omega) (by omega) (by omega) (fun hbr => False.elim (by omega)) (fun hbr => ?_)
  refine fi_step (pc' := 20) m_Mo_give rfl rfl ?_
  refine fi_step (pc' := 22) m_Mo_give rfl rfl ?_
  refine give_A (by omega) (by omega) hw B1 (up1_same _ _ _) r0 r1 c0 c1 ?_ ?_ 100 0 0 (by omega) (by omega) (by omega) (by omega) (by omega) (fun i' j' a0 b0 b1 hh => by omega)
  · intro hfit y
    refine fi_step (pc' := 61) m_Mo_give rfl rfl ?_
    refine fi_step (pc' := 62) m_Mo_give rfl rfl ?_
    refine fi_step (pc' := 63) m_Mo_give rfl rfl ?_
    refine fi_step (pc' := 64) m_Mo_give rfl rfl ?_
    refine g_4 (p := 67) m_Mo_give rfl inv_v (by decide) m_Mo_clear rfl rfl (by omega) (by omega) (Nat.le_of_ble_eq_true rfl) (Nat.le_of_ble_eq_true rfl) (RW_rcv hw _) (c_clear hw t0 t1) (fun v w hP => ?_)
    obtain ⟨rfl, s2, hw, k2, k5, k6, k4⟩ := hP
    have B2 : Bg s2 (up1 r 271 1000000000000000000) := Bg_congr B1 (k2 1 (by decide) (by decide) (by decide)) (k2 2 (by decide) (by decide) (by decide)) (k2 3 (by decide) (by decide) (by decide))
    have m1 := keepM_oth o1
    refine fi_step (pc' := 68) m_Mo_give rfl rfl ?_
    refine fi_step (pc' := 70) m_Mo_give rfl rfl ?_
    refine fi_step (pc' := 72) m_Mo_give rfl rfl ?_
    refine fi_step (pc' := 73) m_Mo_give rfl rfl ?_
    refine s_ic_ge (p := 76) m_Mo_give rfl rfl (by omega) (by omega) (by omega) (by omega) (fun hbr => False.elim (by omega)) (fun hbr => ?_)
    refine fi_step (pc' := 77) m_Mo_give rfl rfl ?_
    refine fi_step (pc' := 79) m_Mo_give rfl rfl ?_
    refine give_B (S := s2) (by omega) (by omega) t0 t1 r1 c0 c1 B2 hfit ?_ 100 0 0 w s2 (by omega) (by omega) (by omega) (by omega) (by omega) hw (fun _ _ => rfl) (fun x => ?_)
    · intro w' s' hw' h1 h2
      refine ⟨s', _, hw', Bg_congr B2 (h1 1 (by decide)) (h1 2 (by decide)) (h1 3 (by decide)), keepN_trans (keepN_trans (keepN_oth o1) (keepN_O k2)) (fun a _ _ _ h4 _ _ => h1 a h4), Or.inl ⟨ef.mp hfit, rfl, ?_⟩⟩
      refine ⟨by rw [h1 5 (by decide), k5, m1.2.1], by rw [h1 6 (by decide), k6, m1.2.2], ?_⟩
      rw [h2, k4, m1.1]
      funext x; unfold newN
      by_cases e : 36 * to ≤ x ∧ x < 36 * to + 36
      · rw [if_pos e, if_pos e]
        by_cases e' : (x - 36 * to) / 6 < R ∧ (x - 36 * to) % 6 < C
        · rw [if_pos e', if_pos e']; exact er _ _ (by omega) e'.1 (by omega) e'.2
        · rw [if_neg e', if_neg e']
      · rw [if_neg e, if_neg e, if_neg e]
    · rw [k4]; unfold newN
      by_cases e : 36 * to ≤ x ∧ x < 36 * to + 36
      · rw [if_pos e, if_pos e, if_neg (by omega), if_neg (by omega)]
      · rw [if_neg e, if_neg e]
  · intro hfit
    exact ⟨s1, _, hw, B1, keepN_oth o1, Or.inr ⟨fun h => hfit (ef.mpr h), rfl, keepM_oth o1⟩⟩
end MAT2
section MAT3
variable {xs : List Int32} {fr lo : Nat} {w0 : ax_W} {Q : Outcome → ax_W → Prop}
theorem combine_loop {to a x b y : Int} {S : mo_S} (hfr : 4 ≤ fr) (hlo : 150 ≤ lo) (hM : MI S) (a0 : 0 ≤ a) (a1 : a < 6) (b0 : 0 ≤ b) (b1 : b < 6) (x0 : -2147483648 ≤ x) (x1 : x < 2147483648) (y0 : -2147483648 ≤ y) (y1 : y < 2147483648)
    (K : ∀ w s r j, RW w0 w s → oth S s → Bg s r → (∀ i j, 0 ≤ i → i < S 5 a → 0 ≤ j → j < S 6 a → r (6 * i + j) = S 4 (36 * a + 6 * i + j) * x + S 4 (36 * b + 6 * i + j) * y) → fin xs fr lo 127 149 [some (.ref 425), some (.int (jI to)), some (.int (jI a)), some (.int (jI x)), some (.int (jI b)), some (.int (jI y)), some (.int (jI (S 5 a))), j] [] w Q) :
    ∀ (f : Nat) (i j : Int) (w : ax_W) (s : mo_S) (r : Int → Int), (S 5 a - i) * 7 + (S 6 a - j) ≤ f → 0 ≤ i → i < S 5 a → 0 ≤ j → j ≤ S 6 a → RW w0 w s → oth S s → Bg s r → (∀ i' j', 0 ≤ i' → 0 ≤ j' → j' < S 6 a → (i' < i ∨ (i' = i ∧ j' < j)) → r (6 * i' + j') = S 4 (36 * a + 6 * i' + j') * x + S 4 (36 * b + 6 * i' + j') * y) →
    fin xs fr lo 127 65 [some (.ref 425), some (.int (jI to)), some (.int (jI a)), some (.int (jI x)), some (.int (jI b)), some (.int (jI y)), some (.int (jI i)), some (.int (jI j))] [] w Q := by
  have hR := hM.1 a a0 a1
  have hC := hM.2.1 a a0 a1
  intro f
  induction f with
  | zero => intro i j w s r hf i0 i1 j0 j1; omega
  | succ f ih =>
    intro i j w s r hf i0 i1 j0 j1 hw ho hB hok
    have m := keepM_oth ho
    have e5 : s 5 a = S 5 a := by rw [m.2.1]
    have e6 : s 6 a = S 6 a := by rw [m.2.2]
    refine fi_step (pc' := 67) m_Mo_combine rfl rfl ?_
    refine fi_step (pc' := 68) m_Mo_combine rfl rfl ?_
    refine r_get (p := 71) m_Mo_combine rfl rfl (by assumption) rfl ?_
    refine fi_step (pc' := 72) m_Mo_combine rfl rfl ?_
    refine r_ldI (p := 73) m_Mo_combine rfl rfl (by assumption) (by decide) rfl (by decide) (by omega) (by omega) ?_
    refine s_ic_ge (p := 76) m_Mo_combine rfl rfl (by omega) (by omega) (by omega) (by omega) (fun h => ?_) (fun h => ?_)
    · have ej : j = S 6 a := by omega
      refine s_iinc (p := 146) m_Mo_combine rfl rfl rfl ?_
      refine fi_step (pc' := 51) m_Mo_combine rfl rfl ?_
      refine fi_step (pc' := 53) m_Mo_combine rfl rfl ?_
      refine fi_step (pc' := 54) m_Mo_combine rfl rfl ?_
      refine r_get (p := 57) m_Mo_combine rfl rfl (by assumption) rfl ?_
      refine fi_step (pc' := 58) m_Mo_combine rfl rfl ?_
      refine r_ldI (p := 59) m_Mo_combine rfl rfl (by assumption) (by decide) rfl (by decide) (by omega) (by omega) ?_
      refine s_ic_ge (p := 62) m_Mo_combine rfl rfl (by omega) (by omega) (by omega) (by omega) (fun g => ?_) (fun g => ?_)
      · have ei : i + 1 = S 5 a := by omega
        rw [ei]
        exact K w s r _ hw ho hB (fun i' j' a0 a1 b0 b1 => hok i' j' a0 b0 b1 (by omega))
      · refine fi_step (pc' := 63) m_Mo_combine rfl rfl ?_
        refine fi_step (pc' := 65) m_Mo_combine rfl rfl ?_
        exact ih (i + 1) 0 w s r (by omega) (by omega) (by omega) (by omega) (by omega) hw ho hB (fun i' j' a0 b0 b1 hh => hok i' j' a0 b0 b1 (by omega))
    · have na := hM.2.2 (36 * a + 6 * i + j) (by omega) (by omega)
      have nb := hM.2.2 (36 * b + 6 * i + j) (by omega) (by omega)
      refine fi_step (pc' := 77) m_Mo_combine rfl rfl ?_
      refine fi_step (pc' := 78) m_Mo_combine rfl rfl ?_
      refine fi_step (pc' := 80) m_Mo_combine rfl rfl ?_
      refine fi_step (pc' := 82) m_Mo_combine rfl rfl ?_
      refine c_3 (p := 85) m_Mo_combine rfl inv_v (by decide) m_Mo_result rfl rfl (by omega) (by omega) (Nat.le_of_ble_eq_true rfl) (Nat.le_of_ble_eq_true rfl) (RW_rcv hw _) c_result ?_
      refine s_lconst (p := 86) (v := 0) m_Mo_combine rfl rfl rfl ?_
      refine g_3 (p := 89) m_Mo_combine rfl inv_v (by decide) m_Mo_bigSet rfl rfl (by omega) (by omega) (Nat.le_of_ble_eq_true rfl) (Nat.le_of_ble_eq_true rfl) (RW_rcv hw _) (c_bigSet hw hB (by omega) (by omega) (by decide) (by decide)) (fun v w hP => ?_)
      obtain ⟨rfl, s1, hw, o1, B1⟩ := hP
      have m1 := keepM_trans m (keepM_oth o1)
      refine fi_step (pc' := 90) m_Mo_combine rfl rfl ?_
      refine fi_step (pc' := 91) m_Mo_combine rfl rfl ?_
      refine fi_step (pc' := 93) m_Mo_combine rfl rfl ?_
      refine fi_step (pc' := 95) m_Mo_combine rfl rfl ?_
      refine c_3 (p := 98) m_Mo_combine rfl inv_v (by decide) m_Mo_result rfl rfl (by omega) (by omega) (Nat.le_of_ble_eq_true rfl) (Nat.le_of_ble_eq_true rfl) (RW_rcv hw _) c_result ?_
      refine fi_step (pc' := 99) m_Mo_combine rfl rfl ?_
      refine fi_step (pc' := 100) m_Mo_combine rfl rfl ?_
      refine fi_step (pc' := 102) m_Mo_combine rfl rfl ?_
      refine fi_step (pc' := 104) m_Mo_combine rfl rfl ?_
      refine c_4 (p := 107) m_Mo_combine rfl inv_v (by decide) m_Mo_number rfl rfl (by omega) (by omega) (Nat.le_of_ble_eq_true rfl) (Nat.le_of_ble_eq_true rfl) (RW_rcv hw _) (c_number hw a0 a1 (by omega) (by omega) (by omega) (by omega)) ?_
      rw [m1.1]
      refine fi_step (pc' := 108) m_Mo_combine rfl rfl ?_
      refine s_i2l (p := 109) m_Mo_combine rfl rfl (by omega) (by omega) ?_
      refine g_4 (p := 112) m_Mo_combine rfl inv_v (by decide) m_Mo_addTimes rfl rfl (by omega) (by omega) (Nat.le_of_ble_eq_true rfl) (Nat.le_of_ble_eq_true rfl) (RW_rcv hw _) (c_addTimes (by omega) (by omega) hw B1 (by omega) (by omega) (by omega) (by omega) (by omega) (by omega) (by rw [up1_same]; decide)) (fun v w hP => ?_)
      obtain ⟨rfl, s2, r2, hw, o2, B2, v2, k2⟩ := hP
      have m2 := keepM_trans m1 (keepM_oth o2)
      have hb2 : ((r2 (6 * i + j)).natAbs : Int) < 16777216 ^ 6 := by
        rw [v2, up1_same, Int.zero_add, Int.natAbs_mul]
        have : ((S 4 (36 * a + 6 * i + j)).natAbs : Int) * (x.natAbs : Int) ≤ 1000000000000000000 * 2147483648 := Int.mul_le_mul (by omega) (by omega) (by omega) (by decide)
        have e : ((((S 4 (36 * a + 6 * i + j)).natAbs * x.natAbs : Nat)) : Int) = ((S 4 (36 * a + 6 * i + j)).natAbs : Int) * (x.natAbs : Int) := by simp
        rw [e]; omega
      refine fi_step (pc' := 113) m_Mo_combine rfl rfl ?_
      refine fi_step (pc' := 114) m_Mo_combine rfl rfl ?_
      refine fi_step (pc' := 116) m_Mo_combine rfl rfl ?_
      refine fi_step (pc' := 118) m_Mo_combine rfl rfl ?_
      refine c_3 (p := 121) m_Mo_combine rfl inv_v (by decide) m_Mo_result rfl rfl (by omega) (by omega) (Nat.le_of_ble_eq_true rfl) (Nat.le_of_ble_eq_true rfl) (RW_rcv hw _) c_result ?_
      refine fi_step (pc' := 122) m_Mo_combine rfl rfl ?_
      refine fi_step (pc' := 124) m_Mo_combine rfl rfl ?_
      refine fi_step (pc' := 126) m_Mo_combine rfl rfl ?_
      refine fi_step (pc' := 128) m_Mo_combine rfl rfl ?_
      refine c_4 (p := 131) m_Mo_combine rfl inv_v (by decide) m_Mo_number rfl rfl (by omega) (by omega) (Nat.le_of_ble_eq_true rfl) (Nat.le_of_ble_eq_true rfl) (RW_rcv hw _) (c_number hw b0 b1 (by omega) (by omega) (by omega) (by omega)) ?_
      rw [m2.1]
      refine fi_step (pc' := 133) m_Mo_combine rfl rfl ?_
      refine s_i2l (p := 134) m_Mo_combine rfl rfl (by omega) (by omega) ?_
      refine g_4 (p := 137) m_Mo_combine rfl inv_v (by decide) m_Mo_addTimes rfl rfl (by omega) (by omega) (Nat.le_of_ble_eq_true rfl) (Nat.le_of_ble_eq_true rfl) (RW_rcv hw _) (c_addTimes (by omega) (by omega) hw B2 (by omega) (by omega) (by omega) (by omega) (by omega) (by omega) hb2) (fun v w hP => ?_)
      obtain ⟨rfl, s3, r3, hw, o3, B3, v3, k3⟩ := hP
      refine s_iinc (p := 140) m_Mo_combine rfl rfl rfl ?_
      refine fi_step (pc' := 65) m_Mo_combine rfl rfl ?_
      refine ih i (j + 1) w s3 r3 (by omega) i0 i1 (by omega) (by omega) hw (oth_trans ho (oth_trans o1 (oth_trans o2 o3))) B3 (fun i' j' a0' b0' b1' hh => ?_)
      by_cases e : i' = i ∧ j' = j
      · rw [e.1, e.2, v3, v2, up1_same, Int.zero_add]
      · rw [k3 _ (by omega) (by omega), k2 _ (by omega) (by omega), up1_ne _ (by omega)]
        exact hok i' j' a0' b0' b1' (by omega)
/-- what a call that makes a matrix comes to: given, with this answer, or LARGE -/
def made (s : mo_S) (w0 : ax_W) (to R C : Int) (g : Int → Int → Int) (ans : Int) (u : Option Value) (w' : ax_W) : Prop := ∃ s' r', RW w0 w' s' ∧ Bg s' r' ∧ keepN (up s 0 0 0) s' ∧ ((fits R C g ∧ u = some (.int (jI ans)) ∧ given s s' to R C g) ∨ (¬ fits R C g ∧ u = some (.int (jI (-3))) ∧ keepM s s'))
theorem fits_congr {R C : Int} {g h : Int → Int → Int} (e : ∀ i j, 0 ≤ i → i < R → 0 ≤ j → j < C → g i j = h i j) : fits R C g ↔ fits R C h :=
  ⟨fun q i j a b c d => by rw [← e i j a b c d]; exact q i j a b c d, fun q i j a b c d => by rw [e i j a b c d]; exact q i j a b c d⟩
theorem newN_congr {f : Int → Int} {m R C : Int} {g h : Int → Int → Int} (e : ∀ i j, 0 ≤ i → i < R → 0 ≤ j → j < C → g i j = h i j) : newN f m R C g = newN f m R C h := by
  funext x; unfold newN
  by_cases e1 : 36 * m ≤ x ∧ x < 36 * m + 36
  · rw [if_pos e1, if_pos e1]
    by_cases e' : (x - 36 * m) / 6 < R ∧ (x - 36 * m) % 6 < C
    · rw [if_pos e', if_pos e']; exact e _ _ (by omega) e'.1 (by omega) e'.2
    · rw [if_neg e', if_neg e']
  · rw [if_neg e1, if_neg e1]
theorem c_combine {to a x b y : Int} {w : ax_W} {s : mo_S} {r : Int → Int} (hfr : 5 ≤ fr) (hlo : 180 ≤ lo) (hw : RW w0 w s) (hM : MI s) (hB : Bg s r) (t0 : -2147483648 ≤ to) (t1 : to < 2147483648) (a0 : -2147483648 ≤ a) (a1 : a < 2147483648) (b0 : -2147483648 ≤ b) (b1 : b < 2147483648) (x0 : -2147483648 ≤ x) (x1 : x < 2147483648) (y0 : -2147483648 ≤ y) (y1 : y < 2147483648) :
    fin xs fr lo 127 0 (ax_ent [.ref 425, .int (jI to), .int (jI a), .int (jI x), .int (jI b), .int (jI y)] 8) [] w (Ret fun u w' =>
      (¬ ((0 ≤ to ∧ to < 6) ∧ (0 ≤ a ∧ a < 6) ∧ (0 ≤ b ∧ b < 6)) ∧ RW w0 w' (up s 0 0 1) ∧ u = some (.int (jI 0))) ∨
      (((0 ≤ to ∧ to < 6) ∧ (0 ≤ a ∧ a < 6) ∧ (0 ≤ b ∧ b < 6)) ∧ ¬ (s 5 a = s 5 b ∧ s 6 a = s 6 b) ∧ RW w0 w' (up s 0 0 0) ∧ u = some (.int (jI (-2)))) ∨
      (((0 ≤ to ∧ to < 6) ∧ (0 ≤ a ∧ a < 6) ∧ (0 ≤ b ∧ b < 6)) ∧ (s 5 a = s 5 b ∧ s 6 a = s 6 b) ∧ made s w0 to (s 5 a) (s 6 a) (fun i j => s 4 (36 * a + 6 * i + j) * x + s 4 (36 * b + 6 * i + j) * y) 0 u w')) := by
  refine fi_step (pc' := 1) m_Mo_combine rfl rfl ?_
  refine fi_step (pc' := 2) m_Mo_combine rfl rfl ?_
  refine fi_step (pc' := 3) m_Mo_combine rfl rfl ?_
  refine fi_step (pc' := 5) m_Mo_combine rfl rfl ?_
  refine g_4 (p := 8) m_Mo_combine rfl inv_v (by decide) m_Mo_areThere rfl rfl (by omega) (by omega) (Nat.le_of_ble_eq_true rfl) (Nat.le_of_ble_eq_true rfl) (RW_rcv hw _) (c_areThere (by omega) (by omega) hw t0 t1 a0 a1 b0 b1) (fun v w hP => ?_)
  obtain ⟨hw, rfl⟩ := hP
  by_cases hh : (0 ≤ to ∧ to < 6) ∧ (0 ≤ a ∧ a < 6) ∧ (0 ≤ b ∧ b < 6)
  · rw [if_pos hh] at hw
    have hra := hM.1 a hh.2.1.1 hh.2.1.2
    have hca := hM.2.1 a hh.2.1.1 hh.2.1.2
    have hrb := hM.1 b hh.2.2.1 hh.2.2.2
    have hcb := hM.2.1 b hh.2.2.1 hh.2.2.2
    have e4 : up s 0 0 0 4 = s 4 := up_ne _ (by decide) _ _
    have e5 : up s 0 0 0 5 = s 5 := up_ne _ (by decide) _ _
    have e6 : up s 0 0 0 6 = s 6 := up_ne _ (by decide) _ _
    have E5 : ∀ z, up s 0 0 0 5 z = s 5 z := fun z => by rw [e5]
    have E6 : ∀ z, up s 0 0 0 6 z = s 6 z := fun z => by rw [e6]
    have hB0 : Bg (up s 0 0 0) r := Bg_congr hB (up_ne _ (by decide) _ _) (up_ne _ (by decide) _ _) (up_ne _ (by decide) _ _)
    have hM0 : MI (up s 0 0 0) := MI_congr hM ⟨e4, e5, e6⟩
    have F1 := E5 a
    have F2 := E5 b
    have F3 := E6 a
    have F4 := E6 b
    rw [if_pos hh]
    refine s_if_ne (p := 11) m_Mo_combine rfl rfl (by omega) (by omega) (fun hbr => ?_) (fun hbr => False.elim (by omega))
    refine fi_step (pc' := 14) m_Mo_combine rfl rfl ?_
    refine r_get (p := 17) m_Mo_combine rfl rfl (by assumption) rfl ?_
    refine fi_step (pc' := 18) m_Mo_combine rfl rfl ?_
    refine r_ldI (p := 19) m_Mo_combine rfl rfl (by assumption) (by decide) rfl (by decide) (by omega) (by omega) ?_
    refine fi_step (pc' := 20) m_Mo_combine rfl rfl ?_
    refine r_get (p := 23) m_Mo_combine rfl rfl (by assumption) rfl ?_
    refine fi_step (pc' := 25) m_Mo_combine rfl rfl ?_
    refine r_ldI (p := 26) m_Mo_combine rfl rfl (by assumption) (by decide) rfl (by decide) (by omega) (by omega) ?_
    refine s_ic_ne (p := 29) m_Mo_combine rfl rfl (by omega) (by omega) (by omega) (by omega) (fun h1 => ?_) (fun h1 => ?_)
    · refine s_bipush (p := 47) m_Mo_combine rfl rfl rfl ?_
      refine p_reti m_Mo_combine rfl rfl ?_
      exact Or.inr (Or.inl ⟨hh, by omega, hw, rfl⟩)
    · refine fi_step (pc' := 30) m_Mo_combine rfl rfl ?_
      refine r_get (p := 33) m_Mo_combine rfl rfl (by assumption) rfl ?_
      refine fi_step (pc' := 34) m_Mo_combine rfl rfl ?_
      refine r_ldI (p := 35) m_Mo_combine rfl rfl (by assumption) (by decide) rfl (by decide) (by omega) (by omega) ?_
      refine fi_step (pc' := 36) m_Mo_combine rfl rfl ?_
      refine r_get (p := 39) m_Mo_combine rfl rfl (by assumption) rfl ?_
      refine fi_step (pc' := 41) m_Mo_combine rfl rfl ?_
      refine r_ldI (p := 42) m_Mo_combine rfl rfl (by assumption) (by decide) rfl (by decide) (by omega) (by omega) ?_
      refine s_ic_eq (p := 45) m_Mo_combine rfl rfl (by omega) (by omega) (by omega) (by omega) (fun h2 => ?_) (fun h2 => ?_)
      · refine fi_step (pc' := 49) m_Mo_combine rfl rfl ?_
        refine fi_step (pc' := 51) m_Mo_combine rfl rfl ?_
        refine fi_step (pc' := 53) m_Mo_combine rfl rfl ?_
        refine fi_step (pc' := 54) m_Mo_combine rfl rfl ?_
        refine r_get (p := 57) m_Mo_combine rfl rfl (by assumption) rfl ?_
        refine fi_step (pc' := 58) m_Mo_combine rfl rfl ?_
        refine r_ldI (p := 59) m_Mo_combine rfl rfl (by assumption) (by decide) rfl (by decide) (by omega) (by omega) ?_
        refine s_ic_ge (p := 62) m_Mo_combine rfl rfl (by omega) (by omega) (by omega) (by omega) (fun hbr => False.elim (by omega)) (fun hbr => ?_)
        refine fi_step (pc' := 63) m_Mo_combine rfl rfl ?_
        refine fi_step (pc' := 65) m_Mo_combine rfl rfl ?_
        refine combine_loop (S := up s 0 0 0) (by omega) (by omega) hM0 hh.2.1.1 hh.2.1.2 hh.2.2.1 hh.2.2.2 x0 x1 y0 y1 ?_ 100 0 0 w _ r (by omega) (by omega) (by omega) (by omega) (by omega) hw (oth_refl _) hB0 (fun i' j' _ _ _ hh => by omega)
        intro w1 s1 r1 jj hw o1 B1 hv
        have m1 := keepM_oth o1
        have G5 : s1 5 a = s 5 a := by rw [m1.2.1, e5]
        have G6 : s1 6 a = s 6 a := by rw [m1.2.2, e6]
        refine fi_step (pc' := 150) m_Mo_combine rfl rfl ?_
        refine fi_step (pc' := 151) m_Mo_combine rfl rfl ?_
        refine fi_step (pc' := 152) m_Mo_combine rfl rfl ?_
        refine r_get (p := 155) m_Mo_combine rfl rfl (by assumption) rfl ?_
        refine fi_step (pc' := 156) m_Mo_combine rfl rfl ?_
        refine r_ldI (p := 157) m_Mo_combine rfl rfl (by assumption) (by decide) rfl (by decide) (by omega) (by omega) ?_
        refine fi_step (pc' := 158) m_Mo_combine rfl rfl ?_
        refine r_get (p := 161) m_Mo_combine rfl rfl (by assumption) rfl ?_
        refine fi_step (pc' := 162) m_Mo_combine rfl rfl ?_
        refine r_ldI (p := 163) m_Mo_combine rfl rfl (by assumption) (by decide) rfl (by decide) (by omega) (by omega) ?_
        rw [G5, G6]
        refine g_4 (p := 166) m_Mo_combine rfl inv_v (by decide) m_Mo_give rfl rfl (by omega) (by omega) (Nat.le_of_ble_eq_true rfl) (Nat.le_of_ble_eq_true rfl) (RW_rcv hw _) (c_give (by omega) (by omega) hw B1 hh.1.1 hh.1.2 (by omega) (by omega) (by omega) (by omega)) (fun v w hP => ?_)
        obtain ⟨s2, r2, hw, B2, kn, hc⟩ := hP
        rw [e4, F1, F3] at hv
        have kk : keepN (up s 0 0 0) s2 := keepN_trans (keepN_oth o1) kn
        rcases hc with ⟨f, rfl, g5, g6, g4⟩ | ⟨f, rfl, km⟩
        · refine s_if_eq (p := 169) m_Mo_combine rfl rfl (by omega) (by omega) (fun hbr => False.elim (by omega)) (fun hbr => ?_)
          refine fi_step (pc' := 170) m_Mo_combine rfl rfl ?_
          refine fi_step (pc' := 175) m_Mo_combine rfl rfl ?_
          refine p_reti m_Mo_combine rfl rfl ?_
          refine Or.inr (Or.inr ⟨hh, by omega, s2, r2, hw, B2, kk, Or.inl ⟨(fits_congr hv).mp f, rfl, ?_⟩⟩)
          refine ⟨by rw [g5, m1.2.1, e5], by rw [g6, m1.2.2, e6], by rw [g4, m1.1, e4]; exact newN_congr hv⟩
        · refine s_if_eq (p := 169) m_Mo_combine rfl rfl (by omega) (by omega) (fun hbr => ?_) (fun hbr => False.elim (by omega))
          refine s_bipush (p := 175) m_Mo_combine rfl rfl rfl ?_
          refine p_reti m_Mo_combine rfl rfl ?_
          exact Or.inr (Or.inr ⟨hh, by omega, s2, r2, hw, B2, kk, Or.inr ⟨fun q => f ((fits_congr hv).mpr q), rfl, keepM_trans ⟨e4, e5, e6⟩ (keepM_trans m1 km)⟩⟩)
      · refine s_bipush (p := 47) m_Mo_combine rfl rfl rfl ?_
        refine p_reti m_Mo_combine rfl rfl ?_
        exact Or.inr (Or.inl ⟨hh, by omega, hw, rfl⟩)
  · rw [if_neg hh] at hw
    rw [if_neg hh]
    refine s_if_ne (p := 11) m_Mo_combine rfl rfl (by omega) (by omega) (fun hbr => False.elim (by omega)) (fun hbr => ?_)
    refine fi_step (pc' := 12) m_Mo_combine rfl rfl ?_
    refine p_reti m_Mo_combine rfl rfl ?_
    exact Or.inl ⟨hh, hw, rfl⟩
end MAT3
