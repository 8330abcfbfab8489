/-! THE REFERENCE'S MATRICES -/
/-- what isn't a matrix stays -/
def keepO (s s' : mo_S) : Prop := ∀ a, a ≠ 4 → a ≠ 5 → a ≠ 6 → s' a = s a
def keepM (s s' : mo_S) : Prop := s' 4 = s 4 ∧ s' 5 = s 5 ∧ s' 6 = s 6
/-- numbers of six matrices after matrix m has got the numbers g -/
def newN (f : Int → Int) (m r c : Int) (g : Int → Int → Int) : Int → Int := fun x => if 36 * m ≤ x ∧ x < 36 * m + 36 then (if (x - 36 * m) / 6 < r ∧ (x - 36 * m) % 6 < c then g ((x - 36 * m) / 6) ((x - 36 * m) % 6) else 0) else f x
def MI (s : mo_S) : Prop := (∀ m, 0 ≤ m → m < 6 → 1 ≤ s 5 m ∧ s 5 m ≤ 6) ∧ (∀ m, 0 ≤ m → m < 6 → 1 ≤ s 6 m ∧ s 6 m ≤ 6) ∧ ∀ x, 0 ≤ x → x < 216 → -1000000000000000000 < s 4 x ∧ s 4 x < 1000000000000000000
theorem Bg_congr {s s' : mo_S} {r : Int → Int} (h : Bg s r) (h1 : s' 1 = s 1) (h2 : s' 2 = s 2) (h3 : s' 3 = s 3) : Bg s' r := by
  intro k k0 k1
  have := h k k0 k1
  unfold isN Mag at this ⊢
  rw [h1, h2, h3]; exact this
theorem MI_congr {s s' : mo_S} (h : MI s) (hk : keepM s s') : MI s' := by
  unfold MI; rw [hk.1, hk.2.1, hk.2.2]; exact h
theorem keepM_oth {s s' : mo_S} (h : oth s s') : keepM s s' := ⟨h 4 (by decide) (by decide) (by decide), h 5 (by decide) (by decide) (by decide), h 6 (by decide) (by decide) (by decide)⟩
theorem keepM_trans {s s' s'' : mo_S} (h : keepM s s') (h' : keepM s' s'') : keepM s s'' := ⟨h'.1.trans h.1, h'.2.1.trans h.2.1, h'.2.2.trans h.2.2⟩
section MAT
variable {xs : List Int32} {fr lo : Nat} {w0 : ax_W}
theorem clear_loop {m r c : Int} {S : mo_S} (m0 : 0 ≤ m) (m1 : m < 6) : ∀ (f : Nat) (k : Int) (w : ax_W) (s : mo_S), RW w0 w s → 36 * m ≤ k → k ≤ 36 * m + 36 → 36 * m + 36 - k ≤ f → (∀ a, a ≠ 4 → s a = S a) → (∀ x, s 4 x = if 36 * m ≤ x ∧ x < k then 0 else S 4 x) →
    fin xs fr lo 121 20 [some (.ref 425), some (.int (jI m)), some (.int (jI r)), some (.int (jI c)), some (.int (jI k))] [] w (Ret fun v w' => v = none ∧ ∃ s', RW w0 w' s' ∧ (∀ a, a ≠ 4 → s' a = S a) ∧ s' 4 = fun x => if 36 * m ≤ x ∧ x < 36 * m + 36 then 0 else S 4 x) := by
  intro f
  induction f with
  | zero =>
    intro k w s hw h0 h1 hf ho hz
    refine fi_step (pc' := 22) m_Mo_clear rfl rfl ?_
    refine s_bipush (p := 24) m_Mo_clear rfl rfl rfl ?_
    refine fi_step (pc' := 25) m_Mo_clear rfl rfl ?_
    refine s_imul (p := 26) m_Mo_clear rfl rfl ?_
    refine s_bipush (p := 28) m_Mo_clear rfl rfl rfl ?_
    refine s_iadd (p := 29) m_Mo_clear rfl rfl ?_
    refine s_ic_ge (p := 32) m_Mo_clear rfl rfl (by omega) (by omega) (by omega) (by omega) (fun hbr => ?_) (fun hbr => False.elim (by omega))
    refine p_ret m_Mo_clear rfl rfl ?_
    refine ⟨rfl, s, hw, ho, ?_⟩
    funext x; rw [hz x, show k = 36 * m + 36 by omega]
  | succ f ih =>
    intro k w s hw h0 h1 hf ho hz
    refine fi_step (pc' := 22) m_Mo_clear rfl rfl ?_
    refine s_bipush (p := 24) m_Mo_clear rfl rfl rfl ?_
    refine fi_step (pc' := 25) m_Mo_clear rfl rfl ?_
    refine s_imul (p := 26) m_Mo_clear rfl rfl ?_
    refine s_bipush (p := 28) m_Mo_clear rfl rfl rfl ?_
    refine s_iadd (p := 29) m_Mo_clear rfl rfl ?_
    refine s_ic_ge (p := 32) m_Mo_clear rfl rfl (by omega) (by omega) (by omega) (by omega) (fun h => ?_) (fun h => ?_)
    · refine p_ret m_Mo_clear rfl rfl ?_
      refine ⟨rfl, s, hw, ho, ?_⟩
      funext x; rw [hz x, show k = 36 * m + 36 by omega]
    · refine fi_step (pc' := 33) m_Mo_clear rfl rfl ?_
      refine r_get (p := 36) m_Mo_clear rfl rfl (by assumption) rfl ?_
      refine fi_step (pc' := 38) m_Mo_clear rfl rfl ?_
      refine s_lconst (p := 39) (v := 0) m_Mo_clear rfl rfl rfl ?_
      refine r_stL (p := 40) m_Mo_clear rfl rfl (by assumption) (by decide) (fun _ => rfl) (by decide) (by omega) (by omega) (fun w hw => ?_)
      refine s_iinc (p := 43) m_Mo_clear rfl rfl rfl ?_
      refine fi_step (pc' := 20) m_Mo_clear rfl rfl ?_
      refine ih (k + 1) w _ hw (by omega) (by omega) (by omega) (fun a ha => by rw [up_ne _ ha]; exact ho a ha) (fun x => ?_)
      rw [up_same]
      by_cases e : x = k
      · subst e; rw [up1_same, if_pos (by omega)]
      · rw [up1_ne _ e, hz x]
        by_cases e' : 36 * m ≤ x ∧ x < k
        · rw [if_pos e', if_pos (by omega)]
        · rw [if_neg e', if_neg (by omega)]
theorem c_clear {m r c : Int} {w : ax_W} {s : mo_S} (hw : RW w0 w s) (m0 : 0 ≤ m) (m1 : m < 6) :
    fin xs fr lo 121 0 (ax_ent [.ref 425, .int (jI m), .int (jI r), .int (jI c)] 5) [] w (Ret fun v w' => v = none ∧ ∃ s', RW w0 w' s' ∧ keepO s s' ∧ s' 5 = up1 (s 5) m r ∧ s' 6 = up1 (s 6) m c ∧ s' 4 = newN (s 4) m 0 0 (fun _ _ => 0)) := by
  refine fi_step (pc' := 1) m_Mo_clear rfl rfl ?_
  refine r_get (p := 4) m_Mo_clear rfl rfl (by assumption) rfl ?_
  refine fi_step (pc' := 5) m_Mo_clear rfl rfl ?_
  refine fi_step (pc' := 6) m_Mo_clear rfl rfl ?_
  refine r_stI (p := 7) m_Mo_clear rfl rfl (by assumption) (by decide) (fun _ => rfl) (by decide) (by omega) (by omega) (fun w hw => ?_)
  refine fi_step (pc' := 8) m_Mo_clear rfl rfl ?_
  refine r_get (p := 11) m_Mo_clear rfl rfl (by assumption) rfl ?_
  refine fi_step (pc' := 12) m_Mo_clear rfl rfl ?_
  refine fi_step (pc' := 13) m_Mo_clear rfl rfl ?_
  refine r_stI (p := 14) m_Mo_clear rfl rfl (by assumption) (by decide) (fun _ => rfl) (by decide) (by omega) (by omega) (fun w hw => ?_)
  refine s_bipush (p := 16) m_Mo_clear rfl rfl rfl ?_
  refine fi_step (pc' := 17) m_Mo_clear rfl rfl ?_
  refine s_imul (p := 18) m_Mo_clear rfl rfl ?_
  refine fi_step (pc' := 20) m_Mo_clear rfl rfl ?_
  refine fi_mono (clear_loop m0 m1 36 _ w _ hw (by omega) (by omega) (by omega) (fun _ _ => rfl) (fun x => by rw [if_neg (by omega)])) ?_
  rintro o w' ⟨v, rfl, hv, s', g1, g2, g3⟩
  refine ⟨v, rfl, hv, s', g1, fun a h4 h5 h6 => by rw [g2 a h4, up_ne _ h6, up_ne _ h5], by rw [g2 5 (by decide), up_ne _ (by decide), up_same], by rw [g2 6 (by decide), up_same, up_ne _ (by decide)], ?_⟩
  rw [g3]; funext x
  unfold newN
  by_cases e : 36 * m ≤ x ∧ x < 36 * m + 36
  · rw [if_pos e, if_pos e]; split <;> rfl
  · rw [if_neg e, if_neg e, up_ne _ (by decide), up_ne _ (by decide)]
theorem c_make {m r c : Int} {w : ax_W} {s : mo_S} (hfr : 1 ≤ fr) (hlo : 24 ≤ lo) (hw : RW w0 w s) (m0 : -2147483648 ≤ m) (m1 : m < 2147483648) (r0 : -2147483648 ≤ r) (r1 : r < 2147483648) (c0 : -2147483648 ≤ c) (c1 : c < 2147483648) :
    fin xs fr lo 119 0 (ax_ent [.ref 425, .int (jI m), .int (jI r), .int (jI c)] 4) [] w (Ret fun v w' => v = none ∧ ∃ s', RW w0 w' s' ∧ (∀ a, a ≠ 0 → a ≠ 4 → a ≠ 5 → a ≠ 6 → s' a = s a) ∧ (∀ i, i ≠ 0 → s' 0 i = s 0 i) ∧
      if ¬ (0 ≤ m ∧ m < 6) then s' 0 0 = 1 ∧ keepM s s' else if ¬ (1 ≤ r ∧ r ≤ 6 ∧ 1 ≤ c ∧ c ≤ 6) then s' 0 0 = 2 ∧ keepM s s' else s' 0 0 = 0 ∧ s' 5 = up1 (s 5) m r ∧ s' 6 = up1 (s 6) m c ∧ s' 4 = newN (s 4) m 0 0 (fun _ _ => 0)) := by
  have bad : ∀ (t : Int) (w1 : ax_W), (t = 1 ∧ ¬ (0 ≤ m ∧ m < 6)) ∨ (t = 2 ∧ (0 ≤ m ∧ m < 6) ∧ ¬ (1 ≤ r ∧ r ≤ 6 ∧ 1 ≤ c ∧ c ≤ 6)) → RW w0 w1 s → fin xs fr lo 119 40 (ax_ent [.ref 425, .int (jI m), .int (jI r), .int (jI c)] 4) [.int (jI t), .ref 425] w1 (Ret fun v w' => v = none ∧ ∃ s', RW w0 w' s' ∧ (∀ a, a ≠ 0 → a ≠ 4 → a ≠ 5 → a ≠ 6 → s' a = s a) ∧ (∀ i, i ≠ 0 → s' 0 i = s 0 i) ∧
      if ¬ (0 ≤ m ∧ m < 6) then s' 0 0 = 1 ∧ keepM s s' else if ¬ (1 ≤ r ∧ r ≤ 6 ∧ 1 ≤ c ∧ c ≤ 6) then s' 0 0 = 2 ∧ keepM s s' else s' 0 0 = 0 ∧ s' 5 = up1 (s 5) m r ∧ s' 6 = up1 (s 6) m c ∧ s' 4 = newN (s 4) m 0 0 (fun _ _ => 0)) := by
    intro t w1 ht hw
    have e0 : up s 0 0 t 0 0 = t := by rw [up_same, up1_same]
    refine r_put (p := 43) 0 m_Mo_make rfl rfl (by assumption) (r_put0 _ _) rfl (fun w hw => ?_)
    refine fi_step (pc' := 44) m_Mo_make rfl rfl ?_
    refine r_get (p := 47) m_Mo_make rfl rfl (by assumption) rfl ?_
    refine s_if_ne (p := 50) m_Mo_make rfl rfl (by omega) (by omega) (fun hbr => ?_) (fun hbr => False.elim (by omega))
    refine p_ret m_Mo_make rfl rfl ?_
    refine ⟨rfl, _, hw, fun a h _ _ _ => up_ne _ h _ _, fun i hi => by rw [up_same, up1_ne _ hi], ?_⟩
    rcases ht with ⟨rfl, h⟩ | ⟨rfl, h, h'⟩
    · rw [if_pos h]; exact ⟨e0, up_ne _ (by decide) _ _, up_ne _ (by decide) _ _, up_ne _ (by decide) _ _⟩
    · rw [if_neg (by omega), if_pos h']; exact ⟨e0, up_ne _ (by decide) _ _, up_ne _ (by decide) _ _, up_ne _ (by decide) _ _⟩
  refine fi_step (pc' := 1) m_Mo_make rfl rfl ?_
  refine fi_step (pc' := 2) m_Mo_make rfl rfl ?_
  refine fi_step (pc' := 3) m_Mo_make rfl rfl ?_
  refine c_2 (p := 6) m_Mo_make rfl inv_v (by decide) m_Mo_isMatrix rfl rfl (by omega) (by omega) (Nat.le_of_ble_eq_true rfl) (Nat.le_of_ble_eq_true rfl) (RW_rcv hw _) (c_isMatrix m0 m1) ?_
  by_cases hm : 0 ≤ m ∧ m < 6
  · rw [if_pos hm]
    refine s_if_ne (p := 9) m_Mo_make rfl rfl (by omega) (by omega) (fun hbr => ?_) (fun hbr => False.elim (by omega))
    refine fi_step (pc' := 14) m_Mo_make rfl rfl ?_
    refine fi_step (pc' := 15) m_Mo_make rfl rfl ?_
    refine s_ic_lt (p := 18) m_Mo_make rfl rfl (by omega) (by omega) (by omega) (by omega) (fun h1 => ?_) (fun h1 => ?_)
    · refine fi_step (pc' := 36) m_Mo_make rfl rfl ?_
      refine fi_step (pc' := 40) m_Mo_make rfl rfl ?_
      exact bad 2 w (Or.inr ⟨rfl, hm, by omega⟩) hw
    · refine fi_step (pc' := 19) m_Mo_make rfl rfl ?_
      refine s_bipush (p := 21) m_Mo_make rfl rfl rfl ?_
      refine s_ic_gt (p := 24) m_Mo_make rfl rfl (by omega) (by omega) (by omega) (by omega) (fun h2 => ?_) (fun h2 => ?_)
      · refine fi_step (pc' := 36) m_Mo_make rfl rfl ?_
        refine fi_step (pc' := 40) m_Mo_make rfl rfl ?_
        exact bad 2 w (Or.inr ⟨rfl, hm, by omega⟩) hw
      · refine fi_step (pc' := 25) m_Mo_make rfl rfl ?_
        refine fi_step (pc' := 26) m_Mo_make rfl rfl ?_
        refine s_ic_lt (p := 29) m_Mo_make rfl rfl (by omega) (by omega) (by omega) (by omega) (fun h3 => ?_) (fun h3 => ?_)
        · refine fi_step (pc' := 36) m_Mo_make rfl rfl ?_
          refine fi_step (pc' := 40) m_Mo_make rfl rfl ?_
          exact bad 2 w (Or.inr ⟨rfl, hm, by omega⟩) hw
        · refine fi_step (pc' := 30) m_Mo_make rfl rfl ?_
          refine s_bipush (p := 32) m_Mo_make rfl rfl rfl ?_
          refine s_ic_le (p := 35) m_Mo_make rfl rfl (by omega) (by omega) (by omega) (by omega) (fun h4 => ?_) (fun h4 => ?_)
          · have e0 : up s 0 0 0 0 0 = 0 := by rw [up_same, up1_same]
            refine fi_step (pc' := 40) m_Mo_make rfl rfl ?_
            refine r_put (p := 43) 0 m_Mo_make rfl rfl (by assumption) (r_put0 _ _) rfl (fun w hw => ?_)
            refine fi_step (pc' := 44) m_Mo_make rfl rfl ?_
            refine r_get (p := 47) m_Mo_make rfl rfl (by assumption) rfl ?_
            refine s_if_ne (p := 50) m_Mo_make rfl rfl (by omega) (by omega) (fun hbr => False.elim (by omega)) (fun hbr => ?_)
            refine fi_step (pc' := 51) m_Mo_make rfl rfl ?_
            refine fi_step (pc' := 52) m_Mo_make rfl rfl ?_
            refine fi_step (pc' := 53) m_Mo_make rfl rfl ?_
            refine fi_step (pc' := 54) m_Mo_make rfl rfl ?_
            refine g_4 (p := 57) m_Mo_make rfl inv_v (by decide) m_Mo_clear rfl rfl (by omega) (by omega) (Nat.le_of_ble_eq_true rfl) (Nat.le_of_ble_eq_true rfl) (RW_rcv hw _) (c_clear hw hm.1 hm.2) (fun v w hP => ?_)
            obtain ⟨rfl, s', g1, g2, g3, g4, g5⟩ := hP
            refine p_ret m_Mo_make rfl rfl ?_
            refine ⟨rfl, s', g1, fun a h h4 h5 h6 => by rw [g2 a h4 h5 h6, up_ne _ h], fun i hi => by rw [g2 0 (by decide) (by decide) (by decide), up_same, up1_ne _ hi], ?_⟩
            rw [if_neg (by omega), if_neg (by omega)]
            refine ⟨by rw [g2 0 (by decide) (by decide) (by decide)]; exact e0, by rw [g3, up_ne _ (by decide)], by rw [g4, up_ne _ (by decide)], by rw [g5, up_ne _ (by decide)]⟩
          · refine fi_step (pc' := 36) m_Mo_make rfl rfl ?_
            refine fi_step (pc' := 40) m_Mo_make rfl rfl ?_
            exact bad 2 w (Or.inr ⟨rfl, hm, by omega⟩) hw
  · rw [if_neg hm]
    refine s_if_ne (p := 9) m_Mo_make rfl rfl (by omega) (by omega) (fun hbr => False.elim (by omega)) (fun hbr => ?_)
    refine fi_step (pc' := 10) m_Mo_make rfl rfl ?_
    refine fi_step (pc' := 40) m_Mo_make rfl rfl ?_
    exact bad 1 w (Or.inl ⟨rfl, hm⟩) hw
theorem c_put {m i j v : Int} {w : ax_W} {s : mo_S} (hfr : 2 ≤ fr) (hlo : 80 ≤ lo) (hw : RW w0 w s) (hM : MI s) (m0 : -2147483648 ≤ m) (m1 : m < 2147483648) (i0 : -2147483648 ≤ i) (i1 : i < 2147483648) (j0 : -2147483648 ≤ j) (j1 : j < 2147483648) (v0 : -9223372036854775808 ≤ v) (v1 : v < 9223372036854775808) :
    fin xs fr lo 122 0 (ax_ent [.ref 425, .int (jI m), .int (jI i), .int (jI j), .long (jL v)] 6) [] w (Ret fun u w' => u = none ∧ ∃ s', RW w0 w' s' ∧ (∀ a, a ≠ 0 → a ≠ 4 → s' a = s a) ∧ (∀ i, i ≠ 0 → s' 0 i = s 0 i) ∧
      if ¬ ((0 ≤ m ∧ m < 6) ∧ (0 ≤ i ∧ i < s 5 m) ∧ 0 ≤ j ∧ j < s 6 m) then s' 0 0 = 1 ∧ s' 4 = s 4 else if v ≤ -1000000000000000000 ∨ 1000000000000000000 ≤ v then s' 0 0 = 2 ∧ s' 4 = s 4 else s' 0 0 = 0 ∧ s' 4 = up1 (s 4) (36 * m + 6 * i + j) v) := by
  have bad : ∀ (t : Int) (w1 : ax_W), (t = 1 ∧ ¬ ((0 ≤ m ∧ m < 6) ∧ (0 ≤ i ∧ i < s 5 m) ∧ 0 ≤ j ∧ j < s 6 m)) ∨ (t = 2 ∧ ((0 ≤ m ∧ m < 6) ∧ (0 ≤ i ∧ i < s 5 m) ∧ 0 ≤ j ∧ j < s 6 m) ∧ (v ≤ -1000000000000000000 ∨ 1000000000000000000 ≤ v)) → RW w0 w1 s → fin xs fr lo 122 38 (ax_ent [.ref 425, .int (jI m), .int (jI i), .int (jI j), .long (jL v)] 6) [.int (jI t), .ref 425] w1 (Ret fun u w' => u = none ∧ ∃ s', RW w0 w' s' ∧ (∀ a, a ≠ 0 → a ≠ 4 → s' a = s a) ∧ (∀ i, i ≠ 0 → s' 0 i = s 0 i) ∧
      if ¬ ((0 ≤ m ∧ m < 6) ∧ (0 ≤ i ∧ i < s 5 m) ∧ 0 ≤ j ∧ j < s 6 m) then s' 0 0 = 1 ∧ s' 4 = s 4 else if v ≤ -1000000000000000000 ∨ 1000000000000000000 ≤ v then s' 0 0 = 2 ∧ s' 4 = s 4 else s' 0 0 = 0 ∧ s' 4 = up1 (s 4) (36 * m + 6 * i + j) v) := by
    intro t w1 ht hw
    have e0 : up s 0 0 t 0 0 = t := by rw [up_same, up1_same]
    refine r_put (p := 41) 0 m_Mo_put rfl rfl (by assumption) (r_put0 _ _) rfl (fun w hw => ?_)
    refine fi_step (pc' := 42) m_Mo_put rfl rfl ?_
    refine r_get (p := 45) m_Mo_put rfl rfl (by assumption) rfl ?_
    refine s_if_ne (p := 48) m_Mo_put rfl rfl (by omega) (by omega) (fun hbr => ?_) (fun hbr => False.elim (by omega))
    refine p_ret m_Mo_put rfl rfl ?_
    refine ⟨rfl, _, hw, fun a h _ => up_ne _ h _ _, fun i hi => by rw [up_same, up1_ne _ hi], ?_⟩
    rcases ht with ⟨rfl, h⟩ | ⟨rfl, h, h'⟩
    · rw [if_pos h]; exact ⟨e0, up_ne _ (by decide) _ _⟩
    · rw [if_neg (fun q => q h), if_pos h']; exact ⟨e0, up_ne _ (by decide) _ _⟩
  refine fi_step (pc' := 1) m_Mo_put rfl rfl ?_
  refine fi_step (pc' := 2) m_Mo_put rfl rfl ?_
  refine fi_step (pc' := 3) m_Mo_put rfl rfl ?_
  refine fi_step (pc' := 4) m_Mo_put rfl rfl ?_
  refine fi_step (pc' := 5) m_Mo_put rfl rfl ?_
  refine c_4 (p := 8) m_Mo_put rfl inv_v (by decide) m_Mo_isPlace rfl rfl (by omega) (by omega) (Nat.le_of_ble_eq_true rfl) (Nat.le_of_ble_eq_true rfl) (RW_rcv hw _) (c_isPlace hw (by omega) (by omega) m0 m1 i0 i1 j0 j1 hM.1 hM.2.1) ?_
  by_cases hp : (0 ≤ m ∧ m < 6) ∧ (0 ≤ i ∧ i < s 5 m) ∧ 0 ≤ j ∧ j < s 6 m
  · have hr := hM.1 m hp.1.1 hp.1.2
    have hc := hM.2.1 m hp.1.1 hp.1.2
    rw [if_pos hp]
    refine s_if_ne (p := 11) m_Mo_put rfl rfl (by omega) (by omega) (fun hbr => ?_) (fun hbr => False.elim (by omega))
    refine fi_step (pc' := 17) m_Mo_put rfl rfl ?_
    refine s_ldc2 (p := 20) (-1000000000000000000) m_Mo_put rfl rfl rfl ?_
    refine s_lc_le (q := 21) (p := 24) m_Mo_put rfl rfl rfl rfl (by omega) (by omega) (by omega) (by omega) (fun h1 => ?_) (fun h1 => ?_)
    · refine fi_step (pc' := 34) m_Mo_put rfl rfl ?_
      refine fi_step (pc' := 38) m_Mo_put rfl rfl ?_
      exact bad 2 w (Or.inr ⟨rfl, hp, by omega⟩) hw
    · refine fi_step (pc' := 26) m_Mo_put rfl rfl ?_
      refine s_ldc2 (p := 29) 1000000000000000000 m_Mo_put rfl rfl rfl ?_
      refine s_lc_lt (q := 30) (p := 33) m_Mo_put rfl rfl rfl rfl (by omega) (by omega) (by omega) (by omega) (fun h2 => ?_) (fun h2 => ?_)
      · have e0 : up s 0 0 0 0 0 = 0 := by rw [up_same, up1_same]
        refine fi_step (pc' := 38) m_Mo_put rfl rfl ?_
        refine r_put (p := 41) 0 m_Mo_put rfl rfl (by assumption) (r_put0 _ _) rfl (fun w hw => ?_)
        refine fi_step (pc' := 42) m_Mo_put rfl rfl ?_
        refine r_get (p := 45) m_Mo_put rfl rfl (by assumption) rfl ?_
        refine s_if_ne (p := 48) m_Mo_put rfl rfl (by omega) (by omega) (fun hbr => False.elim (by omega)) (fun hbr => ?_)
        refine fi_step (pc' := 49) m_Mo_put rfl rfl ?_
        refine r_get (p := 52) m_Mo_put rfl rfl (by assumption) rfl ?_
        refine s_bipush (p := 54) m_Mo_put rfl rfl rfl ?_
        refine fi_step (pc' := 55) m_Mo_put rfl rfl ?_
        refine s_imul (p := 56) m_Mo_put rfl rfl ?_
        refine s_bipush (p := 58) m_Mo_put rfl rfl rfl ?_
        refine fi_step (pc' := 59) m_Mo_put rfl rfl ?_
        refine s_imul (p := 60) m_Mo_put rfl rfl ?_
        refine s_iadd (p := 61) m_Mo_put rfl rfl ?_
        refine fi_step (pc' := 62) m_Mo_put rfl rfl ?_
        refine s_iadd (p := 63) m_Mo_put rfl rfl ?_
        refine fi_step (pc' := 65) m_Mo_put rfl rfl ?_
        refine r_stL (p := 66) m_Mo_put rfl rfl (by assumption) (by decide) (fun _ => rfl) (by decide) (by omega) (by omega) (fun w hw => ?_)
        refine p_ret m_Mo_put rfl rfl ?_
        refine ⟨rfl, _, hw, fun a h h4 => by rw [up_ne _ h4, up_ne _ h], fun i hi => by rw [up_ne _ (by decide), up_same, up1_ne _ hi], ?_⟩
        rw [if_neg (fun q => q hp), if_neg (by omega)]
        exact ⟨by rw [up_ne _ (by decide)]; exact e0, by rw [up_same, up_ne _ (by decide)]⟩
      · refine fi_step (pc' := 34) m_Mo_put rfl rfl ?_
        refine fi_step (pc' := 38) m_Mo_put rfl rfl ?_
        exact bad 2 w (Or.inr ⟨rfl, hp, by omega⟩) hw
  · rw [if_neg hp]
    refine s_if_ne (p := 11) m_Mo_put rfl rfl (by omega) (by omega) (fun hbr => False.elim (by omega)) (fun hbr => ?_)
    refine fi_step (pc' := 12) m_Mo_put rfl rfl ?_
    refine fi_step (pc' := 38) m_Mo_put rfl rfl ?_
    exact bad 1 w (Or.inl ⟨rfl, hp⟩) hw
theorem c_at {m i j : Int} {w : ax_W} {s : mo_S} (hfr : 2 ≤ fr) (hlo : 80 ≤ lo) (hw : RW w0 w s) (hM : MI s) (m0 : -2147483648 ≤ m) (m1 : m < 2147483648) (i0 : -2147483648 ≤ i) (i1 : i < 2147483648) (j0 : -2147483648 ≤ j) (j1 : j < 2147483648) :
    fin xs fr lo 124 0 (ax_ent [.ref 425, .int (jI m), .int (jI i), .int (jI j)] 4) [] w (Ret fun u w' => RW w0 w' (up s 0 0 (if (0 ≤ m ∧ m < 6) ∧ (0 ≤ i ∧ i < s 5 m) ∧ 0 ≤ j ∧ j < s 6 m then 0 else 1)) ∧ u = some (.long (jL (if (0 ≤ m ∧ m < 6) ∧ (0 ≤ i ∧ i < s 5 m) ∧ 0 ≤ j ∧ j < s 6 m then s 4 (36 * m + 6 * i + j) else 0)))) := by
  refine fi_step (pc' := 1) m_Mo_at rfl rfl ?_
  refine fi_step (pc' := 2) m_Mo_at rfl rfl ?_
  refine fi_step (pc' := 3) m_Mo_at rfl rfl ?_
  refine fi_step (pc' := 4) m_Mo_at rfl rfl ?_
  refine fi_step (pc' := 5) m_Mo_at rfl rfl ?_
  refine c_4 (p := 8) m_Mo_at rfl inv_v (by decide) m_Mo_isPlace rfl rfl (by omega) (by omega) (Nat.le_of_ble_eq_true rfl) (Nat.le_of_ble_eq_true rfl) (RW_rcv hw _) (c_isPlace hw (by omega) (by omega) m0 m1 i0 i1 j0 j1 hM.1 hM.2.1) ?_
  by_cases hp : (0 ≤ m ∧ m < 6) ∧ (0 ≤ i ∧ i < s 5 m) ∧ 0 ≤ j ∧ j < s 6 m
  · have hr := hM.1 m hp.1.1 hp.1.2
    have hc := hM.2.1 m hp.1.1 hp.1.2
    have e0 : up s 0 0 0 0 0 = 0 := by rw [up_same, up1_same]
    rw [if_pos hp, if_pos hp]
    refine s_if_eq (p := 11) m_Mo_at rfl rfl (by omega) (by omega) (fun hbr => False.elim (by omega)) (fun hbr => ?_)
    refine fi_step (pc' := 12) m_Mo_at rfl rfl ?_
    refine fi_step (pc' := 16) m_Mo_at rfl rfl ?_
    refine r_put (p := 19) 0 m_Mo_at rfl rfl (by assumption) (r_put0 _ _) rfl (fun w hw => ?_)
    refine fi_step (pc' := 20) m_Mo_at rfl rfl ?_
    refine r_get (p := 23) m_Mo_at rfl rfl (by assumption) rfl ?_
    refine s_if_le (p := 26) m_Mo_at rfl rfl (by omega) (by omega) (fun hbr => ?_) (fun hbr => False.elim (by omega))
    refine fi_step (pc' := 31) m_Mo_at rfl rfl ?_
    refine fi_step (pc' := 32) m_Mo_at rfl rfl ?_
    refine fi_step (pc' := 33) m_Mo_at rfl rfl ?_
    refine fi_step (pc' := 34) m_Mo_at rfl rfl ?_
    refine c_4 (p := 37) m_Mo_at rfl inv_v (by decide) m_Mo_number rfl rfl (by omega) (by omega) (Nat.le_of_ble_eq_true rfl) (Nat.le_of_ble_eq_true rfl) (RW_rcv hw _) (c_number hw hp.1.1 hp.1.2 (by omega) (by omega) (by omega) (by omega)) ?_
    refine p_retl m_Mo_at rfl rfl ?_
    rw [if_pos hp, up_ne _ (by decide)]
    exact ⟨hw, rfl⟩
  · have e0 : up s 0 0 1 0 0 = 1 := by rw [up_same, up1_same]
    rw [if_neg hp, if_neg hp]
    refine s_if_eq (p := 11) m_Mo_at rfl rfl (by omega) (by omega) (fun hbr => ?_) (fun hbr => False.elim (by omega))
    refine fi_step (pc' := 16) m_Mo_at rfl rfl ?_
    refine r_put (p := 19) 0 m_Mo_at rfl rfl (by assumption) (r_put0 _ _) rfl (fun w hw => ?_)
    refine fi_step (pc' := 20) m_Mo_at rfl rfl ?_
    refine r_get (p := 23) m_Mo_at rfl rfl (by assumption) rfl ?_
    refine s_if_le (p := 26) m_Mo_at rfl rfl (by omega) (by omega) (fun hbr => False.elim (by omega)) (fun hbr => ?_)
    refine s_lconst (p := 27) (v := 0) m_Mo_at rfl rfl rfl ?_
    refine fi_step (pc' := 37) m_Mo_at rfl rfl ?_
    refine p_retl m_Mo_at rfl rfl ?_
    rw [if_neg hp]
    exact ⟨hw, rfl⟩
theorem c_size {m q : Int} {w : ax_W} {s : mo_S} (hfr : 1 ≤ fr) (hlo : 30 ≤ lo) (hw : RW w0 w s) (hM : MI s) (m0 : -2147483648 ≤ m) (m1 : m < 2147483648) (q0 : -2147483648 ≤ q) (q1 : q < 2147483648) :
    fin xs fr lo 126 0 (ax_ent [.ref 425, .int (jI m), .int (jI q)] 3) [] w (Ret fun u w' => RW w0 w' (up s 0 0 0) ∧ u = some (.int (jI (if 0 ≤ m ∧ m < 6 then (if q = 0 then s 5 m else if q = 1 then s 6 m else -1) else -1)))) := by
  refine fi_step (pc' := 1) m_Mo_size rfl rfl ?_
  refine fi_step (pc' := 2) m_Mo_size rfl rfl ?_
  refine r_put (p := 5) 0 m_Mo_size rfl rfl (by assumption) (r_put0 _ _) rfl (fun w hw => ?_)
  refine fi_step (pc' := 6) m_Mo_size rfl rfl ?_
  refine fi_step (pc' := 7) m_Mo_size rfl rfl ?_
  refine c_2 (p := 10) m_Mo_size rfl inv_v (by decide) m_Mo_isMatrix rfl rfl (by omega) (by omega) (Nat.le_of_ble_eq_true rfl) (Nat.le_of_ble_eq_true rfl) (RW_rcv hw _) (c_isMatrix m0 m1) ?_
  by_cases hm : 0 ≤ m ∧ m < 6
  · have hr := hM.1 m hm.1 hm.2
    have hc := hM.2.1 m hm.1 hm.2
    have e5 : up s 0 0 0 5 = s 5 := up_ne _ (by decide) _ _
    have e6 : up s 0 0 0 6 = s 6 := up_ne _ (by decide) _ _
    rw [if_pos hm, if_pos hm]
    refine s_if_ne (p := 13) m_Mo_size rfl rfl (by omega) (by omega) (fun hbr => ?_) (fun hbr => False.elim (by omega))
    refine fi_step (pc' := 18) m_Mo_size rfl rfl ?_
    refine s_if_ne (p := 21) m_Mo_size rfl rfl (by omega) (by omega) (fun h1 => ?_) (fun h1 => ?_)
    · refine fi_step (pc' := 31) m_Mo_size rfl rfl ?_
      refine fi_step (pc' := 32) m_Mo_size rfl rfl ?_
      refine s_ic_ne (p := 35) m_Mo_size rfl rfl (by omega) (by omega) (by omega) (by omega) (fun h2 => ?_) (fun h2 => ?_)
      · refine fi_step (pc' := 45) m_Mo_size rfl rfl ?_
        refine p_reti m_Mo_size rfl rfl ?_
        rw [if_neg h1, if_neg h2]; exact ⟨hw, rfl⟩
      · refine fi_step (pc' := 36) m_Mo_size rfl rfl ?_
        refine r_get (p := 39) m_Mo_size rfl rfl (by assumption) rfl ?_
        refine fi_step (pc' := 40) m_Mo_size rfl rfl ?_
        refine r_ldI (p := 41) m_Mo_size rfl rfl (by assumption) (by decide) rfl (by decide) (by omega) (by omega) ?_
        refine fi_step (pc' := 45) m_Mo_size rfl rfl ?_
        refine p_reti m_Mo_size rfl rfl ?_
        rw [if_neg h1, if_pos h2, e6]; exact ⟨hw, rfl⟩
    · refine fi_step (pc' := 22) m_Mo_size rfl rfl ?_
      refine r_get (p := 25) m_Mo_size rfl rfl (by assumption) rfl ?_
      refine fi_step (pc' := 26) m_Mo_size rfl rfl ?_
      refine r_ldI (p := 27) m_Mo_size rfl rfl (by assumption) (by decide) rfl (by decide) (by omega) (by omega) ?_
      refine fi_step (pc' := 45) m_Mo_size rfl rfl ?_
      refine p_reti m_Mo_size rfl rfl ?_
      rw [if_pos h1, e5]; exact ⟨hw, rfl⟩
  · rw [if_neg hm, if_neg hm]
    refine s_if_ne (p := 13) m_Mo_size rfl rfl (by omega) (by omega) (fun hbr => False.elim (by omega)) (fun hbr => ?_)
    refine fi_step (pc' := 14) m_Mo_size rfl rfl ?_
    refine fi_step (pc' := 45) m_Mo_size rfl rfl ?_
    refine p_reti m_Mo_size rfl rfl ?_
    exact ⟨hw, rfl⟩
theorem c_areThere {a b c : Int} {w : ax_W} {s : mo_S} (hfr : 1 ≤ fr) (hlo : 30 ≤ lo) (hw : RW w0 w s) (a0 : -2147483648 ≤ a) (a1 : a < 2147483648) (b0 : -2147483648 ≤ b) (b1 : b < 2147483648) (c0 : -2147483648 ≤ c) (c1 : c < 2147483648) :
    fin xs fr lo 128 0 (ax_ent [.ref 425, .int (jI a), .int (jI b), .int (jI c)] 4) [] w (Ret fun u w' => RW w0 w' (up s 0 0 (if (0 ≤ a ∧ a < 6) ∧ (0 ≤ b ∧ b < 6) ∧ (0 ≤ c ∧ c < 6) then 0 else 1)) ∧ u = some (.int (jI (if (0 ≤ a ∧ a < 6) ∧ (0 ≤ b ∧ b < 6) ∧ (0 ≤ c ∧ c < 6) then 1 else 0)))) := by
  have bad : ∀ (w1 : ax_W), ¬ ((0 ≤ a ∧ a < 6) ∧ (0 ≤ b ∧ b < 6) ∧ (0 ≤ c ∧ c < 6)) → RW w0 w1 s → fin xs fr lo 128 29 (ax_ent [.ref 425, .int (jI a), .int (jI b), .int (jI c)] 4) [.ref 425] w1 (Ret fun u w' => RW w0 w' (up s 0 0 (if (0 ≤ a ∧ a < 6) ∧ (0 ≤ b ∧ b < 6) ∧ (0 ≤ c ∧ c < 6) then 0 else 1)) ∧ u = some (.int (jI (if (0 ≤ a ∧ a < 6) ∧ (0 ≤ b ∧ b < 6) ∧ (0 ≤ c ∧ c < 6) then 1 else 0)))) := by
    intro w1 h hw
    have e0 : up s 0 0 1 0 0 = 1 := by rw [up_same, up1_same]
    rw [if_neg h, if_neg h]
    refine fi_step (pc' := 30) m_Mo_areThere rfl rfl ?_
    refine r_put (p := 33) 0 m_Mo_areThere rfl rfl (by assumption) (r_put0 _ _) rfl (fun w hw => ?_)
    refine fi_step (pc' := 34) m_Mo_areThere rfl rfl ?_
    refine r_get (p := 37) m_Mo_areThere rfl rfl (by assumption) rfl ?_
    refine s_if_ne (p := 40) m_Mo_areThere rfl rfl (by omega) (by omega) (fun hbr => ?_) (fun hbr => False.elim (by omega))
    refine fi_step (pc' := 45) m_Mo_areThere rfl rfl ?_
    refine p_retb m_Mo_areThere rfl rfl (by first | exact Or.inl rfl | exact Or.inr rfl | omega) ?_
    exact ⟨hw, rfl⟩
  refine fi_step (pc' := 1) m_Mo_areThere rfl rfl ?_
  refine fi_step (pc' := 2) m_Mo_areThere rfl rfl ?_
  refine fi_step (pc' := 3) m_Mo_areThere rfl rfl ?_
  refine c_2 (p := 6) m_Mo_areThere rfl inv_v (by decide) m_Mo_isMatrix rfl rfl (by omega) (by omega) (Nat.le_of_ble_eq_true rfl) (Nat.le_of_ble_eq_true rfl) (RW_rcv hw _) (c_isMatrix a0 a1) ?_
  by_cases ha : 0 ≤ a ∧ a < 6
  · rw [if_pos ha]
    refine s_if_eq (p := 9) m_Mo_areThere rfl rfl (by omega) (by omega) (fun hbr => False.elim (by omega)) (fun hbr => ?_)
    refine fi_step (pc' := 10) m_Mo_areThere rfl rfl ?_
    refine fi_step (pc' := 11) m_Mo_areThere rfl rfl ?_
    refine c_2 (p := 14) m_Mo_areThere rfl inv_v (by decide) m_Mo_isMatrix rfl rfl (by omega) (by omega) (Nat.le_of_ble_eq_true rfl) (Nat.le_of_ble_eq_true rfl) (RW_rcv hw _) (c_isMatrix b0 b1) ?_
    by_cases hb : 0 ≤ b ∧ b < 6
    · rw [if_pos hb]
      refine s_if_eq (p := 17) m_Mo_areThere rfl rfl (by omega) (by omega) (fun hbr => False.elim (by omega)) (fun hbr => ?_)
      refine fi_step (pc' := 18) m_Mo_areThere rfl rfl ?_
      refine fi_step (pc' := 19) m_Mo_areThere rfl rfl ?_
      refine c_2 (p := 22) m_Mo_areThere rfl inv_v (by decide) m_Mo_isMatrix rfl rfl (by omega) (by omega) (Nat.le_of_ble_eq_true rfl) (Nat.le_of_ble_eq_true rfl) (RW_rcv hw _) (c_isMatrix c0 c1) ?_
      by_cases hc : 0 ≤ c ∧ c < 6
      · have e0 : up s 0 0 0 0 0 = 0 := by rw [up_same, up1_same]
        rw [if_pos hc, if_pos ⟨ha, hb, hc⟩, if_pos ⟨ha, hb, hc⟩]
        refine s_if_eq (p := 25) m_Mo_areThere rfl rfl (by omega) (by omega) (fun hbr => False.elim (by omega)) (fun hbr => ?_)
        refine fi_step (pc' := 26) m_Mo_areThere rfl rfl ?_
        refine fi_step (pc' := 30) m_Mo_areThere rfl rfl ?_
        refine r_put (p := 33) 0 m_Mo_areThere rfl rfl (by assumption) (r_put0 _ _) rfl (fun w hw => ?_)
        refine fi_step (pc' := 34) m_Mo_areThere rfl rfl ?_
        refine r_get (p := 37) m_Mo_areThere rfl rfl (by assumption) rfl ?_
        refine s_if_ne (p := 40) m_Mo_areThere rfl rfl (by omega) (by omega) (fun hbr => False.elim (by omega)) (fun hbr => ?_)
        refine fi_step (pc' := 41) m_Mo_areThere rfl rfl ?_
        refine fi_step (pc' := 45) m_Mo_areThere rfl rfl ?_
        refine p_retb m_Mo_areThere rfl rfl (by first | exact Or.inl rfl | exact Or.inr rfl | omega) ?_
        exact ⟨hw, rfl⟩
      · rw [if_neg hc]
        refine s_if_eq (p := 25) m_Mo_areThere rfl rfl (by omega) (by omega) (fun hbr => ?_) (fun hbr => False.elim (by omega))
        exact bad w (fun q => hc q.2.2) hw
    · rw [if_neg hb]
      refine s_if_eq (p := 17) m_Mo_areThere rfl rfl (by omega) (by omega) (fun hbr => ?_) (fun hbr => False.elim (by omega))
      exact bad w (fun q => hb q.2.1) hw
  · rw [if_neg ha]
    refine s_if_eq (p := 9) m_Mo_areThere rfl rfl (by omega) (by omega) (fun hbr => ?_) (fun hbr => False.elim (by omega))
    exact bad w (fun q => ha q.1) hw
end MAT
