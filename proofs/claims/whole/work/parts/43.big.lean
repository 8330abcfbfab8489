/-! copies, comparisons, sums of the reference's numbers -/
section BIG2
variable {xs : List Int32} {fr lo : Nat} {w0 : ax_W}
theorem bigCopy_loop {k u : Int} {n : Nat} (k0 : 0 ≤ k) (k1 : k < 277) (u0 : 0 ≤ u) (u1 : u < 277) (hku : k ≠ u) (hn : n ≤ 140) : ∀ (c i : Nat) (w : ax_W) (s : mo_S), RW w0 w s → i + c = n → s 2 u = n → (∀ j : Nat, j < i → s 1 (140 * k + j) = s 1 (140 * u + j)) →
    fin xs fr lo 153 26 [some (.ref 425), some (.int (jI k)), some (.int (jI u)), some (.int (jI i))] [] w (Ret fun v w' => v = none ∧ ∃ s', RW w0 w' s' ∧ chP k s s' ∧ s' 2 = s 2 ∧ s' 3 = s 3 ∧ ∀ j : Nat, j < n → s' 1 (140 * k + j) = s 1 (140 * u + j)) := by
  intro c
  induction c with
  | zero =>
    intro i w s hw hi h2 he
    refine fi_step (pc' := 27) m_Mo_bigCopy rfl rfl ?_
    refine fi_step (pc' := 28) m_Mo_bigCopy rfl rfl ?_
    refine r_get (p := 31) m_Mo_bigCopy rfl rfl (by assumption) rfl ?_
    refine fi_step (pc' := 32) m_Mo_bigCopy rfl rfl ?_
    refine r_ldI (p := 33) m_Mo_bigCopy rfl rfl (by assumption) (by decide) rfl (by decide) (by omega) (by omega) ?_
    refine s_ic_ge (p := 36) m_Mo_bigCopy rfl rfl (by omega) (by omega) (by omega) (by omega) (fun hbr => ?_) (fun hbr => False.elim (by omega))
    refine p_ret m_Mo_bigCopy rfl rfl ?_
    exact ⟨rfl, s, hw, chP_refl k s, rfl, rfl, fun j hj => he j (by omega)⟩
  | succ c ih =>
    intro i w s hw hi h2 he
    refine fi_step (pc' := 27) m_Mo_bigCopy rfl rfl ?_
    refine fi_step (pc' := 28) m_Mo_bigCopy rfl rfl ?_
    refine r_get (p := 31) m_Mo_bigCopy rfl rfl (by assumption) rfl ?_
    refine fi_step (pc' := 32) m_Mo_bigCopy rfl rfl ?_
    refine r_ldI (p := 33) m_Mo_bigCopy rfl rfl (by assumption) (by decide) rfl (by decide) (by omega) (by omega) ?_
    refine s_ic_ge (p := 36) m_Mo_bigCopy rfl rfl (by omega) (by omega) (by omega) (by omega) (fun hbr => False.elim (by omega)) (fun hbr => ?_)
    refine fi_step (pc' := 37) m_Mo_bigCopy rfl rfl ?_
    refine r_get (p := 40) m_Mo_bigCopy rfl rfl (by assumption) rfl ?_
    refine s_sipush (p := 43) m_Mo_bigCopy rfl rfl rfl ?_
    refine fi_step (pc' := 44) m_Mo_bigCopy rfl rfl ?_
    refine s_imul (p := 45) m_Mo_bigCopy rfl rfl ?_
    refine fi_step (pc' := 46) m_Mo_bigCopy rfl rfl ?_
    refine s_iadd (p := 47) m_Mo_bigCopy rfl rfl ?_
    refine fi_step (pc' := 48) m_Mo_bigCopy rfl rfl ?_
    refine r_get (p := 51) m_Mo_bigCopy rfl rfl (by assumption) rfl ?_
    refine s_sipush (p := 54) m_Mo_bigCopy rfl rfl rfl ?_
    refine fi_step (pc' := 55) m_Mo_bigCopy rfl rfl ?_
    refine s_imul (p := 56) m_Mo_bigCopy rfl rfl ?_
    refine fi_step (pc' := 57) m_Mo_bigCopy rfl rfl ?_
    refine s_iadd (p := 58) m_Mo_bigCopy rfl rfl ?_
    refine r_ldI (p := 59) m_Mo_bigCopy rfl rfl (by assumption) (by decide) rfl (by decide) (by omega) (by omega) ?_
    refine r_stI (p := 60) m_Mo_bigCopy rfl rfl (by assumption) (by decide) (fun _ => rfl) (by decide) (by omega) (by omega) (fun w hw => ?_)
    refine s_iinc (p := 63) m_Mo_bigCopy rfl rfl rfl ?_
    refine fi_step (pc' := 26) m_Mo_bigCopy rfl rfl ?_
    have hu : ∀ j : Nat, j < 140 → up s 1 (140 * k + i) (s 1 (140 * u + i)) 1 (140 * u + j) = s 1 (140 * u + j) := by
      intro j hj; rw [up_same, up1_ne _ (by omega)]
    refine fi_mono (ih (i + 1) w _ hw (by omega) (by rw [up_ne s (by decide)]; exact h2) ?_) ?_
    · intro j hj
      rw [hu j (by omega), up_same]
      by_cases e : j = i
      · subst e; rw [up1_same]
      · rw [up1_ne _ (by omega)]; exact he j (by omega)
    · rintro o w' ⟨v, rfl, hv, s', h1, h2', h3, h4, h5⟩
      refine ⟨v, rfl, hv, s', h1, chP_trans (chP_up1 s _ (by omega) (by omega)) h2', by rw [h3, up_ne s (by decide)], by rw [h4, up_ne s (by decide)], fun j hj => ?_⟩
      rw [h5 j hj, hu j (by omega)]
theorem c_bigCopy {k u : Int} {w : ax_W} {s : mo_S} {r : Int → Int} (hw : RW w0 w s) (hB : Bg s r) (k0 : 0 ≤ k) (k1 : k < 277) (u0 : 0 ≤ u) (u1 : u < 277) (hku : k ≠ u) :
    fin xs fr lo 153 0 (ax_ent [.ref 425, .int (jI k), .int (jI u)] 4) [] w (Ret fun v w' => v = none ∧ ∃ s', RW w0 w' s' ∧ oth s s' ∧ Bg s' (up1 r k (r u))) := by
  obtain ⟨n, m, ⟨h1, h2, h3, h4, h5⟩, h6⟩ := hB u u0 u1
  have h3u : 0 ≤ s 3 u ∧ s 3 u ≤ 1 := by rcases h6 with ⟨h, _⟩ | ⟨h, _⟩ <;> omega
  have huk : ¬ u = k := fun e => hku e.symm
  have eL : up s 3 k (s 3 u) 2 u = s 2 u := by rw [up_ne s (by decide)]
  refine fi_step (pc' := 1) m_Mo_bigCopy rfl rfl ?_
  refine r_get (p := 4) m_Mo_bigCopy rfl rfl (by assumption) rfl ?_
  refine fi_step (pc' := 5) m_Mo_bigCopy rfl rfl ?_
  refine fi_step (pc' := 6) m_Mo_bigCopy rfl rfl ?_
  refine r_get (p := 9) m_Mo_bigCopy rfl rfl (by assumption) rfl ?_
  refine fi_step (pc' := 10) m_Mo_bigCopy rfl rfl ?_
  refine r_ldB (p := 11) m_Mo_bigCopy rfl rfl (by assumption) (by decide) rfl (by decide) (by omega) (by omega) ?_
  refine r_stB (p := 12) m_Mo_bigCopy rfl rfl (by assumption) (by decide) (fun _ => rfl) (by decide) (by omega) (by omega) (by omega) (by omega) (fun w hw => ?_)
  refine fi_step (pc' := 13) m_Mo_bigCopy rfl rfl ?_
  refine r_get (p := 16) m_Mo_bigCopy rfl rfl (by assumption) rfl ?_
  refine fi_step (pc' := 17) m_Mo_bigCopy rfl rfl ?_
  refine fi_step (pc' := 18) m_Mo_bigCopy rfl rfl ?_
  refine r_get (p := 21) m_Mo_bigCopy rfl rfl (by assumption) rfl ?_
  refine fi_step (pc' := 22) m_Mo_bigCopy rfl rfl ?_
  refine r_ldI (p := 23) m_Mo_bigCopy rfl rfl (by assumption) (by decide) rfl (by decide) (by omega) (by omega) ?_
  refine r_stI (p := 24) m_Mo_bigCopy rfl rfl (by assumption) (by decide) (fun _ => rfl) (by decide) (by omega) (by omega) (fun w hw => ?_)
  refine fi_step (pc' := 25) m_Mo_bigCopy rfl rfl ?_
  refine fi_step (pc' := 26) m_Mo_bigCopy rfl rfl ?_
  refine fi_mono (bigCopy_loop k0 k1 u0 u1 hku h2 n 0 w _ hw (by omega) ?_ (fun j hj => by omega)) ?_
  · rw [up_same, up1_ne _ huk, eL, h1]
  · rintro o w' ⟨v, rfl, hv, s', g1, g2, g3, g4, g5⟩
    have gc := chP_trans (chP_trans (chP_up3 k s (s 3 u)) (chP_up2 k _ (up s 3 k (s 3 u) 2 u))) g2
    have e1 : ∀ j : Nat, j < n → s' 1 (140 * k + j) = s 1 (140 * u + j) := fun j hj => by
      rw [g5 j hj, up_ne _ (by decide), up_ne _ (by decide)]
    refine ⟨v, rfl, hv, s', g1, chP_oth gc, Bg_ch hB gc ⟨n, m, ⟨?_, h2, digB_congr h3 e1, fun j hj => ?_, ?_⟩, ?_⟩⟩
    · rw [g3, up_same, up1_same, eL, h1]
    · rw [e1 j (by omega)]; exact h4 j hj
    · rw [h5]; exact (dvB_congr e1).symm
    · rw [g4, up_ne _ (by decide), up_same, up1_same]; exact h6
theorem bigSizes_loop {k u : Int} {n : Nat} {m m' : Int} {w : ax_W} {s : mo_S} (hfr : 1 ≤ fr) (hlo : 22 ≤ lo) (hw : RW w0 w s) (k0 : 0 ≤ k) (k1 : k < 277) (u0 : 0 ≤ u) (u1 : u < 277) (hk : Mag s k n m) (hu : Mag s u n m') : ∀ (t : Nat), t ≤ n → (∀ j : Nat, t ≤ j → j < n → s 1 (140 * k + j) = s 1 (140 * u + j)) →
    fin xs fr lo 137 45 [some (.ref 425), some (.int (jI k)), some (.int (jI u)), some (.int (jI ((t : Int) - 1)))] [] w (Same (.int (jI (if m < m' then -1 else if m = m' then 0 else 1))) w) := by
  have ⟨k2, k3, k4, k5, k6⟩ := hk
  have ⟨u2, u3, u4, u5, u6⟩ := hu
  intro t
  induction t with
  | zero =>
    intro ht he
    have : m = m' := by rw [k6, u6]; exact dvB_congr (fun i hi => he i (by omega) hi)
    rw [if_neg (by omega), if_pos this]
    refine fi_step (pc' := 46) m_Mo_bigSizes rfl rfl ?_
    refine s_if_lt (p := 49) m_Mo_bigSizes rfl rfl (by omega) (by omega) (fun hbr => ?_) (fun hbr => False.elim (by omega))
    refine fi_step (pc' := 71) m_Mo_bigSizes rfl rfl ?_
    refine s_if_ge (p := 74) m_Mo_bigSizes rfl rfl (by omega) (by omega) (fun hbr => False.elim (by omega)) (fun hbr => ?_)
    refine fi_step (pc' := 75) m_Mo_bigSizes rfl rfl ?_
    refine fi_step (pc' := 98) m_Mo_bigSizes rfl rfl ?_
    exact s_reti m_Mo_bigSizes rfl rfl (by omega)
  | succ t ih =>
    intro ht he
    have q1 := k4 t (by omega)
    have q2 := u4 t (by omega)
    rw [show ((t + 1 : Nat) : Int) - 1 = (t : Int) by omega]
    refine fi_step (pc' := 46) m_Mo_bigSizes rfl rfl ?_
    refine s_if_lt (p := 49) m_Mo_bigSizes rfl rfl (by omega) (by omega) (fun hbr => False.elim (by omega)) (fun hbr => ?_)
    refine fi_step (pc' := 50) m_Mo_bigSizes rfl rfl ?_
    refine fi_step (pc' := 51) m_Mo_bigSizes rfl rfl ?_
    refine fi_step (pc' := 52) m_Mo_bigSizes rfl rfl ?_
    refine c_3 (p := 55) m_Mo_bigSizes rfl inv_v (by decide) m_Mo_bigAt rfl rfl (by omega) (by omega) (Nat.le_of_ble_eq_true rfl) (Nat.le_of_ble_eq_true rfl) (RW_rcv hw _) (c_bigAt hw k0 k1 (by omega) (by omega) (by omega) (by omega)) ?_
    refine fi_step (pc' := 56) m_Mo_bigSizes rfl rfl ?_
    refine fi_step (pc' := 57) m_Mo_bigSizes rfl rfl ?_
    refine fi_step (pc' := 58) m_Mo_bigSizes rfl rfl ?_
    refine c_3 (p := 61) m_Mo_bigSizes rfl inv_v (by decide) m_Mo_bigAt rfl rfl (by omega) (by omega) (Nat.le_of_ble_eq_true rfl) (Nat.le_of_ble_eq_true rfl) (RW_rcv hw _) (c_bigAt hw u0 u1 (by omega) (by omega) (by omega) (by omega)) ?_
    rw [if_pos (by omega), if_pos (by omega)]
    refine s_ic_ne (p := 64) m_Mo_bigSizes rfl rfl (by omega) (by omega) (by omega) (by omega) (fun h => ?_) (fun h => ?_)
    · refine fi_step (pc' := 71) m_Mo_bigSizes rfl rfl ?_
      refine s_if_ge (p := 74) m_Mo_bigSizes rfl rfl (by omega) (by omega) (fun hbr => ?_) (fun hbr => False.elim (by omega))
      refine fi_step (pc' := 79) m_Mo_bigSizes rfl rfl ?_
      refine fi_step (pc' := 80) m_Mo_bigSizes rfl rfl ?_
      refine fi_step (pc' := 81) m_Mo_bigSizes rfl rfl ?_
      refine c_3 (p := 84) m_Mo_bigSizes rfl inv_v (by decide) m_Mo_bigAt rfl rfl (by omega) (by omega) (Nat.le_of_ble_eq_true rfl) (Nat.le_of_ble_eq_true rfl) (RW_rcv hw _) (c_bigAt hw k0 k1 (by omega) (by omega) (by omega) (by omega)) ?_
      refine fi_step (pc' := 85) m_Mo_bigSizes rfl rfl ?_
      refine fi_step (pc' := 86) m_Mo_bigSizes rfl rfl ?_
      refine fi_step (pc' := 87) m_Mo_bigSizes rfl rfl ?_
      refine c_3 (p := 90) m_Mo_bigSizes rfl inv_v (by decide) m_Mo_bigAt rfl rfl (by omega) (by omega) (Nat.le_of_ble_eq_true rfl) (Nat.le_of_ble_eq_true rfl) (RW_rcv hw _) (c_bigAt hw u0 u1 (by omega) (by omega) (by omega) (by omega)) ?_
      rw [if_pos (show (t : Int) < s 2 k by omega), if_pos (show (t : Int) < s 2 u by omega)]
      refine s_ic_ge (p := 93) m_Mo_bigSizes rfl rfl (by omega) (by omega) (by omega) (by omega) (fun g => ?_) (fun g => ?_)
      · have := dvB_cmp (by decide) u4 k4 (show t < n by omega) (fun j h1 h2 => (he j (by omega) h2).symm) (by omega)
        rw [if_neg (by omega), if_neg (by omega)]
        refine fi_step (pc' := 98) m_Mo_bigSizes rfl rfl ?_
        exact s_reti m_Mo_bigSizes rfl rfl (by omega)
      · have := dvB_cmp (by decide) k4 u4 (show t < n by omega) (fun j h1 h2 => he j (by omega) h2) (by omega)
        rw [if_pos (by omega)]
        refine fi_step (pc' := 94) m_Mo_bigSizes rfl rfl ?_
        refine fi_step (pc' := 98) m_Mo_bigSizes rfl rfl ?_
        exact s_reti m_Mo_bigSizes rfl rfl (by omega)
    · refine s_iinc (p := 67) m_Mo_bigSizes rfl rfl rfl ?_
      refine fi_step (pc' := 45) m_Mo_bigSizes rfl rfl ?_
      exact ih (by omega) (fun j h1 h2 => by
        by_cases e : j = t
        · subst e; exact h
        · exact he j (by omega) h2)
theorem c_bigSizes {k u : Int} {n n' : Nat} {m m' : Int} {w : ax_W} {s : mo_S} (hfr : 1 ≤ fr) (hlo : 22 ≤ lo) (hw : RW w0 w s) (k0 : 0 ≤ k) (k1 : k < 277) (u0 : 0 ≤ u) (u1 : u < 277) (hk : Mag s k n m) (hu : Mag s u n' m') :
    fin xs fr lo 137 0 (ax_ent [.ref 425, .int (jI k), .int (jI u)] 4) [] w (Same (.int (jI (if m < m' then -1 else if m = m' then 0 else 1))) w) := by
  have ⟨k2, k3, k4, k5, k6⟩ := hk
  have ⟨u2, u3, u4, u5, u6⟩ := hu
  refine fi_step (pc' := 1) m_Mo_bigSizes rfl rfl ?_
  refine r_get (p := 4) m_Mo_bigSizes rfl rfl (by assumption) rfl ?_
  refine fi_step (pc' := 5) m_Mo_bigSizes rfl rfl ?_
  refine r_ldI (p := 6) m_Mo_bigSizes rfl rfl (by assumption) (by decide) rfl (by decide) (by omega) (by omega) ?_
  refine fi_step (pc' := 7) m_Mo_bigSizes rfl rfl ?_
  refine r_get (p := 10) m_Mo_bigSizes rfl rfl (by assumption) rfl ?_
  refine fi_step (pc' := 11) m_Mo_bigSizes rfl rfl ?_
  refine r_ldI (p := 12) m_Mo_bigSizes rfl rfl (by assumption) (by decide) rfl (by decide) (by omega) (by omega) ?_
  refine s_ic_eq (p := 15) m_Mo_bigSizes rfl rfl (by omega) (by omega) (by omega) (by omega) (fun h => ?_) (fun h => ?_)
  · have e : n = n' := by omega
    subst e
    refine fi_step (pc' := 37) m_Mo_bigSizes rfl rfl ?_
    refine r_get (p := 40) m_Mo_bigSizes rfl rfl (by assumption) rfl ?_
    refine fi_step (pc' := 41) m_Mo_bigSizes rfl rfl ?_
    refine r_ldI (p := 42) m_Mo_bigSizes rfl rfl (by assumption) (by decide) rfl (by decide) (by omega) (by omega) ?_
    refine fi_step (pc' := 43) m_Mo_bigSizes rfl rfl ?_
    refine s_isub (p := 44) m_Mo_bigSizes rfl rfl ?_
    refine fi_step (pc' := 45) m_Mo_bigSizes rfl rfl ?_
    rw [k2]
    exact bigSizes_loop hfr hlo hw k0 k1 u0 u1 hk hu n (by omega) (fun j h1 h2 => by omega)
  · have big : ∀ {a b : Int} {p q : Nat} {x y : Int}, Mag s a p x → Mag s b q y → p < q → x < y := by
      intro a b p q x y h1 h2 h3
      obtain ⟨q, rfl⟩ : ∃ q', q = q' + 1 := ⟨q - 1, by omega⟩
      have := Mag_lt h1; have := Mag_ge h2; have := pow_mono (B := 16777216) (by decide) (show p ≤ q by omega); omega
    refine fi_step (pc' := 16) m_Mo_bigSizes rfl rfl ?_
    refine r_get (p := 19) m_Mo_bigSizes rfl rfl (by assumption) rfl ?_
    refine fi_step (pc' := 20) m_Mo_bigSizes rfl rfl ?_
    refine r_ldI (p := 21) m_Mo_bigSizes rfl rfl (by assumption) (by decide) rfl (by decide) (by omega) (by omega) ?_
    refine fi_step (pc' := 22) m_Mo_bigSizes rfl rfl ?_
    refine r_get (p := 25) m_Mo_bigSizes rfl rfl (by assumption) rfl ?_
    refine fi_step (pc' := 26) m_Mo_bigSizes rfl rfl ?_
    refine r_ldI (p := 27) m_Mo_bigSizes rfl rfl (by assumption) (by decide) rfl (by decide) (by omega) (by omega) ?_
    refine s_ic_ge (p := 30) m_Mo_bigSizes rfl rfl (by omega) (by omega) (by omega) (by omega) (fun g => ?_) (fun g => ?_)
    · have := big hu hk (by omega)
      rw [if_neg (by omega), if_neg (by omega)]
      refine fi_step (pc' := 35) m_Mo_bigSizes rfl rfl ?_
      exact s_reti m_Mo_bigSizes rfl rfl (by omega)
    · have := big hk hu (by omega)
      rw [if_pos (by omega)]
      refine fi_step (pc' := 31) m_Mo_bigSizes rfl rfl ?_
      refine fi_step (pc' := 35) m_Mo_bigSizes rfl rfl ?_
      exact s_reti m_Mo_bigSizes rfl rfl (by omega)
/-- a number's digits, with 0 behind them -/
def pad (s : mo_S) (k : Int) : Int → Int := fun i => if i < s 2 k then s 1 (140 * k + i) else 0
theorem dvB_pad {s : mo_S} {k : Int} {n : Nat} (hn : s 2 k = n) : ∀ {N : Nat}, n ≤ N → dvB 16777216 (pad s k) 0 N = dvB 16777216 (s 1) (140 * k) n := by
  intro N h
  obtain ⟨d, rfl⟩ := Nat.exists_eq_add_of_le h
  rw [dvB_split, dvB_congr (f := pad s k) (o := 0) (g := s 1) (p := 140 * k) (n := n) (fun i hi => by rw [pad, if_pos (by omega)]; simp)]
  have : dvB 16777216 (pad s k) (0 + (n : Int)) d = dvB 16777216 (fun _ => 0) 0 d := dvB_congr (fun i hi => by rw [pad, if_neg (by omega)])
  have z : ∀ d : Nat, dvB 16777216 (fun _ => 0) 0 d = 0 := by
    intro d; induction d with
    | zero => rfl
    | succ d ih => rw [dvB_succ, ih]; simp
  rw [this, z]; simp
theorem pad_dig {s : mo_S} {k : Int} {n : Nat} (hn : s 2 k = n) (hd : digB 16777216 (s 1) (140 * k) n) {i : Int} (h0 : 0 ≤ i) : 0 ≤ pad s k i ∧ pad s k i < 16777216 := by
  unfold pad
  split
  · obtain ⟨j, rfl⟩ := Int.eq_ofNat_of_zero_le h0; exact hd j (by omega)
  · omega
theorem dvB_top {B : Int} (hB : 0 < B) {f : Int → Int} {o : Int} {n : Nat} (h : digB B f o (n + 1)) (hge : B ^ n ≤ dvB B f o (n + 1)) : f (o + n) ≠ 0 := by
  intro e
  rw [dvB_succ, e] at hge
  have := dvB_lt hB (digB_mono h (Nat.le_succ n))
  omega
theorem bigMore_loop {k u : Int} {n n' N : Nat} {m m' : Int} {s0 : mo_S} (hfr : 1 ≤ fr) (hlo : 22 ≤ lo) (k0 : 0 ≤ k) (k1 : k < 277) (u0 : 0 ≤ u) (u1 : u < 277) (hku : k ≠ u) (hk : Mag s0 k n m) (hu : Mag s0 u n' m') (hN : N = if n > n' then n else n') (hroom : m + m' < rm 140) :
    ∀ (c i : Nat) (cy : Int) (y : Option Value) (w : ax_W) (s : mo_S), RW w0 w s → i + c = N → chP k s0 s → s 2 k = n → s 3 = s0 3 → (∀ j : Nat, i ≤ j → s 1 (140 * k + j) = s0 1 (140 * k + j)) → digB 16777216 (s 1) (140 * k) i → 0 ≤ cy → cy ≤ 1 → dvB 16777216 (s 1) (140 * k) i + cy * 16777216 ^ i = dvB 16777216 (pad s0 k) 0 i + dvB 16777216 (pad s0 u) 0 i →
    fin xs fr lo 135 37 [some (.ref 425), some (.int (jI k)), some (.int (jI u)), some (.int (jI N)), some (.int (jI cy)), some (.int (jI i)), y] [] w (Ret fun v w' => v = none ∧ ∃ s' n1, RW w0 w' s' ∧ chP k s0 s' ∧ s' 3 = s0 3 ∧ Mag s' k n1 (m + m')) := by
  have ⟨k2, k3, k4, k5, k6⟩ := hk
  have ⟨u2, u3, u4, u5, u6⟩ := hu
  have hN1 : n ≤ N ∧ n' ≤ N ∧ N ≤ 140 ∧ (N = n ∨ N = n') := by split at hN <;> omega
  intro c
  induction c with
  | zero =>
    intro i cy y w s hw hi hc h2 h3 hs hd c0 c1 hinv
    have : i = N := by omega
    subst this
    rw [dvB_pad k2 hN1.1, dvB_pad u2 hN1.2.1] at hinv
    have hinv' : dvB 16777216 (s 1) (140 * k) i + cy * 16777216 ^ i = m + m' := by rw [k6, u6]; exact hinv
    have hmn := Mag_nn hk
    have hun := Mag_nn hu
    refine fi_step (pc' := 39) m_Mo_bigMore rfl rfl ?_
    refine fi_step (pc' := 40) m_Mo_bigMore rfl rfl ?_
    refine s_ic_ge (p := 43) m_Mo_bigMore rfl rfl (by omega) (by omega) (by omega) (by omega) (fun hbr => ?_) (fun hbr => False.elim (by omega))
    refine fi_step (pc' := 95) m_Mo_bigMore rfl rfl ?_
    refine r_get (p := 98) m_Mo_bigMore rfl rfl (by assumption) rfl ?_
    refine fi_step (pc' := 99) m_Mo_bigMore rfl rfl ?_
    refine fi_step (pc' := 100) m_Mo_bigMore rfl rfl ?_
    refine r_stI (p := 101) m_Mo_bigMore rfl rfl (by assumption) (by decide) (fun _ => rfl) (by decide) (by omega) (by omega) (fun w hw => ?_)
    refine fi_step (pc' := 103) m_Mo_bigMore rfl rfl ?_
    refine s_if_le (p := 106) m_Mo_bigMore rfl rfl (by omega) (by omega) (fun h => ?_) (fun h => ?_)
    · have : cy = 0 := by omega
      subst this
      refine p_ret m_Mo_bigMore rfl rfl ?_
      refine ⟨rfl, _, i, hw, chP_trans hc (chP_up2 k s _), by rw [up_ne s (by decide)]; exact h3, ?_⟩
      refine ⟨by rw [up_same, up1_same], hN1.2.2.1, by rw [up_ne s (by decide)]; exact hd, fun j hj => ?_, ?_⟩
      · subst hj
        rw [up_ne s (by decide)]
        refine dvB_top (by decide) hd ?_
        rcases hN1.2.2.2 with e | e
        · rw [← e] at hk; have := Mag_ge hk; omega
        · rw [← e] at hu; have := Mag_ge hu; omega
      · rw [up_ne s (by decide)]; show m + m' = dvB 16777216 (s 1) (140 * k) i; omega
    · have : cy = 1 := by omega
      subst this
      have hd0 := dvB_nonneg (B := 16777216) (by decide) (f := s 1) (o := 140 * k) (n := i) (fun j hj => (hd j hj).1)
      have hlt : i < 140 := by
        rcases Nat.lt_or_ge i 140 with h' | h'
        · exact h'
        · have := rm_le h'; omega
      refine fi_step (pc' := 107) m_Mo_bigMore rfl rfl ?_
      refine r_get (p := 110) m_Mo_bigMore rfl rfl (by assumption) rfl ?_
      refine s_sipush (p := 113) m_Mo_bigMore rfl rfl rfl ?_
      refine fi_step (pc' := 114) m_Mo_bigMore rfl rfl ?_
      refine s_imul (p := 115) m_Mo_bigMore rfl rfl ?_
      refine fi_step (pc' := 116) m_Mo_bigMore rfl rfl ?_
      refine s_iadd (p := 117) m_Mo_bigMore rfl rfl ?_
      refine fi_step (pc' := 119) m_Mo_bigMore rfl rfl ?_
      refine r_stI (p := 120) m_Mo_bigMore rfl rfl (by assumption) (by decide) (fun _ => rfl) (by decide) (by omega) (by omega) (fun w hw => ?_)
      refine fi_step (pc' := 121) m_Mo_bigMore rfl rfl ?_
      refine r_get (p := 124) m_Mo_bigMore rfl rfl (by assumption) rfl ?_
      refine fi_step (pc' := 125) m_Mo_bigMore rfl rfl ?_
      refine fi_step (pc' := 126) m_Mo_bigMore rfl rfl ?_
      refine fi_step (pc' := 127) m_Mo_bigMore rfl rfl ?_
      refine s_iadd (p := 128) m_Mo_bigMore rfl rfl ?_
      refine r_stI (p := 129) m_Mo_bigMore rfl rfl (by assumption) (by decide) (fun _ => rfl) (by decide) (by omega) (by omega) (fun w hw => ?_)
      refine p_ret m_Mo_bigMore rfl rfl ?_
      refine ⟨rfl, _, i + 1, hw, chP_trans hc (chP_trans (chP_up2 k s _) (chP_trans (chP_up1 _ _ (by omega) (by omega)) (chP_up2 k _ _))), by rw [up_ne _ (by decide), up_ne _ (by decide), up_ne _ (by decide)]; exact h3, ?_⟩
      have e1 : up (up (up s 2 k i) 1 (140 * k + i) 1) 2 k (i + 1) 1 = up1 (s 1) (140 * k + i) 1 := by
        rw [up_ne _ (by decide), up_same, up_ne _ (by decide)]
      refine ⟨by rw [up_same, up1_same]; omega, by omega, ?_, fun j hj => ?_, ?_⟩
      · rw [e1]
        exact digB_up (fun j hj hne => hd j (by omega)) (by decide) (by decide)
      · rw [e1, show j = i by omega, up1_same]; decide
      · rw [e1, dvB_succ, up1_same, dvB_up_out (by omega)]; omega
  | succ c ih =>
    intro i cy y w s hw hi hc h2 h3 hs hd c0 c1 hinv
    have pa := pad_dig k2 k4 (i := i) (by omega)
    have pb := pad_dig u2 u4 (i := i) (by omega)
    have eb2 : s 2 u = s0 2 u := hc.2.1 u (fun e => hku e.symm)
    refine fi_step (pc' := 39) m_Mo_bigMore rfl rfl ?_
    refine fi_step (pc' := 40) m_Mo_bigMore rfl rfl ?_
    refine s_ic_ge (p := 43) m_Mo_bigMore rfl rfl (by omega) (by omega) (by omega) (by omega) (fun hbr => False.elim (by omega)) (fun hbr => ?_)
    refine fi_step (pc' := 44) m_Mo_bigMore rfl rfl ?_
    refine fi_step (pc' := 45) m_Mo_bigMore rfl rfl ?_
    refine fi_step (pc' := 47) m_Mo_bigMore rfl rfl ?_
    refine c_3 (p := 50) m_Mo_bigMore rfl inv_v (by decide) m_Mo_bigAt rfl rfl (by omega) (by omega) (Nat.le_of_ble_eq_true rfl) (Nat.le_of_ble_eq_true rfl) (RW_rcv hw _) (c_bigAt hw k0 k1 (by omega) (by omega) (by omega) (by omega)) ?_
    refine fi_step (pc' := 51) m_Mo_bigMore rfl rfl ?_
    refine fi_step (pc' := 52) m_Mo_bigMore rfl rfl ?_
    refine fi_step (pc' := 54) m_Mo_bigMore rfl rfl ?_
    refine c_3 (p := 57) m_Mo_bigMore rfl inv_v (by decide) m_Mo_bigAt rfl rfl (by omega) (by omega) (Nat.le_of_ble_eq_true rfl) (Nat.le_of_ble_eq_true rfl) (RW_rcv hw _) (c_bigAt hw u0 u1 (by omega) (by omega) (by omega) (by omega)) ?_
    have ea : (if (i : Int) < s 2 k then s 1 (140 * k + i) else 0) = pad s0 k i := by
      rw [pad, h2, k2, hs i (Nat.le_refl i)]
    have eb : (if (i : Int) < s 2 u then s 1 (140 * u + i) else 0) = pad s0 u i := by
      rw [pad, eb2]
      split
      · exact hc.1 _ (by omega)
      · rfl
    rw [ea, eb]
    refine s_iadd (p := 58) m_Mo_bigMore rfl rfl ?_
    refine fi_step (pc' := 60) m_Mo_bigMore rfl rfl ?_
    refine s_iadd (p := 61) m_Mo_bigMore rfl rfl ?_
    refine fi_step (pc' := 63) m_Mo_bigMore rfl rfl ?_
    refine fi_step (pc' := 64) m_Mo_bigMore rfl rfl ?_
    refine r_get (p := 67) m_Mo_bigMore rfl rfl (by assumption) rfl ?_
    refine s_sipush (p := 70) m_Mo_bigMore rfl rfl rfl ?_
    refine fi_step (pc' := 71) m_Mo_bigMore rfl rfl ?_
    refine s_imul (p := 72) m_Mo_bigMore rfl rfl ?_
    refine fi_step (pc' := 74) m_Mo_bigMore rfl rfl ?_
    refine s_iadd (p := 75) m_Mo_bigMore rfl rfl ?_
    refine fi_step (pc' := 77) m_Mo_bigMore rfl rfl ?_
    refine s_ldc (p := 79) 16777216 m_Mo_bigMore rfl rfl rfl ?_
    refine s_irem (p := 80) m_Mo_bigMore rfl rfl (by omega) (by omega) (by omega) (by omega) ?_
    refine r_stI (p := 81) m_Mo_bigMore rfl rfl (by assumption) (by decide) (fun _ => rfl) (by decide) (by omega) (by omega) (fun w hw => ?_)
    refine fi_step (pc' := 83) m_Mo_bigMore rfl rfl ?_
    refine s_ldc (p := 85) 16777216 m_Mo_bigMore rfl rfl rfl ?_
    refine s_idiv (p := 86) m_Mo_bigMore rfl rfl (by omega) (by omega) (by omega) (by omega) ?_
    refine fi_step (pc' := 88) m_Mo_bigMore rfl rfl ?_
    refine s_iinc (p := 91) m_Mo_bigMore rfl rfl rfl ?_
    refine fi_step (pc' := 37) m_Mo_bigMore rfl rfl ?_
    have m0 := Int.emod_nonneg (pad s0 k i + pad s0 u i + cy) (show (16777216 : Int) ≠ 0 by decide)
    have m1 := Int.emod_lt_of_pos (pad s0 k i + pad s0 u i + cy) (show (0 : Int) < 16777216 by decide)
    have me := Int.emod_add_mul_ediv (pad s0 k i + pad s0 u i + cy) 16777216
    refine ih (i + 1) _ _ w _ hw (by omega) (chP_trans hc (chP_up1 s _ (by omega) (by omega))) (by rw [up_ne s (by decide)]; exact h2) (by rw [up_ne s (by decide)]; exact h3) ?_ ?_ (by omega) (by omega) ?_
    · intro j hj; rw [up_same, up1_ne _ (by omega)]; exact hs j (by omega)
    · rw [up_same]; exact digB_up (fun j hj hne => hd j (by omega)) m0 m1
    · rw [up_same, dvB_succ, dvB_succ, dvB_succ, up1_same, dvB_up_out (by omega), Int.zero_add]
      skip
      grind
theorem c_bigMore {k u : Int} {n n' : Nat} {m m' : Int} {w : ax_W} {s : mo_S} (hfr : 1 ≤ fr) (hlo : 22 ≤ lo) (hw : RW w0 w s) (k0 : 0 ≤ k) (k1 : k < 277) (u0 : 0 ≤ u) (u1 : u < 277) (hku : k ≠ u) (hk : Mag s k n m) (hu : Mag s u n' m') (hroom : m + m' < rm 140) :
    fin xs fr lo 135 0 (ax_ent [.ref 425, .int (jI k), .int (jI u)] 7) [] w (Ret fun v w' => v = none ∧ ∃ s' n1, RW w0 w' s' ∧ chP k s s' ∧ s' 3 = s 3 ∧ Mag s' k n1 (m + m')) := by
  have ⟨k2, k3, k4, k5, k6⟩ := hk
  have ⟨u2, u3, u4, u5, u6⟩ := hu
  refine fi_step (pc' := 1) m_Mo_bigMore rfl rfl ?_
  refine r_get (p := 4) m_Mo_bigMore rfl rfl (by assumption) rfl ?_
  refine fi_step (pc' := 5) m_Mo_bigMore rfl rfl ?_
  refine r_ldI (p := 6) m_Mo_bigMore rfl rfl (by assumption) (by decide) rfl (by decide) (by omega) (by omega) ?_
  refine fi_step (pc' := 7) m_Mo_bigMore rfl rfl ?_
  refine r_get (p := 10) m_Mo_bigMore rfl rfl (by assumption) rfl ?_
  refine fi_step (pc' := 11) m_Mo_bigMore rfl rfl ?_
  refine r_ldI (p := 12) m_Mo_bigMore rfl rfl (by assumption) (by decide) rfl (by decide) (by omega) (by omega) ?_
  refine s_ic_le (p := 15) m_Mo_bigMore rfl rfl (by omega) (by omega) (by omega) (by omega) (fun h => ?_) (fun h => ?_)
  · refine fi_step (pc' := 25) m_Mo_bigMore rfl rfl ?_
    refine r_get (p := 28) m_Mo_bigMore rfl rfl (by assumption) rfl ?_
    refine fi_step (pc' := 29) m_Mo_bigMore rfl rfl ?_
    refine r_ldI (p := 30) m_Mo_bigMore rfl rfl (by assumption) (by decide) rfl (by decide) (by omega) (by omega) ?_
    refine fi_step (pc' := 31) m_Mo_bigMore rfl rfl ?_
    refine fi_step (pc' := 32) m_Mo_bigMore rfl rfl ?_
    refine fi_step (pc' := 34) m_Mo_bigMore rfl rfl ?_
    refine fi_step (pc' := 35) m_Mo_bigMore rfl rfl ?_
    refine fi_step (pc' := 37) m_Mo_bigMore rfl rfl ?_
    rw [u2]
    exact bigMore_loop hfr hlo k0 k1 u0 u1 hku hk hu (N := n') (by rw [if_neg (by omega)]) hroom n' 0 0 _ w s hw (by omega) (chP_refl k s) k2 rfl (fun j hj => rfl) (fun j hj => by omega) (by decide) (by decide) rfl
  · refine fi_step (pc' := 16) m_Mo_bigMore rfl rfl ?_
    refine r_get (p := 19) m_Mo_bigMore rfl rfl (by assumption) rfl ?_
    refine fi_step (pc' := 20) m_Mo_bigMore rfl rfl ?_
    refine r_ldI (p := 21) m_Mo_bigMore rfl rfl (by assumption) (by decide) rfl (by decide) (by omega) (by omega) ?_
    refine fi_step (pc' := 30) m_Mo_bigMore rfl rfl ?_
    refine fi_step (pc' := 31) m_Mo_bigMore rfl rfl ?_
    refine fi_step (pc' := 32) m_Mo_bigMore rfl rfl ?_
    refine fi_step (pc' := 34) m_Mo_bigMore rfl rfl ?_
    refine fi_step (pc' := 35) m_Mo_bigMore rfl rfl ?_
    refine fi_step (pc' := 37) m_Mo_bigMore rfl rfl ?_
    rw [k2]
    exact bigMore_loop hfr hlo k0 k1 u0 u1 hku hk hu (N := n) (by rw [if_pos (by omega)]) hroom n 0 0 _ w s hw (by omega) (chP_refl k s) k2 rfl (fun j hj => rfl) (fun j hj => by omega) (by decide) (by decide) rfl
end BIG2
