/-! THE REFERENCE'S NUMBERS: number k has n parts, and its size is m -/
def Mag (s : mo_S) (k : Int) (n : Nat) (m : Int) : Prop := s 2 k = n ∧ n ≤ 140 ∧ digB 16777216 (s 1) (140 * k) n ∧ (∀ j : Nat, n = j + 1 → s 1 (140 * k + j) ≠ 0) ∧ m = dvB 16777216 (s 1) (140 * k) n
/-- a power of the base, not to be computed -/
def rm (n : Nat) : Int := 16777216 ^ n
theorem rm_le {n i : Nat} (h : n ≤ i) : rm n ≤ 16777216 ^ i := pow_mono (by decide) h
theorem le_rm {n i : Nat} (h : i ≤ n) : 16777216 ^ i ≤ rm n := pow_mono (by decide) h
theorem rm_pos (n : Nat) : 0 < rm n := powB_pos (by decide) n
def isN (s : mo_S) (k v : Int) : Prop := ∃ n m, Mag s k n m ∧ ((s 3 k = 0 ∧ v = m) ∨ (s 3 k = 1 ∧ v = -m))
/-- only number k has changed -/
def chP (k : Int) (s s' : mo_S) : Prop := (∀ b, b < 140 * k ∨ 140 * k + 140 ≤ b → s' 1 b = s 1 b) ∧ (∀ b, b ≠ k → s' 2 b = s 2 b) ∧ (∀ b, b ≠ k → s' 3 b = s 3 b) ∧ ∀ a, a ≠ 1 → a ≠ 2 → a ≠ 3 → s' a = s a
def Bg (s : mo_S) (r : Int → Int) : Prop := ∀ k, 0 ≤ k → k < 277 → isN s k (r k)
/-- what isn't a number's part, length or sign stays -/
def oth (s s' : mo_S) : Prop := ∀ a, a ≠ 1 → a ≠ 2 → a ≠ 3 → s' a = s a
theorem oth_refl (s : mo_S) : oth s s := fun _ _ _ _ => rfl
theorem oth_trans {s s' s'' : mo_S} (h : oth s s') (h' : oth s' s'') : oth s s'' := fun a h1 h2 h3 => (h' a h1 h2 h3).trans (h a h1 h2 h3)
theorem chP_oth {k : Int} {s s' : mo_S} (h : chP k s s') : oth s s' := h.2.2.2
theorem chP_refl (k : Int) (s : mo_S) : chP k s s := ⟨fun _ _ => rfl, fun _ _ => rfl, fun _ _ => rfl, fun _ _ _ _ => rfl⟩
theorem chP_trans {k : Int} {s s' s'' : mo_S} (h : chP k s s') (h' : chP k s' s'') : chP k s s'' :=
  ⟨fun b hb => (h'.1 b hb).trans (h.1 b hb), fun b hb => (h'.2.1 b hb).trans (h.2.1 b hb), fun b hb => (h'.2.2.1 b hb).trans (h.2.2.1 b hb), fun a h1 h2 h3 => (h'.2.2.2 a h1 h2 h3).trans (h.2.2.2 a h1 h2 h3)⟩
theorem chP_up1 {k x : Int} (s : mo_S) (v : Int) (h0 : 140 * k ≤ x) (h1 : x < 140 * k + 140) : chP k s (up s 1 x v) :=
  ⟨fun b hb => by rw [up_same, up1_ne _ (by omega)], fun b _ => by rw [up_ne s (by decide)], fun b _ => by rw [up_ne s (by decide)], fun a h _ _ => up_ne s h x v⟩
theorem chP_up2 (k : Int) (s : mo_S) (v : Int) : chP k s (up s 2 k v) :=
  ⟨fun b hb => by rw [up_ne s (by decide)], fun b h => by rw [up_same, up1_ne _ h], fun b _ => by rw [up_ne s (by decide)], fun a _ h _ => up_ne s h k v⟩
theorem chP_up3 (k : Int) (s : mo_S) (v : Int) : chP k s (up s 3 k v) :=
  ⟨fun b hb => by rw [up_ne s (by decide)], fun b _ => by rw [up_ne s (by decide)], fun b h => by rw [up_same, up1_ne _ h], fun a _ _ h => up_ne s h k v⟩
theorem up_id {s : mo_S} {k : Nat} {i v : Int} (h : s k i = v) : up s k i v = s := by
  funext a b
  by_cases e : a = k
  · subst e; rw [up_same]
    by_cases f : b = i
    · subst f; rw [up1_same, h]
    · rw [up1_ne _ f]
  · rw [up_ne s e]
theorem up1_up1 (f : Int → Int) (i v u : Int) : up1 (up1 f i v) i u = up1 f i u := by
  funext b; by_cases e : b = i <;> simp [up1, e]
theorem up_up (s : mo_S) (k : Nat) (i v u : Int) : up (up s k i v) k i u = up s k i u := by
  funext a
  by_cases e : a = k
  · subst e; rw [up_same, up_same, up_same, up1_up1]
  · rw [up_ne _ e, up_ne _ e, up_ne _ e]
theorem Mag_ch {s s' : mo_S} {j k : Int} {n : Nat} {m : Int} (h : Mag s j n m) (hc : chP k s s') (hj : j ≠ k) : Mag s' j n m := by
  obtain ⟨h1, h2, h3, h4, h5⟩ := h
  have e : ∀ i : Nat, i < n → s' 1 (140 * j + i) = s 1 (140 * j + i) := fun i hi => hc.1 _ (by omega)
  refine ⟨by rw [hc.2.1 j hj, h1], h2, digB_congr h3 e, fun i hi => ?_, ?_⟩
  · rw [e i (by omega)]; exact h4 i hi
  · rw [h5]; exact (dvB_congr e).symm
theorem isN_ch {s s' : mo_S} {j k v : Int} (h : isN s j v) (hc : chP k s s') (hj : j ≠ k) : isN s' j v := by
  obtain ⟨n, m, h1, h2⟩ := h
  exact ⟨n, m, Mag_ch h1 hc hj, by rw [hc.2.2.1 j hj]; exact h2⟩
theorem Bg_ch {s s' : mo_S} {r : Int → Int} {k v : Int} (h : Bg s r) (hc : chP k s s') (hk : isN s' k v) : Bg s' (up1 r k v) := by
  intro j j0 j1
  by_cases e : j = k
  · subst e; rw [up1_same]; exact hk
  · rw [up1_ne _ e]; exact isN_ch (h j j0 j1) hc e
theorem Mag_nn {s : mo_S} {k : Int} {n : Nat} {m : Int} (h : Mag s k n m) : 0 ≤ m := by
  rw [h.2.2.2.2]; exact dvB_nonneg (by decide) (fun i hi => (h.2.2.1 i hi).1)
theorem Mag_lt {s : mo_S} {k : Int} {n : Nat} {m : Int} (h : Mag s k n m) : m < 16777216 ^ n := by
  rw [h.2.2.2.2]; exact dvB_lt (by decide) h.2.2.1
theorem Mag_ge {s : mo_S} {k : Int} {n : Nat} {m : Int} (h : Mag s k (n + 1) m) : 16777216 ^ n ≤ m := by
  rw [h.2.2.2.2]; exact dvB_ge (by decide) h.2.2.1 (h.2.2.2.1 n rfl)
theorem Mag_zero {s : mo_S} {k : Int} {n : Nat} {m : Int} (h : Mag s k n m) : n = 0 ↔ m = 0 := by
  constructor
  · intro e; subst e; rw [h.2.2.2.2]; rfl
  · intro e
    cases n with
    | zero => rfl
    | succ n => have := Mag_ge h; have := powB_pos (B := 16777216) (by decide) n; omega
theorem isN_abs {s : mo_S} {k v : Int} (h : isN s k v) : ∃ n, Mag s k n (v.natAbs : Int) ∧ (s 3 k = 0 ∨ s 3 k = 1) ∧ (s 3 k = 0 → 0 ≤ v) ∧ (s 3 k = 1 → v ≤ 0) := by
  obtain ⟨n, m, h1, h2⟩ := h
  have h0 := Mag_nn h1
  rcases h2 with ⟨e, rfl⟩ | ⟨e, rfl⟩
  · exact ⟨n, by rw [show ((v.natAbs : Nat) : Int) = v by omega]; exact h1, by omega, by omega, by omega⟩
  · exact ⟨n, by rw [show (((-m).natAbs : Nat) : Int) = m by omega]; exact h1, by omega, by omega, by omega⟩
theorem isN_of {s : mo_S} {k : Int} {n : Nat} {m v : Int} (h : Mag s k n m) (hm : m = (v.natAbs : Int)) (h3 : (s 3 k = 0 ∧ 0 ≤ v) ∨ (s 3 k = 1 ∧ v ≤ 0)) : isN s k v := by
  refine ⟨n, m, h, ?_⟩
  rcases h3 with ⟨e, q⟩ | ⟨e, q⟩
  · exact Or.inl ⟨e, by omega⟩
  · exact Or.inr ⟨e, by omega⟩
section BIG
variable {xs : List Int32} {fr lo : Nat} {w0 : ax_W}
theorem c_bigTrim {k : Int} (k0 : 0 ≤ k) (k1 : k < 277) : ∀ (n : Nat) (w : ax_W) (s : mo_S), RW w0 w s → s 2 k = n → n ≤ 140 → digB 16777216 (s 1) (140 * k) n →
    fin xs fr lo 133 0 (ax_ent [.ref 425, .int (jI k)] 2) [] w (Ret fun v w' => v = none ∧ ∃ n', RW w0 w' (up s 2 k (n' : Nat)) ∧ Mag (up s 2 k n') k n' (dvB 16777216 (s 1) (140 * k) n)) := by
  intro n
  induction n with
  | zero =>
    intro w s hw hn hm hd
    refine fi_step (pc' := 1) m_Mo_bigTrim rfl rfl ?_
    refine r_get (p := 4) m_Mo_bigTrim rfl rfl (by assumption) rfl ?_
    refine fi_step (pc' := 5) m_Mo_bigTrim rfl rfl ?_
    refine r_ldI (p := 6) m_Mo_bigTrim rfl rfl (by assumption) (by decide) rfl (by decide) (by omega) (by omega) ?_
    refine s_if_le (p := 9) m_Mo_bigTrim rfl rfl (by omega) (by omega) (fun hbr => ?_) (fun hbr => False.elim (by omega))
    refine p_ret m_Mo_bigTrim rfl rfl ?_
    refine ⟨rfl, 0, ?_, ?_⟩
    · rw [up_id hn]; exact hw
    · rw [up_id hn]; exact ⟨hn, by omega, hd, fun j hj => by omega, rfl⟩
  | succ n ih =>
    intro w s hw hn hm hd
    have hq : 0 ≤ s 1 (140 * k + s 2 k - 1) ∧ s 1 (140 * k + s 2 k - 1) < 16777216 := by
      have := hd n (by omega)
      rwa [show 140 * k + (n : Int) = 140 * k + s 2 k - 1 by omega] at this
    refine fi_step (pc' := 1) m_Mo_bigTrim rfl rfl ?_
    refine r_get (p := 4) m_Mo_bigTrim rfl rfl (by assumption) rfl ?_
    refine fi_step (pc' := 5) m_Mo_bigTrim rfl rfl ?_
    refine r_ldI (p := 6) m_Mo_bigTrim rfl rfl (by assumption) (by decide) rfl (by decide) (by omega) (by omega) ?_
    refine s_if_le (p := 9) m_Mo_bigTrim rfl rfl (by omega) (by omega) (fun hbr => False.elim (by omega)) (fun hbr => ?_)
    refine fi_step (pc' := 10) m_Mo_bigTrim rfl rfl ?_
    refine r_get (p := 13) m_Mo_bigTrim rfl rfl (by assumption) rfl ?_
    refine s_sipush (p := 16) m_Mo_bigTrim rfl rfl rfl ?_
    refine fi_step (pc' := 17) m_Mo_bigTrim rfl rfl ?_
    refine s_imul (p := 18) m_Mo_bigTrim rfl rfl ?_
    refine fi_step (pc' := 19) m_Mo_bigTrim rfl rfl ?_
    refine r_get (p := 22) m_Mo_bigTrim rfl rfl (by assumption) rfl ?_
    refine fi_step (pc' := 23) m_Mo_bigTrim rfl rfl ?_
    refine r_ldI (p := 24) m_Mo_bigTrim rfl rfl (by assumption) (by decide) rfl (by decide) (by omega) (by omega) ?_
    refine s_iadd (p := 25) m_Mo_bigTrim rfl rfl ?_
    refine fi_step (pc' := 26) m_Mo_bigTrim rfl rfl ?_
    refine s_isub (p := 27) m_Mo_bigTrim rfl rfl ?_
    refine r_ldI (p := 28) m_Mo_bigTrim rfl rfl (by assumption) (by decide) rfl (by decide) (by omega) (by omega) ?_
    refine s_if_ne (p := 31) m_Mo_bigTrim rfl rfl (by omega) (by omega) (fun h => ?_) (fun h => ?_)
    · refine p_ret m_Mo_bigTrim rfl rfl ?_
      refine ⟨rfl, n + 1, ?_, ?_⟩
      · rw [up_id hn]; exact hw
      · rw [up_id hn]; refine ⟨hn, by omega, hd, fun j hj => ?_, rfl⟩
        rw [show 140 * k + (j : Int) = 140 * k + s 2 k - 1 by omega]; exact h
    · refine fi_step (pc' := 32) m_Mo_bigTrim rfl rfl ?_
      refine r_get (p := 35) m_Mo_bigTrim rfl rfl (by assumption) rfl ?_
      refine fi_step (pc' := 36) m_Mo_bigTrim rfl rfl ?_
      refine fi_step (pc' := 37) m_Mo_bigTrim rfl rfl ?_
      refine r_ldI (p := 38) m_Mo_bigTrim rfl rfl (by assumption) (by decide) rfl (by decide) (by omega) (by omega) ?_
      refine fi_step (pc' := 39) m_Mo_bigTrim rfl rfl ?_
      refine s_isub (p := 40) m_Mo_bigTrim rfl rfl ?_
      refine r_stI (p := 41) m_Mo_bigTrim rfl rfl (by assumption) (by decide) (fun _ => rfl) (by decide) (by omega) (by omega) (fun w hw => ?_)
      refine fi_step (pc' := 0) m_Mo_bigTrim rfl rfl ?_
      have e2 : s 2 k - 1 = (n : Int) := by omega
      rw [e2] at hw
      refine fi_mono (ih w _ hw (by rw [up_same, up1_same]) (by omega) (by rw [up_ne s (by decide)]; exact digB_mono hd (by omega))) ?_
      rintro o w' ⟨v, rfl, hv, n', h1, h2⟩
      have e3 : up (up s 2 k (n : Int)) 2 k (n' : Int) = up s 2 k (n' : Int) := up_up s 2 k _ _
      rw [e3] at h1 h2
      refine ⟨v, rfl, hv, n', h1, ?_⟩
      have e4 : dvB 16777216 (s 1) (140 * k) (n + 1) = dvB 16777216 (up s 2 k (n : Int) 1) (140 * k) n := by
        rw [dvB_succ, up_ne s (by decide), show 140 * k + (n : Int) = 140 * k + s 2 k - 1 by omega, h]; simp
      rw [e4]; exact h2
theorem bigSet_loop {k : Int} {x : Value} (k0 : 0 ≤ k) (k1 : k < 277) : ∀ (j n : Nat) (left : Int) (w : ax_W) (s : mo_S), RW w0 w s → 0 ≤ left → left < 16777216 ^ j → left < 9223372036854775808 → n + j ≤ 140 → digB 16777216 (s 1) (140 * k) n → (left = 0 → ∀ i : Nat, n = i + 1 → s 1 (140 * k + i) ≠ 0) →
    fin xs fr lo 130 34 [some (.ref 425), some (.int (jI k)), some x, none, some (.int (jI n)), some (.long (jL left)), none] [] w (Ret fun v w' => v = none ∧ ∃ s' n', RW w0 w' s' ∧ chP k s s' ∧ s' 3 = s 3 ∧ Mag s' k n' (dvB 16777216 (s 1) (140 * k) n + left * 16777216 ^ n)) := by
  intro j
  induction j with
  | zero =>
    intro n left w s hw l0 l1 l2 hn hd ht
    have : left = 0 := by simp at l1; omega
    subst this
    refine fi_step (pc' := 36) m_Mo_bigSet rfl rfl ?_
    refine s_lconst (p := 37) (v := 0) m_Mo_bigSet rfl rfl rfl ?_
    refine s_lc_eq (q := 38) (p := 41) m_Mo_bigSet rfl rfl rfl rfl (by omega) (by omega) (by omega) (by omega) (fun hbr => ?_) (fun hbr => False.elim (by omega))
    refine fi_step (pc' := 75) m_Mo_bigSet rfl rfl ?_
    refine r_get (p := 78) m_Mo_bigSet rfl rfl (by assumption) rfl ?_
    refine fi_step (pc' := 79) m_Mo_bigSet rfl rfl ?_
    refine fi_step (pc' := 81) m_Mo_bigSet rfl rfl ?_
    refine r_stI (p := 82) m_Mo_bigSet rfl rfl (by assumption) (by decide) (fun _ => rfl) (by decide) (by omega) (by omega) (fun w hw => ?_)
    refine p_ret m_Mo_bigSet rfl rfl ?_
    refine ⟨rfl, _, n, hw, chP_up2 k s _, by rw [up_ne s (by decide)], ?_⟩
    refine ⟨by rw [up_same, up1_same], by omega, by rw [up_ne s (by decide)]; exact hd, by rw [up_ne s (by decide)]; exact ht rfl, by rw [up_ne s (by decide)]; simp⟩
  | succ j ih =>
    intro n left w s hw l0 l1 l2 hn hd ht
    refine fi_step (pc' := 36) m_Mo_bigSet rfl rfl ?_
    refine s_lconst (p := 37) (v := 0) m_Mo_bigSet rfl rfl rfl ?_
    refine s_lc_eq (q := 38) (p := 41) m_Mo_bigSet rfl rfl rfl rfl (by omega) (by omega) (by omega) (by omega) (fun h => ?_) (fun h => ?_)
    · subst h
      refine fi_step (pc' := 75) m_Mo_bigSet rfl rfl ?_
      refine r_get (p := 78) m_Mo_bigSet rfl rfl (by assumption) rfl ?_
      refine fi_step (pc' := 79) m_Mo_bigSet rfl rfl ?_
      refine fi_step (pc' := 81) m_Mo_bigSet rfl rfl ?_
      refine r_stI (p := 82) m_Mo_bigSet rfl rfl (by assumption) (by decide) (fun _ => rfl) (by decide) (by omega) (by omega) (fun w hw => ?_)
      refine p_ret m_Mo_bigSet rfl rfl ?_
      refine ⟨rfl, _, n, hw, chP_up2 k s _, by rw [up_ne s (by decide)], ?_⟩
      refine ⟨by rw [up_same, up1_same], by omega, by rw [up_ne s (by decide)]; exact hd, by rw [up_ne s (by decide)]; exact ht rfl, by rw [up_ne s (by decide)]; simp⟩
    · refine fi_step (pc' := 42) m_Mo_bigSet rfl rfl ?_
      refine r_get (p := 45) m_Mo_bigSet rfl rfl (by assumption) rfl ?_
      refine s_sipush (p := 48) m_Mo_bigSet rfl rfl rfl ?_
      refine fi_step (pc' := 49) m_Mo_bigSet rfl rfl ?_
      refine s_imul (p := 50) m_Mo_bigSet rfl rfl ?_
      refine fi_step (pc' := 52) m_Mo_bigSet rfl rfl ?_
      refine s_iadd (p := 53) m_Mo_bigSet rfl rfl ?_
      refine fi_step (pc' := 55) m_Mo_bigSet rfl rfl ?_
      refine s_ldc2 (p := 58) 16777215 m_Mo_bigSet rfl rfl rfl ?_
      refine b_land (p := 59) m_Mo_bigSet rfl rfl  ?_
      refine s_l2i (p := 60) m_Mo_bigSet rfl rfl ?_
      refine r_stI (p := 61) m_Mo_bigSet rfl rfl (by assumption) (by decide) (fun _ => rfl) (by decide) (by omega) (by omega) (fun w hw => ?_)
      refine s_iinc (p := 64) m_Mo_bigSet rfl rfl rfl ?_
      refine fi_step (pc' := 66) m_Mo_bigSet rfl rfl ?_
      refine s_bipush (p := 68) m_Mo_bigSet rfl rfl rfl ?_
      refine b_lushr (p := 69) m_Mo_bigSet rfl rfl (by omega) (by omega) ?_
      refine fi_step (pc' := 71) m_Mo_bigSet rfl rfl ?_
      refine fi_step (pc' := 34) m_Mo_bigSet rfl rfl ?_
      have hp : (16777216 : Int) ^ (j + 1) = 16777216 * 16777216 ^ j := by grind
      have hb := powB_pos (B := 16777216) (by decide) j
      have m0 := Int.emod_nonneg left (show (16777216 : Int) ≠ 0 by decide)
      have m1 := Int.emod_lt_of_pos left (show (0 : Int) < 16777216 by decide)
      have me := Int.emod_add_mul_ediv left 16777216
      have d0 : 0 ≤ left / 16777216 := by omega
      have d1 : left / 16777216 < 16777216 ^ j := Int.ediv_lt_of_lt_mul (by decide) (by rw [Int.mul_comm]; omega)
      refine fi_mono (ih (n + 1) (left / 16777216) w _ hw d0 d1 (by omega) (by omega) ?_ ?_) ?_
      · rw [up_same]; exact digB_up (fun i hi hne => hd i (by omega)) m0 m1
      · intro q i hi
        rw [show i = n by omega, up_same, up1_same]; omega
      · rintro o w' ⟨v, rfl, hv, s', n', h1, h2, h3, h4⟩
        refine ⟨v, rfl, hv, s', n', h1, chP_trans (chP_up1 s _ (by omega) (by omega)) h2, by rw [h3, up_ne s (by decide)], ?_⟩
        have e : dvB 16777216 (up s 1 (140 * k + n) (left % 16777216) 1) (140 * k) (n + 1) + left / 16777216 * 16777216 ^ (n + 1) = dvB 16777216 (s 1) (140 * k) n + left * 16777216 ^ n := by
          rw [dvB_succ, up_same, up1_same, dvB_up_out (by omega)]
          have : left * 16777216 ^ n = (left % 16777216 + 16777216 * (left / 16777216)) * 16777216 ^ n := by rw [me]
          rw [this]; grind
        rw [← e]; exact h4
theorem c_bigSet {k v : Int} {w : ax_W} {s : mo_S} {r : Int → Int} (hw : RW w0 w s) (hb : Bg s r) (k0 : 0 ≤ k) (k1 : k < 277) (v0 : -4611686018427387904 ≤ v) (v1 : v ≤ 4611686018427387904) :
    fin xs fr lo 130 0 (ax_ent [.ref 425, .int (jI k), .long (jL v)] 7) [] w (Ret fun u w' => u = none ∧ ∃ s', RW w0 w' s' ∧ oth s s' ∧ Bg s' (up1 r k v)) := by
  refine fi_step (pc' := 1) m_Mo_bigSet rfl rfl ?_
  refine r_get (p := 4) m_Mo_bigSet rfl rfl (by assumption) rfl ?_
  refine fi_step (pc' := 5) m_Mo_bigSet rfl rfl ?_
  refine fi_step (pc' := 6) m_Mo_bigSet rfl rfl ?_
  refine s_lconst (p := 7) (v := 0) m_Mo_bigSet rfl rfl rfl ?_
  refine s_lc_ge (q := 8) (p := 11) m_Mo_bigSet rfl rfl rfl rfl (by omega) (by omega) (by omega) (by omega) (fun h => ?_) (fun h => ?_)
  · refine fi_step (pc' := 16) m_Mo_bigSet rfl rfl ?_
    refine r_stB (p := 17) m_Mo_bigSet rfl rfl (by assumption) (by decide) (fun _ => rfl) (by decide) (by omega) (by omega) (by omega) (by omega) (fun w hw => ?_)
    refine fi_step (pc' := 18) m_Mo_bigSet rfl rfl ?_
    refine fi_step (pc' := 20) m_Mo_bigSet rfl rfl ?_
    refine fi_step (pc' := 21) m_Mo_bigSet rfl rfl ?_
    refine s_lconst (p := 22) (v := 0) m_Mo_bigSet rfl rfl rfl ?_
    refine s_lc_ge (q := 23) (p := 26) m_Mo_bigSet rfl rfl rfl rfl (by omega) (by omega) (by omega) (by omega) (fun hbr => ?_) (fun hbr => False.elim (by omega))
    refine fi_step (pc' := 32) m_Mo_bigSet rfl rfl ?_
    refine fi_step (pc' := 34) m_Mo_bigSet rfl rfl ?_
    refine fi_mono (bigSet_loop k0 k1 3 0 v w _ hw h (by omega) (by omega) (by omega) (fun i hi => by omega) (fun _ i hi => by omega)) ?_
    rintro o w' ⟨u, rfl, hu, s', n', h1, h2, h3, h4⟩
    have h5 := chP_trans (chP_up3 k s 0) h2
    refine ⟨u, rfl, hu, s', h1, chP_oth h5, Bg_ch hb h5 (isN_of h4 ?_ (Or.inl ⟨?_, h⟩))⟩
    · simp [dvB_zero]; omega
    · rw [h3, up_same, up1_same]
  · refine fi_step (pc' := 12) m_Mo_bigSet rfl rfl ?_
    refine fi_step (pc' := 16) m_Mo_bigSet rfl rfl ?_
    refine r_stB (p := 17) m_Mo_bigSet rfl rfl (by assumption) (by decide) (fun _ => rfl) (by decide) (by omega) (by omega) (by omega) (by omega) (fun w hw => ?_)
    refine fi_step (pc' := 18) m_Mo_bigSet rfl rfl ?_
    refine fi_step (pc' := 20) m_Mo_bigSet rfl rfl ?_
    refine fi_step (pc' := 21) m_Mo_bigSet rfl rfl ?_
    refine s_lconst (p := 22) (v := 0) m_Mo_bigSet rfl rfl rfl ?_
    refine s_lc_ge (q := 23) (p := 26) m_Mo_bigSet rfl rfl rfl rfl (by omega) (by omega) (by omega) (by omega) (fun hbr => False.elim (by omega)) (fun hbr => ?_)
    refine fi_step (pc' := 27) m_Mo_bigSet rfl rfl ?_
    refine s_lneg (p := 28) m_Mo_bigSet rfl rfl ?_
    refine fi_step (pc' := 32) m_Mo_bigSet rfl rfl ?_
    refine fi_step (pc' := 34) m_Mo_bigSet rfl rfl ?_
    refine fi_mono (bigSet_loop k0 k1 3 0 (-v) w _ hw (by omega) (by omega) (by omega) (by omega) (fun i hi => by omega) (fun _ i hi => by omega)) ?_
    rintro o w' ⟨u, rfl, hu, s', n', h1, h2, h3, h4⟩
    have h5 := chP_trans (chP_up3 k s 1) h2
    refine ⟨u, rfl, hu, s', h1, chP_oth h5, Bg_ch hb h5 (isN_of h4 ?_ (Or.inr ⟨?_, by omega⟩))⟩
    · simp [dvB_zero]; omega
    · rw [h3, up_same, up1_same]
end BIG
