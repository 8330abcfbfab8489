/-! THE REFERENCE: one row that holds what a column has in common -/
/-- a row of the pool, from column k on -/
def pw (r : Int → Int) (k f : Nat) (i : Nat) : Vec := fun e => if (k : Int) ≤ e ∧ e < f then r (100 + 6 * i + e) else 0
theorem pw_in {r : Int → Int} {k f i : Nat} {e : Int} (h0 : (k : Int) ≤ e) (h1 : e < f) : pw r k f i e = r (100 + 6 * i + e) := by unfold pw; rw [if_pos ⟨h0, h1⟩]
theorem pw_out {r : Int → Int} {k f i : Nat} {e : Int} (h : ¬ ((k : Int) ≤ e ∧ e < f)) : pw r k f i e = 0 := by unfold pw; rw [if_neg h]
theorem pw_congr {r r' : Int → Int} {k f i : Nat} (h : ∀ e : Nat, k ≤ e → e < f → r' (100 + 6 * i + e) = r (100 + 6 * i + e)) : pw r' k f i = pw r k f i := by
  funext e
  by_cases he : (k : Int) ≤ e ∧ e < f
  · rw [pw_in he.1 he.2, pw_in he.1 he.2]
    have := h e.toNat (by omega) (by omega)
    rwa [show ((e.toNat : Nat) : Int) = e by omega] at this
  · rw [pw_out he, pw_out he]
/-- the pool's rows and D at every later place -/
def GL (r : Int → Int) (D : Int) (R k f : Nat) : List Vec := fam (pw r k f) (R + 1) 0 ++ fam (un D) (f - (k + 1)) (k + 1)
theorem lose_sp {r r' : Int → Int} {D : Int} {i b k f R : Nat} (hi : i ≤ R) (hb : b ≤ R) (hib : b ≠ i) (hk : k < f)
    (h1 : r' (100 + 6 * i + k) = r (100 + 6 * i + k) % r (100 + 6 * b + k)) (h2 : ∀ e' : Nat, k < e' → e' < f → r' (100 + 6 * i + e') = (r (100 + 6 * i + e') - r (100 + 6 * i + k) / r (100 + 6 * b + k) * r (100 + 6 * b + e')) % D)
    (h3 : ∀ i' e : Nat, i' ≤ R → i' ≠ i → k ≤ e → e < f → r' (100 + 6 * i' + e) = r (100 + 6 * i' + e)) (A : List Vec) : spEq (A ++ GL r D R k f) (A ++ GL r' D R k f) := by
  unfold GL
  refine fam_step (i := i) (b := b) (q := r (100 + 6 * i + k) / r (100 + 6 * b + k)) (z := fun e => pw r k f i e - r (100 + 6 * i + k) / r (100 + 6 * b + k) * pw r k f b e - pw r' k f i e) (by omega) (by omega) hib (fun m hm hne => pw_congr (fun e e0 e1 => h3 m e (by omega) hne e0 e1)) (un_sp (fun e he => ?_) (fun e => ?_)) (fun e => by omega)
  · by_cases hk' : e = k
    · subst hk'
      rw [pw_in (by omega) (by omega), pw_in (by omega) (by omega), pw_in (by omega) (by omega), h1]
      have := mod_sub (r (100 + 6 * i + k)) (r (100 + 6 * b + k))
      omega
    · rw [pw_out (by omega), pw_out (by omega), pw_out (by omega)]; simp
  · by_cases he : (k : Int) < e ∧ e < f
    · rw [pw_in (by omega) (by omega), pw_in (by omega) (by omega), pw_in (by omega) (by omega)]
      have := h2 e.toNat (by omega) (by omega)
      rw [show ((e.toNat : Nat) : Int) = e by omega] at this
      rw [this]
      exact Int.dvd_self_sub_of_emod_eq rfl
    · by_cases hk' : e = k
      · subst hk'
        rw [pw_in (by omega) (by omega), pw_in (by omega) (by omega), pw_in (by omega) (by omega), h1]
        have := mod_sub (r (100 + 6 * i + k)) (r (100 + 6 * b + k))
        exact ⟨0, by omega⟩
      · rw [pw_out (by omega), pw_out (by omega), pw_out (by omega)]; exact ⟨0, by simp⟩
theorem sumP_up (f : Int → Int) (i : Nat) (v : Int) : ∀ n : Nat, sumP (up1 f i v) n = sumP f n + (if i < n then v - f i else 0)
  | 0 => by simp [sumP]
  | n + 1 => by
    rw [sumP, sumP, sumP_up f i v n]
    by_cases h : i = n
    · subst h; rw [up1_same, if_neg (by omega), if_pos (by omega)]; omega
    · rw [up1_ne _ (by omega)]
      by_cases h2 : i < n
      · rw [if_pos h2, if_pos (by omega)]; omega
      · rw [if_neg h2, if_neg (by omega)]; omega
theorem sumP_nn {f : Int → Int} : ∀ {n : Nat}, (∀ k : Nat, k < n → 0 ≤ f k) → 0 ≤ sumP f n
  | 0, _ => Int.le_refl 0
  | n + 1, h => by
    have := sumP_nn (n := n) (fun k hk => h k (by omega))
    have := h n (by omega)
    rw [sumP]; omega
/-- the search for the least number of a column that isn't 0: what is known before row i -/
def gI (c : Nat → Int) (i : Nat) (fo so : Int) : Prop := (fo = -1 ∧ so = 0 ∧ ∀ m, m < i → c m = 0) ∨ ∃ n : Nat, fo = n ∧ n < i ∧ c n ≠ 0 ∧ 1 ≤ so ∧ so ≤ i ∧ (∀ m, m < i → c m ≠ 0 → c n ≤ c m) ∧ (so ≤ 1 → ∀ m, m < i → m ≠ n → c m = 0) ∧ (1 < so → ∃ m, m < i ∧ m ≠ n ∧ c m ≠ 0)
theorem gI_zero {c : Nat → Int} {i : Nat} {fo so : Int} (h : gI c i fo so) (hz : c i = 0) : gI c (i + 1) fo so := by
  rcases h with ⟨h1, h2, h3⟩ | ⟨n, h1, h2, h3, h4, h5, h6, h7, h8⟩
  · refine Or.inl ⟨h1, h2, fun m hm => ?_⟩
    by_cases e : m = i
    · subst e; exact hz
    · exact h3 m (by omega)
  · refine Or.inr ⟨n, h1, by omega, h3, h4, by omega, fun m hm hne => ?_, fun hs m hm hne => ?_, fun hs => ?_⟩
    · by_cases e : m = i
      · subst e; exact absurd hz hne
      · exact h6 m (by omega) hne
    · by_cases e : m = i
      · subst e; exact hz
      · exact h7 hs m (by omega) hne
    · obtain ⟨m, m1, m2, m3⟩ := h8 hs
      exact ⟨m, by omega, m2, m3⟩
theorem gI_first {c : Nat → Int} {i : Nat} {so : Int} {fo : Int} (h : gI c i fo so) (hf : fo < 0) (hz : c i ≠ 0) : gI c (i + 1) i (so + 1) := by
  rcases h with ⟨h1, h2, h3⟩ | ⟨n, h1, _⟩
  · refine Or.inr ⟨i, rfl, by omega, hz, by omega, by omega, fun m hm hne => ?_, fun hs m hm hne => h3 m (by omega), fun hs => by omega⟩
    by_cases e : m = i
    · subst e; omega
    · exact absurd (h3 m (by omega)) hne
  · omega
theorem gI_less {c : Nat → Int} {i n : Nat} {so : Int} (h : gI c i n so) (hz : c i ≠ 0) (hl : c i < c n) : gI c (i + 1) i (so + 1) := by
  rcases h with ⟨h1, _⟩ | ⟨n', h1, h2, h3, h4, h5, h6, h7, h8⟩
  · omega
  · obtain rfl : n = n' := by omega
    refine Or.inr ⟨i, rfl, by omega, hz, by omega, by omega, fun m hm hne => ?_, fun hs => by omega, fun _ => ⟨n, by omega, by omega, h3⟩⟩
    by_cases e : m = i
    · subst e; omega
    · have := h6 m (by omega) hne; omega
theorem gI_more {c : Nat → Int} {i n : Nat} {so : Int} (h : gI c i n so) (hz : c i ≠ 0) (hl : ¬ c i < c n) : gI c (i + 1) n (so + 1) := by
  rcases h with ⟨h1, _⟩ | ⟨n', h1, h2, h3, h4, h5, h6, h7, h8⟩
  · omega
  · obtain rfl : n = n' := by omega
    refine Or.inr ⟨n, rfl, by omega, h3, by omega, by omega, fun m hm hne => ?_, fun hs => by omega, fun _ => ⟨i, by omega, by omega, hz⟩⟩
    by_cases e : m = i
    · subst e; omega
    · exact h6 m (by omega) hne
section GATHER
variable {xs : List Int32} {fr lo : Nat} {w0 : ax_W} {Q : Outcome → ax_W → Prop}
theorem gather1 {k R : Nat} {s : mo_S} {r : Int → Int} {w : ax_W} {mo3 : Int} (hfr : 2 ≤ fr) (hlo : 60 ≤ lo) (hw : RW w0 w s) (hB : Bg s r) (e1 : s 0 1 = R) (hR : R ≤ 6) (hk : k < 6) (hp : ∀ i : Nat, i ≤ R → 0 ≤ r (100 + 6 * i + k))
    (K : ∀ fo so, gI (fun i => r (100 + 6 * i + k)) (R + 1) fo so → fin xs fr lo 163 79 [some (.ref 425), some (.int (jI k)), some (.int (jI fo)), some (.int (jI mo3)), some (.int (jI so)), some (.int (jI (R + 1)))] [] w Q) :
    ∀ (d i : Nat) (fo so : Int), i + d = R + 1 → gI (fun i => r (100 + 6 * i + k)) i fo so → fin xs fr lo 163 16 [some (.ref 425), some (.int (jI k)), some (.int (jI fo)), some (.int (jI mo3)), some (.int (jI so)), some (.int (jI i))] [] w Q := by
  intro d
  induction d with
  | zero =>
    intro i fo so hi hI
    obtain rfl : i = R + 1 := by omega
    refine fi_step (pc' := 18) m_Mo_gather rfl rfl ?_
    refine fi_step (pc' := 19) m_Mo_gather rfl rfl ?_
    refine r_get (p := 22) m_Mo_gather rfl rfl (by assumption) rfl ?_
    refine s_ic_gt (p := 25) m_Mo_gather rfl rfl (by omega) (by omega) (by omega) (by omega) (fun hbr => ?_) (fun hbr => False.elim (by omega))
    exact K fo so hI
  | succ d ih =>
    intro i fo so hi hI
    have hfo : -1 ≤ fo ∧ fo < i ∧ 0 ≤ so ∧ so ≤ i := by
      rcases hI with ⟨h1, h2, _⟩ | ⟨n, h1, h2, _, h4, h5, _⟩ <;> omega
    refine fi_step (pc' := 18) m_Mo_gather rfl rfl ?_
    refine fi_step (pc' := 19) m_Mo_gather rfl rfl ?_
    refine r_get (p := 22) m_Mo_gather rfl rfl (by assumption) rfl ?_
    refine s_ic_gt (p := 25) m_Mo_gather rfl rfl (by omega) (by omega) (by omega) (by omega) (fun hbr => False.elim (by omega)) (fun hbr => ?_)
    refine fi_step (pc' := 26) m_Mo_gather rfl rfl ?_
    refine fi_step (pc' := 27) m_Mo_gather rfl rfl ?_
    refine fi_step (pc' := 29) m_Mo_gather rfl rfl ?_
    refine fi_step (pc' := 30) m_Mo_gather rfl rfl ?_
    refine c_3 (p := 33) m_Mo_gather rfl inv_v (by decide) m_Mo_cell rfl rfl (by omega) (by omega) (Nat.le_of_ble_eq_true rfl) (Nat.le_of_ble_eq_true rfl) (RW_rcv hw _) c_cell ?_
    refine c_2 (p := 36) m_Mo_gather rfl inv_v (by decide) m_Mo_bigIsZero rfl rfl (by omega) (by omega) (Nat.le_of_ble_eq_true rfl) (Nat.le_of_ble_eq_true rfl) (RW_rcv hw _) (c_isZ hw hB (by omega) (by omega)) ?_
    by_cases hz : r (100 + 6 * i + k) = 0
    · rw [if_pos hz]
      refine s_if_ne (p := 39) m_Mo_gather rfl rfl (by omega) (by omega) (fun hbr => ?_) (fun hbr => False.elim (by omega))
      refine s_iinc (p := 76) m_Mo_gather rfl rfl rfl ?_
      refine fi_step (pc' := 16) m_Mo_gather rfl rfl ?_
      exact ih (i + 1) fo so (by omega) (gI_zero hI hz)
    · rw [if_neg hz]
      refine s_if_ne (p := 39) m_Mo_gather rfl rfl (by omega) (by omega) (fun hbr => False.elim (by omega)) (fun hbr => ?_)
      refine s_iinc (p := 42) m_Mo_gather rfl rfl rfl ?_
      refine fi_step (pc' := 43) m_Mo_gather rfl rfl ?_
      refine s_if_lt (p := 46) m_Mo_gather rfl rfl (by omega) (by omega) (fun hf => ?_) (fun hf => ?_)
      · refine fi_step (pc' := 68) m_Mo_gather rfl rfl ?_
        refine fi_step (pc' := 72) m_Mo_gather rfl rfl ?_
        refine fi_step (pc' := 73) m_Mo_gather rfl rfl ?_
        refine s_iinc (p := 76) m_Mo_gather rfl rfl rfl ?_
        refine fi_step (pc' := 16) m_Mo_gather rfl rfl ?_
        exact ih (i + 1) i (so + 1) (by omega) (gI_first hI hf hz)
      · obtain ⟨n, rfl⟩ : ∃ n : Nat, fo = n := ⟨fo.toNat, by omega⟩
        have pi := hp i (by omega)
        have pn := hp n (by omega)
        refine fi_step (pc' := 47) m_Mo_gather rfl rfl ?_
        refine fi_step (pc' := 48) m_Mo_gather rfl rfl ?_
        refine fi_step (pc' := 50) m_Mo_gather rfl rfl ?_
        refine fi_step (pc' := 51) m_Mo_gather rfl rfl ?_
        refine c_3 (p := 54) m_Mo_gather rfl inv_v (by decide) m_Mo_cell rfl rfl (by omega) (by omega) (Nat.le_of_ble_eq_true rfl) (Nat.le_of_ble_eq_true rfl) (RW_rcv hw _) c_cell ?_
        refine fi_step (pc' := 55) m_Mo_gather rfl rfl ?_
        refine fi_step (pc' := 56) m_Mo_gather rfl rfl ?_
        refine fi_step (pc' := 57) m_Mo_gather rfl rfl ?_
        refine c_3 (p := 60) m_Mo_gather rfl inv_v (by decide) m_Mo_cell rfl rfl (by omega) (by omega) (Nat.le_of_ble_eq_true rfl) (Nat.le_of_ble_eq_true rfl) (RW_rcv hw _) c_cell ?_
        refine c_3 (p := 63) m_Mo_gather rfl inv_v (by decide) m_Mo_bigSizes rfl rfl (by omega) (by omega) (Nat.le_of_ble_eq_true rfl) (Nat.le_of_ble_eq_true rfl) (RW_rcv hw _) (c_bigCmp (by omega) (by omega) hw hB (by omega) (by omega) (by omega) (by omega)) ?_
        rw [Int.natAbs_of_nonneg pi, Int.natAbs_of_nonneg pn]
        by_cases hl : r (100 + 6 * i + k) < r (100 + 6 * n + k)
        · rw [if_pos hl]
          refine s_if_ge (p := 66) m_Mo_gather rfl rfl (by omega) (by omega) (fun hbr => False.elim (by omega)) (fun hbr => ?_)
          refine fi_step (pc' := 68) m_Mo_gather rfl rfl ?_
          refine fi_step (pc' := 72) m_Mo_gather rfl rfl ?_
          refine fi_step (pc' := 73) m_Mo_gather rfl rfl ?_
          refine s_iinc (p := 76) m_Mo_gather rfl rfl rfl ?_
          refine fi_step (pc' := 16) m_Mo_gather rfl rfl ?_
          exact ih (i + 1) i (so + 1) (by omega) (gI_less hI hz hl)
        · rw [if_neg hl]
          have hc : (if r (100 + 6 * i + k) = r (100 + 6 * n + k) then (0 : Int) else 1) = 0 ∨ (if r (100 + 6 * i + k) = r (100 + 6 * n + k) then (0 : Int) else 1) = 1 := by split <;> simp
          refine s_if_ge (p := 66) m_Mo_gather rfl rfl (by omega) (by omega) (fun hbr => ?_) (fun hbr => False.elim (by omega))
          refine fi_step (pc' := 72) m_Mo_gather rfl rfl ?_
          refine fi_step (pc' := 73) m_Mo_gather rfl rfl ?_
          refine s_iinc (p := 76) m_Mo_gather rfl rfl rfl ?_
          refine fi_step (pc' := 16) m_Mo_gather rfl rfl ?_
          exact ih (i + 1) n (so + 1) (by omega) (gI_more hI hz hl)
/-- what stays when the pool's rows are changed from column k on -/
def kP (r r' : Int → Int) (R k f : Nat) : Prop := ∀ j : Int, (j < 268 ∨ j = 275) → (∀ i e : Nat, i ≤ R → k ≤ e → e < f → j ≠ 100 + 6 * i + e) → r' j = r j
theorem gather2 {k R f n : Nat} {D so : Int} {S : mo_S} {R0 : Int → Int} (hfr : 5 ≤ fr) (hlo : 190 ≤ lo) (e1 : S 0 1 = R) (hR : R ≤ 6) (h3 : S 0 3 = f) (hf : f ≤ 6) (hk : k < f) (hn : n ≤ R) (D0 : 0 < D) (D1 : D ≤ MBND) (hnz : R0 (100 + 6 * n + k) ≠ 0) (hmin : ∀ i : Nat, i ≤ R → R0 (100 + 6 * i + k) ≠ 0 → R0 (100 + 6 * n + k) ≤ R0 (100 + 6 * i + k)) (hso : -10 ≤ so ∧ so ≤ 10)
    (K : ∀ w s r, RW w0 w s → oth S s → Bg s r → r 276 = D → inP r D R k f → r (100 + 6 * n + k) = R0 (100 + 6 * n + k) → (∀ A, spEq (A ++ GL R0 D R k f) (A ++ GL r D R k f)) → sumP (fun i => r (100 + 6 * i + k)) (R + 1) < sumP (fun i => R0 (100 + 6 * i + k)) (R + 1) → kP R0 r R k f → ∀ y5, fin xs fr lo 163 141 [some (.ref 425), some (.int (jI k)), some (.int (jI n)), some (.int (jI 1)), some (.int (jI so)), y5] [] w Q) :
    ∀ (d i : Nat) (w : ax_W) (s : mo_S) (r : Int → Int), i + d = R + 1 → RW w0 w s → oth S s → Bg s r → r 276 = D → inP r D R k f → r (100 + 6 * n + k) = R0 (100 + 6 * n + k) → (∀ A, spEq (A ++ GL R0 D R k f) (A ++ GL r D R k f)) → (∀ m : Nat, i ≤ m → m ≤ R → r (100 + 6 * m + k) = R0 (100 + 6 * m + k)) → (sumP (fun i => r (100 + 6 * i + k)) (R + 1) < sumP (fun i => R0 (100 + 6 * i + k)) (R + 1) ∨ (sumP (fun i => r (100 + 6 * i + k)) (R + 1) = sumP (fun i => R0 (100 + 6 * i + k)) (R + 1) ∧ ∃ m : Nat, i ≤ m ∧ m ≤ R ∧ m ≠ n ∧ R0 (100 + 6 * m + k) ≠ 0)) → kP R0 r R k f →
    fin xs fr lo 163 94 [some (.ref 425), some (.int (jI k)), some (.int (jI n)), some (.int (jI 1)), some (.int (jI so)), some (.int (jI i))] [] w Q := by
  intro d
  induction d with
  | zero =>
    intro i w s r hi hw ho hB hD hPo vn hsp hst hm hk'
    have e1' : s 0 1 = R := by rw [ho 0 (by decide) (by decide) (by decide)]; exact e1
    obtain rfl : i = R + 1 := by omega
    have hm' : sumP (fun i => r (100 + 6 * i + k)) (R + 1) < sumP (fun i => R0 (100 + 6 * i + k)) (R + 1) := by
      rcases hm with h | ⟨_, m, h1, h2, _⟩
      · exact h
      · omega
    refine fi_step (pc' := 96) m_Mo_gather rfl rfl ?_
    refine fi_step (pc' := 97) m_Mo_gather rfl rfl ?_
    refine r_get (p := 100) m_Mo_gather rfl rfl (by assumption) rfl ?_
    refine s_ic_gt (p := 103) m_Mo_gather rfl rfl (by omega) (by omega) (by omega) (by omega) (fun hbr => ?_) (fun hbr => False.elim (by omega))
    exact K w s r hw ho hB hD hPo vn hsp hm' hk' _
  | succ d ih =>
    intro i w s r hi hw ho hB hD hPo vn hsp hst hm hk'
    have e1' : s 0 1 = R := by rw [ho 0 (by decide) (by decide) (by decide)]; exact e1
    have vi := hst i (by omega) (by omega)
    have skip : (i = n ∨ R0 (100 + 6 * i + k) = 0) → fin xs fr lo 163 94 [some (.ref 425), some (.int (jI k)), some (.int (jI n)), some (.int (jI 1)), some (.int (jI so)), some (.int (jI (i + 1)))] [] w Q := by
      intro hs
      refine ih (i + 1) w s r (by omega) hw ho hB hD hPo vn hsp (fun m h1 h2 => hst m (by omega) h2) ?_ hk'
      rcases hm with h | ⟨h, m, h1, h2, h3', h4⟩
      · exact Or.inl h
      · refine Or.inr ⟨h, m, ?_, h2, h3', h4⟩
        refine Classical.byContradiction (fun hne => ?_)
        obtain rfl : m = i := by omega
        rcases hs with e | e
        · exact h3' e
        · exact h4 e
    refine fi_step (pc' := 96) m_Mo_gather rfl rfl ?_
    refine fi_step (pc' := 97) m_Mo_gather rfl rfl ?_
    refine r_get (p := 100) m_Mo_gather rfl rfl (by assumption) rfl ?_
    refine s_ic_gt (p := 103) m_Mo_gather rfl rfl (by omega) (by omega) (by omega) (by omega) (fun hbr => False.elim (by omega)) (fun hbr => ?_)
    refine fi_step (pc' := 104) m_Mo_gather rfl rfl ?_
    refine s_if_eq (p := 107) m_Mo_gather rfl rfl (by omega) (by omega) (fun hbr => False.elim (by omega)) (fun hbr => ?_)
    refine fi_step (pc' := 109) m_Mo_gather rfl rfl ?_
    refine fi_step (pc' := 110) m_Mo_gather rfl rfl ?_
    refine s_ic_eq (p := 113) m_Mo_gather rfl rfl (by omega) (by omega) (by omega) (by omega) (fun hfn => ?_) (fun hfn => ?_)
    · refine s_iinc (p := 138) m_Mo_gather rfl rfl rfl ?_
      refine fi_step (pc' := 94) m_Mo_gather rfl rfl ?_
      exact skip (Or.inl (by omega))
    · refine fi_step (pc' := 114) m_Mo_gather rfl rfl ?_
      refine fi_step (pc' := 115) m_Mo_gather rfl rfl ?_
      refine fi_step (pc' := 117) m_Mo_gather rfl rfl ?_
      refine fi_step (pc' := 118) m_Mo_gather rfl rfl ?_
      refine c_3 (p := 121) m_Mo_gather rfl inv_v (by decide) m_Mo_cell rfl rfl (by omega) (by omega) (Nat.le_of_ble_eq_true rfl) (Nat.le_of_ble_eq_true rfl) (RW_rcv hw _) c_cell ?_
      refine c_2 (p := 124) m_Mo_gather rfl inv_v (by decide) m_Mo_bigIsZero rfl rfl (by omega) (by omega) (Nat.le_of_ble_eq_true rfl) (Nat.le_of_ble_eq_true rfl) (RW_rcv hw _) (c_isZ hw hB (by omega) (by omega)) ?_
      rw [vi]
      by_cases hz : R0 (100 + 6 * i + k) = 0
      · rw [if_pos hz]
        refine s_if_ne (p := 127) m_Mo_gather rfl rfl (by omega) (by omega) (fun hbr => ?_) (fun hbr => False.elim (by omega))
        refine s_iinc (p := 138) m_Mo_gather rfl rfl rfl ?_
        refine fi_step (pc' := 94) m_Mo_gather rfl rfl ?_
        exact skip (Or.inr hz)
      · rw [if_neg hz]
        have pn := hPo n k hn (by omega) hk
        have pi := hPo i k (by omega) (by omega) hk
        have hle := hmin i (by omega) hz
        refine s_if_ne (p := 127) m_Mo_gather rfl rfl (by omega) (by omega) (fun hbr => False.elim (by omega)) (fun hbr => ?_)
        refine fi_step (pc' := 128) m_Mo_gather rfl rfl ?_
        refine fi_step (pc' := 130) m_Mo_gather rfl rfl ?_
        refine fi_step (pc' := 131) m_Mo_gather rfl rfl ?_
        refine fi_step (pc' := 132) m_Mo_gather rfl rfl ?_
        refine g_4 (p := 135) m_Mo_gather rfl inv_v (by decide) m_Mo_lose rfl rfl (by omega) (by omega) (Nat.le_of_ble_eq_true rfl) (Nat.le_of_ble_eq_true rfl) (RW_rcv hw _) (c_lose (i := i) (b := n) (k := k) (f := f) (R := R) (D := D) (by omega) (by omega) hw hB (by rw [ho 0 (by decide) (by decide) (by decide)]; exact h3) hf hR (by omega) hn hk (by omega) hD D0 D1 hPo (by rw [vn]; exact hnz)) (fun v w hP => ?_)
        obtain ⟨rfl, s1, r1, hw, o1, B1, d1, v1, x1, k1⟩ := hP
        have same : ∀ m e : Nat, m ≤ R → m ≠ i → k ≤ e → e < f → r1 (100 + 6 * m + e) = r (100 + 6 * m + e) := fun m e hm hne h0 h1 => k1 _ (by omega) (fun e' _ _ => by omega)
        rw [vn, vi] at v1
        have p0 : 0 < R0 (100 + 6 * n + k) := by
          have h1 := pn.1
          rw [vn] at h1
          clear hm K ih hst skip
          omega
        have m0 := Int.emod_nonneg (R0 (100 + 6 * i + k)) hnz
        have m1 := Int.emod_lt_of_pos (R0 (100 + 6 * i + k)) p0
        have hsum : sumP (fun i => r1 (100 + 6 * i + k)) (R + 1) < sumP (fun i => r (100 + 6 * i + k)) (R + 1) := by
          have e : sumP (fun m => r1 (100 + 6 * m + k)) (R + 1) = sumP (up1 (fun m => r (100 + 6 * m + k)) i (r1 (100 + 6 * i + k))) (R + 1) := sumP_congr (fun m hm => by
            by_cases e : m = i
            · subst e; rw [up1_same]
            · rw [up1_ne _ (by omega)]; exact same m k (by omega) e (by omega) hk)
          rw [e, sumP_up, if_pos (by omega), v1]
          rw [vi]; omega
        refine s_iinc (p := 138) m_Mo_gather rfl rfl rfl ?_
        refine fi_step (pc' := 94) m_Mo_gather rfl rfl ?_
        refine ih (i + 1) w s1 r1 (by omega) hw (oth_trans ho o1) B1 d1 (fun m e hm h0 h1 => ?_) (by rw [same n k hn (by omega) (by omega) hk]; exact vn) (fun A => spEq_trans (hsp A) (lose_sp (by omega) hn (by omega) hk (by rw [vn, vi]; exact v1) x1 same A)) (fun m h1 h2 => by rw [same m k h2 (by omega) (by omega) hk]; exact hst m (by omega) h2) (Or.inl ?_) (fun j j0 j1 => ?_)
        · by_cases e' : m = i
          · subst e'
            by_cases e2 : e = k
            · subst e2; rw [v1]; omega
            · rw [x1 e (by omega) h1]
              have a := Int.emod_nonneg (r (100 + 6 * m + e) - r (100 + 6 * m + k) / r (100 + 6 * n + k) * r (100 + 6 * n + e)) (show D ≠ 0 by omega)
              have b := Int.emod_lt_of_pos (r (100 + 6 * m + e) - r (100 + 6 * m + k) / r (100 + 6 * n + k) * r (100 + 6 * n + e)) D0
              omega
          · rw [same m e hm e' h0 h1]; exact hPo m e hm h0 h1
        · rcases hm with h | ⟨h, _⟩ <;> omega
        · rw [k1 j j0 (fun e' h0 h1 => j1 i e' (by omega) h0 h1)]; exact hk' j j0 j1
theorem gather_out {k R f : Nat} {D : Int} {S : mo_S} {R0 : Int → Int} (hfr : 5 ≤ fr) (hlo : 190 ≤ lo) (e1 : S 0 1 = R) (hR : R ≤ 6) (h3 : S 0 3 = f) (hf : f ≤ 6) (hk : k < f) (D0 : 0 < D) (D1 : D ≤ MBND) :
    ∀ (t : Nat) (fo : Int) (y4 y5 : Option Value) (w : ax_W) (s : mo_S) (r : Int → Int), sumP (fun i => r (100 + 6 * i + k)) (R + 1) ≤ t → RW w0 w s → oth S s → Bg s r → r 276 = D → inP r D R k f → (∃ i : Nat, i ≤ R ∧ r (100 + 6 * i + k) ≠ 0) → (∀ A, spEq (A ++ GL R0 D R k f) (A ++ GL r D R k f)) → kP R0 r R k f →
    fin xs fr lo 163 4 [some (.ref 425), some (.int (jI k)), some (.int (jI fo)), some (.int (jI 1)), y4, y5] [] w (Ret fun u w' => ∃ (n : Nat) (s' : mo_S) (r' : Int → Int), u = some (.int (jI n)) ∧ n ≤ R ∧ RW w0 w' s' ∧ oth S s' ∧ Bg s' r' ∧ r' 276 = D ∧ inP r' D R k f ∧ r' (100 + 6 * n + k) ≠ 0 ∧ (∀ i : Nat, i ≤ R → i ≠ n → r' (100 + 6 * i + k) = 0) ∧ (∀ A, spEq (A ++ GL R0 D R k f) (A ++ GL r' D R k f)) ∧ kP R0 r' R k f) := by
  intro t
  induction t with
  | zero =>
    intro fo y4 y5 w s r ht hw ho hB hD hPo ⟨i, hi, hne⟩ hsp hkp
    exfalso
    have nn : ∀ m : Nat, m < R + 1 → 0 ≤ r (100 + 6 * m + k) := fun m hm => (hPo m k (by omega) (by omega) hk).1
    have key : ∀ n : Nat, n ≤ R + 1 → i < n → r (100 + 6 * i + k) ≤ sumP (fun i => r (100 + 6 * i + k)) n := by
      intro n
      induction n with
      | zero => intro _ h; omega
      | succ n ihn =>
        intro h1 h2
        rw [sumP]
        have := nn n (by omega)
        have := sumP_nn (f := fun i => r (100 + 6 * i + k)) (n := n) (fun m hm => nn m (by omega))
        by_cases e : i = n
        · subst e; omega
        · have := ihn (by omega) (by omega); omega
    have := key (R + 1) (by omega) (by omega)
    have := nn i (by omega)
    omega
  | succ t ih =>
    intro fo y4 y5 w s r ht hw ho hB hD hPo hex hsp hkp
    have e1' : s 0 1 = R := by rw [ho 0 (by decide) (by decide) (by decide)]; exact e1
    refine fi_step (pc' := 5) m_Mo_gather rfl rfl ?_
    refine s_if_eq (p := 8) m_Mo_gather rfl rfl (by omega) (by omega) (fun hbr => False.elim (by omega)) (fun hbr => ?_)
    refine fi_step (pc' := 9) m_Mo_gather rfl rfl ?_
    refine fi_step (pc' := 10) m_Mo_gather rfl rfl ?_
    refine fi_step (pc' := 11) m_Mo_gather rfl rfl ?_
    refine fi_step (pc' := 13) m_Mo_gather rfl rfl ?_
    refine fi_step (pc' := 14) m_Mo_gather rfl rfl ?_
    refine fi_step (pc' := 16) m_Mo_gather rfl rfl ?_
    refine gather1 (R := R) (k := k) (by omega) (by omega) hw hB e1' hR (by omega) (fun i hi => (hPo i k hi (by omega) hk).1) ?_ (R + 1) 0 (-1) 0 (by omega) (Or.inl ⟨rfl, rfl, fun m hm => by omega⟩)
    intro fo so hI
    rcases hI with ⟨_, _, h3'⟩ | ⟨n, rfl, h2, h3', h4, h5, h6, h7, h8⟩
    · obtain ⟨i, hi, hne⟩ := hex; exact absurd (h3' i (by omega)) hne
    · simp only at h3' h6 h7 h8
      refine fi_step (pc' := 81) m_Mo_gather rfl rfl ?_
      refine fi_step (pc' := 82) m_Mo_gather rfl rfl ?_
      refine s_ic_le (p := 85) m_Mo_gather rfl rfl (by omega) (by omega) (by omega) (by omega) (fun hs => ?_) (fun hs => ?_)
      · have : (0 : Int) ≤ R := by omega
        refine fi_step (pc' := 90) m_Mo_gather rfl rfl ?_
        refine fi_step (pc' := 91) m_Mo_gather rfl rfl ?_
        refine fi_step (pc' := 92) m_Mo_gather rfl rfl ?_
        refine fi_step (pc' := 94) m_Mo_gather rfl rfl ?_
        refine fi_step (pc' := 96) m_Mo_gather rfl rfl ?_
        refine fi_step (pc' := 97) m_Mo_gather rfl rfl ?_
        refine r_get (p := 100) m_Mo_gather rfl rfl (by assumption) rfl ?_
        refine s_ic_gt (p := 103) m_Mo_gather rfl rfl (by omega) (by omega) (by omega) (by omega) (fun hbr => False.elim (by omega)) (fun hbr => ?_)
        refine fi_step (pc' := 104) m_Mo_gather rfl rfl ?_
        refine s_if_eq (p := 107) m_Mo_gather rfl rfl (by omega) (by omega) (fun hbr => ?_) (fun hbr => False.elim (by omega))
        refine fi_step (pc' := 4) m_Mo_gather rfl rfl ?_
        refine fi_step (pc' := 5) m_Mo_gather rfl rfl ?_
        refine s_if_eq (p := 8) m_Mo_gather rfl rfl (by omega) (by omega) (fun hbr => ?_) (fun hbr => False.elim (by omega))
        refine fi_step (pc' := 145) m_Mo_gather rfl rfl ?_
        refine p_reti m_Mo_gather rfl rfl ?_
        exact ⟨n, s, r, rfl, by omega, hw, ho, hB, hD, hPo, h3', fun i hi hne => h7 hs i (by omega) hne, hsp, hkp⟩
      · obtain ⟨m, m1, m2, m3⟩ := h8 (by omega)
        refine fi_step (pc' := 86) m_Mo_gather rfl rfl ?_
        refine fi_step (pc' := 90) m_Mo_gather rfl rfl ?_
        refine fi_step (pc' := 91) m_Mo_gather rfl rfl ?_
        refine fi_step (pc' := 92) m_Mo_gather rfl rfl ?_
        refine fi_step (pc' := 94) m_Mo_gather rfl rfl ?_
        refine gather2 (S := s) (R0 := r) (n := n) (D := D) (f := f) (so := so) hfr hlo e1' hR (by rw [ho 0 (by decide) (by decide) (by decide)]; exact h3) hf hk (by omega) D0 D1 h3' (fun i hi hne => h6 i (by omega) hne) (by omega) ?_ (R + 1) 0 w s r (by omega) hw (oth_refl s) hB hD hPo rfl (fun A => spEq_refl _) (fun m _ _ => rfl) (Or.inr ⟨rfl, m, by omega, by omega, m2, m3⟩) (fun _ _ _ => rfl)
        intro w s1 r1 hw o1 B1 d1 P1 v1 sp1 hm kp1 y5
        refine fi_step (pc' := 4) m_Mo_gather rfl rfl ?_
        exact ih n _ _ w s1 r1 (by omega) hw (oth_trans ho o1) B1 d1 P1 ⟨n, by omega, by rw [v1]; exact h3'⟩ (fun A => spEq_trans (hsp A) (sp1 A)) (fun j j0 j1 => (kp1 j j0 j1).trans (hkp j j0 j1))
theorem c_gather {k R f : Nat} {D : Int} {w : ax_W} {s : mo_S} {r : Int → Int} (hfr : 5 ≤ fr) (hlo : 190 ≤ lo) (hw : RW w0 w s) (hB : Bg s r) (e1 : s 0 1 = R) (hR : R ≤ 6) (h3 : s 0 3 = f) (hf : f ≤ 6) (hk : k < f) (hD : r 276 = D) (D0 : 0 < D) (D1 : D ≤ MBND) (hPo : inP r D R k f) (hex : ∃ i : Nat, i ≤ R ∧ r (100 + 6 * i + k) ≠ 0) :
    fin xs fr lo 163 0 (ax_ent [.ref 425, .int (jI k)] 6) [] w (Ret fun u w' => ∃ (n : Nat) (s' : mo_S) (r' : Int → Int), u = some (.int (jI n)) ∧ n ≤ R ∧ RW w0 w' s' ∧ oth s s' ∧ Bg s' r' ∧ r' 276 = D ∧ inP r' D R k f ∧ r' (100 + 6 * n + k) ≠ 0 ∧ (∀ i : Nat, i ≤ R → i ≠ n → r' (100 + 6 * i + k) = 0) ∧ (∀ A, spEq (A ++ GL r D R k f) (A ++ GL r' D R k f)) ∧ kP r r' R k f) := by
  refine fi_step (pc' := 1) m_Mo_gather rfl rfl ?_
  refine fi_step (pc' := 2) m_Mo_gather rfl rfl ?_
  refine fi_step (pc' := 3) m_Mo_gather rfl rfl ?_
  refine fi_step (pc' := 4) m_Mo_gather rfl rfl ?_
  have nn := sumP_nn (f := fun i => r (100 + 6 * i + k)) (n := R + 1) (fun m hm => (hPo m k (by omega) (by omega) hk).1)
  exact gather_out (R0 := r) hfr hlo e1 hR h3 hf hk D0 D1 (sumP (fun i => r (100 + 6 * i + k)) (R + 1)).toNat (-1) none none w s r (by omega) hw (oth_refl s) hB hD hPo hex (fun A => spEq_refl _) (fun _ _ _ => rfl)
end GATHER
