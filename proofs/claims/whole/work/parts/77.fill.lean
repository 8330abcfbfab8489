/-! THE REFERENCE: the other columns of the form -/
theorem mnr_bd {g p : Int → Int} {R C : Nat} {y : Int} (hR : R ≤ 6) (hp : ∀ k : Nat, k < (els 6 y).length → 0 ≤ p k ∧ p k < C) (hg : ∀ i j : Int, 0 ≤ i → i < R → 0 ≤ j → j < C → ((g (12 * i + j)).natAbs : Int) ≤ 1000000000000000000) (y0 : 0 ≤ y) (y1 : y < 2 ^ R) : ((mnr g p y).natAbs : Int) ≤ MBND := by
  have hln := els_len y 6
  unfold mnr
  rw [detC_eq _ _ _ rfl (by rw [List.length_map, plist_len])]
  have := det_bound (b := 1000000000000000000) (by decide) (vs := (els 6 y).map (fun i j => g (12 * i + j))) (J := plist p (els 6 y).length) (by rw [List.length_map, plist_len]) (fun v hv j hj => by
    obtain ⟨i, hi, rfl⟩ := List.mem_map.mp hv
    obtain ⟨k, hk, rfl⟩ := plist_mem.mp hj
    rw [← S_cut y0 hR y1] at hi
    have := hp k hk
    exact hg i _ (els_mem hi).1 (els_mem hi).2 this.1 this.2)
  rw [plist_len] at this
  have h6 := fac6 ⟨(els 6 y).length, by omega⟩
  simp only at h6
  unfold MBND
  omega
theorem exact_div {b x : Int} (hb : b ≠ 0) : (((b * x).natAbs : Int) / (b.natAbs : Int)) = (x.natAbs : Int) := by
  rw [Int.natAbs_mul, Int.natCast_mul, Int.mul_ediv_cancel_left _ (by omega)]
section FILL
variable {xs : List Int32} {fr lo : Nat} {w0 : ax_W} {Q : Outcome → ax_W → Prop}
theorem fill_flag {j : Int} {f : Nat} {s : mo_S} {w : ax_W} {y4 : Option Value} (hw : RW w0 w s) (h3 : s 0 3 = f) (hf : f ≤ 6) (j0 : 0 ≤ j) (j1 : j < 12) (hl : ∀ k : Nat, k < f → 0 ≤ s 9 k ∧ s 9 k < 12)
    (K : ∀ l : Int, (l = 1 ∧ ∃ k : Nat, k < f ∧ s 9 k = j) ∨ (l = 0 ∧ ∀ k : Nat, k < f → s 9 k ≠ j) → fin xs fr lo 167 48 [some (.ref 425), some (.int (jI j)), some (.int (jI l)), some (.int (jI f)), y4] [] w Q) :
    ∀ (d k : Nat) (l : Int), k + d = f → (l = 1 ∧ ∃ k' : Nat, k' < k ∧ s 9 k' = j) ∨ (l = 0 ∧ ∀ k' : Nat, k' < k → s 9 k' ≠ j) → fin xs fr lo 167 14 [some (.ref 425), some (.int (jI j)), some (.int (jI l)), some (.int (jI k)), y4] [] w Q := by
  intro d
  induction d with
  | zero =>
    intro k l hk hl'
    obtain rfl : k = f := by omega
    refine fi_step (pc' := 15) m_Mo_fill rfl rfl ?_
    refine fi_step (pc' := 16) m_Mo_fill rfl rfl ?_
    refine r_get (p := 19) m_Mo_fill rfl rfl (by assumption) rfl ?_
    refine s_ic_ge (p := 22) m_Mo_fill rfl rfl (by omega) (by omega) (by omega) (by omega) (fun hbr => ?_) (fun hbr => False.elim (by omega))
    exact K l hl'
  | succ d ih =>
    intro k l hk hl'
    have l1 := hl k (by omega)
    rcases hl' with ⟨rfl, k', h1, h2⟩ | ⟨rfl, h⟩
    · refine fi_step (pc' := 15) m_Mo_fill rfl rfl ?_
      refine fi_step (pc' := 16) m_Mo_fill rfl rfl ?_
      refine r_get (p := 19) m_Mo_fill rfl rfl (by assumption) rfl ?_
      refine s_ic_ge (p := 22) m_Mo_fill rfl rfl (by omega) (by omega) (by omega) (by omega) (fun hbr => False.elim (by omega)) (fun hbr => ?_)
      refine fi_step (pc' := 23) m_Mo_fill rfl rfl ?_
      refine s_if_ne (p := 26) m_Mo_fill rfl rfl (by omega) (by omega) (fun hbr => ?_) (fun hbr => False.elim (by omega))
      refine fi_step (pc' := 37) m_Mo_fill rfl rfl ?_
      refine fi_step (pc' := 41) m_Mo_fill rfl rfl ?_
      refine fi_step (pc' := 42) m_Mo_fill rfl rfl ?_
      refine s_iinc (p := 45) m_Mo_fill rfl rfl rfl ?_
      refine fi_step (pc' := 14) m_Mo_fill rfl rfl ?_
      exact ih (k + 1) 1 (by omega) (Or.inl ⟨rfl, k', by omega, h2⟩)
    · refine fi_step (pc' := 15) m_Mo_fill rfl rfl ?_
      refine fi_step (pc' := 16) m_Mo_fill rfl rfl ?_
      refine r_get (p := 19) m_Mo_fill rfl rfl (by assumption) rfl ?_
      refine s_ic_ge (p := 22) m_Mo_fill rfl rfl (by omega) (by omega) (by omega) (by omega) (fun hbr => False.elim (by omega)) (fun hbr => ?_)
      refine fi_step (pc' := 23) m_Mo_fill rfl rfl ?_
      refine s_if_ne (p := 26) m_Mo_fill rfl rfl (by omega) (by omega) (fun hbr => False.elim (by omega)) (fun hbr => ?_)
      refine fi_step (pc' := 27) m_Mo_fill rfl rfl ?_
      refine r_get (p := 30) m_Mo_fill rfl rfl (by assumption) rfl ?_
      refine fi_step (pc' := 31) m_Mo_fill rfl rfl ?_
      refine r_ldI (p := 32) m_Mo_fill rfl rfl (by assumption) (by decide) rfl (by decide) (by omega) (by omega) ?_
      refine fi_step (pc' := 33) m_Mo_fill rfl rfl ?_
      refine s_ic_ne (p := 36) m_Mo_fill rfl rfl (by omega) (by omega) (by omega) (by omega) (fun hj => ?_) (fun hj => ?_)
      · refine fi_step (pc' := 41) m_Mo_fill rfl rfl ?_
        refine fi_step (pc' := 42) m_Mo_fill rfl rfl ?_
        refine s_iinc (p := 45) m_Mo_fill rfl rfl rfl ?_
        refine fi_step (pc' := 14) m_Mo_fill rfl rfl ?_
        refine ih (k + 1) 0 (by omega) (Or.inr ⟨rfl, fun k' hk' => ?_⟩)
        by_cases e : k' = k
        · subst e; exact hj
        · exact h k' (by omega)
      · refine fi_step (pc' := 37) m_Mo_fill rfl rfl ?_
        refine fi_step (pc' := 41) m_Mo_fill rfl rfl ?_
        refine fi_step (pc' := 42) m_Mo_fill rfl rfl ?_
        refine s_iinc (p := 45) m_Mo_fill rfl rfl rfl ?_
        refine fi_step (pc' := 14) m_Mo_fill rfl rfl ?_
        exact ih (k + 1) 1 (by omega) (Or.inl ⟨rfl, k, by omega, hj⟩)
theorem fill_zero {j : Int} {f : Nat} {S : mo_S} {R0 : Int → Int} {y4 : Option Value} (hfr : 3 ≤ fr) (hlo : 120 ≤ lo) (h3 : S 0 3 = f) (hf : f ≤ 6) (j0 : 0 ≤ j) (j1 : j < 12)
    (K : ∀ w s r, RW w0 w s → oth S s → Bg s r → (∀ i : Nat, i < f → r (184 + 12 * i + j) = 0) → (∀ n : Int, (∀ i : Nat, i < f → n ≠ 184 + 12 * i + j) → r n = R0 n) → fin xs fr lo 167 83 [some (.ref 425), some (.int (jI j)), some (.int (jI 0)), some (.int (jI f)), y4] [] w Q) :
    ∀ (d i : Nat) (w : ax_W) (s : mo_S) (r : Int → Int), i + d = f → RW w0 w s → oth S s → Bg s r → (∀ i' : Nat, i' < i → r (184 + 12 * i' + j) = 0) → (∀ n : Int, (∀ i' : Nat, i' < i → n ≠ 184 + 12 * i' + j) → r n = R0 n) →
    fin xs fr lo 167 50 [some (.ref 425), some (.int (jI j)), some (.int (jI 0)), some (.int (jI i)), y4] [] w Q := by
  intro d
  induction d with
  | zero =>
    intro i w s r hi hw ho hB hz hr
    have h3' : s 0 3 = f := by rw [ho 0 (by decide) (by decide) (by decide)]; exact h3
    obtain rfl : i = f := by omega
    refine fi_step (pc' := 51) m_Mo_fill rfl rfl ?_
    refine fi_step (pc' := 52) m_Mo_fill rfl rfl ?_
    refine r_get (p := 55) m_Mo_fill rfl rfl (by assumption) rfl ?_
    refine s_ic_ge (p := 58) m_Mo_fill rfl rfl (by omega) (by omega) (by omega) (by omega) (fun hbr => ?_) (fun hbr => False.elim (by omega))
    exact K w s r hw ho hB hz hr
  | succ d ih =>
    intro i w s r hi hw ho hB hz hr
    have h3' : s 0 3 = f := by rw [ho 0 (by decide) (by decide) (by decide)]; exact h3
    refine fi_step (pc' := 51) m_Mo_fill rfl rfl ?_
    refine fi_step (pc' := 52) m_Mo_fill rfl rfl ?_
    refine r_get (p := 55) m_Mo_fill rfl rfl (by assumption) rfl ?_
    refine s_ic_ge (p := 58) m_Mo_fill rfl rfl (by omega) (by omega) (by omega) (by omega) (fun hbr => False.elim (by omega)) (fun hbr => ?_)
    refine fi_step (pc' := 59) m_Mo_fill rfl rfl ?_
    refine s_if_ne (p := 62) m_Mo_fill rfl rfl (by omega) (by omega) (fun hbr => False.elim (by omega)) (fun hbr => ?_)
    refine fi_step (pc' := 63) m_Mo_fill rfl rfl ?_
    refine s_sipush (p := 66) m_Mo_fill rfl rfl rfl ?_
    refine s_bipush (p := 68) m_Mo_fill rfl rfl rfl ?_
    refine fi_step (pc' := 69) m_Mo_fill rfl rfl ?_
    refine s_imul (p := 70) m_Mo_fill rfl rfl ?_
    refine s_iadd (p := 71) m_Mo_fill rfl rfl ?_
    refine fi_step (pc' := 72) m_Mo_fill rfl rfl ?_
    refine s_iadd (p := 73) m_Mo_fill rfl rfl ?_
    refine s_lconst (p := 74) (v := 0) m_Mo_fill rfl rfl rfl ?_
    refine g_3 (p := 77) m_Mo_fill rfl inv_v (by decide) m_Mo_bigSet rfl rfl (by omega) (by omega) (Nat.le_of_ble_eq_true rfl) (Nat.le_of_ble_eq_true rfl) (RW_rcv hw _) (c_bigSet hw hB (by omega) (by omega) (by decide) (by decide)) (fun v w hP => ?_)
    obtain ⟨rfl, s1, hw, o1, B1⟩ := hP
    refine s_iinc (p := 80) m_Mo_fill rfl rfl rfl ?_
    refine fi_step (pc' := 50) m_Mo_fill rfl rfl ?_
    refine ih (i + 1) w s1 _ (by omega) hw (oth_trans ho o1) B1 (fun i' h => ?_) (fun n hn => ?_)
    · by_cases e : i' = i
      · subst e; rw [up1_same]
      · rw [up1_ne _ (by omega)]; exact hz i' (by omega)
    · rw [up1_ne _ (hn i (by omega))]; exact hr n (fun i' h => hn i' (by omega))
theorem fill_pick {j : Int} {k f : Nat} {S : mo_S} (h3 : S 0 3 = f) (hf : f ≤ 6) (hk : k < f)
    (K : ∀ w s, RW w0 w s → (∀ a, a ≠ 8 → s a = S a) → (∀ e : Nat, e < f → s 8 e = up1 (S 9) k j e) → fin xs fr lo 167 139 [some (.ref 425), some (.int (jI j)), some (.int (jI 0)), some (.int (jI k)), some (.int (jI f))] [] w Q) :
    ∀ (d e : Nat) (w : ax_W) (s : mo_S), e + d = f → RW w0 w s → (∀ a, a ≠ 8 → s a = S a) → (∀ e' : Nat, e' < e → s 8 e' = up1 (S 9) k j e') →
    fin xs fr lo 167 100 [some (.ref 425), some (.int (jI j)), some (.int (jI 0)), some (.int (jI k)), some (.int (jI e))] [] w Q := by
  intro d
  induction d with
  | zero =>
    intro e w s he hw ho hp
    have h3' : s 0 3 = f := by rw [ho 0 (by decide)]; exact h3
    obtain rfl : e = f := by omega
    refine fi_step (pc' := 102) m_Mo_fill rfl rfl ?_
    refine fi_step (pc' := 103) m_Mo_fill rfl rfl ?_
    refine r_get (p := 106) m_Mo_fill rfl rfl (by assumption) rfl ?_
    refine s_ic_ge (p := 109) m_Mo_fill rfl rfl (by omega) (by omega) (by omega) (by omega) (fun hbr => ?_) (fun hbr => False.elim (by omega))
    exact K w s hw ho hp
  | succ d ih =>
    intro e w s he hw ho hp
    have h3' : s 0 3 = f := by rw [ho 0 (by decide)]; exact h3
    have e9 : s 9 = S 9 := ho 9 (by decide)
    refine fi_step (pc' := 102) m_Mo_fill rfl rfl ?_
    refine fi_step (pc' := 103) m_Mo_fill rfl rfl ?_
    refine r_get (p := 106) m_Mo_fill rfl rfl (by assumption) rfl ?_
    refine s_ic_ge (p := 109) m_Mo_fill rfl rfl (by omega) (by omega) (by omega) (by omega) (fun hbr => False.elim (by omega)) (fun hbr => ?_)
    refine fi_step (pc' := 110) m_Mo_fill rfl rfl ?_
    refine r_get (p := 113) m_Mo_fill rfl rfl (by assumption) rfl ?_
    refine fi_step (pc' := 115) m_Mo_fill rfl rfl ?_
    refine fi_step (pc' := 117) m_Mo_fill rfl rfl ?_
    refine fi_step (pc' := 118) m_Mo_fill rfl rfl ?_
    refine s_ic_ne (p := 121) m_Mo_fill rfl rfl (by omega) (by omega) (by omega) (by omega) (fun hek => ?_) (fun hek => ?_)
    · refine fi_step (pc' := 126) m_Mo_fill rfl rfl ?_
      refine r_get (p := 129) m_Mo_fill rfl rfl (by assumption) rfl ?_
      refine fi_step (pc' := 131) m_Mo_fill rfl rfl ?_
      refine r_ldI (p := 132) m_Mo_fill rfl rfl (by assumption) (by decide) rfl (by decide) (by omega) (by omega) ?_
      refine r_stI (p := 133) m_Mo_fill rfl rfl (by assumption) (by decide) (fun _ => rfl) (by decide) (by omega) (by omega) (fun w hw => ?_)
      refine s_iinc (p := 136) m_Mo_fill rfl rfl rfl ?_
      refine fi_step (pc' := 100) m_Mo_fill rfl rfl ?_
      refine ih (e + 1) w _ (by omega) hw (fun a ha => by rw [up_ne _ ha]; exact ho a ha) (fun e' h => ?_)
      by_cases ee : e' = e
      · subst ee; rw [up_same, up1_same, up1_ne _ (by omega), e9]
      · rw [up_same, up1_ne _ (by omega)]; exact hp e' (by omega)
    · obtain rfl : e = k := by omega
      refine fi_step (pc' := 122) m_Mo_fill rfl rfl ?_
      refine fi_step (pc' := 132) m_Mo_fill rfl rfl ?_
      refine r_stI (p := 133) m_Mo_fill rfl rfl (by assumption) (by decide) (fun _ => rfl) (by decide) (by omega) (by omega) (fun w hw => ?_)
      refine s_iinc (p := 136) m_Mo_fill rfl rfl rfl ?_
      refine fi_step (pc' := 100) m_Mo_fill rfl rfl ?_
      refine ih (e + 1) w _ (by omega) hw (fun a ha => by rw [up_ne _ ha]; exact ho a ha) (fun e' h => ?_)
      by_cases ee : e' = e
      · subst ee; rw [up_same, up1_same, up1_same]
      · rw [up_same, up1_ne _ (by omega)]; exact hp e' (by omega)
theorem fill_mul {j M : Int} {k f R : Nat} {S : mo_S} {R0 : Int → Int} (hfr : 3 ≤ fr) (hlo : 120 ≤ lo) (h3 : S 0 3 = f) (hf : f ≤ 6) (hR : R ≤ 6) (hk : k < f) (j0 : 0 ≤ j) (j1 : j < 12) (b0 : 0 ≤ S 0 4) (b1 : S 0 4 < 2 ^ R) (hl : ∀ k : Nat, k < f → 0 ≤ S 9 k ∧ S 9 k < 12) (hne : ∀ k : Nat, k < f → S 9 k ≠ j) (hM : R0 (36 + S 0 4) = M) (Mb : (M.natAbs : Int) ≤ MBND) (hT : ∀ i : Nat, i < f → ((R0 (184 + 12 * i + S 9 k)).natAbs : Int) ≤ MBND) (hA : ∀ i : Nat, i < f → ((R0 (184 + 12 * i + j)).natAbs : Int) ≤ k * (MBND * MBND))
    (K : ∀ w s r, RW w0 w s → oth S s → Bg s r → (∀ i : Nat, i < f → r (184 + 12 * i + j) = R0 (184 + 12 * i + j) + M * R0 (184 + 12 * i + S 9 k)) → (∀ n : Int, n ≠ 268 → (∀ i : Nat, i < f → n ≠ 184 + 12 * i + j) → r n = R0 n) → fin xs fr lo 167 214 [some (.ref 425), some (.int (jI j)), some (.int (jI 0)), some (.int (jI k)), some (.int (jI f))] [] w Q) :
    ∀ (d i : Nat) (w : ax_W) (s : mo_S) (r : Int → Int), i + d = f → RW w0 w s → oth S s → Bg s r → (∀ i' : Nat, i' < i → r (184 + 12 * i' + j) = R0 (184 + 12 * i' + j) + M * R0 (184 + 12 * i' + S 9 k)) → (∀ n : Int, n ≠ 268 → (∀ i' : Nat, i' < i → n ≠ 184 + 12 * i' + j) → r n = R0 n) →
    fin xs fr lo 167 150 [some (.ref 425), some (.int (jI j)), some (.int (jI 0)), some (.int (jI k)), some (.int (jI i))] [] w Q := by
  have h64 := S_pow hR
  intro d
  induction d with
  | zero =>
    intro i w s r hi hw ho hB hz hr
    have h3' : s 0 3 = f := by rw [ho 0 (by decide) (by decide) (by decide)]; exact h3
    obtain rfl : i = f := by omega
    refine fi_step (pc' := 152) m_Mo_fill rfl rfl ?_
    refine fi_step (pc' := 153) m_Mo_fill rfl rfl ?_
    refine r_get (p := 156) m_Mo_fill rfl rfl (by assumption) rfl ?_
    refine s_ic_ge (p := 159) m_Mo_fill rfl rfl (by omega) (by omega) (by omega) (by omega) (fun hbr => ?_) (fun hbr => False.elim (by omega))
    exact K w s r hw ho hB hz hr
  | succ d ih =>
    intro i w s r hi hw ho hB hz hr
    have e0 : s 0 = S 0 := ho 0 (by decide) (by decide) (by decide)
    have h3' : s 0 3 = f := by rw [e0]; exact h3
    have e4 : s 0 4 = S 0 4 := by rw [e0]
    have e9 : s 9 = S 9 := ho 9 (by decide) (by decide) (by decide)
    have l1 := hl k (by omega)
    have n1 := hne k (by omega)
    have vM : r (36 + S 0 4) = M := by rw [hr _ (by omega) (fun i' h => by omega)]; exact hM
    have vT : r (184 + 12 * i + S 9 k) = R0 (184 + 12 * i + S 9 k) := hr _ (by omega) (fun i' h => by omega)
    have vA : r (184 + 12 * i + j) = R0 (184 + 12 * i + j) := hr _ (by omega) (fun i' h => by omega)
    have bT := hT i (by omega)
    have bA := hA i (by omega)
    have bp := abs_mul_le Mb bT (by decide)
    have hk6 : (k : Int) * (MBND * MBND) ≤ 6 * (MBND * MBND) := Int.mul_le_mul_of_nonneg_right (by omega) (by decide)
    have hrm : MBND * MBND < rm 138 := Int.lt_of_lt_of_le (by decide) (le_rm (i := 40) (by decide))
    have hrm2 : 7 * (MBND * MBND) < rm 140 := Int.lt_of_lt_of_le (by decide) (le_rm (i := 40) (by decide))
    refine fi_step (pc' := 152) m_Mo_fill rfl rfl ?_
    refine fi_step (pc' := 153) m_Mo_fill rfl rfl ?_
    refine r_get (p := 156) m_Mo_fill rfl rfl (by assumption) rfl ?_
    refine s_ic_ge (p := 159) m_Mo_fill rfl rfl (by (first | omega | (rw [e9]; omega))) (by (first | omega | (rw [e9]; omega))) (by (first | omega | (rw [e9]; omega))) (by (first | omega | (rw [e9]; omega))) (fun hbr => False.elim (by (first | omega | (rw [e9]; omega)))) (fun hbr => ?_)
    refine fi_step (pc' := 160) m_Mo_fill rfl rfl ?_
    refine s_sipush (p := 163) m_Mo_fill rfl rfl rfl ?_
    refine s_bipush (p := 165) m_Mo_fill rfl rfl rfl ?_
    refine fi_step (pc' := 166) m_Mo_fill rfl rfl ?_
    refine r_get (p := 169) m_Mo_fill rfl rfl (by assumption) rfl ?_
    refine s_iadd (p := 170) m_Mo_fill rfl rfl ?_
    refine s_sipush (p := 173) m_Mo_fill rfl rfl rfl ?_
    refine s_bipush (p := 175) m_Mo_fill rfl rfl rfl ?_
    refine fi_step (pc' := 177) m_Mo_fill rfl rfl ?_
    refine s_imul (p := 178) m_Mo_fill rfl rfl ?_
    refine s_iadd (p := 179) m_Mo_fill rfl rfl ?_
    refine fi_step (pc' := 180) m_Mo_fill rfl rfl ?_
    refine r_get (p := 183) m_Mo_fill rfl rfl (by assumption) rfl ?_
    refine fi_step (pc' := 184) m_Mo_fill rfl rfl ?_
    refine r_ldI (p := 185) m_Mo_fill rfl rfl (by assumption) (by decide) rfl (by decide) (by (first | omega | (rw [e9]; omega))) (by (first | omega | (rw [e9]; omega))) ?_
    refine s_iadd (p := 186) m_Mo_fill rfl rfl ?_
    rw [e4, e9]
    refine g_4 (p := 189) m_Mo_fill rfl inv_v (by decide) m_Mo_bigProduct rfl rfl (by omega) (by omega) (Nat.le_of_ble_eq_true rfl) (Nat.le_of_ble_eq_true rfl) (RW_rcv hw _) (c_bigProduct (by omega) (by omega) hw hB (by omega) (by omega) (by omega) (by omega) (by omega) (by omega) (by omega) (by omega) (by rw [vM, vT, ← Int.natCast_mul, ← Int.natAbs_mul]; omega)) (fun v w hP => ?_)
    obtain ⟨rfl, s1, hw, o1, B1⟩ := hP
    obtain ⟨r1, B1, u1, k1⟩ : ∃ r1, Bg s1 r1 ∧ r1 268 = M * R0 (184 + 12 * i + S 9 k) ∧ ∀ j : Int, j ≠ 268 → r1 j = r j := ⟨_, B1, by rw [up1_same, vM, vT], fun j hj => up1_ne _ hj _⟩
    have a1 : r1 (184 + 12 * i + j) = R0 (184 + 12 * i + j) := by rw [k1 _ (by omega), vA]
    refine fi_step (pc' := 190) m_Mo_fill rfl rfl ?_
    refine s_sipush (p := 193) m_Mo_fill rfl rfl rfl ?_
    refine s_bipush (p := 195) m_Mo_fill rfl rfl rfl ?_
    refine fi_step (pc' := 197) m_Mo_fill rfl rfl ?_
    refine s_imul (p := 198) m_Mo_fill rfl rfl ?_
    refine s_iadd (p := 199) m_Mo_fill rfl rfl ?_
    refine fi_step (pc' := 200) m_Mo_fill rfl rfl ?_
    refine s_iadd (p := 201) m_Mo_fill rfl rfl ?_
    refine s_sipush (p := 204) m_Mo_fill rfl rfl rfl ?_
    refine fi_step (pc' := 205) m_Mo_fill rfl rfl ?_
    refine g_4 (p := 208) m_Mo_fill rfl inv_v (by decide) m_Mo_bigAdd rfl rfl (by omega) (by omega) (Nat.le_of_ble_eq_true rfl) (Nat.le_of_ble_eq_true rfl) (RW_rcv hw _) (c_bigAdd (l := 0) (by omega) (by omega) hw B1 (by omega) (by omega) (by omega) (by omega) (by omega) (Or.inl rfl) (by rw [u1, a1]; omega)) (fun v w hP => ?_)
    obtain ⟨rfl, s2, hw, o2, B2⟩ := hP
    refine s_iinc (p := 211) m_Mo_fill rfl rfl rfl ?_
    refine fi_step (pc' := 150) m_Mo_fill rfl rfl ?_
    refine ih (i + 1) w s2 _ (by omega) hw (oth_trans ho (oth_trans o1 o2)) B2 (fun i' h => ?_) (fun n n0 hn => ?_)
    · by_cases e : i' = i
      · subst e; rw [up1_same, if_neg (by decide), a1, u1]
      · rw [up1_ne _ (by omega), k1 _ (by omega)]; exact hz i' (by omega)
    · rw [up1_ne _ (hn i (by omega)), k1 n n0]; exact hr n n0 (fun i' h => hn i' (by omega))
theorem fill_k {j : Int} {f R C : Nat} {S : mo_S} {R0 : Int → Int} (hfr : 4 ≤ fr) (hlo : 150 ≤ lo) (e1 : S 0 1 = R) (hR : R ≤ 6) (hC : C ≤ 12) (h3 : S 0 3 = f) (hf : f ≤ 6) (j0 : 0 ≤ j) (j1 : j < C) (b0 : 0 ≤ S 0 4) (b1 : S 0 4 < 2 ^ R) (bl : (els 6 (S 0 4)).length = f) (hl : ∀ k : Nat, k < f → 0 ≤ S 9 k ∧ S 9 k < C) (hne : ∀ k : Nat, k < f → S 9 k ≠ j) (hg : ∀ i j : Int, 0 ≤ i → i < R → 0 ≤ j → j < C → ((S 7 (12 * i + j)).natAbs : Int) ≤ 1000000000000000000) (hT : ∀ i e : Nat, i < f → e < f → ((R0 (184 + 12 * i + S 9 e)).natAbs : Int) ≤ MBND)
    (K : ∀ w s r y4, RW w0 w s → oth8 S s → Bg s r → (∀ i : Nat, i < f → r (184 + 12 * i + j) = sumP (fun k => R0 (184 + 12 * i + S 9 k) * mnr (S 7) (up1 (S 9) k j) (S 0 4)) f) → (∀ n : Int, 100 ≤ n → n ≠ 268 → n ≠ 269 → (∀ i : Nat, i < f → n ≠ 184 + 12 * i + j) → r n = R0 n) → fin xs fr lo 167 220 [some (.ref 425), some (.int (jI j)), some (.int (jI 0)), some (.int (jI f)), y4] [] w Q) :
    ∀ (d k : Nat) (y4 : Option Value) (w : ax_W) (s : mo_S) (r : Int → Int), k + d = f → RW w0 w s → oth8 S s → Bg s r → (∀ i : Nat, i < f → r (184 + 12 * i + j) = sumP (fun k => R0 (184 + 12 * i + S 9 k) * mnr (S 7) (up1 (S 9) k j) (S 0 4)) k) → (∀ n : Int, 100 ≤ n → n ≠ 268 → n ≠ 269 → (∀ i : Nat, i < f → n ≠ 184 + 12 * i + j) → r n = R0 n) →
    fin xs fr lo 167 85 [some (.ref 425), some (.int (jI j)), some (.int (jI 0)), some (.int (jI k)), y4] [] w Q := by
  have h64 := S_pow hR
  have hpk : ∀ k e : Nat, e < f → 0 ≤ up1 (S 9) k j e ∧ up1 (S 9) k j e < C := by
    intro k e he
    by_cases h : e = k
    · subst h; rw [up1_same]; omega
    · rw [up1_ne _ (by omega)]; exact hl e he
  have hmb : ∀ k : Nat, ((mnr (S 7) (up1 (S 9) k j) (S 0 4)).natAbs : Int) ≤ MBND := fun k => mnr_bd hR (fun q hq => hpk k q (by omega)) hg b0 b1
  intro d
  induction d with
  | zero =>
    intro k y4 w s r hk hw ho hB hv hr
    have h3' : s 0 3 = f := by rw [ho 0 (by decide) (by decide) (by decide) (by decide)]; exact h3
    obtain rfl : k = f := by omega
    refine fi_step (pc' := 86) m_Mo_fill rfl rfl ?_
    refine fi_step (pc' := 87) m_Mo_fill rfl rfl ?_
    refine r_get (p := 90) m_Mo_fill rfl rfl (by assumption) rfl ?_
    refine s_ic_ge (p := 93) m_Mo_fill rfl rfl (by omega) (by omega) (by omega) (by omega) (fun hbr => ?_) (fun hbr => False.elim (by omega))
    exact K w s r _ hw ho hB hv hr
  | succ d ih =>
    intro k y4 w s r hk hw ho hB hv hr
    have e0 : s 0 = S 0 := ho 0 (by decide) (by decide) (by decide) (by decide)
    have h3' : s 0 3 = f := by rw [e0]; exact h3
    have e9 : s 9 = S 9 := ho 9 (by decide) (by decide) (by decide) (by decide)
    have e7 : s 7 = S 7 := ho 7 (by decide) (by decide) (by decide) (by decide)
    refine fi_step (pc' := 86) m_Mo_fill rfl rfl ?_
    refine fi_step (pc' := 87) m_Mo_fill rfl rfl ?_
    refine r_get (p := 90) m_Mo_fill rfl rfl (by assumption) rfl ?_
    refine s_ic_ge (p := 93) m_Mo_fill rfl rfl (by omega) (by omega) (by omega) (by omega) (fun hbr => False.elim (by omega)) (fun hbr => ?_)
    refine fi_step (pc' := 94) m_Mo_fill rfl rfl ?_
    refine s_if_ne (p := 97) m_Mo_fill rfl rfl (by omega) (by omega) (fun hbr => False.elim (by omega)) (fun hbr => ?_)
    refine fi_step (pc' := 98) m_Mo_fill rfl rfl ?_
    refine fi_step (pc' := 100) m_Mo_fill rfl rfl ?_
    refine fill_pick (S := s) (k := k) (f := f) h3' hf (by omega) ?_ f 0 w s (by omega) hw (fun _ _ => rfl) (fun e' h => by omega)
    rw [e9]
    intro w s1 hw o1 p1
    have e10 : s1 0 = S 0 := by rw [o1 0 (by decide), e0]
    have e17 : s1 7 = S 7 := by rw [o1 7 (by decide), e7]
    have h31 : s1 0 3 = f := by rw [e10]; exact h3
    have B1 : Bg s1 r := Bg_congr hB (o1 1 (by decide)) (o1 2 (by decide)) (o1 3 (by decide))
    refine fi_step (pc' := 140) m_Mo_fill rfl rfl ?_
    refine fi_step (pc' := 141) m_Mo_fill rfl rfl ?_
    refine r_get (p := 144) m_Mo_fill rfl rfl (by assumption) rfl ?_
    rw [h31]
    refine g_2 (p := 147) m_Mo_fill rfl inv_v (by decide) m_Mo_findMinors rfl rfl (by omega) (by omega) (Nat.le_of_ble_eq_true rfl) (Nat.le_of_ble_eq_true rfl) (RW_rcv hw _) (c_findMinors (n := f) (R := R) (by omega) (by omega) hw B1 (by rw [e10]; exact e1) hR hf (fun q hq => by rw [p1 q hq]; have := hpk k q hq; omega) (fun i c i0 i1 ⟨q, hq, hc⟩ => by rw [e17]; rw [p1 q hq] at hc; have := hpk k q hq; exact hg i c i0 i1 (by omega) (by omega))) (fun v w hP => ?_)
    obtain ⟨rfl, s2, r2, hw, o2, B2, v2, k2⟩ := hP
    have e20 : s2 0 = S 0 := by rw [o2 0 (by decide) (by decide) (by decide), e10]
    have e29 : s2 9 = S 9 := by rw [o2 9 (by decide) (by decide) (by decide), o1 9 (by decide), e9]
    have vm : r2 (36 + S 0 4) = mnr (S 7) (up1 (S 9) k j) (S 0 4) := by
      rw [v2 _ b0 b1, if_pos (by omega), e17]
      unfold mnr
      rw [bl, plist_congr p1]
    have k2' : ∀ n : Int, 100 ≤ n → n ≠ 268 → n ≠ 269 → r2 n = r n := fun n h0 h1 h2 => k2 n (by omega) h1 h2
    have vF : ∀ i e : Nat, i < f → e < f → r2 (184 + 12 * i + S 9 e) = R0 (184 + 12 * i + S 9 e) := fun i e hi he => by
      have := hl e he
      have := hne e he
      rw [k2' _ (by omega) (by omega) (by omega)]
      exact hr _ (by omega) (by omega) (by omega) (fun i' h => by omega)
    have vJ : ∀ i : Nat, i < f → r2 (184 + 12 * i + j) = sumP (fun k => R0 (184 + 12 * i + S 9 k) * mnr (S 7) (up1 (S 9) k j) (S 0 4)) k := fun i hi => by
      rw [k2' _ (by omega) (by omega) (by omega)]; exact hv i hi
    refine fi_step (pc' := 148) m_Mo_fill rfl rfl ?_
    refine fi_step (pc' := 150) m_Mo_fill rfl rfl ?_
    refine fill_mul (S := s2) (R0 := r2) (R := R) (k := k) (f := f) (M := mnr (S 7) (up1 (S 9) k j) (S 0 4)) (by omega) (by omega) (by rw [e20]; exact h3) hf hR (by omega) j0 (by omega) (by rw [e20]; exact b0) (by rw [e20]; exact b1) (by rw [e29]; exact fun k hk => by have := hl k hk; omega) (by rw [e29]; exact hne) (by rw [e20]; exact vm) (hmb k) (fun i hi => by rw [e29, vF i k hi (by omega)]; exact hT i k hi (by omega)) (fun i hi => ?_) ?_ f 0 w s2 r2 (by omega) hw (oth_refl s2) B2 (fun i' h => by omega) (fun _ _ _ => rfl)
    · rw [vJ i hi]
      exact sumP_bound (fun q hq => abs_mul_le (hT i q hi (by omega)) (hmb q) (by decide))
    · rw [e29]
      intro w s3 r3 hw o3 B3 v3 k3
      refine s_iinc (p := 217) m_Mo_fill rfl rfl rfl ?_
      refine fi_step (pc' := 85) m_Mo_fill rfl rfl ?_
      refine ih (k + 1) _ w s3 r3 (by omega) hw (oth8_trans ho (oth8_trans (fun a _ _ _ h8 => o1 a h8) (oth8_trans (oth8_oth o2) (oth8_oth o3)))) B3 (fun i hi => ?_) (fun n n0 n1 n2 n3 => ?_)
      · rw [v3 i hi, vJ i hi, vF i k hi (by omega), sumP, Int.mul_comm (mnr _ _ _)]
      · rw [k3 n n1 n3, k2' n n0 n1 n2]; exact hr n n0 n1 n2 n3
theorem fill_div {j b : Int} {f : Nat} {S : mo_S} {R0 : Int → Int} {X : Nat → Int} (hfr : 3 ≤ fr) (hlo : 120 ≤ lo) (h3 : S 0 3 = f) (hf : f ≤ 6) (j0 : 0 ≤ j) (j1 : j < 12) (hb : b ≠ 0) (h5 : R0 275 = b) (hX : ∀ i : Nat, i < f → R0 (184 + 12 * i + j) = b * X i)
    (K : ∀ w s r y3 y4, RW w0 w s → oth S s → Bg s r → (∀ i : Nat, i < f → r (184 + 12 * i + j) = X i) → (∀ n : Int, n < 268 ∨ 275 ≤ n → (∀ i : Nat, i < f → n ≠ 184 + 12 * i + j) → r n = R0 n) → fin xs fr lo 167 355 [some (.ref 425), some (.int (jI j)), some (.int (jI 0)), y3, y4] [] w Q) :
    ∀ (d i : Nat) (y4 : Option Value) (w : ax_W) (s : mo_S) (r : Int → Int), i + d = f → RW w0 w s → oth S s → Bg s r → (∀ i' : Nat, i' < i → r (184 + 12 * i' + j) = X i') → (∀ n : Int, n < 268 ∨ 275 ≤ n → (∀ i' : Nat, i' < i → n ≠ 184 + 12 * i' + j) → r n = R0 n) →
    fin xs fr lo 167 222 [some (.ref 425), some (.int (jI j)), some (.int (jI 0)), some (.int (jI i)), y4] [] w Q := by
  intro d
  induction d with
  | zero =>
    intro i y4 w s r hi hw ho hB hv hr
    have h3' : s 0 3 = f := by rw [ho 0 (by decide) (by decide) (by decide)]; exact h3
    obtain rfl : i = f := by omega
    refine fi_step (pc' := 223) m_Mo_fill rfl rfl ?_
    refine fi_step (pc' := 224) m_Mo_fill rfl rfl ?_
    refine r_get (p := 227) m_Mo_fill rfl rfl (by assumption) rfl ?_
    refine s_ic_ge (p := 230) m_Mo_fill rfl rfl (by omega) (by omega) (by omega) (by omega) (fun hbr => ?_) (fun hbr => False.elim (by omega))
    exact K w s r _ _ hw ho hB hv hr
  | succ d ih =>
    intro i y4 w s r hi hw ho hB hv hr
    have h3' : s 0 3 = f := by rw [ho 0 (by decide) (by decide) (by decide)]; exact h3
    have vA : r (184 + 12 * i + j) = b * X i := by rw [hr _ (by omega) (fun i' h => by omega)]; exact hX i (by omega)
    have vb : r 275 = b := by rw [hr _ (by omega) (fun i' h => by omega)]; exact h5
    obtain ⟨_, _, sa, sa0, sa1⟩ := isN_abs (hB (184 + 12 * i + j) (by omega) (by omega))
    obtain ⟨_, _, sb, sb0, sb1⟩ := isN_abs (hB 275 (by omega) (by omega))
    rw [vA] at sa0 sa1
    rw [vb] at sb0 sb1
    have sgn : X i ≠ 0 → ((s 3 (184 + 12 * i + j) = s 3 275 → 0 < X i) ∧ (¬ s 3 (184 + 12 * i + j) = s 3 275 → X i < 0)) := by
      intro hx
      have hpos : 0 < b → 0 < X i → 0 < b * X i := fun h1 h2 => Int.mul_pos h1 h2
      have hpn : 0 < b → X i < 0 → b * X i < 0 := fun h1 h2 => Int.mul_neg_of_pos_of_neg h1 h2
      have hnp : b < 0 → 0 < X i → b * X i < 0 := fun h1 h2 => Int.mul_neg_of_neg_of_pos h1 h2
      have hnn : b < 0 → X i < 0 → 0 < b * X i := fun h1 h2 => Int.mul_pos_of_neg_of_neg h1 h2
      generalize b * X i = z at *
      constructor
      · intro e
        refine Classical.byContradiction (fun h => ?_)
        have hx' : X i < 0 := by omega
        by_cases hb' : 0 < b
        · have := hpn hb' hx'; omega
        · have := hnn (by omega) hx'; omega
      · intro e
        refine Classical.byContradiction (fun h => ?_)
        have hx' : 0 < X i := by omega
        by_cases hb' : 0 < b
        · have := hpos hb' hx'; omega
        · have := hnp (by omega) hx'; omega
    have rest : ∀ l : Int, (l = 1 ∧ ¬ s 3 (184 + 12 * i + j) = s 3 275) ∨ (l = 0 ∧ s 3 (184 + 12 * i + j) = s 3 275) → ∀ y4, fin xs fr lo 167 265 [some (.ref 425), some (.int (jI j)), some (.int (jI 0)), some (.int (jI i)), y4] [.int (jI l)] w Q := by
      intro l hl y4
      refine fi_step (pc' := 267) m_Mo_fill rfl rfl ?_
      refine fi_step (pc' := 268) m_Mo_fill rfl rfl ?_
      refine s_sipush (p := 271) m_Mo_fill rfl rfl rfl ?_
      refine s_sipush (p := 274) m_Mo_fill rfl rfl rfl ?_
      refine g_3 (p := 277) m_Mo_fill rfl inv_v (by decide) m_Mo_bigCopy rfl rfl (by omega) (by omega) (Nat.le_of_ble_eq_true rfl) (Nat.le_of_ble_eq_true rfl) (RW_rcv hw _) (c_bigCopy hw hB (by omega) (by omega) (by omega) (by omega) (by omega)) (fun v w hP => ?_)
      obtain ⟨rfl, s1, hw, o1, B1⟩ := hP
      obtain ⟨r1, B1, t1, k1⟩ : ∃ r1, Bg s1 r1 ∧ r1 269 = b ∧ ∀ n : Int, n ≠ 269 → r1 n = r n := ⟨_, B1, by rw [up1_same, vb], fun n hn => up1_ne _ hn _⟩
      have a1 : r1 (184 + 12 * i + j) = b * X i := by rw [k1 _ (by omega), vA]
      refine fi_step (pc' := 278) m_Mo_fill rfl rfl ?_
      refine s_sipush (p := 281) m_Mo_fill rfl rfl rfl ?_
      refine s_bipush (p := 283) m_Mo_fill rfl rfl rfl ?_
      refine fi_step (pc' := 284) m_Mo_fill rfl rfl ?_
      refine s_imul (p := 285) m_Mo_fill rfl rfl ?_
      refine s_iadd (p := 286) m_Mo_fill rfl rfl ?_
      refine fi_step (pc' := 287) m_Mo_fill rfl rfl ?_
      refine s_iadd (p := 288) m_Mo_fill rfl rfl ?_
      refine s_sipush (p := 291) m_Mo_fill rfl rfl rfl ?_
      refine s_sipush (p := 294) m_Mo_fill rfl rfl rfl ?_
      refine g_4 (p := 297) m_Mo_fill rfl inv_v (by decide) m_Mo_bigDivide rfl rfl (by omega) (by omega) (Nat.le_of_ble_eq_true rfl) (Nat.le_of_ble_eq_true rfl) (RW_rcv hw _) (c_bigDivide (by omega) (by omega) hw B1 (by omega) (by omega) (by omega) (by omega) (by omega) (by omega) (by omega) (by omega) (by omega) (by rw [t1]; exact hb)) (fun v w hP => ?_)
      obtain ⟨rfl, s2, hw, o2, B2⟩ := hP
      obtain ⟨r2, B2, q2, k2⟩ : ∃ r2, Bg s2 r2 ∧ r2 272 = ((X i).natAbs : Int) ∧ ∀ n : Int, n ≠ 269 → n ≠ 272 → n ≠ 184 + 12 * i + j → r2 n = r n := ⟨_, B2, by rw [up1_ne _ (by omega), up1_same, a1, t1, exact_div hb], fun n n0 n1 n2 => by rw [up1_ne _ n2, up1_ne _ n1, k1 n n0]⟩
      refine fi_step (pc' := 298) m_Mo_fill rfl rfl ?_
      refine s_sipush (p := 301) m_Mo_fill rfl rfl rfl ?_
      refine s_bipush (p := 303) m_Mo_fill rfl rfl rfl ?_
      refine fi_step (pc' := 304) m_Mo_fill rfl rfl ?_
      refine s_imul (p := 305) m_Mo_fill rfl rfl ?_
      refine s_iadd (p := 306) m_Mo_fill rfl rfl ?_
      refine fi_step (pc' := 307) m_Mo_fill rfl rfl ?_
      refine s_iadd (p := 308) m_Mo_fill rfl rfl ?_
      refine s_sipush (p := 311) m_Mo_fill rfl rfl rfl ?_
      refine g_3 (p := 314) m_Mo_fill rfl inv_v (by decide) m_Mo_bigCopy rfl rfl (by omega) (by omega) (Nat.le_of_ble_eq_true rfl) (Nat.le_of_ble_eq_true rfl) (RW_rcv hw _) (c_bigCopy hw B2 (by omega) (by omega) (by omega) (by omega) (by omega)) (fun v w hP => ?_)
      obtain ⟨rfl, s3, hw, o3, B3⟩ := hP
      obtain ⟨r3, B3, q3, a3, k3⟩ : ∃ r3, Bg s3 r3 ∧ r3 272 = ((X i).natAbs : Int) ∧ r3 (184 + 12 * i + j) = ((X i).natAbs : Int) ∧ ∀ n : Int, n ≠ 269 → n ≠ 272 → n ≠ 184 + 12 * i + j → r3 n = r n := ⟨_, B3, by rw [up1_ne _ (by omega), q2], by rw [up1_same, q2], fun n n0 n1 n2 => by rw [up1_ne _ n2, k2 n n0 n1 n2]⟩
      have o13 := oth_trans o1 (oth_trans o2 o3)
      have go : ∀ (c : Int) (w : ax_W), (c = 0 ∨ c = 1) → (c = 1 → X i < 0) → (c = 0 → 0 ≤ X i) → RW w0 w (up s3 3 (184 + 12 * i + j) c) → fin xs fr lo 167 349 [some (.ref 425), some (.int (jI j)), some (.int (jI 0)), some (.int (jI i)), some (.int (jI l))] [] w Q := by
        intro c w hc hc1 hc0 hw
        have B4 := Bg_sign B3 (k := 184 + 12 * i + j) (b := c) (by omega) (by omega) hc
        refine s_iinc (p := 352) m_Mo_fill rfl rfl rfl ?_
        refine fi_step (pc' := 222) m_Mo_fill rfl rfl ?_
        refine ih (i + 1) _ w _ _ (by omega) hw (oth_trans ho (oth_trans o13 (oth_up3 _ _ _))) B4 (fun i' h => ?_) (fun n n0 hn => ?_)
        · by_cases e : i' = i
          · subst e; rw [up1_same, a3]
            rcases hc with rfl | rfl
            · rw [if_neg (by decide)]; have := hc0 rfl; omega
            · rw [if_pos rfl]; have := hc1 rfl; omega
          · rw [up1_ne _ (by omega), k3 _ (by omega) (by omega) (by omega)]; exact hv i' (by omega)
        · have h1 := hn i (by omega)
          rw [up1_ne _ h1, k3 n (by omega) (by omega) h1]; exact hr n n0 (fun i' h => hn i' (by omega))
      rcases hl with ⟨rfl, hs⟩ | ⟨rfl, hs⟩
      · refine fi_step (pc' := 315) m_Mo_fill rfl rfl ?_
        refine r_get (p := 318) m_Mo_fill rfl rfl (by assumption) rfl ?_
        refine s_sipush (p := 321) m_Mo_fill rfl rfl rfl ?_
        refine s_bipush (p := 323) m_Mo_fill rfl rfl rfl ?_
        refine fi_step (pc' := 324) m_Mo_fill rfl rfl ?_
        refine s_imul (p := 325) m_Mo_fill rfl rfl ?_
        refine s_iadd (p := 326) m_Mo_fill rfl rfl ?_
        refine fi_step (pc' := 327) m_Mo_fill rfl rfl ?_
        refine s_iadd (p := 328) m_Mo_fill rfl rfl ?_
        refine fi_step (pc' := 330) m_Mo_fill rfl rfl ?_
        refine s_if_eq (p := 333) m_Mo_fill rfl rfl (by omega) (by omega) (fun hbr => False.elim (by omega)) (fun hbr => ?_)
        refine fi_step (pc' := 334) m_Mo_fill rfl rfl ?_
        refine s_sipush (p := 337) m_Mo_fill rfl rfl rfl ?_
        refine c_2 (p := 340) m_Mo_fill rfl inv_v (by decide) m_Mo_bigIsZero rfl rfl (by omega) (by omega) (Nat.le_of_ble_eq_true rfl) (Nat.le_of_ble_eq_true rfl) (RW_rcv hw _) (c_isZ hw B3 (by omega) (by omega)) ?_
        rw [q3]
        by_cases hz : X i = 0
        · rw [if_pos (by omega)]
          refine s_if_ne (p := 343) m_Mo_fill rfl rfl (by omega) (by omega) (fun hbr => ?_) (fun hbr => False.elim (by omega))
          refine fi_step (pc' := 348) m_Mo_fill rfl rfl ?_
          refine r_stB (p := 349) m_Mo_fill rfl rfl (by assumption) (by decide) (fun _ => rfl) (by decide) (by omega) (by omega) (by omega) (by omega) (fun w hw => ?_)
          exact go 0 w (Or.inl rfl) (fun h => by omega) (fun _ => by omega) hw
        · rw [if_neg (by omega)]
          refine s_if_ne (p := 343) m_Mo_fill rfl rfl (by omega) (by omega) (fun hbr => False.elim (by omega)) (fun hbr => ?_)
          refine fi_step (pc' := 344) m_Mo_fill rfl rfl ?_
          refine fi_step (pc' := 348) m_Mo_fill rfl rfl ?_
          refine r_stB (p := 349) m_Mo_fill rfl rfl (by assumption) (by decide) (fun _ => rfl) (by decide) (by omega) (by omega) (by omega) (by omega) (fun w hw => ?_)
          exact go 1 w (Or.inr rfl) (fun _ => (sgn hz).2 hs) (fun h => by omega) hw
      · refine fi_step (pc' := 315) m_Mo_fill rfl rfl ?_
        refine r_get (p := 318) m_Mo_fill rfl rfl (by assumption) rfl ?_
        refine s_sipush (p := 321) m_Mo_fill rfl rfl rfl ?_
        refine s_bipush (p := 323) m_Mo_fill rfl rfl rfl ?_
        refine fi_step (pc' := 324) m_Mo_fill rfl rfl ?_
        refine s_imul (p := 325) m_Mo_fill rfl rfl ?_
        refine s_iadd (p := 326) m_Mo_fill rfl rfl ?_
        refine fi_step (pc' := 327) m_Mo_fill rfl rfl ?_
        refine s_iadd (p := 328) m_Mo_fill rfl rfl ?_
        refine fi_step (pc' := 330) m_Mo_fill rfl rfl ?_
        refine s_if_eq (p := 333) m_Mo_fill rfl rfl (by omega) (by omega) (fun hbr => ?_) (fun hbr => False.elim (by omega))
        refine fi_step (pc' := 348) m_Mo_fill rfl rfl ?_
        refine r_stB (p := 349) m_Mo_fill rfl rfl (by assumption) (by decide) (fun _ => rfl) (by decide) (by omega) (by omega) (by omega) (by omega) (fun w hw => ?_)
        refine go 0 w (Or.inl rfl) (fun h => by omega) (fun _ => ?_) hw
        by_cases hz : X i = 0
        · omega
        · have := (sgn hz).1 hs; omega
    refine fi_step (pc' := 223) m_Mo_fill rfl rfl ?_
    refine fi_step (pc' := 224) m_Mo_fill rfl rfl ?_
    refine r_get (p := 227) m_Mo_fill rfl rfl (by assumption) rfl ?_
    refine s_ic_ge (p := 230) m_Mo_fill rfl rfl (by omega) (by omega) (by omega) (by omega) (fun hbr => False.elim (by omega)) (fun hbr => ?_)
    refine fi_step (pc' := 231) m_Mo_fill rfl rfl ?_
    refine s_if_ne (p := 234) m_Mo_fill rfl rfl (by omega) (by omega) (fun hbr => False.elim (by omega)) (fun hbr => ?_)
    refine fi_step (pc' := 235) m_Mo_fill rfl rfl ?_
    refine r_get (p := 238) m_Mo_fill rfl rfl (by assumption) rfl ?_
    refine s_sipush (p := 241) m_Mo_fill rfl rfl rfl ?_
    refine s_bipush (p := 243) m_Mo_fill rfl rfl rfl ?_
    refine fi_step (pc' := 244) m_Mo_fill rfl rfl ?_
    refine s_imul (p := 245) m_Mo_fill rfl rfl ?_
    refine s_iadd (p := 246) m_Mo_fill rfl rfl ?_
    refine fi_step (pc' := 247) m_Mo_fill rfl rfl ?_
    refine s_iadd (p := 248) m_Mo_fill rfl rfl ?_
    refine r_ldB (p := 249) m_Mo_fill rfl rfl (by assumption) (by decide) rfl (by decide) (by omega) (by omega) ?_
    refine fi_step (pc' := 250) m_Mo_fill rfl rfl ?_
    refine r_get (p := 253) m_Mo_fill rfl rfl (by assumption) rfl ?_
    refine s_sipush (p := 256) m_Mo_fill rfl rfl rfl ?_
    refine r_ldB (p := 257) m_Mo_fill rfl rfl (by assumption) (by decide) rfl (by decide) (by omega) (by omega) ?_
    refine s_ic_eq (p := 260) m_Mo_fill rfl rfl (by omega) (by omega) (by omega) (by omega) (fun hs => ?_) (fun hs => ?_)
    · refine fi_step (pc' := 265) m_Mo_fill rfl rfl ?_
      exact rest 0 (Or.inr ⟨rfl, hs⟩) _
    · refine fi_step (pc' := 261) m_Mo_fill rfl rfl ?_
      refine fi_step (pc' := 265) m_Mo_fill rfl rfl ?_
      exact rest 1 (Or.inl ⟨rfl, hs⟩) _
theorem fill_out {f R C : Nat} {b : Int} {S : mo_S} {R0 : Int → Int} {X : Nat → Vec} (hfr : 5 ≤ fr) (hlo : 180 ≤ lo) (e1 : S 0 1 = R) (hR : R ≤ 6) (e2 : S 0 2 = C) (hC : C ≤ 12) (h3 : S 0 3 = f) (hf : f ≤ 6) (b0 : 0 ≤ S 0 4) (b1 : S 0 4 < 2 ^ R) (bl : (els 6 (S 0 4)).length = f) (hl : ∀ k : Nat, k < f → 0 ≤ S 9 k ∧ S 9 k < C) (hg : ∀ i j : Int, 0 ≤ i → i < R → 0 ≤ j → j < C → ((S 7 (12 * i + j)).natAbs : Int) ≤ 1000000000000000000) (hT : ∀ i e : Nat, i < f → e < f → ((X i (S 9 e)).natAbs : Int) ≤ MBND) (hb : b ≠ 0)
    (hX : ∀ (i : Nat) (j : Int), i < f → 0 ≤ j → j < C → (∀ k : Nat, k < f → S 9 k ≠ j) → sumP (fun k => X i (S 9 k) * mnr (S 7) (up1 (S 9) k j) (S 0 4)) f = b * X i j) :
    ∀ (n : Nat) (j : Int) (y2 y3 y4 : Option Value) (w : ax_W) (s : mo_S) (r : Int → Int), C - j ≤ n → 0 ≤ j → j ≤ C → RW w0 w s → oth8 S s → Bg s r → r 275 = b → (∀ i e : Nat, i < f → e < f → r (184 + 12 * i + S 9 e) = X i (S 9 e)) → (∀ (i : Nat) (j' : Int), i < f → 0 ≤ j' → j' < j → r (184 + 12 * i + j') = X i j') →
    fin xs fr lo 167 2 [some (.ref 425), some (.int (jI j)), y2, y3, y4] [] w (Ret fun u w' => u = none ∧ ∃ s' r', RW w0 w' s' ∧ oth8 S s' ∧ Bg s' r' ∧ ∀ (i : Nat) (j : Int), i < f → 0 ≤ j → j < C → r' (184 + 12 * i + j) = X i j) := by
  intro n
  induction n with
  | zero =>
    intro j y2 y3 y4 w s r hn j0 j1 hw ho hB h5 hF hv
    have e2' : s 0 2 = C := by rw [ho 0 (by decide) (by decide) (by decide) (by decide)]; exact e2
    obtain rfl : j = C := by omega
    refine fi_step (pc' := 3) m_Mo_fill rfl rfl ?_
    refine fi_step (pc' := 4) m_Mo_fill rfl rfl ?_
    refine r_get (p := 7) m_Mo_fill rfl rfl (by assumption) rfl ?_
    refine s_ic_ge (p := 10) m_Mo_fill rfl rfl (by omega) (by omega) (by omega) (by omega) (fun hbr => ?_) (fun hbr => False.elim (by omega))
    refine p_ret m_Mo_fill rfl rfl ?_
    exact ⟨rfl, s, r, hw, ho, hB, hv⟩
  | succ n ih =>
    intro j y2 y3 y4 w s r hn j0 j1 hw ho hB h5 hF hv
    have e0 : s 0 = S 0 := ho 0 (by decide) (by decide) (by decide) (by decide)
    have e2' : s 0 2 = C := by rw [e0]; exact e2
    have h3' : s 0 3 = f := by rw [e0]; exact h3
    have e9 : s 9 = S 9 := ho 9 (by decide) (by decide) (by decide) (by decide)
    have e7 : s 7 = S 7 := ho 7 (by decide) (by decide) (by decide) (by decide)
    have hl12 : ∀ k : Nat, k < f → 0 ≤ S 9 k ∧ S 9 k < 12 := fun k hk => by have := hl k hk; omega
    refine fi_step (pc' := 3) m_Mo_fill rfl rfl ?_
    refine fi_step (pc' := 4) m_Mo_fill rfl rfl ?_
    refine r_get (p := 7) m_Mo_fill rfl rfl (by assumption) rfl ?_
    refine s_ic_ge (p := 10) m_Mo_fill rfl rfl (by omega) (by omega) (by omega) (by omega) (fun hj => ?_) (fun hj => ?_)
    · refine p_ret m_Mo_fill rfl rfl ?_
      obtain rfl : j = C := by omega
      exact ⟨rfl, s, r, hw, ho, hB, hv⟩
    · refine fi_step (pc' := 11) m_Mo_fill rfl rfl ?_
      refine fi_step (pc' := 12) m_Mo_fill rfl rfl ?_
      refine fi_step (pc' := 13) m_Mo_fill rfl rfl ?_
      refine fi_step (pc' := 14) m_Mo_fill rfl rfl ?_
      refine fill_flag (s := s) (f := f) hw h3' hf j0 (by omega) (by rw [e9]; exact hl12) ?_ f 0 0 (by omega) (Or.inr ⟨rfl, fun k' h => by omega⟩)
      rw [e9]
      rintro l (⟨rfl, k, hk, hkj⟩ | ⟨rfl, hne⟩)
      · have nxt : ∀ y3, fin xs fr lo 167 355 [some (.ref 425), some (.int (jI j)), some (.int (jI 1)), y3, y4] [] w (Ret fun u w' => u = none ∧ ∃ s' r', RW w0 w' s' ∧ oth8 S s' ∧ Bg s' r' ∧ ∀ (i : Nat) (j : Int), i < f → 0 ≤ j → j < C → r' (184 + 12 * i + j) = X i j) := by
          intro y3
          refine s_iinc (p := 358) m_Mo_fill rfl rfl rfl ?_
          refine fi_step (pc' := 2) m_Mo_fill rfl rfl ?_
          refine ih (j + 1) _ _ _ w s r (by omega) (by omega) (by omega) hw ho hB h5 hF (fun i j' hi p0 p1 => ?_)
          by_cases e : j' = j
          · subst e; rw [← hkj]; exact hF i k hi hk
          · exact hv i j' hi p0 (by omega)
        refine fi_step (pc' := 49) m_Mo_fill rfl rfl ?_
        refine fi_step (pc' := 50) m_Mo_fill rfl rfl ?_
        refine fi_step (pc' := 51) m_Mo_fill rfl rfl ?_
        refine fi_step (pc' := 52) m_Mo_fill rfl rfl ?_
        refine r_get (p := 55) m_Mo_fill rfl rfl (by assumption) rfl ?_
        refine s_ic_ge (p := 58) m_Mo_fill rfl rfl (by omega) (by omega) (by omega) (by omega) (fun hbr => False.elim (by omega)) (fun hbr => ?_)
        refine fi_step (pc' := 59) m_Mo_fill rfl rfl ?_
        refine s_if_ne (p := 62) m_Mo_fill rfl rfl (by omega) (by omega) (fun hbr => ?_) (fun hbr => False.elim (by omega))
        refine fi_step (pc' := 84) m_Mo_fill rfl rfl ?_
        refine fi_step (pc' := 85) m_Mo_fill rfl rfl ?_
        refine fi_step (pc' := 86) m_Mo_fill rfl rfl ?_
        refine fi_step (pc' := 87) m_Mo_fill rfl rfl ?_
        refine r_get (p := 90) m_Mo_fill rfl rfl (by assumption) rfl ?_
        refine s_ic_ge (p := 93) m_Mo_fill rfl rfl (by omega) (by omega) (by omega) (by omega) (fun hbr => False.elim (by omega)) (fun hbr => ?_)
        refine fi_step (pc' := 94) m_Mo_fill rfl rfl ?_
        refine s_if_ne (p := 97) m_Mo_fill rfl rfl (by omega) (by omega) (fun hbr => ?_) (fun hbr => False.elim (by omega))
        refine fi_step (pc' := 221) m_Mo_fill rfl rfl ?_
        refine fi_step (pc' := 222) m_Mo_fill rfl rfl ?_
        refine fi_step (pc' := 223) m_Mo_fill rfl rfl ?_
        refine fi_step (pc' := 224) m_Mo_fill rfl rfl ?_
        refine r_get (p := 227) m_Mo_fill rfl rfl (by assumption) rfl ?_
        refine s_ic_ge (p := 230) m_Mo_fill rfl rfl (by omega) (by omega) (by omega) (by omega) (fun hbr => False.elim (by omega)) (fun hbr => ?_)
        refine fi_step (pc' := 231) m_Mo_fill rfl rfl ?_
        refine s_if_ne (p := 234) m_Mo_fill rfl rfl (by omega) (by omega) (fun hbr => ?_) (fun hbr => False.elim (by omega))
        exact nxt _
      · have rdF : ∀ i e : Nat, i < f → e < f → (184 + 12 * i + S 9 e : Int) < 268 ∧ 184 ≤ (184 + 12 * i + S 9 e : Int) := fun i e hi he => by have := hl12 e he; omega
        refine fi_step (pc' := 49) m_Mo_fill rfl rfl ?_
        refine fi_step (pc' := 50) m_Mo_fill rfl rfl ?_
        refine fill_zero (S := s) (R0 := r) (f := f) (by omega) (by omega) h3' hf j0 (by omega) ?_ f 0 w s r (by omega) hw (oth_refl s) hB (fun i' h => by omega) (fun _ _ => rfl)
        intro w s1 r1 hw o1 B1 z1 k1
        have e10 : s1 0 = S 0 := by rw [o1 0 (by decide) (by decide) (by decide), e0]
        have e17 : s1 7 = S 7 := by rw [o1 7 (by decide) (by decide) (by decide), e7]
        have e19 : s1 9 = S 9 := by rw [o1 9 (by decide) (by decide) (by decide), e9]
        have F1 : ∀ i e : Nat, i < f → e < f → r1 (184 + 12 * i + S 9 e) = X i (S 9 e) := fun i e hi he => by
          rw [k1 _ (fun i' h => by have := hl12 e he; have := hne e he; omega)]; exact hF i e hi he
        refine fi_step (pc' := 84) m_Mo_fill rfl rfl ?_
        refine fi_step (pc' := 85) m_Mo_fill rfl rfl ?_
        refine fill_k (S := s1) (R0 := r1) (R := R) (C := C) (f := f) (by omega) (by omega) (by rw [e10]; exact e1) hR hC (by rw [e10]; exact h3) hf j0 (by omega) (by rw [e10]; exact b0) (by rw [e10]; exact b1) (by rw [e10]; exact bl) (by rw [e19]; exact hl) (by rw [e19]; exact hne) (by rw [e17]; exact hg) (fun i e hi he => by rw [e19, F1 i e hi he]; exact hT i e hi he) ?_ f 0 _ w s1 r1 (by omega) hw (oth8_refl s1) B1 (fun i hi => by rw [z1 i hi]; rfl) (fun _ _ _ _ _ => rfl)
        intro w s2 r2 y4 hw o2 B2 v2 k2
        have e20 : s2 0 = S 0 := by rw [o2 0 (by decide) (by decide) (by decide) (by decide), e10]
        refine fi_step (pc' := 221) m_Mo_fill rfl rfl ?_
        refine fi_step (pc' := 222) m_Mo_fill rfl rfl ?_
        refine fill_div (S := s2) (R0 := r2) (f := f) (b := b) (X := fun i => X i j) (by omega) (by omega) (by rw [e20]; exact h3) hf j0 (by omega) hb (by rw [k2 _ (by omega) (by omega) (by omega) (fun i h => by omega), k1 _ (fun i h => by omega)]; exact h5) (fun i hi => ?_) ?_ f 0 _ w s2 r2 (by omega) hw (oth_refl s2) B2 (fun i' h => by omega) (fun _ _ _ => rfl)
        · rw [v2 i hi, e19, e17, e10, ← hX i j hi j0 (by omega) hne]
          exact sumP_congr (fun k hk => by rw [F1 i k hi hk])
        · intro w s3 r3 y3 y4 hw o3 B3 v3 k3
          refine s_iinc (p := 358) m_Mo_fill rfl rfl rfl ?_
          refine fi_step (pc' := 2) m_Mo_fill rfl rfl ?_
          refine ih (j + 1) _ _ _ w s3 r3 (by omega) (by omega) (by omega) hw (oth8_trans ho (oth8_trans (oth8_oth o1) (oth8_trans o2 (oth8_oth o3)))) B3 ?_ (fun i e hi he => ?_) (fun i j' hi p0 p1 => ?_)
          · rw [k3 _ (by omega) (fun i h => by omega), k2 _ (by omega) (by omega) (by omega) (fun i h => by omega), k1 _ (fun i h => by omega)]; exact h5
          · have := rdF i e hi he
            have nn : ∀ i' : Nat, i' < f → (184 + 12 * i + S 9 e : Int) ≠ 184 + 12 * i' + j := fun i' h => by have := hl12 e he; have := hne e he; omega
            rw [k3 _ (by omega) nn, k2 _ (by omega) (by omega) (by omega) nn]; exact F1 i e hi he
          · by_cases e : j' = j
            · subst e; exact v3 i hi
            · have nn : ∀ i' : Nat, i' < f → (184 + 12 * i + j' : Int) ≠ 184 + 12 * i' + j := fun i' h => by omega
              rw [k3 _ (by omega) nn, k2 _ (by omega) (by omega) (by omega) nn, k1 _ nn]; exact hv i j' hi p0 (by omega)
theorem c_fill {f R C : Nat} {b : Int} {w : ax_W} {s : mo_S} {r : Int → Int} {X : Nat → Vec} (hfr : 5 ≤ fr) (hlo : 180 ≤ lo) (hw : RW w0 w s) (hB : Bg s r) (e1 : s 0 1 = R) (hR : R ≤ 6) (e2 : s 0 2 = C) (hC : C ≤ 12) (h3 : s 0 3 = f) (hf : f ≤ 6) (b0 : 0 ≤ s 0 4) (b1 : s 0 4 < 2 ^ R) (bl : (els 6 (s 0 4)).length = f) (hl : ∀ k : Nat, k < f → 0 ≤ s 9 k ∧ s 9 k < C) (hg : ∀ i j : Int, 0 ≤ i → i < R → 0 ≤ j → j < C → ((s 7 (12 * i + j)).natAbs : Int) ≤ 1000000000000000000) (hT : ∀ i e : Nat, i < f → e < f → ((X i (s 9 e)).natAbs : Int) ≤ MBND) (hb : b ≠ 0)
    (hX : ∀ (i : Nat) (j : Int), i < f → 0 ≤ j → j < C → (∀ k : Nat, k < f → s 9 k ≠ j) → sumP (fun k => X i (s 9 k) * mnr (s 7) (up1 (s 9) k j) (s 0 4)) f = b * X i j) (h5 : r 275 = b) (hF : ∀ i e : Nat, i < f → e < f → r (184 + 12 * i + s 9 e) = X i (s 9 e)) :
    fin xs fr lo 167 0 (ax_ent [.ref 425] 5) [] w (Ret fun u w' => u = none ∧ ∃ s' r', RW w0 w' s' ∧ oth8 s s' ∧ Bg s' r' ∧ ∀ (i : Nat) (j : Int), i < f → 0 ≤ j → j < C → r' (184 + 12 * i + j) = X i j) := by
  refine fi_step (pc' := 1) m_Mo_fill rfl rfl ?_
  refine fi_step (pc' := 2) m_Mo_fill rfl rfl ?_
  exact fill_out (S := s) (R0 := r) (b := b) hfr hlo e1 hR e2 hC h3 hf b0 b1 bl hl hg hT hb hX 12 0 none none none w s r (by omega) (by omega) (by omega) hw (oth8_refl s) hB h5 hF (fun i j' _ _ h => by omega)
end FILL
