/-! THE REFERENCE: solve -/
theorem hl_at {c : Nat → Int} {X : Nat → Vec} : ∀ {n m : Nat}, ech (hl c X n m) → ∀ {i : Nat}, m ≤ i → i < m + n → 0 < X i (c i) ∧ ∀ j : Int, j < c i → X i j = 0
  | 0, m, _, i, h1, h2 => by omega
  | n + 1, m, he, i, h1, h2 => by
    by_cases e : i = m
    · subst e; exact ⟨he.1, he.2.1⟩
    · exact hl_at he.2.2.2 (by omega) (by omega)
/-- what is left of b after i rows; behind column R stands what was taken away, or its opposite -/
def slI (X : Nat → Vec) (lead : Int → Int) (f R W i : Nat) (sg : Int) (bv rest : Int → Int) : Prop := ∃ y : Vec, sp (fam X f 0) y ∧ (∀ j : Nat, j < R → rest j = bv j - y j) ∧ (∀ j : Nat, R ≤ j → j < W → rest j = sg * y j) ∧ (∀ k : Nat, k < i → 0 ≤ rest (lead k) ∧ rest (lead k) < X k (lead k)) ∧ (∀ k : Nat, k < f → ((rest (lead k)).natAbs : Int) ≤ QB i) ∧ ∀ j : Nat, j < W → ((rest j).natAbs : Int) ≤ LB i
theorem slI_neg {X : Nat → Vec} {lead bv rest rest' : Int → Int} {f R W i : Nat} (h : slI X lead f R W i (-1) bv rest) (hl : ∀ k : Nat, k < f → 0 ≤ lead k ∧ lead k < W) (hb : ∀ k : Nat, k < i → k < f ∧ lead k < R) (h1 : ∀ j : Nat, R ≤ j → j < W → rest' j = - rest j) (h2 : ∀ j : Nat, j < R → rest' j = rest j) (RW' : R ≤ W) : slI X lead f R W i 1 bv rest' := by
  obtain ⟨y, y1, y2, y3, y4, y5, y6⟩ := h
  have nat : ∀ z : Int, 0 ≤ z → ∃ n : Nat, z = n := fun z hz => ⟨z.toNat, by omega⟩
  refine ⟨y, y1, fun j hj => by rw [h2 j hj]; exact y2 j hj, fun j h0 h3 => by rw [h1 j h0 h3, y3 j h0 h3]; omega, fun k hk => ?_, fun k hk => ?_, fun j hj => ?_⟩
  · obtain ⟨a, b⟩ := hb k hk
    obtain ⟨n, hn⟩ := nat (lead k) (hl k a).1
    have := y4 k hk
    rw [hn] at this b ⊢
    rw [h2 n (by omega)]; exact this
  · obtain ⟨n, hn⟩ := nat (lead k) (hl k hk).1
    have a := (hl k hk).2
    have := y5 k hk
    rw [hn] at this a ⊢
    by_cases hR : n < R
    · rw [h2 n hR]; exact this
    · rw [h1 n (by omega) (by omega)]; omega
  · by_cases hR : j < R
    · rw [h2 j hR]; exact y6 j hj
    · rw [h1 j (by omega) hj]; have := y6 j hj; omega
theorem slI_step {X : Nat → Vec} {lead bv rest rest' : Int → Int} {f R W i : Nat} {sg : Int} (h : slI X lead f R W i sg bv rest) (hE : ech (hl (fun k => lead k) X f 0)) (hi : i < f) (hf : f ≤ 6) (hl : ∀ k : Nat, k < f → 0 ≤ lead k ∧ lead k < W) (hs : sg = -1 ∨ (sg = 1 ∧ R ≤ lead i)) (XM : ∀ e : Nat, e < f → ((X i (lead e)).natAbs : Int) ≤ MBND) (XB : ∀ j : Nat, j < W → ((X i j).natAbs : Int) ≤ FBND)
    (hr : ∀ j : Nat, j < W → rest' j = rest j - rest (lead i) / X i (lead i) * X i j) (RW' : R ≤ W) : slI X lead f R W (i + 1) sg bv rest' := by
  obtain ⟨y, y1, y2, y3, y4, y5, y6⟩ := h
  have nat : ∀ z : Int, 0 ≤ z → ∃ n : Nat, z = n := fun z hz => ⟨z.toNat, by omega⟩
  obtain ⟨hp, hz⟩ := hl_at hE (i := i) (by omega) (by omega)
  have hrl : ∀ k : Nat, k < f → rest' (lead k) = rest (lead k) - rest (lead i) / X i (lead i) * X i (lead k) := by
    intro k hk
    obtain ⟨n, hn⟩ := nat (lead k) (hl k hk).1
    have a := (hl k hk).2
    rw [hn] at a ⊢
    exact hr n (by omega)
  have hq : ((rest (lead i) / X i (lead i)).natAbs : Int) ≤ QB i := Int.le_trans (ediv_abs_le hp) (y5 i hi)
  have hq6 : QB i ≤ QB 6 := QB_le (by omega)
  generalize hqq : rest (lead i) / X i (lead i) = q at hr hrl hq
  have hx := sp_mem (vs := fam X f 0) (v := X i) (fam_mem.mpr ⟨i, by omega, by omega, rfl⟩)
  have hsg : ∃ y' : Vec, sp (fam X f 0) y' ∧ (∀ j : Nat, j < R → rest' j = bv j - y' j) ∧ ∀ j : Nat, R ≤ j → j < W → rest' j = sg * y' j := by
    rcases hs with rfl | ⟨rfl, hR⟩
    · refine ⟨_, sp_lin 1 q y1 hx, fun j hj => ?_, fun j h0 h1 => ?_⟩
      · rw [hr j (by omega), y2 j hj]; grind
      · rw [hr j h1, y3 j h0 h1]; grind
    · refine ⟨_, sp_lin 1 (-q) y1 hx, fun j hj => ?_, fun j h0 h1 => ?_⟩
      · rw [hr j (by omega), y2 j hj, hz j (by omega)]; grind
      · rw [hr j h1, y3 j h0 h1]; grind
  obtain ⟨y', a1, a2, a3⟩ := hsg
  refine ⟨y', a1, a2, a3, fun k hk => ?_, fun k hk => ?_, fun j hj => ?_⟩
  · by_cases e : k = i
    · subst e
      rw [hrl k hi, ← hqq]
      have a := mod_sub (rest (lead k)) (X k (lead k))
      have p := Int.emod_nonneg (rest (lead k)) (show X k (lead k) ≠ 0 by omega)
      have q := Int.emod_lt_of_pos (rest (lead k)) hp
      omega
    · rw [hrl k (by omega), hz (lead k) (hl_asc hE (by omega) (by omega) (by omega))]
      have := y4 k (by omega)
      simpa using this
  · rw [hrl k hk, QB_succ]
    have m := abs_mul_le hq (XM k hk) (QB_pos i)
    have := y5 k hk
    omega
  · rw [hr j hj, LB_succ]
    have m := abs_mul_le (Int.le_trans hq hq6) (XB j hj) (QB_pos 6)
    have := y6 j hj
    omega
section SOLVE2
variable {xs : List Int32} {fr lo : Nat} {w0 : ax_W} {Q : Outcome → ax_W → Prop}
theorem solve_main {a b : Int} {R W n f : Nat} {S : mo_S} {R0 bv : Int → Int} {X : Nat → Vec} {t : Value} (hfr : 4 ≤ fr) (hlo : 150 ≤ lo) (a0 : 0 ≤ a) (a1 : a < 6) (hR : S 5 a = R) (R6 : R ≤ 6) (hW : S 0 2 = W) (W12 : W ≤ 12) (RW' : R ≤ W) (h3 : S 0 3 = f) (hf : f ≤ 6) (hE : ech (hl (fun k => S 9 k) X f 0)) (hfm : isFrom (S 9) f R n) (hl' : ∀ k : Nat, k < f → 0 ≤ S 9 k ∧ S 9 k < W) (hX : ∀ i j : Nat, i < f → j < W → R0 (184 + 12 * i + j) = X i j) (XB : ∀ i j : Nat, i < f → j < W → ((X i j).natAbs : Int) ≤ FBND) (XM : ∀ i e : Nat, i < f → e < f → ((X i (S 9 e)).natAbs : Int) ≤ MBND)
    (K : ∀ w s r y6, RW w0 w s → oth S s → Bg s r → slI X (S 9) f R W f (if f ≤ n then -1 else 1) bv (fun j => r (256 + j)) → fin xs fr lo 171 294 [some (.ref 425), some t, some (.int (jI a)), some (.int (jI b)), some (.int (jI n)), some (.int (jI f)), y6] [] w Q) :
    ∀ (d i : Nat) (y6 : Option Value) (w : ax_W) (s : mo_S) (r : Int → Int), i + d = f → RW w0 w s → oth S s → Bg s r → slI X (S 9) f R W i (if i ≤ n then -1 else 1) bv (fun j => r (256 + j)) → (∀ k : Int, k < 256 → r k = R0 k) →
    fin xs fr lo 171 110 [some (.ref 425), some t, some (.int (jI a)), some (.int (jI b)), some (.int (jI n)), some (.int (jI i)), y6] [] w Q := by
  have hrm := QF_rm
  intro d
  induction d with
  | zero =>
    intro i y6 w s r hi hw ho hB hI hr
    have e3 : s 0 3 = f := by rw [ho 0 (by decide) (by decide) (by decide)]; exact h3
    obtain rfl : i = f := by omega
    refine fi_step (pc' := 112) m_Mo_solve rfl rfl ?_
    refine fi_step (pc' := 113) m_Mo_solve rfl rfl ?_
    refine r_get (p := 116) m_Mo_solve rfl rfl (by assumption) rfl ?_
    refine s_ic_ge (p := 119) m_Mo_solve rfl rfl (by omega) (by omega) (by omega) (by omega) (fun hbr => ?_) (fun hbr => False.elim (by omega))
    exact K w s r _ hw ho hB hI
  | succ d ih =>
    intro i y6 w s r hi hw ho hB hI hr
    have e3 : s 0 3 = f := by rw [ho 0 (by decide) (by decide) (by decide)]; exact h3
    have hn := hfm.1
    have step : ∀ (sg : Int) (y6 : Option Value) (w : ax_W) (s : mo_S) (r : Int → Int), RW w0 w s → oth S s → Bg s r → (sg = -1 ∧ i < n) ∨ (sg = 1 ∧ n ≤ i) → slI X (S 9) f R W i sg bv (fun j => r (256 + j)) → (∀ k : Int, k < 256 → r k = R0 k) → fin xs fr lo 171 192 [some (.ref 425), some t, some (.int (jI a)), some (.int (jI b)), some (.int (jI n)), some (.int (jI i)), y6] [] w Q := by
      intro sg y6 w s r hw ho hB hsg hI hr
      have e9 : s 9 = S 9 := ho 9 (by decide) (by decide) (by decide)
      have l1 := hl' i (by omega)
      have hp := (hl_at hE (i := i) (by omega) (by omega)).1
      have li : ∃ m : Nat, S 9 i = m := ⟨(S 9 i).toNat, by omega⟩
      have vX : ∀ j : Nat, j < W → r (184 + 12 * i + j) = X i j := fun j hj => by rw [hr _ (by omega)]; exact hX i j (by omega) hj
      have vXl : r (184 + 12 * i + S 9 i) = X i (S 9 i) := by
        obtain ⟨m, hm⟩ := li
        rw [hm] at l1 ⊢
        exact vX m (by omega)
      have qb : ((r (256 + S 9 i)).natAbs : Int) ≤ QB 6 := by
        obtain ⟨_, _, _, _, _, y5, _⟩ := hI
        exact Int.le_trans (y5 i (by omega)) (QB_le (by omega))
      refine fi_step (pc' := 193) m_Mo_solve rfl rfl ?_
      refine s_sipush (p := 196) m_Mo_solve rfl rfl rfl ?_
      refine fi_step (pc' := 197) m_Mo_solve rfl rfl ?_
      refine r_get (p := 200) m_Mo_solve rfl rfl (by assumption) rfl ?_
      refine fi_step (pc' := 202) m_Mo_solve rfl rfl ?_
      refine r_ldI (p := 203) m_Mo_solve rfl rfl (by assumption) (by decide) rfl (by decide) (by (first | omega | (rw [e9]; omega))) (by (first | omega | (rw [e9]; omega))) ?_
      refine s_iadd (p := 204) m_Mo_solve rfl rfl ?_
      refine s_sipush (p := 207) m_Mo_solve rfl rfl rfl ?_
      refine s_bipush (p := 209) m_Mo_solve rfl rfl rfl ?_
      refine fi_step (pc' := 211) m_Mo_solve rfl rfl ?_
      refine s_imul (p := 212) m_Mo_solve rfl rfl ?_
      refine s_iadd (p := 213) m_Mo_solve rfl rfl ?_
      refine fi_step (pc' := 214) m_Mo_solve rfl rfl ?_
      refine r_get (p := 217) m_Mo_solve rfl rfl (by assumption) rfl ?_
      refine fi_step (pc' := 219) m_Mo_solve rfl rfl ?_
      refine r_ldI (p := 220) m_Mo_solve rfl rfl (by assumption) (by decide) rfl (by decide) (by (first | omega | (rw [e9]; omega))) (by (first | omega | (rw [e9]; omega))) ?_
      refine s_iadd (p := 221) m_Mo_solve rfl rfl ?_
      rw [e9]
      refine g_3 (p := 224) m_Mo_solve rfl inv_v (by decide) m_Mo_floor rfl rfl (by omega) (by omega) (Nat.le_of_ble_eq_true rfl) (Nat.le_of_ble_eq_true rfl) (RW_rcv hw _) (c_floor (by omega) (by omega) hw hB (by omega) (by omega) (by omega) (by omega) (by rw [vXl]; exact hp) (by omega)) (fun v w hP => ?_)
      obtain ⟨rfl, s1, r1, hw, o1, B1, q1, k1⟩ := hP
      rw [vXl] at q1
      refine fi_step (pc' := 225) m_Mo_solve rfl rfl ?_
      refine s_sipush (p := 228) m_Mo_solve rfl rfl rfl ?_
      refine s_sipush (p := 231) m_Mo_solve rfl rfl rfl ?_
      refine g_3 (p := 234) m_Mo_solve rfl inv_v (by decide) m_Mo_bigCopy rfl rfl (by omega) (by omega) (Nat.le_of_ble_eq_true rfl) (Nat.le_of_ble_eq_true rfl) (RW_rcv hw _) (c_bigCopy hw B1 (by omega) (by omega) (by omega) (by omega) (by omega)) (fun v w hP => ?_)
      obtain ⟨rfl, s2, hw, o2, B2⟩ := hP
      obtain ⟨r2, B2, q2, k2⟩ : ∃ r2, Bg s2 r2 ∧ r2 270 = r (256 + S 9 i) / X i (S 9 i) ∧ ∀ j : Int, j < 268 → r2 j = r j := ⟨_, B2, by rw [up1_same, q1], fun j hj => by rw [up1_ne _ (by omega)]; exact k1 j (by omega) (by omega) (by omega)⟩
      have o12 := oth_trans o1 o2
      have qb2 := ediv_abs_le (x := r (256 + S 9 i)) hp
      have LL : ∀ j : Nat, j < W → ((r (256 + j)).natAbs : Int) ≤ LB 6 := fun j hj => by
        obtain ⟨_, _, _, _, _, _, y6⟩ := hI
        exact Int.le_trans (y6 j hj) (LB_le (by omega))
      refine fi_step (pc' := 235) m_Mo_solve rfl rfl ?_
      refine fi_step (pc' := 237) m_Mo_solve rfl rfl ?_
      refine solve_sub (S := s2) (R0 := r2) (W := W) (i := i) (q := r (256 + S 9 i) / X i (S 9 i)) (by omega) (by omega) (by rw [o12 0 (by decide) (by decide) (by decide), ho 0 (by decide) (by decide) (by decide)]; exact hW) W12 (by omega) (by omega) (fun j hj => by rw [k2 _ (by omega), vX j hj]; exact XB i j (by omega) hj) (fun j hj => by rw [k2 _ (by omega)]; exact LL j hj) ?_ W 0 w s2 r2 (by omega) hw (oth_refl s2) B2 q2 (fun j' h => by omega) (fun _ _ _ => rfl)
      intro w s3 r3 hw o3 B3 v3 k3
      refine s_iinc (p := 291) m_Mo_solve rfl rfl rfl ?_
      refine fi_step (pc' := 110) m_Mo_solve rfl rfl ?_
      refine ih (i + 1) _ w s3 r3 (by omega) hw (oth_trans ho (oth_trans o12 o3)) B3 ?_ (fun k hk => by rw [k3 k (by omega) (fun j _ => by omega), k2 k (by omega)]; exact hr k hk)
      have := slI_step (rest' := fun j => r3 (256 + j)) hI hE (by omega) hf hl' (by
        rcases hsg with ⟨rfl, h⟩ | ⟨rfl, h⟩
        · exact Or.inl rfl
        · exact Or.inr ⟨rfl, hfm.2.2 i h (by omega)⟩) (fun e he => XM i e (by omega) he) (fun j hj => XB i j (by omega) hj) (fun j hj => by
          show r3 (256 + j) = _
          rw [v3 j hj, k2 _ (by omega), k2 _ (by omega), vX j hj]) RW'
      rcases hsg with ⟨rfl, h⟩ | ⟨rfl, h⟩
      · rw [if_pos (by omega)]; exact this
      · rw [if_neg (by omega)]; exact this
    refine fi_step (pc' := 112) m_Mo_solve rfl rfl ?_
    refine fi_step (pc' := 113) m_Mo_solve rfl rfl ?_
    refine r_get (p := 116) m_Mo_solve rfl rfl (by assumption) rfl ?_
    refine s_ic_ge (p := 119) m_Mo_solve rfl rfl (by omega) (by omega) (by omega) (by omega) (fun hbr => False.elim (by omega)) (fun hbr => ?_)
    refine fi_step (pc' := 121) m_Mo_solve rfl rfl ?_
    refine fi_step (pc' := 123) m_Mo_solve rfl rfl ?_
    refine s_ic_ne (p := 126) m_Mo_solve rfl rfl (by omega) (by omega) (by omega) (by omega) (fun hin => ?_) (fun hin => ?_)
    · by_cases hlt : i < n
      · rw [if_pos (by omega)] at hI
        exact step (-1) _ w s r hw ho hB (Or.inl ⟨rfl, hlt⟩) hI hr
      · rw [if_neg (by omega)] at hI
        exact step 1 _ w s r hw ho hB (Or.inr ⟨rfl, by omega⟩) hI hr
    · obtain rfl : i = n := by omega
      rw [if_pos (by omega)] at hI
      have e5 : s 5 a = R := by rw [ho 5 (by decide) (by decide) (by decide)]; exact hR
      refine fi_step (pc' := 127) m_Mo_solve rfl rfl ?_
      refine r_get (p := 130) m_Mo_solve rfl rfl (by assumption) rfl ?_
      refine fi_step (pc' := 131) m_Mo_solve rfl rfl ?_
      refine r_ldI (p := 132) m_Mo_solve rfl rfl (by assumption) (by decide) rfl (by decide) (by omega) (by omega) ?_
      refine fi_step (pc' := 134) m_Mo_solve rfl rfl ?_
      rw [e5]
      refine solve_neg (S := s) (R0 := r) (R := R) (W := W) (by omega) (by omega) (by rw [ho 0 (by decide) (by decide) (by decide)]; exact hW) W12 ?_ (W - R) R w s r (by omega) (by omega) hw (oth_refl s) hB (fun j' h0 h1 => by omega) (fun _ _ => rfl)
      intro w s1 r1 hw o1 B1 v1 k1
      exact step 1 _ w s1 r1 hw (oth_trans ho o1) B1 (Or.inr ⟨rfl, by omega⟩) (slI_neg hI hl' (fun k hk => ⟨by omega, hfm.2.1 k hk⟩) v1 (fun j hj => k1 _ (fun j' h0 h1 => by omega)) RW') (fun k hk => by rw [k1 k (fun j' h0 h1 => by omega)]; exact hr k hk)
theorem solve_check {a b : Int} {R n : Nat} {w : ax_W} {s : mo_S} {r : Int → Int} {t : Value} {y6 : Option Value} {P : Option Value → ax_W → Prop} (hfr : 3 ≤ fr) (hlo : 120 ≤ lo) (hw : RW w0 w s) (hB : Bg s r) (a0 : 0 ≤ a) (a1 : a < 6) (hR : s 5 a = R) (R6 : R ≤ 6)
    (K0 : (∃ j : Nat, j < R ∧ r (256 + j) ≠ 0) → P (some (.int (jI 0))) w)
    (K : (∀ j : Nat, j < R → r (256 + j) = 0) → fin xs fr lo 171 404 [some (.ref 425), some t, some (.int (jI a)), some (.int (jI b)), some (.int (jI n)), some (.int (jI R)), y6] [] w (Ret P)) :
    ∀ (d j : Nat), j + d = R → (∀ j' : Nat, j' < j → r (256 + j') = 0) → fin xs fr lo 171 372 [some (.ref 425), some t, some (.int (jI a)), some (.int (jI b)), some (.int (jI n)), some (.int (jI j)), y6] [] w (Ret P) := by
  intro d
  induction d with
  | zero =>
    intro j hj hv
    obtain rfl : j = R := by omega
    refine fi_step (pc' := 374) m_Mo_solve rfl rfl ?_
    refine fi_step (pc' := 375) m_Mo_solve rfl rfl ?_
    refine r_get (p := 378) m_Mo_solve rfl rfl (by assumption) rfl ?_
    refine fi_step (pc' := 379) m_Mo_solve rfl rfl ?_
    refine r_ldI (p := 380) m_Mo_solve rfl rfl (by assumption) (by decide) rfl (by decide) (by omega) (by omega) ?_
    refine s_ic_ge (p := 383) m_Mo_solve rfl rfl (by omega) (by omega) (by omega) (by omega) (fun hbr => ?_) (fun hbr => False.elim (by omega))
    exact K hv
  | succ d ih =>
    intro j hj hv
    refine fi_step (pc' := 374) m_Mo_solve rfl rfl ?_
    refine fi_step (pc' := 375) m_Mo_solve rfl rfl ?_
    refine r_get (p := 378) m_Mo_solve rfl rfl (by assumption) rfl ?_
    refine fi_step (pc' := 379) m_Mo_solve rfl rfl ?_
    refine r_ldI (p := 380) m_Mo_solve rfl rfl (by assumption) (by decide) rfl (by decide) (by omega) (by omega) ?_
    refine s_ic_ge (p := 383) m_Mo_solve rfl rfl (by omega) (by omega) (by omega) (by omega) (fun hbr => False.elim (by omega)) (fun hbr => ?_)
    refine fi_step (pc' := 384) m_Mo_solve rfl rfl ?_
    refine s_sipush (p := 387) m_Mo_solve rfl rfl rfl ?_
    refine fi_step (pc' := 389) m_Mo_solve rfl rfl ?_
    refine s_iadd (p := 390) m_Mo_solve rfl rfl ?_
    refine c_2 (p := 393) m_Mo_solve rfl inv_v (by decide) m_Mo_bigIsZero rfl rfl (by omega) (by omega) (Nat.le_of_ble_eq_true rfl) (Nat.le_of_ble_eq_true rfl) (RW_rcv hw _) (c_isZ hw hB (by omega) (by omega)) ?_
    by_cases hz : r (256 + j) = 0
    · rw [if_pos hz]
      refine s_if_ne (p := 396) m_Mo_solve rfl rfl (by omega) (by omega) (fun hbr => ?_) (fun hbr => False.elim (by omega))
      refine s_iinc (p := 401) m_Mo_solve rfl rfl rfl ?_
      refine fi_step (pc' := 372) m_Mo_solve rfl rfl ?_
      refine ih (j + 1) (by omega) (fun j' h => ?_)
      by_cases e : j' = j
      · subst e; exact hz
      · exact hv j' (by omega)
    · rw [if_neg hz]
      refine s_if_ne (p := 396) m_Mo_solve rfl rfl (by omega) (by omega) (fun hbr => False.elim (by omega)) (fun hbr => ?_)
      refine fi_step (pc' := 397) m_Mo_solve rfl rfl ?_
      refine p_reti m_Mo_solve rfl rfl ?_
      exact K0 ⟨j, by omega, hz⟩
theorem solve_copy {a b : Int} {R C n : Nat} {S : mo_S} {R0 : Int → Int} {t : Value} {y6 : Option Value} (hfr : 3 ≤ fr) (hlo : 120 ≤ lo) (a0 : 0 ≤ a) (a1 : a < 6) (hR : S 5 a = R) (R6 : R ≤ 6) (hC : S 6 a = C) (C6 : C ≤ 6)
    (K : ∀ w s r, RW w0 w s → oth S s → Bg s r → (∀ j : Nat, j < C → r (6 * j) = R0 (256 + R + j)) → fin xs fr lo 171 448 [some (.ref 425), some t, some (.int (jI a)), some (.int (jI b)), some (.int (jI n)), some (.int (jI C)), y6] [] w Q) :
    ∀ (d j : Nat) (w : ax_W) (s : mo_S) (r : Int → Int), j + d = C → RW w0 w s → oth S s → Bg s r → (∀ j' : Nat, j' < j → r (6 * j') = R0 (256 + R + j')) → (∀ k : Int, 36 ≤ k → r k = R0 k) →
    fin xs fr lo 171 407 [some (.ref 425), some t, some (.int (jI a)), some (.int (jI b)), some (.int (jI n)), some (.int (jI j)), y6] [] w Q := by
  intro d
  induction d with
  | zero =>
    intro j w s r hj hw ho hB hv hr
    have e6 : s 6 a = C := by rw [ho 6 (by decide) (by decide) (by decide)]; exact hC
    obtain rfl : j = C := by omega
    refine fi_step (pc' := 409) m_Mo_solve rfl rfl ?_
    refine fi_step (pc' := 410) m_Mo_solve rfl rfl ?_
    refine r_get (p := 413) m_Mo_solve rfl rfl (by assumption) rfl ?_
    refine fi_step (pc' := 414) m_Mo_solve rfl rfl ?_
    refine r_ldI (p := 415) m_Mo_solve rfl rfl (by assumption) (by decide) rfl (by decide) (by omega) (by omega) ?_
    refine s_ic_ge (p := 418) m_Mo_solve rfl rfl (by omega) (by omega) (by omega) (by omega) (fun hbr => ?_) (fun hbr => False.elim (by omega))
    exact K w s r hw ho hB hv
  | succ d ih =>
    intro j w s r hj hw ho hB hv hr
    have e6 : s 6 a = C := by rw [ho 6 (by decide) (by decide) (by decide)]; exact hC
    have e5 : s 5 a = R := by rw [ho 5 (by decide) (by decide) (by decide)]; exact hR
    refine fi_step (pc' := 409) m_Mo_solve rfl rfl ?_
    refine fi_step (pc' := 410) m_Mo_solve rfl rfl ?_
    refine r_get (p := 413) m_Mo_solve rfl rfl (by assumption) rfl ?_
    refine fi_step (pc' := 414) m_Mo_solve rfl rfl ?_
    refine r_ldI (p := 415) m_Mo_solve rfl rfl (by assumption) (by decide) rfl (by decide) (by omega) (by omega) ?_
    refine s_ic_ge (p := 418) m_Mo_solve rfl rfl (by omega) (by omega) (by omega) (by omega) (fun hbr => False.elim (by omega)) (fun hbr => ?_)
    refine fi_step (pc' := 419) m_Mo_solve rfl rfl ?_
    refine fi_step (pc' := 420) m_Mo_solve rfl rfl ?_
    refine fi_step (pc' := 422) m_Mo_solve rfl rfl ?_
    refine fi_step (pc' := 423) m_Mo_solve rfl rfl ?_
    refine c_3 (p := 426) m_Mo_solve rfl inv_v (by decide) m_Mo_result rfl rfl (by omega) (by omega) (Nat.le_of_ble_eq_true rfl) (Nat.le_of_ble_eq_true rfl) (RW_rcv hw _) c_result ?_
    refine s_sipush (p := 429) m_Mo_solve rfl rfl rfl ?_
    refine fi_step (pc' := 430) m_Mo_solve rfl rfl ?_
    refine r_get (p := 433) m_Mo_solve rfl rfl (by assumption) rfl ?_
    refine fi_step (pc' := 434) m_Mo_solve rfl rfl ?_
    refine r_ldI (p := 435) m_Mo_solve rfl rfl (by assumption) (by decide) rfl (by decide) (by omega) (by omega) ?_
    refine s_iadd (p := 436) m_Mo_solve rfl rfl ?_
    refine fi_step (pc' := 438) m_Mo_solve rfl rfl ?_
    refine s_iadd (p := 439) m_Mo_solve rfl rfl ?_
    rw [e5]
    refine g_3 (p := 442) m_Mo_solve rfl inv_v (by decide) m_Mo_bigCopy rfl rfl (by omega) (by omega) (Nat.le_of_ble_eq_true rfl) (Nat.le_of_ble_eq_true rfl) (RW_rcv hw _) (c_bigCopy hw hB (by omega) (by omega) (by omega) (by omega) (by omega)) (fun v w hP => ?_)
    obtain ⟨rfl, s1, hw, o1, B1⟩ := hP
    refine s_iinc (p := 445) m_Mo_solve rfl rfl rfl ?_
    refine fi_step (pc' := 407) m_Mo_solve rfl rfl ?_
    refine ih (j + 1) w s1 _ (by omega) hw (oth_trans ho o1) B1 (fun j' h => ?_) (fun k hk => by rw [up1_ne _ (by omega)]; exact hr k hk)
    by_cases e : j' = j
    · subst e; rw [Int.add_zero, up1_same]; exact hr _ (by omega)
    · rw [up1_ne _ (by omega)]; exact hv j' (by omega)
/-- no whole solution; a whole solution that is small at the leads behind -/
def noSol (vs : List Vec) (R : Int) (bv : Int → Int) : Prop := ∀ x, sp vs x → ¬ ∀ j : Int, 0 ≤ j → j < R → x j = bv j
def isSol (vs : List Vec) (R : Int) (bv : Int → Int) (f n : Nat) (lead : Int → Int) (X : Nat → Vec) (x : Vec) : Prop := sp vs x ∧ (∀ j : Int, 0 ≤ j → j < R → x j = bv j) ∧ ∀ k : Nat, n ≤ k → k < f → 0 ≤ x (lead k) ∧ x (lead k) < X k (lead k)
theorem sol_unique {vs : List Vec} {R : Int} {bv : Int → Int} {f n : Nat} {lead : Int → Int} {X : Nat → Vec} {x z : Vec} (hE : ech (hl (fun k => lead k) X f 0)) (hsp : spEq (fam X f 0) vs) (hfm : isFrom lead f R n) (hl0 : ∀ k : Nat, k < f → 0 ≤ lead k) (h : isSol vs R bv f n lead X x) (h' : isSol vs R bv f n lead X z) : ∀ j : Int, x j = z j := by
  have hd := (hsp _).mpr (sp_sub h.1 h'.1)
  rw [← hl_vv (fun k => lead k)] at hd
  have := ech_small hE hd (fun p hp => by
    obtain ⟨i, _, hi, rfl⟩ := hl_mem.mp hp
    have pos := (hl_at hE (i := i) (by omega) hi).1
    show ((x (lead i) - z (lead i)).natAbs : Int) < X i (lead i)
    by_cases hin : i < n
    · have a := hfm.2.1 i hin
      have b := hl0 i (by omega)
      rw [h.2.1 _ b a, h'.2.1 _ b a]; omega
    · have a := h.2.2 i (by omega) (by omega)
      have b := h'.2.2 i (by omega) (by omega)
      omega)
  intro j
  have := this j
  omega
theorem slI_end {X : Nat → Vec} {lead bv rest : Int → Int} {vs : List Vec} {f n R W : Nat} (h : slI X lead f R W f 1 bv rest) (hE : ech (hl (fun k => lead k) X f 0)) (hsp : spEq (fam X f 0) vs) (hfm : isFrom lead f R n) (hl' : ∀ k : Nat, k < f → 0 ≤ lead k ∧ lead k < W) :
    ((∃ j : Nat, j < R ∧ rest j ≠ 0) → noSol vs R bv) ∧ ((∀ j : Nat, j < R → rest j = 0) → ∃ x, isSol vs R bv f n lead X x ∧ ∀ j : Nat, R ≤ j → j < W → rest j = x j) := by
  obtain ⟨y, y1, y2, y3, y4, y5, y6⟩ := h
  have nat : ∀ z : Int, 0 ≤ z → ∃ n : Nat, z = n := fun z hz => ⟨z.toNat, by omega⟩
  constructor
  · rintro ⟨j, hj, hne⟩ x hx hxb
    have hd := sp_sub ((hsp x).mpr hx) y1
    rw [← hl_vv (fun k => lead k)] at hd
    have := ech_front (R := R) hE hd (fun p hp hpR => by
      obtain ⟨i, _, hi, rfl⟩ := hl_mem.mp hp
      simp only at hpR
      have b := hl' i (by omega)
      have c := y4 i (by omega)
      obtain ⟨m, hm⟩ := nat (lead i) b.1
      show ((x (lead i) - y (lead i)).natAbs : Int) < X i (lead i)
      have e1 := hxb (lead i) b.1 hpR
      rw [hm] at hpR e1 c ⊢
      have e2 := y2 m (by omega)
      omega) j (by omega)
    have a := hxb j (by omega) (by omega)
    have b := y2 j hj
    omega
  · intro hz
    refine ⟨y, ⟨(hsp y).mp y1, fun j j0 j1 => ?_, fun k h0 h1 => ?_⟩, fun j h0 h1 => by rw [y3 j h0 h1]; omega⟩
    · obtain ⟨m, rfl⟩ := nat j j0
      have a := hz m (by omega)
      have b := y2 m (by omega)
      omega
    · have a := hfm.2.2 k h0 h1
      have b := hl' k h1
      have c := y4 k h1
      obtain ⟨m, hm⟩ := nat (lead k) b.1
      rw [hm] at a b c ⊢
      have e := y3 m (by omega) (by omega)
      omega
set_option maxRecDepth 4096 in
theorem c_solve {to a b : Int} {w : ax_W} {s : mo_S} {r : Int → Int} (hfr : 10 ≤ fr) (hlo : 320 ≤ lo) (hw : RW w0 w s) (hM : MI s) (hB : Bg s r) (t0 : -2147483648 ≤ to) (t1 : to < 2147483648) (a0 : -2147483648 ≤ a) (a1 : a < 2147483648) (b0 : -2147483648 ≤ b) (b1 : b < 2147483648) :
    fin xs fr lo 171 0 (ax_ent [.ref 425, .int (jI to), .int (jI a), .int (jI b)] 7) [] w (Ret fun u w' =>
      (¬ ((0 ≤ to ∧ to < 6) ∧ (0 ≤ a ∧ a < 6) ∧ (0 ≤ b ∧ b < 6)) ∧ RW w0 w' (up s 0 0 1) ∧ u = some (.int (jI 0))) ∨
      (((0 ≤ to ∧ to < 6) ∧ (0 ≤ a ∧ a < 6) ∧ (0 ≤ b ∧ b < 6)) ∧ ¬ (s 6 b = 1 ∧ s 5 b = s 5 a) ∧ RW w0 w' (up s 0 0 0) ∧ u = some (.int (jI (-2)))) ∨
      (((0 ≤ to ∧ to < 6) ∧ (0 ≤ a ∧ a < 6) ∧ (0 ≤ b ∧ b < 6)) ∧ (s 6 b = 1 ∧ s 5 b = s 5 a) ∧ ∃ (f n : Nat) (lead : Int → Int) (X : Nat → Vec), isForm (s 6 a).toNat (s 5 a + s 6 a) (gB s a) f lead X ∧ isFrom lead f (s 5 a) n ∧ (∀ k : Nat, k < f → 0 ≤ lead k) ∧ ((noSol (rowsOf (s 6 a).toNat (s 5 a + s 6 a) (gB s a)) (s 5 a) (fun j => s 4 (36 * b + 6 * j)) ∧ pub s w0 w' 0 none ∧ u = some (.int (jI 0))) ∨ (∃ x, isSol (rowsOf (s 6 a).toNat (s 5 a + s 6 a) (gB s a)) (s 5 a) (fun j => s 4 (36 * b + 6 * j)) f n lead X x ∧ madeF s w0 to (s 6 a) 1 (fun i _ => x (s 5 a + i)) 1 u w')))) := by
  refine fi_step (pc' := 1) m_Mo_solve rfl rfl ?_
  refine fi_step (pc' := 2) m_Mo_solve rfl rfl ?_
  refine fi_step (pc' := 3) m_Mo_solve rfl rfl ?_
  refine fi_step (pc' := 4) m_Mo_solve rfl rfl ?_
  refine g_4 (p := 7) m_Mo_solve rfl inv_v (by decide) m_Mo_areThere rfl rfl (by omega) (by omega) (Nat.le_of_ble_eq_true rfl) (Nat.le_of_ble_eq_true rfl) (RW_rcv hw _) (c_areThere (by omega) (by omega) hw t0 t1 a0 a1 b0 b1) (fun v w hP => ?_)
  obtain ⟨hw, rfl⟩ := hP
  by_cases hh : (0 ≤ to ∧ to < 6) ∧ (0 ≤ a ∧ a < 6) ∧ (0 ≤ b ∧ b < 6)
  · rw [if_pos hh] at hw ⊢
    have hm := hh.2.1
    have hmb := hh.2.2
    have K0 := kq_up s
    have M0 := MI_congr hM K0.1
    have hr := hM.1 a hm.1 hm.2
    have hc := hM.2.1 a hm.1 hm.2
    have hrb := hM.1 b hmb.1 hmb.2
    have hcb := hM.2.1 b hmb.1 hmb.2
    have e5 : up s 0 0 0 5 = s 5 := K0.1.2.1
    have e6 : up s 0 0 0 6 = s 6 := K0.1.2.2
    have E5a : up s 0 0 0 5 a = s 5 a := by rw [e5]
    have E5b : up s 0 0 0 5 b = s 5 b := by rw [e5]
    have E6b : up s 0 0 0 6 b = s 6 b := by rw [e6]
    refine s_if_ne (p := 10) m_Mo_solve rfl rfl (by omega) (by omega) (fun hbr => ?_) (fun hbr => False.elim (by omega))
    refine fi_step (pc' := 13) m_Mo_solve rfl rfl ?_
    refine r_get (p := 16) m_Mo_solve rfl rfl (by assumption) rfl ?_
    refine fi_step (pc' := 17) m_Mo_solve rfl rfl ?_
    refine r_ldI (p := 18) m_Mo_solve rfl rfl (by assumption) (by decide) rfl (by decide) (by omega) (by omega) ?_
    refine fi_step (pc' := 19) m_Mo_solve rfl rfl ?_
    refine s_ic_ne (p := 22) m_Mo_solve rfl rfl (by omega) (by omega) (by omega) (by omega) (fun hs1 => ?_) (fun hs1 => ?_)
    · refine s_bipush (p := 39) m_Mo_solve rfl rfl rfl ?_
      refine p_reti m_Mo_solve rfl rfl ?_
      exact Or.inr (Or.inl ⟨hh, by omega, hw, rfl⟩)
    · refine fi_step (pc' := 23) m_Mo_solve rfl rfl ?_
      refine r_get (p := 26) m_Mo_solve rfl rfl (by assumption) rfl ?_
      refine fi_step (pc' := 27) m_Mo_solve rfl rfl ?_
      refine r_ldI (p := 28) m_Mo_solve rfl rfl (by assumption) (by decide) rfl (by decide) (by omega) (by omega) ?_
      refine fi_step (pc' := 29) m_Mo_solve rfl rfl ?_
      refine r_get (p := 32) m_Mo_solve rfl rfl (by assumption) rfl ?_
      refine fi_step (pc' := 33) m_Mo_solve rfl rfl ?_
      refine r_ldI (p := 34) m_Mo_solve rfl rfl (by assumption) (by decide) rfl (by decide) (by omega) (by omega) ?_
      refine s_ic_eq (p := 37) m_Mo_solve rfl rfl (by omega) (by omega) (by omega) (by omega) (fun hs2 => ?_) (fun hs2 => ?_)
      · refine fi_step (pc' := 41) m_Mo_solve rfl rfl ?_
        refine fi_step (pc' := 42) m_Mo_solve rfl rfl ?_
        refine g_2 (p := 45) m_Mo_solve rfl inv_v (by decide) m_Mo_lookBeside rfl rfl (by omega) (by omega) (Nat.le_of_ble_eq_true rfl) (Nat.le_of_ble_eq_true rfl) (RW_rcv hw _) (c_lookBeside (by omega) (by omega) hw M0 hm.1 hm.2) (fun v w hP => ?_)
        obtain ⟨rfl, s1, hw, kl, l1, l2, l7⟩ := hP
        rw [K0.1.2.1, K0.1.2.2, K0.1.1] at l7
        rw [e6] at l1
        rw [e5, e6] at l2
        obtain ⟨hgm, hgb⟩ := beside_ok hM hm.1 hm.2 l7
        have B1 : Bg s1 r := Bg_congr (Bg_up0 hB 0) (kl.1 1 (by decide) (by decide)) (kl.1 2 (by decide) (by decide)) (kl.1 3 (by decide) (by decide))
        have K1 := kq_kL K0 kl
        obtain ⟨R, hR⟩ : ∃ R : Nat, s 5 a = R := ⟨(s 5 a).toNat, by omega⟩
        obtain ⟨C, hC⟩ : ∃ C : Nat, s 6 a = C := ⟨(s 6 a).toNat, by omega⟩
        have hRC : ((R + C : Nat) : Int) = s 5 a + s 6 a := by omega
        rw [← hRC, hC] at hgm hgb
        refine fi_step (pc' := 46) m_Mo_solve rfl rfl ?_
        refine g_1 (p := 49) m_Mo_solve rfl inv_v (by decide) m_Mo_findForm rfl rfl (by omega) (by omega) (Nat.le_of_ble_eq_true rfl) (Nat.le_of_ble_eq_true rfl) (RW_rcv hw _) (c_findForm (R := C) (C := R + C) (by omega) (by omega) hw B1 (by omega) (by omega) (by omega) (by omega) (by omega) hgb) (fun v w hP => ?_)
        obtain ⟨rfl, s2, r2, f, X, hw, k2, B2, f3, fR, hF, hlr, hv, XB, XM⟩ := hP
        have K2 := kq_kF K1 k2
        have g5 : s2 5 a = R := by rw [K2.1.2.1]; exact hR
        have g6 : s2 6 a = C := by rw [K2.1.2.2]; exact hC
        have g4 : s2 4 = s 4 := K2.1.1
        have g02 : s2 0 2 = (R + C : Nat) := by rw [k2.2 2 (by decide) (by decide)]; omega
        have hasc : ∀ i k : Nat, i < k → k < f → s2 9 i < s2 9 k := fun i k hik hk => hl_asc hF.1 (by omega) hik (by omega)
        refine fi_step (pc' := 50) m_Mo_solve rfl rfl ?_
        refine fi_step (pc' := 51) m_Mo_solve rfl rfl ?_
        refine g_2 (p := 54) m_Mo_solve rfl inv_v (by decide) m_Mo_kernelFrom rfl rfl (by omega) (by omega) (Nat.le_of_ble_eq_true rfl) (Nat.le_of_ble_eq_true rfl) (RW_rcv hw _) (c_kernelFrom (f := f) hw f3 (by omega) hm.1 hm.2 (by omega) (by omega) (fun k hk => by have := hlr k hk; omega) hasc) (fun v w hP => ?_)
        obtain ⟨rfl, n, rfl, hfrom⟩ := hP
        rw [g5] at hfrom
        have hfm : isForm (s 6 a).toNat (s 5 a + s 6 a) (gB s a) f (s2 9) X := by rw [hC, Int.toNat_natCast, ← hC, ← hRC]; exact isForm_congr hgm hF
        have hsp := hfm.2.2
        have hfrom' : isFrom (s2 9) f (s 5 a) n := by rw [hR]; exact hfrom
        refine fi_step (pc' := 56) m_Mo_solve rfl rfl ?_
        refine fi_step (pc' := 57) m_Mo_solve rfl rfl ?_
        refine fi_step (pc' := 59) m_Mo_solve rfl rfl ?_
        refine solve_init (S := s2) (R0 := r2) (R := R) (W := R + C) (n := n) (by omega) (by omega) hm.1 hm.2 hmb.1 hmb.2 g5 (by omega) g02 (by omega) (fun j j0 j1 => by rw [g4]; have := hM.2.2 (36 * b + 6 * j) (by omega) (by omega); omega) ?_ (R + C) 0 w s2 r2 (by omega) hw (oth_refl s2) B2 (fun j' h => by omega) (fun _ _ => rfl)
        intro w s3 r3 hw o3 B3 v3 k3
        have e39 : s3 9 = s2 9 := o3 9 (by decide) (by decide) (by decide)
        have e30 : s3 0 = s2 0 := o3 0 (by decide) (by decide) (by decide)
        have e35 : s3 5 a = R := by rw [o3 5 (by decide) (by decide) (by decide)]; exact g5
        have e36 : s3 6 a = C := by rw [o3 6 (by decide) (by decide) (by decide)]; exact g6
        have hq0 : QB 0 = 1000000000000000000 := by decide
        have hl0 : LB 0 = 1000000000000000000 := by unfold LB; simp
        have r3b : ∀ j : Nat, j < R + C → ((r3 (256 + j)).natAbs : Int) ≤ 1000000000000000000 := by
          intro j hj
          rw [v3 j hj, g4]
          split
          · have := hM.2.2 (36 * b + 6 * j) (by omega) (by omega); omega
          · decide
        refine fi_step (pc' := 108) m_Mo_solve rfl rfl ?_
        refine fi_step (pc' := 110) m_Mo_solve rfl rfl ?_
        refine solve_main (S := s3) (R0 := r3) (bv := fun j => s 4 (36 * b + 6 * j)) (X := X) (R := R) (W := R + C) (n := n) (f := f) (by omega) (by omega) hm.1 hm.2 e35 (by omega) (by rw [e30]; exact g02) (by omega) (by omega) (by rw [e30]; exact f3) (by omega) (by rw [e39]; exact hF.1) (by rw [e39]; exact hfrom) (by rw [e39]; exact hlr) (fun i j hi hj => by rw [k3 _ (by omega)]; exact hv i j hi (by omega) (by omega)) (fun i j hi _ => XB i j hi) (by rw [e39]; exact XM) ?_ f 0 _ w s3 r3 (by omega) hw (oth_refl s3) B3 ?_ (fun _ _ => rfl)
        · rw [e39]
          intro w s4 r4 y6 hw o4 B4 hI
          have e45 : s4 5 a = R := by rw [o4 5 (by decide) (by decide) (by decide)]; exact e35
          have e46 : s4 6 a = C := by rw [o4 6 (by decide) (by decide) (by decide)]; exact e36
          have e40 : s4 0 = s2 0 := by rw [o4 0 (by decide) (by decide) (by decide), e30]
          have K4 := kq_oth (kq_oth K2 o3) o4
          have f43 : s4 0 3 = f := by rw [e40]; exact f3
          have hnf := hfrom.1
          have tail : ∀ (w : ax_W) (s5 : mo_S) (r5 : Int → Int) (v5 : Value) (y6 : Option Value), RW w0 w s5 → Bg s5 r5 → kq s s5 → slI X (s2 9) f R (R + C) f 1 (fun j => s 4 (36 * b + 6 * j)) (fun j => r5 (256 + j)) → fin xs fr lo 171 369 [some (.ref 425), some (.int (jI to)), some (.int (jI a)), some (.int (jI b)), some (.int (jI n)), some v5, y6] [] w (Ret fun u w' =>
      (¬ ((0 ≤ to ∧ to < 6) ∧ (0 ≤ a ∧ a < 6) ∧ (0 ≤ b ∧ b < 6)) ∧ RW w0 w' (up s 0 0 1) ∧ u = some (.int (jI 0))) ∨
      (((0 ≤ to ∧ to < 6) ∧ (0 ≤ a ∧ a < 6) ∧ (0 ≤ b ∧ b < 6)) ∧ ¬ (s 6 b = 1 ∧ s 5 b = s 5 a) ∧ RW w0 w' (up s 0 0 0) ∧ u = some (.int (jI (-2)))) ∨
      (((0 ≤ to ∧ to < 6) ∧ (0 ≤ a ∧ a < 6) ∧ (0 ≤ b ∧ b < 6)) ∧ (s 6 b = 1 ∧ s 5 b = s 5 a) ∧ ∃ (f n : Nat) (lead : Int → Int) (X : Nat → Vec), isForm (s 6 a).toNat (s 5 a + s 6 a) (gB s a) f lead X ∧ isFrom lead f (s 5 a) n ∧ (∀ k : Nat, k < f → 0 ≤ lead k) ∧ ((noSol (rowsOf (s 6 a).toNat (s 5 a + s 6 a) (gB s a)) (s 5 a) (fun j => s 4 (36 * b + 6 * j)) ∧ pub s w0 w' 0 none ∧ u = some (.int (jI 0))) ∨ (∃ x, isSol (rowsOf (s 6 a).toNat (s 5 a + s 6 a) (gB s a)) (s 5 a) (fun j => s 4 (36 * b + 6 * j)) f n lead X x ∧ madeF s w0 to (s 6 a) 1 (fun i _ => x (s 5 a + i)) 1 u w')))) := by
            intro w s5 r5 v5 y6 hw B5 K5 hI
            have h55 : s5 5 a = R := by rw [K5.1.2.1]; exact hR
            have h56 : s5 6 a = C := by rw [K5.1.2.2]; exact hC
            have hend := slI_end (vs := rowsOf (s 6 a).toNat (s 5 a + s 6 a) (gB s a)) hI hF.1 hsp hfrom hlr
            rw [← hR] at hend
            have hne : (s 6 b = 1 ∧ s 5 b = s 5 a) := by omega
            refine fi_step (pc' := 370) m_Mo_solve rfl rfl ?_
            refine fi_step (pc' := 372) m_Mo_solve rfl rfl ?_
            refine solve_check (R := R) (by omega) (by omega) hw B5 hm.1 hm.2 h55 (by omega) ?_ ?_ R 0 (by omega) (fun j' h => by omega)
            · intro hex
              exact Or.inr (Or.inr ⟨hh, hne, f, n, s2 9, X, hfm, hfrom', fun k hk => (hlr k hk).1, Or.inl ⟨hend.1 hex, kq_pub K5 hw B5, rfl⟩⟩)
            · intro hz
              obtain ⟨x, hsol, hx⟩ := hend.2 hz
              refine fi_step (pc' := 405) m_Mo_solve rfl rfl ?_
              refine fi_step (pc' := 407) m_Mo_solve rfl rfl ?_
              refine solve_copy (S := s5) (R0 := r5) (R := R) (C := C) (by omega) (by omega) hm.1 hm.2 h55 (by omega) h56 (by omega) ?_ C 0 w s5 r5 (by omega) hw (oth_refl s5) B5 (fun j' h => by omega) (fun _ _ => rfl)
              intro w s6 r6 hw o6 B6 v6
              have K6 := kq_oth K5 o6
              have h66 : s6 6 a = C := by rw [K6.1.2.2]; exact hC
              refine fi_step (pc' := 449) m_Mo_solve rfl rfl ?_
              refine fi_step (pc' := 450) m_Mo_solve rfl rfl ?_
              refine fi_step (pc' := 451) m_Mo_solve rfl rfl ?_
              refine r_get (p := 454) m_Mo_solve rfl rfl (by assumption) rfl ?_
              refine fi_step (pc' := 455) m_Mo_solve rfl rfl ?_
              refine r_ldI (p := 456) m_Mo_solve rfl rfl (by assumption) (by decide) rfl (by decide) (by omega) (by omega) ?_
              refine fi_step (pc' := 457) m_Mo_solve rfl rfl ?_
              rw [h66]
              refine g_4 (p := 460) m_Mo_solve rfl inv_v (by decide) m_Mo_give rfl rfl (by omega) (by omega) (Nat.le_of_ble_eq_true rfl) (Nat.le_of_ble_eq_true rfl) (RW_rcv hw _) (c_give (by omega) (by omega) hw B6 hh.1.1 hh.1.2 (by omega) (by omega) (by omega) (by omega)) (fun v w hP => ?_)
              obtain ⟨s7, r7, hw, B7, kn, hgv⟩ := hP
              have hvv : ∀ i j : Int, 0 ≤ i → i < s 6 a → 0 ≤ j → j < 1 → r6 (6 * i + j) = (fun (i _ : Int) => x (s 5 a + i)) i j := by
                intro i j i0 i1 j0 j1
                obtain ⟨q, rfl⟩ : ∃ q : Nat, i = q := ⟨i.toNat, by omega⟩
                obtain rfl : j = 0 := by omega
                rw [Int.add_zero, v6 q (by omega)]
                have := hx (R + q) (by omega) (by omega)
                simp only at this ⊢
                rw [hR, show (256 : Int) + R + q = 256 + ((R + q : Nat) : Int) by omega, this]
                congr 1
              rw [← hC] at hgv
              rcases hgv with ⟨ft, rfl, gg⟩ | ⟨ft, rfl, km⟩
              · refine s_if_eq (p := 463) m_Mo_solve rfl rfl (by omega) (by omega) (fun hbr => False.elim (by omega)) (fun hbr => ?_)
                refine fi_step (pc' := 464) m_Mo_solve rfl rfl ?_
                refine fi_step (pc' := 469) m_Mo_solve rfl rfl ?_
                refine p_reti m_Mo_solve rfl rfl ?_
                exact Or.inr (Or.inr ⟨hh, hne, f, n, s2 9, X, hfm, hfrom', fun k hk => (hlr k hk).1, Or.inr ⟨x, hsol, made_give K6 hw B7 kn hvv (Or.inl ⟨ft, rfl, gg⟩)⟩⟩)
              · refine s_if_eq (p := 463) m_Mo_solve rfl rfl (by omega) (by omega) (fun hbr => ?_) (fun hbr => False.elim (by omega))
                refine s_bipush (p := 469) m_Mo_solve rfl rfl rfl ?_
                refine p_reti m_Mo_solve rfl rfl ?_
                exact Or.inr (Or.inr ⟨hh, hne, f, n, s2 9, X, hfm, hfrom', fun k hk => (hlr k hk).1, Or.inr ⟨x, hsol, made_give K6 hw B7 kn hvv (Or.inr ⟨ft, rfl, km⟩)⟩⟩)
          by_cases hnn : n = f
          · rw [if_pos (by omega)] at hI
            refine fi_step (pc' := 296) m_Mo_solve rfl rfl ?_
            refine fi_step (pc' := 297) m_Mo_solve rfl rfl ?_
            refine r_get (p := 300) m_Mo_solve rfl rfl (by assumption) rfl ?_
            refine s_ic_ne (p := 303) m_Mo_solve rfl rfl (by omega) (by omega) (by omega) (by omega) (fun hbr => False.elim (by omega)) (fun hbr => ?_)
            refine fi_step (pc' := 304) m_Mo_solve rfl rfl ?_
            refine r_get (p := 307) m_Mo_solve rfl rfl (by assumption) rfl ?_
            refine fi_step (pc' := 308) m_Mo_solve rfl rfl ?_
            refine r_ldI (p := 309) m_Mo_solve rfl rfl (by assumption) (by decide) rfl (by decide) (by omega) (by omega) ?_
            refine fi_step (pc' := 311) m_Mo_solve rfl rfl ?_
            rw [e45]
            refine solve_neg2 (S := s4) (R0 := r4) (R := R) (W := R + C) (by omega) (by omega) (by rw [e40]; exact g02) (by omega) ?_ C R w s4 r4 (by omega) (by omega) hw (oth_refl s4) B4 (fun j' h0 h1 => by omega) (fun _ _ => rfl)
            intro w s5 r5 hw o5 B5 v5 k5
            exact tail w s5 r5 _ _ hw B5 (kq_oth K4 o5) (slI_neg hI hlr (fun k hk => ⟨hk, hfrom.2.1 k (by omega)⟩) v5 (fun j hj => k5 _ (fun j' h0 h1 => by omega)) (by omega))
          · rw [if_neg (by omega)] at hI
            refine fi_step (pc' := 296) m_Mo_solve rfl rfl ?_
            refine fi_step (pc' := 297) m_Mo_solve rfl rfl ?_
            refine r_get (p := 300) m_Mo_solve rfl rfl (by assumption) rfl ?_
            refine s_ic_ne (p := 303) m_Mo_solve rfl rfl (by omega) (by omega) (by omega) (by omega) (fun hbr => ?_) (fun hbr => False.elim (by omega))
            exact tail w s4 r4 _ _ hw B4 K4 hI
        · rw [e39, if_pos (by omega)]
          refine ⟨fun _ => 0, sp_zero, fun j hj => ?_, fun j h0 h1 => ?_, fun k hk => by omega, fun k hk => ?_, fun j hj => by rw [hl0]; exact r3b j hj⟩
          · show r3 (256 + j) = s 4 (36 * b + 6 * j) - 0
            rw [v3 j (by omega), if_pos (by omega), g4]; omega
          · show r3 (256 + j) = -1 * 0
            rw [v3 j h1, if_neg (by omega)]; rfl
          · obtain ⟨q, hq⟩ : ∃ q : Nat, s2 9 k = q := ⟨(s2 9 k).toNat, by have := hlr k hk; omega⟩
            have := hlr k hk
            rw [hq] at this ⊢
            rw [hq0]
            exact r3b q (by omega)
      · refine s_bipush (p := 39) m_Mo_solve rfl rfl rfl ?_
        refine p_reti m_Mo_solve rfl rfl ?_
        exact Or.inr (Or.inl ⟨hh, by omega, hw, rfl⟩)
  · rw [if_neg hh] at hw ⊢
    refine s_if_ne (p := 10) m_Mo_solve rfl rfl (by omega) (by omega) (fun hbr => False.elim (by omega)) (fun hbr => ?_)
    refine fi_step (pc' := 11) m_Mo_solve rfl rfl ?_
    refine p_reti m_Mo_solve rfl rfl ?_
    exact Or.inl ⟨hh, hw, rfl⟩
end SOLVE2
