/-! THE REFERENCE: the Hermite form of what is looked at -/
/-- the Hermite form of these rows: f rows X, their leads -/
def isForm (R : Nat) (C : Int) (g : Int → Int) (f : Nat) (lead : Int → Int) (X : Nat → Vec) : Prop := ech (hl (fun k => lead k) X f 0) ∧ red (hl (fun k => lead k) X f 0) ∧ spEq (fam X f 0) (rowsOf R C g)
def FBND : Int := 6 * (MBND * MBND)
theorem mnr_det {g p : Int → Int} {C : Nat} {y : Int} (hp : ∀ k : Nat, k < (els 6 y).length → 0 ≤ p k ∧ p k < C) : mnr g p y = detC ((els 6 y).map (rwg g C)) (plist p (els 6 y).length) := by
  unfold mnr
  refine detC_congr (fun i _ j hj => ?_)
  obtain ⟨k, hk, rfl⟩ := plist_mem.mp hj
  have := hp k hk
  unfold rwg; rw [tr_in this.1 this.2]
theorem fill_rel {R C f : Nat} {g lead : Int → Int} {b : Int} {x : Vec} {j : Int} (hR : R ≤ 6) (hL : isLeads (rowsOf R C g) C lead f) (b0 : 0 ≤ b) (b1 : b < 2 ^ R) (bl : (els 6 b).length = f) (hx : sp (rowsOf R C g) x) (j0 : 0 ≤ j) (j1 : j < C) (hne : ∀ k : Nat, k < f → lead k ≠ j) :
    sumP (fun k => x (lead k) * mnr g (up1 lead k j) b) f = mnr g lead b * x j := by
  have hBm : ∀ v, v ∈ (els 6 b).map (rwg g C) → v ∈ rowsOf R C g := by
    intro v hv
    obtain ⟨i, hi, rfl⟩ := List.mem_map.mp hv
    rw [← S_cut b0 hR b1] at hi
    exact rowsOf_mem.mpr ⟨i, (els_mem hi).1, (els_mem hi).2, rfl⟩
  have hBl : ((els 6 b).map (rwg g C)).length = f := by rw [List.length_map, bl]
  have h1 := col_rel (vs := rowsOf R C g) (B := (els 6 b).map (rwg g C)) (J := plist lead f) (j := j) (fun v hv => lead_more hL j0 j1 hne (by rw [List.length_cons, hBl]) (fun u hu => by
    rcases List.mem_cons.mp hu with e | e
    · subst e; exact hv
    · exact hBm u e)) hx
  have h2 := fill_sum (B := (els 6 b).map (rwg g C)) (x := x) (lead := lead) (j := j) f []
  simp only [List.nil_append] at h2
  have hl := hL.2.1
  rw [mnr_det (C := C) (p := lead) (by rw [bl]; exact hl), bl, detC_eq _ _ _ rfl (by rw [plist_len, hBl]), h1]
  rw [asum_congr (g := fun q => x q.1 * detC ((els 6 b).map (rwg g C)) (j :: q.2)) (fun q hq => by
    have := picks_len hq
    rw [plist_len] at this
    rw [detC_eq _ _ (j :: q.2) rfl (by rw [List.length_cons, hBl]; omega)]), h2]
  refine sumP_congr (fun k hk => ?_)
  have hpk : ∀ q : Nat, q < (els 6 b).length → 0 ≤ up1 lead k j q ∧ up1 lead k j q < C := by
    intro q hq
    rw [bl] at hq
    by_cases e : q = k
    · subst e; rw [up1_same]; omega
    · rw [up1_ne _ (by omega)]; exact hl q hq
  rw [mnr_det (C := C) (p := up1 lead k j) hpk, bl]
section FF
variable {xs : List Int32} {fr lo : Nat} {w0 : ax_W} {Q : Outcome → ax_W → Prop}
theorem form_zero {S : mo_S} {R0 : Int → Int} (hfr : 3 ≤ fr) (hlo : 120 ≤ lo) (K : ∀ w s r y, RW w0 w s → oth S s → Bg s r → (∀ j : Int, 268 ≤ j → r j = R0 j) → fin xs fr lo 158 28 [some (.ref 425), y] [] w Q) :
    ∀ (d k : Nat) (w : ax_W) (s : mo_S) (r : Int → Int), k + d = 72 → RW w0 w s → oth S s → Bg s r → (∀ j : Int, 268 ≤ j → r j = R0 j) → fin xs fr lo 158 6 [some (.ref 425), some (.int (jI k))] [] w Q := by
  intro d
  induction d with
  | zero =>
    intro k w s r hk hw ho hB hr
    refine fi_step (pc' := 7) m_Mo_findForm rfl rfl ?_
    refine s_bipush (p := 9) m_Mo_findForm rfl rfl rfl ?_
    refine s_ic_ge (p := 12) m_Mo_findForm rfl rfl (by omega) (by omega) (by omega) (by omega) (fun hbr => ?_) (fun hbr => False.elim (by omega))
    exact K w s r _ hw ho hB hr
  | succ d ih =>
    intro k w s r hk hw ho hB hr
    refine fi_step (pc' := 7) m_Mo_findForm rfl rfl ?_
    refine s_bipush (p := 9) m_Mo_findForm rfl rfl rfl ?_
    refine s_ic_ge (p := 12) m_Mo_findForm rfl rfl (by omega) (by omega) (by omega) (by omega) (fun hbr => False.elim (by omega)) (fun hbr => ?_)
    refine fi_step (pc' := 13) m_Mo_findForm rfl rfl ?_
    refine s_sipush (p := 16) m_Mo_findForm rfl rfl rfl ?_
    refine fi_step (pc' := 17) m_Mo_findForm rfl rfl ?_
    refine s_iadd (p := 18) m_Mo_findForm rfl rfl ?_
    refine s_lconst (p := 19) (v := 0) m_Mo_findForm rfl rfl rfl ?_
    refine g_3 (p := 22) m_Mo_findForm rfl inv_v (by decide) m_Mo_bigSet rfl rfl (by omega) (by omega) (Nat.le_of_ble_eq_true rfl) (Nat.le_of_ble_eq_true rfl) (RW_rcv hw _) (c_bigSet hw hB (by omega) (by omega) (by decide) (by decide)) (fun v w hP => ?_)
    obtain ⟨rfl, s1, hw, o1, B1⟩ := hP
    refine s_iinc (p := 25) m_Mo_findForm rfl rfl rfl ?_
    refine fi_step (pc' := 6) m_Mo_findForm rfl rfl ?_
    exact ih (k + 1) w s1 _ (by omega) hw (oth_trans ho o1) B1 (fun j hj => by rw [up1_ne _ (by omega)]; exact hr j hj)
theorem c_findForm {R C : Nat} {w : ax_W} {s : mo_S} {r : Int → Int} (hfr : 8 ≤ fr) (hlo : 260 ≤ lo) (hw : RW w0 w s) (hB : Bg s r) (e1 : s 0 1 = R) (R1 : 1 ≤ R) (hR : R ≤ 6) (e2 : s 0 2 = C) (hC : C ≤ 12) (hg : ∀ i j : Int, 0 ≤ i → i < R → 0 ≤ j → j < C → ((s 7 (12 * i + j)).natAbs : Int) ≤ 1000000000000000000) :
    fin xs fr lo 158 0 (ax_ent [.ref 425] 2) [] w (Ret fun u w' => u = none ∧ ∃ (s' : mo_S) (r' : Int → Int) (f : Nat) (X : Nat → Vec), RW w0 w' s' ∧ kF s s' ∧ Bg s' r' ∧ s' 0 3 = f ∧ f ≤ R ∧ isForm R C (s 7) f (s' 9) X ∧ (∀ k : Nat, k < f → 0 ≤ s' 9 k ∧ s' 9 k < C) ∧ (∀ (i : Nat) (j : Int), i < f → 0 ≤ j → j < C → r' (184 + 12 * i + j) = X i j) ∧ (∀ (i : Nat) (j : Int), i < f → ((X i j).natAbs : Int) ≤ FBND) ∧ ∀ i e : Nat, i < f → e < f → ((X i (s' 9 e)).natAbs : Int) ≤ MBND) := by
  refine fi_step (pc' := 1) m_Mo_findForm rfl rfl ?_
  refine g_1 (p := 4) m_Mo_findForm rfl inv_v (by decide) m_Mo_findLeads rfl rfl (by omega) (by omega) (Nat.le_of_ble_eq_true rfl) (Nat.le_of_ble_eq_true rfl) (RW_rcv hw _) (c_findLeads (R := R) (C := C) (by omega) (by omega) hw hB e1 hR e2 hC hg) (fun v w hP => ?_)
  obtain ⟨rfl, s1, r1, f, hw, k1, B1, hI, hL⟩ := hP
  have e17 : s1 7 = s 7 := k1.1 7 (by decide) (by decide) (by decide) (by decide) (by decide) (by decide)
  obtain ⟨i3, ifR, ib0, ib1, ibl, i5, i5n, i6, id⟩ := hI
  have hl := hL.2.1
  have hinj : ∀ e e' : Nat, e < f → e' < f → s1 9 e = s1 9 e' → e = e' := by
    intro e e' he he' h
    by_cases h1 : e < e'
    · have := hL.1 e e' h1 he'; omega
    · by_cases h2 : e' < e
      · have := hL.1 e' e h2 he; omega
      · omega
  have hmb : ((r1 275).natAbs : Int) ≤ MBND := by
    rw [i5]; exact mnr_bd hR (fun k hk => hl k (by omega)) hg ib0 ib1
  have hD1 : r1 276 ≤ MBND := by
    have h1 := (id (r1 276)).mp (Int.dvd_refl _) (s1 0 4) ib0 ib1 ibl
    rw [← i5] at h1
    have := Nat.le_of_dvd (by omega) (Int.natAbs_dvd_natAbs.mpr h1)
    omega
  have hdv : ∀ d, (∀ l : List Vec, l.length = (plist (s1 9) f).length → (∀ v, v ∈ l → v ∈ rowsOf R C (s 7)) → d ∣ det l (plist (s1 9) f)) → d ∣ r1 276 := by
    intro d h
    refine (id d).mpr (fun y y0 y1 yl => ?_)
    have := (sets_lists (R := R) (C := C) (g := s 7) (J := plist (s1 9) f) (d := d) hR (fun j hj => by
      obtain ⟨k, hk, rfl⟩ := plist_mem.mp hj
      exact hl k hk)).mpr h y y0 y1 (by rw [plist_len]; exact yl)
    unfold mnr; rw [yl]; exact this
  refine fi_step (pc' := 5) m_Mo_findForm rfl rfl ?_
  refine fi_step (pc' := 6) m_Mo_findForm rfl rfl ?_
  refine form_zero (S := s1) (R0 := r1) (by omega) (by omega) ?_ 72 0 w s1 r1 (by omega) hw (oth_refl s1) B1 (fun _ _ => rfl)
  intro w s2 r2 y hw o2 B2 k2
  have e20 : s2 0 = s1 0 := o2 0 (by decide) (by decide) (by decide)
  have e29 : s2 9 = s1 9 := o2 9 (by decide) (by decide) (by decide)
  have e27 : s2 7 = s 7 := by rw [o2 7 (by decide) (by decide) (by decide), e17]
  refine fi_step (pc' := 29) m_Mo_findForm rfl rfl ?_
  refine g_1 (p := 32) m_Mo_findForm rfl inv_v (by decide) m_Mo_bring rfl rfl (by omega) (by omega) (Nat.le_of_ble_eq_true rfl) (Nat.le_of_ble_eq_true rfl) (RW_rcv hw _) (c_bring (R := R) (f := f) (C := C) (D := r1 276) (b := r1 275) (by omega) (by omega) hw B2 (by rw [e20, k1.2 1 (by decide) (by decide)]; exact e1) R1 hR (by rw [e20]; exact i3) (by omega) (k2 _ (by omega)) (k2 _ (by omega)) i6 hD1 (by omega) (by rw [e29]; exact hl) (by rw [e29]; exact hinj) (by rw [e27]; exact hg) (by rw [e27, e29]; exact hdv)) (fun v w hP => ?_)
  obtain ⟨rfl, s3, r3, hw, o3, B3, d3, b3, sp3, st3⟩ := hP
  rw [e27, e29] at sp3
  rw [e29] at st3
  have e30 : s3 0 = s1 0 := by rw [o3 0 (by decide) (by decide) (by decide), e20]
  have e39 : s3 9 = s1 9 := by rw [o3 9 (by decide) (by decide) (by decide), e29]
  have hl12 : ∀ k : Nat, k < f → 0 ≤ s1 9 k ∧ s1 9 k < 12 := fun k hk => by have := hl k hk; omega
  refine fi_step (pc' := 33) m_Mo_findForm rfl rfl ?_
  refine g_1 (p := 36) m_Mo_findForm rfl inv_v (by decide) m_Mo_shorten rfl rfl (by omega) (by omega) (Nat.le_of_ble_eq_true rfl) (Nat.le_of_ble_eq_true rfl) (RW_rcv hw _) (c_shorten (f := f) (D := r1 276) (by omega) (by omega) hw B3 (by rw [e30]; exact i3) (by omega) (by rw [e39]; exact hl12) (by rw [e39]; exact hinj) hD1 (by rw [e39]; exact st3)) (fun v w hP => ?_)
  obtain ⟨rfl, s4, r4, hw, o4, B4, S4, sp4, b4, d4⟩ := hP
  rw [e39] at S4 sp4
  have e40 : s4 0 = s1 0 := by rw [o4 0 (by decide) (by decide) (by decide), e30]
  have e49 : s4 9 = s1 9 := by rw [o4 9 (by decide) (by decide) (by decide), e39]
  have e47 : s4 7 = s 7 := by rw [o4 7 (by decide) (by decide) (by decide), o3 7 (by decide) (by decide) (by decide), e27]
  have b4' : r4 275 = mnr (s 7) (s1 9) (s1 0 4) := by rw [b4, b3, i5]
  obtain ⟨X, X1, X2, X3, X4, X5⟩ := form_lift hL rowsOf_out (T := tw r4 (s1 9) f) (fun x => ((sp4 x).symm.trans (sp3 x).symm)) (fun i hi => by rw [tw_in (by omega) (by omega)]; exact S4.1 i hi) (fun i e he hi => by rw [tw_in (by omega) (by omega)]; exact S4.2.1 i e hi he) (fun i k hik hk => by rw [tw_in (by omega) (by omega), tw_in (by omega) (by omega)]; exact S4.2.2.2 i k (by omega) hik hk)
  have X2' : ∀ i e : Nat, i < f → e < f → r4 (184 + 12 * i + s1 9 e) = X i (s1 9 e) := fun i e hi he => by rw [X2 i e hi he, tw_in (by omega) (by omega)]
  have XM : ∀ i e : Nat, i < f → e < f → ((X i (s1 9 e)).natAbs : Int) ≤ MBND := fun i e hi he => by rw [← X2' i e hi he]; exact S4.2.2.1 i e hi he
  have Xr : ∀ (i : Nat) (j : Int), i < f → 0 ≤ j → j < C → (∀ k : Nat, k < f → s1 9 k ≠ j) → sumP (fun k => X i (s1 9 k) * mnr (s 7) (up1 (s1 9) k j) (s1 0 4)) f = mnr (s 7) (s1 9) (s1 0 4) * X i j := fun i j hi j0 j1 hne => fill_rel hR hL ib0 ib1 ibl (X1 i hi) j0 j1 hne
  have XB : ∀ (i : Nat) (j : Int), i < f → ((X i j).natAbs : Int) ≤ FBND := by
    intro i j hi
    by_cases hr : 0 ≤ j ∧ j < C
    · by_cases hn : ∀ k : Nat, k < f → s1 9 k ≠ j
      · have h1 := Xr i j hi hr.1 hr.2 hn
        have h2 := sumP_bound (f := fun k => X i (s1 9 k) * mnr (s 7) (up1 (s1 9) k j) (s1 0 4)) (b := MBND * MBND) (n := f) (fun k hk => abs_mul_le (XM i k hi hk) (mnr_bd hR (fun q hq => by
          by_cases e : q = k
          · subst e; rw [up1_same]; exact hr
          · rw [up1_ne _ (by omega)]; exact hl q (by omega)) hg ib0 ib1) (by decide))
        rw [h1, ← b4', Int.natAbs_mul, Int.natCast_mul] at h2
        have h3 : (1 : Int) ≤ ((r4 275).natAbs : Int) := by rw [b4, b3]; omega
        have h4 : 1 * ((X i j).natAbs : Int) ≤ ((r4 275).natAbs : Int) * ((X i j).natAbs : Int) := Int.mul_le_mul_of_nonneg_right h3 (by omega)
        have h5 : (f : Int) * (MBND * MBND) ≤ 6 * (MBND * MBND) := Int.mul_le_mul_of_nonneg_right (by omega) (by decide)
        unfold FBND; omega
      · obtain ⟨k, hk, rfl⟩ : ∃ k : Nat, k < f ∧ s1 9 k = j := Classical.byContradiction (fun h => hn (fun k hk e => h ⟨k, hk, e⟩))
        have := XM i k hi hk
        have h6 : MBND ≤ FBND := by decide
        omega
    · have := sp_rel (f := fun x => x j) (by simp) (fun x v c => by simp) (fun v hv => rowsOf_out v hv j hr) (X1 i hi)
      rw [this]; decide
  refine fi_step (pc' := 37) m_Mo_findForm rfl rfl ?_
  refine g_1 (p := 40) m_Mo_findForm rfl inv_v (by decide) m_Mo_fill rfl rfl (by omega) (by omega) (Nat.le_of_ble_eq_true rfl) (Nat.le_of_ble_eq_true rfl) (RW_rcv hw _) (c_fill (X := X) (b := mnr (s 7) (s1 9) (s1 0 4)) (R := R) (C := C) (f := f) (by omega) (by omega) hw B4 (by rw [e40, k1.2 1 (by decide) (by decide)]; exact e1) hR (by rw [e40, k1.2 2 (by decide) (by decide)]; exact e2) hC (by rw [e40]; exact i3) (by omega) (by rw [e40]; exact ib0) (by rw [e40]; exact ib1) (by rw [e40]; exact ibl) (by rw [e49]; exact hl) (by rw [e47]; exact hg) (by rw [e49]; exact XM) (by rw [← i5]; exact i5n) (by rw [e49, e47, e40]; exact Xr) b4' (by rw [e49]; exact X2')) (fun v w hP => ?_)
  obtain ⟨rfl, s5, r5, hw, o5, B5, v5⟩ := hP
  have e59 : s5 9 = s1 9 := by rw [o5 9 (by decide) (by decide) (by decide) (by decide), e49]
  have k25 : kF s s5 := kF_trans k1 (kF_trans (kF_oth o2) (kF_trans (kF_oth o3) (kF_trans (kF_oth o4) ⟨fun a _ h1 h2 h3 h8 _ => o5 a h1 h2 h3 h8, fun i _ _ => by rw [o5 0 (by decide) (by decide) (by decide) (by decide)]⟩)))
  refine p_ret m_Mo_findForm rfl rfl ?_
  refine ⟨rfl, s5, r5, f, X, hw, k25, B5, ?_, ifR, ?_, ?_, v5, XB, ?_⟩
  · rw [o5 0 (by decide) (by decide) (by decide) (by decide), e40]; exact i3
  · rw [e59]; exact ⟨X3, X4, X5⟩
  · rw [e59]; exact hl
  · rw [e59]; exact XM
end FF
