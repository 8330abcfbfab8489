/-! THE REFERENCE: hermite, kernel -/
theorem rowsOf_congr {R : Nat} {C : Int} {g h : Int → Int} (e : ∀ i j : Int, 0 ≤ i → i < R → 0 ≤ j → j < C → g (12 * i + j) = h (12 * i + j)) : rowsOf R C g = rowsOf R C h := by
  unfold rowsOf
  refine fam_congr (fun i _ hi => ?_)
  funext j
  unfold rwg
  by_cases hj : 0 ≤ j ∧ j < C
  · rw [tr_in hj.1 hj.2, tr_in hj.1 hj.2]; exact e i j (by omega) (by omega) hj.1 hj.2
  · rw [tr_out hj, tr_out hj]
theorem isForm_congr {R f : Nat} {C : Int} {g h lead : Int → Int} {X : Nat → Vec} (e : ∀ i j : Int, 0 ≤ i → i < R → 0 ≤ j → j < C → g (12 * i + j) = h (12 * i + j)) (hF : isForm R C g f lead X) : isForm R C h f lead X := by
  unfold isForm at hF ⊢; rw [← rowsOf_congr e]; exact hF
/-- a turned matrix with a diagonal of 1 beside it, as it is looked at -/
def gB (s : mo_S) (m : Int) : Int → Int := fun x => if x % 12 < s 5 m then s 4 (36 * m + 6 * (x % 12) + x / 12) else if x % 12 - s 5 m = x / 12 then 1 else 0
theorem gB_at (s : mo_S) (m : Int) {i j : Int} (j0 : 0 ≤ j) (j1 : j < 12) : gB s m (12 * i + j) = if j < s 5 m then s 4 (36 * m + 6 * j + i) else if j - s 5 m = i then 1 else 0 := by
  unfold gB; rw [show (12 * i + j) / 12 = i by omega, show (12 * i + j) % 12 = j by omega]
/-- what a call comes to that looks for a form, and gives a matrix or not -/
def madeF (s : mo_S) (w0 : ax_W) (to R C : Int) (g : Int → Int → Int) (ans : Int) (u : Option Value) (w' : ax_W) : Prop := ∃ s' r', RW w0 w' s' ∧ Bg s' r' ∧ (s' 0 0 = 0 ∧ s' 10 = s 10 ∧ s' 0 5 = s 0 5) ∧ ((fits R C g ∧ u = some (.int (jI ans)) ∧ given s s' to R C g) ∨ (¬ fits R C g ∧ u = some (.int (jI (-3))) ∧ keepM s s'))
theorem kq_kF {s s1 s2 : mo_S} (h : kq s s1) (k : kF s1 s2) : kq s s2 :=
  ⟨⟨(k.1 4 (by decide) (by decide) (by decide) (by decide) (by decide) (by decide)).trans h.1.1, (k.1 5 (by decide) (by decide) (by decide) (by decide) (by decide) (by decide)).trans h.1.2.1, (k.1 6 (by decide) (by decide) (by decide) (by decide) (by decide) (by decide)).trans h.1.2.2⟩, (k.2 0 (by decide) (by decide)).trans h.2.1, (k.1 10 (by decide) (by decide) (by decide) (by decide) (by decide) (by decide)).trans h.2.2.1, (k.2 5 (by decide) (by decide)).trans h.2.2.2⟩
/-- the end of such a call -/
theorem made_give {s s1 s2 : mo_S} {w0 w' : ax_W} {to R C ans : Int} {g h : Int → Int → Int} {r : Int → Int} {u : Option Value} (hK : kq s s1) (hw : RW w0 w' s2) (hB : Bg s2 r) (kn : keepN s1 s2) (hv : ∀ i j, 0 ≤ i → i < R → 0 ≤ j → j < C → g i j = h i j) (hc : (fits R C g ∧ u = some (.int (jI ans)) ∧ given s1 s2 to R C g) ∨ (¬ fits R C g ∧ u = some (.int (jI (-3))) ∧ keepM s1 s2)) : madeF s w0 to R C h ans u w' := by
  refine ⟨s2, r, hw, hB, ⟨?_, ?_, ?_⟩, ?_⟩
  · rw [kn 0 (by decide) (by decide) (by decide) (by decide) (by decide) (by decide)]; exact hK.2.1
  · rw [kn 10 (by decide) (by decide) (by decide) (by decide) (by decide) (by decide)]; exact hK.2.2.1
  · rw [kn 0 (by decide) (by decide) (by decide) (by decide) (by decide) (by decide)]; exact hK.2.2.2
  · rcases hc with ⟨f, hu, g5, g6, g4⟩ | ⟨f, hu, km⟩
    · exact Or.inl ⟨(fits_congr hv).mp f, hu, by rw [g5, hK.1.2.1], by rw [g6, hK.1.2.2], by rw [g4, hK.1.1]; exact newN_congr hv⟩
    · exact Or.inr ⟨fun q => f ((fits_congr hv).mpr q), hu, keepM_trans hK.1 km⟩
section HERM
variable {xs : List Int32} {fr lo : Nat} {w0 : ax_W} {Q : Outcome → ax_W → Prop}
theorem herm_loop {a : Int} {R C f : Nat} {S : mo_S} {R0 : Int → Int} {t : Value} (hfr : 3 ≤ fr) (hlo : 120 ≤ lo) (a0 : 0 ≤ a) (a1 : a < 6) (hR : S 5 a = R) (hC : S 6 a = C) (R6 : R ≤ 6) (C6 : C ≤ 6) (h3 : S 0 3 = f) (hf : f ≤ R)
    (K : ∀ w s r y3 y4, RW w0 w s → oth S s → Bg s r → (∀ i j : Int, 0 ≤ i → i < R → 0 ≤ j → j < C → r (6 * i + j) = if i < f then R0 (184 + 12 * i + j) else 0) → fin xs fr lo 157 101 [some (.ref 425), some t, some (.int (jI a)), y3, y4] [] w Q) :
    ∀ (n : Nat) (i j : Int) (w : ax_W) (s : mo_S) (r : Int → Int), (R - i) * 7 + (C - j) ≤ n → 0 ≤ i → i < R → 0 ≤ j → j ≤ C → RW w0 w s → oth S s → Bg s r → (∀ i' j' : Int, 0 ≤ i' → 0 ≤ j' → j' < C → (i' < i ∨ (i' = i ∧ j' < j)) → r (6 * i' + j') = if i' < f then R0 (184 + 12 * i' + j') else 0) → (∀ k : Int, 36 ≤ k → r k = R0 k) →
    fin xs fr lo 157 36 [some (.ref 425), some t, some (.int (jI a)), some (.int (jI i)), some (.int (jI j))] [] w Q := by
  intro n
  induction n with
  | zero => intro i j w s r hn i0 i1 j0 j1; omega
  | succ n ih =>
    intro i j w s r hn i0 i1 j0 j1 hw ho hB hv hr
    have e5 : s 5 a = R := by rw [ho 5 (by decide) (by decide) (by decide)]; exact hR
    have e6 : s 6 a = C := by rw [ho 6 (by decide) (by decide) (by decide)]; exact hC
    have e3 : s 0 3 = f := by rw [ho 0 (by decide) (by decide) (by decide)]; exact h3
    by_cases hj : j = C
    · by_cases hlast : i + 1 < R
      · refine fi_step (pc' := 38) m_Mo_hermite rfl rfl ?_
        refine fi_step (pc' := 39) m_Mo_hermite rfl rfl ?_
        refine r_get (p := 42) m_Mo_hermite rfl rfl (by assumption) rfl ?_
        refine fi_step (pc' := 43) m_Mo_hermite rfl rfl ?_
        refine r_ldI (p := 44) m_Mo_hermite rfl rfl (by assumption) (by decide) rfl (by decide) (by omega) (by omega) ?_
        refine s_ic_ge (p := 47) m_Mo_hermite rfl rfl (by omega) (by omega) (by omega) (by omega) (fun hbr => ?_) (fun hbr => False.elim (by omega))
        refine s_iinc (p := 98) m_Mo_hermite rfl rfl rfl ?_
        refine fi_step (pc' := 23) m_Mo_hermite rfl rfl ?_
        refine fi_step (pc' := 24) m_Mo_hermite rfl rfl ?_
        refine fi_step (pc' := 25) m_Mo_hermite rfl rfl ?_
        refine r_get (p := 28) m_Mo_hermite rfl rfl (by assumption) rfl ?_
        refine fi_step (pc' := 29) m_Mo_hermite rfl rfl ?_
        refine r_ldI (p := 30) m_Mo_hermite rfl rfl (by assumption) (by decide) rfl (by decide) (by omega) (by omega) ?_
        refine s_ic_ge (p := 33) m_Mo_hermite rfl rfl (by omega) (by omega) (by omega) (by omega) (fun hbr => False.elim (by omega)) (fun hbr => ?_)
        refine fi_step (pc' := 34) m_Mo_hermite rfl rfl ?_
        refine fi_step (pc' := 36) m_Mo_hermite rfl rfl ?_
        exact ih (i + 1) 0 w s r (by omega) (by omega) hlast (by omega) (by omega) hw ho hB (fun i' j' p0 q0 q1 h => hv i' j' p0 q0 q1 (by omega)) hr
      · refine fi_step (pc' := 38) m_Mo_hermite rfl rfl ?_
        refine fi_step (pc' := 39) m_Mo_hermite rfl rfl ?_
        refine r_get (p := 42) m_Mo_hermite rfl rfl (by assumption) rfl ?_
        refine fi_step (pc' := 43) m_Mo_hermite rfl rfl ?_
        refine r_ldI (p := 44) m_Mo_hermite rfl rfl (by assumption) (by decide) rfl (by decide) (by omega) (by omega) ?_
        refine s_ic_ge (p := 47) m_Mo_hermite rfl rfl (by omega) (by omega) (by omega) (by omega) (fun hbr => ?_) (fun hbr => False.elim (by omega))
        refine s_iinc (p := 98) m_Mo_hermite rfl rfl rfl ?_
        refine fi_step (pc' := 23) m_Mo_hermite rfl rfl ?_
        refine fi_step (pc' := 24) m_Mo_hermite rfl rfl ?_
        refine fi_step (pc' := 25) m_Mo_hermite rfl rfl ?_
        refine r_get (p := 28) m_Mo_hermite rfl rfl (by assumption) rfl ?_
        refine fi_step (pc' := 29) m_Mo_hermite rfl rfl ?_
        refine r_ldI (p := 30) m_Mo_hermite rfl rfl (by assumption) (by decide) rfl (by decide) (by omega) (by omega) ?_
        refine s_ic_ge (p := 33) m_Mo_hermite rfl rfl (by omega) (by omega) (by omega) (by omega) (fun hbr => ?_) (fun hbr => False.elim (by omega))
        exact K w s r _ _ hw ho hB (fun i' j' p0 p1 q0 q1 => hv i' j' p0 q0 q1 (by omega))
    · refine fi_step (pc' := 38) m_Mo_hermite rfl rfl ?_
      refine fi_step (pc' := 39) m_Mo_hermite rfl rfl ?_
      refine r_get (p := 42) m_Mo_hermite rfl rfl (by assumption) rfl ?_
      refine fi_step (pc' := 43) m_Mo_hermite rfl rfl ?_
      refine r_ldI (p := 44) m_Mo_hermite rfl rfl (by assumption) (by decide) rfl (by decide) (by omega) (by omega) ?_
      refine s_ic_ge (p := 47) m_Mo_hermite rfl rfl (by omega) (by omega) (by omega) (by omega) (fun hbr => False.elim (by omega)) (fun hbr => ?_)
      refine fi_step (pc' := 48) m_Mo_hermite rfl rfl ?_
      refine fi_step (pc' := 49) m_Mo_hermite rfl rfl ?_
      refine fi_step (pc' := 50) m_Mo_hermite rfl rfl ?_
      refine fi_step (pc' := 52) m_Mo_hermite rfl rfl ?_
      refine c_3 (p := 55) m_Mo_hermite rfl inv_v (by decide) m_Mo_result rfl rfl (by omega) (by omega) (Nat.le_of_ble_eq_true rfl) (Nat.le_of_ble_eq_true rfl) (RW_rcv hw _) c_result ?_
      refine s_lconst (p := 56) (v := 0) m_Mo_hermite rfl rfl rfl ?_
      refine g_3 (p := 59) m_Mo_hermite rfl inv_v (by decide) m_Mo_bigSet rfl rfl (by omega) (by omega) (Nat.le_of_ble_eq_true rfl) (Nat.le_of_ble_eq_true rfl) (RW_rcv hw _) (c_bigSet hw hB (by omega) (by omega) (by decide) (by decide)) (fun v w hP => ?_)
      obtain ⟨rfl, s1, hw, o1, B1⟩ := hP
      have e31 : s1 0 3 = f := by rw [o1 0 (by decide) (by decide) (by decide)]; exact e3
      refine fi_step (pc' := 60) m_Mo_hermite rfl rfl ?_
      refine fi_step (pc' := 61) m_Mo_hermite rfl rfl ?_
      refine r_get (p := 64) m_Mo_hermite rfl rfl (by assumption) rfl ?_
      refine s_ic_ge (p := 67) m_Mo_hermite rfl rfl (by omega) (by omega) (by omega) (by omega) (fun hif => ?_) (fun hif => ?_)
      · refine s_iinc (p := 92) m_Mo_hermite rfl rfl rfl ?_
        refine fi_step (pc' := 36) m_Mo_hermite rfl rfl ?_
        refine ih i (j + 1) w s1 _ (by omega) i0 i1 (by omega) (by omega) hw (oth_trans ho o1) B1 (fun i' j' p0 q0 q1 h => ?_) (fun k hk => by rw [up1_ne _ (by omega)]; exact hr k hk)
        by_cases e : i' = i ∧ j' = j
        · obtain ⟨rfl, rfl⟩ := e; rw [up1_same, if_neg (by omega)]
        · rw [up1_ne _ (by omega)]; exact hv i' j' p0 q0 q1 (by omega)
      · refine fi_step (pc' := 68) m_Mo_hermite rfl rfl ?_
        refine fi_step (pc' := 69) m_Mo_hermite rfl rfl ?_
        refine fi_step (pc' := 70) m_Mo_hermite rfl rfl ?_
        refine fi_step (pc' := 72) m_Mo_hermite rfl rfl ?_
        refine c_3 (p := 75) m_Mo_hermite rfl inv_v (by decide) m_Mo_result rfl rfl (by omega) (by omega) (Nat.le_of_ble_eq_true rfl) (Nat.le_of_ble_eq_true rfl) (RW_rcv hw _) c_result ?_
        refine s_sipush (p := 78) m_Mo_hermite rfl rfl rfl ?_
        refine s_bipush (p := 80) m_Mo_hermite rfl rfl rfl ?_
        refine fi_step (pc' := 81) m_Mo_hermite rfl rfl ?_
        refine s_imul (p := 82) m_Mo_hermite rfl rfl ?_
        refine s_iadd (p := 83) m_Mo_hermite rfl rfl ?_
        refine fi_step (pc' := 85) m_Mo_hermite rfl rfl ?_
        refine s_iadd (p := 86) m_Mo_hermite rfl rfl ?_
        refine g_3 (p := 89) m_Mo_hermite rfl inv_v (by decide) m_Mo_bigCopy rfl rfl (by omega) (by omega) (Nat.le_of_ble_eq_true rfl) (Nat.le_of_ble_eq_true rfl) (RW_rcv hw _) (c_bigCopy hw B1 (by omega) (by omega) (by omega) (by omega) (by omega)) (fun v w hP => ?_)
        obtain ⟨rfl, s2, hw, o2, B2⟩ := hP
        refine s_iinc (p := 92) m_Mo_hermite rfl rfl rfl ?_
        refine fi_step (pc' := 36) m_Mo_hermite rfl rfl ?_
        refine ih i (j + 1) w s2 _ (by omega) i0 i1 (by omega) (by omega) hw (oth_trans ho (oth_trans o1 o2)) B2 (fun i' j' p0 q0 q1 h => ?_) (fun k hk => by rw [up1_ne _ (by omega), up1_ne _ (by omega)]; exact hr k hk)
        by_cases e : i' = i ∧ j' = j
        · obtain ⟨rfl, rfl⟩ := e; rw [up1_same, up1_ne _ (by omega), if_pos (by omega)]; exact hr _ (by omega)
        · rw [up1_ne _ (by omega), up1_ne _ (by omega)]; exact hv i' j' p0 q0 q1 (by omega)
theorem c_hermite {to a : Int} {w : ax_W} {s : mo_S} {r : Int → Int} (hfr : 10 ≤ fr) (hlo : 320 ≤ lo) (hw : RW w0 w s) (hM : MI s) (hB : Bg s r) (t0 : -2147483648 ≤ to) (t1 : to < 2147483648) (a0 : -2147483648 ≤ a) (a1 : a < 2147483648) :
    fin xs fr lo 157 0 (ax_ent [.ref 425, .int (jI to), .int (jI a)] 5) [] w (Ret fun u w' =>
      (¬ ((0 ≤ to ∧ to < 6) ∧ (0 ≤ a ∧ a < 6)) ∧ RW w0 w' (up s 0 0 1) ∧ u = some (.int (jI 0))) ∨
      (((0 ≤ to ∧ to < 6) ∧ (0 ≤ a ∧ a < 6)) ∧ ∃ (f : Nat) (lead : Int → Int) (X : Nat → Vec), isForm (s 5 a).toNat (s 6 a) (gm s a) f lead X ∧ madeF s w0 to (s 5 a) (s 6 a) (fun i j => if i < f then X i.toNat j else 0) f u w')) := by
  refine fi_step (pc' := 1) m_Mo_hermite rfl rfl ?_
  refine fi_step (pc' := 2) m_Mo_hermite rfl rfl ?_
  refine fi_step (pc' := 3) m_Mo_hermite rfl rfl ?_
  refine fi_step (pc' := 4) m_Mo_hermite rfl rfl ?_
  refine g_4 (p := 7) m_Mo_hermite rfl inv_v (by decide) m_Mo_areThere rfl rfl (by omega) (by omega) (Nat.le_of_ble_eq_true rfl) (Nat.le_of_ble_eq_true rfl) (RW_rcv hw _) (c_areThere (by omega) (by omega) hw t0 t1 a0 a1 a0 a1) (fun v w hP => ?_)
  obtain ⟨hw, rfl⟩ := hP
  by_cases hh : (0 ≤ to ∧ to < 6) ∧ (0 ≤ a ∧ a < 6)
  · have hh' : (0 ≤ to ∧ to < 6) ∧ (0 ≤ a ∧ a < 6) ∧ (0 ≤ a ∧ a < 6) := ⟨hh.1, hh.2, hh.2⟩
    rw [if_pos hh'] at hw ⊢
    have hm := hh.2
    have K0 := kq_up s
    have M0 := MI_congr hM K0.1
    have hr := hM.1 a hm.1 hm.2
    have hc := hM.2.1 a hm.1 hm.2
    have e5 : up s 0 0 0 5 = s 5 := K0.1.2.1
    have e6 : up s 0 0 0 6 = s 6 := K0.1.2.2
    refine s_if_ne (p := 10) m_Mo_hermite rfl rfl (by omega) (by omega) (fun hbr => ?_) (fun hbr => False.elim (by omega))
    refine fi_step (pc' := 13) m_Mo_hermite rfl rfl ?_
    refine fi_step (pc' := 14) m_Mo_hermite rfl rfl ?_
    refine g_2 (p := 17) m_Mo_hermite rfl inv_v (by decide) m_Mo_lookAt rfl rfl (by omega) (by omega) (Nat.le_of_ble_eq_true rfl) (Nat.le_of_ble_eq_true rfl) (RW_rcv hw _) (c_lookAt (by omega) (by omega) hw M0 hm.1 hm.2) (fun v w hP => ?_)
    obtain ⟨rfl, s1, hw, kl, l1, l2, l7⟩ := hP
    rw [K0.1.2.1, K0.1.2.2, K0.1.1] at l7
    rw [e5] at l1
    rw [e6] at l2
    obtain ⟨hgm, hgb⟩ := look_ok hM hm.1 hm.2 l7
    have B1 : Bg s1 r := Bg_congr (Bg_up0 hB 0) (kl.1 1 (by decide) (by decide)) (kl.1 2 (by decide) (by decide)) (kl.1 3 (by decide) (by decide))
    have K1 := kq_kL K0 kl
    obtain ⟨R, hR⟩ : ∃ R : Nat, s 5 a = R := ⟨(s 5 a).toNat, by omega⟩
    obtain ⟨C, hC⟩ : ∃ C : Nat, s 6 a = C := ⟨(s 6 a).toNat, by omega⟩
    rw [hR, hC, Int.toNat_natCast] at hgm hgb
    rw [Int.toNat_natCast] at hgm hgb
    refine fi_step (pc' := 18) m_Mo_hermite rfl rfl ?_
    refine g_1 (p := 21) m_Mo_hermite rfl inv_v (by decide) m_Mo_findForm rfl rfl (by omega) (by omega) (Nat.le_of_ble_eq_true rfl) (Nat.le_of_ble_eq_true rfl) (RW_rcv hw _) (c_findForm (R := R) (C := C) (by omega) (by omega) hw B1 (by omega) (by omega) (by omega) (by omega) (by omega) hgb) (fun v w hP => ?_)
    obtain ⟨rfl, s2, r2, f, X, hw, k2, B2, f3, fR, hF, hl, hv, _, _⟩ := hP
    have K2 := kq_kF K1 k2
    have g5 : s2 5 a = R := by rw [K2.1.2.1]; exact hR
    have g6 : s2 6 a = C := by rw [K2.1.2.2]; exact hC
    refine fi_step (pc' := 22) m_Mo_hermite rfl rfl ?_
    refine fi_step (pc' := 23) m_Mo_hermite rfl rfl ?_
    refine fi_step (pc' := 24) m_Mo_hermite rfl rfl ?_
    refine fi_step (pc' := 25) m_Mo_hermite rfl rfl ?_
    refine r_get (p := 28) m_Mo_hermite rfl rfl (by assumption) rfl ?_
    refine fi_step (pc' := 29) m_Mo_hermite rfl rfl ?_
    refine r_ldI (p := 30) m_Mo_hermite rfl rfl (by assumption) (by decide) rfl (by decide) (by omega) (by omega) ?_
    refine s_ic_ge (p := 33) m_Mo_hermite rfl rfl (by omega) (by omega) (by omega) (by omega) (fun hbr => False.elim (by omega)) (fun hbr => ?_)
    refine fi_step (pc' := 34) m_Mo_hermite rfl rfl ?_
    refine fi_step (pc' := 36) m_Mo_hermite rfl rfl ?_
    refine herm_loop (S := s2) (R0 := r2) (R := R) (C := C) (f := f) (by omega) (by omega) hm.1 hm.2 g5 g6 (by omega) (by omega) f3 fR ?_ 100 0 0 w s2 r2 (by omega) (by omega) (by omega) (by omega) (by omega) hw (oth_refl s2) B2 (fun i' j' _ _ _ h => by omega) (fun _ _ => rfl)
    intro w s3 r3 y3 y4 hw o3 B3 v3
    have m3 := keepM_oth o3
    have G5 : s3 5 a = R := by rw [m3.2.1, g5]
    have G6 : s3 6 a = C := by rw [m3.2.2, g6]
    have f33 : s3 0 3 = f := by rw [o3 0 (by decide) (by decide) (by decide)]; exact f3
    refine fi_step (pc' := 102) m_Mo_hermite rfl rfl ?_
    refine fi_step (pc' := 103) m_Mo_hermite rfl rfl ?_
    refine fi_step (pc' := 104) m_Mo_hermite rfl rfl ?_
    refine r_get (p := 107) m_Mo_hermite rfl rfl (by assumption) rfl ?_
    refine fi_step (pc' := 108) m_Mo_hermite rfl rfl ?_
    refine r_ldI (p := 109) m_Mo_hermite rfl rfl (by assumption) (by decide) rfl (by decide) (by omega) (by omega) ?_
    refine fi_step (pc' := 110) m_Mo_hermite rfl rfl ?_
    refine r_get (p := 113) m_Mo_hermite rfl rfl (by assumption) rfl ?_
    refine fi_step (pc' := 114) m_Mo_hermite rfl rfl ?_
    refine r_ldI (p := 115) m_Mo_hermite rfl rfl (by assumption) (by decide) rfl (by decide) (by omega) (by omega) ?_
    rw [G5, G6]
    refine g_4 (p := 118) m_Mo_hermite rfl inv_v (by decide) m_Mo_give rfl rfl (by omega) (by omega) (Nat.le_of_ble_eq_true rfl) (Nat.le_of_ble_eq_true rfl) (RW_rcv hw _) (c_give (by omega) (by omega) hw B3 hh.1.1 hh.1.2 (by omega) (by omega) (by omega) (by omega)) (fun v w hP => ?_)
    obtain ⟨s4, r4, hw, B4, kn, hgv⟩ := hP
    have f43 : s4 0 3 = f := by rw [kn 0 (by decide) (by decide) (by decide) (by decide) (by decide) (by decide)]; exact f33
    have K3 := kq_oth K2 o3
    have hfm : isForm (s 5 a).toNat (s 6 a) (gm s a) f (s2 9) X := by rw [hR, hC, Int.toNat_natCast]; exact isForm_congr hgm hF
    have hvv : ∀ i j : Int, 0 ≤ i → i < s 5 a → 0 ≤ j → j < s 6 a → r3 (6 * i + j) = if i < f then X i.toNat j else 0 := by
      intro i j i0 i1 j0 j1
      rw [v3 i j i0 (by omega) j0 (by omega)]
      by_cases hi : i < f
      · rw [if_pos hi, if_pos hi, ← hv i.toNat j (by omega) j0 (by omega), show ((i.toNat : Nat) : Int) = i by omega]
      · rw [if_neg hi, if_neg hi]
    rw [← hR, ← hC] at hgv
    rcases hgv with ⟨ft, rfl, gg⟩ | ⟨ft, rfl, km⟩
    · refine s_if_eq (p := 121) m_Mo_hermite rfl rfl (by omega) (by omega) (fun hbr => False.elim (by omega)) (fun hbr => ?_)
      refine fi_step (pc' := 122) m_Mo_hermite rfl rfl ?_
      refine r_get (p := 125) m_Mo_hermite rfl rfl (by assumption) rfl ?_
      refine fi_step (pc' := 130) m_Mo_hermite rfl rfl ?_
      refine p_reti m_Mo_hermite rfl rfl ?_
      rw [f43]
      exact Or.inr ⟨hh, f, s2 9, X, hfm, made_give K3 hw B4 kn hvv (Or.inl ⟨ft, rfl, gg⟩)⟩
    · refine s_if_eq (p := 121) m_Mo_hermite rfl rfl (by omega) (by omega) (fun hbr => ?_) (fun hbr => False.elim (by omega))
      refine s_bipush (p := 130) m_Mo_hermite rfl rfl rfl ?_
      refine p_reti m_Mo_hermite rfl rfl ?_
      exact Or.inr ⟨hh, f, s2 9, X, hfm, made_give K3 hw B4 kn hvv (Or.inr ⟨ft, rfl, km⟩)⟩
  · have hh' : ¬ ((0 ≤ to ∧ to < 6) ∧ (0 ≤ a ∧ a < 6) ∧ (0 ≤ a ∧ a < 6)) := fun h => hh ⟨h.1, h.2.1⟩
    rw [if_neg hh'] at hw ⊢
    refine s_if_ne (p := 10) m_Mo_hermite rfl rfl (by omega) (by omega) (fun hbr => False.elim (by omega)) (fun hbr => ?_)
    refine fi_step (pc' := 11) m_Mo_hermite rfl rfl ?_
    refine p_reti m_Mo_hermite rfl rfl ?_
    exact Or.inl ⟨hh, hw, rfl⟩
end HERM
