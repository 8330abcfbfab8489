/-! THE CLASS: hermite, kernel -/
/-- the stairs' numbers were copied, or one is too large -/
def cpO (w0 w' : ax_W) (s : mo_S) (v : Nat → Int) (L Z : Nat) (R C : Int) (T : Int → Int → Int) (u : Option Value) : Prop := ∃ g', CW w0 w' (gvM s 6 R C g') v L Z ∧ ((u = some (.int (jI 1)) ∧ ∀ i j, 0 ≤ i → i < R → 0 ≤ j → j < C → g' i j = T i j ∧ (T i j).natAbs < 1000000000000000000) ∨ (u = some (.int (jI 0)) ∧ ∃ i j, (0 ≤ i ∧ i < R) ∧ (0 ≤ j ∧ j < C) ∧ ¬ (T i j).natAbs < 1000000000000000000))
theorem spEq_map {F : Vec → Vec} (hz : F (fun _ => 0) = fun _ => 0) (hf : ∀ (x v : Vec) (c : Int), F (fun j => x j - c * v j) = fun j => F x j - c * F v j) {vs ws : List Vec} (h : spEq vs ws) : spEq (vs.map F) (ws.map F) := by
  intro y
  constructor
  · intro hy
    obtain ⟨x, hx, rfl⟩ := sp_unmap hz hf hy
    exact sp_map hz hf ((h x).mp hx)
  · intro hy
    obtain ⟨x, hx, rfl⟩ := sp_unmap hz hf hy
    exact sp_map hz hf ((h x).mpr hx)
theorem madeC_rf {w0 w' : ax_W} {s s1 : mo_S} {L Z : Nat} {to R C ans : Int} {g : Int → Int → Int} {u : Option Value} (hr : rf s1 = rf s) (hk : kpM s s1) (h : madeC w0 s1 L Z to R C g ans u w') : madeC w0 s L Z to R C g ans u w' := by
  obtain ⟨s', v', h1, h2, h3, h4⟩ := h
  rw [hr] at h4
  exact ⟨s', v', h1, h2, ⟨h3.1.trans hk.1, h3.2.trans hk.2⟩, h4⟩
/-- after the stairs were climbed -/
theorem ok_climb {s s' : mo_S} {v v' : Nat → Int} (h : okC s v) (hs : kst s s') (hp : prm s') (hv : kpS v v') : okC s' v' ∧ rf s' = rf s ∧ kpM s s' := by
  obtain ⟨a, b, c, _, _, p0, p1⟩ := h
  have hr : rf s' = rf s := rf_eq (fun x _ _ => by rw [hs.1 1 (by decide) (by decide) (by decide)]) (fun x _ _ => by rw [hs.1 2 (by decide) (by decide) (by decide)]) (fun x _ _ => by rw [hs.1 3 (by decide) (by decide) (by decide)])
  exact ⟨⟨by rw [hr]; exact a, by rw [hv 27 (by omega) (by omega) (by omega)]; exact b, by rw [hv 104 (by omega) (by omega) (by omega)]; exact c, hp.1, hp.2, by rw [hs.2 0 (by decide) (by decide)]; exact p0, by rw [hs.2 0 (by decide) (by decide)]; exact p1⟩, hr, hs.2 0 (by decide) (by decide), hs.1 4 (by decide) (by decide) (by decide)⟩
theorem from_ex {lead : Int → Int} (c : Int) : ∀ {N : Nat}, (∀ i k : Nat, i < k → k < N → lead i < lead k) → ∃ f, isFrom lead N c f
  | 0, _ => ⟨0, Nat.le_refl _, fun k hk => by omega, fun k _ hk => by omega⟩
  | N + 1, h => by
    obtain ⟨f, f1, f2, f3⟩ := from_ex c (N := N) (fun i k a b => h i k a (by omega))
    by_cases hlt : lead N < c
    · by_cases e : f = N
      · subst e
        refine ⟨f + 1, Nat.le_refl _, fun k hk => ?_, fun k a b => by omega⟩
        by_cases e : k = f
        · subst e; exact hlt
        · exact f2 k (by omega)
      · have := f3 f (Nat.le_refl _) (by omega)
        have := h f N (by omega) (by omega)
        omega
    · refine ⟨f, by omega, f2, fun k a b => ?_⟩
      by_cases e : k = N
      · subst e; omega
      · exact f3 k a (by omega)
/-- the front of the stairs is the Hermite form of the matrix -/
theorem front_form {s s1 : mo_S} {v1 : Nat → Int} {a R C W f : Nat} (ha : a < 6) (h2 : s 2 a = R) (h3 : s 3 a = C) (R6 : R ≤ 6) (C6 : C ≤ 6) (hW : R + C = W) (hE : EC s1 v1 W R 0 465 (fam (ldV s a 0) R 0)) (hf : isFrom (s1 5) R C f) : isForm R C (gm (rf s) a) f (s1 5) (fun k => tr C (rv s1 v1 k)) ∧ ∀ i j : Int, 0 ≤ i → i < R → 0 ≤ j → j < C → rv s1 v1 i.toNat j = if i < f then tr C (rv s1 v1 i.toNat) j else 0 := by
  obtain ⟨e1, e2, e3, e4, e5⟩ := hE
  obtain ⟨f1, f2, f3⟩ := hf
  have hz : ∀ k : Nat, f ≤ k → k < R → ∀ j : Int, j < C → rv s1 v1 k j = 0 := fun k hk hR j hj => (e1 k hR).2.2.1 j (by have := f3 k hk hR; omega)
  have hrow : ∀ i : Nat, i < R → tr C (ldV s a 0 i) = rwg (gm (rf s) a) C i := by
    intro i hi
    funext j
    unfold rwg
    by_cases hj : 0 ≤ j ∧ j < C
    · rw [tr_in hj.1 hj.2, tr_in hj.1 hj.2]
      obtain ⟨j, rfl⟩ := Int.eq_ofNat_of_zero_le hj.1
      have := gmC_at (s := s) ha (show i < 6 by omega) (show j < 6 by omega)
      show _ = gm (rf s) a (12 * (i : Int) + (j : Int))
      rw [this]
      unfold ldV
      have h01 : ¬ (0 : Int) = 1 := by decide
      rw [if_neg h01, if_neg h01, h3, if_pos hj]
    · rw [tr_out hj, tr_out hj]
  refine ⟨⟨?_, ?_, ?_⟩, fun i j i0 i1 j0 j1 => ?_⟩
  · refine hl_ech (fun i _ hi => ?_) (fun i _ hi j hj => ?_) (fun i m _ h1 h2 => e2 i m h1 (by omega))
    · have r := (e1 i (by omega)).1
      have := f2 i (by omega)
      rw [tr_in r.1 (by omega)]; exact (e1 i (by omega)).2.1
    · by_cases hj' : 0 ≤ j ∧ j < C
      · rw [tr_in hj'.1 hj'.2]; exact (e1 i (by omega)).2.2.1 j hj
      · exact tr_out hj'
  · refine hl_red (fun i m _ h1 h2 => ?_)
    have r := (e1 m (by omega)).1
    have l := f2 m (by omega)
    rw [tr_in r.1 (by omega), tr_in r.1 (by omega)]
    exact e4 i m (by omega) h1 (by omega)
  · have hm := spEq_map (tr_zero C) (tr_lin C) e5
    rw [fam_map, fam_map] at hm
    have hrows : fam (fun i => tr C (ldV s a 0 i)) R 0 = rowsOf R C (gm (rf s) a) := fam_congr (fun i _ hi => hrow i (by omega))
    rw [hrows] at hm
    refine spEq_trans (spEq_of (fun x hx => ?_) (fun x hx => ?_)) hm
    · obtain ⟨i, _, hi, rfl⟩ := fam_mem.mp hx
      exact sp_mem (fam_mem.mpr ⟨i, by omega, by omega, rfl⟩)
    · obtain ⟨i, _, hi, rfl⟩ := fam_mem.mp hx
      by_cases e : i < f
      · exact sp_mem (fam_mem.mpr ⟨i, by omega, by omega, rfl⟩)
      · refine sp_ext sp_zero (fun j => ?_)
        by_cases hj : 0 ≤ j ∧ j < C
        · rw [tr_in hj.1 hj.2, hz i (by omega) (by omega) j hj.2]
        · rw [tr_out hj]
  · by_cases e : i < f
    · rw [if_pos e, tr_in j0 j1]
    · rw [if_neg e]; exact hz i.toNat (by omega) (by omega) j j1
/-- the turned matrix with its diagonal -/
theorem back_form {s s1 : mo_S} {v1 : Nat → Int} {a R C W : Nat} (ha : a < 6) (h2 : s 2 a = R) (h3 : s 3 a = C) (R6 : R ≤ 6) (C6 : C ≤ 6) (hW : R + C = W) (hE : EC s1 v1 W C 0 465 (fam (ldV s a 1) C 0)) : isForm C W (gB (rf s) a) C (s1 5) (rv s1 v1) := by
  have hrow : ∀ i : Nat, i < C → ldV s a 1 i = rwg (gB (rf s) a) W i := by
    intro i hi
    funext j
    unfold rwg ldV
    rw [if_pos rfl, if_pos rfl, h2]
    by_cases hj : 0 ≤ j ∧ j < W
    · rw [tr_in hj.1 hj.2, gB_at _ _ hj.1 (by omega), rf_5 s (by omega) (by omega), h2]
      by_cases e : j < R
      · rw [if_pos (by omega), if_pos e, rf_4 s (by omega) (by omega)]
      · rw [if_neg (by omega), if_neg e]
        by_cases e' : j = R + i
        · rw [if_pos e', if_pos (by omega)]
        · rw [if_neg e', if_neg (by omega)]
    · rw [tr_out hj, if_neg (by omega), if_neg (by omega)]
  refine ⟨EC_ech hE, EC_red hE, ?_⟩
  have hrows : fam (ldV s a 1) C 0 = rowsOf C W (gB (rf s) a) := fam_congr (fun i _ hi => hrow i (by omega))
  rw [← hrows]
  exact hE.2.2.2.2
section HERM
variable {xs : List Int32} {fr lo : Nat} {w0 w : ax_W} {s : mo_S} {v : Nat → Int} {L Z : Nat}
theorem cst_loop {R C : Int} {r0 c0 : Nat} {T : Int → Int → Int} (hpm : prm s) (r1 : 1 ≤ R) (r6 : R ≤ 6) (c1 : 1 ≤ C) (c6 : C ≤ 6) (hr0 : r0 + R ≤ 6) (hc0 : c0 + C ≤ 12) (hT : T = fun i j => rv s v (r0 + i.toNat) (c0 + j)) (hfr : 3 ≤ fr) (hlo : 100 ≤ lo) :
    ∀ (f : Nat) (i j : Int) (g : Int → Int → Int) (w : ax_W) (y5 : Option Value), (R - i) * 7 + (C - j) ≤ f → 0 ≤ i → i < R → 0 ≤ j → j ≤ C → CW w0 w (gvM s 6 R C g) v L Z → (∀ i' j', 0 ≤ i' → 0 ≤ j' → j' < C → (i' < i ∨ (i' = i ∧ j' < j)) → g i' j' = T i' j' ∧ (T i' j').natAbs < 1000000000000000000) →
    fin xs fr lo 75 16 [some (.ref 0), some (.int (jI (r0 : Int))), some (.int (jI (c0 : Int))), some (.int (jI i)), some (.int (jI j)), y5] [] w (Ret fun u w' => cpO w0 w' s v L Z R C T u) := by
  intro f
  induction f with
  | zero => intro i j g w y5 hf i0 i1 j0 j1; omega
  | succ f ih =>
    intro i j g w y5 hf i0 i1 j0 j1 hC hg
    have e2 : gvM s 6 R C g 2 ((6 : Nat) : Int) = R := by rw [gvM_2]; exact up1_same _ _ _
    have e3 : gvM s 6 R C g 3 ((6 : Nat) : Int) = C := by rw [gvM_3]; exact up1_same _ _ _
    have e6 : gvM s 6 R C g 6 = s 6 := gvM_o _ _ _ _ _ (by decide) (by decide) (by decide)
    have h14 : w[14]? = some (2, [.ref 15, .int (jI R), .int (jI C)]) := by
      have := C_mat (m := 6) hC (by decide)
      rw [e2, e3] at this
      exact this
    by_cases hj : j < C
    · obtain ⟨i, rfl⟩ := Int.eq_ofNat_of_zero_le i0
      obtain ⟨j, rfl⟩ := Int.eq_ofNat_of_zero_le j0
      have hp := hpm.1 (r0 + i) (by omega)
      obtain ⟨p, ep⟩ : ∃ p : Nat, s 6 (r0 + i : Nat) = p := ⟨(s 6 (r0 + i : Nat)).toNat, by omega⟩
      have iA : isWh (238 + 26 * p + 2 * (c0 + j)) := i_row (by omega) (by omega)
      have hTij : T i j = v (238 + 26 * p + 2 * (c0 + j)) := by
        rw [hT]
        show rv s v (r0 + (i : Int).toNat) ((c0 : Int) + (j : Int)) = _
        rw [Int.toNat_natCast]
        unfold rv
        rw [ep, Int.toNat_natCast, show (c0 : Int) + (j : Int) = ((c0 + j : Nat) : Int) by omega, PR_at v p (by omega)]
      refine fi_step (pc' := 18) m_De_copyStairs rfl rfl ?_
      refine fi_step (pc' := 19) m_De_copyStairs rfl rfl ?_
      refine k_get (p := 22) m_De_copyStairs rfl rfl (by first | exact C_print hC | exact C_minors hC | exact C_stairs hC | exact (CW_cst hC).2.1 | exact C_mat hC (by omega) | exact ((CW_cst hC).2.2.2.2.2.2 _ (by omega)).1 | assumption) rfl ?_
      refine k_get (p := 25) m_De_copyStairs rfl rfl (by first | exact C_print hC | exact C_minors hC | exact C_stairs hC | exact (CW_cst hC).2.1 | exact C_mat hC (by omega) | exact ((CW_cst hC).2.2.2.2.2.2 _ (by omega)).1 | assumption) rfl ?_
      refine s_ic_ge (p := 28) m_De_copyStairs rfl rfl (by omega) (by omega) (by omega) (by omega) (fun hbr => False.elim (by omega)) (fun hbr => ?_)
      refine fi_step (pc' := 29) m_De_copyStairs rfl rfl ?_
      refine k_get (p := 32) m_De_copyStairs rfl rfl (by first | exact C_print hC | exact C_minors hC | exact C_stairs hC | exact (CW_cst hC).2.1 | exact C_mat hC (by omega) | exact ((CW_cst hC).2.2.2.2.2.2 _ (by omega)).1 | assumption) rfl ?_
      refine fi_step (pc' := 33) m_De_copyStairs rfl rfl ?_
      refine fi_step (pc' := 34) m_De_copyStairs rfl rfl ?_
      refine s_iadd (p := 35) m_De_copyStairs rfl rfl ?_
      refine fi_step (pc' := 36) m_De_copyStairs rfl rfl ?_
      refine fi_step (pc' := 38) m_De_copyStairs rfl rfl ?_
      refine s_iadd (p := 39) m_De_copyStairs rfl rfl ?_
      rw [show (r0 : Int) + (i : Int) = ((r0 + i : Nat) : Int) by omega, show (c0 : Int) + (j : Int) = ((c0 + j : Nat) : Int) by omega]
      have hnum := st_number (xs := xs) (fr := fr - 1) (lo := lo - 22) (i := r0 + i) (j := c0 + j) hC (by omega) (by omega) (by rw [e6]; exact hp)
      rw [e6, ep, Int.toNat_natCast] at hnum
      refine c_3 (p := 42) m_De_copyStairs rfl inv_v (by decide) m_St_number rfl rfl (by omega) (by omega) (Nat.le_of_ble_eq_true rfl) (Nat.le_of_ble_eq_true rfl) (C_rcvS hC _) (st_number (i := r0 + i) (j := c0 + j) hC (by omega) (by omega) (by rw [e6]; exact hp)) ?_
      refine fi_step (pc' := 44) m_De_copyStairs rfl rfl ?_
      rw [e6, ep, Int.toNat_natCast]
      refine fi_step (pc' := 46) m_De_copyStairs rfl rfl ?_
      refine c_1 (p := 49) m_De_copyStairs rfl inv_v (by decide) m_Wh_fits rfl rfl (by omega) (by omega) (Nat.le_of_ble_eq_true rfl) (Nat.le_of_ble_eq_true rfl) (C_rcvW hC (by first | assumption | exact rfl) _) (cn_fits hC iA) ?_
      rw [← hTij]
      by_cases hfit : (T i j).natAbs < 1000000000000000000
      · rw [if_pos hfit]
        refine s_if_ne (p := 52) m_De_copyStairs rfl rfl (by omega) (by omega) (fun hbr => ?_) (fun hbr => False.elim (by omega))
        refine fi_step (pc' := 55) m_De_copyStairs rfl rfl ?_
        refine k_get (p := 58) m_De_copyStairs rfl rfl (by first | exact C_print hC | exact C_minors hC | exact C_stairs hC | exact (CW_cst hC).2.1 | exact C_mat hC (by omega) | exact ((CW_cst hC).2.2.2.2.2.2 _ (by omega)).1 | assumption) rfl ?_
        refine fi_step (pc' := 59) m_De_copyStairs rfl rfl ?_
        refine fi_step (pc' := 61) m_De_copyStairs rfl rfl ?_
        refine fi_step (pc' := 63) m_De_copyStairs rfl rfl ?_
        refine c_1 (p := 66) m_De_copyStairs rfl inv_v (by decide) m_Wh_value rfl rfl (by omega) (by omega) (Nat.le_of_ble_eq_true rfl) (Nat.le_of_ble_eq_true rfl) (C_rcvW hC (by first | assumption | exact rfl) _) (cn_value hC iA (by rw [← hTij]; exact hfit)) ?_
        rw [← hTij]
        refine g_4 (p := 69) m_De_copyStairs rfl inv_v (by decide) m_Ma_write rfl rfl (by omega) (by omega) (Nat.le_of_ble_eq_true rfl) (Nat.le_of_ble_eq_true rfl) (C_rcvM (m := 6) hC (by omega) _) (ma_write6 hC r1 r6 c1 c6 i0 i1 j0 hj (by omega) (by omega)) (fun v w hP => ?_)
        obtain ⟨rfl, hC⟩ := hP
        refine s_iinc (p := 72) m_De_copyStairs rfl rfl rfl ?_
        refine fi_step (pc' := 16) m_De_copyStairs rfl rfl ?_
        refine ih i (j + 1) _ w _ (by omega) i0 i1 (by omega) (by omega) hC (fun i' j' a0 b0 b1 hlt => ?_)
        unfold upg
        by_cases e : i' = i ∧ j' = j
        · rw [if_pos e, e.1, e.2]; exact ⟨rfl, hfit⟩
        · rw [if_neg e]; exact hg i' j' a0 b0 b1 (by omega)
      · rw [if_neg hfit]
        refine s_if_ne (p := 52) m_De_copyStairs rfl rfl (by omega) (by omega) (fun hbr => False.elim (by omega)) (fun hbr => ?_)
        refine fi_step (pc' := 53) m_De_copyStairs rfl rfl ?_
        refine p_retb m_De_copyStairs rfl rfl (by first | exact Or.inl rfl | exact Or.inr rfl | omega) ?_
        exact ⟨g, hC, Or.inr ⟨rfl, i, j, ⟨i0, i1⟩, ⟨j0, hj⟩, hfit⟩⟩
    · by_cases hi : i + 1 < R
      · refine fi_step (pc' := 18) m_De_copyStairs rfl rfl ?_
        refine fi_step (pc' := 19) m_De_copyStairs rfl rfl ?_
        refine k_get (p := 22) m_De_copyStairs rfl rfl (by first | exact C_print hC | exact C_minors hC | exact C_stairs hC | exact (CW_cst hC).2.1 | exact C_mat hC (by omega) | exact ((CW_cst hC).2.2.2.2.2.2 _ (by omega)).1 | assumption) rfl ?_
        refine k_get (p := 25) m_De_copyStairs rfl rfl (by first | exact C_print hC | exact C_minors hC | exact C_stairs hC | exact (CW_cst hC).2.1 | exact C_mat hC (by omega) | exact ((CW_cst hC).2.2.2.2.2.2 _ (by omega)).1 | assumption) rfl ?_
        refine s_ic_ge (p := 28) m_De_copyStairs rfl rfl (by omega) (by omega) (by omega) (by omega) (fun hbr => ?_) (fun hbr => False.elim (by omega))
        refine s_iinc (p := 78) m_De_copyStairs rfl rfl rfl ?_
        refine fi_step (pc' := 2) m_De_copyStairs rfl rfl ?_
        refine fi_step (pc' := 3) m_De_copyStairs rfl rfl ?_
        refine fi_step (pc' := 4) m_De_copyStairs rfl rfl ?_
        refine k_get (p := 7) m_De_copyStairs rfl rfl (by first | exact C_print hC | exact C_minors hC | exact C_stairs hC | exact (CW_cst hC).2.1 | exact C_mat hC (by omega) | exact ((CW_cst hC).2.2.2.2.2.2 _ (by omega)).1 | assumption) rfl ?_
        refine k_get (p := 10) m_De_copyStairs rfl rfl (by first | exact C_print hC | exact C_minors hC | exact C_stairs hC | exact (CW_cst hC).2.1 | exact C_mat hC (by omega) | exact ((CW_cst hC).2.2.2.2.2.2 _ (by omega)).1 | assumption) rfl ?_
        refine s_ic_ge (p := 13) m_De_copyStairs rfl rfl (by omega) (by omega) (by omega) (by omega) (fun hbr => False.elim (by omega)) (fun hbr => ?_)
        refine fi_step (pc' := 14) m_De_copyStairs rfl rfl ?_
        refine fi_step (pc' := 16) m_De_copyStairs rfl rfl ?_
        exact ih (i + 1) 0 g w _ (by omega) (by omega) hi (by omega) (by omega) hC (fun i' j' a0 b0 b1 hlt => hg i' j' a0 b0 b1 (by omega))
      · refine fi_step (pc' := 18) m_De_copyStairs rfl rfl ?_
        refine fi_step (pc' := 19) m_De_copyStairs rfl rfl ?_
        refine k_get (p := 22) m_De_copyStairs rfl rfl (by first | exact C_print hC | exact C_minors hC | exact C_stairs hC | exact (CW_cst hC).2.1 | exact C_mat hC (by omega) | exact ((CW_cst hC).2.2.2.2.2.2 _ (by omega)).1 | assumption) rfl ?_
        refine k_get (p := 25) m_De_copyStairs rfl rfl (by first | exact C_print hC | exact C_minors hC | exact C_stairs hC | exact (CW_cst hC).2.1 | exact C_mat hC (by omega) | exact ((CW_cst hC).2.2.2.2.2.2 _ (by omega)).1 | assumption) rfl ?_
        refine s_ic_ge (p := 28) m_De_copyStairs rfl rfl (by omega) (by omega) (by omega) (by omega) (fun hbr => ?_) (fun hbr => False.elim (by omega))
        refine s_iinc (p := 78) m_De_copyStairs rfl rfl rfl ?_
        refine fi_step (pc' := 2) m_De_copyStairs rfl rfl ?_
        refine fi_step (pc' := 3) m_De_copyStairs rfl rfl ?_
        refine fi_step (pc' := 4) m_De_copyStairs rfl rfl ?_
        refine k_get (p := 7) m_De_copyStairs rfl rfl (by first | exact C_print hC | exact C_minors hC | exact C_stairs hC | exact (CW_cst hC).2.1 | exact C_mat hC (by omega) | exact ((CW_cst hC).2.2.2.2.2.2 _ (by omega)).1 | assumption) rfl ?_
        refine k_get (p := 10) m_De_copyStairs rfl rfl (by first | exact C_print hC | exact C_minors hC | exact C_stairs hC | exact (CW_cst hC).2.1 | exact C_mat hC (by omega) | exact ((CW_cst hC).2.2.2.2.2.2 _ (by omega)).1 | assumption) rfl ?_
        refine s_ic_ge (p := 13) m_De_copyStairs rfl rfl (by omega) (by omega) (by omega) (by omega) (fun hbr => ?_) (fun hbr => False.elim (by omega))
        refine fi_step (pc' := 82) m_De_copyStairs rfl rfl ?_
        refine p_retb m_De_copyStairs rfl rfl (by first | exact Or.inl rfl | exact Or.inr rfl | omega) ?_
        exact ⟨g, hC, Or.inl ⟨rfl, fun i' j' a0 a1 b0 b1 => hg i' j' a0 b0 b1 (by omega)⟩⟩
theorem de_copyStairs {R C : Int} {r0 c0 : Nat} {g : Int → Int → Int} (hC : CW w0 w (gvM s 6 R C g) v L Z) (hpm : prm s) (r1 : 1 ≤ R) (r6 : R ≤ 6) (c1 : 1 ≤ C) (c6 : C ≤ 6) (hr0 : r0 + R ≤ 6) (hc0 : c0 + C ≤ 12) (hfr : 3 ≤ fr) (hlo : 100 ≤ lo) :
    fin xs fr lo 75 0 (ax_ent [.ref 0, .int (jI (r0 : Int)), .int (jI (c0 : Int))] 6) [] w (Ret fun u w' => cpO w0 w' s v L Z R C (fun i j => rv s v (r0 + i.toNat) (c0 + j)) u) := by
  have e2 : gvM s 6 R C g 2 ((6 : Nat) : Int) = R := by rw [gvM_2]; exact up1_same _ _ _
  have e3 : gvM s 6 R C g 3 ((6 : Nat) : Int) = C := by rw [gvM_3]; exact up1_same _ _ _
  have h14 : w[14]? = some (2, [.ref 15, .int (jI R), .int (jI C)]) := by
    have := C_mat (m := 6) hC (by decide)
    rw [e2, e3] at this
    exact this
  refine fi_step (pc' := 1) m_De_copyStairs rfl rfl ?_
  refine fi_step (pc' := 2) m_De_copyStairs rfl rfl ?_
  refine fi_step (pc' := 3) m_De_copyStairs rfl rfl ?_
  refine fi_step (pc' := 4) m_De_copyStairs rfl rfl ?_
  refine k_get (p := 7) m_De_copyStairs rfl rfl (by first | exact C_print hC | exact C_minors hC | exact C_stairs hC | exact (CW_cst hC).2.1 | exact C_mat hC (by omega) | exact ((CW_cst hC).2.2.2.2.2.2 _ (by omega)).1 | assumption) rfl ?_
  refine k_get (p := 10) m_De_copyStairs rfl rfl (by first | exact C_print hC | exact C_minors hC | exact C_stairs hC | exact (CW_cst hC).2.1 | exact C_mat hC (by omega) | exact ((CW_cst hC).2.2.2.2.2.2 _ (by omega)).1 | assumption) rfl ?_
  refine s_ic_ge (p := 13) m_De_copyStairs rfl rfl (by omega) (by omega) (by omega) (by omega) (fun hbr => False.elim (by omega)) (fun hbr => ?_)
  refine fi_step (pc' := 14) m_De_copyStairs rfl rfl ?_
  refine fi_step (pc' := 16) m_De_copyStairs rfl rfl ?_
  exact cst_loop hpm r1 r6 c1 c6 hr0 hc0 rfl hfr hlo 100 0 0 g w _ (by omega) (by omega) (by omega) (by omega) (by omega) hC (fun i' j' _ _ _ h => by omega)
theorem de_hermite {to a : Nat} (hC : CW w0 w s v L Z) (hok : okC s v) (ht : to < 6) (ha : a < 6) (hfr : 9 ≤ fr) (hlo : 400 ≤ lo) :
    fin xs fr lo 56 0 (ax_ent [.ref 0, .int (jI (to : Int)), .int (jI (a : Int))] 6) [] w (Ret fun u w' => ∃ (f : Nat) (lead : Int → Int) (X : Nat → Vec), isForm (s 2 a).toNat (s 3 a) (gm (rf s) a) f lead X ∧ madeC w0 s L Z to (s 2 a) (s 3 a) (fun i j => if i < f then X i.toNat j else 0) f u w') := by
  obtain ⟨d1, d2, d3, d4⟩ := rf_dim hok.1 ha
  obtain ⟨R, hR⟩ := Int.eq_ofNat_of_zero_le (show 0 ≤ s 2 a by omega)
  obtain ⟨C, hCc⟩ := Int.eq_ofNat_of_zero_le (show 0 ≤ s 3 a by omega)
  refine fi_step (pc' := 1) m_De_hermite rfl rfl ?_
  refine fi_step (pc' := 2) m_De_hermite rfl rfl ?_
  refine c_2 (p := 5) m_De_hermite rfl inv_v (by decide) m_De_matrix rfl rfl (by omega) (by omega) (Nat.le_of_ble_eq_true rfl) (Nat.le_of_ble_eq_true rfl) (C_rcvD hC _) (de_matrix hC ht) ?_
  refine fi_step (pc' := 6) m_De_hermite rfl rfl ?_
  refine fi_step (pc' := 7) m_De_hermite rfl rfl ?_
  refine fi_step (pc' := 8) m_De_hermite rfl rfl ?_
  refine c_2 (p := 11) m_De_hermite rfl inv_v (by decide) m_De_matrix rfl rfl (by omega) (by omega) (Nat.le_of_ble_eq_true rfl) (Nat.le_of_ble_eq_true rfl) (C_rcvD hC _) (de_matrix hC ha) ?_
  refine fi_step (pc' := 13) m_De_hermite rfl rfl ?_
  show fin xs fr lo 56 13 [some (.ref 0), some (.int (jI (to : Int))), some (.int (jI (a : Int))), some (.ref (2 + 2 * to)), some (.ref (2 + 2 * a)), none] [] w _
  refine fi_step (pc' := 14) m_De_hermite rfl rfl ?_
  refine k_get (p := 17) m_De_hermite rfl rfl (by first | exact C_print hC | exact C_minors hC | exact C_stairs hC | exact (CW_cst hC).2.1 | exact C_mat hC (by omega) | exact ((CW_cst hC).2.2.2.2.2.2 _ (by omega)).1 | assumption) rfl ?_
  refine fi_step (pc' := 19) m_De_hermite rfl rfl ?_
  refine fi_step (pc' := 20) m_De_hermite rfl rfl ?_
  refine g_3 (p := 23) m_De_hermite rfl inv_v (by decide) m_St_climb rfl rfl (by omega) (by omega) (Nat.le_of_ble_eq_true rfl) (Nat.le_of_ble_eq_true rfl) (C_rcvS hC _) (st_climb (tn := 0) (H := R) (F := C) (W := R + C) hC hok ha (Or.inl rfl) (by rw [if_neg (by decide)]; exact hCc) (by rw [if_neg (by decide)]; exact hR) (by omega) (by omega) (by omega)) (fun v w hP => ?_)
  obtain ⟨rfl, s1, v1, hC, hs, hpm, hv, h3, hW, hE⟩ := hP
  obtain ⟨hok1, hrf, hkp⟩ := ok_climb hok hs hpm hv
  have e2 : s1 2 a = R := by rw [hs.1 2 (by decide) (by decide) (by decide)]; exact hR
  have e3 : s1 3 a = C := by rw [hs.1 3 (by decide) (by decide) (by decide)]; exact hCc
  refine fi_step (pc' := 24) m_De_hermite rfl rfl ?_
  refine k_get (p := 27) m_De_hermite rfl rfl (by first | exact C_print hC | exact C_minors hC | exact C_stairs hC | exact (CW_cst hC).2.1 | exact C_mat hC (by omega) | exact ((CW_cst hC).2.2.2.2.2.2 _ (by omega)).1 | assumption) rfl ?_
  refine fi_step (pc' := 29) m_De_hermite rfl rfl ?_
  refine k_get (p := 32) m_De_hermite rfl rfl (by first | exact C_print hC | exact C_minors hC | exact C_stairs hC | exact (CW_cst hC).2.1 | exact C_mat hC (by omega) | exact ((CW_cst hC).2.2.2.2.2.2 _ (by omega)).1 | assumption) rfl ?_
  refine fi_step (pc' := 34) m_De_hermite rfl rfl ?_
  refine k_get (p := 37) m_De_hermite rfl rfl (by first | exact C_print hC | exact C_minors hC | exact C_stairs hC | exact (CW_cst hC).2.1 | exact C_mat hC (by omega) | exact ((CW_cst hC).2.2.2.2.2.2 _ (by omega)).1 | assumption) rfl ?_
  rw [e2, e3]
  refine g_3 (p := 40) m_De_hermite rfl inv_v (by decide) m_Ma_reset rfl rfl (by omega) (by omega) (Nat.le_of_ble_eq_true rfl) (Nat.le_of_ble_eq_true rfl) (C_rcvM (m := 6) hC (by omega) _) (ma_reset6 (R := (R : Int)) (C := (C : Int)) hC (by omega) (by omega)) (fun v w hP => ?_)
  obtain ⟨rfl, hC⟩ := hP
  refine fi_step (pc' := 41) m_De_hermite rfl rfl ?_
  refine fi_step (pc' := 42) m_De_hermite rfl rfl ?_
  refine fi_step (pc' := 43) m_De_hermite rfl rfl ?_
  refine g_3 (p := 46) m_De_hermite rfl inv_v (by decide) m_De_copyStairs rfl rfl (by omega) (by omega) (Nat.le_of_ble_eq_true rfl) (Nat.le_of_ble_eq_true rfl) (C_rcvD hC _) (de_copyStairs (r0 := 0) (c0 := 0) hC hpm (by omega) (by omega) (by omega) (by omega) (by omega) (by omega) (by omega) (by omega)) (fun v w hP => ?_)
  obtain ⟨g, hC, hcase⟩ := hP
  have e5 : gvM s1 6 R C g 5 = s1 5 := gvM_o _ _ _ _ _ (by decide) (by decide) (by decide)
  have e0 : gvM s1 6 R C g 0 = s1 0 := gvM_o _ _ _ _ _ (by decide) (by decide) (by decide)
  have e23 : gvM s1 6 R C g 3 a = C := by rw [gv6_3 ha]; exact e3
  have hfrom : ∃ f, isFrom (s1 5) R C f := from_ex C (fun i k h1 h2 => hE.2.1 i k h1 h2)
  rcases hcase with ⟨rfl, hall⟩ | ⟨rfl, i, j, hi, hj, hno⟩
  · refine s_if_ne (p := 49) m_De_hermite rfl rfl (by omega) (by omega) (fun hbr => ?_) (fun hbr => False.elim (by omega))
    refine fi_step (pc' := 53) m_De_hermite rfl rfl ?_
    refine k_get (p := 56) m_De_hermite rfl rfl (by first | exact C_print hC | exact C_minors hC | exact C_stairs hC | exact (CW_cst hC).2.1 | exact C_mat hC (by omega) | exact ((CW_cst hC).2.2.2.2.2.2 _ (by omega)).1 | assumption) rfl ?_
    refine fi_step (pc' := 58) m_De_hermite rfl rfl ?_
    refine k_get (p := 61) m_De_hermite rfl rfl (by first | exact C_print hC | exact C_minors hC | exact C_stairs hC | exact (CW_cst hC).2.1 | exact C_mat hC (by omega) | exact ((CW_cst hC).2.2.2.2.2.2 _ (by omega)).1 | assumption) rfl ?_
    rw [e23]
    refine g_2 (p := 64) m_De_hermite rfl inv_v (by decide) m_St_leadsBefore rfl rfl (by omega) (by omega) (Nat.le_of_ble_eq_true rfl) (Nat.le_of_ble_eq_true rfl) (C_rcvS hC _) (st_leadsBefore (n := R) (c := (C : Int)) hC (by rw [e0]; exact h3) (by omega) (by omega) (by omega) (fun i hi => by rw [e5]; have := (hE.1 i hi).1; omega) (fun i k h1 h2 => by rw [e5]; exact hE.2.1 i k h1 h2)) (fun v w hP => ?_)
    obtain ⟨rfl, f, rfl, hf⟩ := hP
    rw [e5] at hf
    refine fi_step (pc' := 66) m_De_hermite rfl rfl ?_
    refine fi_step (pc' := 67) m_De_hermite rfl rfl ?_
    refine fi_step (pc' := 68) m_De_hermite rfl rfl ?_
    refine k_get (p := 71) m_De_hermite rfl rfl (by first | exact C_print hC | exact C_minors hC | exact C_stairs hC | exact (CW_cst hC).2.1 | exact C_mat hC (by omega) | exact ((CW_cst hC).2.2.2.2.2.2 _ (by omega)).1 | assumption) rfl ?_
    refine g_2 (p := 74) m_De_hermite rfl inv_v (by decide) m_Ma_become rfl rfl (by omega) (by omega) (Nat.le_of_ble_eq_true rfl) (Nat.le_of_ble_eq_true rfl) (C_rcvM hC (by omega) _) (ma_become6 hC ht (by omega) (by omega)) (fun v w hP => ?_)
    obtain ⟨rfl, hC⟩ := hP
    refine fi_step (pc' := 76) m_De_hermite rfl rfl ?_
    refine p_reti m_De_hermite rfl rfl ?_
    obtain ⟨hF, hT⟩ := front_form ha hR hCc (by omega) (by omega) rfl hE hf
    rw [hR, hCc, Int.toNat_natCast]
    refine ⟨f, s1 5, _, hF, madeC_rf hrf hkp (madeC_ok hok1 (by omega) (by omega) (by omega) (by omega) (by omega) (by omega) (fun i j i0 i1 j0 j1 => ?_) rfl rfl hC)⟩
    have := hall i j i0 i1 j0 j1
    have e : rv s1 v1 (0 + i.toNat) (((0 : Nat) : Int) + j) = (if i < f then tr C (rv s1 v1 i.toNat) j else 0) := by rw [Nat.zero_add, show ((0 : Nat) : Int) + j = j by omega]; exact hT i j i0 i1 j0 j1
    refine ⟨this.1.trans e, ?_⟩
    rw [← e]; exact this.2
  · obtain ⟨f, hf⟩ := hfrom
    refine s_if_ne (p := 49) m_De_hermite rfl rfl (by omega) (by omega) (fun hbr => False.elim (by omega)) (fun hbr => ?_)
    refine s_bipush (p := 51) m_De_hermite rfl rfl rfl ?_
    refine p_reti m_De_hermite rfl rfl ?_
    obtain ⟨hF, hT⟩ := front_form ha hR hCc (by omega) (by omega) rfl hE hf
    rw [hR, hCc, Int.toNat_natCast]
    refine ⟨f, s1 5, _, hF, madeC_rf hrf hkp (madeC_no hok1 rfl rfl hC hi.1 hi.2 hj.1 hj.2 ?_)⟩
    have e : rv s1 v1 (0 + i.toNat) (((0 : Nat) : Int) + j) = (if i < f then tr C (rv s1 v1 i.toNat) j else 0) := by rw [Nat.zero_add, show ((0 : Nat) : Int) + j = j by omega]; exact hT i j hi.1 hi.2 hj.1 hj.2
    rw [← e]; exact hno
theorem de_hermiteT {to a : Int} (hC : CW w0 w s v L Z) (t0 : -2147483648 ≤ to) (t1 : to < 2147483648) (a0 : -2147483648 ≤ a) (a1 : a < 2147483648) (h : ¬ ((0 ≤ to ∧ to < 6) ∧ (0 ≤ a ∧ a < 6))) (hfr : 8 ≤ fr) (hlo : 230 ≤ lo) : fin xs fr lo 56 0 (ax_ent [.ref 0, .int (jI to), .int (jI a)] 6) [] w (Thr 9 w) := by
  refine fi_step (pc' := 1) m_De_hermite rfl rfl ?_
  refine fi_step (pc' := 2) m_De_hermite rfl rfl ?_
  by_cases h1 : 0 ≤ to ∧ to < 6
  · obtain ⟨to, rfl⟩ := Int.eq_ofNat_of_zero_le h1.1
    refine c_2 (p := 5) m_De_hermite rfl inv_v (by decide) m_De_matrix rfl rfl (by omega) (by omega) (Nat.le_of_ble_eq_true rfl) (Nat.le_of_ble_eq_true rfl) (C_rcvD hC _) (de_matrix hC (show to < 6 by omega)) ?_
    refine fi_step (pc' := 6) m_De_hermite rfl rfl ?_
    refine fi_step (pc' := 7) m_De_hermite rfl rfl ?_
    refine fi_step (pc' := 8) m_De_hermite rfl rfl ?_
    exact t_2 m_De_hermite rfl inv_v (by decide) m_De_matrix rfl (by omega) (by omega) (Nat.le_of_ble_eq_true rfl) (Nat.le_of_ble_eq_true rfl) (C_rcvD hC _) (de_matrixT a0 a1 (by omega) (by omega) (by omega)) rfl
  · exact t_2 m_De_hermite rfl inv_v (by decide) m_De_matrix rfl (by omega) (by omega) (Nat.le_of_ble_eq_true rfl) (Nat.le_of_ble_eq_true rfl) (C_rcvD hC _) (de_matrixT t0 t1 h1 (by omega) (by omega)) rfl
theorem de_kernel {to a : Nat} (hC : CW w0 w s v L Z) (hok : okC s v) (ht : to < 6) (ha : a < 6) (hfr : 9 ≤ fr) (hlo : 400 ≤ lo) :
    fin xs fr lo 79 0 (ax_ent [.ref 0, .int (jI (to : Int)), .int (jI (a : Int))] 7) [] w (Ret fun u w' => ∃ (f n : Nat) (lead : Int → Int) (X : Nat → Vec), isForm (s 3 a).toNat (s 2 a + s 3 a) (gB (rf s) a) f lead X ∧ isFrom lead f (s 2 a) n ∧ ((n = f ∧ sameC w0 s v L Z 0 u w') ∨ (n < f ∧ madeC w0 s L Z to (f - n : Nat) (s 3 a) (fun i j => X (n + i.toNat) (s 2 a + j)) (f - n : Nat) u w'))) := by
  obtain ⟨d1, d2, d3, d4⟩ := rf_dim hok.1 ha
  obtain ⟨R, hR⟩ := Int.eq_ofNat_of_zero_le (show 0 ≤ s 2 a by omega)
  obtain ⟨C, hCc⟩ := Int.eq_ofNat_of_zero_le (show 0 ≤ s 3 a by omega)
  refine fi_step (pc' := 1) m_De_kernel rfl rfl ?_
  refine fi_step (pc' := 2) m_De_kernel rfl rfl ?_
  refine c_2 (p := 5) m_De_kernel rfl inv_v (by decide) m_De_matrix rfl rfl (by omega) (by omega) (Nat.le_of_ble_eq_true rfl) (Nat.le_of_ble_eq_true rfl) (C_rcvD hC _) (de_matrix hC ht) ?_
  refine fi_step (pc' := 6) m_De_kernel rfl rfl ?_
  refine fi_step (pc' := 7) m_De_kernel rfl rfl ?_
  refine fi_step (pc' := 8) m_De_kernel rfl rfl ?_
  refine c_2 (p := 11) m_De_kernel rfl inv_v (by decide) m_De_matrix rfl rfl (by omega) (by omega) (Nat.le_of_ble_eq_true rfl) (Nat.le_of_ble_eq_true rfl) (C_rcvD hC _) (de_matrix hC ha) ?_
  refine fi_step (pc' := 13) m_De_kernel rfl rfl ?_
  show fin xs fr lo 79 13 [some (.ref 0), some (.int (jI (to : Int))), some (.int (jI (a : Int))), some (.ref (2 + 2 * to)), some (.ref (2 + 2 * a)), none, none] [] w _
  refine fi_step (pc' := 14) m_De_kernel rfl rfl ?_
  refine k_get (p := 17) m_De_kernel rfl rfl (by first | exact C_print hC | exact C_minors hC | exact C_stairs hC | exact (CW_cst hC).2.1 | exact C_mat hC (by omega) | exact ((CW_cst hC).2.2.2.2.2.2 _ (by omega)).1 | assumption) rfl ?_
  refine fi_step (pc' := 19) m_De_kernel rfl rfl ?_
  refine fi_step (pc' := 20) m_De_kernel rfl rfl ?_
  refine g_3 (p := 23) m_De_kernel rfl inv_v (by decide) m_St_climb rfl rfl (by omega) (by omega) (Nat.le_of_ble_eq_true rfl) (Nat.le_of_ble_eq_true rfl) (C_rcvS hC _) (st_climb (tn := 1) (H := C) (F := R) (W := R + C) hC hok ha (Or.inr rfl) (by rw [if_pos rfl]; exact hR) (by rw [if_pos rfl]; exact hCc) (by omega) (by omega) (by omega)) (fun v w hP => ?_)
  obtain ⟨rfl, s1, v1, hC, hs, hpm, hv, h3, hW, hE⟩ := hP
  obtain ⟨hok1, hrf, hkp⟩ := ok_climb hok hs hpm hv
  have e2 : s1 2 a = R := by rw [hs.1 2 (by decide) (by decide) (by decide)]; exact hR
  have e3 : s1 3 a = C := by rw [hs.1 3 (by decide) (by decide) (by decide)]; exact hCc
  have hF := back_form ha hR hCc (by omega) (by omega) rfl hE
  refine fi_step (pc' := 24) m_De_kernel rfl rfl ?_
  refine k_get (p := 27) m_De_kernel rfl rfl (by first | exact C_print hC | exact C_minors hC | exact C_stairs hC | exact (CW_cst hC).2.1 | exact C_mat hC (by omega) | exact ((CW_cst hC).2.2.2.2.2.2 _ (by omega)).1 | assumption) rfl ?_
  refine fi_step (pc' := 29) m_De_kernel rfl rfl ?_
  refine k_get (p := 32) m_De_kernel rfl rfl (by first | exact C_print hC | exact C_minors hC | exact C_stairs hC | exact (CW_cst hC).2.1 | exact C_mat hC (by omega) | exact ((CW_cst hC).2.2.2.2.2.2 _ (by omega)).1 | assumption) rfl ?_
  rw [e2]
  refine g_2 (p := 35) m_De_kernel rfl inv_v (by decide) m_St_leadsBefore rfl rfl (by omega) (by omega) (Nat.le_of_ble_eq_true rfl) (Nat.le_of_ble_eq_true rfl) (C_rcvS hC _) (st_leadsBefore (n := C) (c := (R : Int)) hC h3 (by omega) (by omega) (by omega) (fun i hi => by have := (hE.1 i hi).1; omega) (fun i k h1 h2 => hE.2.1 i k h1 h2)) (fun v w hP => ?_)
  obtain ⟨rfl, n, rfl, hn⟩ := hP
  have hnC := hn.1
  rw [hR, hCc, Int.toNat_natCast, show (R : Int) + (C : Int) = ((R + C : Nat) : Int) by omega]
  by_cases hz : n = C
  · refine fi_step (pc' := 37) m_De_kernel rfl rfl ?_
    refine fi_step (pc' := 39) m_De_kernel rfl rfl ?_
    refine k_get (p := 42) m_De_kernel rfl rfl (by first | exact C_print hC | exact C_minors hC | exact C_stairs hC | exact (CW_cst hC).2.1 | exact C_mat hC (by omega) | exact ((CW_cst hC).2.2.2.2.2.2 _ (by omega)).1 | assumption) rfl ?_
    refine fi_step (pc' := 44) m_De_kernel rfl rfl ?_
    refine s_isub (p := 45) m_De_kernel rfl rfl ?_
    refine fi_step (pc' := 47) m_De_kernel rfl rfl ?_
    rw [e3]
    refine fi_step (pc' := 49) m_De_kernel rfl rfl ?_
    refine fi_step (pc' := 50) m_De_kernel rfl rfl ?_
    refine s_ic_ge (p := 53) m_De_kernel rfl rfl (by omega) (by omega) (by omega) (by omega) (fun hbr => False.elim (by omega)) (fun hbr => ?_)
    refine fi_step (pc' := 54) m_De_kernel rfl rfl ?_
    refine p_reti m_De_kernel rfl rfl ?_
    exact ⟨C, n, s1 5, _, hF, hn, Or.inl ⟨hz, s1, v1, hC, hok1, hkp, hrf, rfl⟩⟩
  · refine fi_step (pc' := 37) m_De_kernel rfl rfl ?_
    refine fi_step (pc' := 39) m_De_kernel rfl rfl ?_
    refine k_get (p := 42) m_De_kernel rfl rfl (by first | exact C_print hC | exact C_minors hC | exact C_stairs hC | exact (CW_cst hC).2.1 | exact C_mat hC (by omega) | exact ((CW_cst hC).2.2.2.2.2.2 _ (by omega)).1 | assumption) rfl ?_
    refine fi_step (pc' := 44) m_De_kernel rfl rfl ?_
    refine s_isub (p := 45) m_De_kernel rfl rfl ?_
    refine fi_step (pc' := 47) m_De_kernel rfl rfl ?_
    rw [e3, show (C : Int) - (n : Int) = ((C - n : Nat) : Int) by omega]
    show fin xs fr lo 79 47 [some (.ref 0), some (.int (jI (to : Int))), some (.int (jI (a : Int))), some (.ref (2 + 2 * to)), some (.ref (2 + 2 * a)), some (.int (jI (n : Int))), some (.int (jI ((C - n : Nat) : Int)))] [] w _
    obtain ⟨N, hN⟩ : ∃ N : Nat, N = C - n := ⟨_, rfl⟩
    rw [← hN]
    refine fi_step (pc' := 49) m_De_kernel rfl rfl ?_
    refine fi_step (pc' := 50) m_De_kernel rfl rfl ?_
    refine s_ic_ge (p := 53) m_De_kernel rfl rfl (by omega) (by omega) (by omega) (by omega) (fun hbr => ?_) (fun hbr => False.elim (by omega))
    refine fi_step (pc' := 56) m_De_kernel rfl rfl ?_
    refine k_get (p := 59) m_De_kernel rfl rfl (by first | exact C_print hC | exact C_minors hC | exact C_stairs hC | exact (CW_cst hC).2.1 | exact C_mat hC (by omega) | exact ((CW_cst hC).2.2.2.2.2.2 _ (by omega)).1 | assumption) rfl ?_
    refine fi_step (pc' := 61) m_De_kernel rfl rfl ?_
    refine fi_step (pc' := 63) m_De_kernel rfl rfl ?_
    refine k_get (p := 66) m_De_kernel rfl rfl (by first | exact C_print hC | exact C_minors hC | exact C_stairs hC | exact (CW_cst hC).2.1 | exact C_mat hC (by omega) | exact ((CW_cst hC).2.2.2.2.2.2 _ (by omega)).1 | assumption) rfl ?_
    rw [e3]
    refine g_3 (p := 69) m_De_kernel rfl inv_v (by decide) m_Ma_reset rfl rfl (by omega) (by omega) (Nat.le_of_ble_eq_true rfl) (Nat.le_of_ble_eq_true rfl) (C_rcvM (m := 6) hC (by omega) _) (ma_reset6 (R := (N : Int)) (C := (C : Int)) hC (by omega) (by omega)) (fun v w hP => ?_)
    obtain ⟨rfl, hC⟩ := hP
    have e22 : gvM s1 6 N C (fun _ _ => 0) 2 a = R := by rw [gv6_2 ha]; exact e2
    refine fi_step (pc' := 70) m_De_kernel rfl rfl ?_
    refine fi_step (pc' := 72) m_De_kernel rfl rfl ?_
    refine fi_step (pc' := 74) m_De_kernel rfl rfl ?_
    refine k_get (p := 77) m_De_kernel rfl rfl (by first | exact C_print hC | exact C_minors hC | exact C_stairs hC | exact (CW_cst hC).2.1 | exact C_mat hC (by omega) | exact ((CW_cst hC).2.2.2.2.2.2 _ (by omega)).1 | assumption) rfl ?_
    rw [e22]
    refine g_3 (p := 80) m_De_kernel rfl inv_v (by decide) m_De_copyStairs rfl rfl (by omega) (by omega) (Nat.le_of_ble_eq_true rfl) (Nat.le_of_ble_eq_true rfl) (C_rcvD hC _) (de_copyStairs (r0 := n) (c0 := R) hC hpm (by omega) (by omega) (by omega) (by omega) (by omega) (by omega) (by omega) (by omega)) (fun v w hP => ?_)
    obtain ⟨g, hC, hcase⟩ := hP
    rcases hcase with ⟨rfl, hall⟩ | ⟨rfl, i, j, hi, hj, hno⟩
    · refine s_if_ne (p := 83) m_De_kernel rfl rfl (by omega) (by omega) (fun hbr => ?_) (fun hbr => False.elim (by omega))
      refine fi_step (pc' := 87) m_De_kernel rfl rfl ?_
      refine fi_step (pc' := 88) m_De_kernel rfl rfl ?_
      refine k_get (p := 91) m_De_kernel rfl rfl (by first | exact C_print hC | exact C_minors hC | exact C_stairs hC | exact (CW_cst hC).2.1 | exact C_mat hC (by omega) | exact ((CW_cst hC).2.2.2.2.2.2 _ (by omega)).1 | assumption) rfl ?_
      refine g_2 (p := 94) m_De_kernel rfl inv_v (by decide) m_Ma_become rfl rfl (by omega) (by omega) (Nat.le_of_ble_eq_true rfl) (Nat.le_of_ble_eq_true rfl) (C_rcvM hC (by omega) _) (ma_become6 hC ht (by omega) (by omega)) (fun v w hP => ?_)
      obtain ⟨rfl, hC⟩ := hP
      refine fi_step (pc' := 96) m_De_kernel rfl rfl ?_
      refine p_reti m_De_kernel rfl rfl ?_
      exact ⟨C, n, s1 5, _, hF, hn, Or.inr ⟨by omega, by rw [← hN]; exact madeC_rf hrf hkp (madeC_ok hok1 (by omega) (by omega) (by omega) (by omega) (by omega) (by omega) hall rfl rfl hC)⟩⟩
    · refine s_if_ne (p := 83) m_De_kernel rfl rfl (by omega) (by omega) (fun hbr => False.elim (by omega)) (fun hbr => ?_)
      refine s_bipush (p := 85) m_De_kernel rfl rfl rfl ?_
      refine p_reti m_De_kernel rfl rfl ?_
      exact ⟨C, n, s1 5, _, hF, hn, Or.inr ⟨by omega, by rw [← hN]; exact madeC_rf hrf hkp (madeC_no hok1 rfl rfl hC hi.1 hi.2 hj.1 hj.2 hno)⟩⟩
theorem de_kernelT {to a : Int} (hC : CW w0 w s v L Z) (t0 : -2147483648 ≤ to) (t1 : to < 2147483648) (a0 : -2147483648 ≤ a) (a1 : a < 2147483648) (h : ¬ ((0 ≤ to ∧ to < 6) ∧ (0 ≤ a ∧ a < 6))) (hfr : 8 ≤ fr) (hlo : 230 ≤ lo) : fin xs fr lo 79 0 (ax_ent [.ref 0, .int (jI to), .int (jI a)] 7) [] w (Thr 9 w) := by
  refine fi_step (pc' := 1) m_De_kernel rfl rfl ?_
  refine fi_step (pc' := 2) m_De_kernel rfl rfl ?_
  by_cases h1 : 0 ≤ to ∧ to < 6
  · obtain ⟨to, rfl⟩ := Int.eq_ofNat_of_zero_le h1.1
    refine c_2 (p := 5) m_De_kernel rfl inv_v (by decide) m_De_matrix rfl rfl (by omega) (by omega) (Nat.le_of_ble_eq_true rfl) (Nat.le_of_ble_eq_true rfl) (C_rcvD hC _) (de_matrix hC (show to < 6 by omega)) ?_
    refine fi_step (pc' := 6) m_De_kernel rfl rfl ?_
    refine fi_step (pc' := 7) m_De_kernel rfl rfl ?_
    refine fi_step (pc' := 8) m_De_kernel rfl rfl ?_
    exact t_2 m_De_kernel rfl inv_v (by decide) m_De_matrix rfl (by omega) (by omega) (Nat.le_of_ble_eq_true rfl) (Nat.le_of_ble_eq_true rfl) (C_rcvD hC _) (de_matrixT a0 a1 (by omega) (by omega) (by omega)) rfl
  · exact t_2 m_De_kernel rfl inv_v (by decide) m_De_matrix rfl (by omega) (by omega) (Nat.le_of_ble_eq_true rfl) (Nat.le_of_ble_eq_true rfl) (C_rcvD hC _) (de_matrixT t0 t1 h1 (by omega) (by omega)) rfl
end HERM
