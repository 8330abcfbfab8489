/-! THE LAW: its other cases -/
theorem CB_keep {w0 w w1 : ax_W} {s s' sr : mo_S} {v v' : Nat → Int} {L Z : Nat} {o : Int64} (hC : CW w0 w s v L Z) (hR : RW w w sr) (hout : w[437]? = some (21, [.long o])) (h1 : CW w0 w1 s' v' L Z) : RW w1 w1 sr ∧ w1[437]? = some (21, [.long o]) := by
  have cells : ∀ j, 425 ≤ j → j < 438 → w1[j]? = w[j]? := fun j a b => (CW_out h1 a b).trans (CW_out hC a b).symm
  exact ⟨RW_same hR (fun j j1 j2 => cells j j1 (by omega)), (cells 437 (by omega) (by omega)).trans hout⟩
theorem okC_gv {s : mo_S} {v : Nat → Int} {m R C : Int} {g : Int → Int → Int} (hok : okC s v) (m0 : 0 ≤ m) (m1 : m < 6) (hf : fits R C g) (r0 : 1 ≤ R) (r1 : R ≤ 6) (c0 : 1 ≤ C) (c1 : C ≤ 6) : okC (gvM s m R C g) v ∧ absC (gvM s m R C g) = gvA (absC s) m R C g := by
  obtain ⟨a, b, c, d, e, p0, p1⟩ := hok
  have hg := rf_given (s := s) (R := R) (C := C) (g := g) m0 m1
  have e0 : gvM s m R C g 0 = s 0 := gvM_o _ _ _ _ _ (by decide) (by decide) (by decide)
  have e4 : gvM s m R C g 4 = s 4 := gvM_o _ _ _ _ _ (by decide) (by decide) (by decide)
  have e6 : gvM s m R C g 6 = s 6 := gvM_o _ _ _ _ _ (by decide) (by decide) (by decide)
  refine ⟨⟨given_MI a hg hf r0 r1 c0 c1, b, c, by rw [e6]; exact d, by rw [e6]; exact e, by rw [e0]; exact p0, by rw [e0]; exact p1⟩, ?_⟩
  unfold absC gvA
  rw [hg.1, hg.2.1, hg.2.2, e0, e4]
theorem newN_zero (f : Int → Int) (m R C : Int) : newN f m R C (fun _ _ => 0) = newN f m 0 0 (fun _ _ => 0) := by
  funext x
  unfold newN
  split
  · split <;> split <;> rfl
  · rfl
/-- one number is written -/
def ptA (α : AB) (x y : Int) : AB := (up1 α.1 x y, α.2.1, α.2.2.1, α.2.2.2)
theorem okC_pt {s : mo_S} {v : Nat → Int} {x y : Int} (hok : okC s v) (x0 : 0 ≤ x) (x1 : x < 216) (y0 : -1000000000000000000 < y) (y1 : y < 1000000000000000000) : okC (up s 1 x y) v ∧ absC (up s 1 x y) = ptA (absC s) x y := by
  obtain ⟨a, b, c, d, e, p0, p1⟩ := hok
  have e0 : up s 1 x y 0 = s 0 := up_ne _ (by decide) _ _
  have e4 : up s 1 x y 4 = s 4 := up_ne _ (by decide) _ _
  have e6 : up s 1 x y 6 = s 6 := up_ne _ (by decide) _ _
  have r4 : rf (up s 1 x y) 4 = up1 (rf s 4) x y := by
    funext z
    show (if 0 ≤ z ∧ z < 216 then up s 1 x y 1 z else 0) = up1 (rf s 4) x y z
    rw [up_same]
    by_cases e : z = x
    · subst e; rw [if_pos ⟨x0, x1⟩, up1_same, up1_same]
    · rw [up1_ne _ e, up1_ne _ e]; rfl
  have r5 : rf (up s 1 x y) 5 = rf s 5 := by rw [rf_5e, rf_5e, up_ne _ (by decide)]
  have r6 : rf (up s 1 x y) 6 = rf s 6 := by rw [rf_6e, rf_6e, up_ne _ (by decide)]
  refine ⟨⟨⟨by rw [r5]; exact a.1, by rw [r6]; exact a.2.1, fun z z0 z1 => ?_⟩, b, c, by rw [e6]; exact d, by rw [e6]; exact e, by rw [e0]; exact p0, by rw [e0]; exact p1⟩, ?_⟩
  · rw [r4]
    by_cases e : z = x
    · subst e; rw [up1_same]; exact ⟨y0, y1⟩
    · rw [up1_ne _ e]; exact a.2.2 z z0 z1
  · unfold absC ptA
    rw [r4, r5, r6, e0, e4]
section LAW2
variable {xs : List Int32} {fr lo L Z i : Nat} {w : ax_W} {Q : Outcome → ax_W → Prop} {y5 y6 y7 : Option Value}
theorem sR_make {s : mo_S} {r : Int → Int} {m rr c : Int} (hw : RW w w s) (hB : Bg s r) (h5 : 0 ≤ s 0 5) (m0 : -2147483648 ≤ m) (m1 : m < 2147483648) (r0 : -2147483648 ≤ rr) (r1 : rr < 2147483648) (c0 : -2147483648 ≤ c) (c1 : c < 2147483648) (hfr : 10 ≤ fr) (hlo : 320 ≤ lo) :
    fin xs fr lo 119 0 (ax_ent [.ref 425, .int (jI m), .int (jI rr), .int (jI c)] 4) [] w (Ret fun u w' => u = none ∧ (¬ (0 ≤ m ∧ m < 6) → RX w 1 (absR s) w') ∧ ((0 ≤ m ∧ m < 6) → ¬ ((1 ≤ rr ∧ rr ≤ 6) ∧ 1 ≤ c ∧ c ≤ 6) → RX w 2 (absR s) w') ∧ ((0 ≤ m ∧ m < 6) → ((1 ≤ rr ∧ rr ≤ 6) ∧ 1 ≤ c ∧ c ≤ 6) → RX w 0 (gvA (absR s) m rr c (fun _ _ => 0)) w')) := by
  refine fi_mono (c_make (by omega) (by omega) hw m0 m1 r0 r1 c0 c1) (fun o w' ⟨u, e, hu, s', h1, h2, h3, h4⟩ => ⟨u, e, hu, ?_⟩)
  have e1 := h2 1 (by decide) (by decide) (by decide) (by decide)
  have e2 := h2 2 (by decide) (by decide) (by decide) (by decide)
  have e3 := h2 3 (by decide) (by decide) (by decide) (by decide)
  have e10 := h2 10 (by decide) (by decide) (by decide) (by decide)
  have e5 := h3 5 (by decide)
  have hB' := Bg_congr hB e1 e2 e3
  refine ⟨fun n1 => ?_, fun n1 n2 => ?_, fun n1 n2 => ?_⟩
  · rw [if_pos n1] at h4
    refine ⟨s', r, h1, hB', h4.1, ?_, by rw [e5]; exact h5⟩
    unfold absR; rw [h4.2.1, h4.2.2.1, h4.2.2.2, e10, e5]
  · rw [if_neg (fun q => q n1), if_pos (by omega)] at h4
    refine ⟨s', r, h1, hB', h4.1, ?_, by rw [e5]; exact h5⟩
    unfold absR; rw [h4.2.1, h4.2.2.1, h4.2.2.2, e10, e5]
  · rw [if_neg (fun q => q n1), if_neg (by omega)] at h4
    refine ⟨s', r, h1, hB', h4.1, ?_, by rw [e5]; exact h5⟩
    unfold absR gvA; rw [h4.2.1, h4.2.2.1, h4.2.2.2, e10, e5, newN_zero _ m rr c]
set_option maxRecDepth 20000 in
theorem lw_make (hLK : LK w L Z) (hi : (i : Int) + 6 ≤ xs.length) (hx : xs.length ≤ 3072) (hfr : 12 ≤ fr) (hlo : 502 ≤ lo) (K : ∀ w y5 y6 y7, LK w (L + 1) (Z + 198) → fin xs fr lo 185 1412 [some (.retAddr 0), some (.ref 0), some (.ref 425), some (.ref 437), some (.int (jI (i : Int))), y5, y6, y7] [] w Q) : fin xs fr lo 185 132 [some (.retAddr 0), some (.ref 0), some (.ref 425), some (.ref 437), some (.int (jI (i : Int))), y5, y6, y7] [] w Q := by
  obtain ⟨w0, s, v, sr, r, o, hC, hok, hR, hout, hB, h5, hab⟩ := hLK
  obtain ⟨p1, ep1⟩ : ∃ q, q = sc xs ((i : Int) + 1) := ⟨_, rfl⟩
  have bp1 := sc_b xs ((i : Int) + 1)
  rw [← ep1] at bp1
  obtain ⟨p2, ep2⟩ : ∃ q, q = sc xs ((i : Int) + 2) := ⟨_, rfl⟩
  have bp2 := sc_b xs ((i : Int) + 2)
  rw [← ep2] at bp2
  obtain ⟨p3, ep3⟩ : ∃ q, q = sc xs ((i : Int) + 3) := ⟨_, rfl⟩
  have bp3 := sc_b xs ((i : Int) + 3)
  rw [← ep3] at bp3
  refine fi_step (pc' := 133) m_La_law rfl rfl ?_
  refine fi_step (pc' := 134) m_La_law rfl rfl ?_
  refine fi_step (pc' := 136) m_La_law rfl rfl ?_
  refine fi_step (pc' := 137) m_La_law rfl rfl ?_
  refine s_iadd (p := 138) m_La_law rfl rfl ?_
  refine l_ld (p := 139) m_La_law rfl rfl (by omega) (by omega) (by omega) ?_
  refine fi_step (pc' := 140) m_La_law rfl rfl ?_
  refine fi_step (pc' := 142) m_La_law rfl rfl ?_
  refine fi_step (pc' := 143) m_La_law rfl rfl ?_
  refine s_iadd (p := 144) m_La_law rfl rfl ?_
  refine l_ld (p := 145) m_La_law rfl rfl (by omega) (by omega) (by omega) ?_
  refine fi_step (pc' := 146) m_La_law rfl rfl ?_
  refine fi_step (pc' := 148) m_La_law rfl rfl ?_
  refine fi_step (pc' := 149) m_La_law rfl rfl ?_
  refine s_iadd (p := 150) m_La_law rfl rfl ?_
  refine l_ld (p := 151) m_La_law rfl rfl (by omega) (by omega) (by omega) ?_
  rw [← ep1, ← ep2, ← ep3]
  have rest : ∀ (w1 : ax_W) (s1 : mo_S) (v1 : Nat → Int) (w0 : ax_W) (k : Int), CW w0 w1 s1 v1 (L + 1) (Z + 198) → okC s1 v1 → RW w1 w1 sr → w1[437]? = some (21, [.long o]) → (k = 0 ∨ k = 1 ∨ k = 2) → (∀ w2, ((¬ (0 ≤ p1 ∧ p1 < 6) → RX w1 1 (absR sr) w2) ∧ ((0 ≤ p1 ∧ p1 < 6) → ¬ ((1 ≤ p2 ∧ p2 ≤ 6) ∧ 1 ≤ p3 ∧ p3 ≤ 6) → RX w1 2 (absR sr) w2) ∧ ((0 ≤ p1 ∧ p1 < 6) → ((1 ≤ p2 ∧ p2 ≤ 6) ∧ 1 ≤ p3 ∧ p3 ≤ 6) → RX w1 0 (gvA (absR sr) p1 p2 p3 (fun _ _ => 0)) w2)) → RX w1 k (absC s1) w2) →
      fin xs fr lo 185 154 [some (.retAddr 0), some (.ref 0), some (.ref 425), some (.ref 437), some (.int (jI (i : Int))), y5, y6, y7] [.int (jI k)] w1 Q := by
    intro w1 s1 v1 w0 k hC' hok' hR' hout' hk hX
    refine fi_step (pc' := 156) m_La_law rfl rfl ?_
    refine fi_step (pc' := 157) m_La_law rfl rfl ?_
    refine fi_step (pc' := 158) m_La_law rfl rfl ?_
    refine fi_step (pc' := 160) m_La_law rfl rfl ?_
    refine fi_step (pc' := 161) m_La_law rfl rfl ?_
    refine s_iadd (p := 162) m_La_law rfl rfl ?_
    refine l_ld (p := 163) m_La_law rfl rfl (by omega) (by omega) (by omega) ?_
    refine fi_step (pc' := 164) m_La_law rfl rfl ?_
    refine fi_step (pc' := 166) m_La_law rfl rfl ?_
    refine fi_step (pc' := 167) m_La_law rfl rfl ?_
    refine s_iadd (p := 168) m_La_law rfl rfl ?_
    refine l_ld (p := 169) m_La_law rfl rfl (by omega) (by omega) (by omega) ?_
    refine fi_step (pc' := 170) m_La_law rfl rfl ?_
    refine fi_step (pc' := 172) m_La_law rfl rfl ?_
    refine fi_step (pc' := 173) m_La_law rfl rfl ?_
    refine s_iadd (p := 174) m_La_law rfl rfl ?_
    refine l_ld (p := 175) m_La_law rfl rfl (by omega) (by omega) (by omega) ?_
    rw [← ep1, ← ep2, ← ep3]
    refine g_4 (p := 178) m_La_law rfl inv_v (by decide) m_Mo_make rfl rfl (by omega) (by omega) (Nat.le_of_ble_eq_true rfl) (Nat.le_of_ble_eq_true rfl) (RW_rcv hR' _) (sR_make hR' hB h5 bp1.1 bp1.2 bp2.1 bp2.2 bp3.1 bp3.2 (by omega) (by omega)) (fun v w hP => ?_)
    obtain ⟨rfl, hq⟩ := hP
    obtain ⟨hL2, hout2, sr2, hR2, ht2⟩ := LK_ref hC' hok' hR' hout' (hX w hq) rfl
    refine fi_step (pc' := 179) m_La_law rfl rfl ?_
    refine c_1 (p := 182) m_La_law rfl inv_v (by decide) m_Mo_thrown rfl rfl (by omega) (by omega) (Nat.le_of_ble_eq_true rfl) (Nat.le_of_ble_eq_true rfl) (RW_rcv hR2 _) (c_thrown hR2) ?_
    rw [ht2]
    refine fi_step (pc' := 184) m_La_law rfl rfl ?_
    refine s_ic_eq (p := 187) m_La_law rfl rfl (by omega) (by omega) (by omega) (by omega) (fun hbr => ?_) (fun hbr => False.elim (by omega))
    refine fi_step (pc' := 1412) m_La_law rfl rfl ?_
    exact K _ _ _ _ hL2
  by_cases hm : 0 ≤ p1 ∧ p1 < 6
  · by_cases hr : (1 ≤ p2 ∧ p2 ≤ 6) ∧ 1 ≤ p3 ∧ p3 ≤ 6
    · obtain ⟨m, rfl⟩ := Int.eq_ofNat_of_zero_le hm.1
      refine g_4 (p := 154) m_La_law rfl inv_s (by decide) m_La_make rfl rfl (by omega) (by omega) (Nat.le_of_ble_eq_true rfl) (Nat.le_of_ble_eq_true rfl) rfl (la_make (P := fun w' => CW w0 w' (gvM s m p2 p3 (fun _ _ => 0)) v L Z) hC (by omega) (by omega) (de_make hC (show m < 6 by omega) hr (by omega) (by omega))) (fun v w hP => ?_)
      obtain ⟨rfl, hC1⟩ := hP
      obtain ⟨hok1, hab1⟩ := okC_gv (g := fun _ _ => 0) hok hm.1 hm.2 (fun _ _ _ _ _ _ => by show (0 : Int).natAbs < 1000000000000000000; decide) hr.1.1 hr.1.2 hr.2.1 hr.2.2
      obtain ⟨hR1, hout1⟩ := CB_keep hC hR hout hC1
      refine rest w _ v w0 0 (CW_more hC1 (by omega) (by omega)) hok1 hR1 hout1 (by omega) (fun w2 hq => ?_)
      rw [hab1, hab]
      exact hq.2.2 hm hr
    · obtain ⟨m, rfl⟩ := Int.eq_ofNat_of_zero_le hm.1
      refine g_4 (p := 154) m_La_law rfl inv_s (by decide) m_La_make rfl rfl (by omega) (by omega) (Nat.le_of_ble_eq_true rfl) (Nat.le_of_ble_eq_true rfl) rfl (la_makeT10 hC (by omega) (by omega) (de_makeT10 hC (show m < 6 by omega) bp2.1 bp2.2 bp3.1 bp3.2 hr (by omega) (by omega))) (fun v w hP => ?_)
      obtain ⟨rfl, rfl⟩ := hP
      obtain ⟨hC1, hR1, hout1⟩ := Thr_next hC hR hout (Or.inr rfl)
      refine rest _ _ v w0 2 hC1 hok hR1 hout1 (by omega) (fun w2 hq => ?_)
      rw [hab]
      exact hq.2.1 hm hr
  · refine g_4 (p := 154) m_La_law rfl inv_s (by decide) m_La_make rfl rfl (by omega) (by omega) (Nat.le_of_ble_eq_true rfl) (Nat.le_of_ble_eq_true rfl) rfl (la_makeT9 hC (by omega) (by omega) (de_makeT9 hC bp1.1 bp1.2 hm (by omega) (by omega))) (fun v w hP => ?_)
    obtain ⟨rfl, rfl⟩ := hP
    obtain ⟨hC1, hR1, hout1⟩ := Thr_next hC hR hout (Or.inl rfl)
    refine rest _ _ v w0 1 hC1 hok hR1 hout1 (by omega) (fun w2 hq => ?_)
    rw [hab]
    exact hq.1 hm
theorem sR_put {s : mo_S} {r : Int → Int} {m a c y : Int} (hw : RW w w s) (hM : MI s) (hB : Bg s r) (h5 : 0 ≤ s 0 5) (m0 : -2147483648 ≤ m) (m1 : m < 2147483648) (a0 : -2147483648 ≤ a) (a1 : a < 2147483648) (c0 : -2147483648 ≤ c) (c1 : c < 2147483648) (y0 : -9223372036854775808 ≤ y) (y1 : y < 9223372036854775808) (hfr : 10 ≤ fr) (hlo : 320 ≤ lo) :
    fin xs fr lo 122 0 (ax_ent [.ref 425, .int (jI m), .int (jI a), .int (jI c), .long (jL y)] 6) [] w (Ret fun u w' => u = none ∧ (¬ ((0 ≤ m ∧ m < 6) ∧ (0 ≤ a ∧ a < s 5 m) ∧ 0 ≤ c ∧ c < s 6 m) → RX w 1 (absR s) w') ∧ (((0 ≤ m ∧ m < 6) ∧ (0 ≤ a ∧ a < s 5 m) ∧ 0 ≤ c ∧ c < s 6 m) → ¬ (-1000000000000000000 < y ∧ y < 1000000000000000000) → RX w 2 (absR s) w') ∧ (((0 ≤ m ∧ m < 6) ∧ (0 ≤ a ∧ a < s 5 m) ∧ 0 ≤ c ∧ c < s 6 m) → (-1000000000000000000 < y ∧ y < 1000000000000000000) → RX w 0 (ptA (absR s) (36 * m + 6 * a + c) y) w')) := by
  refine fi_mono (c_put (by omega) (by omega) hw hM m0 m1 a0 a1 c0 c1 y0 y1) (fun o w' ⟨u, e, hu, s', h1, h2, h3, h4⟩ => ⟨u, e, hu, ?_⟩)
  have e1 := h2 1 (by decide) (by decide)
  have e2 := h2 2 (by decide) (by decide)
  have e3 := h2 3 (by decide) (by decide)
  have f5 := h2 5 (by decide) (by decide)
  have f6 := h2 6 (by decide) (by decide)
  have e10 := h2 10 (by decide) (by decide)
  have e5 := h3 5 (by decide)
  have hB' := Bg_congr hB e1 e2 e3
  refine ⟨fun n1 => ?_, fun n1 n2 => ?_, fun n1 n2 => ?_⟩
  · rw [if_pos n1] at h4
    refine ⟨s', r, h1, hB', h4.1, ?_, by rw [e5]; exact h5⟩
    unfold absR; rw [h4.2, f5, f6, e10, e5]
  · rw [if_neg (fun q => q n1), if_pos (by omega)] at h4
    refine ⟨s', r, h1, hB', h4.1, ?_, by rw [e5]; exact h5⟩
    unfold absR; rw [h4.2, f5, f6, e10, e5]
  · rw [if_neg (fun q => q n1), if_neg (by omega)] at h4
    refine ⟨s', r, h1, hB', h4.1, ?_, by rw [e5]; exact h5⟩
    unfold absR ptA; rw [h4.2, f5, f6, e10, e5]
def lgv (x y : Int32) : Int64 := (x.toInt64 <<< ((jI 32).toInt64 &&& 63)) ||| (y.toInt64 &&& 4294967295)
set_option maxRecDepth 20000 in
theorem lw_put (hLK : LK w L Z) (hi : (i : Int) + 6 ≤ xs.length) (hx : xs.length ≤ 3072) (hfr : 12 ≤ fr) (hlo : 502 ≤ lo) (K : ∀ w y5 y6 y7, LK w (L + 1) (Z + 198) → fin xs fr lo 185 1412 [some (.retAddr 0), some (.ref 0), some (.ref 425), some (.ref 437), some (.int (jI (i : Int))), y5, y6, y7] [] w Q) : fin xs fr lo 185 192 [some (.retAddr 0), some (.ref 0), some (.ref 425), some (.ref 437), some (.int (jI (i : Int))), y5, y6, y7] [] w Q := by
  obtain ⟨w0, s, v, sr, r, o, hC, hok, hR, hout, hB, h5, hab⟩ := hLK
  have hM := MI_abs hab hok.1
  obtain ⟨p1, ep1⟩ : ∃ q, q = sc xs ((i : Int) + 1) := ⟨_, rfl⟩
  have bp1 := sc_b xs ((i : Int) + 1)
  rw [← ep1] at bp1
  obtain ⟨p2, ep2⟩ : ∃ q, q = sc xs ((i : Int) + 2) := ⟨_, rfl⟩
  have bp2 := sc_b xs ((i : Int) + 2)
  rw [← ep2] at bp2
  obtain ⟨p3, ep3⟩ : ∃ q, q = sc xs ((i : Int) + 3) := ⟨_, rfl⟩
  have bp3 := sc_b xs ((i : Int) + 3)
  rw [← ep3] at bp3
  obtain ⟨p4, ep4⟩ : ∃ q, q = sc xs ((i : Int) + 4) := ⟨_, rfl⟩
  obtain ⟨p5, ep5⟩ : ∃ q, q = sc xs ((i : Int) + 5) := ⟨_, rfl⟩
  obtain ⟨y, hy, y0, y1⟩ : ∃ y : Int, lgv (jI p4) (jI p5) = jL y ∧ -9223372036854775808 ≤ y ∧ y < 9223372036854775808 := ⟨(lgv (jI p4) (jI p5)).toInt, (Int64.ofInt_toInt _).symm, Int64.le_toInt _, Int64.toInt_lt _⟩
  have h5' : rf s 5 = sr 5 := congrArg (fun α : AB => α.2.1) hab
  have h6' : rf s 6 = sr 6 := congrArg (fun α : AB => α.2.2.1) hab
  refine fi_step (pc' := 193) m_La_law rfl rfl ?_
  refine fi_step (pc' := 194) m_La_law rfl rfl ?_
  refine fi_step (pc' := 196) m_La_law rfl rfl ?_
  refine fi_step (pc' := 197) m_La_law rfl rfl ?_
  refine s_iadd (p := 198) m_La_law rfl rfl ?_
  refine l_ld (p := 199) m_La_law rfl rfl (by omega) (by omega) (by omega) ?_
  refine fi_step (pc' := 200) m_La_law rfl rfl ?_
  refine fi_step (pc' := 202) m_La_law rfl rfl ?_
  refine fi_step (pc' := 203) m_La_law rfl rfl ?_
  refine s_iadd (p := 204) m_La_law rfl rfl ?_
  refine l_ld (p := 205) m_La_law rfl rfl (by omega) (by omega) (by omega) ?_
  refine fi_step (pc' := 206) m_La_law rfl rfl ?_
  refine fi_step (pc' := 208) m_La_law rfl rfl ?_
  refine fi_step (pc' := 209) m_La_law rfl rfl ?_
  refine s_iadd (p := 210) m_La_law rfl rfl ?_
  refine l_ld (p := 211) m_La_law rfl rfl (by omega) (by omega) (by omega) ?_
  refine fi_step (pc' := 212) m_La_law rfl rfl ?_
  refine fi_step (pc' := 214) m_La_law rfl rfl ?_
  refine fi_step (pc' := 215) m_La_law rfl rfl ?_
  refine s_iadd (p := 216) m_La_law rfl rfl ?_
  refine l_ld (p := 217) m_La_law rfl rfl (by omega) (by omega) (by omega) ?_
  rw [← ep1, ← ep2, ← ep3, ← ep4]
  refine fi_step (pc' := 218) m_La_law rfl rfl ?_
  refine s_bipush (p := 220) m_La_law rfl rfl rfl ?_
  refine fi_step (pc' := 221) m_La_law rfl rfl ?_
  refine fi_step (pc' := 222) m_La_law rfl rfl ?_
  refine fi_step (pc' := 224) m_La_law rfl rfl ?_
  refine fi_step (pc' := 225) m_La_law rfl rfl ?_
  refine s_iadd (p := 226) m_La_law rfl rfl ?_
  refine l_ld (p := 227) m_La_law rfl rfl (by omega) (by omega) (by omega) ?_
  rw [← ep5]
  refine fi_step (pc' := 228) m_La_law rfl rfl ?_
  refine fi_step (pc' := 231) m_La_law rfl rfl ?_
  refine fi_step (pc' := 232) m_La_law rfl rfl ?_
  refine fi_step (pc' := 233) m_La_law rfl rfl ?_
  show fin xs fr lo 185 233 [some (.retAddr 0), some (.ref 0), some (.ref 425), some (.ref 437), some (.int (jI (i : Int))), y5, y6, y7] [.long (lgv (jI p4) (jI p5)), .int (jI p3), .int (jI p2), .int (jI p1), .ref 0] w Q
  rw [hy]
  have rest : ∀ (w1 : ax_W) (s1 : mo_S) (v1 : Nat → Int) (w0 : ax_W) (k : Int), CW w0 w1 s1 v1 (L + 1) (Z + 198) → okC s1 v1 → RW w1 w1 sr → w1[437]? = some (21, [.long o]) → (k = 0 ∨ k = 1 ∨ k = 2) → (∀ w2, ((¬ ((0 ≤ p1 ∧ p1 < 6) ∧ (0 ≤ p2 ∧ p2 < sr 5 p1) ∧ 0 ≤ p3 ∧ p3 < sr 6 p1) → RX w1 1 (absR sr) w2) ∧ (((0 ≤ p1 ∧ p1 < 6) ∧ (0 ≤ p2 ∧ p2 < sr 5 p1) ∧ 0 ≤ p3 ∧ p3 < sr 6 p1) → ¬ (-1000000000000000000 < y ∧ y < 1000000000000000000) → RX w1 2 (absR sr) w2) ∧ (((0 ≤ p1 ∧ p1 < 6) ∧ (0 ≤ p2 ∧ p2 < sr 5 p1) ∧ 0 ≤ p3 ∧ p3 < sr 6 p1) → (-1000000000000000000 < y ∧ y < 1000000000000000000) → RX w1 0 (ptA (absR sr) (36 * p1 + 6 * p2 + p3) y) w2)) → RX w1 k (absC s1) w2) →
      fin xs fr lo 185 236 [some (.retAddr 0), some (.ref 0), some (.ref 425), some (.ref 437), some (.int (jI (i : Int))), y5, y6, y7] [.int (jI k)] w1 Q := by
    intro w1 s1 v1 w0 k hC' hok' hR' hout' hk hX
    refine fi_step (pc' := 238) m_La_law rfl rfl ?_
    refine fi_step (pc' := 239) m_La_law rfl rfl ?_
    refine fi_step (pc' := 240) m_La_law rfl rfl ?_
    refine fi_step (pc' := 242) m_La_law rfl rfl ?_
    refine fi_step (pc' := 243) m_La_law rfl rfl ?_
    refine s_iadd (p := 244) m_La_law rfl rfl ?_
    refine l_ld (p := 245) m_La_law rfl rfl (by omega) (by omega) (by omega) ?_
    refine fi_step (pc' := 246) m_La_law rfl rfl ?_
    refine fi_step (pc' := 248) m_La_law rfl rfl ?_
    refine fi_step (pc' := 249) m_La_law rfl rfl ?_
    refine s_iadd (p := 250) m_La_law rfl rfl ?_
    refine l_ld (p := 251) m_La_law rfl rfl (by omega) (by omega) (by omega) ?_
    refine fi_step (pc' := 252) m_La_law rfl rfl ?_
    refine fi_step (pc' := 254) m_La_law rfl rfl ?_
    refine fi_step (pc' := 255) m_La_law rfl rfl ?_
    refine s_iadd (p := 256) m_La_law rfl rfl ?_
    refine l_ld (p := 257) m_La_law rfl rfl (by omega) (by omega) (by omega) ?_
    refine fi_step (pc' := 258) m_La_law rfl rfl ?_
    refine fi_step (pc' := 260) m_La_law rfl rfl ?_
    refine fi_step (pc' := 261) m_La_law rfl rfl ?_
    refine s_iadd (p := 262) m_La_law rfl rfl ?_
    refine l_ld (p := 263) m_La_law rfl rfl (by omega) (by omega) (by omega) ?_
    rw [← ep1, ← ep2, ← ep3, ← ep4]
    refine fi_step (pc' := 264) m_La_law rfl rfl ?_
    refine s_bipush (p := 266) m_La_law rfl rfl rfl ?_
    refine fi_step (pc' := 267) m_La_law rfl rfl ?_
    refine fi_step (pc' := 268) m_La_law rfl rfl ?_
    refine fi_step (pc' := 270) m_La_law rfl rfl ?_
    refine fi_step (pc' := 271) m_La_law rfl rfl ?_
    refine s_iadd (p := 272) m_La_law rfl rfl ?_
    refine l_ld (p := 273) m_La_law rfl rfl (by omega) (by omega) (by omega) ?_
    rw [← ep5]
    refine fi_step (pc' := 274) m_La_law rfl rfl ?_
    refine fi_step (pc' := 277) m_La_law rfl rfl ?_
    refine fi_step (pc' := 278) m_La_law rfl rfl ?_
    refine fi_step (pc' := 279) m_La_law rfl rfl ?_
    show fin xs fr lo 185 279 [some (.retAddr 0), some (.ref 0), some (.ref 425), some (.ref 437), some (.int (jI (i : Int))), some (.int (jI k)), y6, y7] [.long (lgv (jI p4) (jI p5)), .int (jI p3), .int (jI p2), .int (jI p1), .ref 425] w1 Q
    rw [hy]
    refine g_5 (p := 282) m_La_law rfl inv_v (by decide) m_Mo_put rfl rfl (by omega) (by omega) (Nat.le_of_ble_eq_true rfl) (Nat.le_of_ble_eq_true rfl) (RW_rcv hR' _) (sR_put hR' hM hB h5 bp1.1 bp1.2 bp2.1 bp2.2 bp3.1 bp3.2 y0 y1 (by omega) (by omega)) (fun v w hP => ?_)
    obtain ⟨rfl, hq⟩ := hP
    obtain ⟨hL2, hout2, sr2, hR2, ht2⟩ := LK_ref hC' hok' hR' hout' (hX w hq) rfl
    refine fi_step (pc' := 283) m_La_law rfl rfl ?_
    refine c_1 (p := 286) m_La_law rfl inv_v (by decide) m_Mo_thrown rfl rfl (by omega) (by omega) (Nat.le_of_ble_eq_true rfl) (Nat.le_of_ble_eq_true rfl) (RW_rcv hR2 _) (c_thrown hR2) ?_
    rw [ht2]
    refine fi_step (pc' := 288) m_La_law rfl rfl ?_
    refine s_ic_eq (p := 291) m_La_law rfl rfl (by omega) (by omega) (by omega) (by omega) (fun hbr => ?_) (fun hbr => False.elim (by omega))
    refine fi_step (pc' := 1412) m_La_law rfl rfl ?_
    exact K _ _ _ _ hL2
  by_cases hm : (0 ≤ p1 ∧ p1 < 6) ∧ (0 ≤ p2 ∧ p2 < s 2 p1) ∧ 0 ≤ p3 ∧ p3 < s 3 p1
  · have q5 : sr 5 p1 = s 2 p1 := by rw [← h5', rf_5 s hm.1.1 hm.1.2]
    have q6 : sr 6 p1 = s 3 p1 := by rw [← h6', rf_6 s hm.1.1 hm.1.2]
    obtain ⟨m, rfl⟩ := Int.eq_ofNat_of_zero_le hm.1.1
    have dm := rf_dim hok.1 (show m < 6 by omega)
    obtain ⟨d1, d2, d3, d4⟩ := dm
    by_cases hr : -1000000000000000000 < y ∧ y < 1000000000000000000
    · refine g_5 (p := 236) m_La_law rfl inv_s (by decide) m_La_put rfl rfl (by omega) (by omega) (Nat.le_of_ble_eq_true rfl) (Nat.le_of_ble_eq_true rfl) rfl (la_put (P := fun w' => CW w0 w' (up s 1 (36 * m + (6 * p2 + p3)) y) v L Z) hC (by omega) (by omega) (de_put hC hok.1 (show m < 6 by omega) hm.2.1.1 hm.2.1.2 hm.2.2.1 hm.2.2.2 hr.1 hr.2 (by omega) (by omega))) (fun v w hP => ?_)
      obtain ⟨rfl, hC1⟩ := hP
      obtain ⟨hok1, hab1⟩ := okC_pt (x := 36 * m + (6 * p2 + p3)) hok (by omega) (by omega) hr.1 hr.2
      obtain ⟨hR1, hout1⟩ := CB_keep hC hR hout hC1
      refine rest w _ v w0 0 (CW_more hC1 (by omega) (by omega)) hok1 hR1 hout1 (by omega) (fun w2 hq => ?_)
      rw [hab1, hab, show 36 * (m : Int) + (6 * p2 + p3) = 36 * m + 6 * p2 + p3 by omega]
      exact hq.2.2 (by omega) hr
    · refine g_5 (p := 236) m_La_law rfl inv_s (by decide) m_La_put rfl rfl (by omega) (by omega) (Nat.le_of_ble_eq_true rfl) (Nat.le_of_ble_eq_true rfl) rfl (la_putT10 hC (by omega) (by omega) (de_putT10 hC hok.1 (show m < 6 by omega) hm.2.1.1 hm.2.1.2 hm.2.2.1 hm.2.2.2 y0 y1 hr (by omega) (by omega))) (fun v w hP => ?_)
      obtain ⟨rfl, rfl⟩ := hP
      obtain ⟨hC1, hR1, hout1⟩ := Thr_next hC hR hout (Or.inr rfl)
      refine rest _ _ v w0 2 hC1 hok hR1 hout1 (by omega) (fun w2 hq => ?_)
      rw [hab]
      exact hq.2.1 (by omega) hr
  · refine g_5 (p := 236) m_La_law rfl inv_s (by decide) m_La_put rfl rfl (by omega) (by omega) (Nat.le_of_ble_eq_true rfl) (Nat.le_of_ble_eq_true rfl) rfl (la_putT9 hC (by omega) (by omega) (de_putT9 hC hok.1 bp1.1 bp1.2 bp2.1 bp2.2 bp3.1 bp3.2 hm (by omega) (by omega))) (fun v w hP => ?_)
    obtain ⟨rfl, rfl⟩ := hP
    obtain ⟨hC1, hR1, hout1⟩ := Thr_next hC hR hout (Or.inl rfl)
    refine rest _ _ v w0 1 hC1 hok hR1 hout1 (by omega) (fun w2 hq => ?_)
    rw [hab]
    refine hq.1 (fun hn => hm ?_)
    rw [← h5', ← h6', rf_5 s hn.1.1 hn.1.2, rf_6 s hn.1.1 hn.1.2] at hn
    exact hn
end LAW2
