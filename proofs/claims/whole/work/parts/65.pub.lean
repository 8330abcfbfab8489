/-! THE REFERENCE: determinant, divisor, factor -/
/-- nothing is changed that a call shows, none thrown -/
def kq (s s' : mo_S) : Prop := keepM s s' ∧ s' 0 0 = 0 ∧ s' 10 = s 10 ∧ s' 0 5 = s 0 5
theorem kq_up (s : mo_S) : kq s (up s 0 0 0) := ⟨⟨up_ne _ (by decide) _ _, up_ne _ (by decide) _ _, up_ne _ (by decide) _ _⟩, by rw [up_same, up1_same], up_ne _ (by decide) _ _, by rw [up_same, up1_ne _ (by decide)]⟩
theorem kq_kL {s s1 s2 : mo_S} (h : kq s s1) (k : kL s1 s2) : kq s s2 :=
  ⟨⟨(k.1 4 (by decide) (by decide)).trans h.1.1, (k.1 5 (by decide) (by decide)).trans h.1.2.1, (k.1 6 (by decide) (by decide)).trans h.1.2.2⟩, (k.2 0 (by decide) (by decide)).trans h.2.1, (k.1 10 (by decide) (by decide)).trans h.2.2.1, (k.2 5 (by decide) (by decide)).trans h.2.2.2⟩
theorem kq_oth8 {s s1 s2 : mo_S} (h : kq s s1) (k : oth8 s1 s2) : kq s s2 := by
  have k' : ∀ a, a ≠ 1 → a ≠ 2 → a ≠ 3 → a ≠ 8 → s2 a = s1 a := k
  refine ⟨⟨(k' 4 (by decide) (by decide) (by decide) (by decide)).trans h.1.1, (k' 5 (by decide) (by decide) (by decide) (by decide)).trans h.1.2.1, (k' 6 (by decide) (by decide) (by decide) (by decide)).trans h.1.2.2⟩, ?_, (k' 10 (by decide) (by decide) (by decide) (by decide)).trans h.2.2.1, ?_⟩
  · rw [k' 0 (by decide) (by decide) (by decide) (by decide)]; exact h.2.1
  · rw [k' 0 (by decide) (by decide) (by decide) (by decide)]; exact h.2.2.2
theorem kq_oth {s s1 s2 : mo_S} (h : kq s s1) (k : oth s1 s2) : kq s s2 := kq_oth8 h (oth8_oth k)
theorem kq_pub {s s1 : mo_S} {w0 w' : ax_W} {r : Int → Int} (h : kq s s1) (hw : RW w0 w' s1) (hB : Bg s1 r) : pub s w0 w' 0 none := ⟨s1, r, hw, hB, h.1, h.2.1, h.2.2.1, h.2.2.2⟩
theorem kq_say {s s1 s2 : mo_S} {w0 w' : ax_W} {r : Int → Int} {L : List Int} (h : kq s s1) (k : keepS s1 s2) (hw : RW w0 w' s2) (hB : Bg s2 r) (hp : prn s2 L) : pub s w0 w' 0 (some L) :=
  ⟨s2, r, hw, hB, ⟨(k.1 4 (by decide) (by decide) (by decide) (by decide) (by decide) (by decide)).trans h.1.1, (k.1 5 (by decide) (by decide) (by decide) (by decide) (by decide) (by decide)).trans h.1.2.1, (k.1 6 (by decide) (by decide) (by decide) (by decide) (by decide) (by decide)).trans h.1.2.2⟩, (k.2 0 (by decide)).trans h.2.1, hp⟩
theorem pub_no {s : mo_S} {w0 w' : ax_W} {r : Int → Int} (hw : RW w0 w' (up s 0 0 1)) (hB : Bg s r) : pub s w0 w' 1 none :=
  ⟨_, r, hw, Bg_congr hB (up_ne _ (by decide) _ _) (up_ne _ (by decide) _ _) (up_ne _ (by decide) _ _), ⟨up_ne _ (by decide) _ _, up_ne _ (by decide) _ _, up_ne _ (by decide) _ _⟩, by rw [up_same, up1_same], up_ne _ (by decide) _ _, by rw [up_same, up1_ne _ (by decide)]⟩
theorem Bg_up0 {s : mo_S} {r : Int → Int} (hB : Bg s r) (t : Int) : Bg (up s 0 0 t) r := Bg_congr hB (up_ne _ (by decide) _ _) (up_ne _ (by decide) _ _) (up_ne _ (by decide) _ _)
theorem mnr_mm {g p : Int → Int} {x y : Int} (hl : (els 6 y).length = (els 6 x).length) (hp : plist p (els 6 x).length = els 6 x) : mnr g p y = mm g y x := by
  unfold mnr mm; rw [hl, hp]
theorem pick_in {p : Int → Int} {x : Int} {C : Nat} (hp : plist p (els 6 x).length = els 6 x) (hcut : els C x = els 6 x) : ∀ q : Nat, q < (els 6 x).length → 0 ≤ p q ∧ p q < C := by
  intro q hq
  have h : p q ∈ els 6 x := by
    rw [← hp]; exact plist_mem.mpr ⟨q, hq, rfl⟩
  rw [← hcut] at h
  exact els_mem h
section PUB2
variable {xs : List Int32} {fr lo : Nat} {w0 : ax_W}
theorem c_determinant {m : Int} {w : ax_W} {s : mo_S} {r : Int → Int} (hfr : 6 ≤ fr) (hlo : 220 ≤ lo) (hw : RW w0 w s) (hM : MI s) (hB : Bg s r) (m0 : -2147483648 ≤ m) (m1 : m < 2147483648) :
    fin xs fr lo 172 0 (ax_ent [.ref 425, .int (jI m)] 2) [] w (Ret fun u w' => (¬ (0 ≤ m ∧ m < 6) ∧ pub s w0 w' 1 none ∧ u = some (.int (jI 0))) ∨ ((0 ≤ m ∧ m < 6) ∧ s 5 m ≠ s 6 m ∧ pub s w0 w' 0 none ∧ u = some (.int (jI (-2)))) ∨ ((0 ≤ m ∧ m < 6) ∧ s 5 m = s 6 m ∧ ∃ d, d = mm (gm s m) (2 ^ (s 5 m).toNat - 1) (2 ^ (s 5 m).toNat - 1) ∧ pub s w0 w' 0 (some (sayS d)) ∧ u = some (.int (jI ((sayS d).length : Nat))))) := by
  refine fi_step (pc' := 1) m_Mo_determinant rfl rfl ?_
  refine fi_step (pc' := 2) m_Mo_determinant rfl rfl ?_
  refine fi_step (pc' := 3) m_Mo_determinant rfl rfl ?_
  refine c_2 (p := 6) m_Mo_determinant rfl inv_v (by decide) m_Mo_isMatrix rfl rfl (by omega) (by omega) (Nat.le_of_ble_eq_true rfl) (Nat.le_of_ble_eq_true rfl) (RW_rcv hw _) (c_isMatrix m0 m1) ?_
  by_cases hm : 0 ≤ m ∧ m < 6
  · rw [if_pos hm]
    have e0 : up s 0 0 0 0 0 = 0 := by rw [up_same, up1_same]
    have K0 := kq_up s
    have M0 := MI_congr hM K0.1
    have hr := hM.1 m hm.1 hm.2
    have hc := hM.2.1 m hm.1 hm.2
    have e5 : up s 0 0 0 5 = s 5 := K0.1.2.1
    have e6 : up s 0 0 0 6 = s 6 := K0.1.2.2
    have E5 : up s 0 0 0 5 m = s 5 m := by rw [e5]
    have E6 : up s 0 0 0 6 m = s 6 m := by rw [e6]
    refine s_if_eq (p := 9) m_Mo_determinant rfl rfl (by omega) (by omega) (fun hbr => False.elim (by omega)) (fun hbr => ?_)
    refine fi_step (pc' := 10) m_Mo_determinant rfl rfl ?_
    refine fi_step (pc' := 14) m_Mo_determinant rfl rfl ?_
    refine r_put (p := 17) 0 m_Mo_determinant rfl rfl (by assumption) (r_put0 _ _) rfl (fun w hw => ?_)
    refine fi_step (pc' := 18) m_Mo_determinant rfl rfl ?_
    refine r_get (p := 21) m_Mo_determinant rfl rfl (by assumption) rfl ?_
    refine s_if_le (p := 24) m_Mo_determinant rfl rfl (by omega) (by omega) (fun hbr => ?_) (fun hbr => False.elim (by omega))
    refine fi_step (pc' := 27) m_Mo_determinant rfl rfl ?_
    refine r_get (p := 30) m_Mo_determinant rfl rfl (by assumption) rfl ?_
    refine fi_step (pc' := 31) m_Mo_determinant rfl rfl ?_
    refine r_ldI (p := 32) m_Mo_determinant rfl rfl (by assumption) (by decide) rfl (by decide) (by omega) (by omega) ?_
    refine fi_step (pc' := 33) m_Mo_determinant rfl rfl ?_
    refine r_get (p := 36) m_Mo_determinant rfl rfl (by assumption) rfl ?_
    refine fi_step (pc' := 37) m_Mo_determinant rfl rfl ?_
    refine r_ldI (p := 38) m_Mo_determinant rfl rfl (by assumption) (by decide) rfl (by decide) (by omega) (by omega) ?_
    refine s_ic_eq (p := 41) m_Mo_determinant rfl rfl (by omega) (by omega) (by omega) (by omega) (fun hs => ?_) (fun hs => ?_)
    · rw [e5, e6] at hs
      refine fi_step (pc' := 45) m_Mo_determinant rfl rfl ?_
      refine fi_step (pc' := 46) m_Mo_determinant rfl rfl ?_
      refine g_2 (p := 49) m_Mo_determinant rfl inv_v (by decide) m_Mo_lookAt rfl rfl (by omega) (by omega) (Nat.le_of_ble_eq_true rfl) (Nat.le_of_ble_eq_true rfl) (RW_rcv hw _) (c_lookAt (by omega) (by omega) hw M0 hm.1 hm.2) (fun v w hP => ?_)
      obtain ⟨rfl, s1, hw, kl, l1, l2, l7⟩ := hP
      rw [K0.1.2.1, K0.1.2.2, K0.1.1] at l7
      rw [e5] at l1
      rw [e6] at l2
      obtain ⟨hgm, hgb⟩ := look_ok hM hm.1 hm.2 l7
      have B1 : Bg s1 r := Bg_congr (Bg_up0 hB 0) (kl.1 1 (by decide) (by decide)) (kl.1 2 (by decide) (by decide)) (kl.1 3 (by decide) (by decide))
      have K1 := kq_kL K0 kl
      obtain ⟨R, hR⟩ : ∃ R : Nat, s 5 m = R := ⟨(s 5 m).toNat, by omega⟩
      have hRt : (s 5 m).toNat = R := by omega
      have hCt : (s 6 m).toNat = R := by omega
      have hp := S_pow (show R ≤ 6 by omega)
      have hall := els_all ⟨R, by omega⟩
      simp only at hall
      have e2 : (2 : Int) ^ (s1 0 2).toNat = 2 ^ R := by rw [l2, hCt]
      have e1 : (2 : Int) ^ (s1 0 1).toNat = 2 ^ R := by rw [l1, hRt]
      refine fi_step (pc' := 50) m_Mo_determinant rfl rfl ?_
      refine fi_step (pc' := 51) m_Mo_determinant rfl rfl ?_
      refine fi_step (pc' := 52) m_Mo_determinant rfl rfl ?_
      refine fi_step (pc' := 53) m_Mo_determinant rfl rfl ?_
      refine r_get (p := 56) m_Mo_determinant rfl rfl (by assumption) rfl ?_
      refine b_ishl (p := 57) m_Mo_determinant rfl rfl (by omega) (by omega) ?_
      refine fi_step (pc' := 58) m_Mo_determinant rfl rfl ?_
      refine s_isub (p := 59) m_Mo_determinant rfl rfl ?_
      rw [e2]
      refine g_2 (p := 62) m_Mo_determinant rfl inv_v (by decide) m_Mo_pick rfl rfl (by omega) (by omega) (Nat.le_of_ble_eq_true rfl) (Nat.le_of_ble_eq_true rfl) (RW_rcv hw _) (c_pick (c := R) hw (by omega) (by omega) (by omega) (by omega) (by rw [← hall.1]; omega)) (fun v w hP => ?_)
      obtain ⟨rfl, s2, hw, o2, p2⟩ := hP
      rw [← hall.1] at p2 ⊢
      have o2' : oth8 s1 s2 := fun a _ _ _ h8 => o2 a h8
      have B2 : Bg s2 r := Bg_congr B1 (o2 1 (by decide)) (o2 2 (by decide)) (o2 3 (by decide))
      have hin := pick_in (C := R) p2 hall.1.symm
      rw [hall.2] at hin
      rw [hall.2]
      refine g_2 (p := 65) m_Mo_determinant rfl inv_v (by decide) m_Mo_findMinors rfl rfl (by omega) (by omega) (Nat.le_of_ble_eq_true rfl) (Nat.le_of_ble_eq_true rfl) (RW_rcv hw _) (c_findMinors (n := R) (R := R) (by omega) (by omega) hw B2 (by rw [o2 0 (by decide), l1]; exact hR) (by omega) (by omega) (fun q hq => by have := hin q hq; omega) (fun i j i0 i1 ⟨q, hq, hj⟩ => by rw [o2 7 (by decide)]; have := hin q hq; exact hgb i j i0 (by omega) (by omega) (by omega))) (fun v w hP => ?_)
      obtain ⟨rfl, s3, r3, hw, o3, B3, v3, k3⟩ := hP
      have e1' : (2 : Int) ^ (s3 0 1).toNat = 2 ^ R := by rw [o3 0 (by decide) (by decide) (by decide), o2 0 (by decide), e1]
      have hl1 : s3 0 1 = R := by rw [o3 0 (by decide) (by decide) (by decide), o2 0 (by decide), l1, hR]
      refine fi_step (pc' := 66) m_Mo_determinant rfl rfl ?_
      refine s_sipush (p := 69) m_Mo_determinant rfl rfl rfl ?_
      refine s_bipush (p := 71) m_Mo_determinant rfl rfl rfl ?_
      refine fi_step (pc' := 72) m_Mo_determinant rfl rfl ?_
      refine fi_step (pc' := 73) m_Mo_determinant rfl rfl ?_
      refine r_get (p := 76) m_Mo_determinant rfl rfl (by assumption) rfl ?_
      refine b_ishl (p := 77) m_Mo_determinant rfl rfl (by omega) (by omega) ?_
      refine fi_step (pc' := 78) m_Mo_determinant rfl rfl ?_
      refine s_isub (p := 79) m_Mo_determinant rfl rfl ?_
      refine s_iadd (p := 80) m_Mo_determinant rfl rfl ?_
      rw [e1', show (36 : Int) + (2 ^ R - 1) = 36 + (2 ^ R - 1) from rfl]
      refine g_3 (p := 83) m_Mo_determinant rfl inv_v (by decide) m_Mo_bigCopy rfl rfl (by omega) (by omega) (Nat.le_of_ble_eq_true rfl) (Nat.le_of_ble_eq_true rfl) (RW_rcv hw _) (c_bigCopy hw B3 (by omega) (by omega) (by omega) (by omega) (by omega)) (fun v w hP => ?_)
      obtain ⟨rfl, s4, hw, o4, B4⟩ := hP
      have hv : r3 (36 + (2 ^ R - 1)) = mm (gm s m) (2 ^ R - 1) (2 ^ R - 1) := by
        rw [v3 _ (by omega) (by omega), if_pos (by omega), mnr_mm rfl p2, o2 7 (by decide)]
        exact mm_congr (R := R) (C := R) (by omega) (by omega) (fun i j i0 i1 j0 j1 => hgm i j i0 (by omega) j0 (by omega)) (by omega) (by omega) (by omega) (by omega)
      have hb : ((mm (gm s m) (2 ^ R - 1) (2 ^ R - 1)).natAbs : Int) ≤ MBND := by
        refine mm_bound (R := R) (C := R) (by omega) (by omega) (fun i j i0 i1 j0 j1 => ?_) (by omega) (by omega) (by omega) (by omega) rfl
        rw [← hgm i j i0 (by omega) j0 (by omega)]; exact hgb i j i0 (by omega) j0 (by omega)
      have hM0 : (0 : Int) ≤ MBND := by decide
      refine fi_step (pc' := 84) m_Mo_determinant rfl rfl ?_
      refine s_sipush (p := 87) m_Mo_determinant rfl rfl rfl ?_
      refine g_2 (p := 90) m_Mo_determinant rfl inv_v (by decide) m_Mo_say rfl rfl (by omega) (by omega) (Nat.le_of_ble_eq_true rfl) (Nat.le_of_ble_eq_true rfl) (RW_rcv hw _) (c_say (by omega) (by omega) hw B4 (by omega) (by omega) (by omega) (by rw [up1_same, hv]; exact lt_120 (by omega))) (fun v w hP => ?_)
      obtain ⟨s5, r5, hw, k5, B5, _, p5, rfl⟩ := hP
      rw [up1_same, hv] at p5 ⊢
      refine p_reti m_Mo_determinant rfl rfl ?_
      exact Or.inr (Or.inr ⟨hm, hs, _, by rw [hRt], kq_say (kq_oth (kq_oth (kq_oth8 K1 o2') o3) o4) k5 hw B5 p5, rfl⟩)
    · rw [e5, e6] at hs
      refine s_bipush (p := 43) m_Mo_determinant rfl rfl rfl ?_
      refine p_reti m_Mo_determinant rfl rfl ?_
      exact Or.inr (Or.inl ⟨hm, hs, kq_pub K0 hw (Bg_up0 hB 0), rfl⟩)
  · rw [if_neg hm]
    have e0 : up s 0 0 1 0 0 = 1 := by rw [up_same, up1_same]
    refine s_if_eq (p := 9) m_Mo_determinant rfl rfl (by omega) (by omega) (fun hbr => ?_) (fun hbr => False.elim (by omega))
    refine fi_step (pc' := 14) m_Mo_determinant rfl rfl ?_
    refine r_put (p := 17) 0 m_Mo_determinant rfl rfl (by assumption) (r_put0 _ _) rfl (fun w hw => ?_)
    refine fi_step (pc' := 18) m_Mo_determinant rfl rfl ?_
    refine r_get (p := 21) m_Mo_determinant rfl rfl (by assumption) rfl ?_
    refine s_if_le (p := 24) m_Mo_determinant rfl rfl (by omega) (by omega) (fun hbr => False.elim (by omega)) (fun hbr => ?_)
    refine fi_step (pc' := 25) m_Mo_determinant rfl rfl ?_
    refine p_reti m_Mo_determinant rfl rfl ?_
    exact Or.inl ⟨hm, pub_no hw hB, rfl⟩
theorem c_divisor {m k : Int} {w : ax_W} {s : mo_S} {r : Int → Int} (hfr : 6 ≤ fr) (hlo : 220 ≤ lo) (hw : RW w0 w s) (hM : MI s) (hB : Bg s r) (m0 : -2147483648 ≤ m) (m1 : m < 2147483648) (k0 : -2147483648 ≤ k) (k1 : k < 2147483648) :
    fin xs fr lo 177 0 (ax_ent [.ref 425, .int (jI m), .int (jI k)] 4) [] w (Ret fun u w' => (¬ (0 ≤ m ∧ m < 6) ∧ pub s w0 w' 1 none ∧ u = some (.int (jI 0))) ∨ ((0 ≤ m ∧ m < 6) ∧ ¬ (1 ≤ k ∧ k ≤ s 5 m ∧ k ≤ s 6 m) ∧ pub s w0 w' 0 none ∧ u = some (.int (jI (-1)))) ∨ ((0 ≤ m ∧ m < 6) ∧ (1 ≤ k ∧ k ≤ s 5 m ∧ k ≤ s 6 m) ∧ ∃ d, isD (gm s m) (s 5 m).toNat (s 6 m).toNat k.toNat d ∧ pub s w0 w' 0 (some (sayS d)) ∧ u = some (.int (jI ((sayS d).length : Nat))))) := by
  refine fi_step (pc' := 1) m_Mo_divisor rfl rfl ?_
  refine fi_step (pc' := 2) m_Mo_divisor rfl rfl ?_
  refine fi_step (pc' := 3) m_Mo_divisor rfl rfl ?_
  refine c_2 (p := 6) m_Mo_divisor rfl inv_v (by decide) m_Mo_isMatrix rfl rfl (by omega) (by omega) (Nat.le_of_ble_eq_true rfl) (Nat.le_of_ble_eq_true rfl) (RW_rcv hw _) (c_isMatrix m0 m1) ?_
  by_cases hm : 0 ≤ m ∧ m < 6
  · rw [if_pos hm]
    have e0 : up s 0 0 0 0 0 = 0 := by rw [up_same, up1_same]
    have K0 := kq_up s
    have M0 := MI_congr hM K0.1
    have hr := hM.1 m hm.1 hm.2
    have hc := hM.2.1 m hm.1 hm.2
    have e5 : up s 0 0 0 5 = s 5 := K0.1.2.1
    have e6 : up s 0 0 0 6 = s 6 := K0.1.2.2
    have E5 : up s 0 0 0 5 m = s 5 m := by rw [e5]
    have E6 : up s 0 0 0 6 m = s 6 m := by rw [e6]
    refine s_if_eq (p := 9) m_Mo_divisor rfl rfl (by omega) (by omega) (fun hbr => False.elim (by omega)) (fun hbr => ?_)
    refine fi_step (pc' := 10) m_Mo_divisor rfl rfl ?_
    refine fi_step (pc' := 14) m_Mo_divisor rfl rfl ?_
    refine r_put (p := 17) 0 m_Mo_divisor rfl rfl (by assumption) (r_put0 _ _) rfl (fun w hw => ?_)
    refine fi_step (pc' := 18) m_Mo_divisor rfl rfl ?_
    refine r_get (p := 21) m_Mo_divisor rfl rfl (by assumption) rfl ?_
    refine s_if_le (p := 24) m_Mo_divisor rfl rfl (by omega) (by omega) (fun hbr => ?_) (fun hbr => False.elim (by omega))
    refine fi_step (pc' := 27) m_Mo_divisor rfl rfl ?_
    refine fi_step (pc' := 28) m_Mo_divisor rfl rfl ?_
    refine s_ic_lt (p := 31) m_Mo_divisor rfl rfl (by omega) (by omega) (by omega) (by omega) (fun hs => ?_) (fun hs => ?_)
    · refine fi_step (pc' := 52) m_Mo_divisor rfl rfl ?_
      refine p_reti m_Mo_divisor rfl rfl ?_
      exact Or.inr (Or.inl ⟨hm, by omega, kq_pub K0 hw (Bg_up0 hB 0), rfl⟩)
    · refine fi_step (pc' := 32) m_Mo_divisor rfl rfl ?_
      refine fi_step (pc' := 33) m_Mo_divisor rfl rfl ?_
      refine fi_step (pc' := 34) m_Mo_divisor rfl rfl ?_
      refine r_get (p := 37) m_Mo_divisor rfl rfl (by assumption) rfl ?_
      refine fi_step (pc' := 38) m_Mo_divisor rfl rfl ?_
      refine r_ldI (p := 39) m_Mo_divisor rfl rfl (by assumption) (by decide) rfl (by decide) (by omega) (by omega) ?_
      refine fi_step (pc' := 40) m_Mo_divisor rfl rfl ?_
      refine r_get (p := 43) m_Mo_divisor rfl rfl (by assumption) rfl ?_
      refine fi_step (pc' := 44) m_Mo_divisor rfl rfl ?_
      refine r_ldI (p := 45) m_Mo_divisor rfl rfl (by assumption) (by decide) rfl (by decide) (by omega) (by omega) ?_
      rw [e5, e6]
      refine c_3 (p := 48) m_Mo_divisor rfl inv_v (by decide) m_Mo_least rfl rfl (by omega) (by omega) (Nat.le_of_ble_eq_true rfl) (Nat.le_of_ble_eq_true rfl) (RW_rcv hw _) (c_least (by omega) (by omega) (by omega) (by omega)) ?_
      have hmin : (if s 5 m < s 6 m then s 5 m else s 6 m) ≤ 6 ∧ 1 ≤ (if s 5 m < s 6 m then s 5 m else s 6 m) ∧ ∀ k, (k ≤ (if s 5 m < s 6 m then s 5 m else s 6 m) ↔ k ≤ s 5 m ∧ k ≤ s 6 m) := by
        split
        · exact ⟨by omega, by omega, fun k => by omega⟩
        · exact ⟨by omega, by omega, fun k => by omega⟩
      have hmk := hmin.2.2 k
      generalize (if s 5 m < s 6 m then s 5 m else s 6 m) = mn at hmin hmk ⊢
      refine s_ic_le (p := 51) m_Mo_divisor rfl rfl (by omega) (by omega) (by omega) (by omega) (fun hk => ?_) (fun hk => ?_)
      · refine fi_step (pc' := 54) m_Mo_divisor rfl rfl ?_
        refine fi_step (pc' := 55) m_Mo_divisor rfl rfl ?_
        refine g_2 (p := 58) m_Mo_divisor rfl inv_v (by decide) m_Mo_lookAt rfl rfl (by omega) (by omega) (Nat.le_of_ble_eq_true rfl) (Nat.le_of_ble_eq_true rfl) (RW_rcv hw _) (c_lookAt (by omega) (by omega) hw M0 hm.1 hm.2) (fun v w hP => ?_)
        obtain ⟨rfl, s1, hw, kl, l1, l2, l7⟩ := hP
        rw [K0.1.2.1, K0.1.2.2, K0.1.1] at l7
        rw [e5] at l1
        rw [e6] at l2
        obtain ⟨hgm, hgb⟩ := look_ok hM hm.1 hm.2 l7
        have B1 : Bg s1 r := Bg_congr (Bg_up0 hB 0) (kl.1 1 (by decide) (by decide)) (kl.1 2 (by decide) (by decide)) (kl.1 3 (by decide) (by decide))
        have K1 := kq_kL K0 kl
        obtain ⟨q, rfl⟩ : ∃ q : Nat, k = q := ⟨k.toNat, by omega⟩
        refine fi_step (pc' := 59) m_Mo_divisor rfl rfl ?_
        refine fi_step (pc' := 60) m_Mo_divisor rfl rfl ?_
        refine s_sipush (p := 63) m_Mo_divisor rfl rfl rfl ?_
        refine g_3 (p := 66) m_Mo_divisor rfl inv_v (by decide) m_Mo_divisorOf rfl rfl (by omega) (by omega) (Nat.le_of_ble_eq_true rfl) (Nat.le_of_ble_eq_true rfl) (RW_rcv hw _) (c_divisorOf (k := q) (to := 273) (R := (s 5 m).toNat) (C := (s 6 m).toNat) (by omega) (by omega) hw B1 (by omega) (by omega) (by omega) (by omega) (by omega) (Or.inl rfl) hgb) (fun v w hP => ?_)
        obtain ⟨s2, r2, hw, o2, B2, hD, rfl, _⟩ := hP
        have hD' := isD_congr (by omega) (by omega) hgm hD
        have hb := isD_bound (by omega) (by omega) hgb hD
        have hn := hD.1
        have hM0 : (0 : Int) ≤ MBND := by decide
        refine fi_step (pc' := 67) m_Mo_divisor rfl rfl ?_
        refine fi_step (pc' := 68) m_Mo_divisor rfl rfl ?_
        refine s_sipush (p := 71) m_Mo_divisor rfl rfl rfl ?_
        refine g_2 (p := 74) m_Mo_divisor rfl inv_v (by decide) m_Mo_say rfl rfl (by omega) (by omega) (Nat.le_of_ble_eq_true rfl) (Nat.le_of_ble_eq_true rfl) (RW_rcv hw _) (c_say (by omega) (by omega) hw B2 (by omega) (by omega) (by omega) (lt_120 (by omega))) (fun v w hP => ?_)
        obtain ⟨s3, r3, hw, k3, B3, _, p3, rfl⟩ := hP
        refine p_reti m_Mo_divisor rfl rfl ?_
        exact Or.inr (Or.inr ⟨hm, by omega, r2 273, by rw [Int.toNat_natCast]; exact hD', kq_say (kq_oth8 K1 o2) k3 hw B3 p3, rfl⟩)
      · refine fi_step (pc' := 52) m_Mo_divisor rfl rfl ?_
        refine p_reti m_Mo_divisor rfl rfl ?_
        exact Or.inr (Or.inl ⟨hm, by omega, kq_pub K0 hw (Bg_up0 hB 0), rfl⟩)
  · rw [if_neg hm]
    have e0 : up s 0 0 1 0 0 = 1 := by rw [up_same, up1_same]
    refine s_if_eq (p := 9) m_Mo_divisor rfl rfl (by omega) (by omega) (fun hbr => ?_) (fun hbr => False.elim (by omega))
    refine fi_step (pc' := 14) m_Mo_divisor rfl rfl ?_
    refine r_put (p := 17) 0 m_Mo_divisor rfl rfl (by assumption) (r_put0 _ _) rfl (fun w hw => ?_)
    refine fi_step (pc' := 18) m_Mo_divisor rfl rfl ?_
    refine r_get (p := 21) m_Mo_divisor rfl rfl (by assumption) rfl ?_
    refine s_if_le (p := 24) m_Mo_divisor rfl rfl (by omega) (by omega) (fun hbr => False.elim (by omega)) (fun hbr => ?_)
    refine fi_step (pc' := 25) m_Mo_divisor rfl rfl ?_
    refine p_reti m_Mo_divisor rfl rfl ?_
    exact Or.inl ⟨hm, pub_no hw hB, rfl⟩
end PUB2
