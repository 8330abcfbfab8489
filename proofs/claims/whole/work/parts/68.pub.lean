/-! THE REFERENCE: inverse -/
theorem fracS_neg (b a d : Int) : fracS b (-a) d = fracS b a d := by unfold fracS; rw [Int.natAbs_neg, Int.gcd_neg]
/-- whether a fraction is below 0 -/
def frN (a d : Int) : Int := if a ≠ 0 ∧ ¬ (a < 0 ↔ d < 0) then 1 else 0
theorem frN_b (a d : Int) : frN a d = 0 ∨ frN a d = 1 := by unfold frN; split <;> simp
theorem frN_nz {a d : Int} (h : frN a d = 1) : a ≠ 0 := by intro e; subst e; simp [frN] at h
section PUB5
variable {xs : List Int32} {fr lo : Nat} {w0 : ax_W} {Q : Outcome → ax_W → Prop}
theorem c_inverse {m i j : Int} {w : ax_W} {s : mo_S} {r : Int → Int} (hfr : 6 ≤ fr) (hlo : 220 ≤ lo) (hw : RW w0 w s) (hM : MI s) (hB : Bg s r) (m0 : -2147483648 ≤ m) (m1 : m < 2147483648) (i0 : -2147483648 ≤ i) (i1 : i < 2147483648) (j0 : -2147483648 ≤ j) (j1 : j < 2147483648) :
    fin xs fr lo 179 0 (ax_ent [.ref 425, .int (jI m), .int (jI i), .int (jI j)] 8) [] w (Ret fun u w' => (¬ (0 ≤ m ∧ m < 6) ∧ pub s w0 w' 1 none ∧ u = some (.int (jI 0))) ∨ ((0 ≤ m ∧ m < 6) ∧ s 5 m ≠ s 6 m ∧ pub s w0 w' 0 none ∧ u = some (.int (jI (-2)))) ∨ ((0 ≤ m ∧ m < 6) ∧ s 5 m = s 6 m ∧ ¬ (0 ≤ i ∧ i < s 5 m ∧ 0 ≤ j ∧ j < s 5 m) ∧ pub s w0 w' 0 none ∧ u = some (.int (jI (-1)))) ∨ ((0 ≤ m ∧ m < 6) ∧ s 5 m = s 6 m ∧ (0 ≤ i ∧ i < s 5 m ∧ 0 ≤ j ∧ j < s 5 m) ∧ ∃ d a, d = mm (gm s m) (2 ^ (s 5 m).toNat - 1) (2 ^ (s 5 m).toNat - 1) ∧ a = (if (i + j) % 2 = 1 then - mm (gm s m) (2 ^ (s 5 m).toNat - 1 - 2 ^ j.toNat) (2 ^ (s 5 m).toNat - 1 - 2 ^ i.toNat) else mm (gm s m) (2 ^ (s 5 m).toNat - 1 - 2 ^ j.toNat) (2 ^ (s 5 m).toNat - 1 - 2 ^ i.toNat)) ∧ ((d = 0 ∧ pub s w0 w' 0 none ∧ u = some (.int (jI (-1)))) ∨ (d ≠ 0 ∧ pub s w0 w' 0 (some (fracS (frN a d) a d)) ∧ u = some (.int (jI ((fracS (frN a d) a d).length : Nat))))))) := by
  refine fi_step (pc' := 1) m_Mo_inverse rfl rfl ?_
  refine fi_step (pc' := 2) m_Mo_inverse rfl rfl ?_
  refine fi_step (pc' := 3) m_Mo_inverse rfl rfl ?_
  refine c_2 (p := 6) m_Mo_inverse rfl inv_v (by decide) m_Mo_isMatrix rfl rfl (by omega) (by omega) (Nat.le_of_ble_eq_true rfl) (Nat.le_of_ble_eq_true rfl) (RW_rcv hw _) (c_isMatrix m0 m1) ?_
  by_cases hm : 0 ≤ m ∧ m < 6
  · rw [if_pos hm]
    have e0 : up s 0 0 0 0 0 = 0 := by rw [up_same, up1_same]
    have K0 := kq_up s
    have M0 := MI_congr hM K0.1
    have hr := hM.1 m hm.1 hm.2
    have hc := hM.2.1 m hm.1 hm.2
    have e5 : up s 0 0 0 5 = s 5 := K0.1.2.1
    have e6 : up s 0 0 0 6 = s 6 := K0.1.2.2
    have E5 : up s 0 0 0 5 m = s 5 m := by rw [e5]
    have E6 : up s 0 0 0 6 m = s 6 m := by rw [e6]
    refine s_if_eq (p := 9) m_Mo_inverse rfl rfl (by omega) (by omega) (fun hbr => False.elim (by omega)) (fun hbr => ?_)
    refine fi_step (pc' := 10) m_Mo_inverse rfl rfl ?_
    refine fi_step (pc' := 14) m_Mo_inverse rfl rfl ?_
    refine r_put (p := 17) 0 m_Mo_inverse rfl rfl (by assumption) (r_put0 _ _) rfl (fun w hw => ?_)
    refine fi_step (pc' := 18) m_Mo_inverse rfl rfl ?_
    refine r_get (p := 21) m_Mo_inverse rfl rfl (by assumption) rfl ?_
    refine s_if_le (p := 24) m_Mo_inverse rfl rfl (by omega) (by omega) (fun hbr => ?_) (fun hbr => False.elim (by omega))
    refine fi_step (pc' := 27) m_Mo_inverse rfl rfl ?_
    refine r_get (p := 30) m_Mo_inverse rfl rfl (by assumption) rfl ?_
    refine fi_step (pc' := 31) m_Mo_inverse rfl rfl ?_
    refine r_ldI (p := 32) m_Mo_inverse rfl rfl (by assumption) (by decide) rfl (by decide) (by omega) (by omega) ?_
    refine fi_step (pc' := 33) m_Mo_inverse rfl rfl ?_
    refine r_get (p := 36) m_Mo_inverse rfl rfl (by assumption) rfl ?_
    refine fi_step (pc' := 37) m_Mo_inverse rfl rfl ?_
    refine r_ldI (p := 38) m_Mo_inverse rfl rfl (by assumption) (by decide) rfl (by decide) (by omega) (by omega) ?_
    refine s_ic_eq (p := 41) m_Mo_inverse rfl rfl (by omega) (by omega) (by omega) (by omega) (fun hs => ?_) (fun hs => ?_)
    · rw [e5, e6] at hs
      have no : ¬ (0 ≤ i ∧ i < s 5 m ∧ 0 ≤ j ∧ j < s 5 m) → fin xs fr lo 179 72 [some (.ref 425), some (.int (jI m)), some (.int (jI i)), some (.int (jI j)), none, none, none, none] [] w (Ret fun u w' => (¬ (0 ≤ m ∧ m < 6) ∧ pub s w0 w' 1 none ∧ u = some (.int (jI 0))) ∨ ((0 ≤ m ∧ m < 6) ∧ s 5 m ≠ s 6 m ∧ pub s w0 w' 0 none ∧ u = some (.int (jI (-2)))) ∨ ((0 ≤ m ∧ m < 6) ∧ s 5 m = s 6 m ∧ ¬ (0 ≤ i ∧ i < s 5 m ∧ 0 ≤ j ∧ j < s 5 m) ∧ pub s w0 w' 0 none ∧ u = some (.int (jI (-1)))) ∨ ((0 ≤ m ∧ m < 6) ∧ s 5 m = s 6 m ∧ (0 ≤ i ∧ i < s 5 m ∧ 0 ≤ j ∧ j < s 5 m) ∧ ∃ d a, d = mm (gm s m) (2 ^ (s 5 m).toNat - 1) (2 ^ (s 5 m).toNat - 1) ∧ a = (if (i + j) % 2 = 1 then - mm (gm s m) (2 ^ (s 5 m).toNat - 1 - 2 ^ j.toNat) (2 ^ (s 5 m).toNat - 1 - 2 ^ i.toNat) else mm (gm s m) (2 ^ (s 5 m).toNat - 1 - 2 ^ j.toNat) (2 ^ (s 5 m).toNat - 1 - 2 ^ i.toNat)) ∧ ((d = 0 ∧ pub s w0 w' 0 none ∧ u = some (.int (jI (-1)))) ∨ (d ≠ 0 ∧ pub s w0 w' 0 (some (fracS (frN a d) a d)) ∧ u = some (.int (jI ((fracS (frN a d) a d).length : Nat))))))) := by
        intro hn
        refine fi_step (pc' := 73) m_Mo_inverse rfl rfl ?_
        refine p_reti m_Mo_inverse rfl rfl ?_
        exact Or.inr (Or.inr (Or.inl ⟨hm, hs, hn, kq_pub K0 hw (Bg_up0 hB 0), rfl⟩))
      by_cases hp : 0 ≤ i ∧ i < s 5 m ∧ 0 ≤ j ∧ j < s 5 m
      · obtain ⟨p0, p1, p2, p3⟩ := hp
        refine fi_step (pc' := 45) m_Mo_inverse rfl rfl ?_
        refine s_if_lt (p := 48) m_Mo_inverse rfl rfl (by (first | omega | (rw [e5]; omega))) (by (first | omega | (rw [e5]; omega))) (fun hbr => False.elim (by (first | omega | (rw [e5]; omega)))) (fun hbr => ?_)
        refine fi_step (pc' := 49) m_Mo_inverse rfl rfl ?_
        refine fi_step (pc' := 50) m_Mo_inverse rfl rfl ?_
        refine r_get (p := 53) m_Mo_inverse rfl rfl (by assumption) rfl ?_
        refine fi_step (pc' := 54) m_Mo_inverse rfl rfl ?_
        refine r_ldI (p := 55) m_Mo_inverse rfl rfl (by assumption) (by decide) rfl (by decide) (by (first | omega | (rw [e5]; omega))) (by (first | omega | (rw [e5]; omega))) ?_
        refine s_ic_ge (p := 58) m_Mo_inverse rfl rfl (by (first | omega | (rw [e5]; omega))) (by (first | omega | (rw [e5]; omega))) (by (first | omega | (rw [e5]; omega))) (by (first | omega | (rw [e5]; omega))) (fun hbr => False.elim (by (first | omega | (rw [e5]; omega)))) (fun hbr => ?_)
        refine fi_step (pc' := 59) m_Mo_inverse rfl rfl ?_
        refine s_if_lt (p := 62) m_Mo_inverse rfl rfl (by (first | omega | (rw [e5]; omega))) (by (first | omega | (rw [e5]; omega))) (fun hbr => False.elim (by (first | omega | (rw [e5]; omega)))) (fun hbr => ?_)
        refine fi_step (pc' := 63) m_Mo_inverse rfl rfl ?_
        refine fi_step (pc' := 64) m_Mo_inverse rfl rfl ?_
        refine r_get (p := 67) m_Mo_inverse rfl rfl (by assumption) rfl ?_
        refine fi_step (pc' := 68) m_Mo_inverse rfl rfl ?_
        refine r_ldI (p := 69) m_Mo_inverse rfl rfl (by assumption) (by decide) rfl (by decide) (by (first | omega | (rw [e5]; omega))) (by (first | omega | (rw [e5]; omega))) ?_
        refine s_ic_lt (p := 72) m_Mo_inverse rfl rfl (by (first | omega | (rw [e5]; omega))) (by (first | omega | (rw [e5]; omega))) (by (first | omega | (rw [e5]; omega))) (by (first | omega | (rw [e5]; omega))) (fun hbr => ?_) (fun hbr => False.elim (by (first | omega | (rw [e5]; omega))))
        refine fi_step (pc' := 75) m_Mo_inverse rfl rfl ?_
        refine fi_step (pc' := 76) m_Mo_inverse rfl rfl ?_
        refine g_2 (p := 79) m_Mo_inverse rfl inv_v (by decide) m_Mo_lookAt rfl rfl (by omega) (by omega) (Nat.le_of_ble_eq_true rfl) (Nat.le_of_ble_eq_true rfl) (RW_rcv hw _) (c_lookAt (by omega) (by omega) hw M0 hm.1 hm.2) (fun v w hP => ?_)
        obtain ⟨rfl, s1, hw, kl, l1, l2, l7⟩ := hP
        rw [K0.1.2.1, K0.1.2.2, K0.1.1] at l7
        rw [e5] at l1
        rw [e6] at l2
        obtain ⟨hgm, hgb⟩ := look_ok hM hm.1 hm.2 l7
        have B1 : Bg s1 r := Bg_congr (Bg_up0 hB 0) (kl.1 1 (by decide) (by decide)) (kl.1 2 (by decide) (by decide)) (kl.1 3 (by decide) (by decide))
        have K1 := kq_kL K0 kl
        obtain ⟨R, hR⟩ : ∃ R : Nat, s 5 m = R := ⟨(s 5 m).toNat, by omega⟩
        have hRt : (s 5 m).toNat = R := by omega
        have hCt : (s 6 m).toNat = R := by omega
        have hpw := S_pow (show R ≤ 6 by omega)
        have hall := els_all ⟨R, by omega⟩
        simp only at hall
        have e1 : (2 : Int) ^ (s1 0 1).toNat = 2 ^ R := by rw [l1, hRt]
        have hgb' : ∀ i j : Int, 0 ≤ i → i < R → 0 ≤ j → j < R → ((s1 7 (12 * i + j)).natAbs : Int) ≤ 1000000000000000000 := fun i j a b c d => hgb i j a (by omega) c (by omega)
        have hgm' : ∀ i j : Int, 0 ≤ i → i < R → 0 ≤ j → j < R → s1 7 (12 * i + j) = gm s m (12 * i + j) := fun i j a b c d => hgm i j a (by omega) c (by omega)
        refine fi_step (pc' := 80) m_Mo_inverse rfl rfl ?_
        refine fi_step (pc' := 81) m_Mo_inverse rfl rfl ?_
        refine r_get (p := 84) m_Mo_inverse rfl rfl (by assumption) rfl ?_
        refine b_ishl (p := 85) m_Mo_inverse rfl rfl (by omega) (by omega) ?_
        refine fi_step (pc' := 86) m_Mo_inverse rfl rfl ?_
        refine s_isub (p := 87) m_Mo_inverse rfl rfl ?_
        refine fi_step (pc' := 89) m_Mo_inverse rfl rfl ?_
        refine fi_step (pc' := 90) m_Mo_inverse rfl rfl ?_
        refine fi_step (pc' := 91) m_Mo_inverse rfl rfl ?_
        refine fi_step (pc' := 93) m_Mo_inverse rfl rfl ?_
        rw [e1]
        refine g_2 (p := 96) m_Mo_inverse rfl inv_v (by decide) m_Mo_pick rfl rfl (by omega) (by omega) (Nat.le_of_ble_eq_true rfl) (Nat.le_of_ble_eq_true rfl) (RW_rcv hw _) (c_pick (c := R) hw (by omega) (by omega) (by omega) (by omega) (by rw [← hall.1]; omega)) (fun v w hP => ?_)
        obtain ⟨rfl, s2, hw, o2, q2⟩ := hP
        rw [← hall.1] at q2 ⊢
        have o2' : oth8 s1 s2 := fun a _ _ _ h8 => o2 a h8
        have B2 : Bg s2 r := Bg_congr B1 (o2 1 (by decide)) (o2 2 (by decide)) (o2 3 (by decide))
        have hin := pick_in (C := R) q2 hall.1.symm
        rw [hall.2] at hin
        rw [hall.2]
        refine g_2 (p := 99) m_Mo_inverse rfl inv_v (by decide) m_Mo_findMinors rfl rfl (by omega) (by omega) (Nat.le_of_ble_eq_true rfl) (Nat.le_of_ble_eq_true rfl) (RW_rcv hw _) (c_findMinors (n := R) (R := R) (by omega) (by omega) hw B2 (by rw [o2 0 (by decide), l1]; exact hR) (by omega) (by omega) (fun q hq => by have := hin q hq; omega) (fun i j i0 i1 ⟨q, hq, hj⟩ => by rw [o2 7 (by decide)]; have := hin q hq; exact hgb' i j i0 i1 (by omega) (by omega))) (fun v w hP => ?_)
        obtain ⟨rfl, s3, r3, hw, o3, B3, v3, k3⟩ := hP
        have K3 := kq_oth (kq_oth8 K1 o2') o3
        refine fi_step (pc' := 100) m_Mo_inverse rfl rfl ?_
        refine s_sipush (p := 103) m_Mo_inverse rfl rfl rfl ?_
        refine s_bipush (p := 105) m_Mo_inverse rfl rfl rfl ?_
        refine fi_step (pc' := 107) m_Mo_inverse rfl rfl ?_
        refine s_iadd (p := 108) m_Mo_inverse rfl rfl ?_
        refine g_3 (p := 111) m_Mo_inverse rfl inv_v (by decide) m_Mo_bigCopy rfl rfl (by omega) (by omega) (Nat.le_of_ble_eq_true rfl) (Nat.le_of_ble_eq_true rfl) (RW_rcv hw _) (c_bigCopy hw B3 (by omega) (by omega) (by omega) (by omega) (by omega)) (fun v w hP => ?_)
        obtain ⟨rfl, s4, hw, o4, B4⟩ := hP
        have K4 := kq_oth K3 o4
        have hv : r3 (36 + (2 ^ R - 1)) = mm (gm s m) (2 ^ R - 1) (2 ^ R - 1) := by
          rw [v3 _ (by omega) (by omega), if_pos (by omega), mnr_mm rfl q2, o2 7 (by decide)]
          exact mm_congr (R := R) (C := R) (by omega) (by omega) hgm' (by omega) (by omega) (by omega) (by omega)
        have mb : ∀ {y x : Int}, 0 ≤ y → y < 2 ^ R → 0 ≤ x → x < 2 ^ R → (els 6 y).length = (els 6 x).length → ((mm (gm s m) y x).natAbs : Int) ≤ MBND := by
          intro y x y0 y1 x0 x1 hl
          refine mm_bound (R := R) (C := R) (by omega) (by omega) (fun i j i0 i1 j0 j1 => ?_) y0 y1 x0 x1 hl
          rw [← hgm' i j i0 i1 j0 j1]; exact hgb' i j i0 i1 j0 j1
        obtain ⟨r4, B4, d4⟩ : ∃ r4, Bg s4 r4 ∧ r4 274 = mm (gm s m) (2 ^ R - 1) (2 ^ R - 1) := ⟨_, B4, by rw [up1_same]; exact hv⟩
        have db := mb (show (0 : Int) ≤ 2 ^ R - 1 by omega) (by omega) (show (0 : Int) ≤ 2 ^ R - 1 by omega) (by omega) rfl
        generalize hd : mm (gm s m) (2 ^ R - 1) (2 ^ R - 1) = d at d4 db
        refine fi_step (pc' := 112) m_Mo_inverse rfl rfl ?_
        refine s_sipush (p := 115) m_Mo_inverse rfl rfl rfl ?_
        refine c_2 (p := 118) m_Mo_inverse rfl inv_v (by decide) m_Mo_bigIsZero rfl rfl (by omega) (by omega) (Nat.le_of_ble_eq_true rfl) (Nat.le_of_ble_eq_true rfl) (RW_rcv hw _) (c_isZ hw B4 (by omega) (by omega)) ?_
        rw [d4]
        by_cases hz : d = 0
        · rw [if_pos hz]
          refine s_if_eq (p := 121) m_Mo_inverse rfl rfl (by omega) (by omega) (fun hbr => False.elim (by omega)) (fun hbr => ?_)
          refine fi_step (pc' := 122) m_Mo_inverse rfl rfl ?_
          refine p_reti m_Mo_inverse rfl rfl ?_
          exact Or.inr (Or.inr (Or.inr ⟨hm, hs, ⟨p0, p1, p2, p3⟩, d, _, by rw [hRt, hd], rfl, Or.inl ⟨hz, kq_pub K4 hw B4, rfl⟩⟩))
        · rw [if_neg hz]
          have o14 : ∀ a, a ≠ 1 → a ≠ 2 → a ≠ 3 → a ≠ 8 → s4 a = s1 a := fun a a1 a2 a3 a8 => by rw [o4 a a1 a2 a3, o3 a a1 a2 a3, o2 a a8]
          have hbi := allbit ⟨R, by omega⟩ ⟨i.toNat, by omega⟩ (by simp only; omega)
          have hbj := allbit ⟨R, by omega⟩ ⟨j.toNat, by omega⟩ (by simp only; omega)
          simp only at hbi hbj
          have hpi := pow_lt64 (show i.toNat < 6 by omega)
          have hpj := pow_lt64 (show j.toNat < 6 by omega)
          have eri := S_er (x := 2 ^ R - 1) (k := i.toNat) (by omega) (by omega) (by omega) hbi
          have erj := S_er (x := 2 ^ R - 1) (k := j.toNat) (by omega) (by omega) (by omega) hbj
          have lni : (els 6 (2 ^ R - 1 - 2 ^ i.toNat)).length = R - 1 := by rw [eri.1, List.length_erase_of_mem eri.2.2]; omega
          have lnj : (els 6 (2 ^ R - 1 - 2 ^ j.toNat)).length = R - 1 := by rw [erj.1, List.length_erase_of_mem erj.2.2]; omega
          have hcut := S_cut (x := 2 ^ R - 1 - 2 ^ i.toNat) (c := R) (by omega) (by omega) (by omega)
          refine s_if_eq (p := 121) m_Mo_inverse rfl rfl (by first | omega | assumption) (by first | omega | assumption) (fun hbr => ?_) (fun hbr => False.elim (by first | omega | assumption))
          refine fi_step (pc' := 124) m_Mo_inverse rfl rfl ?_
          refine fi_step (pc' := 125) m_Mo_inverse rfl rfl ?_
          refine fi_step (pc' := 127) m_Mo_inverse rfl rfl ?_
          refine fi_step (pc' := 128) m_Mo_inverse rfl rfl ?_
          refine fi_step (pc' := 129) m_Mo_inverse rfl rfl ?_
          refine b_ishl (p := 130) m_Mo_inverse rfl rfl (by first | omega | assumption) (by first | omega | assumption) ?_
          refine fi_step (pc' := 131) m_Mo_inverse rfl rfl ?_
          refine b_ixor (p := 132) m_Mo_inverse rfl rfl (by first | omega | assumption) (by first | omega | assumption) ?_
          refine b_andn (p := 133) m_Mo_inverse rfl rfl (by first | omega | assumption) (by first | omega | assumption) (by first | omega | assumption) (by first | omega | assumption) ?_
          refine g_2 (p := 136) m_Mo_inverse rfl inv_v (by decide) m_Mo_pick rfl rfl (by omega) (by omega) (Nat.le_of_ble_eq_true rfl) (Nat.le_of_ble_eq_true rfl) (RW_rcv hw _) (c_pick (c := R) hw (by omega) (by omega) (by rw [o14 0 (by decide) (by decide) (by decide) (by decide)]; omega) (by omega) (by rw [hcut]; omega)) (fun v w hP => ?_)
          obtain ⟨rfl, s5, hw, o5, q5⟩ := hP
          rw [hcut] at q5 ⊢
          have o5' : oth8 s4 s5 := fun a _ _ _ h8 => o5 a h8
          have B5 : Bg s5 r4 := Bg_congr B4 (o5 1 (by decide)) (o5 2 (by decide)) (o5 3 (by decide))
          have hin5 := pick_in (C := R) q5 hcut
          rw [lni] at hin5
          have e57 : s5 7 = s1 7 := by rw [o5 7 (by decide), o14 7 (by decide) (by decide) (by decide) (by decide)]
          rw [lni]
          refine g_2 (p := 139) m_Mo_inverse rfl inv_v (by decide) m_Mo_findMinors rfl rfl (by omega) (by omega) (Nat.le_of_ble_eq_true rfl) (Nat.le_of_ble_eq_true rfl) (RW_rcv hw _) (c_findMinors (n := R - 1) (R := R) (by omega) (by omega) hw B5 (by rw [o5 0 (by decide), o14 0 (by decide) (by decide) (by decide) (by decide), l1]; exact hR) (by omega) (by omega) (fun q hq => by have := hin5 q hq; omega) (fun i j i0 i1 ⟨q, hq, hj⟩ => by rw [e57]; have := hin5 q hq; exact hgb' i j i0 i1 (by omega) (by omega))) (fun v w hP => ?_)
          obtain ⟨rfl, s6, r6, hw, o6, B6, v6, k6⟩ := hP
          have K6 := kq_oth (kq_oth8 K4 o5') o6
          have hva : r6 (36 + (2 ^ R - 1 - 2 ^ j.toNat)) = mm (gm s m) (2 ^ R - 1 - 2 ^ j.toNat) (2 ^ R - 1 - 2 ^ i.toNat) := by
            rw [v6 _ (by omega) (by omega), if_pos (by omega), mnr_mm (lnj.trans lni.symm) q5, e57]
            exact mm_congr (R := R) (C := R) (by omega) (by omega) hgm' (by omega) (by omega) (by omega) (by omega)
          have ab := mb (show (0 : Int) ≤ 2 ^ R - 1 - 2 ^ j.toNat by omega) (by omega) (show (0 : Int) ≤ 2 ^ R - 1 - 2 ^ i.toNat by omega) (by omega) (lnj.trans lni.symm)
          refine fi_step (pc' := 140) m_Mo_inverse rfl rfl ?_
          refine s_sipush (p := 143) m_Mo_inverse rfl rfl rfl ?_
          refine s_bipush (p := 145) m_Mo_inverse rfl rfl rfl ?_
          refine fi_step (pc' := 147) m_Mo_inverse rfl rfl ?_
          refine fi_step (pc' := 148) m_Mo_inverse rfl rfl ?_
          refine fi_step (pc' := 149) m_Mo_inverse rfl rfl ?_
          refine b_ishl (p := 150) m_Mo_inverse rfl rfl (by first | omega | assumption) (by first | omega | assumption) ?_
          refine fi_step (pc' := 151) m_Mo_inverse rfl rfl ?_
          refine b_ixor (p := 152) m_Mo_inverse rfl rfl (by first | omega | assumption) (by first | omega | assumption) ?_
          refine b_andn (p := 153) m_Mo_inverse rfl rfl (by first | omega | assumption) (by first | omega | assumption) (by first | omega | assumption) (by first | omega | assumption) ?_
          refine s_iadd (p := 154) m_Mo_inverse rfl rfl ?_
          refine g_3 (p := 157) m_Mo_inverse rfl inv_v (by decide) m_Mo_bigCopy rfl rfl (by omega) (by omega) (Nat.le_of_ble_eq_true rfl) (Nat.le_of_ble_eq_true rfl) (RW_rcv hw _) (c_bigCopy hw B6 (by omega) (by omega) (by omega) (by omega) (by omega)) (fun v w hP => ?_)
          obtain ⟨rfl, s7, hw, o7, B7⟩ := hP
          have K7 := kq_oth K6 o7
          obtain ⟨r7, B7, a7, d7⟩ : ∃ r7, Bg s7 r7 ∧ r7 273 = mm (gm s m) (2 ^ R - 1 - 2 ^ j.toNat) (2 ^ R - 1 - 2 ^ i.toNat) ∧ r7 274 = d := ⟨_, B7, by rw [up1_same, hva], by rw [up1_ne _ (by decide), k6 274 (by omega) (by omega) (by omega), d4]⟩
          generalize ha : mm (gm s m) (2 ^ R - 1 - 2 ^ j.toNat) (2 ^ R - 1 - 2 ^ i.toNat) = a at a7 ab
          obtain ⟨_, _, sa, sa0, sa1⟩ := isN_abs (B7 273 (by omega) (by omega))
          obtain ⟨_, _, sd, sd0, sd1⟩ := isN_abs (B7 274 (by omega) (by omega))
          rw [a7] at sa0 sa1
          rw [d7] at sd0 sd1
          have tl : ∀ (t : Int), ((t = 1 ∧ (i + j) % 2 = 1) ∨ (t = 0 ∧ (i + j) % 2 ≠ 1)) → fin xs fr lo 179 171 [some (.ref 425), some (.int (jI m)), some (.int (jI i)), some (.int (jI j)), some (.int (jI (2 ^ R - 1))), none, none, none] [.int (jI t)] w (Ret fun u w' => (¬ (0 ≤ m ∧ m < 6) ∧ pub s w0 w' 1 none ∧ u = some (.int (jI 0))) ∨ ((0 ≤ m ∧ m < 6) ∧ s 5 m ≠ s 6 m ∧ pub s w0 w' 0 none ∧ u = some (.int (jI (-2)))) ∨ ((0 ≤ m ∧ m < 6) ∧ s 5 m = s 6 m ∧ ¬ (0 ≤ i ∧ i < s 5 m ∧ 0 ≤ j ∧ j < s 5 m) ∧ pub s w0 w' 0 none ∧ u = some (.int (jI (-1)))) ∨ ((0 ≤ m ∧ m < 6) ∧ s 5 m = s 6 m ∧ (0 ≤ i ∧ i < s 5 m ∧ 0 ≤ j ∧ j < s 5 m) ∧ ∃ d a, d = mm (gm s m) (2 ^ (s 5 m).toNat - 1) (2 ^ (s 5 m).toNat - 1) ∧ a = (if (i + j) % 2 = 1 then - mm (gm s m) (2 ^ (s 5 m).toNat - 1 - 2 ^ j.toNat) (2 ^ (s 5 m).toNat - 1 - 2 ^ i.toNat) else mm (gm s m) (2 ^ (s 5 m).toNat - 1 - 2 ^ j.toNat) (2 ^ (s 5 m).toNat - 1 - 2 ^ i.toNat)) ∧ ((d = 0 ∧ pub s w0 w' 0 none ∧ u = some (.int (jI (-1)))) ∨ (d ≠ 0 ∧ pub s w0 w' 0 (some (fracS (frN a d) a d)) ∧ u = some (.int (jI ((fracS (frN a d) a d).length : Nat))))))) := by
            intro t ht
            have fin1 : ∀ b : Int, b = frN (if (i + j) % 2 = 1 then -a else a) d → fin xs fr lo 179 217 [some (.ref 425), some (.int (jI m)), some (.int (jI i)), some (.int (jI j)), some (.int (jI (2 ^ R - 1))), some (.int (jI t)), none, none] [.int (jI b)] w (Ret fun u w' => pub s w0 w' 0 (some (fracS b a d)) ∧ u = some (.int (jI ((fracS b a d).length : Nat)))) := by
              intro b hb
              refine inv_tail (by omega) (by omega) hw B7 K7 a7 d7 hz (by rw [hb]; exact frN_b _ _) (fun e => ?_) ab db
              rw [hb] at e
              intro h0
              apply frN_nz e
              rw [h0]; split <;> rfl
            have fin2 : ∀ b : Int, b = frN (if (i + j) % 2 = 1 then -a else a) d → fin xs fr lo 179 217 [some (.ref 425), some (.int (jI m)), some (.int (jI i)), some (.int (jI j)), some (.int (jI (2 ^ R - 1))), some (.int (jI t)), none, none] [.int (jI b)] w (Ret fun u w' => (¬ (0 ≤ m ∧ m < 6) ∧ pub s w0 w' 1 none ∧ u = some (.int (jI 0))) ∨ ((0 ≤ m ∧ m < 6) ∧ s 5 m ≠ s 6 m ∧ pub s w0 w' 0 none ∧ u = some (.int (jI (-2)))) ∨ ((0 ≤ m ∧ m < 6) ∧ s 5 m = s 6 m ∧ ¬ (0 ≤ i ∧ i < s 5 m ∧ 0 ≤ j ∧ j < s 5 m) ∧ pub s w0 w' 0 none ∧ u = some (.int (jI (-1)))) ∨ ((0 ≤ m ∧ m < 6) ∧ s 5 m = s 6 m ∧ (0 ≤ i ∧ i < s 5 m ∧ 0 ≤ j ∧ j < s 5 m) ∧ ∃ d a, d = mm (gm s m) (2 ^ (s 5 m).toNat - 1) (2 ^ (s 5 m).toNat - 1) ∧ a = (if (i + j) % 2 = 1 then - mm (gm s m) (2 ^ (s 5 m).toNat - 1 - 2 ^ j.toNat) (2 ^ (s 5 m).toNat - 1 - 2 ^ i.toNat) else mm (gm s m) (2 ^ (s 5 m).toNat - 1 - 2 ^ j.toNat) (2 ^ (s 5 m).toNat - 1 - 2 ^ i.toNat)) ∧ ((d = 0 ∧ pub s w0 w' 0 none ∧ u = some (.int (jI (-1)))) ∨ (d ≠ 0 ∧ pub s w0 w' 0 (some (fracS (frN a d) a d)) ∧ u = some (.int (jI ((fracS (frN a d) a d).length : Nat))))))) := by
              intro b hb
              refine fi_mono (fin1 b hb) ?_
              rintro o w' ⟨v, rfl, h1, h2⟩
              refine ⟨v, rfl, Or.inr (Or.inr (Or.inr ⟨hm, hs, ⟨p0, p1, p2, p3⟩, d, if (i + j) % 2 = 1 then -a else a, by rw [hRt, hd], by rw [hRt, ha], Or.inr ⟨hz, ?_, ?_⟩⟩))⟩
              · have e : fracS (frN (if (i + j) % 2 = 1 then -a else a) d) (if (i + j) % 2 = 1 then -a else a) d = fracS b a d := by rw [← hb]; split; { exact fracS_neg b a d }; { rfl }
                rw [e]; exact h1
              · have e : fracS (frN (if (i + j) % 2 = 1 then -a else a) d) (if (i + j) % 2 = 1 then -a else a) d = fracS b a d := by rw [← hb]; split; { exact fracS_neg b a d }; { rfl }
                rw [e]; exact h2
            refine fi_step (pc' := 173) m_Mo_inverse rfl rfl ?_
            refine fi_step (pc' := 174) m_Mo_inverse rfl rfl ?_
            refine s_sipush (p := 177) m_Mo_inverse rfl rfl rfl ?_
            refine c_2 (p := 180) m_Mo_inverse rfl inv_v (by decide) m_Mo_bigSign rfl rfl (by omega) (by omega) (Nat.le_of_ble_eq_true rfl) (Nat.le_of_ble_eq_true rfl) (RW_rcv hw _) (c_bigSign hw B7 (by omega) (by omega)) ?_
            rw [a7]
            by_cases haz : a = 0
            · rw [if_pos haz]
              refine s_if_eq (p := 183) m_Mo_inverse rfl rfl (by omega) (by omega) (fun hbr => ?_) (fun hbr => False.elim (by omega))
              refine fi_step (pc' := 217) m_Mo_inverse rfl rfl ?_
              refine fin2 0 ?_
              unfold frN; rw [if_neg]; rintro ⟨h, _⟩; apply h; rw [haz]; split <;> rfl
            · rw [if_neg haz]
              have hsg : (if a < 0 then (-1 : Int) else 1) ≠ 0 ∧ -1 ≤ (if a < 0 then (-1 : Int) else 1) ∧ (if a < 0 then (-1 : Int) else 1) ≤ 1 := by split <;> decide
              generalize (if a < 0 then (-1 : Int) else 1) = sgn at hsg ⊢
              have key : ∀ b : Int, ((b = 1 ∧ ¬ (s7 3 273 = (if s7 3 274 = t then 0 else 1))) ∨ (b = 0 ∧ s7 3 273 = (if s7 3 274 = t then 0 else 1))) → b = frN (if (i + j) % 2 = 1 then -a else a) d := by
                intro b hb
                unfold frN
                split at hb <;> split <;> split <;> omega
              refine s_if_eq (p := 183) m_Mo_inverse rfl rfl (by omega) (by omega) (fun hbr => False.elim (by omega)) (fun hbr => ?_)
              refine fi_step (pc' := 184) m_Mo_inverse rfl rfl ?_
              refine r_get (p := 187) m_Mo_inverse rfl rfl (by assumption) rfl ?_
              refine s_sipush (p := 190) m_Mo_inverse rfl rfl rfl ?_
              refine r_ldB (p := 191) m_Mo_inverse rfl rfl (by assumption) (by decide) rfl (by decide) (by omega) (by omega) ?_
              refine fi_step (pc' := 192) m_Mo_inverse rfl rfl ?_
              refine r_get (p := 195) m_Mo_inverse rfl rfl (by assumption) rfl ?_
              refine s_sipush (p := 198) m_Mo_inverse rfl rfl rfl ?_
              refine r_ldB (p := 199) m_Mo_inverse rfl rfl (by assumption) (by decide) rfl (by decide) (by omega) (by omega) ?_
              refine fi_step (pc' := 201) m_Mo_inverse rfl rfl ?_
              refine s_ic_eq (p := 204) m_Mo_inverse rfl rfl (by omega) (by omega) (by omega) (by omega) (fun h1 => ?_) (fun h1 => ?_)
              · refine fi_step (pc' := 209) m_Mo_inverse rfl rfl ?_
                refine s_ic_eq (p := 212) m_Mo_inverse rfl rfl (by omega) (by omega) (by omega) (by omega) (fun h2 => ?_) (fun h2 => ?_)
                · refine fi_step (pc' := 217) m_Mo_inverse rfl rfl ?_
                  exact fin2 0 (key 0 (by rw [if_pos h1]; omega))
                · refine fi_step (pc' := 213) m_Mo_inverse rfl rfl ?_
                  refine fi_step (pc' := 217) m_Mo_inverse rfl rfl ?_
                  exact fin2 1 (key 1 (by rw [if_pos h1]; omega))
              · refine fi_step (pc' := 205) m_Mo_inverse rfl rfl ?_
                refine fi_step (pc' := 209) m_Mo_inverse rfl rfl ?_
                refine s_ic_eq (p := 212) m_Mo_inverse rfl rfl (by omega) (by omega) (by omega) (by omega) (fun h2 => ?_) (fun h2 => ?_)
                · refine fi_step (pc' := 217) m_Mo_inverse rfl rfl ?_
                  exact fin2 0 (key 0 (by rw [if_neg h1]; omega))
                · refine fi_step (pc' := 213) m_Mo_inverse rfl rfl ?_
                  refine fi_step (pc' := 217) m_Mo_inverse rfl rfl ?_
                  exact fin2 1 (key 1 (by rw [if_neg h1]; omega))
          refine fi_step (pc' := 158) m_Mo_inverse rfl rfl ?_
          refine fi_step (pc' := 159) m_Mo_inverse rfl rfl ?_
          refine s_iadd (p := 160) m_Mo_inverse rfl rfl ?_
          refine fi_step (pc' := 161) m_Mo_inverse rfl rfl ?_
          refine s_irem (p := 162) m_Mo_inverse rfl rfl (by omega) (by omega) (by omega) (by omega) ?_
          refine fi_step (pc' := 163) m_Mo_inverse rfl rfl ?_
          refine s_ic_ne (p := 166) m_Mo_inverse rfl rfl (by omega) (by omega) (by omega) (by omega) (fun ht => ?_) (fun ht => ?_)
          · refine fi_step (pc' := 171) m_Mo_inverse rfl rfl ?_
            exact tl 0 (by omega)
          · refine fi_step (pc' := 167) m_Mo_inverse rfl rfl ?_
            refine fi_step (pc' := 171) m_Mo_inverse rfl rfl ?_
            exact tl 1 (by omega)
      · refine fi_step (pc' := 45) m_Mo_inverse rfl rfl ?_
        refine s_if_lt (p := 48) m_Mo_inverse rfl rfl (by (first | omega | (rw [e5]; omega))) (by (first | omega | (rw [e5]; omega))) (fun h1 => ?_) (fun h1 => ?_)
        · exact no hp
        · refine fi_step (pc' := 49) m_Mo_inverse rfl rfl ?_
          refine fi_step (pc' := 50) m_Mo_inverse rfl rfl ?_
          refine r_get (p := 53) m_Mo_inverse rfl rfl (by assumption) rfl ?_
          refine fi_step (pc' := 54) m_Mo_inverse rfl rfl ?_
          refine r_ldI (p := 55) m_Mo_inverse rfl rfl (by assumption) (by decide) rfl (by decide) (by (first | omega | (rw [e5]; omega))) (by (first | omega | (rw [e5]; omega))) ?_
          refine s_ic_ge (p := 58) m_Mo_inverse rfl rfl (by (first | omega | (rw [e5]; omega))) (by (first | omega | (rw [e5]; omega))) (by (first | omega | (rw [e5]; omega))) (by (first | omega | (rw [e5]; omega))) (fun h2 => ?_) (fun h2 => ?_)
          · exact no hp
          · refine fi_step (pc' := 59) m_Mo_inverse rfl rfl ?_
            refine s_if_lt (p := 62) m_Mo_inverse rfl rfl (by (first | omega | (rw [e5]; omega))) (by (first | omega | (rw [e5]; omega))) (fun h3 => ?_) (fun h3 => ?_)
            · exact no hp
            · refine fi_step (pc' := 63) m_Mo_inverse rfl rfl ?_
              refine fi_step (pc' := 64) m_Mo_inverse rfl rfl ?_
              refine r_get (p := 67) m_Mo_inverse rfl rfl (by assumption) rfl ?_
              refine fi_step (pc' := 68) m_Mo_inverse rfl rfl ?_
              refine r_ldI (p := 69) m_Mo_inverse rfl rfl (by assumption) (by decide) rfl (by decide) (by (first | omega | (rw [e5]; omega) | (rw [e5] at *; omega))) (by (first | omega | (rw [e5]; omega) | (rw [e5] at *; omega))) ?_
              refine s_ic_lt (p := 72) m_Mo_inverse rfl rfl (by (first | omega | (rw [e5]; omega) | (rw [e5] at *; omega))) (by (first | omega | (rw [e5]; omega) | (rw [e5] at *; omega))) (by (first | omega | (rw [e5]; omega) | (rw [e5] at *; omega))) (by (first | omega | (rw [e5]; omega) | (rw [e5] at *; omega))) (fun hbr => False.elim (by (first | omega | (rw [e5]; omega) | (rw [e5] at *; omega)))) (fun hbr => ?_)
              exact no hp
    · rw [e5, e6] at hs
      refine s_bipush (p := 43) m_Mo_inverse rfl rfl rfl ?_
      refine p_reti m_Mo_inverse rfl rfl ?_
      exact Or.inr (Or.inl ⟨hm, hs, kq_pub K0 hw (Bg_up0 hB 0), rfl⟩)
  · rw [if_neg hm]
    have e0 : up s 0 0 1 0 0 = 1 := by rw [up_same, up1_same]
    refine s_if_eq (p := 9) m_Mo_inverse rfl rfl (by omega) (by omega) (fun hbr => ?_) (fun hbr => False.elim (by omega))
    refine fi_step (pc' := 14) m_Mo_inverse rfl rfl ?_
    refine r_put (p := 17) 0 m_Mo_inverse rfl rfl (by assumption) (r_put0 _ _) rfl (fun w hw => ?_)
    refine fi_step (pc' := 18) m_Mo_inverse rfl rfl ?_
    refine r_get (p := 21) m_Mo_inverse rfl rfl (by assumption) rfl ?_
    refine s_if_le (p := 24) m_Mo_inverse rfl rfl (by omega) (by omega) (fun hbr => False.elim (by omega)) (fun hbr => ?_)
    refine fi_step (pc' := 25) m_Mo_inverse rfl rfl ?_
    refine p_reti m_Mo_inverse rfl rfl ?_
    exact Or.inl ⟨hm, pub_no hw hB, rfl⟩
end PUB5
