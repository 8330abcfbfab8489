/-! THE REFERENCE: rank, determinant, divisor, factor -/
/-- what a call that makes no matrix comes to: thrown, and what is printed then (none: what was) -/
def pub (s : mo_S) (w0 w' : ax_W) (t : Int) (L : Option (List Int)) : Prop := ∃ s' r', RW w0 w' s' ∧ Bg s' r' ∧ keepM s s' ∧ s' 0 0 = t ∧ (match L with
  | none => s' 10 = s 10 ∧ s' 0 5 = s 0 5
  | some l => prn s' l)
/-- the numbers of matrix m, as they are looked at -/
def gm (s : mo_S) (m : Int) : Int → Int := fun x => s 4 (36 * m + 6 * (x / 12) + x % 12)
theorem gm_at (s : mo_S) (m : Int) {i j : Int} (j0 : 0 ≤ j) (j1 : j < 12) : gm s m (12 * i + j) = s 4 (36 * m + 6 * i + j) := by
  unfold gm; rw [show (12 * i + j) / 12 = i by omega, show (12 * i + j) % 12 = j by omega]
theorem detC_congr {row row' : Int → Vec} : ∀ {J : List Int} {L : List Int}, (∀ i, i ∈ L → ∀ j, j ∈ J → row i j = row' i j) → detC (L.map row) J = detC (L.map row') J
  | [], L, _ => by rw [detC, detC]
  | j :: J, L, h => by
    rw [detC_cons, detC_cons, picks_map, picks_map, asum_map, asum_map]
    refine asum_congr (fun p hp => ?_)
    have hm := picks_mem hp
    simp only
    rw [h p.1 hm.1 j (List.mem_cons_self ..), detC_congr (L := p.2) (fun i hi k hk => h i (hm.2 i hi) k (List.mem_cons_of_mem _ hk))]
theorem mm_congr {g h : Int → Int} {R C : Nat} (hR : R ≤ 6) (hC : C ≤ 6) (e : ∀ i j : Int, 0 ≤ i → i < R → 0 ≤ j → j < C → g (12 * i + j) = h (12 * i + j)) {y x : Int} (y0 : 0 ≤ y) (y1 : y < 2 ^ R) (x0 : 0 ≤ x) (x1 : x < 2 ^ C) : mm g y x = mm h y x := by
  unfold mm
  refine detC_congr (fun i hi j hj => ?_)
  rw [← S_cut y0 hR y1] at hi
  rw [← S_cut x0 hC x1] at hj
  exact e i j (els_mem hi).1 (els_mem hi).2 (els_mem hj).1 (els_mem hj).2
theorem isD_congr {g h : Int → Int} {R C k : Nat} (hR : R ≤ 6) (hC : C ≤ 6) (e : ∀ i j : Int, 0 ≤ i → i < R → 0 ≤ j → j < C → g (12 * i + j) = h (12 * i + j)) {G : Int} (hG : isD g R C k G) : isD h R C k G := by
  refine ⟨hG.1, fun d => ?_⟩
  rw [hG.2 d]
  constructor
  · intro q x y x0 x1 x2 y0 y1 y2; rw [← mm_congr hR hC e y0 y1 x0 x1]; exact q x y x0 x1 x2 y0 y1 y2
  · intro q x y x0 x1 x2 y0 y1 y2; rw [mm_congr hR hC e y0 y1 x0 x1]; exact q x y x0 x1 x2 y0 y1 y2
theorem isRank_congr {g h : Int → Int} {R C k : Nat} (hR : R ≤ 6) (hC : C ≤ 6) (e : ∀ i j : Int, 0 ≤ i → i < R → 0 ≤ j → j < C → g (12 * i + j) = h (12 * i + j)) (hG : isRank g R C k) : isRank h R C k := by
  refine ⟨hG.1, hG.2.1, ?_, fun q q0 q1 q2 x y x0 x1 x2 y0 y1 y2 => ?_⟩
  · rcases hG.2.2.1 with q | ⟨x, y, x0, x1, x2, y0, y1, y2, hm⟩
    · exact Or.inl q
    · exact Or.inr ⟨x, y, x0, x1, x2, y0, y1, y2, by rw [← mm_congr hR hC e y0 y1 x0 x1]; exact hm⟩
  · rw [← mm_congr hR hC e y0 y1 x0 x1]; exact hG.2.2.2 q q0 q1 q2 x y x0 x1 x2 y0 y1 y2
theorem mm_bound {g : Int → Int} {R C : Nat} (hR : R ≤ 6) (hC : C ≤ 6) (hg : ∀ i j : Int, 0 ≤ i → i < R → 0 ≤ j → j < C → ((g (12 * i + j)).natAbs : Int) ≤ 1000000000000000000) {y x : Int} (y0 : 0 ≤ y) (y1 : y < 2 ^ R) (x0 : 0 ≤ x) (x1 : x < 2 ^ C) (hl : (els 6 y).length = (els 6 x).length) : ((mm g y x).natAbs : Int) ≤ MBND := by
  have hln := els_len x 6
  unfold mm
  rw [detC_eq _ _ _ (by rw [List.length_map]) hl.symm]
  have := det_bound (b := 1000000000000000000) (by decide) (vs := (els 6 y).map (fun i j => g (12 * i + j))) (J := els 6 x) (by rw [List.length_map]; exact hl) (fun v hv j hj => by
    obtain ⟨i, hi, rfl⟩ := List.mem_map.mp hv
    rw [← S_cut y0 hR y1] at hi
    rw [← S_cut x0 hC x1] at hj
    exact hg i j (els_mem hi).1 (els_mem hi).2 (els_mem hj).1 (els_mem hj).2)
  have h6 := fac6 ⟨(els 6 x).length, by omega⟩
  simp only at h6
  unfold MBND
  omega
theorem isD_bound {g : Int → Int} {R C k : Nat} (hR : R ≤ 6) (hC : C ≤ 6) (hg : ∀ i j : Int, 0 ≤ i → i < R → 0 ≤ j → j < C → ((g (12 * i + j)).natAbs : Int) ≤ 1000000000000000000) {G : Int} (h : isD g R C k G) : G ≤ MBND := by
  by_cases hz : G = 0
  · rw [hz]; decide
  · refine Classical.byContradiction (fun hne => hz ((isD_zero h).mpr (fun x y x0 x1 x2 y0 y1 y2 => ?_)))
    refine Classical.byContradiction (fun hm => hne ?_)
    have hd := (h.2 G).mp (Int.dvd_refl G) x y x0 x1 x2 y0 y1 y2
    have hb := mm_bound hR hC hg y0 y1 x0 x1 (by omega)
    have := Nat.le_of_dvd (by omega) (Int.natAbs_dvd_natAbs.mpr hd)
    have := h.1
    omega
theorem MBND_120 : MBND < 10 ^ 120 := by decide
theorem lt_120 {v : Int} (h : (v.natAbs : Int) ≤ 64 * MBND) : v.natAbs < 10 ^ 120 := by
  have h1 : (64 * MBND : Int) < ((10 ^ 120 : Nat) : Int) := by decide
  exact Int.ofNat_lt.mp (Int.lt_of_le_of_lt h h1)
theorem els_all : ∀ c : Fin 7, els 6 (2 ^ (c : Nat) - 1) = els (c : Nat) (2 ^ (c : Nat) - 1) ∧ (els 6 (2 ^ (c : Nat) - 1)).length = (c : Nat) := by decide
theorem els_head : ∀ x : Fin 64, ∀ j : Int, ∀ J : List Int, els 6 ((x : Nat) : Int) = j :: J → J = els 6 (((x : Nat) : Int) - 2 ^ j.toNat) ∧ 2 ^ j.toNat ≤ ((x : Nat) : Int) := by
  have key : ∀ x : Fin 64, els 6 ((x : Nat) : Int) ≠ [] → (els 6 ((x : Nat) : Int)).tail = els 6 (((x : Nat) : Int) - 2 ^ ((els 6 ((x : Nat) : Int)).headD 0).toNat) ∧ 2 ^ ((els 6 ((x : Nat) : Int)).headD 0).toNat ≤ ((x : Nat) : Int) := by decide
  intro x j J h
  have := key x (by rw [h]; simp)
  rw [h] at this
  exact this
/-- with no minor of k rows there is none of k + 1 -/
theorem mm_none {g : Int → Int} {R C k : Nat} (hR : R ≤ 6) (hC : C ≤ 6) (h : ∀ x y, 0 ≤ x → x < 2 ^ C → (els 6 x).length = k → 0 ≤ y → y < 2 ^ R → (els 6 y).length = k → mm g y x = 0) :
    ∀ x y, 0 ≤ x → x < 2 ^ C → (els 6 x).length = k + 1 → 0 ≤ y → y < 2 ^ R → (els 6 y).length = k + 1 → mm g y x = 0 := by
  intro x y x0 x1 x2 y0 y1 y2
  have hC64 := S_pow hC
  have hR64 := S_pow hR
  obtain ⟨j, J, hJ⟩ : ∃ j J, els 6 x = j :: J := by
    cases he : els 6 x with
    | nil => rw [he] at x2; simp at x2
    | cons j J => exact ⟨j, J, rfl⟩
  obtain ⟨n, rfl⟩ := Int.eq_ofNat_of_zero_le x0
  have hh := els_head ⟨n, by omega⟩ j J hJ
  simp only at hh
  have hpos : (0 : Int) < 2 ^ j.toNat := Int.pow_pos (by decide)
  unfold mm
  rw [hJ, detC_nd (S_nd y0 (by omega)), asum_congr (g := fun _ => 0), asum_zero]
  intro i hi
  rw [← S_cut y0 hR y1] at hi
  have hm := els_mem hi
  obtain ⟨t, rfl⟩ := Int.eq_ofNat_of_zero_le hm.1
  have hbit : y / 2 ^ t % 2 = 1 := by
    have : ∀ n : Nat, (t : Int) ∈ els n y → y / 2 ^ t % 2 = 1 := by
      intro n
      induction n with
      | zero => intro h; simp [els] at h
      | succ n ih =>
        intro h
        rw [els] at h
        split at h
        · rename_i hb
          rcases List.mem_cons.mp h with e | e
          · have : t = n := by omega
            subst this; exact hb
          · exact ih e
        · exact ih h
    exact this R hi
  have he := S_er y0 (by omega) (show t < 6 by omega) hbit
  have h2 : (0 : Int) < 2 ^ t := Int.pow_pos (by decide)
  have := h ((n : Int) - 2 ^ j.toNat) (y - 2 ^ t) (by omega) (by omega) (by rw [← hh.1]; rw [hJ] at x2; simpa using x2) (by omega) (by omega) (by rw [he.1, List.length_erase_of_mem he.2.2]; omega)
  unfold mm at this
  rw [← hh.1, he.1] at this
  rw [this, Int.mul_zero]
section PUB
variable {xs : List Int32} {fr lo : Nat} {w0 : ax_W}
theorem look_ok {s s' : mo_S} {m : Int} (hM : MI s) (m0 : 0 ≤ m) (m1 : m < 6) (h7 : ∀ i j, 0 ≤ i → i < s 5 m → 0 ≤ j → j < s 6 m → s' 7 (12 * i + j) = s 4 (36 * m + 6 * i + j)) :
    (∀ i j : Int, 0 ≤ i → i < ((s 5 m).toNat : Nat) → 0 ≤ j → j < ((s 6 m).toNat : Nat) → s' 7 (12 * i + j) = gm s m (12 * i + j)) ∧ (∀ i j : Int, 0 ≤ i → i < ((s 5 m).toNat : Nat) → 0 ≤ j → j < ((s 6 m).toNat : Nat) → ((s' 7 (12 * i + j)).natAbs : Int) ≤ 1000000000000000000) := by
  have hr := hM.1 m m0 m1
  have hc := hM.2.1 m m0 m1
  refine ⟨fun i j i0 i1 j0 j1 => ?_, fun i j i0 i1 j0 j1 => ?_⟩
  · rw [h7 i j i0 (by omega) j0 (by omega), gm_at s m j0 (by omega)]
  · rw [h7 i j i0 (by omega) j0 (by omega)]
    have := hM.2.2 (36 * m + 6 * i + j) (by omega) (by omega)
    omega
theorem c_rank {m : Int} {w : ax_W} {s : mo_S} {r : Int → Int} (hfr : 6 ≤ fr) (hlo : 220 ≤ lo) (hw : RW w0 w s) (hM : MI s) (hB : Bg s r) (m0 : -2147483648 ≤ m) (m1 : m < 2147483648) :
    fin xs fr lo 143 0 (ax_ent [.ref 425, .int (jI m)] 2) [] w (Ret fun u w' => (¬ (0 ≤ m ∧ m < 6) ∧ pub s w0 w' 1 none ∧ u = some (.int (jI 0))) ∨ ((0 ≤ m ∧ m < 6) ∧ pub s w0 w' 0 none ∧ ∃ q : Nat, u = some (.int (jI q)) ∧ isRank (gm s m) (s 5 m).toNat (s 6 m).toNat q)) := by
  have B0 : ∀ t, Bg (up s 0 0 t) r := fun t => Bg_congr hB (up_ne _ (by decide) _ _) (up_ne _ (by decide) _ _) (up_ne _ (by decide) _ _)
  have K0 : ∀ t, keepM s (up s 0 0 t) := fun t => ⟨up_ne _ (by decide) _ _, up_ne _ (by decide) _ _, up_ne _ (by decide) _ _⟩
  refine fi_step (pc' := 1) m_Mo_rank rfl rfl ?_
  refine fi_step (pc' := 2) m_Mo_rank rfl rfl ?_
  refine fi_step (pc' := 3) m_Mo_rank rfl rfl ?_
  refine c_2 (p := 6) m_Mo_rank rfl inv_v (by decide) m_Mo_isMatrix rfl rfl (by omega) (by omega) (Nat.le_of_ble_eq_true rfl) (Nat.le_of_ble_eq_true rfl) (RW_rcv hw _) (c_isMatrix m0 m1) ?_
  by_cases hm : 0 ≤ m ∧ m < 6
  · rw [if_pos hm]
    have e0 : up s 0 0 0 0 0 = 0 := by rw [up_same, up1_same]
    have M0 := MI_congr hM (K0 0)
    have hr := hM.1 m hm.1 hm.2
    have hc := hM.2.1 m hm.1 hm.2
    refine s_if_eq (p := 9) m_Mo_rank rfl rfl (by omega) (by omega) (fun hbr => False.elim (by omega)) (fun hbr => ?_)
    refine fi_step (pc' := 10) m_Mo_rank rfl rfl ?_
    refine fi_step (pc' := 14) m_Mo_rank rfl rfl ?_
    refine r_put (p := 17) 0 m_Mo_rank rfl rfl (by assumption) (r_put0 _ _) rfl (fun w hw => ?_)
    refine fi_step (pc' := 18) m_Mo_rank rfl rfl ?_
    refine r_get (p := 21) m_Mo_rank rfl rfl (by assumption) rfl ?_
    refine s_if_le (p := 24) m_Mo_rank rfl rfl (by omega) (by omega) (fun hbr => ?_) (fun hbr => False.elim (by omega))
    refine fi_step (pc' := 27) m_Mo_rank rfl rfl ?_
    refine fi_step (pc' := 28) m_Mo_rank rfl rfl ?_
    refine g_2 (p := 31) m_Mo_rank rfl inv_v (by decide) m_Mo_lookAt rfl rfl (by omega) (by omega) (Nat.le_of_ble_eq_true rfl) (Nat.le_of_ble_eq_true rfl) (RW_rcv hw _) (c_lookAt (by omega) (by omega) hw M0 hm.1 hm.2) (fun v w hP => ?_)
    obtain ⟨rfl, s1, hw, kl, l1, l2, l7⟩ := hP
    rw [(K0 0).2.1, (K0 0).2.2, (K0 0).1] at l7
    rw [(K0 0).2.1] at l1
    rw [(K0 0).2.2] at l2
    obtain ⟨hgm, hgb⟩ := look_ok hM hm.1 hm.2 l7
    have B1 : Bg s1 r := Bg_congr (B0 0) (kl.1 1 (by decide) (by decide)) (kl.1 2 (by decide) (by decide)) (kl.1 3 (by decide) (by decide))
    refine fi_step (pc' := 32) m_Mo_rank rfl rfl ?_
    refine g_1 (p := 35) m_Mo_rank rfl inv_v (by decide) m_Mo_rankOf rfl rfl (by omega) (by omega) (Nat.le_of_ble_eq_true rfl) (Nat.le_of_ble_eq_true rfl) (RW_rcv hw _) (c_rankOf (R := (s 5 m).toNat) (C := (s 6 m).toNat) (by omega) (by omega) hw B1 (by omega) (by omega) (by omega) (by omega) hgb) (fun v w hP => ?_)
    obtain ⟨s2, r2, hw, o2, B2, q, rfl, hq⟩ := hP
    refine p_reti m_Mo_rank rfl rfl ?_
    refine Or.inr ⟨hm, ⟨s2, r2, hw, B2, ⟨?_, ?_, ?_⟩, ?_, ?_, ?_⟩, q, rfl, isRank_congr (by omega) (by omega) hgm hq⟩
    · rw [o2 4 (by decide) (by decide) (by decide) (by decide), kl.1 4 (by decide) (by decide), (K0 0).1]
    · rw [o2 5 (by decide) (by decide) (by decide) (by decide), kl.1 5 (by decide) (by decide), (K0 0).2.1]
    · rw [o2 6 (by decide) (by decide) (by decide) (by decide), kl.1 6 (by decide) (by decide), (K0 0).2.2]
    · rw [o2 0 (by decide) (by decide) (by decide) (by decide), kl.2 0 (by decide) (by decide)]; exact e0
    · rw [o2 10 (by decide) (by decide) (by decide) (by decide), kl.1 10 (by decide) (by decide), up_ne _ (by decide)]
    · rw [o2 0 (by decide) (by decide) (by decide) (by decide), kl.2 5 (by decide) (by decide), up_same, up1_ne _ (by decide)]
  · rw [if_neg hm]
    have e0 : up s 0 0 1 0 0 = 1 := by rw [up_same, up1_same]
    refine s_if_eq (p := 9) m_Mo_rank rfl rfl (by omega) (by omega) (fun hbr => ?_) (fun hbr => False.elim (by omega))
    refine fi_step (pc' := 14) m_Mo_rank rfl rfl ?_
    refine r_put (p := 17) 0 m_Mo_rank rfl rfl (by assumption) (r_put0 _ _) rfl (fun w hw => ?_)
    refine fi_step (pc' := 18) m_Mo_rank rfl rfl ?_
    refine r_get (p := 21) m_Mo_rank rfl rfl (by assumption) rfl ?_
    refine s_if_le (p := 24) m_Mo_rank rfl rfl (by omega) (by omega) (fun hbr => False.elim (by omega)) (fun hbr => ?_)
    refine fi_step (pc' := 25) m_Mo_rank rfl rfl ?_
    refine p_reti m_Mo_rank rfl rfl ?_
    exact Or.inl ⟨hm, ⟨_, r, hw, B0 1, K0 1, e0, up_ne _ (by decide) _ _, by rw [up_same, up1_ne _ (by decide)]⟩, rfl⟩
end PUB
