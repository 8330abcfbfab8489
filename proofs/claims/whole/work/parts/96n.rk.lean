/-! THE CLASS: inverse; the rank -/
theorem det_map_congr {f h : Int → Vec} : ∀ {ys J : List Int}, (∀ i, i ∈ ys → ∀ j, j ∈ J → f i j = h i j) → det (ys.map f) J = det (ys.map h) J
  | [], _, _ => rfl
  | y :: ys, J, e => by
    rw [List.map_cons, List.map_cons, det_cons, det_cons]
    refine asum_congr (fun p hp => ?_)
    have hm := picks_mem hp
    rw [e y (List.mem_cons_self ..) p.1 hm.1, det_map_congr (ys := ys) (J := p.2) (fun i hi j hj => e i (List.mem_cons_of_mem _ hi) j (hm.2 j hj))]
theorem det_scale {D : Int} : ∀ {vs : List Vec} {J : List Int}, det (vs.map (fun v j => D * v j)) J = D ^ vs.length * det vs J
  | [], J => by simp [det]
  | v :: vs, J => by
    rw [List.map_cons, det_cons, det_cons, List.length_cons, ← asum_mul]
    refine asum_congr (fun p hp => ?_)
    rw [det_scale, Int.pow_succ]
    grind
theorem det_zero_col {vs : List Vec} {j : Int} {J : List Int} (hl : vs.length = J.length + 1) (h : ∀ v, v ∈ vs → v j = 0) : det vs (j :: J) = 0 := by
  rw [← detC_eq _ vs _ rfl (by simp; omega), detC_cons, asum_congr (g := fun _ => 0) (fun p hp => by rw [h p.1 (picks_mem hp).1]; simp), asum_zero]
/-- with these rows independent and every row dependent on them, larger minors are 0 -/
theorem rank_dep {g : Int → Int} {R C : Nat} (hR : R ≤ 6) (hC : C ≤ 6) {y x : Int} (y0 : 0 ≤ y) (y1 : y < 2 ^ R) (x0 : 0 ≤ x) (x1 : x < 2 ^ C) (hl : (els 6 x).length = (els 6 y).length) (hD : dY g (els 6 y) x ≠ 0)
    (hd : ∀ i : Int, 0 ≤ i → i < R → ∀ x', 0 ≤ x' → x' < 2 ^ C → (els 6 x').length = (els 6 y).length + 1 → dY g (i :: els 6 y) x' = 0) :
    ∀ x' y', 0 ≤ x' → x' < 2 ^ C → 0 ≤ y' → y' < 2 ^ R → (els 6 x').length = (els 6 y').length → (els 6 y).length < (els 6 y').length → mm g y' x' = 0 := by
  have hC64 := S_pow hC
  have hR64 := S_pow hR
  have hcol : ∀ x', 0 ≤ x' → x' < 2 ^ C → ∀ j, j ∈ els 6 x' → 0 ≤ j ∧ j < C := fun x' a b j hj => by rw [← S_cut a hC b] at hj; exact els_mem hj
  have hrow : ∀ y', 0 ≤ y' → y' < 2 ^ R → ∀ i, i ∈ els 6 y' → 0 ≤ i ∧ i < R := fun y' a b i hi => by rw [← S_cut a hR b] at hi; exact els_mem hi
  have tcong : ∀ (ys : List Int) (J : List Int), (∀ j, j ∈ J → 0 ≤ j ∧ j < C) → det (ys.map (rwg g C)) J = det (ys.map (fun i j => g (12 * i + j))) J := fun ys J hJ => det_map_congr (fun i hi j hj => by unfold rwg; rw [tr_in (hJ j hj).1 (hJ j hj).2])
  have hzero : ∀ i : Int, 0 ≤ i → i < R → ∀ j, det (rwg g C i :: (els 6 y).map (rwg g C)) (j :: els 6 x) = 0 := by
    intro i i0 i1 j
    by_cases hj : 0 ≤ j ∧ j < C
    · by_cases hm : j ∈ els 6 x
      · exact det_col_same (by simp; omega) hm
      · obtain ⟨t, rfl⟩ := Int.eq_ofNat_of_zero_le hj.1
        have hp := S_add ⟨x.toNat, by omega⟩ ⟨t, by omega⟩ (by simp only [Int.toNat_of_nonneg x0]; exact hm)
        have hlt := S_lt ⟨C, by omega⟩ ⟨x.toNat, by omega⟩ ⟨t, by omega⟩ (by simp only; omega) (by simp only [Int.toNat_of_nonneg x0]; exact x1) (by simp only [Int.toNat_of_nonneg x0]; exact hm)
        simp only [Int.toNat_of_nonneg x0] at hp hlt
        have hperm := List.isPerm_iff.mp hp
        obtain ⟨e, he, hdet⟩ := detC_perm hperm
        have hlen := hperm.length_eq
        rw [List.length_cons] at hlen
        have h2 : (0 : Int) ≤ 2 ^ t := Int.le_of_lt (Int.pow_pos (by decide))
        have h3 := hd i i0 i1 (x + 2 ^ t) (by omega) hlt (by omega)
        have e1 := hdet (rwg g C i :: (els 6 y).map (rwg g C))
        rw [detC_eq _ _ _ rfl (by simp; omega), detC_eq _ _ _ rfl (by simp; omega)] at e1
        have e2 := tcong (i :: els 6 y) (els 6 (x + 2 ^ t)) (hcol _ (by omega) hlt)
        rw [List.map_cons] at e2
        rw [e2] at e1
        unfold dY at h3
        rw [h3] at e1
        rcases he with he | he
        · rw [he] at e1; omega
        · rw [he] at e1; omega
    · refine det_zero_col (by simp; omega) (fun v hv => ?_)
      rcases List.mem_cons.mp hv with e | e
      · subst e; unfold rwg; exact tr_out hj
      · obtain ⟨i', _, rfl⟩ := List.mem_map.mp e
        unfold rwg; exact tr_out hj
  obtain ⟨D, hDe⟩ : ∃ D, D = dY g (els 6 y) x := ⟨_, rfl⟩
  have hB : det ((els 6 y).map (rwg g C)) (els 6 x) = D := by rw [tcong _ _ (hcol x x0 x1), hDe]; rfl
  have hsp : ∀ i : Int, 0 ≤ i → i < R → sp ((els 6 y).map (rwg g C)) (fun j => D * rwg g C i j) := by
    intro i i0 i1
    have hrel : ∀ j, asum (fun q : Int × List Int => det ((els 6 y).map (rwg g C)) (j :: q.2) * rwg g C i q.1) (picks (els 6 x)) = D * rwg g C i j := by
      intro j
      have h := hzero i i0 i1 j
      rw [det_cons, asum_picks_cons] at h
      simp only at h
      rw [hB] at h
      rw [asum_congr (g := fun q : Int × List Int => rwg g C i q.1 * det ((els 6 y).map (rwg g C)) (j :: q.2)) (fun q hq => Int.mul_comm _ _)]
      have hcm : D * rwg g C i j = rwg g C i j * D := Int.mul_comm _ _
      omega
    refine sp_ext (sp_asum (fun (q : Int × List Int) (j : Int) => det ((els 6 y).map (rwg g C)) (j :: q.2)) (fun q => rwg g C i q.1) (ps := picks (els 6 x)) (fun q hq => ?_)) hrel
    have hq2 := picks_len hq
    refine sp_ext (sp_asum (fun (p : Vec × List Vec) => p.1) (fun p => detC p.2 q.2) (ps := picks ((els 6 y).map (rwg g C))) (fun p hp => sp_mem (picks_mem hp).1)) (fun j => ?_)
    rw [← detC_eq _ _ _ rfl (by simp; omega), detC_cons]
  intro x' y' a1 a2 b1 b2 hle hlt
  have hz := det_more (A := (els 6 y).map (rwg g C)) (vs := ((els 6 y').map (rwg g C)).map (fun v j => D * v j)) (J := els 6 x') (fun v hv => by
    obtain ⟨u, hu, rfl⟩ := List.mem_map.mp hv
    obtain ⟨i, hi, rfl⟩ := List.mem_map.mp hu
    exact hsp i (hrow y' b1 b2 i hi).1 (hrow y' b1 b2 i hi).2) (by simp; exact hlt)
  rw [det_scale] at hz
  have hD0 : D ^ ((els 6 y').map (rwg g C)).length ≠ 0 := by
    intro h
    have : D = 0 := by
      refine Classical.byContradiction (fun hne => ?_)
      exact absurd h (Int.pow_ne_zero hne)
    exact hD (by rw [← hDe, this])
  have hfin : det ((els 6 y').map (rwg g C)) (els 6 x') = 0 := by
    rcases Int.mul_eq_zero.mp hz with h | h
    · exact absurd h hD0
    · exact h
  rw [mm_dY hle.symm]
  unfold dY
  rw [← tcong _ _ (hcol x' a1 a2)]
  exact hfin
theorem els_new : ∀ (t : Fin 6) (y : Fin 64), ((y : Nat) : Int) < 2 ^ (t : Nat) → els 6 (((y : Nat) : Int) + 2 ^ (t : Nat)) = ((t : Nat) : Int) :: els 6 ((y : Nat) : Int) ∧ ((y : Nat) : Int) + 2 ^ (t : Nat) < 2 ^ ((t : Nat) + 1) := by decide
theorem p2_le {a b : Nat} (h : a ≤ b) (hb : b ≤ 6) : (2 : Int) ^ a ≤ 2 ^ b := by
  have : ∀ (a b : Fin 7), (a : Nat) ≤ (b : Nat) → (2 : Int) ^ (a : Nat) ≤ 2 ^ (b : Nat) := by decide
  exact this ⟨a, by omega⟩ ⟨b, by omega⟩ h
section IR
variable {xs : List Int32} {fr lo : Nat} {w0 w : ax_W} {s : mo_S} {v : Nat → Int} {L Z : Nat}
theorem ir_loop {R C : Nat} {g : Int → Int} {E : Int} {e : Nat} {v0 : Nat → Int} (hfr : 5 ≤ fr) (hlo : 280 ≤ lo) (h1 : s 0 1 = R) (h2 : s 0 2 = C) (hR6 : R ≤ 6) (hC6 : C ≤ 6) (hN : NG v0 g R C E e) :
    ∀ (n t : Nat) (y : Int) (w : ax_W) (v : Nat → Int), t + n = R → 0 ≤ y → y < 2 ^ t → (els 6 y).length ≤ C → CW w0 w s v L Z → kpm v0 v →
    (∀ x, 0 ≤ x → x < 64 → subE x (2 ^ C - 1) → (els 6 x).length = (els 6 y).length → v (104 + 2 * x.toNat) = dY g (els 6 y) x) →
    (∃ x, 0 ≤ x ∧ x < 2 ^ C ∧ (els 6 x).length = (els 6 y).length ∧ dY g (els 6 y) x ≠ 0) →
    (∀ i : Int, 0 ≤ i → i < t → ∀ x, 0 ≤ x → x < 2 ^ C → (els 6 x).length = (els 6 y).length + 1 → dY g (i :: els 6 y) x = 0) →
    fin xs fr lo 49 12 [some (.ref 29), some (.int (jI (2 ^ C - 1))), some (.int (jI ((els 6 y).length : Nat))), some (.int (jI (t : Int)))] [] w (Ret fun u w' => ∃ (q : Nat) (v' : Nat → Int), u = some (.int (jI q)) ∧ isRank g R C q ∧ CW w0 w' s v' L Z ∧ kpm v0 v') := by
  have hC64 := S_pow hC6
  have hR64 := S_pow hR6
  intro n
  induction n with
  | zero =>
    intro t y w v ht y0 y1 hk hC hkp hval hnz hdep
    obtain rfl : t = R := by omega
    have hlt : (els 6 y).length ≤ t := by rw [← S_cut y0 hR6 y1]; exact els_len y t
    refine fi_step (pc' := 13) m_Mi_independentRows rfl rfl ?_
    refine fi_step (pc' := 14) m_Mi_independentRows rfl rfl ?_
    refine k_get (p := 17) m_Mi_independentRows rfl rfl (by first | exact C_print hC | exact C_minors hC | exact C_stairs hC | exact (CW_cst hC).2.1 | exact C_mat hC (by omega) | assumption) rfl ?_
    refine s_ic_ge (p := 20) m_Mi_independentRows rfl rfl (by omega) (by omega) (by omega) (by omega) (fun hbr => ?_) (fun hbr => False.elim (by omega))
    refine fi_step (pc' := 57) m_Mi_independentRows rfl rfl ?_
    refine p_reti m_Mi_independentRows rfl rfl ?_
    refine ⟨(els 6 y).length, v, rfl, ⟨hlt, hk, ?_, fun q hq _ _ x' y' a1 a2 a3 b1 b2 b3 => ?_⟩, hC, hkp⟩
    · obtain ⟨x, a1, a2, a3, a4⟩ := hnz
      exact Or.inr ⟨x, y, a1, a2, a3, y0, y1, rfl, by rw [mm_dY a3.symm]; exact a4⟩
    · obtain ⟨x, c1, c2, c3, c4⟩ := hnz
      exact rank_dep hR6 hC6 y0 y1 c1 c2 c3 c4 hdep x' y' a1 a2 b1 b2 (by omega) (by omega)
  | succ n ih =>
    intro t y w v ht y0 y1 hk hC hkp hval hnz hdep
    have hpt := S_pow (show t ≤ 6 by omega)
    have yR : y < 2 ^ R := Int.lt_of_lt_of_le y1 (p2_le (by omega) (by omega))
    have hlt : (els 6 y).length ≤ t := by rw [← S_cut y0 (show t ≤ 6 by omega) y1]; exact els_len y t
    by_cases hkC : (els 6 y).length < C
    · refine fi_step (pc' := 13) m_Mi_independentRows rfl rfl ?_
      refine fi_step (pc' := 14) m_Mi_independentRows rfl rfl ?_
      refine k_get (p := 17) m_Mi_independentRows rfl rfl (by first | exact C_print hC | exact C_minors hC | exact C_stairs hC | exact (CW_cst hC).2.1 | exact C_mat hC (by omega) | assumption) rfl ?_
      refine s_ic_ge (p := 20) m_Mi_independentRows rfl rfl (by omega) (by omega) (by omega) (by omega) (fun hbr => False.elim (by omega)) (fun hbr => ?_)
      refine fi_step (pc' := 21) m_Mi_independentRows rfl rfl ?_
      refine fi_step (pc' := 22) m_Mi_independentRows rfl rfl ?_
      refine k_get (p := 25) m_Mi_independentRows rfl rfl (by first | exact C_print hC | exact C_minors hC | exact C_stairs hC | exact (CW_cst hC).2.1 | exact C_mat hC (by omega) | assumption) rfl ?_
      refine s_ic_ge (p := 28) m_Mi_independentRows rfl rfl (by omega) (by omega) (by omega) (by omega) (fun hbr => False.elim (by omega)) (fun hbr => ?_)
      refine fi_step (pc' := 29) m_Mi_independentRows rfl rfl ?_
      refine fi_step (pc' := 30) m_Mi_independentRows rfl rfl ?_
      refine fi_step (pc' := 31) m_Mi_independentRows rfl rfl ?_
      refine fi_step (pc' := 32) m_Mi_independentRows rfl rfl ?_
      refine s_iadd (p := 33) m_Mi_independentRows rfl rfl ?_
      refine fi_step (pc' := 34) m_Mi_independentRows rfl rfl ?_
      have hh := mi_takeRow (xs := xs) (fr := fr - 1) (lo := lo - 27) (r := t) (z := (els 6 y).length) (ys := els 6 y) (within := 2 ^ C - 1) hC (by omega) (by omega) h2 hC6 hR6 (by omega) (by omega) (by omega) (NG_keep hN hR6 hC6 (fun c hc => kpm_low hkp (Or.inl (by omega)))) (by omega) rfl (fun i hi => by rw [← S_cut y0 (show t ≤ 6 by omega) y1] at hi; have := els_mem hi; omega) hval
      rw [show (((els 6 y).length + 1 : Nat) : Int) = ((els 6 y).length : Int) + 1 by omega] at hh
      refine g_4 (p := 37) m_Mi_independentRows rfl inv_v (by decide) m_Mi_takeRow rfl rfl (by omega) (by omega) (Nat.le_of_ble_eq_true rfl) (Nat.le_of_ble_eq_true rfl) (C_rcvI hC _) hh (fun v w hP => ?_)
      obtain ⟨rfl, v1, hC, hv1, hr1⟩ := hP
      have kp1 : kpm v v1 := fun c hc => hr1 c (fun y' a b hl => hc y' (els_pos (n := 6) (by omega) a) (by omega))
      refine fi_step (pc' := 38) m_Mi_independentRows rfl rfl ?_
      refine fi_step (pc' := 39) m_Mi_independentRows rfl rfl ?_
      refine fi_step (pc' := 40) m_Mi_independentRows rfl rfl ?_
      refine s_iadd (p := 41) m_Mi_independentRows rfl rfl ?_
      refine g_2 (p := 44) m_Mi_independentRows rfl inv_v (by decide) m_Mi_hasMinor rfl rfl (by omega) (by omega) (Nat.le_of_ble_eq_true rfl) (Nat.le_of_ble_eq_true rfl) (C_rcvI hC _) (mi_hasMinor hC (by omega) (by omega) h2 hC6 (by omega) (by omega)) (fun v w hP => ?_)
      obtain ⟨rfl, hP | hP⟩ := hP
      · obtain ⟨rfl, x, a1, a2, a3, a4⟩ := hP
        have hnew := els_new ⟨t, by omega⟩ ⟨y.toNat, by omega⟩ (by simp only [Int.toNat_of_nonneg y0]; exact y1)
        simp only [Int.toNat_of_nonneg y0] at hnew
        have hx' := hv1 x (by omega) (by omega) (sub_every (by omega) hC6 a2) (by omega)
        refine s_if_eq (p := 47) m_Mi_independentRows rfl rfl (by omega) (by omega) (fun hbr => False.elim (by omega)) (fun hbr => ?_)
        refine s_iinc (p := 50) m_Mi_independentRows rfl rfl rfl ?_
        refine s_iinc (p := 53) m_Mi_independentRows rfl rfl rfl ?_
        refine fi_step (pc' := 12) m_Mi_independentRows rfl rfl ?_
        have hih := ih (t + 1) (y + 2 ^ t) w v1 (by omega) (by omega) hnew.2 (by rw [hnew.1, List.length_cons]; omega) hC (kpm_trans hkp kp1) (fun x' b0 b1 b2 b3 => by
          rw [hnew.1, List.length_cons] at b3
          rw [hnew.1]
          exact hv1 x' b0 (sub_le b0 b1 (by omega) (by omega) b2) b2 b3) ⟨x, by omega, a2, by rw [hnew.1, List.length_cons]; omega, by rw [hnew.1, ← hx']; exact a4⟩ (fun i i0 i1 x' b0 b1 b2 => by
          rw [hnew.1, List.length_cons] at b2
          rw [hnew.1]
          by_cases hi : i = t
          · subst hi
            unfold dY
            rw [List.map_cons, List.map_cons]
            exact det_same (List.mem_cons_self ..)
          · have hsw : dY g (i :: (t : Int) :: els 6 y) x' = - dY g ((t : Int) :: i :: els 6 y) x' := by
              unfold dY
              rw [List.map_cons, List.map_cons, List.map_cons, List.map_cons]
              exact det_swap _ _ _ _
            rw [hsw, dY_cons b0 (by omega), asum_congr (g := fun _ => 0) (fun j hj => ?_), asum_zero]
            · rfl
            · have hm := els_mem hj
              obtain ⟨q, rfl⟩ := Int.eq_ofNat_of_zero_le hm.1
              have hE := S_er b0 (by omega) (show q < 6 by omega) (bit_mem 6 hj)
              have hl2 : (els 6 (x' - 2 ^ q)).length = (els 6 y).length + 1 := by rw [hE.1, List.length_erase_of_mem hE.2.2]; omega
              have hq0 : (0 : Int) ≤ 2 ^ q := Int.le_of_lt (Int.pow_pos (by decide))
              rw [Int.toNat_natCast, hdep i i0 (by omega) (x' - 2 ^ q) (by omega) (by omega) hl2]
              simp)
        rw [hnew.1, List.length_cons, show (((els 6 y).length + 1 : Nat) : Int) = ((els 6 y).length : Int) + 1 by omega] at hih
        exact hih
      · obtain ⟨rfl, hno⟩ := hP
        refine s_if_eq (p := 47) m_Mi_independentRows rfl rfl (by omega) (by omega) (fun hbr => ?_) (fun hbr => False.elim (by omega))
        refine s_iinc (p := 53) m_Mi_independentRows rfl rfl rfl ?_
        refine fi_step (pc' := 12) m_Mi_independentRows rfl rfl ?_
        refine ih (t + 1) y w v1 (by omega) y0 (by rw [Int.pow_succ]; omega) hk hC (kpm_trans hkp kp1) (fun x' b0 b1 b2 b3 => ?_) hnz (fun i i0 i1 x' b0 b1 b2 => ?_)
        · rw [hr1 _ (fun y' c0 c1 c2 => by
            intro e
            have : x' = y' := by omega
            subst this; omega)]
          exact hval x' b0 b1 b2 b3
        · by_cases hi : i = t
          · subst hi
            rw [← hv1 x' b0 (by omega) (sub_every b0 hC6 b1) b2]
            exact hno x' (els_pos (n := 6) (by omega) b0) b1 (by omega)
          · exact hdep i i0 (by omega) x' b0 b1 b2
    · refine fi_step (pc' := 13) m_Mi_independentRows rfl rfl ?_
      refine fi_step (pc' := 14) m_Mi_independentRows rfl rfl ?_
      refine k_get (p := 17) m_Mi_independentRows rfl rfl (by first | exact C_print hC | exact C_minors hC | exact C_stairs hC | exact (CW_cst hC).2.1 | exact C_mat hC (by omega) | assumption) rfl ?_
      refine s_ic_ge (p := 20) m_Mi_independentRows rfl rfl (by omega) (by omega) (by omega) (by omega) (fun hbr => False.elim (by omega)) (fun hbr => ?_)
      refine fi_step (pc' := 21) m_Mi_independentRows rfl rfl ?_
      refine fi_step (pc' := 22) m_Mi_independentRows rfl rfl ?_
      refine k_get (p := 25) m_Mi_independentRows rfl rfl (by first | exact C_print hC | exact C_minors hC | exact C_stairs hC | exact (CW_cst hC).2.1 | exact C_mat hC (by omega) | assumption) rfl ?_
      refine s_ic_ge (p := 28) m_Mi_independentRows rfl rfl (by omega) (by omega) (by omega) (by omega) (fun hbr => ?_) (fun hbr => False.elim (by omega))
      refine fi_step (pc' := 57) m_Mi_independentRows rfl rfl ?_
      refine p_reti m_Mi_independentRows rfl rfl ?_
      refine ⟨(els 6 y).length, v, rfl, ⟨by omega, hk, ?_, fun q hq _ hqC => by omega⟩, hC, hkp⟩
      obtain ⟨x, a1, a2, a3, a4⟩ := hnz
      exact Or.inr ⟨x, y, a1, a2, a3, y0, yR, rfl, by rw [mm_dY a3.symm]; exact a4⟩
theorem mi_independentRows {R C : Nat} {g : Int → Int} {E : Int} {e : Nat} (hC : CW w0 w s v L Z) (hfr : 5 ≤ fr) (hlo : 280 ≤ lo) (h1 : s 0 1 = R) (h2 : s 0 2 = C) (hR6 : R ≤ 6) (hC6 : C ≤ 6) (hN : NG v g R C E e) (h104 : v 104 = 1) :
    fin xs fr lo 49 0 (ax_ent [.ref 29] 4) [] w (Ret fun u w' => ∃ (q : Nat) (v' : Nat → Int), u = some (.int (jI q)) ∧ isRank g R C q ∧ CW w0 w' s v' L Z ∧ kpm v v') := by
  have hC64 := S_pow hC6
  have z1 : ∀ x : Int, 0 ≤ x → x < 64 → (els 6 x).length = 0 → x = 0 := by
    intro x a b hl
    refine Classical.byContradiction (fun hne => ?_)
    have : ∀ y : Fin 64, (y : Nat) ≠ 0 → (els 6 ((y : Nat) : Int)).length ≠ 0 := by decide
    have h3 := this ⟨x.toNat, by omega⟩ (by simp only; omega)
    simp only [Int.toNat_of_nonneg a] at h3
    exact h3 hl
  refine fi_step (pc' := 1) m_Mi_independentRows rfl rfl ?_
  refine k_get (p := 4) m_Mi_independentRows rfl rfl (by first | exact C_print hC | exact C_minors hC | exact C_stairs hC | exact (CW_cst hC).2.1 | exact C_mat hC (by omega) | assumption) rfl ?_
  rw [h2]
  refine c_1 (p := 7) m_Mi_independentRows rfl inv_s (by decide) m_De_all rfl rfl (by omega) (by omega) (Nat.le_of_ble_eq_true rfl) (Nat.le_of_ble_eq_true rfl) rfl (de_all hC6) ?_
  refine fi_step (pc' := 8) m_Mi_independentRows rfl rfl ?_
  refine fi_step (pc' := 9) m_Mi_independentRows rfl rfl ?_
  refine fi_step (pc' := 10) m_Mi_independentRows rfl rfl ?_
  refine fi_step (pc' := 11) m_Mi_independentRows rfl rfl ?_
  refine fi_step (pc' := 12) m_Mi_independentRows rfl rfl ?_
  refine ir_loop hfr hlo h1 h2 hR6 hC6 hN R 0 0 w v (by omega) (by omega) (by decide) (Nat.zero_le _) hC (fun _ _ => rfl) (fun x a b _ hl => ?_) ⟨0, by omega, by omega, rfl, by show (1 : Int) ≠ 0; decide⟩ (fun i i0 i1 => by omega)
  obtain rfl := z1 x a b hl
  exact h104
theorem de_rank {m : Nat} (hC : CW w0 w s v L Z) (hok : okC s v) (hm : m < 6) (hfr : 8 ≤ fr) (hlo : 400 ≤ lo) :
    fin xs fr lo 47 0 (ax_ent [.ref 0, .int (jI (m : Int))] 2) [] w (Ret fun u w' => ∃ q : Nat, isRank (gm (rf s) m) (s 2 m).toNat (s 3 m).toNat q ∧ sameC w0 s v L Z q u w') := by
  have dm := rf_dim hok.1 hm
  obtain ⟨d1, d2, d3, d4⟩ := dm
  refine fi_step (pc' := 1) m_De_rank rfl rfl ?_
  refine k_get (p := 4) m_De_rank rfl rfl (by first | exact C_print hC | exact C_minors hC | exact C_stairs hC | exact (CW_cst hC).2.1 | exact C_mat hC (by omega) | assumption) rfl ?_
  refine fi_step (pc' := 5) m_De_rank rfl rfl ?_
  refine fi_step (pc' := 6) m_De_rank rfl rfl ?_
  refine c_2 (p := 9) m_De_rank rfl inv_v (by decide) m_De_matrix rfl rfl (by omega) (by omega) (Nat.le_of_ble_eq_true rfl) (Nat.le_of_ble_eq_true rfl) (C_rcvD hC _) (de_matrix hC hm) ?_
  refine g_2 (p := 12) m_De_rank rfl inv_v (by decide) m_Mi_read rfl rfl (by omega) (by omega) (Nat.le_of_ble_eq_true rfl) (Nat.le_of_ble_eq_true rfl) (C_rcvI hC _) (mi_read hC hok hm (by omega) (by omega)) (fun v w hP => ?_)
  obtain ⟨rfl, v1, hC, k1, N1⟩ := hP
  have o1 := okC_lk (R := s 2 m) (C := s 3 m) hok (k1 27 (by omega)) (k1 104 (by omega))
  refine fi_step (pc' := 13) m_De_rank rfl rfl ?_
  refine k_get (p := 16) m_De_rank rfl rfl (by first | exact C_print hC | exact C_minors hC | exact C_stairs hC | exact (CW_cst hC).2.1 | exact C_mat hC (by omega) | assumption) rfl ?_
  refine g_1 (p := 19) m_De_rank rfl inv_v (by decide) m_Mi_independentRows rfl rfl (by omega) (by omega) (Nat.le_of_ble_eq_true rfl) (Nat.le_of_ble_eq_true rfl) (C_rcvI hC _) (mi_independentRows (R := (s 2 m).toNat) (C := (s 3 m).toNat) hC (by omega) (by omega) (by rw [lkS_1]; omega) (by rw [lkS_2]; omega) (by omega) (by omega) N1 o1.1.2.2.1) (fun v w hP => ?_)
  obtain ⟨q, v2, rfl, hr, hC, k2⟩ := hP
  refine p_reti m_De_rank rfl rfl ?_
  exact ⟨q, hr, sameC_rf hC (okC_v o1.1 (kpm_low k2 (c := 27) (by omega)) (kpm_low k2 (c := 104) (by omega))) o1.2.1 o1.2.2⟩
theorem de_rankT {m : Int} (hC : CW w0 w s v L Z) (m0 : -2147483648 ≤ m) (m1 : m < 2147483648) (hm : ¬ (0 ≤ m ∧ m < 6)) (hfr : 8 ≤ fr) (hlo : 230 ≤ lo) : fin xs fr lo 47 0 (ax_ent [.ref 0, .int (jI m)] 2) [] w (Thr 9 w) := by
  refine fi_step (pc' := 1) m_De_rank rfl rfl ?_
  refine k_get (p := 4) m_De_rank rfl rfl (by first | exact C_print hC | exact C_minors hC | exact C_stairs hC | exact (CW_cst hC).2.1 | exact C_mat hC (by omega) | assumption) rfl ?_
  refine fi_step (pc' := 5) m_De_rank rfl rfl ?_
  refine fi_step (pc' := 6) m_De_rank rfl rfl ?_
  exact t_2 m_De_rank rfl inv_v (by decide) m_De_matrix rfl (by omega) (by omega) (Nat.le_of_ble_eq_true rfl) (Nat.le_of_ble_eq_true rfl) (C_rcvD hC _) (de_matrixT m0 m1 hm (by omega) (by omega)) rfl
end IR
