/-! THE CLASS: minors, sets of rows -/
theorem sub_le_all : ∀ x y : Fin 64, (els 6 ((x : Nat) : Int)).all (fun k => (els 6 ((y : Nat) : Int)).contains k) = true → (x : Nat) ≤ (y : Nat) := by decide +kernel
theorem sub_le {x y : Int} (x0 : 0 ≤ x) (x1 : x < 64) (y0 : 0 ≤ y) (y1 : y < 64) (h : subE x y) : x ≤ y := by
  have := sub_le_all ⟨x.toNat, by omega⟩ ⟨y.toNat, by omega⟩ (List.all_eq_true.mpr (fun k hk => List.contains_iff_mem.mpr (by
    simp only [Int.toNat_of_nonneg x0, Int.toNat_of_nonneg y0] at hk ⊢
    exact h k hk)))
  simp only at this
  omega
theorem sub_refl (x : Int) : subE x x := fun _ h => h
theorem sub_every_all : ∀ (c : Fin 7) (k : Fin 6), (k : Nat) < (c : Nat) → ((k : Nat) : Int) ∈ els 6 (2 ^ (c : Nat) - 1) := by decide
theorem sub_every {x : Int} {C : Nat} (x0 : 0 ≤ x) (hC : C ≤ 6) (x1 : x < 2 ^ C) : subE x (2 ^ C - 1) := by
  intro k hk
  rw [← S_cut x0 hC x1] at hk
  have hm := els_mem hk
  obtain ⟨t, rfl⟩ := Int.eq_ofNat_of_zero_le hm.1
  exact sub_every_all ⟨C, by omega⟩ ⟨t, by omega⟩ (by simp only; omega)
theorem els_pos {y : Int} {n : Nat} (h : 1 ≤ (els n y).length) (y0 : 0 ≤ y) : 1 ≤ y := by
  refine Classical.byContradiction (fun hn => ?_)
  obtain rfl : y = 0 := by omega
  have : ∀ n : Nat, els n 0 = [] := by
    intro n
    induction n with
    | zero => rfl
    | succ n ih => rw [els, Int.zero_ediv, if_neg (by decide)]; exact ih
  rw [this n] at h
  simp at h
/-- minors of one row and more alone have changed -/
def kpm (v v' : Nat → Int) : Prop := ∀ c, (∀ y : Int, 1 ≤ y → y < 64 → c ≠ 104 + 2 * y.toNat) → v' c = v c
theorem kpm_trans {v v' v'' : Nat → Int} (h : kpm v v') (h' : kpm v' v'') : kpm v v'' := fun c hc => (h' c hc).trans (h c hc)
theorem kpm_low {v v' : Nat → Int} (h : kpm v v') {c : Nat} (hc : c ≤ 104 ∨ 230 < c) : v' c = v c := h c (fun y y0 y1 => by omega)
section MI3
variable {xs : List Int32} {fr lo : Nat} {w0 w : ax_W} {s : mo_S} {v : Nat → Int} {L Z : Nat}
theorem trs_loop {C e R : Nat} {rs within E : Int} {g : Int → Int} {v0 : Nat → Int} (hfr : 5 ≤ fr) (hlo : 280 ≤ lo) (h1 : s 0 1 = R) (h2 : s 0 2 = C) (hC6 : C ≤ 6) (hR6 : R ≤ 6) (r0 : 0 ≤ rs) (r1 : rs < 64) (W0 : 0 ≤ within) (W1 : within < 2 ^ C) (hN : NG v0 g R C E e) :
    ∀ (n t : Nat) (w : ax_W) (v : Nat → Int), t + n = R → CW w0 w s v L Z → (∀ y, 0 ≤ y → y < 64 → subE y within → (els 6 y).length = (els t rs).length → v (104 + 2 * y.toNat) = dY g (els t rs) y) → kpm v0 v →
    fin xs fr lo 86 5 [some (.ref 29), some (.int (jI rs)), some (.int (jI within)), some (.int (jI ((els t rs).length : Nat))), some (.int (jI (t : Int)))] [] w (Ret fun u w' => u = none ∧ ∃ v', CW w0 w' s v' L Z ∧ (∀ y, 0 ≤ y → y < 64 → subE y within → (els 6 y).length = (els R rs).length → v' (104 + 2 * y.toNat) = dY g (els R rs) y) ∧ kpm v0 v') := by
  have h64 := S_pow hC6
  intro n
  induction n with
  | zero =>
    intro t w v ht hC hd hk
    obtain rfl : t = R := by omega
    refine fi_step (pc' := 7) m_Mi_takeRows rfl rfl ?_
    refine fi_step (pc' := 8) m_Mi_takeRows rfl rfl ?_
    refine k_get (p := 11) m_Mi_takeRows rfl rfl (by first | exact C_print hC | exact C_minors hC | exact C_stairs hC | exact (CW_cst hC).2.1 | exact C_mat hC (by omega) | assumption) rfl ?_
    refine s_ic_ge (p := 14) m_Mi_takeRows rfl rfl (by omega) (by omega) (by omega) (by omega) (fun hbr => ?_) (fun hbr => False.elim (by omega))
    refine p_ret m_Mi_takeRows rfl rfl ?_
    exact ⟨rfl, v, hC, hd, hk⟩
  | succ n ih =>
    intro t w v ht hC hd hk
    have hlt := els_len rs t
    refine fi_step (pc' := 7) m_Mi_takeRows rfl rfl ?_
    refine fi_step (pc' := 8) m_Mi_takeRows rfl rfl ?_
    refine k_get (p := 11) m_Mi_takeRows rfl rfl (by first | exact C_print hC | exact C_minors hC | exact C_stairs hC | exact (CW_cst hC).2.1 | exact C_mat hC (by omega) | assumption) rfl ?_
    refine s_ic_ge (p := 14) m_Mi_takeRows rfl rfl (by omega) (by omega) (by omega) (by omega) (fun hbr => False.elim (by omega)) (fun hbr => ?_)
    refine fi_step (pc' := 15) m_Mi_takeRows rfl rfl ?_
    refine fi_step (pc' := 17) m_Mi_takeRows rfl rfl ?_
    refine b_ishr (p := 18) m_Mi_takeRows rfl rfl (by omega) (by omega) (by omega) (by omega) ?_
    rw [Int.toNat_natCast]
    by_cases h : rs / 2 ^ t % 2 = 1
    · have e' : els (t + 1) rs = (t : Int) :: els t rs := by rw [els, if_pos h]
      refine fi_step (pc' := 19) m_Mi_takeRows rfl rfl ?_
      refine b_iand (p := 20) m_Mi_takeRows rfl rfl  ?_
      refine fi_step (pc' := 21) m_Mi_takeRows rfl rfl ?_
      refine s_ic_ne (p := 24) m_Mi_takeRows rfl rfl (by omega) (by omega) (by omega) (by omega) (fun hbr => False.elim (by omega)) (fun hbr => ?_)
      refine s_iinc (p := 27) m_Mi_takeRows rfl rfl rfl ?_
      refine fi_step (pc' := 28) m_Mi_takeRows rfl rfl ?_
      refine fi_step (pc' := 30) m_Mi_takeRows rfl rfl ?_
      refine fi_step (pc' := 31) m_Mi_takeRows rfl rfl ?_
      refine fi_step (pc' := 32) m_Mi_takeRows rfl rfl ?_
      have hh := mi_takeRow (xs := xs) (fr := fr - 1) (lo := lo - 27) (r := t) (z := (els t rs).length) (ys := els t rs) hC (by omega) (by omega) h2 hC6 hR6 (by omega) W0 W1 (NG_keep hN hR6 hC6 (fun c hc => kpm_low hk (Or.inl (by omega)))) (by omega) rfl (fun i hi => by have := els_mem hi; omega) hd
      rw [show (((els t rs).length + 1 : Nat) : Int) = ((els t rs).length : Int) + 1 by omega] at hh
      refine g_4 (p := 35) m_Mi_takeRows rfl inv_v (by decide) m_Mi_takeRow rfl rfl (by omega) (by omega) (Nat.le_of_ble_eq_true rfl) (Nat.le_of_ble_eq_true rfl) (C_rcvI hC _) hh (fun v w hP => ?_)
      obtain ⟨rfl, v1, hC, hval, hrest⟩ := hP
      refine s_iinc (p := 38) m_Mi_takeRows rfl rfl rfl ?_
      refine fi_step (pc' := 5) m_Mi_takeRows rfl rfl ?_
      have hih := ih (t + 1) w v1 (by omega) hC (fun y a b hs hl => by
        rw [e', List.length_cons] at hl
        rw [e']
        exact hval y a (sub_le a b W0 (by omega) hs) hs hl) (kpm_trans hk (fun c hc => hrest c (fun y a b hl => hc y (els_pos (n := 6) (by omega) a) (by omega))))
      rw [e', List.length_cons, show (((els t rs).length + 1 : Nat) : Int) = ((els t rs).length : Int) + 1 by omega] at hih
      exact hih
    · have e' : els (t + 1) rs = els t rs := by rw [els, if_neg h]
      refine fi_step (pc' := 19) m_Mi_takeRows rfl rfl ?_
      refine b_iand (p := 20) m_Mi_takeRows rfl rfl  ?_
      refine fi_step (pc' := 21) m_Mi_takeRows rfl rfl ?_
      refine s_ic_ne (p := 24) m_Mi_takeRows rfl rfl (by omega) (by omega) (by omega) (by omega) (fun hbr => ?_) (fun hbr => False.elim (by omega))
      refine s_iinc (p := 38) m_Mi_takeRows rfl rfl rfl ?_
      refine fi_step (pc' := 5) m_Mi_takeRows rfl rfl ?_
      have hih := ih (t + 1) w v (by omega) hC (by rw [e']; exact hd) hk
      rw [e'] at hih
      exact hih
theorem mi_takeRows {C e R : Nat} {rs within E : Int} {g : Int → Int} (hC : CW w0 w s v L Z) (hfr : 5 ≤ fr) (hlo : 280 ≤ lo) (h1 : s 0 1 = R) (h2 : s 0 2 = C) (hC6 : C ≤ 6) (hR6 : R ≤ 6) (r0 : 0 ≤ rs) (r1 : rs < 64) (W0 : 0 ≤ within) (W1 : within < 2 ^ C) (hN : NG v g R C E e) (hv : v 104 = 1) :
    fin xs fr lo 86 0 (ax_ent [.ref 29, .int (jI rs), .int (jI within)] 5) [] w (Ret fun u w' => u = none ∧ ∃ v', CW w0 w' s v' L Z ∧ (∀ y, 0 ≤ y → y < 64 → subE y within → (els 6 y).length = (els R rs).length → v' (104 + 2 * y.toNat) = dY g (els R rs) y) ∧ kpm v v') := by
  refine fi_step (pc' := 1) m_Mi_takeRows rfl rfl ?_
  refine fi_step (pc' := 2) m_Mi_takeRows rfl rfl ?_
  refine fi_step (pc' := 3) m_Mi_takeRows rfl rfl ?_
  refine fi_step (pc' := 5) m_Mi_takeRows rfl rfl ?_
  refine trs_loop hfr hlo h1 h2 hC6 hR6 r0 r1 W0 W1 hN R 0 w v (by omega) hC (fun y a b hs hl => ?_) (fun _ _ => rfl)
  have hy : y = 0 := by
    refine Classical.byContradiction (fun hne => ?_)
    have : ∀ y : Fin 64, (y : Nat) ≠ 0 → (els 6 ((y : Nat) : Int)).length ≠ 0 := by decide
    have h3 := this ⟨y.toNat, by omega⟩ (by simp only; omega)
    simp only [Int.toNat_of_nonneg a] at h3
    exact h3 hl
  subst hy
  exact hv
theorem mi_minor {C e R : Nat} {rs cs' E : Int} {g : Int → Int} (hC : CW w0 w s v L Z) (hfr : 6 ≤ fr) (hlo : 310 ≤ lo) (h1 : s 0 1 = R) (h2 : s 0 2 = C) (hC6 : C ≤ 6) (hR6 : R ≤ 6) (r0 : 0 ≤ rs) (r1 : rs < 64) (W0 : 0 ≤ cs') (W1 : cs' < 2 ^ C) (hN : NG v g R C E e) (hv : v 104 = 1) (hl : (els 6 cs').length = (els R rs).length) :
    fin xs fr lo 85 0 (ax_ent [.ref 29, .int (jI rs), .int (jI cs')] 3) [] w (Ret fun u w' => u = some (.ref (104 + 2 * cs'.toNat)) ∧ ∃ v', CW w0 w' s v' L Z ∧ v' (104 + 2 * cs'.toNat) = dY g (els R rs) cs' ∧ kpm v v') := by
  have h64 := S_pow hC6
  refine fi_step (pc' := 1) m_Mi_minor rfl rfl ?_
  refine fi_step (pc' := 2) m_Mi_minor rfl rfl ?_
  refine fi_step (pc' := 3) m_Mi_minor rfl rfl ?_
  refine g_3 (p := 6) m_Mi_minor rfl inv_v (by decide) m_Mi_takeRows rfl rfl (by omega) (by omega) (Nat.le_of_ble_eq_true rfl) (Nat.le_of_ble_eq_true rfl) (C_rcvI hC _) (mi_takeRows hC (by omega) (by omega) h1 h2 hC6 hR6 r0 r1 W0 W1 hN hv) (fun v w hP => ?_)
  obtain ⟨rfl, v1, hC, hval, hk⟩ := hP
  refine fi_step (pc' := 7) m_Mi_minor rfl rfl ?_
  refine k_get (p := 10) m_Mi_minor rfl rfl (by first | exact C_print hC | exact C_minors hC | exact C_stairs hC | exact (CW_cst hC).2.1 | exact C_mat hC (by omega) | assumption) rfl ?_
  refine fi_step (pc' := 11) m_Mi_minor rfl rfl ?_
  refine i_ldM (p := 12) m_Mi_minor rfl rfl hC W0 (by omega) ?_
  refine p_reta m_Mi_minor rfl rfl ?_
  exact ⟨rfl, v1, hC, hval cs' W0 (by omega) (sub_refl _) hl, hk⟩
theorem hasM_loop {C : Nat} {count : Int} (hC : CW w0 w s v L Z) (hfr : 2 ≤ fr) (hlo : 60 ≤ lo) (h2 : s 0 2 = C) (hC6 : C ≤ 6) (c0 : 0 ≤ count) (c1 : count < 100) :
    ∀ (n : Nat) (x : Int), x + n = 2 ^ C → 1 ≤ x → (∀ y, 1 ≤ y → y < x → (els 6 y).length = count → v (104 + 2 * y.toNat) = 0) →
    fin xs fr lo 53 2 [some (.ref 29), some (.int (jI count)), some (.int (jI x))] [] w (Ret fun u w' => w' = w ∧ ((u = some (.int (jI 1)) ∧ ∃ y, 1 ≤ y ∧ y < 2 ^ C ∧ (els 6 y).length = count ∧ v (104 + 2 * y.toNat) ≠ 0) ∨ (u = some (.int (jI 0)) ∧ ∀ y, 1 ≤ y → y < 2 ^ C → (els 6 y).length = count → v (104 + 2 * y.toNat) = 0))) := by
  have h64 := S_pow hC6
  intro n
  induction n with
  | zero =>
    intro x hn hx hd
    refine fi_step (pc' := 3) m_Mi_hasMinor rfl rfl ?_
    refine fi_step (pc' := 4) m_Mi_hasMinor rfl rfl ?_
    refine k_get (p := 7) m_Mi_hasMinor rfl rfl (by first | exact C_print hC | exact C_minors hC | exact C_stairs hC | exact (CW_cst hC).2.1 | exact C_mat hC (by omega) | assumption) rfl ?_
    rw [h2]
    refine c_1 (p := 10) m_Mi_hasMinor rfl inv_s (by decide) m_De_all rfl rfl (by omega) (by omega) (Nat.le_of_ble_eq_true rfl) (Nat.le_of_ble_eq_true rfl) rfl (de_all hC6) ?_
    refine s_ic_gt (p := 13) m_Mi_hasMinor rfl rfl (by omega) (by omega) (by omega) (by omega) (fun hbr => ?_) (fun hbr => False.elim (by omega))
    refine fi_step (pc' := 42) m_Mi_hasMinor rfl rfl ?_
    refine p_retb m_Mi_hasMinor rfl rfl (by first | exact Or.inl rfl | exact Or.inr rfl | omega) ?_
    exact ⟨rfl, Or.inr ⟨rfl, fun y a b => hd y a (by omega)⟩⟩
  | succ n ih =>
    intro x hn hx hd
    have hl6 := els_len x 6
    refine fi_step (pc' := 3) m_Mi_hasMinor rfl rfl ?_
    refine fi_step (pc' := 4) m_Mi_hasMinor rfl rfl ?_
    refine k_get (p := 7) m_Mi_hasMinor rfl rfl (by first | exact C_print hC | exact C_minors hC | exact C_stairs hC | exact (CW_cst hC).2.1 | exact C_mat hC (by omega) | assumption) rfl ?_
    rw [h2]
    refine c_1 (p := 10) m_Mi_hasMinor rfl inv_s (by decide) m_De_all rfl rfl (by omega) (by omega) (Nat.le_of_ble_eq_true rfl) (Nat.le_of_ble_eq_true rfl) rfl (de_all hC6) ?_
    refine s_ic_gt (p := 13) m_Mi_hasMinor rfl rfl (by omega) (by omega) (by omega) (by omega) (fun hbr => False.elim (by omega)) (fun hbr => ?_)
    refine fi_step (pc' := 14) m_Mi_hasMinor rfl rfl ?_
    by_cases hl : ((els 6 x).length : Int) = count
    · refine c_1 (p := 17) m_Mi_hasMinor rfl inv_s (by decide) m_In_bitCount rfl rfl (by omega) (by omega) (Nat.le_of_ble_eq_true rfl) (Nat.le_of_ble_eq_true rfl) rfl (in_bitCount (by omega) (by omega)) ?_
      refine fi_step (pc' := 18) m_Mi_hasMinor rfl rfl ?_
      refine s_ic_ne (p := 21) m_Mi_hasMinor rfl rfl (by omega) (by omega) (by omega) (by omega) (fun hbr => False.elim (by omega)) (fun hbr => ?_)
      refine fi_step (pc' := 22) m_Mi_hasMinor rfl rfl ?_
      refine k_get (p := 25) m_Mi_hasMinor rfl rfl (by first | exact C_print hC | exact C_minors hC | exact C_stairs hC | exact (CW_cst hC).2.1 | exact C_mat hC (by omega) | assumption) rfl ?_
      refine fi_step (pc' := 26) m_Mi_hasMinor rfl rfl ?_
      refine i_ldM (p := 27) m_Mi_hasMinor rfl rfl hC (by omega) (by omega) ?_
      have iA : isWh (104 + 2 * x.toNat) := i_min (by omega)
      by_cases hz : v (104 + 2 * x.toNat) = 0
      · have hh := cn_isZero (xs := xs) (fr := fr - 1) (lo := lo - 20) hC iA
        rw [if_pos hz] at hh
        refine c_1 (p := 30) m_Mi_hasMinor rfl inv_v (by decide) m_Wh_isZero rfl rfl (by omega) (by omega) (Nat.le_of_ble_eq_true rfl) (Nat.le_of_ble_eq_true rfl) (C_rcvW hC (by first | assumption | exact rfl) _) hh ?_
        refine s_if_ne (p := 33) m_Mi_hasMinor rfl rfl (by omega) (by omega) (fun hbr => ?_) (fun hbr => False.elim (by omega))
        refine s_iinc (p := 38) m_Mi_hasMinor rfl rfl rfl ?_
        refine fi_step (pc' := 2) m_Mi_hasMinor rfl rfl ?_
        refine ih (x + 1) (by omega) (by omega) (fun y a b hl' => ?_)
        by_cases e1 : y = x
        · rw [e1]; exact hz
        · exact hd y a (by omega) hl'
      · have hh := cn_isZero (xs := xs) (fr := fr - 1) (lo := lo - 20) hC iA
        rw [if_neg hz] at hh
        refine c_1 (p := 30) m_Mi_hasMinor rfl inv_v (by decide) m_Wh_isZero rfl rfl (by omega) (by omega) (Nat.le_of_ble_eq_true rfl) (Nat.le_of_ble_eq_true rfl) (C_rcvW hC (by first | assumption | exact rfl) _) hh ?_
        refine s_if_ne (p := 33) m_Mi_hasMinor rfl rfl (by omega) (by omega) (fun hbr => False.elim (by omega)) (fun hbr => ?_)
        refine fi_step (pc' := 34) m_Mi_hasMinor rfl rfl ?_
        refine p_retb m_Mi_hasMinor rfl rfl (by first | exact Or.inl rfl | exact Or.inr rfl | omega) ?_
        exact ⟨rfl, Or.inl ⟨rfl, x, hx, by omega, hl, hz⟩⟩
    · refine c_1 (p := 17) m_Mi_hasMinor rfl inv_s (by decide) m_In_bitCount rfl rfl (by omega) (by omega) (Nat.le_of_ble_eq_true rfl) (Nat.le_of_ble_eq_true rfl) rfl (in_bitCount (by omega) (by omega)) ?_
      refine fi_step (pc' := 18) m_Mi_hasMinor rfl rfl ?_
      refine s_ic_ne (p := 21) m_Mi_hasMinor rfl rfl (by omega) (by omega) (by omega) (by omega) (fun hbr => ?_) (fun hbr => False.elim (by omega))
      refine s_iinc (p := 38) m_Mi_hasMinor rfl rfl rfl ?_
      refine fi_step (pc' := 2) m_Mi_hasMinor rfl rfl ?_
      refine ih (x + 1) (by omega) (by omega) (fun y a b hl' => ?_)
      by_cases e1 : y = x
      · rw [e1] at hl'; exact absurd hl' hl
      · exact hd y a (by omega) hl'
theorem mi_hasMinor {C : Nat} {count : Int} (hC : CW w0 w s v L Z) (hfr : 2 ≤ fr) (hlo : 60 ≤ lo) (h2 : s 0 2 = C) (hC6 : C ≤ 6) (c0 : 0 ≤ count) (c1 : count < 100) :
    fin xs fr lo 53 0 (ax_ent [.ref 29, .int (jI count)] 3) [] w (Ret fun u w' => w' = w ∧ ((u = some (.int (jI 1)) ∧ ∃ y, 1 ≤ y ∧ y < 2 ^ C ∧ (els 6 y).length = count ∧ v (104 + 2 * y.toNat) ≠ 0) ∨ (u = some (.int (jI 0)) ∧ ∀ y, 1 ≤ y → y < 2 ^ C → (els 6 y).length = count → v (104 + 2 * y.toNat) = 0))) := by
  have h64 := S_pow hC6
  refine fi_step (pc' := 1) m_Mi_hasMinor rfl rfl ?_
  refine fi_step (pc' := 2) m_Mi_hasMinor rfl rfl ?_
  exact hasM_loop hC hfr hlo h2 hC6 c0 c1 (2 ^ C - 1 : Int).toNat 1 (by omega) (by omega) (fun y a b => by omega)
/-- the sides that the minors look at -/
def lkS (s : mo_S) (R C : Int) : mo_S := up (up s 0 1 R) 0 2 C
theorem lkS_1 (s : mo_S) (R C : Int) : lkS s R C 0 1 = R := by unfold lkS; rw [up_same, up1_ne _ (by decide), up_same, up1_same]
theorem lkS_2 (s : mo_S) (R C : Int) : lkS s R C 0 2 = C := by unfold lkS; rw [up_same, up1_same]
theorem lkS_o (s : mo_S) (R C : Int) {k : Nat} (h : k ≠ 0) : lkS s R C k = s k := by unfold lkS; rw [up_ne _ h, up_ne _ h]
theorem lkS_i (s : mo_S) (R C : Int) {i : Int} (h1 : i ≠ 1) (h2 : i ≠ 2) : lkS s R C 0 i = s 0 i := by unfold lkS; rw [up_same, up1_ne _ h2, up_same, up1_ne _ h1]
theorem okC_lk {s : mo_S} {v v' : Nat → Int} {R C : Int} (h : okC s v) (h1 : v' 27 = v 27) (h2 : v' 104 = v 104) : okC (lkS s R C) v' ∧ kpM s (lkS s R C) ∧ rf (lkS s R C) = rf s := by
  obtain ⟨a, b, c, d, e, p0, p1⟩ := h
  have hr : rf (lkS s R C) = rf s := rf_eq (fun x _ _ => by rw [lkS_o _ _ _ (by decide)]) (fun m _ _ => by rw [lkS_o _ _ _ (by decide)]) (fun m _ _ => by rw [lkS_o _ _ _ (by decide)])
  exact ⟨⟨by rw [hr]; exact a, by rw [h1, b], by rw [h2, c], by rw [lkS_o _ _ _ (by decide)]; exact d, by rw [lkS_o _ _ _ (by decide)]; exact e, by rw [lkS_i _ _ _ (by decide) (by decide)]; exact p0, by rw [lkS_i _ _ _ (by decide) (by decide)]; exact p1⟩, ⟨lkS_i _ _ _ (by decide) (by decide), lkS_o _ _ _ (by decide)⟩, hr⟩
theorem read_loop {m : Nat} {R C : Int} {v0 : Nat → Int} (hok : okC s v0) (hm : m < 6) (eR : s 2 m = R) (eC : s 3 m = C) (r1 : 1 ≤ R) (r6 : R ≤ 6) (c1 : 1 ≤ C) (c6 : C ≤ 6) (hfr : 4 ≤ fr) (hlo : 240 ≤ lo) :
    ∀ (f : Nat) (i j : Int) (w : ax_W) (v : Nat → Int), (R - i) * 7 + (C - j) ≤ f → 0 ≤ i → i < R → 0 ≤ j → j ≤ C → CW w0 w (lkS s R C) v L Z → (∀ c, (c < 31 ∨ 102 < c) → v c = v0 c) → (∀ i' j' : Nat, (j' : Int) < C → ((i' : Int) < i ∨ ((i' : Int) = i ∧ (j' : Int) < j)) → v (31 + 2 * (6 * i' + j')) = s 1 (36 * m + 6 * i' + j')) →
    fin xs fr lo 48 28 [some (.ref 29), some (.ref (2 + 2 * m)), some (.int (jI i)), some (.int (jI j))] [] w (Ret fun u w' => u = none ∧ ∃ v', CW w0 w' (lkS s R C) v' L Z ∧ (∀ c, (c < 31 ∨ 102 < c) → v' c = v0 c) ∧ ∀ i' j' : Nat, (j' : Int) < C → (i' : Int) < R → v' (31 + 2 * (6 * i' + j')) = s 1 (36 * m + 6 * i' + j')) := by
  have e01 := lkS_1 s R C
  have e02 := lkS_2 s R C
  have e2 : lkS s R C 2 m = R := by rw [lkS_o _ _ _ (by decide), eR]
  have e3 : lkS s R C 3 m = C := by rw [lkS_o _ _ _ (by decide), eC]
  intro f
  induction f with
  | zero => intro i j w v hf i0 i1 j0 j1; omega
  | succ f ih =>
    intro i j w v hf i0 i1 j0 j1 hC hk hd
    by_cases hj : j < C
    · obtain ⟨i, rfl⟩ := Int.eq_ofNat_of_zero_le i0
      obtain ⟨j, rfl⟩ := Int.eq_ofNat_of_zero_le j0
      have q := rf_num hok.1 (x := 36 * m + (6 * i + j)) (by omega) (by omega)
      refine fi_step (pc' := 29) m_Mi_read rfl rfl ?_
      refine fi_step (pc' := 30) m_Mi_read rfl rfl ?_
      refine k_get (p := 33) m_Mi_read rfl rfl (by first | exact C_print hC | exact C_minors hC | exact C_stairs hC | exact (CW_cst hC).2.1 | exact C_mat hC (by omega) | assumption) rfl ?_
      refine s_ic_ge (p := 36) m_Mi_read rfl rfl (by omega) (by omega) (by omega) (by omega) (fun hbr => False.elim (by omega)) (fun hbr => ?_)
      refine fi_step (pc' := 37) m_Mi_read rfl rfl ?_
      refine k_get (p := 40) m_Mi_read rfl rfl (by first | exact C_print hC | exact C_minors hC | exact C_stairs hC | exact (CW_cst hC).2.1 | exact C_mat hC (by omega) | assumption) rfl ?_
      refine fi_step (pc' := 41) m_Mi_read rfl rfl ?_
      refine s_bipush (p := 43) m_Mi_read rfl rfl rfl ?_
      refine s_imul (p := 44) m_Mi_read rfl rfl ?_
      refine fi_step (pc' := 45) m_Mi_read rfl rfl ?_
      refine s_iadd (p := 46) m_Mi_read rfl rfl ?_
      refine i_ldN (p := 47) m_Mi_read rfl rfl hC (by omega) (by omega) ?_
      rw [show ((i : Int) * 6 + j).toNat = 6 * i + j by omega]
      refine fi_step (pc' := 48) m_Mi_read rfl rfl ?_
      refine fi_step (pc' := 49) m_Mi_read rfl rfl ?_
      refine fi_step (pc' := 50) m_Mi_read rfl rfl ?_
      refine c_3 (p := 53) m_Mi_read rfl inv_v (by decide) m_Ma_number rfl rfl (by omega) (by omega) (Nat.le_of_ble_eq_true rfl) (Nat.le_of_ble_eq_true rfl) (C_rcvM hC (by omega) _) (ma_number hC (show m < 7 by omega) ⟨by omega, by omega, by omega, by omega⟩ (by omega) (by omega) (by omega) (by omega) (by omega) (by omega)) ?_
      rw [lkS_o _ _ _ (by decide)]
      have iA : isWh (31 + 2 * (6 * i + j)) := i_num (by omega)
      refine g_2 (p := 56) m_Mi_read rfl inv_v (by decide) m_Wh_becomeJ rfl rfl (by omega) (by omega) (Nat.le_of_ble_eq_true rfl) (Nat.le_of_ble_eq_true rfl) (C_rcvW hC (by first | assumption | exact rfl) _) (cn_becomeJ hC iA (by omega) (by omega) (by omega) (by omega)) (fun v w hP => ?_)
      obtain ⟨rfl, hC⟩ := hP
      refine s_iinc (p := 59) m_Mi_read rfl rfl rfl ?_
      refine fi_step (pc' := 28) m_Mi_read rfl rfl ?_
      refine ih i (j + 1) w _ (by omega) (by omega) i1 (by omega) (by omega) hC (fun c hc => by rw [upv_ne _ (by omega), hk c hc]) (fun i' j' b1 hlt => ?_)
      by_cases e : i' = i ∧ j' = j
      · rw [e.1, e.2, upv_same]
        rw [show 36 * (m : Int) + (6 * (i : Int) + j) = 36 * m + 6 * i + j by omega]
      · rw [upv_ne _ (by omega)]; exact hd i' j' b1 (by omega)
    · by_cases hi : i + 1 < R
      · refine fi_step (pc' := 29) m_Mi_read rfl rfl ?_
        refine fi_step (pc' := 30) m_Mi_read rfl rfl ?_
        refine k_get (p := 33) m_Mi_read rfl rfl (by first | exact C_print hC | exact C_minors hC | exact C_stairs hC | exact (CW_cst hC).2.1 | exact C_mat hC (by omega) | assumption) rfl ?_
        refine s_ic_ge (p := 36) m_Mi_read rfl rfl (by omega) (by omega) (by omega) (by omega) (fun hbr => ?_) (fun hbr => False.elim (by omega))
        refine s_iinc (p := 65) m_Mi_read rfl rfl rfl ?_
        refine fi_step (pc' := 18) m_Mi_read rfl rfl ?_
        refine fi_step (pc' := 19) m_Mi_read rfl rfl ?_
        refine fi_step (pc' := 20) m_Mi_read rfl rfl ?_
        refine k_get (p := 23) m_Mi_read rfl rfl (by first | exact C_print hC | exact C_minors hC | exact C_stairs hC | exact (CW_cst hC).2.1 | exact C_mat hC (by omega) | assumption) rfl ?_
        refine s_ic_ge (p := 26) m_Mi_read rfl rfl (by omega) (by omega) (by omega) (by omega) (fun hbr => False.elim (by omega)) (fun hbr => ?_)
        refine fi_step (pc' := 27) m_Mi_read rfl rfl ?_
        refine fi_step (pc' := 28) m_Mi_read rfl rfl ?_
        exact ih (i + 1) 0 w v (by omega) (by omega) hi (by omega) (by omega) hC hk (fun i' j' b1 hlt => hd i' j' b1 (by omega))
      · refine fi_step (pc' := 29) m_Mi_read rfl rfl ?_
        refine fi_step (pc' := 30) m_Mi_read rfl rfl ?_
        refine k_get (p := 33) m_Mi_read rfl rfl (by first | exact C_print hC | exact C_minors hC | exact C_stairs hC | exact (CW_cst hC).2.1 | exact C_mat hC (by omega) | assumption) rfl ?_
        refine s_ic_ge (p := 36) m_Mi_read rfl rfl (by omega) (by omega) (by omega) (by omega) (fun hbr => ?_) (fun hbr => False.elim (by omega))
        refine s_iinc (p := 65) m_Mi_read rfl rfl rfl ?_
        refine fi_step (pc' := 18) m_Mi_read rfl rfl ?_
        refine fi_step (pc' := 19) m_Mi_read rfl rfl ?_
        refine fi_step (pc' := 20) m_Mi_read rfl rfl ?_
        refine k_get (p := 23) m_Mi_read rfl rfl (by first | exact C_print hC | exact C_minors hC | exact C_stairs hC | exact (CW_cst hC).2.1 | exact C_mat hC (by omega) | assumption) rfl ?_
        refine s_ic_ge (p := 26) m_Mi_read rfl rfl (by omega) (by omega) (by omega) (by omega) (fun hbr => ?_) (fun hbr => False.elim (by omega))
        refine p_ret m_Mi_read rfl rfl ?_
        exact ⟨rfl, v, hC, hk, fun i' j' b1 a1 => hd i' j' b1 (by omega)⟩
/-- the matrix's numbers, as the reference names them -/
theorem gmC_at {s : mo_S} {m i j : Nat} (hm : m < 6) (hi : i < 6) (hj : j < 6) : gm (rf s) m (12 * i + j) = s 1 (36 * m + 6 * i + j) := by
  unfold gm
  rw [rf_4 _ (by omega) (by omega)]
  congr 1
  omega
theorem mi_read {m : Nat} (hC : CW w0 w s v L Z) (hok : okC s v) (hm : m < 6) (hfr : 4 ≤ fr) (hlo : 240 ≤ lo) :
    fin xs fr lo 48 0 (ax_ent [.ref 29, .ref (2 + 2 * m)] 4) [] w (Ret fun u w' => u = none ∧ ∃ v', CW w0 w' (lkS s (s 2 m) (s 3 m)) v' L Z ∧ (∀ c, (c < 31 ∨ 102 < c) → v' c = v c) ∧ NG v' (gm (rf s) m) (s 2 m).toNat (s 3 m).toNat 1000000000000000000 3) := by
  have d := rf_dim hok.1 hm
  obtain ⟨d1, d2, d3, d4⟩ := d
  have e2 : up s 0 1 (s 2 m) 3 m = s 3 m := by rw [up_ne _ (by decide)]
  refine fi_step (pc' := 1) m_Mi_read rfl rfl ?_
  refine fi_step (pc' := 2) m_Mi_read rfl rfl ?_
  refine k_get (p := 5) m_Mi_read rfl rfl (by first | exact C_print hC | exact C_minors hC | exact C_stairs hC | exact (CW_cst hC).2.1 | exact C_mat hC (by omega) | assumption) rfl ?_
  refine c_put33 (p := 8) m_Mi_read rfl rfl hC (fun w hC => ?_)
  refine fi_step (pc' := 9) m_Mi_read rfl rfl ?_
  refine fi_step (pc' := 10) m_Mi_read rfl rfl ?_
  refine k_get (p := 13) m_Mi_read rfl rfl (by first | exact C_print hC | exact C_minors hC | exact C_stairs hC | exact (CW_cst hC).2.1 | exact C_mat hC (by omega) | assumption) rfl ?_
  rw [e2]
  refine c_put34 (p := 16) m_Mi_read rfl rfl hC (fun w hC => ?_)
  have hC : CW w0 w (lkS s (s 2 m) (s 3 m)) v L Z := hC
  have e01 := lkS_1 s (s 2 m) (s 3 m)
  have e02 := lkS_2 s (s 2 m) (s 3 m)
  refine fi_step (pc' := 17) m_Mi_read rfl rfl ?_
  refine fi_step (pc' := 18) m_Mi_read rfl rfl ?_
  refine fi_step (pc' := 19) m_Mi_read rfl rfl ?_
  refine fi_step (pc' := 20) m_Mi_read rfl rfl ?_
  refine k_get (p := 23) m_Mi_read rfl rfl (by first | exact C_print hC | exact C_minors hC | exact C_stairs hC | exact (CW_cst hC).2.1 | exact C_mat hC (by omega) | assumption) rfl ?_
  refine s_ic_ge (p := 26) m_Mi_read rfl rfl (by omega) (by omega) (by omega) (by omega) (fun hbr => False.elim (by omega)) (fun hbr => ?_)
  refine fi_step (pc' := 27) m_Mi_read rfl rfl ?_
  refine fi_step (pc' := 28) m_Mi_read rfl rfl ?_
  refine fi_mono (read_loop hok hm rfl rfl d1 d2 d3 d4 hfr hlo 100 0 0 w v (by omega) (by omega) (by omega) (by omega) (by omega) hC (fun _ _ => rfl) (fun i' j' _ h => by omega)) (fun o w' ⟨u, e, hu, v', h1, h2, h3⟩ => ⟨u, e, hu, v', h1, h2, ⟨fun i j hi hj => ?_, by decide, by decide, by decide⟩⟩)
  have q := rf_num hok.1 (x := 36 * m + 6 * i + j) (by omega) (by omega)
  rw [gmC_at hm (by omega) (by omega), h3 i j (by omega) (by omega)]
  exact ⟨rfl, by omega⟩
end MI3
