/-! THE CLASS: rows loaded, numbers of the stairs, the spare row; two rows meet -/
/-- row i of the matrix with a diagonal behind it, or column i if it is turned -/
def ldV (s : mo_S) (m : Nat) (tn : Int) (i : Nat) : Vec := fun j => if 0 ≤ j ∧ j < (if tn = 1 then s 2 m else s 3 m) then (if tn = 1 then s 1 (36 * m + 6 * j + i) else s 1 (36 * m + 6 * i + j)) else if j = (if tn = 1 then s 2 m else s 3 m) + i then 1 else 0
section LD
variable {xs : List Int32} {fr lo : Nat} {w0 w : ax_W} {s : mo_S} {v : Nat → Int} {L Z : Nat}
theorem ld_loop {p m i F : Nat} {tn : Int} {v0 : Nat → Int} (hM : MI (rf s)) (hm : m < 6) (hp : p < 7) (htn : tn = 0 ∨ tn = 1) (hF : (if tn = 1 then s 2 m else s 3 m) = F) (hi : (i : Int) < (if tn = 1 then s 3 m else s 2 m)) (hfr : 4 ≤ fr) (hlo : 240 ≤ lo) :
    ∀ (n j : Nat) (w : ax_W) (v : Nat → Int), j + n = F → CW w0 w s v L Z → kpR p v0 v → (∀ j' : Nat, j' < 12 → v (238 + 26 * p + 2 * j') = if j' < j then ldV s m tn i j' else 0) →
    fin xs fr lo 58 25 [some (.ref 232), some (.ref (236 + 26 * p)), some (.ref (2 + 2 * m)), some (.int (jI (i : Int))), some (.int (jI tn)), some (.int (jI (F : Int))), some (.int (jI (j : Int)))] [] w (Ret fun u w' => u = none ∧ ∃ v', CW w0 w' s v' L Z ∧ kpR p v0 v' ∧ PR v' p = ldV s m tn i) := by
  have hd := rf_dim hM hm
  have hd' := hd
  obtain ⟨d1, d2, d3, d4⟩ := hd
  have hF6 : F ≤ 6 ∧ 1 ≤ F := by rcases htn with e | e <;> subst e <;> simp at hF <;> omega
  have hi6 : i < 6 := by rcases htn with e | e <;> subst e <;> simp at hi <;> omega
  intro n
  induction n with
  | zero =>
    intro j w v hj hC hk hv
    obtain rfl : j = F := by omega
    refine fi_step (pc' := 27) m_St_load rfl rfl ?_
    refine fi_step (pc' := 29) m_St_load rfl rfl ?_
    refine s_ic_ge (p := 32) m_St_load rfl rfl (by omega) (by omega) (by omega) (by omega) (fun hbr => ?_) (fun hbr => False.elim (by omega))
    refine fi_step (pc' := 71) m_St_load rfl rfl ?_
    refine k_get (p := 74) m_St_load rfl rfl (by first | exact C_print hC | exact C_minors hC | exact C_stairs hC | exact (CW_cst hC).2.1 | exact C_mat hC (by omega) | exact ((CW_cst hC).2.2.2.2.2.2 _ (by omega)).1 | assumption) rfl ?_
    refine fi_step (pc' := 76) m_St_load rfl rfl ?_
    refine fi_step (pc' := 77) m_St_load rfl rfl ?_
    refine s_iadd (p := 78) m_St_load rfl rfl ?_
    refine r_ldN (p := 79) m_St_load rfl rfl hC hp (by omega) (by omega) ?_
    rw [show ((j : Int) + i).toNat = j + i by omega]
    have iA : isWh (238 + 26 * p + 2 * (j + i)) := i_row hp (by omega)
    refine s_lconst (p := 80) (v := 1) m_St_load rfl rfl rfl ?_
    refine g_2 (p := 83) m_St_load rfl inv_v (by decide) m_Wh_becomeJ rfl rfl (by omega) (by omega) (Nat.le_of_ble_eq_true rfl) (Nat.le_of_ble_eq_true rfl) (C_rcvW hC (by first | assumption | exact rfl) _) (cn_becomeJ (x := 1) hC iA (by omega) (by omega) (by omega) (by omega)) (fun v w hP => ?_)
    obtain ⟨rfl, hC⟩ := hP
    refine p_ret m_St_load rfl rfl ?_
    refine ⟨rfl, _, hC, fun c hc => by rw [upv_ne _ (hc (j + i) (by omega)), hk c hc], PR_eq (fun j' hj' => ?_) (fun j' hj' => ?_)⟩
    · by_cases e : j' = j + i
      · subst e
        rw [upv_same]; unfold ldV
        rw [hF, if_neg (by omega), if_pos (by omega)]
      · rw [upv_ne _ (by omega), hv j' hj']
        by_cases e' : j' < j
        · rw [if_pos e']
        · rw [if_neg e']; unfold ldV
          rw [hF, if_neg (by omega), if_neg (by omega)]
    · unfold ldV
      rw [hF, if_neg (by omega), if_neg (by omega)]
  | succ n ih =>
    intro j w v hj hC hk hv
    have iA : isWh (238 + 26 * p + 2 * j) := i_row hp (by omega)
    have go : ∀ y : Int, y = ldV s m tn i j → -4611686018427387904 ≤ y → y ≤ 4611686018427387904 → fin xs fr lo 58 61 [some (.ref 232), some (.ref (236 + 26 * p)), some (.ref (2 + 2 * m)), some (.int (jI (i : Int))), some (.int (jI tn)), some (.int (jI (F : Int))), some (.int (jI (j : Int)))] [.long (jL y), .ref (238 + 26 * p + 2 * j)] w (Ret fun u w' => u = none ∧ ∃ v', CW w0 w' s v' L Z ∧ kpR p v0 v' ∧ PR v' p = ldV s m tn i) := by
      intro y hy y0 y1
      refine g_2 (p := 64) m_St_load rfl inv_v (by decide) m_Wh_becomeJ rfl rfl (by omega) (by omega) (Nat.le_of_ble_eq_true rfl) (Nat.le_of_ble_eq_true rfl) (C_rcvW hC (by first | assumption | exact rfl) _) (cn_becomeJ hC iA y0 y1 (by omega) (by omega)) (fun v w hP => ?_)
      obtain ⟨rfl, hC⟩ := hP
      refine s_iinc (p := 67) m_St_load rfl rfl rfl ?_
      refine fi_step (pc' := 25) m_St_load rfl rfl ?_
      rw [show (j : Int) + 1 = ((j + 1 : Nat) : Int) by omega]
      refine ih (j + 1) w _ (by omega) hC (fun c hc => by rw [upv_ne _ (hc j (by omega)), hk c hc]) (fun j' hj' => ?_)
      by_cases e : j' = j
      · subst e; rw [upv_same, if_pos (by omega)]; exact hy
      · rw [upv_ne _ (by omega), hv j' hj']
        by_cases e' : j' < j
        · rw [if_pos e', if_pos (by omega)]
        · rw [if_neg e', if_neg (by omega)]
    have hval : ldV s m tn i j = if tn = 1 then s 1 (36 * m + (6 * j + i)) else s 1 (36 * m + (6 * i + j)) := by
      unfold ldV
      rw [hF, if_pos (by omega), show 36 * (m : Int) + 6 * j + i = 36 * m + (6 * j + i) by omega, show 36 * (m : Int) + 6 * i + j = 36 * m + (6 * i + j) by omega]
    refine fi_step (pc' := 27) m_St_load rfl rfl ?_
    refine fi_step (pc' := 29) m_St_load rfl rfl ?_
    refine s_ic_ge (p := 32) m_St_load rfl rfl (by omega) (by omega) (by omega) (by omega) (fun hbr => False.elim (by omega)) (fun hbr => ?_)
    refine fi_step (pc' := 33) m_St_load rfl rfl ?_
    refine k_get (p := 36) m_St_load rfl rfl (by first | exact C_print hC | exact C_minors hC | exact C_stairs hC | exact (CW_cst hC).2.1 | exact C_mat hC (by omega) | exact ((CW_cst hC).2.2.2.2.2.2 _ (by omega)).1 | assumption) rfl ?_
    refine fi_step (pc' := 38) m_St_load rfl rfl ?_
    refine r_ldN (p := 39) m_St_load rfl rfl hC hp (by omega) (by omega) ?_
    rw [Int.toNat_natCast]
    rcases htn with e | e
    · subst e
      rw [if_neg (by decide)] at hF hi
      have q := rf_num hM (x := 36 * m + (6 * i + j)) (by omega) (by omega)
      refine fi_step (pc' := 41) m_St_load rfl rfl ?_
      refine s_if_eq (p := 44) m_St_load rfl rfl (by omega) (by omega) (fun hbr => ?_) (fun hbr => False.elim (by omega))
      refine fi_step (pc' := 55) m_St_load rfl rfl ?_
      refine fi_step (pc' := 56) m_St_load rfl rfl ?_
      refine fi_step (pc' := 58) m_St_load rfl rfl ?_
      refine c_3 (p := 61) m_St_load rfl inv_v (by decide) m_Ma_number rfl rfl (by omega) (by omega) (Nat.le_of_ble_eq_true rfl) (Nat.le_of_ble_eq_true rfl) (C_rcvM hC (by omega) _) (ma_number hC (show m < 7 by omega) hd' (by omega) (by omega) (by omega) (by omega) (by omega) (by omega)) ?_
      exact go _ (by rw [hval, if_neg (by decide)]) (by omega) (by omega)
    · subst e
      rw [if_pos rfl] at hF hi
      have q := rf_num hM (x := 36 * m + (6 * j + i)) (by omega) (by omega)
      refine fi_step (pc' := 41) m_St_load rfl rfl ?_
      refine s_if_eq (p := 44) m_St_load rfl rfl (by omega) (by omega) (fun hbr => False.elim (by omega)) (fun hbr => ?_)
      refine fi_step (pc' := 45) m_St_load rfl rfl ?_
      refine fi_step (pc' := 47) m_St_load rfl rfl ?_
      refine fi_step (pc' := 48) m_St_load rfl rfl ?_
      refine c_3 (p := 51) m_St_load rfl inv_v (by decide) m_Ma_number rfl rfl (by omega) (by omega) (Nat.le_of_ble_eq_true rfl) (Nat.le_of_ble_eq_true rfl) (C_rcvM hC (by omega) _) (ma_number hC (show m < 7 by omega) hd' (by omega) (by omega) (by omega) (by omega) (by omega) (by omega)) ?_
      refine fi_step (pc' := 61) m_St_load rfl rfl ?_
      exact go _ (by rw [hval, if_pos rfl]) (by omega) (by omega)
theorem st_load {p m i : Nat} {tn : Int} (hC : CW w0 w s v L Z) (hM : MI (rf s)) (hm : m < 6) (hp : p < 7) (htn : tn = 0 ∨ tn = 1) (hi : (i : Int) < (if tn = 1 then s 3 m else s 2 m)) (hfr : 4 ≤ fr) (hlo : 240 ≤ lo) :
    fin xs fr lo 58 0 (ax_ent [.ref 232, .ref (236 + 26 * p), .ref (2 + 2 * m), .int (jI (i : Int)), .int (jI tn)] 7) [] w (Ret fun u w' => u = none ∧ ∃ v', CW w0 w' s v' L Z ∧ kpR p v v' ∧ PR v' p = ldV s m tn i) := by
  have hd := rf_dim hM hm
  obtain ⟨d1, d2, d3, d4⟩ := hd
  obtain ⟨F, hF⟩ : ∃ F : Nat, (if tn = 1 then s 2 m else s 3 m) = F := ⟨(if tn = 1 then s 2 m else s 3 m).toNat, by split <;> omega⟩
  have go : fin xs fr lo 58 18 [some (.ref 232), some (.ref (236 + 26 * p)), some (.ref (2 + 2 * m)), some (.int (jI (i : Int))), some (.int (jI tn)), some (.int (jI (F : Int))), none] [] w (Ret fun u w' => u = none ∧ ∃ v', CW w0 w' s v' L Z ∧ kpR p v v' ∧ PR v' p = ldV s m tn i) := by
    refine fi_step (pc' := 19) m_St_load rfl rfl ?_
    refine g_1 (p := 22) m_St_load rfl inv_v (by decide) m_Ro_clear rfl rfl (by omega) (by omega) (Nat.le_of_ble_eq_true rfl) (Nat.le_of_ble_eq_true rfl) (C_rcvR hC (by omega) _) (ro_clear hC hp (by omega) (by omega)) (fun v w hP => ?_)
    obtain ⟨rfl, v1, hC, k1, z1⟩ := hP
    refine fi_step (pc' := 23) m_St_load rfl rfl ?_
    refine fi_step (pc' := 25) m_St_load rfl rfl ?_
    refine ld_loop hM hm hp htn hF hi hfr hlo F 0 w v1 (by omega) hC k1 (fun j' hj' => ?_)
    rw [z1 j' hj', if_neg (by omega)]
  rcases htn with e | e
  · subst e
    rw [if_neg (by decide)] at hF
    refine fi_step (pc' := 2) m_St_load rfl rfl ?_
    refine s_if_eq (p := 5) m_St_load rfl rfl (by omega) (by omega) (fun hbr => ?_) (fun hbr => False.elim (by omega))
    refine fi_step (pc' := 13) m_St_load rfl rfl ?_
    refine k_get (p := 16) m_St_load rfl rfl (by first | exact C_print hC | exact C_minors hC | exact C_stairs hC | exact (CW_cst hC).2.1 | exact C_mat hC (by omega) | exact ((CW_cst hC).2.2.2.2.2.2 _ (by omega)).1 | assumption) rfl ?_
    refine fi_step (pc' := 18) m_St_load rfl rfl ?_
    rw [hF]
    exact go
  · subst e
    rw [if_pos rfl] at hF
    refine fi_step (pc' := 2) m_St_load rfl rfl ?_
    refine s_if_eq (p := 5) m_St_load rfl rfl (by omega) (by omega) (fun hbr => False.elim (by omega)) (fun hbr => ?_)
    refine fi_step (pc' := 6) m_St_load rfl rfl ?_
    refine k_get (p := 9) m_St_load rfl rfl (by first | exact C_print hC | exact C_minors hC | exact C_stairs hC | exact (CW_cst hC).2.1 | exact C_mat hC (by omega) | exact ((CW_cst hC).2.2.2.2.2.2 _ (by omega)).1 | assumption) rfl ?_
    refine fi_step (pc' := 16) m_St_load rfl rfl ?_
    refine fi_step (pc' := 18) m_St_load rfl rfl ?_
    rw [hF]
    exact go
theorem st_number {i j : Nat} (hC : CW w0 w s v L Z) (hi : i < 7) (hj : j < 12) (h6 : 0 ≤ s 6 i ∧ s 6 i < 7) : fin xs fr lo 76 0 (ax_ent [.ref 232, .int (jI (i : Int)), .int (jI (j : Int))] 3) [] w (Same (.ref (238 + 26 * (s 6 i).toNat + 2 * j)) w) := by
  refine fi_step (pc' := 1) m_St_number rfl rfl ?_
  refine k_get (p := 4) m_St_number rfl rfl (by first | exact C_print hC | exact C_minors hC | exact C_stairs hC | exact (CW_cst hC).2.1 | exact C_mat hC (by omega) | exact ((CW_cst hC).2.2.2.2.2.2 _ (by omega)).1 | assumption) rfl ?_
  refine fi_step (pc' := 5) m_St_number rfl rfl ?_
  refine r_ldR (p := 6) m_St_number rfl rfl hC (by omega) (by omega) ?_
  refine k_get (p := 9) m_St_number rfl rfl (by first | exact C_print hC | exact C_minors hC | exact C_stairs hC | exact (CW_cst hC).2.1 | exact C_mat hC (by omega) | exact ((CW_cst hC).2.2.2.2.2.2 _ (by omega)).1 | assumption) rfl ?_
  refine fi_step (pc' := 10) m_St_number rfl rfl ?_
  refine r_ldN (p := 11) m_St_number rfl rfl hC (by omega) (by omega) (by omega) ?_
  rw [Int.toNat_natCast]
  exact s_reta m_St_number rfl rfl
theorem st_spareRow {n : Nat} (hC : CW w0 w s v L Z) (h3 : s 0 3 = n) (hn : n < 7) (h6 : 0 ≤ s 6 n ∧ s 6 n < 7) (hfr : 2 ≤ fr) (hlo : 60 ≤ lo) : fin xs fr lo 82 0 (ax_ent [.ref 232] 1) [] w (Ret fun u w' => u = some (.ref (236 + 26 * (s 6 n).toNat)) ∧ ∃ v', CW w0 w' s v' L Z ∧ kpR (s 6 n).toNat v v' ∧ PR v' (s 6 n).toNat = fun _ => 0) := by
  refine fi_step (pc' := 1) m_St_spareRow rfl rfl ?_
  refine k_get (p := 4) m_St_spareRow rfl rfl (by first | exact C_print hC | exact C_minors hC | exact C_stairs hC | exact (CW_cst hC).2.1 | exact C_mat hC (by omega) | exact ((CW_cst hC).2.2.2.2.2.2 _ (by omega)).1 | assumption) rfl ?_
  refine fi_step (pc' := 5) m_St_spareRow rfl rfl ?_
  refine k_get (p := 8) m_St_spareRow rfl rfl (by first | exact C_print hC | exact C_minors hC | exact C_stairs hC | exact (CW_cst hC).2.1 | exact C_mat hC (by omega) | exact ((CW_cst hC).2.2.2.2.2.2 _ (by omega)).1 | assumption) rfl ?_
  rw [h3]
  refine r_ldR (p := 9) m_St_spareRow rfl rfl hC (by omega) (by omega) ?_
  refine g_1 (p := 12) m_St_spareRow rfl inv_v (by decide) m_Ro_clear rfl rfl (by omega) (by omega) (Nat.le_of_ble_eq_true rfl) (Nat.le_of_ble_eq_true rfl) (C_rcvR hC (by omega) _) (ro_clear hC (show (s 6 n).toNat < 7 by omega) (by omega) (by omega)) (fun v w hP => ?_)
  obtain ⟨rfl, v1, hC, k1, z1⟩ := hP
  refine fi_step (pc' := 13) m_St_spareRow rfl rfl ?_
  refine k_get (p := 16) m_St_spareRow rfl rfl (by first | exact C_print hC | exact C_minors hC | exact C_stairs hC | exact (CW_cst hC).2.1 | exact C_mat hC (by omega) | exact ((CW_cst hC).2.2.2.2.2.2 _ (by omega)).1 | assumption) rfl ?_
  refine fi_step (pc' := 17) m_St_spareRow rfl rfl ?_
  refine k_get (p := 20) m_St_spareRow rfl rfl (by first | exact C_print hC | exact C_minors hC | exact C_stairs hC | exact (CW_cst hC).2.1 | exact C_mat hC (by omega) | exact ((CW_cst hC).2.2.2.2.2.2 _ (by omega)).1 | assumption) rfl ?_
  rw [h3]
  refine r_ldR (p := 21) m_St_spareRow rfl rfl hC (by omega) (by omega) ?_
  refine p_reta m_St_spareRow rfl rfl ?_
  exact ⟨rfl, v1, hC, k1, PR_eq (fun j hj => z1 j hj) (fun _ _ => rfl)⟩
theorem lb_loop {n : Nat} {c : Int} (hC : CW w0 w s v L Z) (h3 : s 0 3 = n) (hn : n ≤ 6) (c0 : -100 ≤ c) (c1 : c < 100) (hl : ∀ i : Nat, i < n → -100 ≤ s 5 i ∧ s 5 i < 100) (hinc : ∀ i k : Nat, i < k → k < n → s 5 i < s 5 k) :
    ∀ (k i f : Nat), i + k = n → isFrom (s 5) i c f →
    fin xs fr lo 77 4 [some (.ref 232), some (.int (jI c)), some (.int (jI (f : Int))), some (.int (jI (i : Int)))] [] w (Ret fun u w' => w' = w ∧ ∃ f : Nat, u = some (.int (jI (f : Int))) ∧ isFrom (s 5) n c f) := by
  intro k
  induction k with
  | zero =>
    intro i f hi hf
    obtain rfl : i = n := by omega
    refine fi_step (pc' := 5) m_St_leadsBefore rfl rfl ?_
    refine fi_step (pc' := 6) m_St_leadsBefore rfl rfl ?_
    refine k_get (p := 9) m_St_leadsBefore rfl rfl (by first | exact C_print hC | exact C_minors hC | exact C_stairs hC | exact (CW_cst hC).2.1 | exact C_mat hC (by omega) | exact ((CW_cst hC).2.2.2.2.2.2 _ (by omega)).1 | assumption) rfl ?_
    refine s_ic_ge (p := 12) m_St_leadsBefore rfl rfl (by omega) (by omega) (by omega) (by omega) (fun hbr => ?_) (fun hbr => False.elim (by omega))
    refine fi_step (pc' := 32) m_St_leadsBefore rfl rfl ?_
    refine p_reti m_St_leadsBefore rfl rfl ?_
    exact ⟨rfl, f, rfl, hf⟩
  | succ k ih =>
    intro i f hi hf
    have hli := hl i (by omega)
    obtain ⟨f1, f2, f3⟩ := hf
    refine fi_step (pc' := 5) m_St_leadsBefore rfl rfl ?_
    refine fi_step (pc' := 6) m_St_leadsBefore rfl rfl ?_
    refine k_get (p := 9) m_St_leadsBefore rfl rfl (by first | exact C_print hC | exact C_minors hC | exact C_stairs hC | exact (CW_cst hC).2.1 | exact C_mat hC (by omega) | exact ((CW_cst hC).2.2.2.2.2.2 _ (by omega)).1 | assumption) rfl ?_
    refine s_ic_ge (p := 12) m_St_leadsBefore rfl rfl (by omega) (by omega) (by omega) (by omega) (fun hbr => False.elim (by omega)) (fun hbr => ?_)
    refine fi_step (pc' := 13) m_St_leadsBefore rfl rfl ?_
    refine k_get (p := 16) m_St_leadsBefore rfl rfl (by first | exact C_print hC | exact C_minors hC | exact C_stairs hC | exact (CW_cst hC).2.1 | exact C_mat hC (by omega) | exact ((CW_cst hC).2.2.2.2.2.2 _ (by omega)).1 | assumption) rfl ?_
    refine fi_step (pc' := 17) m_St_leadsBefore rfl rfl ?_
    refine d_ldL (p := 18) m_St_leadsBefore rfl rfl hC (by omega) (by omega) ?_
    by_cases h : s 5 i < c
    · have efi : f = i := by
        refine Classical.byContradiction (fun hne => ?_)
        have a := f3 f (Nat.le_refl _) (by omega)
        have b := hinc f i (by omega) (by omega)
        omega
      subst efi
      refine fi_step (pc' := 19) m_St_leadsBefore rfl rfl ?_
      refine s_ic_ge (p := 22) m_St_leadsBefore rfl rfl (by omega) (by omega) (by omega) (by omega) (fun hbr => False.elim (by omega)) (fun hbr => ?_)
      refine s_iinc (p := 25) m_St_leadsBefore rfl rfl rfl ?_
      refine s_iinc (p := 28) m_St_leadsBefore rfl rfl rfl ?_
      refine fi_step (pc' := 4) m_St_leadsBefore rfl rfl ?_
      rw [show (f : Int) + 1 = ((f + 1 : Nat) : Int) by omega]
      refine ih (f + 1) (f + 1) (by omega) ⟨Nat.le_refl _, fun k hk => ?_, fun k a b => by omega⟩
      by_cases e : k = f
      · subst e; exact h
      · exact f2 k (by omega)
    · refine fi_step (pc' := 19) m_St_leadsBefore rfl rfl ?_
      refine s_ic_ge (p := 22) m_St_leadsBefore rfl rfl (by omega) (by omega) (by omega) (by omega) (fun hbr => ?_) (fun hbr => False.elim (by omega))
      refine s_iinc (p := 28) m_St_leadsBefore rfl rfl rfl ?_
      refine fi_step (pc' := 4) m_St_leadsBefore rfl rfl ?_
      rw [show (i : Int) + 1 = ((i + 1 : Nat) : Int) by omega]
      refine ih (i + 1) f (by omega) ⟨by omega, f2, fun k a b => ?_⟩
      by_cases e : k = i
      · subst e; omega
      · exact f3 k a (by omega)
theorem st_leadsBefore {n : Nat} {c : Int} (hC : CW w0 w s v L Z) (h3 : s 0 3 = n) (hn : n ≤ 6) (c0 : -100 ≤ c) (c1 : c < 100) (hl : ∀ i : Nat, i < n → -100 ≤ s 5 i ∧ s 5 i < 100) (hinc : ∀ i k : Nat, i < k → k < n → s 5 i < s 5 k) :
    fin xs fr lo 77 0 (ax_ent [.ref 232, .int (jI c)] 4) [] w (Ret fun u w' => w' = w ∧ ∃ f : Nat, u = some (.int (jI (f : Int))) ∧ isFrom (s 5) n c f) := by
  refine fi_step (pc' := 1) m_St_leadsBefore rfl rfl ?_
  refine fi_step (pc' := 2) m_St_leadsBefore rfl rfl ?_
  refine fi_step (pc' := 3) m_St_leadsBefore rfl rfl ?_
  refine fi_step (pc' := 4) m_St_leadsBefore rfl rfl ?_
  exact lb_loop hC h3 hn c0 c1 hl hinc n 0 0 (by omega) ⟨Nat.le_refl _, fun k hk => by omega, fun k a b => by omega⟩
end LD
