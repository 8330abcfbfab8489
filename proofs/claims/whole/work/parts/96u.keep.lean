/-! THE CLASS: the spare row is kept -/
/-- rows and leads moved on by one behind row i -/
def shf (s : mo_S) (n i : Nat) : mo_S := fun a => if a = 6 then (fun x => if (i : Int) < x ∧ x ≤ n then s 6 (x - 1) else s 6 x) else if a = 5 then (fun x => if (i : Int) < x ∧ x ≤ n then s 5 (x - 1) else s 5 x) else s a
theorem shf_6 (s : mo_S) (n i : Nat) : shf s n i 6 = fun x => if (i : Int) < x ∧ x ≤ n then s 6 (x - 1) else s 6 x := by unfold shf; rw [if_pos rfl]
theorem shf_5 (s : mo_S) (n i : Nat) : shf s n i 5 = fun x => if (i : Int) < x ∧ x ≤ n then s 5 (x - 1) else s 5 x := by unfold shf; rw [if_neg (by decide), if_pos rfl]
theorem shf_o (s : mo_S) (n i : Nat) {a : Nat} (h5 : a ≠ 5) (h6 : a ≠ 6) : shf s n i a = s a := by unfold shf; rw [if_neg h6, if_neg h5]
theorem shf_start (s : mo_S) (n : Nat) : shf s n n = s := by
  funext a
  by_cases h6 : a = 6
  · subst h6; rw [shf_6]; funext x; rw [if_neg (by omega)]
  · by_cases h5 : a = 5
    · subst h5; rw [shf_5]; funext x; rw [if_neg (by omega)]
    · exact shf_o s n n h5 h6
theorem shf_step (s : mo_S) {n i : Nat} (hi : i + 1 ≤ n) : up (up (shf s n (i + 1)) 6 ((i + 1 : Nat) : Int) (s 6 i)) 5 ((i + 1 : Nat) : Int) (s 5 i) = shf s n i := by
  funext a
  by_cases h6 : a = 6
  · subst h6
    rw [up_ne _ (by decide), up_same, shf_6, shf_6]
    funext x
    by_cases e : x = ((i + 1 : Nat) : Int)
    · subst e; rw [up1_same, if_pos (by omega), show ((i + 1 : Nat) : Int) - 1 = (i : Int) by omega]
    · rw [up1_ne _ e]
      by_cases e' : ((i + 1 : Nat) : Int) < x ∧ x ≤ n
      · rw [if_pos e', if_pos (by omega)]
      · rw [if_neg e', if_neg (by omega)]
  · by_cases h5 : a = 5
    · subst h5
      rw [up_same, up_ne _ (by decide), shf_5, shf_5]
      funext x
      by_cases e : x = ((i + 1 : Nat) : Int)
      · subst e; rw [up1_same, if_pos (by omega), show ((i + 1 : Nat) : Int) - 1 = (i : Int) by omega]
      · rw [up1_ne _ e]
        by_cases e' : ((i + 1 : Nat) : Int) < x ∧ x ≤ n
        · rw [if_pos e', if_pos (by omega)]
        · rw [if_neg e', if_neg (by omega)]
    · rw [up_ne _ h5, up_ne _ h6, shf_o _ _ _ h5 h6, shf_o _ _ _ h5 h6]
/-- row p with lead ld was put in place k; there are n rows more behind -/
def kps (s s' : mo_S) (k n ld : Nat) (p : Int) : Prop := (∀ a, a ≠ 0 → a ≠ 5 → a ≠ 6 → s' a = s a) ∧ (∀ i : Int, i ≠ 3 → s' 0 i = s 0 i) ∧ s' 0 3 = n + 1 ∧ (∀ i : Int, i < k → s' 6 i = s 6 i ∧ s' 5 i = s 5 i) ∧ (s' 6 k = p ∧ s' 5 k = ld) ∧ (∀ i : Int, k < i → i ≤ n → s' 6 i = s 6 (i - 1) ∧ s' 5 i = s 5 (i - 1)) ∧ ∀ i : Int, n < i → s' 6 i = s 6 i
theorem kps_of {s : mo_S} {k n ld : Nat} {p : Int} (hk : k ≤ n) (h3 : s 0 3 = n) : kps s (up (up (up (shf s n k) 6 k p) 5 k ld) 0 3 (n + 1)) k n ld p := by
  have e6 : (up (up (up (shf s n k) 6 k p) 5 k ld) 0 3 (n + 1)) 6 = up1 (fun x => if (k : Int) < x ∧ x ≤ n then s 6 (x - 1) else s 6 x) k p := by rw [up_ne _ (by decide), up_ne _ (by decide), up_same, shf_6]
  have e5 : (up (up (up (shf s n k) 6 k p) 5 k ld) 0 3 (n + 1)) 5 = up1 (fun x => if (k : Int) < x ∧ x ≤ n then s 5 (x - 1) else s 5 x) k ld := by rw [up_ne _ (by decide), up_same, up_ne _ (by decide), shf_5]
  refine ⟨fun a a0 a5 a6 => by rw [up_ne _ a0, up_ne _ a5, up_ne _ a6, shf_o _ _ _ a5 a6], fun i hi => by rw [up_same, up1_ne _ hi, up_ne _ (by decide), up_ne _ (by decide), shf_o _ _ _ (by decide) (by decide)], by rw [up_same, up1_same], fun i hi => ?_, ?_, fun i h1 h2 => ?_, fun i hi => ?_⟩
  · rw [e6, e5, up1_ne _ (by omega), up1_ne _ (by omega)]
    rw [if_neg (by omega), if_neg (by omega)]
    exact ⟨rfl, rfl⟩
  · rw [e6, e5, up1_same, up1_same]; exact ⟨rfl, rfl⟩
  · rw [e6, e5, up1_ne _ (by omega), up1_ne _ (by omega)]
    rw [if_pos (by omega), if_pos (by omega)]
    exact ⟨rfl, rfl⟩
  · rw [e6, up1_ne _ (by omega)]
    rw [if_neg (by omega)]
section KEEP
variable {xs : List Int32} {fr lo : Nat} {w0 w : ax_W} {s : mo_S} {v : Nat → Int} {L Z : Nat} {Q : Outcome → ax_W → Prop}
theorem ks_loop {k n p ld : Nat} (hn : n < 7) (hpm : ∀ i : Nat, i < 7 → 0 ≤ s 6 i ∧ s 6 i < 7)
    (K : ∀ w y, CW w0 w (shf s n k) v L Z → fin xs fr lo 73 94 [some (.ref 232), some (.int (jI (k : Int))), some (.ref (236 + 26 * p)), some (.int (jI (ld : Int))), y] [] w Q) :
    ∀ (m i : Nat) (w : ax_W), k + m = i → i ≤ n → CW w0 w (shf s n i) v L Z → fin xs fr lo 73 50 [some (.ref 232), some (.int (jI (k : Int))), some (.ref (236 + 26 * p)), some (.int (jI (ld : Int))), some (.int (jI (i : Int)))] [] w Q := by
  intro m
  induction m with
  | zero =>
    intro i w hi hin hC
    obtain rfl : i = k := by omega
    refine fi_step (pc' := 52) m_St_keepSpare rfl rfl ?_
    refine fi_step (pc' := 53) m_St_keepSpare rfl rfl ?_
    refine s_ic_le (p := 56) m_St_keepSpare rfl rfl (by omega) (by omega) (by omega) (by omega) (fun hbr => ?_) (fun hbr => False.elim (by omega))
    exact K w _ hC
  | succ m ih =>
    intro i w hi hin hC
    obtain ⟨i', rfl⟩ : ∃ i', i = i' + 1 := ⟨i - 1, by omega⟩
    have e6 : shf s n (i' + 1) 6 i' = s 6 i' := by rw [shf_6]; simp only; rw [if_neg (by omega)]
    have e5 : shf s n (i' + 1) 5 i' = s 5 i' := by rw [shf_5]; simp only; rw [if_neg (by omega)]
    have hr := hpm i' (by omega)
    refine fi_step (pc' := 52) m_St_keepSpare rfl rfl ?_
    refine fi_step (pc' := 53) m_St_keepSpare rfl rfl ?_
    refine s_ic_le (p := 56) m_St_keepSpare rfl rfl (by omega) (by omega) (by omega) (by omega) (fun hbr => False.elim (by omega)) (fun hbr => ?_)
    refine fi_step (pc' := 57) m_St_keepSpare rfl rfl ?_
    refine k_get (p := 60) m_St_keepSpare rfl rfl (by first | exact C_print hC | exact C_minors hC | exact C_stairs hC | exact (CW_cst hC).2.1 | exact C_mat hC (by omega) | exact ((CW_cst hC).2.2.2.2.2.2 _ (by omega)).1 | assumption) rfl ?_
    refine fi_step (pc' := 62) m_St_keepSpare rfl rfl ?_
    refine fi_step (pc' := 63) m_St_keepSpare rfl rfl ?_
    refine k_get (p := 66) m_St_keepSpare rfl rfl (by first | exact C_print hC | exact C_minors hC | exact C_stairs hC | exact (CW_cst hC).2.1 | exact C_mat hC (by omega) | exact ((CW_cst hC).2.2.2.2.2.2 _ (by omega)).1 | assumption) rfl ?_
    refine fi_step (pc' := 68) m_St_keepSpare rfl rfl ?_
    refine fi_step (pc' := 69) m_St_keepSpare rfl rfl ?_
    refine s_isub (p := 70) m_St_keepSpare rfl rfl ?_
    rw [show ((i' + 1 : Nat) : Int) - 1 = (i' : Int) by omega]
    refine r_ldR (p := 71) m_St_keepSpare rfl rfl hC (by omega) (by omega) ?_
    rw [e6]
    refine r_stR (p := 72) m_St_keepSpare rfl rfl hC (by omega) (by omega) (by omega) (fun w hC => ?_)
    rw [Int.toNat_of_nonneg hr.1] at hC
    refine fi_step (pc' := 73) m_St_keepSpare rfl rfl ?_
    refine k_get (p := 76) m_St_keepSpare rfl rfl (by first | exact C_print hC | exact C_minors hC | exact C_stairs hC | exact (CW_cst hC).2.1 | exact C_mat hC (by omega) | exact ((CW_cst hC).2.2.2.2.2.2 _ (by omega)).1 | assumption) rfl ?_
    refine fi_step (pc' := 78) m_St_keepSpare rfl rfl ?_
    refine fi_step (pc' := 79) m_St_keepSpare rfl rfl ?_
    refine k_get (p := 82) m_St_keepSpare rfl rfl (by first | exact C_print hC | exact C_minors hC | exact C_stairs hC | exact (CW_cst hC).2.1 | exact C_mat hC (by omega) | exact ((CW_cst hC).2.2.2.2.2.2 _ (by omega)).1 | assumption) rfl ?_
    refine fi_step (pc' := 84) m_St_keepSpare rfl rfl ?_
    refine fi_step (pc' := 85) m_St_keepSpare rfl rfl ?_
    refine s_isub (p := 86) m_St_keepSpare rfl rfl ?_
    rw [show ((i' + 1 : Nat) : Int) - 1 = (i' : Int) by omega]
    refine d_ldL (p := 87) m_St_keepSpare rfl rfl hC (by omega) (by omega) ?_
    rw [up_ne _ (by decide), e5]
    refine d_stL (p := 88) m_St_keepSpare rfl rfl hC (by omega) (by omega) (fun w hC => ?_)
    rw [shf_step s hin] at hC
    refine s_iinc (p := 91) m_St_keepSpare rfl rfl rfl ?_
    refine fi_step (pc' := 50) m_St_keepSpare rfl rfl ?_
    rw [show ((i' + 1 : Nat) : Int) + -1 = (i' : Int) by omega]
    exact ih i' w (by omega) (by omega) hC
theorem st_keepSpare {k n W p : Nat} (hC : CW w0 w s v L Z) (hfr : 3 ≤ fr) (hlo : 100 ≤ lo) (hkn : k ≤ n) (hn : n < 7) (h3 : s 0 3 = n) (hW : s 0 4 = W) (W12 : W ≤ 12) (hpm : ∀ i : Nat, i < 7 → 0 ≤ s 6 i ∧ s 6 i < 7) (ep : s 6 n = p) (hnz : ∃ j : Int, (0 ≤ j ∧ j < W) ∧ PR v p j ≠ 0) :
    fin xs fr lo 73 0 (ax_ent [.ref 232, .int (jI (k : Int))] 5) [] w (Ret fun u w' => u = none ∧ ∃ s' v' ld, CW w0 w' s' v' L Z ∧ kpR p v v' ∧ kps s s' k n ld p ∧ isLd (PR v p) W ld ∧ ld < W ∧ ((PR v' p = PR v p ∧ 0 < PR v p ld) ∨ (PR v' p = (fun j => - PR v p j) ∧ PR v p ld < 0))) := by
  have hp : p < 7 := by have := hpm n hn; omega
  refine fi_step (pc' := 1) m_St_keepSpare rfl rfl ?_
  refine k_get (p := 4) m_St_keepSpare rfl rfl (by first | exact C_print hC | exact C_minors hC | exact C_stairs hC | exact (CW_cst hC).2.1 | exact C_mat hC (by omega) | exact ((CW_cst hC).2.2.2.2.2.2 _ (by omega)).1 | assumption) rfl ?_
  refine fi_step (pc' := 5) m_St_keepSpare rfl rfl ?_
  refine k_get (p := 8) m_St_keepSpare rfl rfl (by first | exact C_print hC | exact C_minors hC | exact C_stairs hC | exact (CW_cst hC).2.1 | exact C_mat hC (by omega) | exact ((CW_cst hC).2.2.2.2.2.2 _ (by omega)).1 | assumption) rfl ?_
  rw [h3]
  refine r_ldR (p := 9) m_St_keepSpare rfl rfl hC (by omega) (by omega) ?_
  rw [ep, Int.toNat_natCast]
  refine fi_step (pc' := 10) m_St_keepSpare rfl rfl ?_
  refine fi_step (pc' := 11) m_St_keepSpare rfl rfl ?_
  refine fi_step (pc' := 12) m_St_keepSpare rfl rfl ?_
  refine k_get (p := 15) m_St_keepSpare rfl rfl (by first | exact C_print hC | exact C_minors hC | exact C_stairs hC | exact (CW_cst hC).2.1 | exact C_mat hC (by omega) | exact ((CW_cst hC).2.2.2.2.2.2 _ (by omega)).1 | assumption) rfl ?_
  rw [hW]
  refine g_2 (p := 18) m_St_keepSpare rfl inv_v (by decide) m_Ro_lead rfl rfl (by omega) (by omega) (Nat.le_of_ble_eq_true rfl) (Nat.le_of_ble_eq_true rfl) (C_rcvR hC (by omega) _) (ro_lead (E := W) hC hp W12 (by omega) (by omega)) (fun v w hP => ?_)
  obtain ⟨rfl, ld, rfl, hld⟩ := hP
  have hldW : ld < W := by
    obtain ⟨j, ⟨j0, j1⟩, hj⟩ := hnz
    refine Classical.byContradiction (fun hne => hj (hld.2.1 j ?_ j0))
    have := hld.1
    omega
  have hl0 := hld.2.2 hldW
  have eA := PR_at v p (show ld < 12 by omega)
  have iA : isWh (238 + 26 * p + 2 * ld) := i_row hp (by omega)
  have go : ∀ (w : ax_W) (v' : Nat → Int), CW w0 w s v' L Z → kpR p v v' → ((PR v' p = PR v p ∧ 0 < PR v p ld) ∨ (PR v' p = (fun j => - PR v p j) ∧ PR v p ld < 0)) → fin xs fr lo 73 44 [some (.ref 232), some (.int (jI (k : Int))), some (.ref (236 + 26 * p)), some (.int (jI (ld : Int))), none] [] w (Ret fun u w' => u = none ∧ ∃ s' v' ld, CW w0 w' s' v' L Z ∧ kpR p v v' ∧ kps s s' k n ld p ∧ isLd (PR v p) W ld ∧ ld < W ∧ ((PR v' p = PR v p ∧ 0 < PR v p ld) ∨ (PR v' p = (fun j => - PR v p j) ∧ PR v p ld < 0))) := by
    intro w v' hC hk hsg
    refine fi_step (pc' := 45) m_St_keepSpare rfl rfl ?_
    refine k_get (p := 48) m_St_keepSpare rfl rfl (by first | exact C_print hC | exact C_minors hC | exact C_stairs hC | exact (CW_cst hC).2.1 | exact C_mat hC (by omega) | exact ((CW_cst hC).2.2.2.2.2.2 _ (by omega)).1 | assumption) rfl ?_
    refine fi_step (pc' := 50) m_St_keepSpare rfl rfl ?_
    rw [h3]
    refine ks_loop (s := s) (v := v') hn hpm (fun w y hC => ?_) (n - k) n w (by omega) (Nat.le_refl _) (CW_congr hC (shf_start s n))
    refine fi_step (pc' := 95) m_St_keepSpare rfl rfl ?_
    refine k_get (p := 98) m_St_keepSpare rfl rfl (by first | exact C_print hC | exact C_minors hC | exact C_stairs hC | exact (CW_cst hC).2.1 | exact C_mat hC (by omega) | exact ((CW_cst hC).2.2.2.2.2.2 _ (by omega)).1 | assumption) rfl ?_
    refine fi_step (pc' := 99) m_St_keepSpare rfl rfl ?_
    refine fi_step (pc' := 100) m_St_keepSpare rfl rfl ?_
    refine r_stR (p := 101) m_St_keepSpare rfl rfl hC (by omega) (by omega) hp (fun w hC => ?_)
    refine fi_step (pc' := 102) m_St_keepSpare rfl rfl ?_
    refine k_get (p := 105) m_St_keepSpare rfl rfl (by first | exact C_print hC | exact C_minors hC | exact C_stairs hC | exact (CW_cst hC).2.1 | exact C_mat hC (by omega) | exact ((CW_cst hC).2.2.2.2.2.2 _ (by omega)).1 | assumption) rfl ?_
    refine fi_step (pc' := 106) m_St_keepSpare rfl rfl ?_
    refine fi_step (pc' := 107) m_St_keepSpare rfl rfl ?_
    refine d_stL (p := 108) m_St_keepSpare rfl rfl hC (by omega) (by omega) (fun w hC => ?_)
    have e3 : (up (up (shf s n k) 6 k p) 5 k ld) 0 3 = n := by rw [up_ne _ (by decide), up_ne _ (by decide), shf_o _ _ _ (by decide) (by decide)]; exact h3
    refine fi_step (pc' := 109) m_St_keepSpare rfl rfl ?_
    refine fi_step (pc' := 110) m_St_keepSpare rfl rfl ?_
    refine k_get (p := 113) m_St_keepSpare rfl rfl (by first | exact C_print hC | exact C_minors hC | exact C_stairs hC | exact (CW_cst hC).2.1 | exact C_mat hC (by omega) | exact ((CW_cst hC).2.2.2.2.2.2 _ (by omega)).1 | assumption) rfl ?_
    refine fi_step (pc' := 114) m_St_keepSpare rfl rfl ?_
    refine s_iadd (p := 115) m_St_keepSpare rfl rfl ?_
    rw [e3]
    refine c_put64 (p := 118) m_St_keepSpare rfl rfl hC (fun w hC => ?_)
    refine p_ret m_St_keepSpare rfl rfl ?_
    exact ⟨rfl, _, v', ld, hC, hk, kps_of hkn h3, hld, hldW, hsg⟩
  obtain ⟨d, cap, f, kk, b, hw, hv, _, _⟩ := CW_TW hC iA
  have hneg := Wv_neg hv
  have hb01 := Wv_b hv
  refine fi_step (pc' := 19) m_St_keepSpare rfl rfl ?_
  refine fi_step (pc' := 20) m_St_keepSpare rfl rfl ?_
  refine fi_step (pc' := 21) m_St_keepSpare rfl rfl ?_
  refine k_get (p := 24) m_St_keepSpare rfl rfl (by first | exact C_print hC | exact C_minors hC | exact C_stairs hC | exact (CW_cst hC).2.1 | exact C_mat hC (by omega) | exact ((CW_cst hC).2.2.2.2.2.2 _ (by omega)).1 | assumption) rfl ?_
  refine s_ic_ne (p := 27) m_St_keepSpare rfl rfl (by omega) (by omega) (by omega) (by omega) (fun hbr => ?_) (fun hbr => False.elim (by omega))
  refine fi_step (pc' := 29) m_St_keepSpare rfl rfl ?_
  refine k_get (p := 32) m_St_keepSpare rfl rfl (by first | exact C_print hC | exact C_minors hC | exact C_stairs hC | exact (CW_cst hC).2.1 | exact C_mat hC (by omega) | exact ((CW_cst hC).2.2.2.2.2.2 _ (by omega)).1 | assumption) rfl ?_
  refine fi_step (pc' := 33) m_St_keepSpare rfl rfl ?_
  refine r_ldN (p := 34) m_St_keepSpare rfl rfl hC hp (by omega) (by omega) ?_
  rw [Int.toNat_natCast]
  by_cases hs : PR v p ld < 0
  · first | refine t_get (p := 37) m_St_keepSpare rfl rfl (by assumption) rfl ?_ | refine o_get (p := 37) m_St_keepSpare rfl rfl (by assumption) (by assumption) rfl ?_
    refine s_if_eq (p := 40) m_St_keepSpare rfl rfl (by omega) (by omega) (fun hbr => False.elim (by omega)) (fun hbr => ?_)
    refine fi_step (pc' := 41) m_St_keepSpare rfl rfl ?_
    refine g_1 (p := 44) m_St_keepSpare rfl inv_v (by decide) m_Ro_turnSigns rfl rfl (by omega) (by omega) (Nat.le_of_ble_eq_true rfl) (Nat.le_of_ble_eq_true rfl) (C_rcvR hC (by omega) _) (ro_turnSigns hC hp (by omega) (by omega)) (fun v w hP => ?_)
    obtain ⟨rfl, v1, hC, k1, e1⟩ := hP
    exact go w v1 hC k1 (Or.inr ⟨e1, hs⟩)
  · first | refine t_get (p := 37) m_St_keepSpare rfl rfl (by assumption) rfl ?_ | refine o_get (p := 37) m_St_keepSpare rfl rfl (by assumption) (by assumption) rfl ?_
    refine s_if_eq (p := 40) m_St_keepSpare rfl rfl (by omega) (by omega) (fun hbr => ?_) (fun hbr => False.elim (by omega))
    exact go w v hC (fun _ _ => rfl) (Or.inl ⟨rfl, by omega⟩)
end KEEP
