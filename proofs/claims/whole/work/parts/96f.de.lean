/-! THE CLASS: throws; its simple calls -/
/-- a call throws: class t's exception, a new cell -/
def Thr (t : Nat) (w : ax_W) : Outcome → ax_W → Prop := fun o w' => o = .threw w.length ∧ w' = w ++ [(t, [])]
theorem app_at (w : ax_W) (q : Nat × List Value) : (w ++ [q])[w.length]? = some q := by simp
section THR
variable {xs : List Int32} {fr lo z pc p l zc b u u0 u1 u2 u3 i0 i1 i2 i3 b3 t k : Nat} {i : Instr} {ls : List (Option Value)} {st rest : List Value} {w w0 : ax_W} {Q : Outcome → ax_W → Prop} {M : ax_M} {kc : List (Option ax_E)} {nl rc : Nat} {tb : List (Nat × Nat × Nat × Nat)} {x0 x1 x2 x3 x4 x5 : Value} {s : mo_S} {v : Nat → Int} {L Z : Nat}
theorem x_spc {r : List Value} (ht : t = 9 ∨ t = 10) (hk : 2 ≤ k) (hfr : 7 ≤ fr) (hlo : 200 ≤ lo) (hr : (r.map ax_wt).sum ≤ 8) : ax_spc fr lo 1001 (.retAddr k :: .ref w.length :: r) (w ++ [(t, ax_xf)]) = some (r, w ++ [(t, [])]) := by
  simp only [ax_spc, app_at]
  rw [if_neg (by omega), if_neg (by omega), if_neg (by omega), if_neg (by omega)]
  have e : ∀ q : Nat × List Value, (w ++ [(t, ax_xf)]).set w.length q = w ++ [q] := fun q => by rw [List.set_append_right _ _ (Nat.le_refl _)]; simp
  simp only [e]
  rcases ht with rfl | rfl <;> simp
theorem x_thr (hM : ax_prog[z]? = some M) (h0 : M.1[pc]? = some (some (.new i0, 3, t, 0, u0))) (h1 : M.1[pc + 3]? = some (some (.dup, 1, u, u1, u2))) (h2 : M.1[pc + 4]? = some (some (.ldc i2, 2, k, 1, b))) (h3 : M.1[pc + 6]? = some (some (.invokespecial i3, 3, 1001, b3, u3))) (h4 : M.1[pc + 9]? = some (some (.athrow, l, zc, nl, rc))) (hemp : M.2.2.2.isEmpty = true) (hfr : 7 ≤ fr) (hlo : 200 ≤ lo) (ht : t = 9 ∨ t = 10) (hk : 2 ≤ k) : fin xs fr lo z pc ls [] w (Thr t w) := by
  refine fi_hp hM h0 rfl rfl rfl (st' := [.ref w.length]) (w1 := w ++ [(t, ax_xf)]) (by rcases ht with rfl | rfl <;> rfl) ?_
  refine fi_step (pc' := pc + 4) (st' := [.ref w.length, .ref w.length]) (ls' := ls) (w1 := w ++ [(t, ax_xf)]) hM h1 rfl ?_
  refine fi_step (pc' := pc + 6) (st' := [.retAddr k, .ref w.length, .ref w.length]) (ls' := ls) (w1 := w ++ [(t, ax_xf)]) hM h2 rfl ?_
  refine fi_spc hM h3 inv_p (Nat.le_of_ble_eq_true rfl) (x_spc ht hk hfr hlo (Nat.le_of_ble_eq_true rfl)) ?_
  exact fi_throw hM h4 rfl hemp ⟨rfl, rfl⟩
theorem t_2 (hM : ax_prog[z]? = some M) (he : M.1[pc]? = some (some (i, l, zc, b, u3))) (hi : ax_isinv i) (hz : zc < 1000) (hM' : ax_prog[zc]? = some (kc, nl, rc, tb)) (hb : b % 100 = 2) (hfr : 1 ≤ fr) (hlo : nl + 19 ≤ lo) (hwt : (rest.map ax_wt).sum ≤ 8) (hsl : (ax_sl [x0, x1]).length ≤ nl) (hrc : ax_rcv (b / 100) [x0, x1] w = true)
    (hc : fin xs (fr - 1) (lo - (nl + 19)) zc 0 (ax_ent [x0, x1] nl) [] w (Thr t w)) (hemp : M.2.2.2 = []) : fin xs fr lo z pc ls (x1 :: x0 :: rest) w (Thr t w) := by
  refine fi_call hM he hi rfl rfl hz hM' hfr hlo (as := [x0, x1]) rfl hb.symm hwt hsl hrc hc (fun v' w1 h => by cases h.1) (fun j w1 h => ⟨t, [], ?_, Or.inl ⟨hemp, h⟩⟩)
  obtain ⟨e1, e2⟩ := h
  cases e1; subst e2; exact app_at _ _
theorem t_4 (hM : ax_prog[z]? = some M) (he : M.1[pc]? = some (some (i, l, zc, b, u3))) (hi : ax_isinv i) (hz : zc < 1000) (hM' : ax_prog[zc]? = some (kc, nl, rc, tb)) (hb : b % 100 = 4) (hfr : 1 ≤ fr) (hlo : nl + 19 ≤ lo) (hwt : (rest.map ax_wt).sum ≤ 8) (hsl : (ax_sl [x0, x1, x2, x3]).length ≤ nl) (hrc : ax_rcv (b / 100) [x0, x1, x2, x3] w = true)
    (hc : fin xs (fr - 1) (lo - (nl + 19)) zc 0 (ax_ent [x0, x1, x2, x3] nl) [] w (Thr t w)) (hemp : M.2.2.2 = []) : fin xs fr lo z pc ls (x3 :: x2 :: x1 :: x0 :: rest) w (Thr t w) := by
  refine fi_call hM he hi rfl rfl hz hM' hfr hlo (as := [x0, x1, x2, x3]) rfl hb.symm hwt hsl hrc hc (fun v' w1 h => by cases h.1) (fun j w1 h => ⟨t, [], ?_, Or.inl ⟨hemp, h⟩⟩)
  obtain ⟨e1, e2⟩ := h
  cases e1; subst e2; exact app_at _ _
theorem rg_get {f : Nat → Value} {n : Nat} {x : Int} (h0 : 0 ≤ x) (h1 : x < n) (hn : n < 100000) : ((List.range n).map f)[(jI x).toNatClampNeg]? = some (f x.toNat) := by
  rw [jI_nat h0 (by omega), List.getElem?_map, List.getElem?_range (by omega)]; rfl
theorem d_ld {m : Int} (hM : ax_prog[z]? = some M) (he : M.1[pc]? = some (some (.aaload, l, u1, u2, u3))) (hp : pc + l = p) (hC : CW w0 w s v L Z) (h0 : 0 ≤ m) (h1 : m < 6) (kk : fin xs fr lo z p ls (.ref (2 + 2 * m.toNat) :: st) w Q) : fin xs fr lo z pc ls (.int (jI m) :: .ref 1 :: st) w Q := by
  subst hp
  exact fi_aald hM he (CW_cst hC).2.2.1 (by decide) (jI_nn h0 (by omega)) (rg_get (f := fun (m : Nat) => .ref (2 + 2 * m)) h0 h1 (by decide)) kk
theorem p_ld {j : Int} (hM : ax_prog[z]? = some M) (he : M.1[pc]? = some (some (.caload, l, u1, u2, u3))) (hp : pc + l = p) (hC : CW w0 w s v L Z) (h0 : 0 ≤ j) (h1 : j < 256) (kk : fin xs fr lo z p ls (.int (jI (s 4 j)) :: st) w Q) : fin xs fr lo z pc ls (.int (jI j) :: .ref 17 :: st) w Q := by
  subst hp
  exact fi_cald hM he (C_letters hC) (jI_nn h0 (by omega)) (by rw [jI_nat h0 (by omega)]; exact aI_get h0 h1) kk
end THR
/-- its matrices, as the reference names them -/
def rf (s : mo_S) : mo_S := fun a => if a = 4 then (fun x => if 0 ≤ x ∧ x < 216 then s 1 x else 0) else if a = 5 then (fun m => if 0 ≤ m ∧ m < 6 then s 2 m else 0) else if a = 6 then (fun m => if 0 ≤ m ∧ m < 6 then s 3 m else 0) else fun _ => 0
theorem rf_4e (s : mo_S) : rf s 4 = fun x => if 0 ≤ x ∧ x < 216 then s 1 x else 0 := rfl
theorem rf_5e (s : mo_S) : rf s 5 = fun m => if 0 ≤ m ∧ m < 6 then s 2 m else 0 := rfl
theorem rf_6e (s : mo_S) : rf s 6 = fun m => if 0 ≤ m ∧ m < 6 then s 3 m else 0 := rfl
theorem rf_4 (s : mo_S) {x : Int} (h0 : 0 ≤ x) (h1 : x < 216) : rf s 4 x = s 1 x := by unfold rf; rw [if_pos rfl, if_pos ⟨h0, h1⟩]
theorem rf_5 (s : mo_S) {m : Int} (h0 : 0 ≤ m) (h1 : m < 6) : rf s 5 m = s 2 m := by unfold rf; rw [if_neg (by decide), if_pos rfl, if_pos ⟨h0, h1⟩]
theorem rf_6 (s : mo_S) {m : Int} (h0 : 0 ≤ m) (h1 : m < 6) : rf s 6 m = s 3 m := by unfold rf; rw [if_neg (by decide), if_neg (by decide), if_pos rfl, if_pos ⟨h0, h1⟩]
theorem rf_eq {s s' : mo_S} (h1 : ∀ x, 0 ≤ x → x < 216 → s' 1 x = s 1 x) (h2 : ∀ m, 0 ≤ m → m < 6 → s' 2 m = s 2 m) (h3 : ∀ m, 0 ≤ m → m < 6 → s' 3 m = s 3 m) : rf s' = rf s := by
  unfold rf
  funext a
  split
  · funext x; split
    · rename_i h; exact h1 x h.1 h.2
    · rfl
  · split
    · funext m; split
      · rename_i h; exact h2 m h.1 h.2
      · rfl
    · split
      · funext m; split
        · rename_i h; exact h3 m h.1 h.2
        · rfl
      · rfl
/-- a new matrix in place to; what the result holds doesn't matter -/
theorem rf_given {s : mo_S} {to R C : Int} {g : Int → Int → Int} (t0 : 0 ≤ to) (t1 : to < 6) : given (rf s) (rf (gvM s to R C g)) to R C g := by
  refine ⟨?_, ?_, ?_⟩
  · funext m
    by_cases e : m = to
    · subst e; rw [rf_5 _ t0 t1, gvM_2, up1_same, up1_same]
    · rw [up1_ne _ e]
      rw [rf_5e, rf_5e]
      simp only [gvM_2, up1_ne _ e]
  · funext m
    by_cases e : m = to
    · subst e; rw [rf_6 _ t0 t1, gvM_3, up1_same, up1_same]
    · rw [up1_ne _ e]
      rw [rf_6e, rf_6e]
      simp only [gvM_3, up1_ne _ e]
  · funext x
    rw [rf_4e, rf_4e]
    simp only [gvM_1]
    unfold newN
    by_cases h : 0 ≤ x ∧ x < 216
    · simp only [if_pos h]
    · simp only [if_neg h]
      rw [if_neg (by omega)]
theorem rf_res {s : mo_S} {R C : Int} {g : Int → Int → Int} : rf (gvM s 6 R C g) = rf s := by
  refine rf_eq (fun x x0 x1 => ?_) (fun m m0 m1 => ?_) (fun m m0 m1 => ?_)
  · rw [gvM_1, newN_out (by omega)]
  · rw [gvM_2, up1_ne _ (by omega)]
  · rw [gvM_3, up1_ne _ (by omega)]
theorem rf_dim {s : mo_S} {m : Nat} (h : MI (rf s)) (hm : m < 6) : dimC s m := by
  have h1 := h.1 m (by omega) (by omega)
  have h2 := h.2.1 m (by omega) (by omega)
  rw [rf_5 _ (by omega) (by omega)] at h1
  rw [rf_6 _ (by omega) (by omega)] at h2
  unfold dimC; omega
theorem rf_num {s : mo_S} (h : MI (rf s)) {x : Int} (x0 : 0 ≤ x) (x1 : x < 216) : -1000000000000000000 < s 1 x ∧ s 1 x < 1000000000000000000 := by
  have h1 := h.2.2 x x0 x1
  rw [rf_4 _ x0 x1] at h1
  exact h1
/-- what holds of the class between calls -/
def okC (s : mo_S) (v : Nat → Int) : Prop := MI (rf s) ∧ v 27 = 1 ∧ v 104 = 1 ∧ (∀ i : Nat, i < 7 → 0 ≤ s 6 i ∧ s 6 i < 7) ∧ (∀ i j : Nat, i < 7 → j < 7 → s 6 i = s 6 j → i = j) ∧ 0 ≤ s 0 0 ∧ s 0 0 ≤ 256
/-- what lies outside the matrices and the print stays -/
def kpM (s s' : mo_S) : Prop := s' 0 0 = s 0 0 ∧ s' 4 = s 4
section DE
variable {xs : List Int32} {fr lo : Nat} {w w0 : ax_W} {s : mo_S} {v : Nat → Int} {L Z : Nat}
theorem de_matrix {m : Nat} (hC : CW w0 w s v L Z) (hm : m < 6) : fin xs fr lo 21 0 (ax_ent [.ref 0, .int (jI (m : Int))] 2) [] w (Same (.ref (2 + 2 * m)) w) := by
  refine fi_step (pc' := 1) m_De_matrix rfl rfl ?_
  refine s_if_lt (p := 4) m_De_matrix rfl rfl (by omega) (by omega) (fun hbr => False.elim (by omega)) (fun hbr => ?_)
  refine fi_step (pc' := 5) m_De_matrix rfl rfl ?_
  refine s_bipush (p := 7) m_De_matrix rfl rfl rfl ?_
  refine s_ic_lt (p := 10) m_De_matrix rfl rfl (by omega) (by omega) (by omega) (by omega) (fun hbr => ?_) (fun hbr => False.elim (by omega))
  refine fi_step (pc' := 21) m_De_matrix rfl rfl ?_
  refine k_get (p := 24) m_De_matrix rfl rfl (by first | exact C_print hC | exact C_minors hC | exact C_stairs hC | exact (CW_cst hC).2.1 | exact C_mat hC (by omega) | assumption) rfl ?_
  refine fi_step (pc' := 25) m_De_matrix rfl rfl ?_
  refine d_ld (p := 26) m_De_matrix rfl rfl hC (by omega) (by omega) ?_
  rw [Int.toNat_natCast]
  exact s_reta m_De_matrix rfl rfl
theorem de_matrixT {m : Int} (m0 : -2147483648 ≤ m) (m1 : m < 2147483648) (hm : ¬ (0 ≤ m ∧ m < 6)) (hfr : 7 ≤ fr) (hlo : 200 ≤ lo) : fin xs fr lo 21 0 (ax_ent [.ref 0, .int (jI m)] 2) [] w (Thr 9 w) := by
  by_cases h : m < 0
  · refine fi_step (pc' := 1) m_De_matrix rfl rfl ?_
    refine s_if_lt (p := 4) m_De_matrix rfl rfl (by omega) (by omega) (fun hbr => ?_) (fun hbr => False.elim (by omega))
    exact x_thr m_De_matrix rfl rfl rfl rfl rfl rfl (by omega) (by omega) (by decide) (by decide)
  · refine fi_step (pc' := 1) m_De_matrix rfl rfl ?_
    refine s_if_lt (p := 4) m_De_matrix rfl rfl (by omega) (by omega) (fun hbr => False.elim (by omega)) (fun hbr => ?_)
    refine fi_step (pc' := 5) m_De_matrix rfl rfl ?_
    refine s_bipush (p := 7) m_De_matrix rfl rfl rfl ?_
    refine s_ic_lt (p := 10) m_De_matrix rfl rfl (by omega) (by omega) (by omega) (by omega) (fun hbr => False.elim (by omega)) (fun hbr => ?_)
    exact x_thr m_De_matrix rfl rfl rfl rfl rfl rfl (by omega) (by omega) (by decide) (by decide)
theorem de_matrixWith {m : Nat} {i j : Int} (hC : CW w0 w s v L Z) (hM : MI (rf s)) (hm : m < 6) (h0 : 0 ≤ i) (h1 : i < s 2 m) (h2 : 0 ≤ j) (h3 : j < s 3 m) (hfr : 1 ≤ fr) (hlo : 30 ≤ lo) : fin xs fr lo 26 0 (ax_ent [.ref 0, .int (jI (m : Int)), .int (jI i), .int (jI j)] 5) [] w (Same (.ref (2 + 2 * m)) w) := by
  have hd := rf_dim hM hm
  have hh := ma_has (xs := xs) (fr := fr - 1) (lo := lo - 22) (i := i) (j := j) hC (show m < 7 by omega) hd (by omega) (by unfold dimC at hd; omega) (by omega) (by unfold dimC at hd; omega)
  rw [if_pos (by omega)] at hh
  refine fi_step (pc' := 1) m_De_matrixWith rfl rfl ?_
  refine fi_step (pc' := 2) m_De_matrixWith rfl rfl ?_
  refine c_2 (p := 5) m_De_matrixWith rfl inv_v (by decide) m_De_matrix rfl rfl (by omega) (by omega) (Nat.le_of_ble_eq_true rfl) (Nat.le_of_ble_eq_true rfl) (C_rcvD hC _) (de_matrix hC hm) ?_
  refine fi_step (pc' := 7) m_De_matrixWith rfl rfl ?_
  refine fi_step (pc' := 9) m_De_matrixWith rfl rfl ?_
  refine fi_step (pc' := 10) m_De_matrixWith rfl rfl ?_
  refine fi_step (pc' := 11) m_De_matrixWith rfl rfl ?_
  refine c_3 (p := 14) m_De_matrixWith rfl inv_v (by decide) m_Ma_has rfl rfl (by omega) (by omega) (Nat.le_of_ble_eq_true rfl) (Nat.le_of_ble_eq_true rfl) (C_rcvM hC (by omega) _) hh ?_
  refine s_if_ne (p := 17) m_De_matrixWith rfl rfl (by omega) (by omega) (fun hbr => ?_) (fun hbr => False.elim (by omega))
  refine fi_step (pc' := 29) m_De_matrixWith rfl rfl ?_
  exact s_reta m_De_matrixWith rfl rfl
theorem de_matrixWithT {m i j : Int} (hC : CW w0 w s v L Z) (hM : MI (rf s)) (m0 : -2147483648 ≤ m) (m1 : m < 2147483648) (i0 : -2147483648 ≤ i) (i1 : i < 2147483648) (j0 : -2147483648 ≤ j) (j1 : j < 2147483648) (hm : ¬ ((0 ≤ m ∧ m < 6) ∧ (0 ≤ i ∧ i < s 2 m) ∧ 0 ≤ j ∧ j < s 3 m)) (hfr : 8 ≤ fr) (hlo : 230 ≤ lo) : fin xs fr lo 26 0 (ax_ent [.ref 0, .int (jI m), .int (jI i), .int (jI j)] 5) [] w (Thr 9 w) := by
  by_cases h : 0 ≤ m ∧ m < 6
  · obtain ⟨m, rfl⟩ := Int.eq_ofNat_of_zero_le h.1
    have hm6 : m < 6 := by omega
    have hd := rf_dim hM hm6
    have hh := ma_has (xs := xs) (fr := fr - 1) (lo := lo - 22) (i := i) (j := j) hC (show m < 7 by omega) hd i0 i1 j0 j1
    rw [if_neg (by omega)] at hh
    refine fi_step (pc' := 1) m_De_matrixWith rfl rfl ?_
    refine fi_step (pc' := 2) m_De_matrixWith rfl rfl ?_
    refine c_2 (p := 5) m_De_matrixWith rfl inv_v (by decide) m_De_matrix rfl rfl (by omega) (by omega) (Nat.le_of_ble_eq_true rfl) (Nat.le_of_ble_eq_true rfl) (C_rcvD hC _) (de_matrix hC hm6) ?_
    refine fi_step (pc' := 7) m_De_matrixWith rfl rfl ?_
    refine fi_step (pc' := 9) m_De_matrixWith rfl rfl ?_
    refine fi_step (pc' := 10) m_De_matrixWith rfl rfl ?_
    refine fi_step (pc' := 11) m_De_matrixWith rfl rfl ?_
    refine c_3 (p := 14) m_De_matrixWith rfl inv_v (by decide) m_Ma_has rfl rfl (by omega) (by omega) (Nat.le_of_ble_eq_true rfl) (Nat.le_of_ble_eq_true rfl) (C_rcvM hC (by omega) _) hh ?_
    refine s_if_ne (p := 17) m_De_matrixWith rfl rfl (by omega) (by omega) (fun hbr => False.elim (by omega)) (fun hbr => ?_)
    exact x_thr m_De_matrixWith rfl rfl rfl rfl rfl rfl (by omega) (by omega) (by decide) (by decide)
  · refine fi_step (pc' := 1) m_De_matrixWith rfl rfl ?_
    refine fi_step (pc' := 2) m_De_matrixWith rfl rfl ?_
    exact t_2 m_De_matrixWith rfl inv_v (by decide) m_De_matrix rfl (by omega) (by omega) (Nat.le_of_ble_eq_true rfl) (Nat.le_of_ble_eq_true rfl) (C_rcvD hC _) (de_matrixT m0 m1 h (by omega) (by omega)) rfl
theorem de_make {m : Nat} {r c : Int} (hC : CW w0 w s v L Z) (hm : m < 6) (h : (1 ≤ r ∧ r ≤ 6) ∧ 1 ≤ c ∧ c ≤ 6) (hfr : 2 ≤ fr) (hlo : 80 ≤ lo) : fin xs fr lo 20 0 (ax_ent [.ref 0, .int (jI (m : Int)), .int (jI r), .int (jI c)] 5) [] w (Ret fun u w' => u = none ∧ CW w0 w' (gvM s m r c (fun _ _ => 0)) v L Z) := by
  refine fi_step (pc' := 1) m_De_make rfl rfl ?_
  refine fi_step (pc' := 2) m_De_make rfl rfl ?_
  refine c_2 (p := 5) m_De_make rfl inv_v (by decide) m_De_matrix rfl rfl (by omega) (by omega) (Nat.le_of_ble_eq_true rfl) (Nat.le_of_ble_eq_true rfl) (C_rcvD hC _) (de_matrix hC hm) ?_
  refine fi_step (pc' := 7) m_De_make rfl rfl ?_
  refine fi_step (pc' := 8) m_De_make rfl rfl ?_
  refine fi_step (pc' := 9) m_De_make rfl rfl ?_
  refine s_ic_lt (p := 12) m_De_make rfl rfl (by omega) (by omega) (by omega) (by omega) (fun hbr => False.elim (by omega)) (fun hbr => ?_)
  refine fi_step (pc' := 13) m_De_make rfl rfl ?_
  refine s_bipush (p := 15) m_De_make rfl rfl rfl ?_
  refine s_ic_gt (p := 18) m_De_make rfl rfl (by omega) (by omega) (by omega) (by omega) (fun hbr => False.elim (by omega)) (fun hbr => ?_)
  refine fi_step (pc' := 19) m_De_make rfl rfl ?_
  refine fi_step (pc' := 20) m_De_make rfl rfl ?_
  refine s_ic_lt (p := 23) m_De_make rfl rfl (by omega) (by omega) (by omega) (by omega) (fun hbr => False.elim (by omega)) (fun hbr => ?_)
  refine fi_step (pc' := 24) m_De_make rfl rfl ?_
  refine s_bipush (p := 26) m_De_make rfl rfl rfl ?_
  refine s_ic_le (p := 29) m_De_make rfl rfl (by omega) (by omega) (by omega) (by omega) (fun hbr => ?_) (fun hbr => False.elim (by omega))
  refine fi_step (pc' := 41) m_De_make rfl rfl ?_
  refine fi_step (pc' := 42) m_De_make rfl rfl ?_
  refine fi_step (pc' := 43) m_De_make rfl rfl ?_
  refine g_3 (p := 46) m_De_make rfl inv_v (by decide) m_Ma_reset rfl rfl (by omega) (by omega) (Nat.le_of_ble_eq_true rfl) (Nat.le_of_ble_eq_true rfl) (C_rcvM hC (by omega) _) (ma_reset hC (show m < 7 by omega) (by omega) (by omega)) (fun v w hP => ?_)
  obtain ⟨rfl, hC⟩ := hP
  refine p_ret m_De_make rfl rfl ?_
  exact ⟨rfl, hC⟩
theorem de_makeT9 {m r c : Int} (hC : CW w0 w s v L Z) (m0 : -2147483648 ≤ m) (m1 : m < 2147483648) (hm : ¬ (0 ≤ m ∧ m < 6)) (hfr : 8 ≤ fr) (hlo : 230 ≤ lo) : fin xs fr lo 20 0 (ax_ent [.ref 0, .int (jI m), .int (jI r), .int (jI c)] 5) [] w (Thr 9 w) := by
  refine fi_step (pc' := 1) m_De_make rfl rfl ?_
  refine fi_step (pc' := 2) m_De_make rfl rfl ?_
  exact t_2 m_De_make rfl inv_v (by decide) m_De_matrix rfl (by omega) (by omega) (Nat.le_of_ble_eq_true rfl) (Nat.le_of_ble_eq_true rfl) (C_rcvD hC _) (de_matrixT m0 m1 hm (by omega) (by omega)) rfl
theorem de_makeT10 {m : Nat} {r c : Int} (hC : CW w0 w s v L Z) (hm : m < 6) (r0 : -2147483648 ≤ r) (r1 : r < 2147483648) (c0 : -2147483648 ≤ c) (c1 : c < 2147483648) (h : ¬ ((1 ≤ r ∧ r ≤ 6) ∧ 1 ≤ c ∧ c ≤ 6)) (hfr : 8 ≤ fr) (hlo : 230 ≤ lo) : fin xs fr lo 20 0 (ax_ent [.ref 0, .int (jI (m : Int)), .int (jI r), .int (jI c)] 5) [] w (Thr 10 w) := by
  refine fi_step (pc' := 1) m_De_make rfl rfl ?_
  refine fi_step (pc' := 2) m_De_make rfl rfl ?_
  by_cases h1 : 1 ≤ r
  · by_cases h2 : r ≤ 6
    · by_cases h3 : 1 ≤ c
      · refine c_2 (p := 5) m_De_make rfl inv_v (by decide) m_De_matrix rfl rfl (by omega) (by omega) (Nat.le_of_ble_eq_true rfl) (Nat.le_of_ble_eq_true rfl) (C_rcvD hC _) (de_matrix hC hm) ?_
        refine fi_step (pc' := 7) m_De_make rfl rfl ?_
        refine fi_step (pc' := 8) m_De_make rfl rfl ?_
        refine fi_step (pc' := 9) m_De_make rfl rfl ?_
        refine s_ic_lt (p := 12) m_De_make rfl rfl (by omega) (by omega) (by omega) (by omega) (fun hbr => False.elim (by omega)) (fun hbr => ?_)
        refine fi_step (pc' := 13) m_De_make rfl rfl ?_
        refine s_bipush (p := 15) m_De_make rfl rfl rfl ?_
        refine s_ic_gt (p := 18) m_De_make rfl rfl (by omega) (by omega) (by omega) (by omega) (fun hbr => False.elim (by omega)) (fun hbr => ?_)
        refine fi_step (pc' := 19) m_De_make rfl rfl ?_
        refine fi_step (pc' := 20) m_De_make rfl rfl ?_
        refine s_ic_lt (p := 23) m_De_make rfl rfl (by omega) (by omega) (by omega) (by omega) (fun hbr => False.elim (by omega)) (fun hbr => ?_)
        refine fi_step (pc' := 24) m_De_make rfl rfl ?_
        refine s_bipush (p := 26) m_De_make rfl rfl rfl ?_
        refine s_ic_le (p := 29) m_De_make rfl rfl (by omega) (by omega) (by omega) (by omega) (fun hbr => False.elim (by omega)) (fun hbr => ?_)
        exact x_thr m_De_make rfl rfl rfl rfl rfl rfl (by omega) (by omega) (by decide) (by decide)
      · refine c_2 (p := 5) m_De_make rfl inv_v (by decide) m_De_matrix rfl rfl (by omega) (by omega) (Nat.le_of_ble_eq_true rfl) (Nat.le_of_ble_eq_true rfl) (C_rcvD hC _) (de_matrix hC hm) ?_
        refine fi_step (pc' := 7) m_De_make rfl rfl ?_
        refine fi_step (pc' := 8) m_De_make rfl rfl ?_
        refine fi_step (pc' := 9) m_De_make rfl rfl ?_
        refine s_ic_lt (p := 12) m_De_make rfl rfl (by omega) (by omega) (by omega) (by omega) (fun hbr => False.elim (by omega)) (fun hbr => ?_)
        refine fi_step (pc' := 13) m_De_make rfl rfl ?_
        refine s_bipush (p := 15) m_De_make rfl rfl rfl ?_
        refine s_ic_gt (p := 18) m_De_make rfl rfl (by omega) (by omega) (by omega) (by omega) (fun hbr => False.elim (by omega)) (fun hbr => ?_)
        refine fi_step (pc' := 19) m_De_make rfl rfl ?_
        refine fi_step (pc' := 20) m_De_make rfl rfl ?_
        refine s_ic_lt (p := 23) m_De_make rfl rfl (by omega) (by omega) (by omega) (by omega) (fun hbr => ?_) (fun hbr => False.elim (by omega))
        exact x_thr m_De_make rfl rfl rfl rfl rfl rfl (by omega) (by omega) (by decide) (by decide)
    · refine c_2 (p := 5) m_De_make rfl inv_v (by decide) m_De_matrix rfl rfl (by omega) (by omega) (Nat.le_of_ble_eq_true rfl) (Nat.le_of_ble_eq_true rfl) (C_rcvD hC _) (de_matrix hC hm) ?_
      refine fi_step (pc' := 7) m_De_make rfl rfl ?_
      refine fi_step (pc' := 8) m_De_make rfl rfl ?_
      refine fi_step (pc' := 9) m_De_make rfl rfl ?_
      refine s_ic_lt (p := 12) m_De_make rfl rfl (by omega) (by omega) (by omega) (by omega) (fun hbr => False.elim (by omega)) (fun hbr => ?_)
      refine fi_step (pc' := 13) m_De_make rfl rfl ?_
      refine s_bipush (p := 15) m_De_make rfl rfl rfl ?_
      refine s_ic_gt (p := 18) m_De_make rfl rfl (by omega) (by omega) (by omega) (by omega) (fun hbr => ?_) (fun hbr => False.elim (by omega))
      exact x_thr m_De_make rfl rfl rfl rfl rfl rfl (by omega) (by omega) (by decide) (by decide)
  · refine c_2 (p := 5) m_De_make rfl inv_v (by decide) m_De_matrix rfl rfl (by omega) (by omega) (Nat.le_of_ble_eq_true rfl) (Nat.le_of_ble_eq_true rfl) (C_rcvD hC _) (de_matrix hC hm) ?_
    refine fi_step (pc' := 7) m_De_make rfl rfl ?_
    refine fi_step (pc' := 8) m_De_make rfl rfl ?_
    refine fi_step (pc' := 9) m_De_make rfl rfl ?_
    refine s_ic_lt (p := 12) m_De_make rfl rfl (by omega) (by omega) (by omega) (by omega) (fun hbr => ?_) (fun hbr => False.elim (by omega))
    exact x_thr m_De_make rfl rfl rfl rfl rfl rfl (by omega) (by omega) (by decide) (by decide)
theorem de_put {m : Nat} {i j y : Int} (hC : CW w0 w s v L Z) (hM : MI (rf s)) (hm : m < 6) (h0 : 0 ≤ i) (h1 : i < s 2 m) (h2 : 0 ≤ j) (h3 : j < s 3 m) (y0 : -1000000000000000000 < y) (y1 : y < 1000000000000000000) (hfr : 2 ≤ fr) (hlo : 80 ≤ lo) : fin xs fr lo 25 0 (ax_ent [.ref 0, .int (jI (m : Int)), .int (jI i), .int (jI j), .long (jL y)] 7) [] w (Ret fun u w' => u = none ∧ CW w0 w' (up s 1 (36 * m + (6 * i + j)) y) v L Z) := by
  have hd := rf_dim hM hm
  refine fi_step (pc' := 1) m_De_put rfl rfl ?_
  refine fi_step (pc' := 2) m_De_put rfl rfl ?_
  refine fi_step (pc' := 3) m_De_put rfl rfl ?_
  refine fi_step (pc' := 4) m_De_put rfl rfl ?_
  refine c_4 (p := 7) m_De_put rfl inv_v (by decide) m_De_matrixWith rfl rfl (by omega) (by omega) (Nat.le_of_ble_eq_true rfl) (Nat.le_of_ble_eq_true rfl) (C_rcvD hC _) (de_matrixWith hC hM hm h0 h1 h2 h3 (by omega) (by omega)) ?_
  refine fi_step (pc' := 9) m_De_put rfl rfl ?_
  refine fi_step (pc' := 11) m_De_put rfl rfl ?_
  refine s_ldc2 (p := 14) 1000000000000000000 m_De_put rfl rfl rfl ?_
  refine s_lc_ge (q := 15) (p := 18) m_De_put rfl rfl rfl rfl (by omega) (by omega) (by omega) (by omega) (fun hbr => False.elim (by omega)) (fun hbr => ?_)
  refine fi_step (pc' := 20) m_De_put rfl rfl ?_
  refine s_ldc2 (p := 23) (-1000000000000000000) m_De_put rfl rfl rfl ?_
  refine s_lc_gt (q := 24) (p := 27) m_De_put rfl rfl rfl rfl (by omega) (by omega) (by omega) (by omega) (fun hbr => ?_) (fun hbr => False.elim (by omega))
  refine fi_step (pc' := 39) m_De_put rfl rfl ?_
  refine fi_step (pc' := 40) m_De_put rfl rfl ?_
  refine fi_step (pc' := 41) m_De_put rfl rfl ?_
  refine fi_step (pc' := 43) m_De_put rfl rfl ?_
  refine g_4 (p := 46) m_De_put rfl inv_v (by decide) m_Ma_write rfl rfl (by omega) (by omega) (Nat.le_of_ble_eq_true rfl) (Nat.le_of_ble_eq_true rfl) (C_rcvM hC (by omega) _) (ma_write hC (show m < 7 by omega) hd h0 h1 h2 h3 (by omega) (by omega)) (fun v w hP => ?_)
  obtain ⟨rfl, hC⟩ := hP
  refine p_ret m_De_put rfl rfl ?_
  exact ⟨rfl, hC⟩
theorem de_putT9 {m i j y : Int} (hC : CW w0 w s v L Z) (hM : MI (rf s)) (m0 : -2147483648 ≤ m) (m1 : m < 2147483648) (i0 : -2147483648 ≤ i) (i1 : i < 2147483648) (j0 : -2147483648 ≤ j) (j1 : j < 2147483648) (hm : ¬ ((0 ≤ m ∧ m < 6) ∧ (0 ≤ i ∧ i < s 2 m) ∧ 0 ≤ j ∧ j < s 3 m)) (hfr : 9 ≤ fr) (hlo : 260 ≤ lo) : fin xs fr lo 25 0 (ax_ent [.ref 0, .int (jI m), .int (jI i), .int (jI j), .long (jL y)] 7) [] w (Thr 9 w) := by
  refine fi_step (pc' := 1) m_De_put rfl rfl ?_
  refine fi_step (pc' := 2) m_De_put rfl rfl ?_
  refine fi_step (pc' := 3) m_De_put rfl rfl ?_
  refine fi_step (pc' := 4) m_De_put rfl rfl ?_
  exact t_4 m_De_put rfl inv_v (by decide) m_De_matrixWith rfl (by omega) (by omega) (Nat.le_of_ble_eq_true rfl) (Nat.le_of_ble_eq_true rfl) (C_rcvD hC _) (de_matrixWithT hC hM m0 m1 i0 i1 j0 j1 hm (by omega) (by omega)) rfl
theorem de_putT10 {m : Nat} {i j y : Int} (hC : CW w0 w s v L Z) (hM : MI (rf s)) (hm : m < 6) (h0 : 0 ≤ i) (h1 : i < s 2 m) (h2 : 0 ≤ j) (h3 : j < s 3 m) (y0 : -9223372036854775808 ≤ y) (y1 : y < 9223372036854775808) (hy : ¬ (-1000000000000000000 < y ∧ y < 1000000000000000000)) (hfr : 9 ≤ fr) (hlo : 260 ≤ lo) : fin xs fr lo 25 0 (ax_ent [.ref 0, .int (jI (m : Int)), .int (jI i), .int (jI j), .long (jL y)] 7) [] w (Thr 10 w) := by
  refine fi_step (pc' := 1) m_De_put rfl rfl ?_
  refine fi_step (pc' := 2) m_De_put rfl rfl ?_
  refine fi_step (pc' := 3) m_De_put rfl rfl ?_
  refine fi_step (pc' := 4) m_De_put rfl rfl ?_
  by_cases h : y < 1000000000000000000
  · refine c_4 (p := 7) m_De_put rfl inv_v (by decide) m_De_matrixWith rfl rfl (by omega) (by omega) (Nat.le_of_ble_eq_true rfl) (Nat.le_of_ble_eq_true rfl) (C_rcvD hC _) (de_matrixWith hC hM hm h0 h1 h2 h3 (by omega) (by omega)) ?_
    refine fi_step (pc' := 9) m_De_put rfl rfl ?_
    refine fi_step (pc' := 11) m_De_put rfl rfl ?_
    refine s_ldc2 (p := 14) 1000000000000000000 m_De_put rfl rfl rfl ?_
    refine s_lc_ge (q := 15) (p := 18) m_De_put rfl rfl rfl rfl (by omega) (by omega) (by omega) (by omega) (fun hbr => False.elim (by omega)) (fun hbr => ?_)
    refine fi_step (pc' := 20) m_De_put rfl rfl ?_
    refine s_ldc2 (p := 23) (-1000000000000000000) m_De_put rfl rfl rfl ?_
    refine s_lc_gt (q := 24) (p := 27) m_De_put rfl rfl rfl rfl (by omega) (by omega) (by omega) (by omega) (fun hbr => False.elim (by omega)) (fun hbr => ?_)
    exact x_thr m_De_put rfl rfl rfl rfl rfl rfl (by omega) (by omega) (by decide) (by decide)
  · refine c_4 (p := 7) m_De_put rfl inv_v (by decide) m_De_matrixWith rfl rfl (by omega) (by omega) (Nat.le_of_ble_eq_true rfl) (Nat.le_of_ble_eq_true rfl) (C_rcvD hC _) (de_matrixWith hC hM hm h0 h1 h2 h3 (by omega) (by omega)) ?_
    refine fi_step (pc' := 9) m_De_put rfl rfl ?_
    refine fi_step (pc' := 11) m_De_put rfl rfl ?_
    refine s_ldc2 (p := 14) 1000000000000000000 m_De_put rfl rfl rfl ?_
    refine s_lc_ge (q := 15) (p := 18) m_De_put rfl rfl rfl rfl (by omega) (by omega) (by omega) (by omega) (fun hbr => ?_) (fun hbr => False.elim (by omega))
    exact x_thr m_De_put rfl rfl rfl rfl rfl rfl (by omega) (by omega) (by decide) (by decide)
theorem de_at {m : Nat} {i j : Int} (hC : CW w0 w s v L Z) (hM : MI (rf s)) (hm : m < 6) (h0 : 0 ≤ i) (h1 : i < s 2 m) (h2 : 0 ≤ j) (h3 : j < s 3 m) (hfr : 2 ≤ fr) (hlo : 80 ≤ lo) : fin xs fr lo 30 0 (ax_ent [.ref 0, .int (jI (m : Int)), .int (jI i), .int (jI j)] 4) [] w (Same (.long (jL (s 1 (36 * m + (6 * i + j))))) w) := by
  have hd := rf_dim hM hm
  refine fi_step (pc' := 1) m_De_at rfl rfl ?_
  refine fi_step (pc' := 2) m_De_at rfl rfl ?_
  refine fi_step (pc' := 3) m_De_at rfl rfl ?_
  refine fi_step (pc' := 4) m_De_at rfl rfl ?_
  refine c_4 (p := 7) m_De_at rfl inv_v (by decide) m_De_matrixWith rfl rfl (by omega) (by omega) (Nat.le_of_ble_eq_true rfl) (Nat.le_of_ble_eq_true rfl) (C_rcvD hC _) (de_matrixWith hC hM hm h0 h1 h2 h3 (by omega) (by omega)) ?_
  refine fi_step (pc' := 8) m_De_at rfl rfl ?_
  refine fi_step (pc' := 9) m_De_at rfl rfl ?_
  refine c_3 (p := 12) m_De_at rfl inv_v (by decide) m_Ma_number rfl rfl (by omega) (by omega) (Nat.le_of_ble_eq_true rfl) (Nat.le_of_ble_eq_true rfl) (C_rcvM hC (by omega) _) (ma_number hC (show m < 7 by omega) hd h0 h1 h2 h3 (by omega) (by omega)) ?_
  exact s_retl m_De_at rfl rfl (by rfl)
theorem de_atT {m i j : Int} (hC : CW w0 w s v L Z) (hM : MI (rf s)) (m0 : -2147483648 ≤ m) (m1 : m < 2147483648) (i0 : -2147483648 ≤ i) (i1 : i < 2147483648) (j0 : -2147483648 ≤ j) (j1 : j < 2147483648) (hm : ¬ ((0 ≤ m ∧ m < 6) ∧ (0 ≤ i ∧ i < s 2 m) ∧ 0 ≤ j ∧ j < s 3 m)) (hfr : 9 ≤ fr) (hlo : 260 ≤ lo) : fin xs fr lo 30 0 (ax_ent [.ref 0, .int (jI m), .int (jI i), .int (jI j)] 4) [] w (Thr 9 w) := by
  refine fi_step (pc' := 1) m_De_at rfl rfl ?_
  refine fi_step (pc' := 2) m_De_at rfl rfl ?_
  refine fi_step (pc' := 3) m_De_at rfl rfl ?_
  refine fi_step (pc' := 4) m_De_at rfl rfl ?_
  exact t_4 m_De_at rfl inv_v (by decide) m_De_matrixWith rfl (by omega) (by omega) (Nat.le_of_ble_eq_true rfl) (Nat.le_of_ble_eq_true rfl) (C_rcvD hC _) (de_matrixWithT hC hM m0 m1 i0 i1 j0 j1 hm (by omega) (by omega)) rfl
theorem de_size {m q : Int} (hC : CW w0 w s v L Z) (hM : MI (rf s)) (m0 : -2147483648 ≤ m) (m1 : m < 2147483648) (q0 : -2147483648 ≤ q) (q1 : q < 2147483648) : fin xs fr lo 17 0 (ax_ent [.ref 0, .int (jI m), .int (jI q)] 3) [] w (Same (.int (jI (if 0 ≤ m ∧ m < 6 then (if q = 0 then s 2 m else if q = 1 then s 3 m else -1) else -1))) w) := by
  by_cases h : 0 ≤ m ∧ m < 6
  · rw [if_pos h]
    obtain ⟨m, rfl⟩ := Int.eq_ofNat_of_zero_le h.1
    have hm6 : m < 7 := by omega
    by_cases h0 : q = 0
    · rw [if_pos h0]
      refine fi_step (pc' := 1) m_De_size rfl rfl ?_
      refine s_if_lt (p := 4) m_De_size rfl rfl (by omega) (by omega) (fun hbr => False.elim (by omega)) (fun hbr => ?_)
      refine fi_step (pc' := 5) m_De_size rfl rfl ?_
      refine s_bipush (p := 7) m_De_size rfl rfl rfl ?_
      refine s_ic_lt (p := 10) m_De_size rfl rfl (by omega) (by omega) (by omega) (by omega) (fun hbr => ?_) (fun hbr => False.elim (by omega))
      refine fi_step (pc' := 13) m_De_size rfl rfl ?_
      refine s_if_ne (p := 16) m_De_size rfl rfl (by omega) (by omega) (fun hbr => False.elim (by omega)) (fun hbr => ?_)
      refine fi_step (pc' := 17) m_De_size rfl rfl ?_
      refine k_get (p := 20) m_De_size rfl rfl (by first | exact C_print hC | exact C_minors hC | exact C_stairs hC | exact (CW_cst hC).2.1 | exact C_mat hC (by omega) | assumption) rfl ?_
      refine fi_step (pc' := 21) m_De_size rfl rfl ?_
      refine d_ld (p := 22) m_De_size rfl rfl hC (by omega) (by omega) ?_
      rw [Int.toNat_natCast]
      refine k_get (p := 25) m_De_size rfl rfl (by first | exact C_print hC | exact C_minors hC | exact C_stairs hC | exact (CW_cst hC).2.1 | exact C_mat hC (by omega) | assumption) rfl ?_
      refine fi_step (pc' := 46) m_De_size rfl rfl ?_
      exact s_reti m_De_size rfl rfl (by rfl)
    · rw [if_neg h0]
      by_cases h1 : q = 1
      · rw [if_pos h1]
        refine fi_step (pc' := 1) m_De_size rfl rfl ?_
        refine s_if_lt (p := 4) m_De_size rfl rfl (by omega) (by omega) (fun hbr => False.elim (by omega)) (fun hbr => ?_)
        refine fi_step (pc' := 5) m_De_size rfl rfl ?_
        refine s_bipush (p := 7) m_De_size rfl rfl rfl ?_
        refine s_ic_lt (p := 10) m_De_size rfl rfl (by omega) (by omega) (by omega) (by omega) (fun hbr => ?_) (fun hbr => False.elim (by omega))
        refine fi_step (pc' := 13) m_De_size rfl rfl ?_
        refine s_if_ne (p := 16) m_De_size rfl rfl (by omega) (by omega) (fun hbr => ?_) (fun hbr => False.elim (by omega))
        refine fi_step (pc' := 29) m_De_size rfl rfl ?_
        refine fi_step (pc' := 30) m_De_size rfl rfl ?_
        refine s_ic_ne (p := 33) m_De_size rfl rfl (by omega) (by omega) (by omega) (by omega) (fun hbr => False.elim (by omega)) (fun hbr => ?_)
        refine fi_step (pc' := 34) m_De_size rfl rfl ?_
        refine k_get (p := 37) m_De_size rfl rfl (by first | exact C_print hC | exact C_minors hC | exact C_stairs hC | exact (CW_cst hC).2.1 | exact C_mat hC (by omega) | assumption) rfl ?_
        refine fi_step (pc' := 38) m_De_size rfl rfl ?_
        refine d_ld (p := 39) m_De_size rfl rfl hC (by omega) (by omega) ?_
        rw [Int.toNat_natCast]
        refine k_get (p := 42) m_De_size rfl rfl (by first | exact C_print hC | exact C_minors hC | exact C_stairs hC | exact (CW_cst hC).2.1 | exact C_mat hC (by omega) | assumption) rfl ?_
        refine fi_step (pc' := 46) m_De_size rfl rfl ?_
        exact s_reti m_De_size rfl rfl (by rfl)
      · rw [if_neg h1]
        refine fi_step (pc' := 1) m_De_size rfl rfl ?_
        refine s_if_lt (p := 4) m_De_size rfl rfl (by omega) (by omega) (fun hbr => False.elim (by omega)) (fun hbr => ?_)
        refine fi_step (pc' := 5) m_De_size rfl rfl ?_
        refine s_bipush (p := 7) m_De_size rfl rfl rfl ?_
        refine s_ic_lt (p := 10) m_De_size rfl rfl (by omega) (by omega) (by omega) (by omega) (fun hbr => ?_) (fun hbr => False.elim (by omega))
        refine fi_step (pc' := 13) m_De_size rfl rfl ?_
        refine s_if_ne (p := 16) m_De_size rfl rfl (by omega) (by omega) (fun hbr => ?_) (fun hbr => False.elim (by omega))
        refine fi_step (pc' := 29) m_De_size rfl rfl ?_
        refine fi_step (pc' := 30) m_De_size rfl rfl ?_
        refine s_ic_ne (p := 33) m_De_size rfl rfl (by omega) (by omega) (by omega) (by omega) (fun hbr => ?_) (fun hbr => False.elim (by omega))
        refine fi_step (pc' := 46) m_De_size rfl rfl ?_
        exact s_reti m_De_size rfl rfl (by rfl)
  · rw [if_neg h]
    by_cases h0 : m < 0
    · refine fi_step (pc' := 1) m_De_size rfl rfl ?_
      refine s_if_lt (p := 4) m_De_size rfl rfl (by omega) (by omega) (fun hbr => ?_) (fun hbr => False.elim (by omega))
      refine fi_step (pc' := 11) m_De_size rfl rfl ?_
      exact s_reti m_De_size rfl rfl (by rfl)
    · refine fi_step (pc' := 1) m_De_size rfl rfl ?_
      refine s_if_lt (p := 4) m_De_size rfl rfl (by omega) (by omega) (fun hbr => False.elim (by omega)) (fun hbr => ?_)
      refine fi_step (pc' := 5) m_De_size rfl rfl ?_
      refine s_bipush (p := 7) m_De_size rfl rfl rfl ?_
      refine s_ic_lt (p := 10) m_De_size rfl rfl (by omega) (by omega) (by omega) (by omega) (fun hbr => False.elim (by omega)) (fun hbr => ?_)
      refine fi_step (pc' := 11) m_De_size rfl rfl ?_
      exact s_reti m_De_size rfl rfl (by rfl)
theorem de_character {i : Int} (hC : CW w0 w s v L Z) (p0 : 0 ≤ s 0 0) (p1 : s 0 0 ≤ 256) (i0 : -2147483648 ≤ i) (i1 : i < 2147483648) : fin xs fr lo 18 0 (ax_ent [.ref 0, .int (jI i)] 2) [] w (Same (.int (jI (if 0 ≤ i ∧ i < s 0 0 then s 4 i else -1))) w) := by
  by_cases h : 0 ≤ i ∧ i < s 0 0
  · rw [if_pos h]
    refine fi_step (pc' := 1) m_De_character rfl rfl ?_
    refine s_if_lt (p := 4) m_De_character rfl rfl (by omega) (by omega) (fun hbr => False.elim (by omega)) (fun hbr => ?_)
    refine fi_step (pc' := 5) m_De_character rfl rfl ?_
    refine fi_step (pc' := 6) m_De_character rfl rfl ?_
    refine k_get (p := 9) m_De_character rfl rfl (by first | exact C_print hC | exact C_minors hC | exact C_stairs hC | exact (CW_cst hC).2.1 | exact C_mat hC (by omega) | assumption) rfl ?_
    refine k_get (p := 12) m_De_character rfl rfl (by first | exact C_print hC | exact C_minors hC | exact C_stairs hC | exact (CW_cst hC).2.1 | exact C_mat hC (by omega) | assumption) rfl ?_
    refine s_ic_lt (p := 15) m_De_character rfl rfl (by omega) (by omega) (by omega) (by omega) (fun hbr => ?_) (fun hbr => False.elim (by omega))
    refine fi_step (pc' := 20) m_De_character rfl rfl ?_
    refine k_get (p := 23) m_De_character rfl rfl (by first | exact C_print hC | exact C_minors hC | exact C_stairs hC | exact (CW_cst hC).2.1 | exact C_mat hC (by omega) | assumption) rfl ?_
    refine k_get (p := 26) m_De_character rfl rfl (by first | exact C_print hC | exact C_minors hC | exact C_stairs hC | exact (CW_cst hC).2.1 | exact C_mat hC (by omega) | assumption) rfl ?_
    refine fi_step (pc' := 27) m_De_character rfl rfl ?_
    refine p_ld (p := 28) m_De_character rfl rfl hC (by omega) (by omega) ?_
    exact s_reti m_De_character rfl rfl (by rfl)
  · rw [if_neg h]
    by_cases h0 : i < 0
    · refine fi_step (pc' := 1) m_De_character rfl rfl ?_
      refine s_if_lt (p := 4) m_De_character rfl rfl (by omega) (by omega) (fun hbr => ?_) (fun hbr => False.elim (by omega))
      refine fi_step (pc' := 16) m_De_character rfl rfl ?_
      refine fi_step (pc' := 28) m_De_character rfl rfl ?_
      exact s_reti m_De_character rfl rfl (by rfl)
    · refine fi_step (pc' := 1) m_De_character rfl rfl ?_
      refine s_if_lt (p := 4) m_De_character rfl rfl (by omega) (by omega) (fun hbr => False.elim (by omega)) (fun hbr => ?_)
      refine fi_step (pc' := 5) m_De_character rfl rfl ?_
      refine fi_step (pc' := 6) m_De_character rfl rfl ?_
      refine k_get (p := 9) m_De_character rfl rfl (by first | exact C_print hC | exact C_minors hC | exact C_stairs hC | exact (CW_cst hC).2.1 | exact C_mat hC (by omega) | assumption) rfl ?_
      refine k_get (p := 12) m_De_character rfl rfl (by first | exact C_print hC | exact C_minors hC | exact C_stairs hC | exact (CW_cst hC).2.1 | exact C_mat hC (by omega) | assumption) rfl ?_
      refine s_ic_lt (p := 15) m_De_character rfl rfl (by omega) (by omega) (by omega) (by omega) (fun hbr => False.elim (by omega)) (fun hbr => ?_)
      refine fi_step (pc' := 16) m_De_character rfl rfl ?_
      refine fi_step (pc' := 28) m_De_character rfl rfl ?_
      exact s_reti m_De_character rfl rfl (by rfl)
end DE
