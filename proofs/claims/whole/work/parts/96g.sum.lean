/-! THE CLASS: sums and products of matrices, turned matrices, equality -/
theorem i419 : isWh 419 := isWh_iff.mpr (by omega)
theorem i421 : isWh 421 := isWh_iff.mpr (by omega)
theorem i423 : isWh 423 := isWh_iff.mpr (by omega)
theorem cap419 : capB 419 = 700 := by decide
theorem cap421 : capB 421 = 700 := by decide
theorem cap423 : capB 423 = 700 := by decide
/-- the three numbers of the desk alone have changed -/
def kvo (v v' : Nat → Int) : Prop := ∀ j, j ≠ 419 → j ≠ 421 → j ≠ 423 → v' j = v j
theorem kvo_trans {v v' v'' : Nat → Int} (h : kvo v v') (h' : kvo v' v'') : kvo v v'' := fun j a b c => (h' j a b c).trans (h j a b c)
/-- a result was given, or it is too large -/
def madeC (w0 : ax_W) (s : mo_S) (L Z : Nat) (to R C : Int) (g : Int → Int → Int) (ans : Int) (u : Option Value) (w' : ax_W) : Prop := ∃ s' v', CW w0 w' s' v' L Z ∧ okC s' v' ∧ kpM s s' ∧ ((fits R C g ∧ u = some (.int (jI ans)) ∧ given (rf s) (rf s') to R C g) ∨ (¬ fits R C g ∧ u = some (.int (jI (-3))) ∧ rf s' = rf s))
theorem okC_res {s : mo_S} {v v' : Nat → Int} {R C : Int} {g : Int → Int → Int} (h : okC s v) (h1 : v' 27 = v 27) (h2 : v' 104 = v 104) : okC (gvM s 6 R C g) v' ∧ kpM s (gvM s 6 R C g) ∧ rf (gvM s 6 R C g) = rf s := by
  obtain ⟨a, b, c, d, e, p0, p1⟩ := h
  have e0 : gvM s 6 R C g 0 = s 0 := gvM_o _ _ _ _ _ (by decide) (by decide) (by decide)
  have e6 : gvM s 6 R C g 6 = s 6 := gvM_o _ _ _ _ _ (by decide) (by decide) (by decide)
  have e4 : gvM s 6 R C g 4 = s 4 := gvM_o _ _ _ _ _ (by decide) (by decide) (by decide)
  refine ⟨⟨by rw [rf_res]; exact a, by rw [h1, b], by rw [h2, c], by rw [e6]; exact d, by rw [e6]; exact e, by rw [e0]; exact p0, by rw [e0]; exact p1⟩, ⟨by rw [e0], e4⟩, rf_res⟩
theorem given_congr {s s' : mo_S} {to R C : Int} {g h : Int → Int → Int} (e : ∀ i j, 0 ≤ i → i < R → 0 ≤ j → j < C → g i j = h i j) (hg : given s s' to R C g) : given s s' to R C h := ⟨hg.1, hg.2.1, by rw [hg.2.2]; exact newN_congr e⟩
theorem gvM_up {s : mo_S} {m R C i j x : Int} {g : Int → Int → Int} (i0 : 0 ≤ i) (i1 : i < R) (r6 : R ≤ 6) (j0 : 0 ≤ j) (j1 : j < C) (c6 : C ≤ 6) : up (gvM s m R C g) 1 (36 * m + (6 * i + j)) x = gvM s m R C (upg g i j x) := by
  refine mo_ext ?_ ?_ ?_ (fun k h1 h2 h3 => ?_)
  · rw [up_same, gvM_1, gvM_1, newN_up i0 i1 r6 j0 j1 c6]
  · rw [up_ne _ (by decide), gvM_2, gvM_2]
  · rw [up_ne _ (by decide), gvM_3, gvM_3]
  · rw [up_ne _ h1, gvM_o _ _ _ _ _ h1 h2 h3, gvM_o _ _ _ _ _ h1 h2 h3]
theorem madeC_ok {w0 w' : ax_W} {s : mo_S} {v v' : Nat → Int} {L Z : Nat} {to R C ans : Int} {g T : Int → Int → Int} (hok : okC s v) (t0 : 0 ≤ to) (t1 : to < 6) (r0 : 1 ≤ R) (r6 : R ≤ 6) (c0 : 1 ≤ C) (c6 : C ≤ 6) (hT : ∀ i j, 0 ≤ i → i < R → 0 ≤ j → j < C → g i j = T i j ∧ (T i j).natAbs < 1000000000000000000) (h1 : v' 27 = v 27) (h2 : v' 104 = v 104) (hC : CW w0 w' (gvM (gvM s 6 R C g) to R C g) v' L Z) : madeC w0 s L Z to R C T ans (some (.int (jI ans))) w' := by
  have hr := okC_res (R := R) (C := C) (g := g) hok h1 h2
  have hfT : fits R C T := fun i j i0 i1 j0 j1 => (hT i j i0 i1 j0 j1).2
  have hfg : fits R C g := fun i j i0 i1 j0 j1 => by rw [(hT i j i0 i1 j0 j1).1]; exact (hT i j i0 i1 j0 j1).2
  have hg := rf_given (s := gvM s 6 R C g) (R := R) (C := C) (g := g) t0 t1
  have e0 : gvM (gvM s 6 R C g) to R C g 0 = s 0 := by rw [gvM_o _ _ _ _ _ (by decide) (by decide) (by decide), gvM_o _ _ _ _ _ (by decide) (by decide) (by decide)]
  have e6 : gvM (gvM s 6 R C g) to R C g 6 = s 6 := by rw [gvM_o _ _ _ _ _ (by decide) (by decide) (by decide), gvM_o _ _ _ _ _ (by decide) (by decide) (by decide)]
  have e4 : gvM (gvM s 6 R C g) to R C g 4 = s 4 := by rw [gvM_o _ _ _ _ _ (by decide) (by decide) (by decide), gvM_o _ _ _ _ _ (by decide) (by decide) (by decide)]
  obtain ⟨a, b, c, d, e, p0, p1⟩ := hok
  have hg' : given (rf s) (rf (gvM (gvM s 6 R C g) to R C g)) to R C g := by rw [hr.2.2] at hg; exact hg
  refine ⟨_, v', hC, ⟨given_MI a hg' hfg r0 r6 c0 c6, by rw [h1, b], by rw [h2, c], by rw [e6]; exact d, by rw [e6]; exact e, by rw [e0]; exact p0, by rw [e0]; exact p1⟩, ⟨by rw [e0], e4⟩, Or.inl ⟨hfT, rfl, given_congr (fun i j i0 i1 j0 j1 => (hT i j i0 i1 j0 j1).1) hg'⟩⟩
theorem madeC_no {w0 w' : ax_W} {s : mo_S} {v v' : Nat → Int} {L Z : Nat} {to R C ans i j : Int} {g T : Int → Int → Int} (hok : okC s v) (h1 : v' 27 = v 27) (h2 : v' 104 = v 104) (hC : CW w0 w' (gvM s 6 R C g) v' L Z) (i0 : 0 ≤ i) (i1 : i < R) (j0 : 0 ≤ j) (j1 : j < C) (hn : ¬ (T i j).natAbs < 1000000000000000000) : madeC w0 s L Z to R C T ans (some (.int (jI (-3)))) w' := by
  have hr := okC_res (R := R) (C := C) (g := g) hok h1 h2
  exact ⟨_, v', hC, hr.1, hr.2.1, Or.inr ⟨fun hf => hn (hf i j i0 i1 j0 j1), rfl, hr.2.2⟩⟩
section SUM
variable {xs : List Int32} {fr lo : Nat} {w w0 : ax_W} {s : mo_S} {v : Nat → Int} {L Z : Nat}
theorem ma_reset6 {R C : Int} (hC : CW w0 w s v L Z) (hfr : 1 ≤ fr) (hlo : 30 ≤ lo) : fin xs fr lo 22 0 (ax_ent [.ref 14, .int (jI R), .int (jI C)] 3) [] w (Ret fun u w' => u = none ∧ CW w0 w' (gvM s 6 R C (fun _ _ => 0)) v L Z) := ma_reset (m := 6) hC (by decide) hfr hlo
theorem ma_write6 {R C i j y : Int} {g : Int → Int → Int} (hC : CW w0 w (gvM s 6 R C g) v L Z) (r1 : 1 ≤ R) (r6 : R ≤ 6) (c1 : 1 ≤ C) (c6 : C ≤ 6) (i0 : 0 ≤ i) (i1 : i < R) (j0 : 0 ≤ j) (j1 : j < C) (hfr : 1 ≤ fr) (hlo : 30 ≤ lo) : fin xs fr lo 28 0 (ax_ent [.ref 14, .int (jI i), .int (jI j), .long (jL y)] 5) [] w (Ret fun u w' => u = none ∧ CW w0 w' (gvM s 6 R C (upg g i j y)) v L Z) := by
  have e2 : gvM s 6 R C g 2 ((6 : Nat) : Int) = R := by rw [gvM_2]; exact up1_same _ _ _
  have e3 : gvM s 6 R C g 3 ((6 : Nat) : Int) = C := by rw [gvM_3]; exact up1_same _ _ _
  refine fi_mono (ma_write (m := 6) (i := i) (j := j) (y := y) hC (by decide) ⟨by omega, by omega, by omega, by omega⟩ i0 (by omega) j0 (by omega) hfr hlo) (fun o w' ⟨u, e, hu, h⟩ => ⟨u, e, hu, ?_⟩)
  rw [← gvM_up i0 i1 r6 j0 j1 c6]
  exact h
theorem ma_become6 {to : Nat} {R C : Int} {g : Int → Int → Int} (hC : CW w0 w (gvM s 6 R C g) v L Z) (ht : to < 6) (hfr : 1 ≤ fr) (hlo : 100 ≤ lo) : fin xs fr lo 41 0 (ax_ent [.ref (2 + 2 * to), .ref 14] 2) [] w (Ret fun u w' => u = none ∧ CW w0 w' (gvM (gvM s 6 R C g) to R C g) v L Z) := ma_become (m := to) (a := 6) hC (by omega) (by decide) (by omega) hfr hlo
/-- a number of another matrix, beside the result -/
theorem gv6_1 {R C i j : Int} {g : Int → Int → Int} {a : Nat} (ha : a < 6) (i0 : 0 ≤ i) (i1 : i < 6) (j0 : 0 ≤ j) (j1 : j < 6) : gvM s 6 R C g 1 (36 * a + (6 * i + j)) = s 1 (36 * a + 6 * i + j) := by
  rw [gvM_1, newN_out (by omega), show 36 * (a : Int) + (6 * i + j) = 36 * a + 6 * i + j by omega]
theorem gv6_2 {R C : Int} {g : Int → Int → Int} {a : Nat} (ha : a < 6) : gvM s 6 R C g 2 a = s 2 a := by rw [gvM_2, up1_ne _ (by omega)]
theorem gv6_3 {R C : Int} {g : Int → Int → Int} {a : Nat} (ha : a < 6) : gvM s 6 R C g 3 a = s 3 a := by rw [gvM_3, up1_ne _ (by omega)]
theorem de_addToSum {a b : Int} (hC : CW w0 w s v L Z) (a0 : -4611686018427387904 ≤ a) (a1 : a ≤ 4611686018427387904) (b0 : -4611686018427387904 ≤ b) (b1 : b ≤ 4611686018427387904) (hs : ((v 419).natAbs : Int) < 1000000000 ^ 8) (hfr : 4 ≤ fr) (hlo : 240 ≤ lo) : fin xs fr lo 34 0 (ax_ent [.ref 0, .long (jL a), .long (jL b)] 5) [] w (Ret fun u w' => u = none ∧ ∃ v', CW w0 w' s v' L Z ∧ v' 419 = v 419 + a * b ∧ kvo v v') := by
  refine fi_step (pc' := 1) m_De_addToSum rfl rfl ?_
  refine k_get (p := 4) m_De_addToSum rfl rfl (by first | exact C_print hC | exact C_minors hC | exact C_stairs hC | exact (CW_cst hC).2.1 | exact C_mat hC (by omega) | assumption) rfl ?_
  refine fi_step (pc' := 5) m_De_addToSum rfl rfl ?_
  refine g_2 (p := 8) m_De_addToSum rfl inv_v (by decide) m_Wh_becomeJ rfl rfl (by omega) (by omega) (Nat.le_of_ble_eq_true rfl) (Nat.le_of_ble_eq_true rfl) (C_rcvW hC (by first | assumption | exact rfl) _) (cn_becomeJ hC i421 a0 a1 (by omega) (by omega)) (fun v w hP => ?_)
  obtain ⟨rfl, hC⟩ := hP
  refine fi_step (pc' := 9) m_De_addToSum rfl rfl ?_
  refine k_get (p := 12) m_De_addToSum rfl rfl (by first | exact C_print hC | exact C_minors hC | exact C_stairs hC | exact (CW_cst hC).2.1 | exact C_mat hC (by omega) | assumption) rfl ?_
  refine fi_step (pc' := 13) m_De_addToSum rfl rfl ?_
  refine g_2 (p := 16) m_De_addToSum rfl inv_v (by decide) m_Wh_becomeJ rfl rfl (by omega) (by omega) (Nat.le_of_ble_eq_true rfl) (Nat.le_of_ble_eq_true rfl) (C_rcvW hC (by first | assumption | exact rfl) _) (cn_becomeJ hC i423 b0 b1 (by omega) (by omega)) (fun v w hP => ?_)
  obtain ⟨rfl, hC⟩ := hP
  have e1 : upv (upv v 421 a) 423 b 421 = a := by rw [upv_ne _ (by decide), upv_same]
  have e2 : upv (upv v 421 a) 423 b 423 = b := by rw [upv_same]
  have e3 : upv (upv v 421 a) 423 b 419 = v 419 := by rw [upv_ne _ (by decide), upv_ne _ (by decide)]
  have hB : (1000000000 : Int) ^ 3 = 1000000000000000000000000000 := by decide
  refine fi_step (pc' := 17) m_De_addToSum rfl rfl ?_
  refine k_get (p := 20) m_De_addToSum rfl rfl (by first | exact C_print hC | exact C_minors hC | exact C_stairs hC | exact (CW_cst hC).2.1 | exact C_mat hC (by omega) | assumption) rfl ?_
  refine fi_step (pc' := 21) m_De_addToSum rfl rfl ?_
  refine k_get (p := 24) m_De_addToSum rfl rfl (by first | exact C_print hC | exact C_minors hC | exact C_stairs hC | exact (CW_cst hC).2.1 | exact C_mat hC (by omega) | assumption) rfl ?_
  refine fi_step (pc' := 25) m_De_addToSum rfl rfl ?_
  refine k_get (p := 28) m_De_addToSum rfl rfl (by first | exact C_print hC | exact C_minors hC | exact C_stairs hC | exact (CW_cst hC).2.1 | exact C_mat hC (by omega) | assumption) rfl ?_
  refine fi_step (pc' := 29) m_De_addToSum rfl rfl ?_
  refine g_4 (p := 32) m_De_addToSum rfl inv_v (by decide) m_Wh_addProduct rfl rfl (by omega) (by omega) (Nat.le_of_ble_eq_true rfl) (Nat.le_of_ble_eq_true rfl) (C_rcvW hC (by first | assumption | exact rfl) _) (cn_addProduct (sg := 1) (k0 := 8) (k1 := 3) (k2 := 3) hC i419 i421 i423 (by decide) (by decide) (Or.inl rfl) (by rw [e3]; exact hs) (by rw [e1]; omega) (by rw [e2]; omega) (by decide) (by decide) (by omega) (by omega)) (fun v w hP => ?_)
  obtain ⟨rfl, hC⟩ := hP
  refine p_ret m_De_addToSum rfl rfl ?_
  refine ⟨rfl, _, hC, ?_, fun j h1 h2 h3 => ?_⟩
  · rw [upv_same, e1, e2, e3, Int.one_mul]
  · rw [upv_ne _ h1, upv_ne _ h3, upv_ne _ h2]
theorem mul_size {a b x y : Int} (ha : (a.natAbs : Int) ≤ x) (hb : (b.natAbs : Int) ≤ y) : ((a * b).natAbs : Int) ≤ x * y := by
  rw [Int.natAbs_mul, Int.natCast_mul]
  exact Int.mul_le_mul ha hb (by omega) (by omega)
theorem comb_loop {to a b : Nat} {x y R C : Int} {v0 : Nat → Int} (hok : okC s v0) (ht : to < 6) (ha : a < 6) (hb : b < 6) (eR : s 2 a = R) (eC : s 3 a = C) (eR' : s 2 b = R) (eC' : s 3 b = C) (r1 : 1 ≤ R) (r6 : R ≤ 6) (c1 : 1 ≤ C) (c6 : C ≤ 6) (x0 : -2147483648 ≤ x) (x1 : x < 2147483648) (y0 : -2147483648 ≤ y) (y1 : y < 2147483648) (hfr : 5 ≤ fr) (hlo : 300 ≤ lo) {T : Int → Int → Int} (hT : T = fun i j => s 1 (36 * a + 6 * i + j) * x + s 1 (36 * b + 6 * i + j) * y) :
    ∀ (f : Nat) (i j : Int) (g : Int → Int → Int) (w : ax_W) (v : Nat → Int), (R - i) * 7 + (C - j) ≤ f → 0 ≤ i → i < R → 0 ≤ j → j ≤ C → CW w0 w (gvM s 6 R C g) v L Z → kvo v0 v → (∀ i' j', 0 ≤ i' → 0 ≤ j' → j' < C → (i' < i ∨ (i' = i ∧ j' < j)) → g i' j' = T i' j' ∧ (T i' j').natAbs < 1000000000000000000) →
    fin xs fr lo 33 84 [some (.ref 0), some (.int (jI to)), some (.int (jI a)), some (.int (jI x)), some (.int (jI b)), some (.int (jI y)), some (.ref (2 + 2 * to)), some (.ref (2 + 2 * a)), some (.ref (2 + 2 * b)), some (.int (jI i)), some (.int (jI j))] [] w (Ret (madeC w0 s L Z to R C T 0)) := by
  intro f
  induction f with
  | zero => intro i j g w v hf i0 i1 j0 j1; omega
  | succ f ih =>
    intro i j g w v hf i0 i1 j0 j1 hC hv hg
    have e2 : gvM s 6 R C g 2 a = R := by rw [gv6_2 ha, eR]
    have e3 : gvM s 6 R C g 3 a = C := by rw [gv6_3 ha, eC]
    have e2b : gvM s 6 R C g 2 b = R := by rw [gv6_2 hb, eR']
    have e3b : gvM s 6 R C g 3 b = C := by rw [gv6_3 hb, eC']
    by_cases hj : j < C
    · have qa := rf_num hok.1 (x := 36 * a + 6 * i + j) (by omega) (by omega)
      have qb := rf_num hok.1 (x := 36 * b + 6 * i + j) (by omega) (by omega)
      have hTij : T i j = s 1 (36 * a + 6 * i + j) * x + s 1 (36 * b + 6 * i + j) * y := by rw [hT]
      have m1 := mul_size (a := s 1 (36 * a + 6 * i + j)) (b := x) (x := 1000000000000000000) (y := 2147483648) (by omega) (by omega)
      have hB : (1000000000 : Int) ^ 8 = 1000000000000000000000000000000000000000000000000000000000000000000000000 := by decide
      refine fi_step (pc' := 86) m_De_combine rfl rfl ?_
      refine fi_step (pc' := 88) m_De_combine rfl rfl ?_
      refine k_get (p := 91) m_De_combine rfl rfl (by first | exact C_print hC | exact C_minors hC | exact C_stairs hC | exact (CW_cst hC).2.1 | exact C_mat hC (by omega) | assumption) rfl ?_
      refine s_ic_ge (p := 94) m_De_combine rfl rfl (by omega) (by omega) (by omega) (by omega) (fun hbr => False.elim (by omega)) (fun hbr => ?_)
      refine fi_step (pc' := 95) m_De_combine rfl rfl ?_
      refine k_get (p := 98) m_De_combine rfl rfl (by first | exact C_print hC | exact C_minors hC | exact C_stairs hC | exact (CW_cst hC).2.1 | exact C_mat hC (by omega) | assumption) rfl ?_
      refine g_1 (p := 101) m_De_combine rfl inv_v (by decide) m_Wh_clear rfl rfl (by omega) (by omega) (Nat.le_of_ble_eq_true rfl) (Nat.le_of_ble_eq_true rfl) (C_rcvW hC (by first | assumption | exact rfl) _) (cn_clear hC i419) (fun v w hP => ?_)
      obtain ⟨rfl, hC⟩ := hP
      refine fi_step (pc' := 102) m_De_combine rfl rfl ?_
      refine fi_step (pc' := 104) m_De_combine rfl rfl ?_
      refine fi_step (pc' := 106) m_De_combine rfl rfl ?_
      refine fi_step (pc' := 108) m_De_combine rfl rfl ?_
      refine c_3 (p := 111) m_De_combine rfl inv_v (by decide) m_Ma_number rfl rfl (by omega) (by omega) (Nat.le_of_ble_eq_true rfl) (Nat.le_of_ble_eq_true rfl) (C_rcvM hC (by omega) _) (ma_number hC (show a < 7 by omega) ⟨by omega, by omega, by omega, by omega⟩ i0 (by omega) j0 (by omega) (by omega) (by omega)) ?_
      refine fi_step (pc' := 112) m_De_combine rfl rfl ?_
      refine s_i2l (p := 113) m_De_combine rfl rfl (by omega) (by omega) ?_
      rw [gv6_1 ha i0 (by omega) j0 (by omega)]
      refine g_3 (p := 116) m_De_combine rfl inv_v (by decide) m_De_addToSum rfl rfl (by omega) (by omega) (Nat.le_of_ble_eq_true rfl) (Nat.le_of_ble_eq_true rfl) (C_rcvD hC _) (de_addToSum hC (by omega) (by omega) (by omega) (by omega) (by rw [upv_same]; decide) (by omega) (by omega)) (fun v w hP => ?_)
      obtain ⟨rfl, v1, hC, n1, k1⟩ := hP
      rw [upv_same, Int.zero_add] at n1
      refine fi_step (pc' := 117) m_De_combine rfl rfl ?_
      refine fi_step (pc' := 119) m_De_combine rfl rfl ?_
      refine fi_step (pc' := 121) m_De_combine rfl rfl ?_
      refine fi_step (pc' := 123) m_De_combine rfl rfl ?_
      refine c_3 (p := 126) m_De_combine rfl inv_v (by decide) m_Ma_number rfl rfl (by omega) (by omega) (Nat.le_of_ble_eq_true rfl) (Nat.le_of_ble_eq_true rfl) (C_rcvM hC (by omega) _) (ma_number hC (show b < 7 by omega) ⟨by omega, by omega, by omega, by omega⟩ i0 (by omega) j0 (by omega) (by omega) (by omega)) ?_
      refine fi_step (pc' := 128) m_De_combine rfl rfl ?_
      refine s_i2l (p := 129) m_De_combine rfl rfl (by omega) (by omega) ?_
      rw [gv6_1 hb i0 (by omega) j0 (by omega)]
      refine g_3 (p := 132) m_De_combine rfl inv_v (by decide) m_De_addToSum rfl rfl (by omega) (by omega) (Nat.le_of_ble_eq_true rfl) (Nat.le_of_ble_eq_true rfl) (C_rcvD hC _) (de_addToSum hC (by omega) (by omega) (by omega) (by omega) (by rw [n1]; omega) (by omega) (by omega)) (fun v w hP => ?_)
      obtain ⟨rfl, v2, hC, n2, k2⟩ := hP
      rw [n1, ← hTij] at n2
      have kk : kvo v0 v2 := fun q a1 a2 a3 => by rw [k2 q a1 a2 a3, k1 q a1 a2 a3, upv_ne _ a1, hv q a1 a2 a3]
      refine fi_step (pc' := 133) m_De_combine rfl rfl ?_
      refine k_get (p := 136) m_De_combine rfl rfl (by first | exact C_print hC | exact C_minors hC | exact C_stairs hC | exact (CW_cst hC).2.1 | exact C_mat hC (by omega) | assumption) rfl ?_
      refine c_1 (p := 139) m_De_combine rfl inv_v (by decide) m_Wh_fits rfl rfl (by omega) (by omega) (Nat.le_of_ble_eq_true rfl) (Nat.le_of_ble_eq_true rfl) (C_rcvW hC (by first | assumption | exact rfl) _) (cn_fits hC i419) ?_
      rw [n2]
      by_cases hfit : (T i j).natAbs < 1000000000000000000
      · rw [if_pos hfit]
        refine s_if_ne (p := 142) m_De_combine rfl rfl (by omega) (by omega) (fun hbr => ?_) (fun hbr => False.elim (by omega))
        refine fi_step (pc' := 146) m_De_combine rfl rfl ?_
        refine k_get (p := 149) m_De_combine rfl rfl (by first | exact C_print hC | exact C_minors hC | exact C_stairs hC | exact (CW_cst hC).2.1 | exact C_mat hC (by omega) | assumption) rfl ?_
        refine fi_step (pc' := 151) m_De_combine rfl rfl ?_
        refine fi_step (pc' := 153) m_De_combine rfl rfl ?_
        refine fi_step (pc' := 154) m_De_combine rfl rfl ?_
        refine k_get (p := 157) m_De_combine rfl rfl (by first | exact C_print hC | exact C_minors hC | exact C_stairs hC | exact (CW_cst hC).2.1 | exact C_mat hC (by omega) | assumption) rfl ?_
        refine c_1 (p := 160) m_De_combine rfl inv_v (by decide) m_Wh_value rfl rfl (by omega) (by omega) (Nat.le_of_ble_eq_true rfl) (Nat.le_of_ble_eq_true rfl) (C_rcvW hC (by first | assumption | exact rfl) _) (cn_value hC i419 (by rw [n2]; exact hfit)) ?_
        rw [n2]
        refine g_4 (p := 163) m_De_combine rfl inv_v (by decide) m_Ma_write rfl rfl (by omega) (by omega) (Nat.le_of_ble_eq_true rfl) (Nat.le_of_ble_eq_true rfl) (C_rcvM (m := 6) hC (by omega) _) (ma_write6 hC r1 r6 c1 c6 i0 i1 j0 hj (by omega) (by omega)) (fun v w hP => ?_)
        obtain ⟨rfl, hC⟩ := hP
        refine s_iinc (p := 166) m_De_combine rfl rfl rfl ?_
        refine fi_step (pc' := 84) m_De_combine rfl rfl ?_
        refine ih i (j + 1) _ w v2 (by omega) i0 i1 (by omega) (by omega) hC kk (fun i' j' a0 b0 b1 hlt => ?_)
        unfold upg
        by_cases e : i' = i ∧ j' = j
        · rw [if_pos e, e.1, e.2]; exact ⟨rfl, hfit⟩
        · rw [if_neg e]; exact hg i' j' a0 b0 b1 (by omega)
      · rw [if_neg hfit]
        refine s_if_ne (p := 142) m_De_combine rfl rfl (by omega) (by omega) (fun hbr => False.elim (by omega)) (fun hbr => ?_)
        refine s_bipush (p := 144) m_De_combine rfl rfl rfl ?_
        refine p_reti m_De_combine rfl rfl ?_
        exact madeC_no hok (kk 27 (by decide) (by decide) (by decide)) (kk 104 (by decide) (by decide) (by decide)) hC i0 i1 j0 hj hfit
    · by_cases hi : i + 1 < R
      · refine fi_step (pc' := 86) m_De_combine rfl rfl ?_
        refine fi_step (pc' := 88) m_De_combine rfl rfl ?_
        refine k_get (p := 91) m_De_combine rfl rfl (by first | exact C_print hC | exact C_minors hC | exact C_stairs hC | exact (CW_cst hC).2.1 | exact C_mat hC (by omega) | assumption) rfl ?_
        refine s_ic_ge (p := 94) m_De_combine rfl rfl (by omega) (by omega) (by omega) (by omega) (fun hbr => ?_) (fun hbr => False.elim (by omega))
        refine s_iinc (p := 172) m_De_combine rfl rfl rfl ?_
        refine fi_step (pc' := 71) m_De_combine rfl rfl ?_
        refine fi_step (pc' := 73) m_De_combine rfl rfl ?_
        refine fi_step (pc' := 75) m_De_combine rfl rfl ?_
        refine k_get (p := 78) m_De_combine rfl rfl (by first | exact C_print hC | exact C_minors hC | exact C_stairs hC | exact (CW_cst hC).2.1 | exact C_mat hC (by omega) | assumption) rfl ?_
        refine s_ic_ge (p := 81) m_De_combine rfl rfl (by omega) (by omega) (by omega) (by omega) (fun hbr => False.elim (by omega)) (fun hbr => ?_)
        refine fi_step (pc' := 82) m_De_combine rfl rfl ?_
        refine fi_step (pc' := 84) m_De_combine rfl rfl ?_
        exact ih (i + 1) 0 g w v (by omega) (by omega) hi (by omega) (by omega) hC hv (fun i' j' a0 b0 b1 hlt => hg i' j' a0 b0 b1 (by omega))
      · refine fi_step (pc' := 86) m_De_combine rfl rfl ?_
        refine fi_step (pc' := 88) m_De_combine rfl rfl ?_
        refine k_get (p := 91) m_De_combine rfl rfl (by first | exact C_print hC | exact C_minors hC | exact C_stairs hC | exact (CW_cst hC).2.1 | exact C_mat hC (by omega) | assumption) rfl ?_
        refine s_ic_ge (p := 94) m_De_combine rfl rfl (by omega) (by omega) (by omega) (by omega) (fun hbr => ?_) (fun hbr => False.elim (by omega))
        refine s_iinc (p := 172) m_De_combine rfl rfl rfl ?_
        refine fi_step (pc' := 71) m_De_combine rfl rfl ?_
        refine fi_step (pc' := 73) m_De_combine rfl rfl ?_
        refine fi_step (pc' := 75) m_De_combine rfl rfl ?_
        refine k_get (p := 78) m_De_combine rfl rfl (by first | exact C_print hC | exact C_minors hC | exact C_stairs hC | exact (CW_cst hC).2.1 | exact C_mat hC (by omega) | assumption) rfl ?_
        refine s_ic_ge (p := 81) m_De_combine rfl rfl (by omega) (by omega) (by omega) (by omega) (fun hbr => ?_) (fun hbr => False.elim (by omega))
        refine fi_step (pc' := 177) m_De_combine rfl rfl ?_
        refine fi_step (pc' := 178) m_De_combine rfl rfl ?_
        refine k_get (p := 181) m_De_combine rfl rfl (by first | exact C_print hC | exact C_minors hC | exact C_stairs hC | exact (CW_cst hC).2.1 | exact C_mat hC (by omega) | assumption) rfl ?_
        refine g_2 (p := 184) m_De_combine rfl inv_v (by decide) m_Ma_become rfl rfl (by omega) (by omega) (Nat.le_of_ble_eq_true rfl) (Nat.le_of_ble_eq_true rfl) (C_rcvM hC (by omega) _) (ma_become6 hC ht (by omega) (by omega)) (fun v w hP => ?_)
        obtain ⟨rfl, hC⟩ := hP
        refine fi_step (pc' := 185) m_De_combine rfl rfl ?_
        refine p_reti m_De_combine rfl rfl ?_
        exact madeC_ok hok (by omega) (by omega) r1 r6 c1 c6 (fun i' j' a0 a1 b0 b1 => hg i' j' a0 b0 b1 (by omega)) (hv 27 (by decide) (by decide) (by decide)) (hv 104 (by decide) (by decide) (by decide)) hC
/-- what lies outside is as before: a SHAPE answer and the like -/
def sameC (w0 : ax_W) (s : mo_S) (v : Nat → Int) (L Z : Nat) (ans : Int) (u : Option Value) (w' : ax_W) : Prop := ∃ s' v', CW w0 w' s' v' L Z ∧ okC s' v' ∧ kpM s s' ∧ rf s' = rf s ∧ u = some (.int (jI ans))
theorem de_combine {to a b : Nat} {x y : Int} (hC : CW w0 w s v L Z) (hok : okC s v) (ht : to < 6) (ha : a < 6) (hb : b < 6) (x0 : -2147483648 ≤ x) (x1 : x < 2147483648) (y0 : -2147483648 ≤ y) (y1 : y < 2147483648) (hfr : 5 ≤ fr) (hlo : 300 ≤ lo) :
    fin xs fr lo 33 0 (ax_ent [.ref 0, .int (jI (to : Int)), .int (jI (a : Int)), .int (jI x), .int (jI (b : Int)), .int (jI y)] 11) [] w (Ret fun u w' => (¬ (s 2 a = s 2 b ∧ s 3 a = s 3 b) ∧ sameC w0 s v L Z (-2) u w') ∨ ((s 2 a = s 2 b ∧ s 3 a = s 3 b) ∧ madeC w0 s L Z to (s 2 a) (s 3 a) (fun i j => s 1 (36 * a + 6 * i + j) * x + s 1 (36 * b + 6 * i + j) * y) 0 u w')) := by
  have da := rf_dim hok.1 ha
  have db := rf_dim hok.1 hb
  obtain ⟨a1, a2, a3, a4⟩ := da
  obtain ⟨b1, b2, b3, b4⟩ := db
  refine fi_step (pc' := 1) m_De_combine rfl rfl ?_
  refine fi_step (pc' := 2) m_De_combine rfl rfl ?_
  refine c_2 (p := 5) m_De_combine rfl inv_v (by decide) m_De_matrix rfl rfl (by omega) (by omega) (Nat.le_of_ble_eq_true rfl) (Nat.le_of_ble_eq_true rfl) (C_rcvD hC _) (de_matrix hC ht) ?_
  refine fi_step (pc' := 7) m_De_combine rfl rfl ?_
  refine fi_step (pc' := 8) m_De_combine rfl rfl ?_
  refine fi_step (pc' := 9) m_De_combine rfl rfl ?_
  refine c_2 (p := 12) m_De_combine rfl inv_v (by decide) m_De_matrix rfl rfl (by omega) (by omega) (Nat.le_of_ble_eq_true rfl) (Nat.le_of_ble_eq_true rfl) (C_rcvD hC _) (de_matrix hC ha) ?_
  refine fi_step (pc' := 14) m_De_combine rfl rfl ?_
  refine fi_step (pc' := 15) m_De_combine rfl rfl ?_
  refine fi_step (pc' := 17) m_De_combine rfl rfl ?_
  refine c_2 (p := 20) m_De_combine rfl inv_v (by decide) m_De_matrix rfl rfl (by omega) (by omega) (Nat.le_of_ble_eq_true rfl) (Nat.le_of_ble_eq_true rfl) (C_rcvD hC _) (de_matrix hC hb) ?_
  refine fi_step (pc' := 22) m_De_combine rfl rfl ?_
  show fin xs fr lo 33 22 [some (.ref 0), some (.int (jI to)), some (.int (jI a)), some (.int (jI x)), some (.int (jI b)), some (.int (jI y)), some (.ref (2 + 2 * to)), some (.ref (2 + 2 * a)), some (.ref (2 + 2 * b)), none, none] [] w _
  by_cases h1 : s 2 a = s 2 b
  · by_cases h2 : s 3 a = s 3 b
    · refine fi_step (pc' := 24) m_De_combine rfl rfl ?_
      refine k_get (p := 27) m_De_combine rfl rfl (by first | exact C_print hC | exact C_minors hC | exact C_stairs hC | exact (CW_cst hC).2.1 | exact C_mat hC (by omega) | assumption) rfl ?_
      refine fi_step (pc' := 29) m_De_combine rfl rfl ?_
      refine k_get (p := 32) m_De_combine rfl rfl (by first | exact C_print hC | exact C_minors hC | exact C_stairs hC | exact (CW_cst hC).2.1 | exact C_mat hC (by omega) | assumption) rfl ?_
      refine s_ic_ne (p := 35) m_De_combine rfl rfl (by omega) (by omega) (by omega) (by omega) (fun hbr => False.elim (by omega)) (fun hbr => ?_)
      refine fi_step (pc' := 37) m_De_combine rfl rfl ?_
      refine k_get (p := 40) m_De_combine rfl rfl (by first | exact C_print hC | exact C_minors hC | exact C_stairs hC | exact (CW_cst hC).2.1 | exact C_mat hC (by omega) | assumption) rfl ?_
      refine fi_step (pc' := 42) m_De_combine rfl rfl ?_
      refine k_get (p := 45) m_De_combine rfl rfl (by first | exact C_print hC | exact C_minors hC | exact C_stairs hC | exact (CW_cst hC).2.1 | exact C_mat hC (by omega) | assumption) rfl ?_
      refine s_ic_eq (p := 48) m_De_combine rfl rfl (by omega) (by omega) (by omega) (by omega) (fun hbr => ?_) (fun hbr => False.elim (by omega))
      refine fi_step (pc' := 52) m_De_combine rfl rfl ?_
      refine k_get (p := 55) m_De_combine rfl rfl (by first | exact C_print hC | exact C_minors hC | exact C_stairs hC | exact (CW_cst hC).2.1 | exact C_mat hC (by omega) | assumption) rfl ?_
      refine fi_step (pc' := 57) m_De_combine rfl rfl ?_
      refine k_get (p := 60) m_De_combine rfl rfl (by first | exact C_print hC | exact C_minors hC | exact C_stairs hC | exact (CW_cst hC).2.1 | exact C_mat hC (by omega) | assumption) rfl ?_
      refine fi_step (pc' := 62) m_De_combine rfl rfl ?_
      refine k_get (p := 65) m_De_combine rfl rfl (by first | exact C_print hC | exact C_minors hC | exact C_stairs hC | exact (CW_cst hC).2.1 | exact C_mat hC (by omega) | assumption) rfl ?_
      refine g_3 (p := 68) m_De_combine rfl inv_v (by decide) m_Ma_reset rfl rfl (by omega) (by omega) (Nat.le_of_ble_eq_true rfl) (Nat.le_of_ble_eq_true rfl) (C_rcvM (m := 6) hC (by omega) _) (ma_reset6 (R := s 2 a) (C := s 3 a) hC (by omega) (by omega)) (fun v w hP => ?_)
      obtain ⟨rfl, hC⟩ := hP
      have e2 : gvM s 6 (s 2 a) (s 3 a) (fun _ _ => 0) 2 a = s 2 a := gv6_2 ha
      refine fi_step (pc' := 69) m_De_combine rfl rfl ?_
      refine fi_step (pc' := 71) m_De_combine rfl rfl ?_
      refine fi_step (pc' := 73) m_De_combine rfl rfl ?_
      refine fi_step (pc' := 75) m_De_combine rfl rfl ?_
      refine k_get (p := 78) m_De_combine rfl rfl (by first | exact C_print hC | exact C_minors hC | exact C_stairs hC | exact (CW_cst hC).2.1 | exact C_mat hC (by omega) | assumption) rfl ?_
      refine s_ic_ge (p := 81) m_De_combine rfl rfl (by omega) (by omega) (by omega) (by omega) (fun hbr => False.elim (by omega)) (fun hbr => ?_)
      refine fi_step (pc' := 82) m_De_combine rfl rfl ?_
      refine fi_step (pc' := 84) m_De_combine rfl rfl ?_
      show fin xs fr lo 33 84 [some (.ref 0), some (.int (jI to)), some (.int (jI a)), some (.int (jI x)), some (.int (jI b)), some (.int (jI y)), some (.ref (2 + 2 * to)), some (.ref (2 + 2 * a)), some (.ref (2 + 2 * b)), some (.int (jI 0)), some (.int (jI 0))] [] w _
      refine fi_mono (comb_loop hok ht ha hb rfl rfl h1.symm h2.symm (by omega) (by omega) (by omega) (by omega) x0 x1 y0 y1 hfr hlo rfl 100 0 0 _ w v (by omega) (by omega) (by omega) (by omega) (by omega) hC (fun _ _ _ _ => rfl) (fun i' j' _ _ _ h => by omega)) (fun o w' ⟨u, e, h⟩ => ⟨u, e, Or.inr ⟨⟨h1, h2⟩, h⟩⟩)
    · refine fi_step (pc' := 24) m_De_combine rfl rfl ?_
      refine k_get (p := 27) m_De_combine rfl rfl (by first | exact C_print hC | exact C_minors hC | exact C_stairs hC | exact (CW_cst hC).2.1 | exact C_mat hC (by omega) | assumption) rfl ?_
      refine fi_step (pc' := 29) m_De_combine rfl rfl ?_
      refine k_get (p := 32) m_De_combine rfl rfl (by first | exact C_print hC | exact C_minors hC | exact C_stairs hC | exact (CW_cst hC).2.1 | exact C_mat hC (by omega) | assumption) rfl ?_
      refine s_ic_ne (p := 35) m_De_combine rfl rfl (by omega) (by omega) (by omega) (by omega) (fun hbr => False.elim (by omega)) (fun hbr => ?_)
      refine fi_step (pc' := 37) m_De_combine rfl rfl ?_
      refine k_get (p := 40) m_De_combine rfl rfl (by first | exact C_print hC | exact C_minors hC | exact C_stairs hC | exact (CW_cst hC).2.1 | exact C_mat hC (by omega) | assumption) rfl ?_
      refine fi_step (pc' := 42) m_De_combine rfl rfl ?_
      refine k_get (p := 45) m_De_combine rfl rfl (by first | exact C_print hC | exact C_minors hC | exact C_stairs hC | exact (CW_cst hC).2.1 | exact C_mat hC (by omega) | assumption) rfl ?_
      refine s_ic_eq (p := 48) m_De_combine rfl rfl (by omega) (by omega) (by omega) (by omega) (fun hbr => False.elim (by omega)) (fun hbr => ?_)
      refine s_bipush (p := 50) m_De_combine rfl rfl rfl ?_
      refine p_reti m_De_combine rfl rfl ?_
      exact Or.inl ⟨fun h => h2 h.2, s, v, hC, hok, ⟨rfl, rfl⟩, rfl, rfl⟩
  · refine fi_step (pc' := 24) m_De_combine rfl rfl ?_
    refine k_get (p := 27) m_De_combine rfl rfl (by first | exact C_print hC | exact C_minors hC | exact C_stairs hC | exact (CW_cst hC).2.1 | exact C_mat hC (by omega) | assumption) rfl ?_
    refine fi_step (pc' := 29) m_De_combine rfl rfl ?_
    refine k_get (p := 32) m_De_combine rfl rfl (by first | exact C_print hC | exact C_minors hC | exact C_stairs hC | exact (CW_cst hC).2.1 | exact C_mat hC (by omega) | assumption) rfl ?_
    refine s_ic_ne (p := 35) m_De_combine rfl rfl (by omega) (by omega) (by omega) (by omega) (fun hbr => ?_) (fun hbr => False.elim (by omega))
    refine s_bipush (p := 50) m_De_combine rfl rfl rfl ?_
    refine p_reti m_De_combine rfl rfl ?_
    exact Or.inl ⟨fun h => h1 h.1, s, v, hC, hok, ⟨rfl, rfl⟩, rfl, rfl⟩
theorem de_combineT {to a x b y : Int} (hC : CW w0 w s v L Z) (t0 : -2147483648 ≤ to) (t1 : to < 2147483648) (a0 : -2147483648 ≤ a) (a1 : a < 2147483648) (b0 : -2147483648 ≤ b) (b1 : b < 2147483648) (h : ¬ ((0 ≤ to ∧ to < 6) ∧ (0 ≤ a ∧ a < 6) ∧ (0 ≤ b ∧ b < 6))) (hfr : 8 ≤ fr) (hlo : 230 ≤ lo) : fin xs fr lo 33 0 (ax_ent [.ref 0, .int (jI to), .int (jI a), .int (jI x), .int (jI b), .int (jI y)] 11) [] w (Thr 9 w) := by
  refine fi_step (pc' := 1) m_De_combine rfl rfl ?_
  refine fi_step (pc' := 2) m_De_combine rfl rfl ?_
  by_cases h1 : 0 ≤ to ∧ to < 6
  · obtain ⟨to, rfl⟩ := Int.eq_ofNat_of_zero_le h1.1
    refine c_2 (p := 5) m_De_combine rfl inv_v (by decide) m_De_matrix rfl rfl (by omega) (by omega) (Nat.le_of_ble_eq_true rfl) (Nat.le_of_ble_eq_true rfl) (C_rcvD hC _) (de_matrix hC (show to < 6 by omega)) ?_
    refine fi_step (pc' := 7) m_De_combine rfl rfl ?_
    refine fi_step (pc' := 8) m_De_combine rfl rfl ?_
    refine fi_step (pc' := 9) m_De_combine rfl rfl ?_
    by_cases h2 : 0 ≤ a ∧ a < 6
    · obtain ⟨a, rfl⟩ := Int.eq_ofNat_of_zero_le h2.1
      refine c_2 (p := 12) m_De_combine rfl inv_v (by decide) m_De_matrix rfl rfl (by omega) (by omega) (Nat.le_of_ble_eq_true rfl) (Nat.le_of_ble_eq_true rfl) (C_rcvD hC _) (de_matrix hC (show a < 6 by omega)) ?_
      refine fi_step (pc' := 14) m_De_combine rfl rfl ?_
      refine fi_step (pc' := 15) m_De_combine rfl rfl ?_
      refine fi_step (pc' := 17) m_De_combine rfl rfl ?_
      exact t_2 m_De_combine rfl inv_v (by decide) m_De_matrix rfl (by omega) (by omega) (Nat.le_of_ble_eq_true rfl) (Nat.le_of_ble_eq_true rfl) (C_rcvD hC _) (de_matrixT b0 b1 (by omega) (by omega) (by omega)) rfl
    · exact t_2 m_De_combine rfl inv_v (by decide) m_De_matrix rfl (by omega) (by omega) (Nat.le_of_ble_eq_true rfl) (Nat.le_of_ble_eq_true rfl) (C_rcvD hC _) (de_matrixT a0 a1 h2 (by omega) (by omega)) rfl
  · exact t_2 m_De_combine rfl inv_v (by decide) m_De_matrix rfl (by omega) (by omega) (Nat.le_of_ble_eq_true rfl) (Nat.le_of_ble_eq_true rfl) (C_rcvD hC _) (de_matrixT t0 t1 h1 (by omega) (by omega)) rfl
end SUM
