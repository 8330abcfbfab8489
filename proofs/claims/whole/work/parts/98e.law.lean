/-! THE LAW: its cases -/
def LK (w : ax_W) (L Z : Nat) : Prop := ∃ (w0 : ax_W) (s : mo_S) (v : Nat → Int) (sr : mo_S) (r : Int → Int) (o : Int64), CW w0 w s v L Z ∧ okC s v ∧ RW w w sr ∧ w[437]? = some (21, [.long o]) ∧ Bg sr r ∧ 0 ≤ sr 0 5 ∧ absC s = absR sr
theorem LK_more {w : ax_W} {L Z L' Z' : Nat} (h : LK w L Z) (hL : L ≤ L') (hZ : Z ≤ Z') : LK w L' Z' := by
  obtain ⟨w0, s, v, sr, r, o, h1, h2⟩ := h
  exact ⟨w0, s, v, sr, r, o, CW_more h1 hL hZ, h2⟩
theorem MI_abs {s sr : mo_S} (h : absC s = absR sr) (hM : MI (rf s)) : MI sr := by
  have h4 : rf s 4 = sr 4 := congrArg (fun α : AB => α.1) h
  have h5 : rf s 5 = sr 5 := congrArg (fun α : AB => α.2.1) h
  have h6 : rf s 6 = sr 6 := congrArg (fun α : AB => α.2.2.1) h
  unfold MI at hM ⊢
  rw [h4, h5, h6] at hM
  exact hM
theorem RW_same {w w' : ax_W} {s : mo_S} (h : RW w w s) (hk : ∀ j, 425 ≤ j → j < 437 → w'[j]? = w[j]?) : RW w' w' s := ⟨rfl, fun _ _ => rfl, fun k hk' => by rw [hk _ (by omega) (by omega)]; exact h.2.2 k hk'⟩
theorem sz_pt {w w' : ax_W} (hl : w'.length = w.length) (h : ∀ j, j < w.length → (w'[j]?).map ax_cs = (w[j]?).map ax_cs) : ax_sz w' = ax_sz w := by
  unfold ax_sz
  congr 1
  apply List.ext_getElem?
  intro j
  rw [List.getElem?_map, List.getElem?_map]
  by_cases hj : j < w.length
  · exact h j hj
  · rw [List.getElem?_eq_none (by omega), List.getElem?_eq_none (by omega)]
theorem mc_cs (s s' : mo_S) (k : Nat) : ax_cs (mc s k) = ax_cs (mc s' k) := by
  unfold mc
  split <;> simp [ax_cs, aI_len, aL_len, mo_fs]
theorem CB_next {w0 w w1 : ax_W} {s sr : mo_S} {v : Nat → Int} {L Z : Nat} {α : AB} {o : Int64} (hC : CW w0 w s v L Z) (hR : RW w w sr) (hout : w[437]? = some (21, [.long o])) (h : CB w0 L Z α w1) (x : Int64) : ∃ w0' s' v', CW w0' (w1.set 437 (21, [.long x])) s' v' L Z ∧ okC s' v' ∧ absC s' = α ∧ RW (w1.set 437 (21, [.long x])) (w1.set 437 (21, [.long x])) sr ∧ (w1.set 437 (21, [.long x]))[437]? = some (21, [.long x]) := by
  obtain ⟨s', v', h1, h2, h3⟩ := h
  have cells : ∀ j, 425 ≤ j → j < 438 → w1[j]? = w[j]? := fun j a b => (CW_out h1 a b).trans (CW_out hC a b).symm
  have ho : w1[437]? = some (21, [.long o]) := (cells 437 (by omega) (by omega)).trans hout
  obtain ⟨l, a, n, z⟩ := chg_set (q' := (21, [.long x])) ho rfl
  obtain ⟨w0', hC'⟩ := CW_frame h1 l (fun j hj => a j (by omega)) (fun j hj => a j (by omega)) z
  exact ⟨w0', s', v', hC', h2, h3, RW_same hR (fun j j1 j2 => (a j (by omega)).trans (cells j j1 (by omega))), n⟩
theorem Thr_next {w0 w : ax_W} {s sr : mo_S} {v : Nat → Int} {L Z t : Nat} {o : Int64} (hC : CW w0 w s v L Z) (hR : RW w w sr) (hout : w[437]? = some (21, [.long o])) (ht : t = 9 ∨ t = 10) : CW w0 (w ++ [(t, [])]) s v (L + 1) (Z + 198) ∧ RW (w ++ [(t, [])]) (w ++ [(t, [])]) sr ∧ (w ++ [(t, [])])[437]? = some (21, [.long o]) := by
  have hlen := CW_len hC
  refine ⟨CW_app hC ht, RW_same hR (fun j j1 j2 => List.getElem?_append_left (by omega)), ?_⟩
  rw [List.getElem?_append_left (by omega)]; exact hout
theorem LK_ref {w0 w w2 : ax_W} {s sr : mo_S} {v : Nat → Int} {L Z : Nat} {α : AB} {o : Int64} {t : Int} (hC : CW w0 w s v L Z) (hok : okC s v) (hR : RW w w sr) (hout : w[437]? = some (21, [.long o])) (h : RX w t α w2) (e : absC s = α) : LK w2 L Z ∧ w2[437]? = some (21, [.long o]) ∧ ∃ sr', RW w2 w2 sr' ∧ sr' 0 0 = t := by
  obtain ⟨sr', r', h1, h2, h3, h4, h5⟩ := h
  have hz : ax_sz w2 = ax_sz w := sz_pt h1.1 (fun j hj => by
    by_cases e : j < 425 ∨ 436 < j
    · rw [h1.2.1 j e]
    · obtain ⟨k, rfl⟩ : ∃ k, j = k + 425 := ⟨j - 425, by omega⟩
      rw [h1.2.2 k (by omega), hR.2.2 k (by omega)]
      simp only [Option.map_some]
      rw [mc_cs sr' sr k])
  obtain ⟨w0', hC'⟩ := CW_frame hC h1.1 (fun j hj => h1.2.1 j (Or.inl hj)) (fun j hj => h1.2.1 j (Or.inr (by omega))) hz
  have ho : w2[437]? = some (21, [.long o]) := (h1.2.1 437 (Or.inr (by omega))).trans hout
  have hR2 : RW w2 w2 sr' := ⟨rfl, fun _ _ => rfl, h1.2.2⟩
  exact ⟨⟨w0', s, v, sr', r', o, hC', hok, hR2, ho, h2, h5, e.trans h4.symm⟩, ho, sr', hR2, h3⟩
section LAW1
variable {xs : List Int32} {fr lo L Z i : Nat} {w : ax_W} {Q : Outcome → ax_W → Prop} {y5 y6 y7 : Option Value}
theorem g_7 {pc p l zc b u3 z nl rc : Nat} {ins : Instr} {ls : List (Option Value)} {rest : List Value} {P : Option Value → ax_W → Prop} {M : ax_M} {kc : List (Option ax_E)} {tb : List (Nat × Nat × Nat × Nat)} {x0 x1 x2 x3 x4 x5 x6 : Value} (hM : ax_prog[z]? = some M) (he : M.1[pc]? = some (some (ins, l, zc, b, u3))) (hi : ax_isinv ins) (hz : zc < 1000) (hM' : ax_prog[zc]? = some (kc, nl, rc, tb)) (hb : b % 100 = 7) (hp : pc + 3 = p) (hfr : 1 ≤ fr) (hlo : nl + 19 ≤ lo) (hwt : (rest.map ax_wt).sum ≤ 8) (hsl : (ax_sl [x0, x1, x2, x3, x4, x5, x6]).length ≤ nl) (hrc : ax_rcv (b / 100) [x0, x1, x2, x3, x4, x5, x6] w = true)
    (hc : fin xs (fr - 1) (lo - (nl + 19)) zc 0 (ax_ent [x0, x1, x2, x3, x4, x5, x6] nl) [] w (Ret P)) (k : ∀ v w1, P v w1 → fin xs fr lo z p ls (v.toList ++ rest) w1 Q) : fin xs fr lo z pc ls (x6 :: x5 :: x4 :: x3 :: x2 :: x1 :: x0 :: rest) w Q := by
  subst hp; refine fi_call hM he hi rfl rfl hz hM' hfr hlo (as := [x0, x1, x2, x3, x4, x5, x6]) rfl hb.symm hwt hsl hrc hc (fun v' w1 h => ?_) (fun i w1 h => by obtain ⟨v, h1, _⟩ := h; cases h1)
  obtain ⟨v, h1, h2⟩ := h; cases h1; exact k _ _ h2
set_option maxRecDepth 20000 in
theorem lw_combine (hLK : LK w L Z) (hi : (i : Int) + 6 ≤ xs.length) (hx : xs.length ≤ 3072) (hfr : 12 ≤ fr) (hlo : 502 ≤ lo) (K : ∀ w y5 y6 y7, LK w (L + 1) (Z + 198) → fin xs fr lo 185 1412 [some (.retAddr 0), some (.ref 0), some (.ref 425), some (.ref 437), some (.int (jI (i : Int))), y5, y6, y7] [] w Q) : fin xs fr lo 185 412 [some (.retAddr 0), some (.ref 0), some (.ref 425), some (.ref 437), some (.int (jI (i : Int))), y5, y6, y7] [] w Q := by
  obtain ⟨w0, s, v, sr, r, o, hC, hok, hR, hout, hB, h5, hab⟩ := hLK
  have hM := MI_abs hab hok.1
  obtain ⟨p1, ep1⟩ : ∃ q, q = sc xs ((i : Int) + 1) := ⟨_, rfl⟩
  have bp1 := sc_b xs ((i : Int) + 1)
  rw [← ep1] at bp1
  obtain ⟨p2, ep2⟩ : ∃ q, q = sc xs ((i : Int) + 2) := ⟨_, rfl⟩
  have bp2 := sc_b xs ((i : Int) + 2)
  rw [← ep2] at bp2
  obtain ⟨p3, ep3⟩ : ∃ q, q = sc xs ((i : Int) + 3) := ⟨_, rfl⟩
  have bp3 := sc_b xs ((i : Int) + 3)
  rw [← ep3] at bp3
  obtain ⟨p4, ep4⟩ : ∃ q, q = sc xs ((i : Int) + 4) := ⟨_, rfl⟩
  have bp4 := sc_b xs ((i : Int) + 4)
  rw [← ep4] at bp4
  obtain ⟨p5, ep5⟩ : ∃ q, q = sc xs ((i : Int) + 5) := ⟨_, rfl⟩
  have bp5 := sc_b xs ((i : Int) + 5)
  rw [← ep5] at bp5
  refine fi_step (pc' := 413) m_La_law rfl rfl ?_
  refine fi_step (pc' := 414) m_La_law rfl rfl ?_
  refine fi_step (pc' := 416) m_La_law rfl rfl ?_
  refine fi_step (pc' := 417) m_La_law rfl rfl ?_
  refine s_iadd (p := 418) m_La_law rfl rfl ?_
  refine l_ld (p := 419) m_La_law rfl rfl (by omega) (by omega) (by omega) ?_
  refine fi_step (pc' := 420) m_La_law rfl rfl ?_
  refine fi_step (pc' := 422) m_La_law rfl rfl ?_
  refine fi_step (pc' := 423) m_La_law rfl rfl ?_
  refine s_iadd (p := 424) m_La_law rfl rfl ?_
  refine l_ld (p := 425) m_La_law rfl rfl (by omega) (by omega) (by omega) ?_
  refine fi_step (pc' := 426) m_La_law rfl rfl ?_
  refine fi_step (pc' := 428) m_La_law rfl rfl ?_
  refine fi_step (pc' := 429) m_La_law rfl rfl ?_
  refine s_iadd (p := 430) m_La_law rfl rfl ?_
  refine l_ld (p := 431) m_La_law rfl rfl (by omega) (by omega) (by omega) ?_
  refine fi_step (pc' := 432) m_La_law rfl rfl ?_
  refine fi_step (pc' := 434) m_La_law rfl rfl ?_
  refine fi_step (pc' := 435) m_La_law rfl rfl ?_
  refine s_iadd (p := 436) m_La_law rfl rfl ?_
  refine l_ld (p := 437) m_La_law rfl rfl (by omega) (by omega) (by omega) ?_
  refine fi_step (pc' := 438) m_La_law rfl rfl ?_
  refine fi_step (pc' := 440) m_La_law rfl rfl ?_
  refine fi_step (pc' := 441) m_La_law rfl rfl ?_
  refine s_iadd (p := 442) m_La_law rfl rfl ?_
  refine l_ld (p := 443) m_La_law rfl rfl (by omega) (by omega) (by omega) ?_
  refine fi_step (pc' := 444) m_La_law rfl rfl ?_
  rw [← ep1, ← ep2, ← ep3, ← ep4, ← ep5]
  by_cases hc : (0 ≤ p1 ∧ p1 < 6) ∧ (0 ≤ p2 ∧ p2 < 6) ∧ (0 ≤ p4 ∧ p4 < 6)
  · refine g_7 (p := 447) m_La_law rfl inv_s (by decide) m_La_combine rfl rfl (by omega) (by omega) (Nat.le_of_ble_eq_true rfl) (Nat.le_of_ble_eq_true rfl) rfl (la_combine hC hout (by omega) (by omega) (sC_combine hC hok hc bp3.1 bp3.2 bp5.1 bp5.2 (by omega) (by omega))) (fun v w hP => ?_)
    obtain ⟨rfl, c, α', w1, hS, hr, hCB, rfl⟩ := hP
    obtain ⟨w0', s', v', hC', hok', hab', hR', hout'⟩ := CB_next hC hR hout hCB (jL c)
    refine fi_step (pc' := 449) m_La_law rfl rfl ?_
    refine fi_step (pc' := 450) m_La_law rfl rfl ?_
    refine fi_step (pc' := 451) m_La_law rfl rfl ?_
    refine fi_step (pc' := 453) m_La_law rfl rfl ?_
    refine fi_step (pc' := 454) m_La_law rfl rfl ?_
    refine s_iadd (p := 455) m_La_law rfl rfl ?_
    refine l_ld (p := 456) m_La_law rfl rfl (by omega) (by omega) (by omega) ?_
    refine fi_step (pc' := 457) m_La_law rfl rfl ?_
    refine fi_step (pc' := 459) m_La_law rfl rfl ?_
    refine fi_step (pc' := 460) m_La_law rfl rfl ?_
    refine s_iadd (p := 461) m_La_law rfl rfl ?_
    refine l_ld (p := 462) m_La_law rfl rfl (by omega) (by omega) (by omega) ?_
    refine fi_step (pc' := 463) m_La_law rfl rfl ?_
    refine fi_step (pc' := 465) m_La_law rfl rfl ?_
    refine fi_step (pc' := 466) m_La_law rfl rfl ?_
    refine s_iadd (p := 467) m_La_law rfl rfl ?_
    refine l_ld (p := 468) m_La_law rfl rfl (by omega) (by omega) (by omega) ?_
    refine fi_step (pc' := 469) m_La_law rfl rfl ?_
    refine fi_step (pc' := 471) m_La_law rfl rfl ?_
    refine fi_step (pc' := 472) m_La_law rfl rfl ?_
    refine s_iadd (p := 473) m_La_law rfl rfl ?_
    refine l_ld (p := 474) m_La_law rfl rfl (by omega) (by omega) (by omega) ?_
    refine fi_step (pc' := 475) m_La_law rfl rfl ?_
    refine fi_step (pc' := 477) m_La_law rfl rfl ?_
    refine fi_step (pc' := 478) m_La_law rfl rfl ?_
    refine s_iadd (p := 479) m_La_law rfl rfl ?_
    refine l_ld (p := 480) m_La_law rfl rfl (by omega) (by omega) (by omega) ?_
    rw [← ep1, ← ep2, ← ep3, ← ep4, ← ep5]
    refine g_6 (p := 483) m_La_law rfl inv_v (by decide) m_Mo_combine rfl rfl (by omega) (by omega) (Nat.le_of_ble_eq_true rfl) (Nat.le_of_ble_eq_true rfl) (RW_rcv hR' _) (sR_combine hR' hM hB h5 hc bp1.1 bp1.2 bp2.1 bp2.2 bp3.1 bp3.2 bp4.1 bp4.2 bp5.1 bp5.2 (by omega) (by omega)) (fun v w hP => ?_)
    obtain ⟨c2, β', hS2, hX, rfl⟩ := hP
    rw [← hab] at hS2
    obtain ⟨rfl, rfl⟩ := u_combine hS hS2
    obtain ⟨hL2, hout2, sr2, hR2, ht2⟩ := LK_ref hC' hok' hR' hout' hX hab'
    refine fi_step (pc' := 485) m_La_law rfl rfl ?_
    refine fi_step (pc' := 486) m_La_law rfl rfl ?_
    refine c_1 (p := 489) m_La_law rfl inv_v (by decide) m_Mo_thrown rfl rfl (by omega) (by omega) (Nat.le_of_ble_eq_true rfl) (Nat.le_of_ble_eq_true rfl) (RW_rcv hR2 _) (c_thrown hR2) ?_
    rw [ht2]
    refine fi_step (pc' := 491) m_La_law rfl rfl ?_
    refine s_ic_eq (p := 494) m_La_law rfl rfl (by omega) (by omega) (by omega) (by omega) (fun hbr => ?_) (fun hbr => False.elim (by omega))
    refine fi_step (pc' := 498) m_La_law rfl rfl ?_
    refine s_if_ne (p := 501) m_La_law rfl rfl (by omega) (by omega) (fun hbr => False.elim (by omega)) (fun hbr => ?_)
    refine fi_step (pc' := 502) m_La_law rfl rfl ?_
    refine fi_step (pc' := 503) m_La_law rfl rfl ?_
    refine fi_lald m_La_law rfl hout2 (by decide) (v := .long (jL c)) rfl ?_
    refine fi_step (pc' := 506) m_La_law rfl rfl ?_
    refine s_i2l (p := 507) m_La_law rfl rfl (by omega) (by omega) ?_
    refine s_lc_eq (q := 508) (p := 511) m_La_law rfl rfl rfl rfl (by omega) (by omega) (by omega) (by omega) (fun hbr => ?_) (fun hbr => False.elim (by omega))
    refine fi_step (pc' := 1412) m_La_law rfl rfl ?_
    exact K _ _ _ _ (LK_more hL2 (by omega) (by omega))
  · refine g_7 (p := 447) m_La_law rfl inv_s (by decide) m_La_combine rfl rfl (by omega) (by omega) (Nat.le_of_ble_eq_true rfl) (Nat.le_of_ble_eq_true rfl) rfl (la_combineT hC (by omega) (by omega) (de_combineT (to := p1) (a := p2) (x := p3) (b := p4) (y := p5) hC bp1.1 bp1.2 bp2.1 bp2.2 bp4.1 bp4.2 hc (by omega) (by omega))) (fun v w hP => ?_)
    obtain ⟨rfl, rfl⟩ := hP
    obtain ⟨hC', hR', hout'⟩ := Thr_next hC hR hout (Or.inl rfl)
    refine fi_step (pc' := 449) m_La_law rfl rfl ?_
    refine fi_step (pc' := 450) m_La_law rfl rfl ?_
    refine fi_step (pc' := 451) m_La_law rfl rfl ?_
    refine fi_step (pc' := 453) m_La_law rfl rfl ?_
    refine fi_step (pc' := 454) m_La_law rfl rfl ?_
    refine s_iadd (p := 455) m_La_law rfl rfl ?_
    refine l_ld (p := 456) m_La_law rfl rfl (by omega) (by omega) (by omega) ?_
    refine fi_step (pc' := 457) m_La_law rfl rfl ?_
    refine fi_step (pc' := 459) m_La_law rfl rfl ?_
    refine fi_step (pc' := 460) m_La_law rfl rfl ?_
    refine s_iadd (p := 461) m_La_law rfl rfl ?_
    refine l_ld (p := 462) m_La_law rfl rfl (by omega) (by omega) (by omega) ?_
    refine fi_step (pc' := 463) m_La_law rfl rfl ?_
    refine fi_step (pc' := 465) m_La_law rfl rfl ?_
    refine fi_step (pc' := 466) m_La_law rfl rfl ?_
    refine s_iadd (p := 467) m_La_law rfl rfl ?_
    refine l_ld (p := 468) m_La_law rfl rfl (by omega) (by omega) (by omega) ?_
    refine fi_step (pc' := 469) m_La_law rfl rfl ?_
    refine fi_step (pc' := 471) m_La_law rfl rfl ?_
    refine fi_step (pc' := 472) m_La_law rfl rfl ?_
    refine s_iadd (p := 473) m_La_law rfl rfl ?_
    refine l_ld (p := 474) m_La_law rfl rfl (by omega) (by omega) (by omega) ?_
    refine fi_step (pc' := 475) m_La_law rfl rfl ?_
    refine fi_step (pc' := 477) m_La_law rfl rfl ?_
    refine fi_step (pc' := 478) m_La_law rfl rfl ?_
    refine s_iadd (p := 479) m_La_law rfl rfl ?_
    refine l_ld (p := 480) m_La_law rfl rfl (by omega) (by omega) (by omega) ?_
    rw [← ep1, ← ep2, ← ep3, ← ep4, ← ep5]
    refine g_6 (p := 483) m_La_law rfl inv_v (by decide) m_Mo_combine rfl rfl (by omega) (by omega) (Nat.le_of_ble_eq_true rfl) (Nat.le_of_ble_eq_true rfl) (RW_rcv hR' _) (sR_combineT hR' hM hB h5 hc bp1.1 bp1.2 bp2.1 bp2.2 bp3.1 bp3.2 bp4.1 bp4.2 bp5.1 bp5.2 (by omega) (by omega)) (fun v w hP => ?_)
    obtain ⟨hX, rfl⟩ := hP
    obtain ⟨hL2, hout2, sr2, hR2, ht2⟩ := LK_ref hC' hok hR' hout' hX hab
    refine fi_step (pc' := 485) m_La_law rfl rfl ?_
    refine fi_step (pc' := 486) m_La_law rfl rfl ?_
    refine c_1 (p := 489) m_La_law rfl inv_v (by decide) m_Mo_thrown rfl rfl (by omega) (by omega) (Nat.le_of_ble_eq_true rfl) (Nat.le_of_ble_eq_true rfl) (RW_rcv hR2 _) (c_thrown hR2) ?_
    rw [ht2]
    refine fi_step (pc' := 491) m_La_law rfl rfl ?_
    refine s_ic_eq (p := 494) m_La_law rfl rfl (by omega) (by omega) (by omega) (by omega) (fun hbr => ?_) (fun hbr => False.elim (by omega))
    refine fi_step (pc' := 498) m_La_law rfl rfl ?_
    refine s_if_ne (p := 501) m_La_law rfl rfl (by omega) (by omega) (fun hbr => ?_) (fun hbr => False.elim (by omega))
    refine fi_step (pc' := 1412) m_La_law rfl rfl ?_
    exact K _ _ _ _ hL2
set_option maxRecDepth 20000 in
theorem lw_multiply (hLK : LK w L Z) (hi : (i : Int) + 6 ≤ xs.length) (hx : xs.length ≤ 3072) (hfr : 12 ≤ fr) (hlo : 502 ≤ lo) (K : ∀ w y5 y6 y7, LK w (L + 1) (Z + 198) → fin xs fr lo 185 1412 [some (.retAddr 0), some (.ref 0), some (.ref 425), some (.ref 437), some (.int (jI (i : Int))), y5, y6, y7] [] w Q) : fin xs fr lo 185 516 [some (.retAddr 0), some (.ref 0), some (.ref 425), some (.ref 437), some (.int (jI (i : Int))), y5, y6, y7] [] w Q := by
  obtain ⟨w0, s, v, sr, r, o, hC, hok, hR, hout, hB, h5, hab⟩ := hLK
  have hM := MI_abs hab hok.1
  obtain ⟨p1, ep1⟩ : ∃ q, q = sc xs ((i : Int) + 1) := ⟨_, rfl⟩
  have bp1 := sc_b xs ((i : Int) + 1)
  rw [← ep1] at bp1
  obtain ⟨p2, ep2⟩ : ∃ q, q = sc xs ((i : Int) + 2) := ⟨_, rfl⟩
  have bp2 := sc_b xs ((i : Int) + 2)
  rw [← ep2] at bp2
  obtain ⟨p3, ep3⟩ : ∃ q, q = sc xs ((i : Int) + 3) := ⟨_, rfl⟩
  have bp3 := sc_b xs ((i : Int) + 3)
  rw [← ep3] at bp3
  refine fi_step (pc' := 517) m_La_law rfl rfl ?_
  refine fi_step (pc' := 518) m_La_law rfl rfl ?_
  refine fi_step (pc' := 520) m_La_law rfl rfl ?_
  refine fi_step (pc' := 521) m_La_law rfl rfl ?_
  refine s_iadd (p := 522) m_La_law rfl rfl ?_
  refine l_ld (p := 523) m_La_law rfl rfl (by omega) (by omega) (by omega) ?_
  refine fi_step (pc' := 524) m_La_law rfl rfl ?_
  refine fi_step (pc' := 526) m_La_law rfl rfl ?_
  refine fi_step (pc' := 527) m_La_law rfl rfl ?_
  refine s_iadd (p := 528) m_La_law rfl rfl ?_
  refine l_ld (p := 529) m_La_law rfl rfl (by omega) (by omega) (by omega) ?_
  refine fi_step (pc' := 530) m_La_law rfl rfl ?_
  refine fi_step (pc' := 532) m_La_law rfl rfl ?_
  refine fi_step (pc' := 533) m_La_law rfl rfl ?_
  refine s_iadd (p := 534) m_La_law rfl rfl ?_
  refine l_ld (p := 535) m_La_law rfl rfl (by omega) (by omega) (by omega) ?_
  refine fi_step (pc' := 536) m_La_law rfl rfl ?_
  rw [← ep1, ← ep2, ← ep3]
  by_cases hc : (0 ≤ p1 ∧ p1 < 6) ∧ (0 ≤ p2 ∧ p2 < 6) ∧ (0 ≤ p3 ∧ p3 < 6)
  · refine g_5 (p := 539) m_La_law rfl inv_s (by decide) m_La_multiply rfl rfl (by omega) (by omega) (Nat.le_of_ble_eq_true rfl) (Nat.le_of_ble_eq_true rfl) rfl (la_multiply hC hout (by omega) (by omega) (sC_multiply hC hok hc  (by omega) (by omega))) (fun v w hP => ?_)
    obtain ⟨rfl, c, α', w1, hS, hr, hCB, rfl⟩ := hP
    obtain ⟨w0', s', v', hC', hok', hab', hR', hout'⟩ := CB_next hC hR hout hCB (jL c)
    refine fi_step (pc' := 541) m_La_law rfl rfl ?_
    refine fi_step (pc' := 542) m_La_law rfl rfl ?_
    refine fi_step (pc' := 543) m_La_law rfl rfl ?_
    refine fi_step (pc' := 545) m_La_law rfl rfl ?_
    refine fi_step (pc' := 546) m_La_law rfl rfl ?_
    refine s_iadd (p := 547) m_La_law rfl rfl ?_
    refine l_ld (p := 548) m_La_law rfl rfl (by omega) (by omega) (by omega) ?_
    refine fi_step (pc' := 549) m_La_law rfl rfl ?_
    refine fi_step (pc' := 551) m_La_law rfl rfl ?_
    refine fi_step (pc' := 552) m_La_law rfl rfl ?_
    refine s_iadd (p := 553) m_La_law rfl rfl ?_
    refine l_ld (p := 554) m_La_law rfl rfl (by omega) (by omega) (by omega) ?_
    refine fi_step (pc' := 555) m_La_law rfl rfl ?_
    refine fi_step (pc' := 557) m_La_law rfl rfl ?_
    refine fi_step (pc' := 558) m_La_law rfl rfl ?_
    refine s_iadd (p := 559) m_La_law rfl rfl ?_
    refine l_ld (p := 560) m_La_law rfl rfl (by omega) (by omega) (by omega) ?_
    rw [← ep1, ← ep2, ← ep3]
    refine g_4 (p := 563) m_La_law rfl inv_v (by decide) m_Mo_multiply rfl rfl (by omega) (by omega) (Nat.le_of_ble_eq_true rfl) (Nat.le_of_ble_eq_true rfl) (RW_rcv hR' _) (sR_multiply hR' hM hB h5 hc bp1.1 bp1.2 bp2.1 bp2.2 bp3.1 bp3.2 (by omega) (by omega)) (fun v w hP => ?_)
    obtain ⟨c2, β', hS2, hX, rfl⟩ := hP
    rw [← hab] at hS2
    obtain ⟨rfl, rfl⟩ := u_multiply hS hS2
    obtain ⟨hL2, hout2, sr2, hR2, ht2⟩ := LK_ref hC' hok' hR' hout' hX hab'
    refine fi_step (pc' := 565) m_La_law rfl rfl ?_
    refine fi_step (pc' := 566) m_La_law rfl rfl ?_
    refine c_1 (p := 569) m_La_law rfl inv_v (by decide) m_Mo_thrown rfl rfl (by omega) (by omega) (Nat.le_of_ble_eq_true rfl) (Nat.le_of_ble_eq_true rfl) (RW_rcv hR2 _) (c_thrown hR2) ?_
    rw [ht2]
    refine fi_step (pc' := 571) m_La_law rfl rfl ?_
    refine s_ic_eq (p := 574) m_La_law rfl rfl (by omega) (by omega) (by omega) (by omega) (fun hbr => ?_) (fun hbr => False.elim (by omega))
    refine fi_step (pc' := 578) m_La_law rfl rfl ?_
    refine s_if_ne (p := 581) m_La_law rfl rfl (by omega) (by omega) (fun hbr => False.elim (by omega)) (fun hbr => ?_)
    refine fi_step (pc' := 582) m_La_law rfl rfl ?_
    refine fi_step (pc' := 583) m_La_law rfl rfl ?_
    refine fi_lald m_La_law rfl hout2 (by decide) (v := .long (jL c)) rfl ?_
    refine fi_step (pc' := 586) m_La_law rfl rfl ?_
    refine s_i2l (p := 587) m_La_law rfl rfl (by omega) (by omega) ?_
    refine s_lc_eq (q := 588) (p := 591) m_La_law rfl rfl rfl rfl (by omega) (by omega) (by omega) (by omega) (fun hbr => ?_) (fun hbr => False.elim (by omega))
    refine fi_step (pc' := 1412) m_La_law rfl rfl ?_
    exact K _ _ _ _ (LK_more hL2 (by omega) (by omega))
  · refine g_5 (p := 539) m_La_law rfl inv_s (by decide) m_La_multiply rfl rfl (by omega) (by omega) (Nat.le_of_ble_eq_true rfl) (Nat.le_of_ble_eq_true rfl) rfl (la_multiplyT hC (by omega) (by omega) (de_multiplyT (to := p1) (a := p2) (b := p3) hC bp1.1 bp1.2 bp2.1 bp2.2 bp3.1 bp3.2 hc (by omega) (by omega))) (fun v w hP => ?_)
    obtain ⟨rfl, rfl⟩ := hP
    obtain ⟨hC', hR', hout'⟩ := Thr_next hC hR hout (Or.inl rfl)
    refine fi_step (pc' := 541) m_La_law rfl rfl ?_
    refine fi_step (pc' := 542) m_La_law rfl rfl ?_
    refine fi_step (pc' := 543) m_La_law rfl rfl ?_
    refine fi_step (pc' := 545) m_La_law rfl rfl ?_
    refine fi_step (pc' := 546) m_La_law rfl rfl ?_
    refine s_iadd (p := 547) m_La_law rfl rfl ?_
    refine l_ld (p := 548) m_La_law rfl rfl (by omega) (by omega) (by omega) ?_
    refine fi_step (pc' := 549) m_La_law rfl rfl ?_
    refine fi_step (pc' := 551) m_La_law rfl rfl ?_
    refine fi_step (pc' := 552) m_La_law rfl rfl ?_
    refine s_iadd (p := 553) m_La_law rfl rfl ?_
    refine l_ld (p := 554) m_La_law rfl rfl (by omega) (by omega) (by omega) ?_
    refine fi_step (pc' := 555) m_La_law rfl rfl ?_
    refine fi_step (pc' := 557) m_La_law rfl rfl ?_
    refine fi_step (pc' := 558) m_La_law rfl rfl ?_
    refine s_iadd (p := 559) m_La_law rfl rfl ?_
    refine l_ld (p := 560) m_La_law rfl rfl (by omega) (by omega) (by omega) ?_
    rw [← ep1, ← ep2, ← ep3]
    refine g_4 (p := 563) m_La_law rfl inv_v (by decide) m_Mo_multiply rfl rfl (by omega) (by omega) (Nat.le_of_ble_eq_true rfl) (Nat.le_of_ble_eq_true rfl) (RW_rcv hR' _) (sR_multiplyT hR' hM hB h5 hc bp1.1 bp1.2 bp2.1 bp2.2 bp3.1 bp3.2 (by omega) (by omega)) (fun v w hP => ?_)
    obtain ⟨hX, rfl⟩ := hP
    obtain ⟨hL2, hout2, sr2, hR2, ht2⟩ := LK_ref hC' hok hR' hout' hX hab
    refine fi_step (pc' := 565) m_La_law rfl rfl ?_
    refine fi_step (pc' := 566) m_La_law rfl rfl ?_
    refine c_1 (p := 569) m_La_law rfl inv_v (by decide) m_Mo_thrown rfl rfl (by omega) (by omega) (Nat.le_of_ble_eq_true rfl) (Nat.le_of_ble_eq_true rfl) (RW_rcv hR2 _) (c_thrown hR2) ?_
    rw [ht2]
    refine fi_step (pc' := 571) m_La_law rfl rfl ?_
    refine s_ic_eq (p := 574) m_La_law rfl rfl (by omega) (by omega) (by omega) (by omega) (fun hbr => ?_) (fun hbr => False.elim (by omega))
    refine fi_step (pc' := 578) m_La_law rfl rfl ?_
    refine s_if_ne (p := 581) m_La_law rfl rfl (by omega) (by omega) (fun hbr => ?_) (fun hbr => False.elim (by omega))
    refine fi_step (pc' := 1412) m_La_law rfl rfl ?_
    exact K _ _ _ _ hL2
set_option maxRecDepth 20000 in
theorem lw_rank (hLK : LK w L Z) (hi : (i : Int) + 6 ≤ xs.length) (hx : xs.length ≤ 3072) (hfr : 12 ≤ fr) (hlo : 502 ≤ lo) (K : ∀ w y5 y6 y7, LK w (L + 1) (Z + 198) → fin xs fr lo 185 1412 [some (.retAddr 0), some (.ref 0), some (.ref 425), some (.ref 437), some (.int (jI (i : Int))), y5, y6, y7] [] w Q) : fin xs fr lo 185 644 [some (.retAddr 0), some (.ref 0), some (.ref 425), some (.ref 437), some (.int (jI (i : Int))), y5, y6, y7] [] w Q := by
  obtain ⟨w0, s, v, sr, r, o, hC, hok, hR, hout, hB, h5, hab⟩ := hLK
  have hM := MI_abs hab hok.1
  obtain ⟨p1, ep1⟩ : ∃ q, q = sc xs ((i : Int) + 1) := ⟨_, rfl⟩
  have bp1 := sc_b xs ((i : Int) + 1)
  rw [← ep1] at bp1
  refine fi_step (pc' := 645) m_La_law rfl rfl ?_
  refine fi_step (pc' := 646) m_La_law rfl rfl ?_
  refine fi_step (pc' := 648) m_La_law rfl rfl ?_
  refine fi_step (pc' := 649) m_La_law rfl rfl ?_
  refine s_iadd (p := 650) m_La_law rfl rfl ?_
  refine l_ld (p := 651) m_La_law rfl rfl (by omega) (by omega) (by omega) ?_
  refine fi_step (pc' := 652) m_La_law rfl rfl ?_
  rw [← ep1]
  by_cases hc : (0 ≤ p1 ∧ p1 < 6)
  · refine g_3 (p := 655) m_La_law rfl inv_s (by decide) m_La_rank rfl rfl (by omega) (by omega) (Nat.le_of_ble_eq_true rfl) (Nat.le_of_ble_eq_true rfl) rfl (la_rank hC hout (by omega) (by omega) (sC_rank hC hok hc  (by omega) (by omega))) (fun v w hP => ?_)
    obtain ⟨rfl, c, α', w1, hS, hr, hCB, rfl⟩ := hP
    obtain ⟨w0', s', v', hC', hok', hab', hR', hout'⟩ := CB_next hC hR hout hCB (jL c)
    refine fi_step (pc' := 657) m_La_law rfl rfl ?_
    refine fi_step (pc' := 658) m_La_law rfl rfl ?_
    refine fi_step (pc' := 659) m_La_law rfl rfl ?_
    refine fi_step (pc' := 661) m_La_law rfl rfl ?_
    refine fi_step (pc' := 662) m_La_law rfl rfl ?_
    refine s_iadd (p := 663) m_La_law rfl rfl ?_
    refine l_ld (p := 664) m_La_law rfl rfl (by omega) (by omega) (by omega) ?_
    rw [← ep1]
    refine g_2 (p := 667) m_La_law rfl inv_v (by decide) m_Mo_rank rfl rfl (by omega) (by omega) (Nat.le_of_ble_eq_true rfl) (Nat.le_of_ble_eq_true rfl) (RW_rcv hR' _) (sR_rank hR' hM hB h5 hc bp1.1 bp1.2 (by omega) (by omega)) (fun v w hP => ?_)
    obtain ⟨c2, β', hS2, hX, rfl⟩ := hP
    rw [← hab] at hS2
    obtain ⟨rfl, rfl⟩ := u_rank hS hS2
    obtain ⟨hL2, hout2, sr2, hR2, ht2⟩ := LK_ref hC' hok' hR' hout' hX hab'
    refine fi_step (pc' := 669) m_La_law rfl rfl ?_
    refine fi_step (pc' := 670) m_La_law rfl rfl ?_
    refine c_1 (p := 673) m_La_law rfl inv_v (by decide) m_Mo_thrown rfl rfl (by omega) (by omega) (Nat.le_of_ble_eq_true rfl) (Nat.le_of_ble_eq_true rfl) (RW_rcv hR2 _) (c_thrown hR2) ?_
    rw [ht2]
    refine fi_step (pc' := 675) m_La_law rfl rfl ?_
    refine s_ic_eq (p := 678) m_La_law rfl rfl (by omega) (by omega) (by omega) (by omega) (fun hbr => ?_) (fun hbr => False.elim (by omega))
    refine fi_step (pc' := 682) m_La_law rfl rfl ?_
    refine s_if_ne (p := 685) m_La_law rfl rfl (by omega) (by omega) (fun hbr => False.elim (by omega)) (fun hbr => ?_)
    refine fi_step (pc' := 686) m_La_law rfl rfl ?_
    refine fi_step (pc' := 687) m_La_law rfl rfl ?_
    refine fi_lald m_La_law rfl hout2 (by decide) (v := .long (jL c)) rfl ?_
    refine fi_step (pc' := 690) m_La_law rfl rfl ?_
    refine s_i2l (p := 691) m_La_law rfl rfl (by omega) (by omega) ?_
    refine s_lc_eq (q := 692) (p := 695) m_La_law rfl rfl rfl rfl (by omega) (by omega) (by omega) (by omega) (fun hbr => ?_) (fun hbr => False.elim (by omega))
    refine fi_step (pc' := 1412) m_La_law rfl rfl ?_
    exact K _ _ _ _ (LK_more hL2 (by omega) (by omega))
  · refine g_3 (p := 655) m_La_law rfl inv_s (by decide) m_La_rank rfl rfl (by omega) (by omega) (Nat.le_of_ble_eq_true rfl) (Nat.le_of_ble_eq_true rfl) rfl (la_rankT hC (by omega) (by omega) (de_rankT (m := p1) hC bp1.1 bp1.2 hc (by omega) (by omega))) (fun v w hP => ?_)
    obtain ⟨rfl, rfl⟩ := hP
    obtain ⟨hC', hR', hout'⟩ := Thr_next hC hR hout (Or.inl rfl)
    refine fi_step (pc' := 657) m_La_law rfl rfl ?_
    refine fi_step (pc' := 658) m_La_law rfl rfl ?_
    refine fi_step (pc' := 659) m_La_law rfl rfl ?_
    refine fi_step (pc' := 661) m_La_law rfl rfl ?_
    refine fi_step (pc' := 662) m_La_law rfl rfl ?_
    refine s_iadd (p := 663) m_La_law rfl rfl ?_
    refine l_ld (p := 664) m_La_law rfl rfl (by omega) (by omega) (by omega) ?_
    rw [← ep1]
    refine g_2 (p := 667) m_La_law rfl inv_v (by decide) m_Mo_rank rfl rfl (by omega) (by omega) (Nat.le_of_ble_eq_true rfl) (Nat.le_of_ble_eq_true rfl) (RW_rcv hR' _) (sR_rankT hR' hM hB h5 hc bp1.1 bp1.2 (by omega) (by omega)) (fun v w hP => ?_)
    obtain ⟨hX, rfl⟩ := hP
    obtain ⟨hL2, hout2, sr2, hR2, ht2⟩ := LK_ref hC' hok hR' hout' hX hab
    refine fi_step (pc' := 669) m_La_law rfl rfl ?_
    refine fi_step (pc' := 670) m_La_law rfl rfl ?_
    refine c_1 (p := 673) m_La_law rfl inv_v (by decide) m_Mo_thrown rfl rfl (by omega) (by omega) (Nat.le_of_ble_eq_true rfl) (Nat.le_of_ble_eq_true rfl) (RW_rcv hR2 _) (c_thrown hR2) ?_
    rw [ht2]
    refine fi_step (pc' := 675) m_La_law rfl rfl ?_
    refine s_ic_eq (p := 678) m_La_law rfl rfl (by omega) (by omega) (by omega) (by omega) (fun hbr => ?_) (fun hbr => False.elim (by omega))
    refine fi_step (pc' := 682) m_La_law rfl rfl ?_
    refine s_if_ne (p := 685) m_La_law rfl rfl (by omega) (by omega) (fun hbr => ?_) (fun hbr => False.elim (by omega))
    refine fi_step (pc' := 1412) m_La_law rfl rfl ?_
    exact K _ _ _ _ hL2
set_option maxRecDepth 20000 in
theorem lw_hermite (hLK : LK w L Z) (hi : (i : Int) + 6 ≤ xs.length) (hx : xs.length ≤ 3072) (hfr : 12 ≤ fr) (hlo : 502 ≤ lo) (K : ∀ w y5 y6 y7, LK w (L + 1) (Z + 198) → fin xs fr lo 185 1412 [some (.retAddr 0), some (.ref 0), some (.ref 425), some (.ref 437), some (.int (jI (i : Int))), y5, y6, y7] [] w Q) : fin xs fr lo 185 700 [some (.retAddr 0), some (.ref 0), some (.ref 425), some (.ref 437), some (.int (jI (i : Int))), y5, y6, y7] [] w Q := by
  obtain ⟨w0, s, v, sr, r, o, hC, hok, hR, hout, hB, h5, hab⟩ := hLK
  have hM := MI_abs hab hok.1
  obtain ⟨p1, ep1⟩ : ∃ q, q = sc xs ((i : Int) + 1) := ⟨_, rfl⟩
  have bp1 := sc_b xs ((i : Int) + 1)
  rw [← ep1] at bp1
  obtain ⟨p2, ep2⟩ : ∃ q, q = sc xs ((i : Int) + 2) := ⟨_, rfl⟩
  have bp2 := sc_b xs ((i : Int) + 2)
  rw [← ep2] at bp2
  refine fi_step (pc' := 701) m_La_law rfl rfl ?_
  refine fi_step (pc' := 702) m_La_law rfl rfl ?_
  refine fi_step (pc' := 704) m_La_law rfl rfl ?_
  refine fi_step (pc' := 705) m_La_law rfl rfl ?_
  refine s_iadd (p := 706) m_La_law rfl rfl ?_
  refine l_ld (p := 707) m_La_law rfl rfl (by omega) (by omega) (by omega) ?_
  refine fi_step (pc' := 708) m_La_law rfl rfl ?_
  refine fi_step (pc' := 710) m_La_law rfl rfl ?_
  refine fi_step (pc' := 711) m_La_law rfl rfl ?_
  refine s_iadd (p := 712) m_La_law rfl rfl ?_
  refine l_ld (p := 713) m_La_law rfl rfl (by omega) (by omega) (by omega) ?_
  refine fi_step (pc' := 714) m_La_law rfl rfl ?_
  rw [← ep1, ← ep2]
  by_cases hc : (0 ≤ p1 ∧ p1 < 6) ∧ (0 ≤ p2 ∧ p2 < 6)
  · refine g_4 (p := 717) m_La_law rfl inv_s (by decide) m_La_hermite rfl rfl (by omega) (by omega) (Nat.le_of_ble_eq_true rfl) (Nat.le_of_ble_eq_true rfl) rfl (la_hermite hC hout (by omega) (by omega) (sC_hermite hC hok hc  (by omega) (by omega))) (fun v w hP => ?_)
    obtain ⟨rfl, c, α', w1, hS, hr, hCB, rfl⟩ := hP
    obtain ⟨w0', s', v', hC', hok', hab', hR', hout'⟩ := CB_next hC hR hout hCB (jL c)
    refine fi_step (pc' := 719) m_La_law rfl rfl ?_
    refine fi_step (pc' := 720) m_La_law rfl rfl ?_
    refine fi_step (pc' := 721) m_La_law rfl rfl ?_
    refine fi_step (pc' := 723) m_La_law rfl rfl ?_
    refine fi_step (pc' := 724) m_La_law rfl rfl ?_
    refine s_iadd (p := 725) m_La_law rfl rfl ?_
    refine l_ld (p := 726) m_La_law rfl rfl (by omega) (by omega) (by omega) ?_
    refine fi_step (pc' := 727) m_La_law rfl rfl ?_
    refine fi_step (pc' := 729) m_La_law rfl rfl ?_
    refine fi_step (pc' := 730) m_La_law rfl rfl ?_
    refine s_iadd (p := 731) m_La_law rfl rfl ?_
    refine l_ld (p := 732) m_La_law rfl rfl (by omega) (by omega) (by omega) ?_
    rw [← ep1, ← ep2]
    refine g_3 (p := 735) m_La_law rfl inv_v (by decide) m_Mo_hermite rfl rfl (by omega) (by omega) (Nat.le_of_ble_eq_true rfl) (Nat.le_of_ble_eq_true rfl) (RW_rcv hR' _) (sR_hermite hR' hM hB h5 hc bp1.1 bp1.2 bp2.1 bp2.2 (by omega) (by omega)) (fun v w hP => ?_)
    obtain ⟨c2, β', hS2, hX, rfl⟩ := hP
    rw [← hab] at hS2
    obtain ⟨rfl, rfl⟩ := u_hermite hS hS2
    obtain ⟨hL2, hout2, sr2, hR2, ht2⟩ := LK_ref hC' hok' hR' hout' hX hab'
    refine fi_step (pc' := 737) m_La_law rfl rfl ?_
    refine fi_step (pc' := 738) m_La_law rfl rfl ?_
    refine c_1 (p := 741) m_La_law rfl inv_v (by decide) m_Mo_thrown rfl rfl (by omega) (by omega) (Nat.le_of_ble_eq_true rfl) (Nat.le_of_ble_eq_true rfl) (RW_rcv hR2 _) (c_thrown hR2) ?_
    rw [ht2]
    refine fi_step (pc' := 743) m_La_law rfl rfl ?_
    refine s_ic_eq (p := 746) m_La_law rfl rfl (by omega) (by omega) (by omega) (by omega) (fun hbr => ?_) (fun hbr => False.elim (by omega))
    refine fi_step (pc' := 750) m_La_law rfl rfl ?_
    refine s_if_ne (p := 753) m_La_law rfl rfl (by omega) (by omega) (fun hbr => False.elim (by omega)) (fun hbr => ?_)
    refine fi_step (pc' := 754) m_La_law rfl rfl ?_
    refine fi_step (pc' := 755) m_La_law rfl rfl ?_
    refine fi_lald m_La_law rfl hout2 (by decide) (v := .long (jL c)) rfl ?_
    refine fi_step (pc' := 758) m_La_law rfl rfl ?_
    refine s_i2l (p := 759) m_La_law rfl rfl (by omega) (by omega) ?_
    refine s_lc_eq (q := 760) (p := 763) m_La_law rfl rfl rfl rfl (by omega) (by omega) (by omega) (by omega) (fun hbr => ?_) (fun hbr => False.elim (by omega))
    refine fi_step (pc' := 1412) m_La_law rfl rfl ?_
    exact K _ _ _ _ (LK_more hL2 (by omega) (by omega))
  · refine g_4 (p := 717) m_La_law rfl inv_s (by decide) m_La_hermite rfl rfl (by omega) (by omega) (Nat.le_of_ble_eq_true rfl) (Nat.le_of_ble_eq_true rfl) rfl (la_hermiteT hC (by omega) (by omega) (de_hermiteT (to := p1) (a := p2) hC bp1.1 bp1.2 bp2.1 bp2.2 hc (by omega) (by omega))) (fun v w hP => ?_)
    obtain ⟨rfl, rfl⟩ := hP
    obtain ⟨hC', hR', hout'⟩ := Thr_next hC hR hout (Or.inl rfl)
    refine fi_step (pc' := 719) m_La_law rfl rfl ?_
    refine fi_step (pc' := 720) m_La_law rfl rfl ?_
    refine fi_step (pc' := 721) m_La_law rfl rfl ?_
    refine fi_step (pc' := 723) m_La_law rfl rfl ?_
    refine fi_step (pc' := 724) m_La_law rfl rfl ?_
    refine s_iadd (p := 725) m_La_law rfl rfl ?_
    refine l_ld (p := 726) m_La_law rfl rfl (by omega) (by omega) (by omega) ?_
    refine fi_step (pc' := 727) m_La_law rfl rfl ?_
    refine fi_step (pc' := 729) m_La_law rfl rfl ?_
    refine fi_step (pc' := 730) m_La_law rfl rfl ?_
    refine s_iadd (p := 731) m_La_law rfl rfl ?_
    refine l_ld (p := 732) m_La_law rfl rfl (by omega) (by omega) (by omega) ?_
    rw [← ep1, ← ep2]
    refine g_3 (p := 735) m_La_law rfl inv_v (by decide) m_Mo_hermite rfl rfl (by omega) (by omega) (Nat.le_of_ble_eq_true rfl) (Nat.le_of_ble_eq_true rfl) (RW_rcv hR' _) (sR_hermiteT hR' hM hB h5 hc bp1.1 bp1.2 bp2.1 bp2.2 (by omega) (by omega)) (fun v w hP => ?_)
    obtain ⟨hX, rfl⟩ := hP
    obtain ⟨hL2, hout2, sr2, hR2, ht2⟩ := LK_ref hC' hok hR' hout' hX hab
    refine fi_step (pc' := 737) m_La_law rfl rfl ?_
    refine fi_step (pc' := 738) m_La_law rfl rfl ?_
    refine c_1 (p := 741) m_La_law rfl inv_v (by decide) m_Mo_thrown rfl rfl (by omega) (by omega) (Nat.le_of_ble_eq_true rfl) (Nat.le_of_ble_eq_true rfl) (RW_rcv hR2 _) (c_thrown hR2) ?_
    rw [ht2]
    refine fi_step (pc' := 743) m_La_law rfl rfl ?_
    refine s_ic_eq (p := 746) m_La_law rfl rfl (by omega) (by omega) (by omega) (by omega) (fun hbr => ?_) (fun hbr => False.elim (by omega))
    refine fi_step (pc' := 750) m_La_law rfl rfl ?_
    refine s_if_ne (p := 753) m_La_law rfl rfl (by omega) (by omega) (fun hbr => ?_) (fun hbr => False.elim (by omega))
    refine fi_step (pc' := 1412) m_La_law rfl rfl ?_
    exact K _ _ _ _ hL2
set_option maxRecDepth 20000 in
theorem lw_kernel (hLK : LK w L Z) (hi : (i : Int) + 6 ≤ xs.length) (hx : xs.length ≤ 3072) (hfr : 12 ≤ fr) (hlo : 502 ≤ lo) (K : ∀ w y5 y6 y7, LK w (L + 1) (Z + 198) → fin xs fr lo 185 1412 [some (.retAddr 0), some (.ref 0), some (.ref 425), some (.ref 437), some (.int (jI (i : Int))), y5, y6, y7] [] w Q) : fin xs fr lo 185 768 [some (.retAddr 0), some (.ref 0), some (.ref 425), some (.ref 437), some (.int (jI (i : Int))), y5, y6, y7] [] w Q := by
  obtain ⟨w0, s, v, sr, r, o, hC, hok, hR, hout, hB, h5, hab⟩ := hLK
  have hM := MI_abs hab hok.1
  obtain ⟨p1, ep1⟩ : ∃ q, q = sc xs ((i : Int) + 1) := ⟨_, rfl⟩
  have bp1 := sc_b xs ((i : Int) + 1)
  rw [← ep1] at bp1
  obtain ⟨p2, ep2⟩ : ∃ q, q = sc xs ((i : Int) + 2) := ⟨_, rfl⟩
  have bp2 := sc_b xs ((i : Int) + 2)
  rw [← ep2] at bp2
  refine fi_step (pc' := 769) m_La_law rfl rfl ?_
  refine fi_step (pc' := 770) m_La_law rfl rfl ?_
  refine fi_step (pc' := 772) m_La_law rfl rfl ?_
  refine fi_step (pc' := 773) m_La_law rfl rfl ?_
  refine s_iadd (p := 774) m_La_law rfl rfl ?_
  refine l_ld (p := 775) m_La_law rfl rfl (by omega) (by omega) (by omega) ?_
  refine fi_step (pc' := 776) m_La_law rfl rfl ?_
  refine fi_step (pc' := 778) m_La_law rfl rfl ?_
  refine fi_step (pc' := 779) m_La_law rfl rfl ?_
  refine s_iadd (p := 780) m_La_law rfl rfl ?_
  refine l_ld (p := 781) m_La_law rfl rfl (by omega) (by omega) (by omega) ?_
  refine fi_step (pc' := 782) m_La_law rfl rfl ?_
  rw [← ep1, ← ep2]
  by_cases hc : (0 ≤ p1 ∧ p1 < 6) ∧ (0 ≤ p2 ∧ p2 < 6)
  · refine g_4 (p := 785) m_La_law rfl inv_s (by decide) m_La_kernel rfl rfl (by omega) (by omega) (Nat.le_of_ble_eq_true rfl) (Nat.le_of_ble_eq_true rfl) rfl (la_kernel hC hout (by omega) (by omega) (sC_kernel hC hok hc  (by omega) (by omega))) (fun v w hP => ?_)
    obtain ⟨rfl, c, α', w1, hS, hr, hCB, rfl⟩ := hP
    obtain ⟨w0', s', v', hC', hok', hab', hR', hout'⟩ := CB_next hC hR hout hCB (jL c)
    refine fi_step (pc' := 787) m_La_law rfl rfl ?_
    refine fi_step (pc' := 788) m_La_law rfl rfl ?_
    refine fi_step (pc' := 789) m_La_law rfl rfl ?_
    refine fi_step (pc' := 791) m_La_law rfl rfl ?_
    refine fi_step (pc' := 792) m_La_law rfl rfl ?_
    refine s_iadd (p := 793) m_La_law rfl rfl ?_
    refine l_ld (p := 794) m_La_law rfl rfl (by omega) (by omega) (by omega) ?_
    refine fi_step (pc' := 795) m_La_law rfl rfl ?_
    refine fi_step (pc' := 797) m_La_law rfl rfl ?_
    refine fi_step (pc' := 798) m_La_law rfl rfl ?_
    refine s_iadd (p := 799) m_La_law rfl rfl ?_
    refine l_ld (p := 800) m_La_law rfl rfl (by omega) (by omega) (by omega) ?_
    rw [← ep1, ← ep2]
    refine g_3 (p := 803) m_La_law rfl inv_v (by decide) m_Mo_kernel rfl rfl (by omega) (by omega) (Nat.le_of_ble_eq_true rfl) (Nat.le_of_ble_eq_true rfl) (RW_rcv hR' _) (sR_kernel hR' hM hB h5 hc bp1.1 bp1.2 bp2.1 bp2.2 (by omega) (by omega)) (fun v w hP => ?_)
    obtain ⟨c2, β', hS2, hX, rfl⟩ := hP
    rw [← hab] at hS2
    obtain ⟨rfl, rfl⟩ := u_kernel hS hS2
    obtain ⟨hL2, hout2, sr2, hR2, ht2⟩ := LK_ref hC' hok' hR' hout' hX hab'
    refine fi_step (pc' := 805) m_La_law rfl rfl ?_
    refine fi_step (pc' := 806) m_La_law rfl rfl ?_
    refine c_1 (p := 809) m_La_law rfl inv_v (by decide) m_Mo_thrown rfl rfl (by omega) (by omega) (Nat.le_of_ble_eq_true rfl) (Nat.le_of_ble_eq_true rfl) (RW_rcv hR2 _) (c_thrown hR2) ?_
    rw [ht2]
    refine fi_step (pc' := 811) m_La_law rfl rfl ?_
    refine s_ic_eq (p := 814) m_La_law rfl rfl (by omega) (by omega) (by omega) (by omega) (fun hbr => ?_) (fun hbr => False.elim (by omega))
    refine fi_step (pc' := 818) m_La_law rfl rfl ?_
    refine s_if_ne (p := 821) m_La_law rfl rfl (by omega) (by omega) (fun hbr => False.elim (by omega)) (fun hbr => ?_)
    refine fi_step (pc' := 822) m_La_law rfl rfl ?_
    refine fi_step (pc' := 823) m_La_law rfl rfl ?_
    refine fi_lald m_La_law rfl hout2 (by decide) (v := .long (jL c)) rfl ?_
    refine fi_step (pc' := 826) m_La_law rfl rfl ?_
    refine s_i2l (p := 827) m_La_law rfl rfl (by omega) (by omega) ?_
    refine s_lc_eq (q := 828) (p := 831) m_La_law rfl rfl rfl rfl (by omega) (by omega) (by omega) (by omega) (fun hbr => ?_) (fun hbr => False.elim (by omega))
    refine fi_step (pc' := 1412) m_La_law rfl rfl ?_
    exact K _ _ _ _ (LK_more hL2 (by omega) (by omega))
  · refine g_4 (p := 785) m_La_law rfl inv_s (by decide) m_La_kernel rfl rfl (by omega) (by omega) (Nat.le_of_ble_eq_true rfl) (Nat.le_of_ble_eq_true rfl) rfl (la_kernelT hC (by omega) (by omega) (de_kernelT (to := p1) (a := p2) hC bp1.1 bp1.2 bp2.1 bp2.2 hc (by omega) (by omega))) (fun v w hP => ?_)
    obtain ⟨rfl, rfl⟩ := hP
    obtain ⟨hC', hR', hout'⟩ := Thr_next hC hR hout (Or.inl rfl)
    refine fi_step (pc' := 787) m_La_law rfl rfl ?_
    refine fi_step (pc' := 788) m_La_law rfl rfl ?_
    refine fi_step (pc' := 789) m_La_law rfl rfl ?_
    refine fi_step (pc' := 791) m_La_law rfl rfl ?_
    refine fi_step (pc' := 792) m_La_law rfl rfl ?_
    refine s_iadd (p := 793) m_La_law rfl rfl ?_
    refine l_ld (p := 794) m_La_law rfl rfl (by omega) (by omega) (by omega) ?_
    refine fi_step (pc' := 795) m_La_law rfl rfl ?_
    refine fi_step (pc' := 797) m_La_law rfl rfl ?_
    refine fi_step (pc' := 798) m_La_law rfl rfl ?_
    refine s_iadd (p := 799) m_La_law rfl rfl ?_
    refine l_ld (p := 800) m_La_law rfl rfl (by omega) (by omega) (by omega) ?_
    rw [← ep1, ← ep2]
    refine g_3 (p := 803) m_La_law rfl inv_v (by decide) m_Mo_kernel rfl rfl (by omega) (by omega) (Nat.le_of_ble_eq_true rfl) (Nat.le_of_ble_eq_true rfl) (RW_rcv hR' _) (sR_kernelT hR' hM hB h5 hc bp1.1 bp1.2 bp2.1 bp2.2 (by omega) (by omega)) (fun v w hP => ?_)
    obtain ⟨hX, rfl⟩ := hP
    obtain ⟨hL2, hout2, sr2, hR2, ht2⟩ := LK_ref hC' hok hR' hout' hX hab
    refine fi_step (pc' := 805) m_La_law rfl rfl ?_
    refine fi_step (pc' := 806) m_La_law rfl rfl ?_
    refine c_1 (p := 809) m_La_law rfl inv_v (by decide) m_Mo_thrown rfl rfl (by omega) (by omega) (Nat.le_of_ble_eq_true rfl) (Nat.le_of_ble_eq_true rfl) (RW_rcv hR2 _) (c_thrown hR2) ?_
    rw [ht2]
    refine fi_step (pc' := 811) m_La_law rfl rfl ?_
    refine s_ic_eq (p := 814) m_La_law rfl rfl (by omega) (by omega) (by omega) (by omega) (fun hbr => ?_) (fun hbr => False.elim (by omega))
    refine fi_step (pc' := 818) m_La_law rfl rfl ?_
    refine s_if_ne (p := 821) m_La_law rfl rfl (by omega) (by omega) (fun hbr => ?_) (fun hbr => False.elim (by omega))
    refine fi_step (pc' := 1412) m_La_law rfl rfl ?_
    exact K _ _ _ _ hL2
set_option maxRecDepth 20000 in
theorem lw_solve (hLK : LK w L Z) (hi : (i : Int) + 6 ≤ xs.length) (hx : xs.length ≤ 3072) (hfr : 12 ≤ fr) (hlo : 502 ≤ lo) (K : ∀ w y5 y6 y7, LK w (L + 1) (Z + 198) → fin xs fr lo 185 1412 [some (.retAddr 0), some (.ref 0), some (.ref 425), some (.ref 437), some (.int (jI (i : Int))), y5, y6, y7] [] w Q) : fin xs fr lo 185 836 [some (.retAddr 0), some (.ref 0), some (.ref 425), some (.ref 437), some (.int (jI (i : Int))), y5, y6, y7] [] w Q := by
  obtain ⟨w0, s, v, sr, r, o, hC, hok, hR, hout, hB, h5, hab⟩ := hLK
  have hM := MI_abs hab hok.1
  obtain ⟨p1, ep1⟩ : ∃ q, q = sc xs ((i : Int) + 1) := ⟨_, rfl⟩
  have bp1 := sc_b xs ((i : Int) + 1)
  rw [← ep1] at bp1
  obtain ⟨p2, ep2⟩ : ∃ q, q = sc xs ((i : Int) + 2) := ⟨_, rfl⟩
  have bp2 := sc_b xs ((i : Int) + 2)
  rw [← ep2] at bp2
  obtain ⟨p3, ep3⟩ : ∃ q, q = sc xs ((i : Int) + 3) := ⟨_, rfl⟩
  have bp3 := sc_b xs ((i : Int) + 3)
  rw [← ep3] at bp3
  refine fi_step (pc' := 837) m_La_law rfl rfl ?_
  refine fi_step (pc' := 838) m_La_law rfl rfl ?_
  refine fi_step (pc' := 840) m_La_law rfl rfl ?_
  refine fi_step (pc' := 841) m_La_law rfl rfl ?_
  refine s_iadd (p := 842) m_La_law rfl rfl ?_
  refine l_ld (p := 843) m_La_law rfl rfl (by omega) (by omega) (by omega) ?_
  refine fi_step (pc' := 844) m_La_law rfl rfl ?_
  refine fi_step (pc' := 846) m_La_law rfl rfl ?_
  refine fi_step (pc' := 847) m_La_law rfl rfl ?_
  refine s_iadd (p := 848) m_La_law rfl rfl ?_
  refine l_ld (p := 849) m_La_law rfl rfl (by omega) (by omega) (by omega) ?_
  refine fi_step (pc' := 850) m_La_law rfl rfl ?_
  refine fi_step (pc' := 852) m_La_law rfl rfl ?_
  refine fi_step (pc' := 853) m_La_law rfl rfl ?_
  refine s_iadd (p := 854) m_La_law rfl rfl ?_
  refine l_ld (p := 855) m_La_law rfl rfl (by omega) (by omega) (by omega) ?_
  refine fi_step (pc' := 856) m_La_law rfl rfl ?_
  rw [← ep1, ← ep2, ← ep3]
  by_cases hc : (0 ≤ p1 ∧ p1 < 6) ∧ (0 ≤ p2 ∧ p2 < 6) ∧ (0 ≤ p3 ∧ p3 < 6)
  · refine g_5 (p := 859) m_La_law rfl inv_s (by decide) m_La_solve rfl rfl (by omega) (by omega) (Nat.le_of_ble_eq_true rfl) (Nat.le_of_ble_eq_true rfl) rfl (la_solve hC hout (by omega) (by omega) (sC_solve hC hok hc  (by omega) (by omega))) (fun v w hP => ?_)
    obtain ⟨rfl, c, α', w1, hS, hr, hCB, rfl⟩ := hP
    obtain ⟨w0', s', v', hC', hok', hab', hR', hout'⟩ := CB_next hC hR hout hCB (jL c)
    refine fi_step (pc' := 861) m_La_law rfl rfl ?_
    refine fi_step (pc' := 862) m_La_law rfl rfl ?_
    refine fi_step (pc' := 863) m_La_law rfl rfl ?_
    refine fi_step (pc' := 865) m_La_law rfl rfl ?_
    refine fi_step (pc' := 866) m_La_law rfl rfl ?_
    refine s_iadd (p := 867) m_La_law rfl rfl ?_
    refine l_ld (p := 868) m_La_law rfl rfl (by omega) (by omega) (by omega) ?_
    refine fi_step (pc' := 869) m_La_law rfl rfl ?_
    refine fi_step (pc' := 871) m_La_law rfl rfl ?_
    refine fi_step (pc' := 872) m_La_law rfl rfl ?_
    refine s_iadd (p := 873) m_La_law rfl rfl ?_
    refine l_ld (p := 874) m_La_law rfl rfl (by omega) (by omega) (by omega) ?_
    refine fi_step (pc' := 875) m_La_law rfl rfl ?_
    refine fi_step (pc' := 877) m_La_law rfl rfl ?_
    refine fi_step (pc' := 878) m_La_law rfl rfl ?_
    refine s_iadd (p := 879) m_La_law rfl rfl ?_
    refine l_ld (p := 880) m_La_law rfl rfl (by omega) (by omega) (by omega) ?_
    rw [← ep1, ← ep2, ← ep3]
    refine g_4 (p := 883) m_La_law rfl inv_v (by decide) m_Mo_solve rfl rfl (by omega) (by omega) (Nat.le_of_ble_eq_true rfl) (Nat.le_of_ble_eq_true rfl) (RW_rcv hR' _) (sR_solve hR' hM hB h5 hc bp1.1 bp1.2 bp2.1 bp2.2 bp3.1 bp3.2 (by omega) (by omega)) (fun v w hP => ?_)
    obtain ⟨c2, β', hS2, hX, rfl⟩ := hP
    rw [← hab] at hS2
    obtain ⟨rfl, rfl⟩ := u_solve hS hS2
    obtain ⟨hL2, hout2, sr2, hR2, ht2⟩ := LK_ref hC' hok' hR' hout' hX hab'
    refine fi_step (pc' := 885) m_La_law rfl rfl ?_
    refine fi_step (pc' := 886) m_La_law rfl rfl ?_
    refine c_1 (p := 889) m_La_law rfl inv_v (by decide) m_Mo_thrown rfl rfl (by omega) (by omega) (Nat.le_of_ble_eq_true rfl) (Nat.le_of_ble_eq_true rfl) (RW_rcv hR2 _) (c_thrown hR2) ?_
    rw [ht2]
    refine fi_step (pc' := 891) m_La_law rfl rfl ?_
    refine s_ic_eq (p := 894) m_La_law rfl rfl (by omega) (by omega) (by omega) (by omega) (fun hbr => ?_) (fun hbr => False.elim (by omega))
    refine fi_step (pc' := 898) m_La_law rfl rfl ?_
    refine s_if_ne (p := 901) m_La_law rfl rfl (by omega) (by omega) (fun hbr => False.elim (by omega)) (fun hbr => ?_)
    refine fi_step (pc' := 902) m_La_law rfl rfl ?_
    refine fi_step (pc' := 903) m_La_law rfl rfl ?_
    refine fi_lald m_La_law rfl hout2 (by decide) (v := .long (jL c)) rfl ?_
    refine fi_step (pc' := 906) m_La_law rfl rfl ?_
    refine s_i2l (p := 907) m_La_law rfl rfl (by omega) (by omega) ?_
    refine s_lc_eq (q := 908) (p := 911) m_La_law rfl rfl rfl rfl (by omega) (by omega) (by omega) (by omega) (fun hbr => ?_) (fun hbr => False.elim (by omega))
    refine fi_step (pc' := 1412) m_La_law rfl rfl ?_
    exact K _ _ _ _ (LK_more hL2 (by omega) (by omega))
  · refine g_5 (p := 859) m_La_law rfl inv_s (by decide) m_La_solve rfl rfl (by omega) (by omega) (Nat.le_of_ble_eq_true rfl) (Nat.le_of_ble_eq_true rfl) rfl (la_solveT hC (by omega) (by omega) (de_solveT (to := p1) (a := p2) (b := p3) hC bp1.1 bp1.2 bp2.1 bp2.2 bp3.1 bp3.2 hc (by omega) (by omega))) (fun v w hP => ?_)
    obtain ⟨rfl, rfl⟩ := hP
    obtain ⟨hC', hR', hout'⟩ := Thr_next hC hR hout (Or.inl rfl)
    refine fi_step (pc' := 861) m_La_law rfl rfl ?_
    refine fi_step (pc' := 862) m_La_law rfl rfl ?_
    refine fi_step (pc' := 863) m_La_law rfl rfl ?_
    refine fi_step (pc' := 865) m_La_law rfl rfl ?_
    refine fi_step (pc' := 866) m_La_law rfl rfl ?_
    refine s_iadd (p := 867) m_La_law rfl rfl ?_
    refine l_ld (p := 868) m_La_law rfl rfl (by omega) (by omega) (by omega) ?_
    refine fi_step (pc' := 869) m_La_law rfl rfl ?_
    refine fi_step (pc' := 871) m_La_law rfl rfl ?_
    refine fi_step (pc' := 872) m_La_law rfl rfl ?_
    refine s_iadd (p := 873) m_La_law rfl rfl ?_
    refine l_ld (p := 874) m_La_law rfl rfl (by omega) (by omega) (by omega) ?_
    refine fi_step (pc' := 875) m_La_law rfl rfl ?_
    refine fi_step (pc' := 877) m_La_law rfl rfl ?_
    refine fi_step (pc' := 878) m_La_law rfl rfl ?_
    refine s_iadd (p := 879) m_La_law rfl rfl ?_
    refine l_ld (p := 880) m_La_law rfl rfl (by omega) (by omega) (by omega) ?_
    rw [← ep1, ← ep2, ← ep3]
    refine g_4 (p := 883) m_La_law rfl inv_v (by decide) m_Mo_solve rfl rfl (by omega) (by omega) (Nat.le_of_ble_eq_true rfl) (Nat.le_of_ble_eq_true rfl) (RW_rcv hR' _) (sR_solveT hR' hM hB h5 hc bp1.1 bp1.2 bp2.1 bp2.2 bp3.1 bp3.2 (by omega) (by omega)) (fun v w hP => ?_)
    obtain ⟨hX, rfl⟩ := hP
    obtain ⟨hL2, hout2, sr2, hR2, ht2⟩ := LK_ref hC' hok hR' hout' hX hab
    refine fi_step (pc' := 885) m_La_law rfl rfl ?_
    refine fi_step (pc' := 886) m_La_law rfl rfl ?_
    refine c_1 (p := 889) m_La_law rfl inv_v (by decide) m_Mo_thrown rfl rfl (by omega) (by omega) (Nat.le_of_ble_eq_true rfl) (Nat.le_of_ble_eq_true rfl) (RW_rcv hR2 _) (c_thrown hR2) ?_
    rw [ht2]
    refine fi_step (pc' := 891) m_La_law rfl rfl ?_
    refine s_ic_eq (p := 894) m_La_law rfl rfl (by omega) (by omega) (by omega) (by omega) (fun hbr => ?_) (fun hbr => False.elim (by omega))
    refine fi_step (pc' := 898) m_La_law rfl rfl ?_
    refine s_if_ne (p := 901) m_La_law rfl rfl (by omega) (by omega) (fun hbr => ?_) (fun hbr => False.elim (by omega))
    refine fi_step (pc' := 1412) m_La_law rfl rfl ?_
    exact K _ _ _ _ hL2
set_option maxRecDepth 20000 in
theorem lw_determinant (hLK : LK w L Z) (hi : (i : Int) + 6 ≤ xs.length) (hx : xs.length ≤ 3072) (hfr : 12 ≤ fr) (hlo : 502 ≤ lo) (K : ∀ w y5 y6 y7, LK w (L + 1) (Z + 198) → fin xs fr lo 185 1412 [some (.retAddr 0), some (.ref 0), some (.ref 425), some (.ref 437), some (.int (jI (i : Int))), y5, y6, y7] [] w Q) : fin xs fr lo 185 916 [some (.retAddr 0), some (.ref 0), some (.ref 425), some (.ref 437), some (.int (jI (i : Int))), y5, y6, y7] [] w Q := by
  obtain ⟨w0, s, v, sr, r, o, hC, hok, hR, hout, hB, h5, hab⟩ := hLK
  have hM := MI_abs hab hok.1
  obtain ⟨p1, ep1⟩ : ∃ q, q = sc xs ((i : Int) + 1) := ⟨_, rfl⟩
  have bp1 := sc_b xs ((i : Int) + 1)
  rw [← ep1] at bp1
  refine fi_step (pc' := 917) m_La_law rfl rfl ?_
  refine fi_step (pc' := 918) m_La_law rfl rfl ?_
  refine fi_step (pc' := 920) m_La_law rfl rfl ?_
  refine fi_step (pc' := 921) m_La_law rfl rfl ?_
  refine s_iadd (p := 922) m_La_law rfl rfl ?_
  refine l_ld (p := 923) m_La_law rfl rfl (by omega) (by omega) (by omega) ?_
  refine fi_step (pc' := 924) m_La_law rfl rfl ?_
  rw [← ep1]
  by_cases hc : (0 ≤ p1 ∧ p1 < 6)
  · refine g_3 (p := 927) m_La_law rfl inv_s (by decide) m_La_determinant rfl rfl (by omega) (by omega) (Nat.le_of_ble_eq_true rfl) (Nat.le_of_ble_eq_true rfl) rfl (la_determinant hC hout (by omega) (by omega) (sC_determinant hC hok hc  (by omega) (by omega))) (fun v w hP => ?_)
    obtain ⟨rfl, c, α', w1, hS, hr, hCB, rfl⟩ := hP
    obtain ⟨w0', s', v', hC', hok', hab', hR', hout'⟩ := CB_next hC hR hout hCB (jL c)
    refine fi_step (pc' := 929) m_La_law rfl rfl ?_
    refine fi_step (pc' := 930) m_La_law rfl rfl ?_
    refine fi_step (pc' := 931) m_La_law rfl rfl ?_
    refine fi_step (pc' := 933) m_La_law rfl rfl ?_
    refine fi_step (pc' := 934) m_La_law rfl rfl ?_
    refine s_iadd (p := 935) m_La_law rfl rfl ?_
    refine l_ld (p := 936) m_La_law rfl rfl (by omega) (by omega) (by omega) ?_
    rw [← ep1]
    refine g_2 (p := 939) m_La_law rfl inv_v (by decide) m_Mo_determinant rfl rfl (by omega) (by omega) (Nat.le_of_ble_eq_true rfl) (Nat.le_of_ble_eq_true rfl) (RW_rcv hR' _) (sR_determinant hR' hM hB h5 hc bp1.1 bp1.2 (by omega) (by omega)) (fun v w hP => ?_)
    obtain ⟨c2, β', hS2, hX, rfl⟩ := hP
    rw [← hab] at hS2
    obtain ⟨rfl, rfl⟩ := u_determinant hS hS2
    obtain ⟨hL2, hout2, sr2, hR2, ht2⟩ := LK_ref hC' hok' hR' hout' hX hab'
    refine fi_step (pc' := 941) m_La_law rfl rfl ?_
    refine fi_step (pc' := 942) m_La_law rfl rfl ?_
    refine c_1 (p := 945) m_La_law rfl inv_v (by decide) m_Mo_thrown rfl rfl (by omega) (by omega) (Nat.le_of_ble_eq_true rfl) (Nat.le_of_ble_eq_true rfl) (RW_rcv hR2 _) (c_thrown hR2) ?_
    rw [ht2]
    refine fi_step (pc' := 947) m_La_law rfl rfl ?_
    refine s_ic_eq (p := 950) m_La_law rfl rfl (by omega) (by omega) (by omega) (by omega) (fun hbr => ?_) (fun hbr => False.elim (by omega))
    refine fi_step (pc' := 954) m_La_law rfl rfl ?_
    refine s_if_ne (p := 957) m_La_law rfl rfl (by omega) (by omega) (fun hbr => False.elim (by omega)) (fun hbr => ?_)
    refine fi_step (pc' := 958) m_La_law rfl rfl ?_
    refine fi_step (pc' := 959) m_La_law rfl rfl ?_
    refine fi_lald m_La_law rfl hout2 (by decide) (v := .long (jL c)) rfl ?_
    refine fi_step (pc' := 962) m_La_law rfl rfl ?_
    refine s_i2l (p := 963) m_La_law rfl rfl (by omega) (by omega) ?_
    refine s_lc_eq (q := 964) (p := 967) m_La_law rfl rfl rfl rfl (by omega) (by omega) (by omega) (by omega) (fun hbr => ?_) (fun hbr => False.elim (by omega))
    refine fi_step (pc' := 1412) m_La_law rfl rfl ?_
    exact K _ _ _ _ (LK_more hL2 (by omega) (by omega))
  · refine g_3 (p := 927) m_La_law rfl inv_s (by decide) m_La_determinant rfl rfl (by omega) (by omega) (Nat.le_of_ble_eq_true rfl) (Nat.le_of_ble_eq_true rfl) rfl (la_determinantT hC (by omega) (by omega) (de_determinantT (m := p1) hC bp1.1 bp1.2 hc (by omega) (by omega))) (fun v w hP => ?_)
    obtain ⟨rfl, rfl⟩ := hP
    obtain ⟨hC', hR', hout'⟩ := Thr_next hC hR hout (Or.inl rfl)
    refine fi_step (pc' := 929) m_La_law rfl rfl ?_
    refine fi_step (pc' := 930) m_La_law rfl rfl ?_
    refine fi_step (pc' := 931) m_La_law rfl rfl ?_
    refine fi_step (pc' := 933) m_La_law rfl rfl ?_
    refine fi_step (pc' := 934) m_La_law rfl rfl ?_
    refine s_iadd (p := 935) m_La_law rfl rfl ?_
    refine l_ld (p := 936) m_La_law rfl rfl (by omega) (by omega) (by omega) ?_
    rw [← ep1]
    refine g_2 (p := 939) m_La_law rfl inv_v (by decide) m_Mo_determinant rfl rfl (by omega) (by omega) (Nat.le_of_ble_eq_true rfl) (Nat.le_of_ble_eq_true rfl) (RW_rcv hR' _) (sR_determinantT hR' hM hB h5 hc bp1.1 bp1.2 (by omega) (by omega)) (fun v w hP => ?_)
    obtain ⟨hX, rfl⟩ := hP
    obtain ⟨hL2, hout2, sr2, hR2, ht2⟩ := LK_ref hC' hok hR' hout' hX hab
    refine fi_step (pc' := 941) m_La_law rfl rfl ?_
    refine fi_step (pc' := 942) m_La_law rfl rfl ?_
    refine c_1 (p := 945) m_La_law rfl inv_v (by decide) m_Mo_thrown rfl rfl (by omega) (by omega) (Nat.le_of_ble_eq_true rfl) (Nat.le_of_ble_eq_true rfl) (RW_rcv hR2 _) (c_thrown hR2) ?_
    rw [ht2]
    refine fi_step (pc' := 947) m_La_law rfl rfl ?_
    refine s_ic_eq (p := 950) m_La_law rfl rfl (by omega) (by omega) (by omega) (by omega) (fun hbr => ?_) (fun hbr => False.elim (by omega))
    refine fi_step (pc' := 954) m_La_law rfl rfl ?_
    refine s_if_ne (p := 957) m_La_law rfl rfl (by omega) (by omega) (fun hbr => ?_) (fun hbr => False.elim (by omega))
    refine fi_step (pc' := 1412) m_La_law rfl rfl ?_
    exact K _ _ _ _ hL2
set_option maxRecDepth 20000 in
theorem lw_divisor (hLK : LK w L Z) (hi : (i : Int) + 6 ≤ xs.length) (hx : xs.length ≤ 3072) (hfr : 12 ≤ fr) (hlo : 502 ≤ lo) (K : ∀ w y5 y6 y7, LK w (L + 1) (Z + 198) → fin xs fr lo 185 1412 [some (.retAddr 0), some (.ref 0), some (.ref 425), some (.ref 437), some (.int (jI (i : Int))), y5, y6, y7] [] w Q) : fin xs fr lo 185 972 [some (.retAddr 0), some (.ref 0), some (.ref 425), some (.ref 437), some (.int (jI (i : Int))), y5, y6, y7] [] w Q := by
  obtain ⟨w0, s, v, sr, r, o, hC, hok, hR, hout, hB, h5, hab⟩ := hLK
  have hM := MI_abs hab hok.1
  obtain ⟨p1, ep1⟩ : ∃ q, q = sc xs ((i : Int) + 1) := ⟨_, rfl⟩
  have bp1 := sc_b xs ((i : Int) + 1)
  rw [← ep1] at bp1
  obtain ⟨p2, ep2⟩ : ∃ q, q = sc xs ((i : Int) + 2) := ⟨_, rfl⟩
  have bp2 := sc_b xs ((i : Int) + 2)
  rw [← ep2] at bp2
  refine fi_step (pc' := 973) m_La_law rfl rfl ?_
  refine fi_step (pc' := 974) m_La_law rfl rfl ?_
  refine fi_step (pc' := 976) m_La_law rfl rfl ?_
  refine fi_step (pc' := 977) m_La_law rfl rfl ?_
  refine s_iadd (p := 978) m_La_law rfl rfl ?_
  refine l_ld (p := 979) m_La_law rfl rfl (by omega) (by omega) (by omega) ?_
  refine fi_step (pc' := 980) m_La_law rfl rfl ?_
  refine fi_step (pc' := 982) m_La_law rfl rfl ?_
  refine fi_step (pc' := 983) m_La_law rfl rfl ?_
  refine s_iadd (p := 984) m_La_law rfl rfl ?_
  refine l_ld (p := 985) m_La_law rfl rfl (by omega) (by omega) (by omega) ?_
  refine fi_step (pc' := 986) m_La_law rfl rfl ?_
  rw [← ep1, ← ep2]
  by_cases hc : (0 ≤ p1 ∧ p1 < 6)
  · refine g_4 (p := 989) m_La_law rfl inv_s (by decide) m_La_divisor rfl rfl (by omega) (by omega) (Nat.le_of_ble_eq_true rfl) (Nat.le_of_ble_eq_true rfl) rfl (la_divisor hC hout (by omega) (by omega) (sC_divisor hC hok hc bp2.1 bp2.2 (by omega) (by omega))) (fun v w hP => ?_)
    obtain ⟨rfl, c, α', w1, hS, hr, hCB, rfl⟩ := hP
    obtain ⟨w0', s', v', hC', hok', hab', hR', hout'⟩ := CB_next hC hR hout hCB (jL c)
    refine fi_step (pc' := 991) m_La_law rfl rfl ?_
    refine fi_step (pc' := 992) m_La_law rfl rfl ?_
    refine fi_step (pc' := 993) m_La_law rfl rfl ?_
    refine fi_step (pc' := 995) m_La_law rfl rfl ?_
    refine fi_step (pc' := 996) m_La_law rfl rfl ?_
    refine s_iadd (p := 997) m_La_law rfl rfl ?_
    refine l_ld (p := 998) m_La_law rfl rfl (by omega) (by omega) (by omega) ?_
    refine fi_step (pc' := 999) m_La_law rfl rfl ?_
    refine fi_step (pc' := 1001) m_La_law rfl rfl ?_
    refine fi_step (pc' := 1002) m_La_law rfl rfl ?_
    refine s_iadd (p := 1003) m_La_law rfl rfl ?_
    refine l_ld (p := 1004) m_La_law rfl rfl (by omega) (by omega) (by omega) ?_
    rw [← ep1, ← ep2]
    refine g_3 (p := 1007) m_La_law rfl inv_v (by decide) m_Mo_divisor rfl rfl (by omega) (by omega) (Nat.le_of_ble_eq_true rfl) (Nat.le_of_ble_eq_true rfl) (RW_rcv hR' _) (sR_divisor hR' hM hB h5 hc bp1.1 bp1.2 bp2.1 bp2.2 (by omega) (by omega)) (fun v w hP => ?_)
    obtain ⟨c2, β', hS2, hX, rfl⟩ := hP
    rw [← hab] at hS2
    obtain ⟨rfl, rfl⟩ := u_divisor hS hS2
    obtain ⟨hL2, hout2, sr2, hR2, ht2⟩ := LK_ref hC' hok' hR' hout' hX hab'
    refine fi_step (pc' := 1009) m_La_law rfl rfl ?_
    refine fi_step (pc' := 1010) m_La_law rfl rfl ?_
    refine c_1 (p := 1013) m_La_law rfl inv_v (by decide) m_Mo_thrown rfl rfl (by omega) (by omega) (Nat.le_of_ble_eq_true rfl) (Nat.le_of_ble_eq_true rfl) (RW_rcv hR2 _) (c_thrown hR2) ?_
    rw [ht2]
    refine fi_step (pc' := 1015) m_La_law rfl rfl ?_
    refine s_ic_eq (p := 1018) m_La_law rfl rfl (by omega) (by omega) (by omega) (by omega) (fun hbr => ?_) (fun hbr => False.elim (by omega))
    refine fi_step (pc' := 1022) m_La_law rfl rfl ?_
    refine s_if_ne (p := 1025) m_La_law rfl rfl (by omega) (by omega) (fun hbr => False.elim (by omega)) (fun hbr => ?_)
    refine fi_step (pc' := 1026) m_La_law rfl rfl ?_
    refine fi_step (pc' := 1027) m_La_law rfl rfl ?_
    refine fi_lald m_La_law rfl hout2 (by decide) (v := .long (jL c)) rfl ?_
    refine fi_step (pc' := 1030) m_La_law rfl rfl ?_
    refine s_i2l (p := 1031) m_La_law rfl rfl (by omega) (by omega) ?_
    refine s_lc_eq (q := 1032) (p := 1035) m_La_law rfl rfl rfl rfl (by omega) (by omega) (by omega) (by omega) (fun hbr => ?_) (fun hbr => False.elim (by omega))
    refine fi_step (pc' := 1412) m_La_law rfl rfl ?_
    exact K _ _ _ _ (LK_more hL2 (by omega) (by omega))
  · refine g_4 (p := 989) m_La_law rfl inv_s (by decide) m_La_divisor rfl rfl (by omega) (by omega) (Nat.le_of_ble_eq_true rfl) (Nat.le_of_ble_eq_true rfl) rfl (la_divisorT hC (by omega) (by omega) (de_divisorT (m := p1) (k := p2) hC bp1.1 bp1.2 hc (by omega) (by omega))) (fun v w hP => ?_)
    obtain ⟨rfl, rfl⟩ := hP
    obtain ⟨hC', hR', hout'⟩ := Thr_next hC hR hout (Or.inl rfl)
    refine fi_step (pc' := 991) m_La_law rfl rfl ?_
    refine fi_step (pc' := 992) m_La_law rfl rfl ?_
    refine fi_step (pc' := 993) m_La_law rfl rfl ?_
    refine fi_step (pc' := 995) m_La_law rfl rfl ?_
    refine fi_step (pc' := 996) m_La_law rfl rfl ?_
    refine s_iadd (p := 997) m_La_law rfl rfl ?_
    refine l_ld (p := 998) m_La_law rfl rfl (by omega) (by omega) (by omega) ?_
    refine fi_step (pc' := 999) m_La_law rfl rfl ?_
    refine fi_step (pc' := 1001) m_La_law rfl rfl ?_
    refine fi_step (pc' := 1002) m_La_law rfl rfl ?_
    refine s_iadd (p := 1003) m_La_law rfl rfl ?_
    refine l_ld (p := 1004) m_La_law rfl rfl (by omega) (by omega) (by omega) ?_
    rw [← ep1, ← ep2]
    refine g_3 (p := 1007) m_La_law rfl inv_v (by decide) m_Mo_divisor rfl rfl (by omega) (by omega) (Nat.le_of_ble_eq_true rfl) (Nat.le_of_ble_eq_true rfl) (RW_rcv hR' _) (sR_divisorT hR' hM hB h5 hc bp1.1 bp1.2 bp2.1 bp2.2 (by omega) (by omega)) (fun v w hP => ?_)
    obtain ⟨hX, rfl⟩ := hP
    obtain ⟨hL2, hout2, sr2, hR2, ht2⟩ := LK_ref hC' hok hR' hout' hX hab
    refine fi_step (pc' := 1009) m_La_law rfl rfl ?_
    refine fi_step (pc' := 1010) m_La_law rfl rfl ?_
    refine c_1 (p := 1013) m_La_law rfl inv_v (by decide) m_Mo_thrown rfl rfl (by omega) (by omega) (Nat.le_of_ble_eq_true rfl) (Nat.le_of_ble_eq_true rfl) (RW_rcv hR2 _) (c_thrown hR2) ?_
    rw [ht2]
    refine fi_step (pc' := 1015) m_La_law rfl rfl ?_
    refine s_ic_eq (p := 1018) m_La_law rfl rfl (by omega) (by omega) (by omega) (by omega) (fun hbr => ?_) (fun hbr => False.elim (by omega))
    refine fi_step (pc' := 1022) m_La_law rfl rfl ?_
    refine s_if_ne (p := 1025) m_La_law rfl rfl (by omega) (by omega) (fun hbr => ?_) (fun hbr => False.elim (by omega))
    refine fi_step (pc' := 1412) m_La_law rfl rfl ?_
    exact K _ _ _ _ hL2
set_option maxRecDepth 20000 in
theorem lw_factor (hLK : LK w L Z) (hi : (i : Int) + 6 ≤ xs.length) (hx : xs.length ≤ 3072) (hfr : 12 ≤ fr) (hlo : 502 ≤ lo) (K : ∀ w y5 y6 y7, LK w (L + 1) (Z + 198) → fin xs fr lo 185 1412 [some (.retAddr 0), some (.ref 0), some (.ref 425), some (.ref 437), some (.int (jI (i : Int))), y5, y6, y7] [] w Q) : fin xs fr lo 185 1040 [some (.retAddr 0), some (.ref 0), some (.ref 425), some (.ref 437), some (.int (jI (i : Int))), y5, y6, y7] [] w Q := by
  obtain ⟨w0, s, v, sr, r, o, hC, hok, hR, hout, hB, h5, hab⟩ := hLK
  have hM := MI_abs hab hok.1
  obtain ⟨p1, ep1⟩ : ∃ q, q = sc xs ((i : Int) + 1) := ⟨_, rfl⟩
  have bp1 := sc_b xs ((i : Int) + 1)
  rw [← ep1] at bp1
  obtain ⟨p2, ep2⟩ : ∃ q, q = sc xs ((i : Int) + 2) := ⟨_, rfl⟩
  have bp2 := sc_b xs ((i : Int) + 2)
  rw [← ep2] at bp2
  refine fi_step (pc' := 1041) m_La_law rfl rfl ?_
  refine fi_step (pc' := 1042) m_La_law rfl rfl ?_
  refine fi_step (pc' := 1044) m_La_law rfl rfl ?_
  refine fi_step (pc' := 1045) m_La_law rfl rfl ?_
  refine s_iadd (p := 1046) m_La_law rfl rfl ?_
  refine l_ld (p := 1047) m_La_law rfl rfl (by omega) (by omega) (by omega) ?_
  refine fi_step (pc' := 1048) m_La_law rfl rfl ?_
  refine fi_step (pc' := 1050) m_La_law rfl rfl ?_
  refine fi_step (pc' := 1051) m_La_law rfl rfl ?_
  refine s_iadd (p := 1052) m_La_law rfl rfl ?_
  refine l_ld (p := 1053) m_La_law rfl rfl (by omega) (by omega) (by omega) ?_
  refine fi_step (pc' := 1054) m_La_law rfl rfl ?_
  rw [← ep1, ← ep2]
  by_cases hc : (0 ≤ p1 ∧ p1 < 6)
  · refine g_4 (p := 1057) m_La_law rfl inv_s (by decide) m_La_factor rfl rfl (by omega) (by omega) (Nat.le_of_ble_eq_true rfl) (Nat.le_of_ble_eq_true rfl) rfl (la_factor hC hout (by omega) (by omega) (sC_factor hC hok hc bp2.1 bp2.2 (by omega) (by omega))) (fun v w hP => ?_)
    obtain ⟨rfl, c, α', w1, hS, hr, hCB, rfl⟩ := hP
    obtain ⟨w0', s', v', hC', hok', hab', hR', hout'⟩ := CB_next hC hR hout hCB (jL c)
    refine fi_step (pc' := 1059) m_La_law rfl rfl ?_
    refine fi_step (pc' := 1060) m_La_law rfl rfl ?_
    refine fi_step (pc' := 1061) m_La_law rfl rfl ?_
    refine fi_step (pc' := 1063) m_La_law rfl rfl ?_
    refine fi_step (pc' := 1064) m_La_law rfl rfl ?_
    refine s_iadd (p := 1065) m_La_law rfl rfl ?_
    refine l_ld (p := 1066) m_La_law rfl rfl (by omega) (by omega) (by omega) ?_
    refine fi_step (pc' := 1067) m_La_law rfl rfl ?_
    refine fi_step (pc' := 1069) m_La_law rfl rfl ?_
    refine fi_step (pc' := 1070) m_La_law rfl rfl ?_
    refine s_iadd (p := 1071) m_La_law rfl rfl ?_
    refine l_ld (p := 1072) m_La_law rfl rfl (by omega) (by omega) (by omega) ?_
    rw [← ep1, ← ep2]
    refine g_3 (p := 1075) m_La_law rfl inv_v (by decide) m_Mo_factor rfl rfl (by omega) (by omega) (Nat.le_of_ble_eq_true rfl) (Nat.le_of_ble_eq_true rfl) (RW_rcv hR' _) (sR_factor hR' hM hB h5 hc bp1.1 bp1.2 bp2.1 bp2.2 (by omega) (by omega)) (fun v w hP => ?_)
    obtain ⟨c2, β', hS2, hX, rfl⟩ := hP
    rw [← hab] at hS2
    obtain ⟨rfl, rfl⟩ := u_factor hS hS2
    obtain ⟨hL2, hout2, sr2, hR2, ht2⟩ := LK_ref hC' hok' hR' hout' hX hab'
    refine fi_step (pc' := 1077) m_La_law rfl rfl ?_
    refine fi_step (pc' := 1078) m_La_law rfl rfl ?_
    refine c_1 (p := 1081) m_La_law rfl inv_v (by decide) m_Mo_thrown rfl rfl (by omega) (by omega) (Nat.le_of_ble_eq_true rfl) (Nat.le_of_ble_eq_true rfl) (RW_rcv hR2 _) (c_thrown hR2) ?_
    rw [ht2]
    refine fi_step (pc' := 1083) m_La_law rfl rfl ?_
    refine s_ic_eq (p := 1086) m_La_law rfl rfl (by omega) (by omega) (by omega) (by omega) (fun hbr => ?_) (fun hbr => False.elim (by omega))
    refine fi_step (pc' := 1090) m_La_law rfl rfl ?_
    refine s_if_ne (p := 1093) m_La_law rfl rfl (by omega) (by omega) (fun hbr => False.elim (by omega)) (fun hbr => ?_)
    refine fi_step (pc' := 1094) m_La_law rfl rfl ?_
    refine fi_step (pc' := 1095) m_La_law rfl rfl ?_
    refine fi_lald m_La_law rfl hout2 (by decide) (v := .long (jL c)) rfl ?_
    refine fi_step (pc' := 1098) m_La_law rfl rfl ?_
    refine s_i2l (p := 1099) m_La_law rfl rfl (by omega) (by omega) ?_
    refine s_lc_eq (q := 1100) (p := 1103) m_La_law rfl rfl rfl rfl (by omega) (by omega) (by omega) (by omega) (fun hbr => ?_) (fun hbr => False.elim (by omega))
    refine fi_step (pc' := 1412) m_La_law rfl rfl ?_
    exact K _ _ _ _ (LK_more hL2 (by omega) (by omega))
  · refine g_4 (p := 1057) m_La_law rfl inv_s (by decide) m_La_factor rfl rfl (by omega) (by omega) (Nat.le_of_ble_eq_true rfl) (Nat.le_of_ble_eq_true rfl) rfl (la_factorT hC (by omega) (by omega) (de_factorT (m := p1) (k := p2) hC bp1.1 bp1.2 hc (by omega) (by omega))) (fun v w hP => ?_)
    obtain ⟨rfl, rfl⟩ := hP
    obtain ⟨hC', hR', hout'⟩ := Thr_next hC hR hout (Or.inl rfl)
    refine fi_step (pc' := 1059) m_La_law rfl rfl ?_
    refine fi_step (pc' := 1060) m_La_law rfl rfl ?_
    refine fi_step (pc' := 1061) m_La_law rfl rfl ?_
    refine fi_step (pc' := 1063) m_La_law rfl rfl ?_
    refine fi_step (pc' := 1064) m_La_law rfl rfl ?_
    refine s_iadd (p := 1065) m_La_law rfl rfl ?_
    refine l_ld (p := 1066) m_La_law rfl rfl (by omega) (by omega) (by omega) ?_
    refine fi_step (pc' := 1067) m_La_law rfl rfl ?_
    refine fi_step (pc' := 1069) m_La_law rfl rfl ?_
    refine fi_step (pc' := 1070) m_La_law rfl rfl ?_
    refine s_iadd (p := 1071) m_La_law rfl rfl ?_
    refine l_ld (p := 1072) m_La_law rfl rfl (by omega) (by omega) (by omega) ?_
    rw [← ep1, ← ep2]
    refine g_3 (p := 1075) m_La_law rfl inv_v (by decide) m_Mo_factor rfl rfl (by omega) (by omega) (Nat.le_of_ble_eq_true rfl) (Nat.le_of_ble_eq_true rfl) (RW_rcv hR' _) (sR_factorT hR' hM hB h5 hc bp1.1 bp1.2 bp2.1 bp2.2 (by omega) (by omega)) (fun v w hP => ?_)
    obtain ⟨hX, rfl⟩ := hP
    obtain ⟨hL2, hout2, sr2, hR2, ht2⟩ := LK_ref hC' hok hR' hout' hX hab
    refine fi_step (pc' := 1077) m_La_law rfl rfl ?_
    refine fi_step (pc' := 1078) m_La_law rfl rfl ?_
    refine c_1 (p := 1081) m_La_law rfl inv_v (by decide) m_Mo_thrown rfl rfl (by omega) (by omega) (Nat.le_of_ble_eq_true rfl) (Nat.le_of_ble_eq_true rfl) (RW_rcv hR2 _) (c_thrown hR2) ?_
    rw [ht2]
    refine fi_step (pc' := 1083) m_La_law rfl rfl ?_
    refine s_ic_eq (p := 1086) m_La_law rfl rfl (by omega) (by omega) (by omega) (by omega) (fun hbr => ?_) (fun hbr => False.elim (by omega))
    refine fi_step (pc' := 1090) m_La_law rfl rfl ?_
    refine s_if_ne (p := 1093) m_La_law rfl rfl (by omega) (by omega) (fun hbr => ?_) (fun hbr => False.elim (by omega))
    refine fi_step (pc' := 1412) m_La_law rfl rfl ?_
    exact K _ _ _ _ hL2
set_option maxRecDepth 20000 in
theorem lw_inverse (hLK : LK w L Z) (hi : (i : Int) + 6 ≤ xs.length) (hx : xs.length ≤ 3072) (hfr : 12 ≤ fr) (hlo : 502 ≤ lo) (K : ∀ w y5 y6 y7, LK w (L + 1) (Z + 198) → fin xs fr lo 185 1412 [some (.retAddr 0), some (.ref 0), some (.ref 425), some (.ref 437), some (.int (jI (i : Int))), y5, y6, y7] [] w Q) : fin xs fr lo 185 1108 [some (.retAddr 0), some (.ref 0), some (.ref 425), some (.ref 437), some (.int (jI (i : Int))), y5, y6, y7] [] w Q := by
  obtain ⟨w0, s, v, sr, r, o, hC, hok, hR, hout, hB, h5, hab⟩ := hLK
  have hM := MI_abs hab hok.1
  obtain ⟨p1, ep1⟩ : ∃ q, q = sc xs ((i : Int) + 1) := ⟨_, rfl⟩
  have bp1 := sc_b xs ((i : Int) + 1)
  rw [← ep1] at bp1
  obtain ⟨p2, ep2⟩ : ∃ q, q = sc xs ((i : Int) + 2) := ⟨_, rfl⟩
  have bp2 := sc_b xs ((i : Int) + 2)
  rw [← ep2] at bp2
  obtain ⟨p3, ep3⟩ : ∃ q, q = sc xs ((i : Int) + 3) := ⟨_, rfl⟩
  have bp3 := sc_b xs ((i : Int) + 3)
  rw [← ep3] at bp3
  refine fi_step (pc' := 1109) m_La_law rfl rfl ?_
  refine fi_step (pc' := 1110) m_La_law rfl rfl ?_
  refine fi_step (pc' := 1112) m_La_law rfl rfl ?_
  refine fi_step (pc' := 1113) m_La_law rfl rfl ?_
  refine s_iadd (p := 1114) m_La_law rfl rfl ?_
  refine l_ld (p := 1115) m_La_law rfl rfl (by omega) (by omega) (by omega) ?_
  refine fi_step (pc' := 1116) m_La_law rfl rfl ?_
  refine fi_step (pc' := 1118) m_La_law rfl rfl ?_
  refine fi_step (pc' := 1119) m_La_law rfl rfl ?_
  refine s_iadd (p := 1120) m_La_law rfl rfl ?_
  refine l_ld (p := 1121) m_La_law rfl rfl (by omega) (by omega) (by omega) ?_
  refine fi_step (pc' := 1122) m_La_law rfl rfl ?_
  refine fi_step (pc' := 1124) m_La_law rfl rfl ?_
  refine fi_step (pc' := 1125) m_La_law rfl rfl ?_
  refine s_iadd (p := 1126) m_La_law rfl rfl ?_
  refine l_ld (p := 1127) m_La_law rfl rfl (by omega) (by omega) (by omega) ?_
  refine fi_step (pc' := 1128) m_La_law rfl rfl ?_
  rw [← ep1, ← ep2, ← ep3]
  by_cases hc : (0 ≤ p1 ∧ p1 < 6)
  · refine g_5 (p := 1131) m_La_law rfl inv_s (by decide) m_La_inverse rfl rfl (by omega) (by omega) (Nat.le_of_ble_eq_true rfl) (Nat.le_of_ble_eq_true rfl) rfl (la_inverse hC hout (by omega) (by omega) (sC_inverse hC hok hc bp2.1 bp2.2 bp3.1 bp3.2 (by omega) (by omega))) (fun v w hP => ?_)
    obtain ⟨rfl, c, α', w1, hS, hr, hCB, rfl⟩ := hP
    obtain ⟨w0', s', v', hC', hok', hab', hR', hout'⟩ := CB_next hC hR hout hCB (jL c)
    refine fi_step (pc' := 1133) m_La_law rfl rfl ?_
    refine fi_step (pc' := 1134) m_La_law rfl rfl ?_
    refine fi_step (pc' := 1135) m_La_law rfl rfl ?_
    refine fi_step (pc' := 1137) m_La_law rfl rfl ?_
    refine fi_step (pc' := 1138) m_La_law rfl rfl ?_
    refine s_iadd (p := 1139) m_La_law rfl rfl ?_
    refine l_ld (p := 1140) m_La_law rfl rfl (by omega) (by omega) (by omega) ?_
    refine fi_step (pc' := 1141) m_La_law rfl rfl ?_
    refine fi_step (pc' := 1143) m_La_law rfl rfl ?_
    refine fi_step (pc' := 1144) m_La_law rfl rfl ?_
    refine s_iadd (p := 1145) m_La_law rfl rfl ?_
    refine l_ld (p := 1146) m_La_law rfl rfl (by omega) (by omega) (by omega) ?_
    refine fi_step (pc' := 1147) m_La_law rfl rfl ?_
    refine fi_step (pc' := 1149) m_La_law rfl rfl ?_
    refine fi_step (pc' := 1150) m_La_law rfl rfl ?_
    refine s_iadd (p := 1151) m_La_law rfl rfl ?_
    refine l_ld (p := 1152) m_La_law rfl rfl (by omega) (by omega) (by omega) ?_
    rw [← ep1, ← ep2, ← ep3]
    refine g_4 (p := 1155) m_La_law rfl inv_v (by decide) m_Mo_inverse rfl rfl (by omega) (by omega) (Nat.le_of_ble_eq_true rfl) (Nat.le_of_ble_eq_true rfl) (RW_rcv hR' _) (sR_inverse hR' hM hB h5 hc bp1.1 bp1.2 bp2.1 bp2.2 bp3.1 bp3.2 (by omega) (by omega)) (fun v w hP => ?_)
    obtain ⟨c2, β', hS2, hX, rfl⟩ := hP
    rw [← hab] at hS2
    obtain ⟨rfl, rfl⟩ := u_inverse hS hS2
    obtain ⟨hL2, hout2, sr2, hR2, ht2⟩ := LK_ref hC' hok' hR' hout' hX hab'
    refine fi_step (pc' := 1157) m_La_law rfl rfl ?_
    refine fi_step (pc' := 1158) m_La_law rfl rfl ?_
    refine c_1 (p := 1161) m_La_law rfl inv_v (by decide) m_Mo_thrown rfl rfl (by omega) (by omega) (Nat.le_of_ble_eq_true rfl) (Nat.le_of_ble_eq_true rfl) (RW_rcv hR2 _) (c_thrown hR2) ?_
    rw [ht2]
    refine fi_step (pc' := 1163) m_La_law rfl rfl ?_
    refine s_ic_eq (p := 1166) m_La_law rfl rfl (by omega) (by omega) (by omega) (by omega) (fun hbr => ?_) (fun hbr => False.elim (by omega))
    refine fi_step (pc' := 1170) m_La_law rfl rfl ?_
    refine s_if_ne (p := 1173) m_La_law rfl rfl (by omega) (by omega) (fun hbr => False.elim (by omega)) (fun hbr => ?_)
    refine fi_step (pc' := 1174) m_La_law rfl rfl ?_
    refine fi_step (pc' := 1175) m_La_law rfl rfl ?_
    refine fi_lald m_La_law rfl hout2 (by decide) (v := .long (jL c)) rfl ?_
    refine fi_step (pc' := 1178) m_La_law rfl rfl ?_
    refine s_i2l (p := 1179) m_La_law rfl rfl (by omega) (by omega) ?_
    refine s_lc_eq (q := 1180) (p := 1183) m_La_law rfl rfl rfl rfl (by omega) (by omega) (by omega) (by omega) (fun hbr => ?_) (fun hbr => False.elim (by omega))
    refine fi_step (pc' := 1412) m_La_law rfl rfl ?_
    exact K _ _ _ _ (LK_more hL2 (by omega) (by omega))
  · refine g_5 (p := 1131) m_La_law rfl inv_s (by decide) m_La_inverse rfl rfl (by omega) (by omega) (Nat.le_of_ble_eq_true rfl) (Nat.le_of_ble_eq_true rfl) rfl (la_inverseT hC (by omega) (by omega) (de_inverseT (m := p1) (i := p2) (j := p3) hC bp1.1 bp1.2 hc (by omega) (by omega))) (fun v w hP => ?_)
    obtain ⟨rfl, rfl⟩ := hP
    obtain ⟨hC', hR', hout'⟩ := Thr_next hC hR hout (Or.inl rfl)
    refine fi_step (pc' := 1133) m_La_law rfl rfl ?_
    refine fi_step (pc' := 1134) m_La_law rfl rfl ?_
    refine fi_step (pc' := 1135) m_La_law rfl rfl ?_
    refine fi_step (pc' := 1137) m_La_law rfl rfl ?_
    refine fi_step (pc' := 1138) m_La_law rfl rfl ?_
    refine s_iadd (p := 1139) m_La_law rfl rfl ?_
    refine l_ld (p := 1140) m_La_law rfl rfl (by omega) (by omega) (by omega) ?_
    refine fi_step (pc' := 1141) m_La_law rfl rfl ?_
    refine fi_step (pc' := 1143) m_La_law rfl rfl ?_
    refine fi_step (pc' := 1144) m_La_law rfl rfl ?_
    refine s_iadd (p := 1145) m_La_law rfl rfl ?_
    refine l_ld (p := 1146) m_La_law rfl rfl (by omega) (by omega) (by omega) ?_
    refine fi_step (pc' := 1147) m_La_law rfl rfl ?_
    refine fi_step (pc' := 1149) m_La_law rfl rfl ?_
    refine fi_step (pc' := 1150) m_La_law rfl rfl ?_
    refine s_iadd (p := 1151) m_La_law rfl rfl ?_
    refine l_ld (p := 1152) m_La_law rfl rfl (by omega) (by omega) (by omega) ?_
    rw [← ep1, ← ep2, ← ep3]
    refine g_4 (p := 1155) m_La_law rfl inv_v (by decide) m_Mo_inverse rfl rfl (by omega) (by omega) (Nat.le_of_ble_eq_true rfl) (Nat.le_of_ble_eq_true rfl) (RW_rcv hR' _) (sR_inverseT hR' hM hB h5 hc bp1.1 bp1.2 bp2.1 bp2.2 bp3.1 bp3.2 (by omega) (by omega)) (fun v w hP => ?_)
    obtain ⟨hX, rfl⟩ := hP
    obtain ⟨hL2, hout2, sr2, hR2, ht2⟩ := LK_ref hC' hok hR' hout' hX hab
    refine fi_step (pc' := 1157) m_La_law rfl rfl ?_
    refine fi_step (pc' := 1158) m_La_law rfl rfl ?_
    refine c_1 (p := 1161) m_La_law rfl inv_v (by decide) m_Mo_thrown rfl rfl (by omega) (by omega) (Nat.le_of_ble_eq_true rfl) (Nat.le_of_ble_eq_true rfl) (RW_rcv hR2 _) (c_thrown hR2) ?_
    rw [ht2]
    refine fi_step (pc' := 1163) m_La_law rfl rfl ?_
    refine s_ic_eq (p := 1166) m_La_law rfl rfl (by omega) (by omega) (by omega) (by omega) (fun hbr => ?_) (fun hbr => False.elim (by omega))
    refine fi_step (pc' := 1170) m_La_law rfl rfl ?_
    refine s_if_ne (p := 1173) m_La_law rfl rfl (by omega) (by omega) (fun hbr => ?_) (fun hbr => False.elim (by omega))
    refine fi_step (pc' := 1412) m_La_law rfl rfl ?_
    exact K _ _ _ _ hL2
set_option maxRecDepth 20000 in
theorem lw_characteristic (hLK : LK w L Z) (hi : (i : Int) + 6 ≤ xs.length) (hx : xs.length ≤ 3072) (hfr : 12 ≤ fr) (hlo : 502 ≤ lo) (K : ∀ w y5 y6 y7, LK w (L + 1) (Z + 198) → fin xs fr lo 185 1412 [some (.retAddr 0), some (.ref 0), some (.ref 425), some (.ref 437), some (.int (jI (i : Int))), y5, y6, y7] [] w Q) : fin xs fr lo 185 1188 [some (.retAddr 0), some (.ref 0), some (.ref 425), some (.ref 437), some (.int (jI (i : Int))), y5, y6, y7] [] w Q := by
  obtain ⟨w0, s, v, sr, r, o, hC, hok, hR, hout, hB, h5, hab⟩ := hLK
  have hM := MI_abs hab hok.1
  obtain ⟨p1, ep1⟩ : ∃ q, q = sc xs ((i : Int) + 1) := ⟨_, rfl⟩
  have bp1 := sc_b xs ((i : Int) + 1)
  rw [← ep1] at bp1
  obtain ⟨p2, ep2⟩ : ∃ q, q = sc xs ((i : Int) + 2) := ⟨_, rfl⟩
  have bp2 := sc_b xs ((i : Int) + 2)
  rw [← ep2] at bp2
  refine fi_step (pc' := 1189) m_La_law rfl rfl ?_
  refine fi_step (pc' := 1190) m_La_law rfl rfl ?_
  refine fi_step (pc' := 1192) m_La_law rfl rfl ?_
  refine fi_step (pc' := 1193) m_La_law rfl rfl ?_
  refine s_iadd (p := 1194) m_La_law rfl rfl ?_
  refine l_ld (p := 1195) m_La_law rfl rfl (by omega) (by omega) (by omega) ?_
  refine fi_step (pc' := 1196) m_La_law rfl rfl ?_
  refine fi_step (pc' := 1198) m_La_law rfl rfl ?_
  refine fi_step (pc' := 1199) m_La_law rfl rfl ?_
  refine s_iadd (p := 1200) m_La_law rfl rfl ?_
  refine l_ld (p := 1201) m_La_law rfl rfl (by omega) (by omega) (by omega) ?_
  refine fi_step (pc' := 1202) m_La_law rfl rfl ?_
  rw [← ep1, ← ep2]
  by_cases hc : (0 ≤ p1 ∧ p1 < 6)
  · refine g_4 (p := 1205) m_La_law rfl inv_s (by decide) m_La_characteristic rfl rfl (by omega) (by omega) (Nat.le_of_ble_eq_true rfl) (Nat.le_of_ble_eq_true rfl) rfl (la_characteristic hC hout (by omega) (by omega) (sC_characteristic hC hok hc bp2.1 bp2.2 (by omega) (by omega))) (fun v w hP => ?_)
    obtain ⟨rfl, c, α', w1, hS, hr, hCB, rfl⟩ := hP
    obtain ⟨w0', s', v', hC', hok', hab', hR', hout'⟩ := CB_next hC hR hout hCB (jL c)
    refine fi_step (pc' := 1207) m_La_law rfl rfl ?_
    refine fi_step (pc' := 1208) m_La_law rfl rfl ?_
    refine fi_step (pc' := 1209) m_La_law rfl rfl ?_
    refine fi_step (pc' := 1211) m_La_law rfl rfl ?_
    refine fi_step (pc' := 1212) m_La_law rfl rfl ?_
    refine s_iadd (p := 1213) m_La_law rfl rfl ?_
    refine l_ld (p := 1214) m_La_law rfl rfl (by omega) (by omega) (by omega) ?_
    refine fi_step (pc' := 1215) m_La_law rfl rfl ?_
    refine fi_step (pc' := 1217) m_La_law rfl rfl ?_
    refine fi_step (pc' := 1218) m_La_law rfl rfl ?_
    refine s_iadd (p := 1219) m_La_law rfl rfl ?_
    refine l_ld (p := 1220) m_La_law rfl rfl (by omega) (by omega) (by omega) ?_
    rw [← ep1, ← ep2]
    refine g_3 (p := 1223) m_La_law rfl inv_v (by decide) m_Mo_characteristic rfl rfl (by omega) (by omega) (Nat.le_of_ble_eq_true rfl) (Nat.le_of_ble_eq_true rfl) (RW_rcv hR' _) (sR_characteristic hR' hM hB h5 hc bp1.1 bp1.2 bp2.1 bp2.2 (by omega) (by omega)) (fun v w hP => ?_)
    obtain ⟨c2, β', hS2, hX, rfl⟩ := hP
    rw [← hab] at hS2
    obtain ⟨rfl, rfl⟩ := u_characteristic hS hS2
    obtain ⟨hL2, hout2, sr2, hR2, ht2⟩ := LK_ref hC' hok' hR' hout' hX hab'
    refine fi_step (pc' := 1225) m_La_law rfl rfl ?_
    refine fi_step (pc' := 1226) m_La_law rfl rfl ?_
    refine c_1 (p := 1229) m_La_law rfl inv_v (by decide) m_Mo_thrown rfl rfl (by omega) (by omega) (Nat.le_of_ble_eq_true rfl) (Nat.le_of_ble_eq_true rfl) (RW_rcv hR2 _) (c_thrown hR2) ?_
    rw [ht2]
    refine fi_step (pc' := 1231) m_La_law rfl rfl ?_
    refine s_ic_eq (p := 1234) m_La_law rfl rfl (by omega) (by omega) (by omega) (by omega) (fun hbr => ?_) (fun hbr => False.elim (by omega))
    refine fi_step (pc' := 1238) m_La_law rfl rfl ?_
    refine s_if_ne (p := 1241) m_La_law rfl rfl (by omega) (by omega) (fun hbr => False.elim (by omega)) (fun hbr => ?_)
    refine fi_step (pc' := 1242) m_La_law rfl rfl ?_
    refine fi_step (pc' := 1243) m_La_law rfl rfl ?_
    refine fi_lald m_La_law rfl hout2 (by decide) (v := .long (jL c)) rfl ?_
    refine fi_step (pc' := 1246) m_La_law rfl rfl ?_
    refine s_i2l (p := 1247) m_La_law rfl rfl (by omega) (by omega) ?_
    refine s_lc_eq (q := 1248) (p := 1251) m_La_law rfl rfl rfl rfl (by omega) (by omega) (by omega) (by omega) (fun hbr => ?_) (fun hbr => False.elim (by omega))
    refine fi_step (pc' := 1412) m_La_law rfl rfl ?_
    exact K _ _ _ _ (LK_more hL2 (by omega) (by omega))
  · refine g_4 (p := 1205) m_La_law rfl inv_s (by decide) m_La_characteristic rfl rfl (by omega) (by omega) (Nat.le_of_ble_eq_true rfl) (Nat.le_of_ble_eq_true rfl) rfl (la_characteristicT hC (by omega) (by omega) (de_characteristicT (m := p1) (k := p2) hC bp1.1 bp1.2 hc (by omega) (by omega))) (fun v w hP => ?_)
    obtain ⟨rfl, rfl⟩ := hP
    obtain ⟨hC', hR', hout'⟩ := Thr_next hC hR hout (Or.inl rfl)
    refine fi_step (pc' := 1207) m_La_law rfl rfl ?_
    refine fi_step (pc' := 1208) m_La_law rfl rfl ?_
    refine fi_step (pc' := 1209) m_La_law rfl rfl ?_
    refine fi_step (pc' := 1211) m_La_law rfl rfl ?_
    refine fi_step (pc' := 1212) m_La_law rfl rfl ?_
    refine s_iadd (p := 1213) m_La_law rfl rfl ?_
    refine l_ld (p := 1214) m_La_law rfl rfl (by omega) (by omega) (by omega) ?_
    refine fi_step (pc' := 1215) m_La_law rfl rfl ?_
    refine fi_step (pc' := 1217) m_La_law rfl rfl ?_
    refine fi_step (pc' := 1218) m_La_law rfl rfl ?_
    refine s_iadd (p := 1219) m_La_law rfl rfl ?_
    refine l_ld (p := 1220) m_La_law rfl rfl (by omega) (by omega) (by omega) ?_
    rw [← ep1, ← ep2]
    refine g_3 (p := 1223) m_La_law rfl inv_v (by decide) m_Mo_characteristic rfl rfl (by omega) (by omega) (Nat.le_of_ble_eq_true rfl) (Nat.le_of_ble_eq_true rfl) (RW_rcv hR' _) (sR_characteristicT hR' hM hB h5 hc bp1.1 bp1.2 bp2.1 bp2.2 (by omega) (by omega)) (fun v w hP => ?_)
    obtain ⟨hX, rfl⟩ := hP
    obtain ⟨hL2, hout2, sr2, hR2, ht2⟩ := LK_ref hC' hok hR' hout' hX hab
    refine fi_step (pc' := 1225) m_La_law rfl rfl ?_
    refine fi_step (pc' := 1226) m_La_law rfl rfl ?_
    refine c_1 (p := 1229) m_La_law rfl inv_v (by decide) m_Mo_thrown rfl rfl (by omega) (by omega) (Nat.le_of_ble_eq_true rfl) (Nat.le_of_ble_eq_true rfl) (RW_rcv hR2 _) (c_thrown hR2) ?_
    rw [ht2]
    refine fi_step (pc' := 1231) m_La_law rfl rfl ?_
    refine s_ic_eq (p := 1234) m_La_law rfl rfl (by omega) (by omega) (by omega) (by omega) (fun hbr => ?_) (fun hbr => False.elim (by omega))
    refine fi_step (pc' := 1238) m_La_law rfl rfl ?_
    refine s_if_ne (p := 1241) m_La_law rfl rfl (by omega) (by omega) (fun hbr => ?_) (fun hbr => False.elim (by omega))
    refine fi_step (pc' := 1412) m_La_law rfl rfl ?_
    exact K _ _ _ _ hL2
set_option maxRecDepth 20000 in
theorem lw_check (hLK : LK w L Z) (hi : (i : Int) + 6 ≤ xs.length) (hx : xs.length ≤ 3072) (hfr : 12 ≤ fr) (hlo : 502 ≤ lo) (K : ∀ w y5 y6 y7, LK w (L + 1) (Z + 198) → fin xs fr lo 185 1412 [some (.retAddr 0), some (.ref 0), some (.ref 425), some (.ref 437), some (.int (jI (i : Int))), y5, y6, y7] [] w Q) : fin xs fr lo 185 1356 [some (.retAddr 0), some (.ref 0), some (.ref 425), some (.ref 437), some (.int (jI (i : Int))), y5, y6, y7] [] w Q := by
  obtain ⟨w0, s, v, sr, r, o, hC, hok, hR, hout, hB, h5, hab⟩ := hLK
  have hM := MI_abs hab hok.1
  obtain ⟨p1, ep1⟩ : ∃ q, q = sc xs ((i : Int) + 1) := ⟨_, rfl⟩
  have bp1 := sc_b xs ((i : Int) + 1)
  rw [← ep1] at bp1
  refine fi_step (pc' := 1357) m_La_law rfl rfl ?_
  refine fi_step (pc' := 1358) m_La_law rfl rfl ?_
  refine fi_step (pc' := 1360) m_La_law rfl rfl ?_
  refine fi_step (pc' := 1361) m_La_law rfl rfl ?_
  refine s_iadd (p := 1362) m_La_law rfl rfl ?_
  refine l_ld (p := 1363) m_La_law rfl rfl (by omega) (by omega) (by omega) ?_
  refine fi_step (pc' := 1364) m_La_law rfl rfl ?_
  rw [← ep1]
  by_cases hc : (0 ≤ p1 ∧ p1 < 6)
  · refine g_3 (p := 1367) m_La_law rfl inv_s (by decide) m_La_check rfl rfl (by omega) (by omega) (Nat.le_of_ble_eq_true rfl) (Nat.le_of_ble_eq_true rfl) rfl (la_check hC hout (by omega) (by omega) (sC_check hC hok hc  (by omega) (by omega))) (fun v w hP => ?_)
    obtain ⟨rfl, c, α', w1, hS, hr, hCB, rfl⟩ := hP
    obtain ⟨w0', s', v', hC', hok', hab', hR', hout'⟩ := CB_next hC hR hout hCB (jL c)
    refine fi_step (pc' := 1369) m_La_law rfl rfl ?_
    refine fi_step (pc' := 1370) m_La_law rfl rfl ?_
    refine fi_step (pc' := 1371) m_La_law rfl rfl ?_
    refine fi_step (pc' := 1373) m_La_law rfl rfl ?_
    refine fi_step (pc' := 1374) m_La_law rfl rfl ?_
    refine s_iadd (p := 1375) m_La_law rfl rfl ?_
    refine l_ld (p := 1376) m_La_law rfl rfl (by omega) (by omega) (by omega) ?_
    rw [← ep1]
    refine g_2 (p := 1379) m_La_law rfl inv_v (by decide) m_Mo_check rfl rfl (by omega) (by omega) (Nat.le_of_ble_eq_true rfl) (Nat.le_of_ble_eq_true rfl) (RW_rcv hR' _) (sR_check hR' hM hB h5 hc bp1.1 bp1.2 (by omega) (by omega)) (fun v w hP => ?_)
    obtain ⟨c2, β', hS2, hX, rfl⟩ := hP
    rw [← hab] at hS2
    obtain ⟨rfl, rfl⟩ := u_check hS hS2
    obtain ⟨hL2, hout2, sr2, hR2, ht2⟩ := LK_ref hC' hok' hR' hout' hX hab'
    refine fi_step (pc' := 1381) m_La_law rfl rfl ?_
    refine fi_step (pc' := 1382) m_La_law rfl rfl ?_
    refine c_1 (p := 1385) m_La_law rfl inv_v (by decide) m_Mo_thrown rfl rfl (by omega) (by omega) (Nat.le_of_ble_eq_true rfl) (Nat.le_of_ble_eq_true rfl) (RW_rcv hR2 _) (c_thrown hR2) ?_
    rw [ht2]
    refine fi_step (pc' := 1387) m_La_law rfl rfl ?_
    refine s_ic_eq (p := 1390) m_La_law rfl rfl (by omega) (by omega) (by omega) (by omega) (fun hbr => ?_) (fun hbr => False.elim (by omega))
    refine fi_step (pc' := 1394) m_La_law rfl rfl ?_
    refine s_if_ne (p := 1397) m_La_law rfl rfl (by omega) (by omega) (fun hbr => False.elim (by omega)) (fun hbr => ?_)
    refine fi_step (pc' := 1398) m_La_law rfl rfl ?_
    refine fi_step (pc' := 1399) m_La_law rfl rfl ?_
    refine fi_lald m_La_law rfl hout2 (by decide) (v := .long (jL c)) rfl ?_
    refine fi_step (pc' := 1402) m_La_law rfl rfl ?_
    refine s_i2l (p := 1403) m_La_law rfl rfl (by omega) (by omega) ?_
    refine s_lc_eq (q := 1404) (p := 1407) m_La_law rfl rfl rfl rfl (by omega) (by omega) (by omega) (by omega) (fun hbr => ?_) (fun hbr => False.elim (by omega))
    refine fi_step (pc' := 1412) m_La_law rfl rfl ?_
    exact K _ _ _ _ (LK_more hL2 (by omega) (by omega))
  · refine g_3 (p := 1367) m_La_law rfl inv_s (by decide) m_La_check rfl rfl (by omega) (by omega) (Nat.le_of_ble_eq_true rfl) (Nat.le_of_ble_eq_true rfl) rfl (la_checkT hC (by omega) (by omega) (de_checkT (m := p1) hC bp1.1 bp1.2 hc (by omega) (by omega))) (fun v w hP => ?_)
    obtain ⟨rfl, rfl⟩ := hP
    obtain ⟨hC', hR', hout'⟩ := Thr_next hC hR hout (Or.inl rfl)
    refine fi_step (pc' := 1369) m_La_law rfl rfl ?_
    refine fi_step (pc' := 1370) m_La_law rfl rfl ?_
    refine fi_step (pc' := 1371) m_La_law rfl rfl ?_
    refine fi_step (pc' := 1373) m_La_law rfl rfl ?_
    refine fi_step (pc' := 1374) m_La_law rfl rfl ?_
    refine s_iadd (p := 1375) m_La_law rfl rfl ?_
    refine l_ld (p := 1376) m_La_law rfl rfl (by omega) (by omega) (by omega) ?_
    rw [← ep1]
    refine g_2 (p := 1379) m_La_law rfl inv_v (by decide) m_Mo_check rfl rfl (by omega) (by omega) (Nat.le_of_ble_eq_true rfl) (Nat.le_of_ble_eq_true rfl) (RW_rcv hR' _) (sR_checkT hR' hM hB h5 hc bp1.1 bp1.2 (by omega) (by omega)) (fun v w hP => ?_)
    obtain ⟨hX, rfl⟩ := hP
    obtain ⟨hL2, hout2, sr2, hR2, ht2⟩ := LK_ref hC' hok hR' hout' hX hab
    refine fi_step (pc' := 1381) m_La_law rfl rfl ?_
    refine fi_step (pc' := 1382) m_La_law rfl rfl ?_
    refine c_1 (p := 1385) m_La_law rfl inv_v (by decide) m_Mo_thrown rfl rfl (by omega) (by omega) (Nat.le_of_ble_eq_true rfl) (Nat.le_of_ble_eq_true rfl) (RW_rcv hR2 _) (c_thrown hR2) ?_
    rw [ht2]
    refine fi_step (pc' := 1387) m_La_law rfl rfl ?_
    refine s_ic_eq (p := 1390) m_La_law rfl rfl (by omega) (by omega) (by omega) (by omega) (fun hbr => ?_) (fun hbr => False.elim (by omega))
    refine fi_step (pc' := 1394) m_La_law rfl rfl ?_
    refine s_if_ne (p := 1397) m_La_law rfl rfl (by omega) (by omega) (fun hbr => ?_) (fun hbr => False.elim (by omega))
    refine fi_step (pc' := 1412) m_La_law rfl rfl ?_
    exact K _ _ _ _ hL2
end LAW1
