/-! CONSTRUCTORS: the class, the reference -/
/-- a new object of the class -/
def clsA (w : ax_W) : Prop := w[0]? = some (0, [.ref 1, .ref 14, .ref 16, .ref 18, .ref 29, .ref 232, .ref 419, .ref 421, .ref 423]) ∧ w[1]? = some (32, (List.range 6).map (fun m => .ref (2 + 2 * m))) ∧ (∀ m, m < 7 → w[2 + 2 * m]? = some (2, [.ref (3 + 2 * m), .int (jI 1), .int (jI 1)]) ∧ w[3 + 2 * m]? = some (21, aL 36 (fun _ => 0))) ∧ (w[16]? = some (4, [.ref 17, .int (jI 0)]) ∧ w[17]? = some (22, aI 256 (fun _ => 0))) ∧ w[18]? = some (1, [.ref 19, .ref 21, .ref 23, .ref 25, .ref 27]) ∧ (w[29]? = some (3, [.ref 18, .ref 30, .ref 103, .int (jI 0), .int (jI 0)]) ∧ w[30]? = some (37, (List.range 36).map (fun j => .ref (31 + 2 * j))) ∧ w[103]? = some (37, (List.range 64).map (fun j => .ref (104 + 2 * j)))) ∧ (w[232]? = some (6, [.ref 18, .ref 233, .ref 235, .ref 418, .int (jI 0), .int (jI 0)]) ∧ w[235]? = some (35, (List.range 7).map (fun j => .ref (236 + 26 * j))) ∧ (∀ j, j < 7 → w[236 + 26 * j]? = some (5, [.ref (237 + 26 * j)]) ∧ w[237 + 26 * j]? = some (37, (List.range 12).map (fun i => .ref (238 + 26 * j + 2 * i)))) ∧ w[418]? = some (20, aI 7 (fun _ => 0))) ∧ (∀ c, isWh c → c ≠ 27 → c ≠ 104 → whA w c) ∧ oneA w 27 ∧ oneA w 104
section CT3
variable {xs : List Int32} {fr lo z pc p l c u1 u2 u3 idx i k : Nat} {ls : List (Option Value)} {st : List Value} {w : ax_W} {Q : Outcome → ax_W → Prop} {M : ax_M}
theorem de_fill {fs : List Value} {wS : ax_W} (hf : fs[0]? = some (.ref 1)) (hS : wS[0]? = some (0, fs)) (hfr : 3 ≤ fr) (hlo : 90 ≤ lo)
    (K : ∀ w', w'.length = 14 → (∀ j, j < 1 → w'[j]? = wS[j]?) → w'[1]? = some (32, (List.range 6).map (fun m => .ref (2 + 2 * m))) → (∀ m, m < 6 → w'[2 + 2 * m]? = some (2, [.ref (3 + 2 * m), .int (jI 1), .int (jI 1)]) ∧ w'[3 + 2 * m]? = some (21, aL 36 (fun _ => 0))) → ax_sz w' = ax_sz wS + 234 → fin xs fr lo 0 40 [some (.ref 0), some (.int (jI ((6 : Nat) : Int)))] [] w' Q) :
    ∀ (n k : Nat) (w : ax_W), k + n = 6 → w.length = 2 + 2 * k → (∀ j, j < 1 → w[j]? = wS[j]?) → w[1]? = some (32, (List.range 6).map (fun m => if m < k then .ref (2 + 2 * m) else .null)) → (∀ m, m < k → w[2 + 2 * m]? = some (2, [.ref (3 + 2 * m), .int (jI 1), .int (jI 1)]) ∧ w[3 + 2 * m]? = some (21, aL 36 (fun _ => 0))) → ax_sz w = ax_sz wS + 39 * k → fin xs fr lo 0 15 [some (.ref 0), some (.int (jI (k : Int)))] [] w Q := by
  intro n
  induction n with
  | zero =>
    intro k w hk hlen hag harr hwh hsz
    obtain rfl : k = 6 := by omega
    refine fi_step (pc' := 16) m_De_init rfl rfl ?_
    refine s_bipush (p := 18) m_De_init rfl rfl rfl ?_
    refine s_ic_ge (p := 21) m_De_init rfl rfl (by omega) (by omega) (by omega) (by omega) (fun hbr => ?_) (fun hbr => False.elim (by omega))
    refine K w hlen hag ?_ hwh hsz
    rw [harr, rg_congr (g := fun m => .ref (2 + 2 * m)) (fun j hj => by rw [if_pos hj])]
  | succ n ih =>
    intro k w hk hlen hag harr hwh hsz
    refine fi_step (pc' := 16) m_De_init rfl rfl ?_
    refine s_bipush (p := 18) m_De_init rfl rfl rfl ?_
    refine s_ic_ge (p := 21) m_De_init rfl rfl (by omega) (by omega) (by omega) (by omega) (fun hbr => False.elim (by omega)) (fun hbr => ?_)
    refine fi_step (pc' := 22) m_De_init rfl rfl ?_
    refine k_get (p := 25) m_De_init rfl rfl ((hag 0 (by omega)).trans hS) hf ?_
    refine fi_step (pc' := 26) m_De_init rfl rfl ?_
    refine n_ma (p := 33) m_De_init rfl rfl rfl rfl (by omega) (by omega) (Nat.le_of_ble_eq_true rfl) (fun w1 l1 a1 q1 q1' z1 => ?_)
    rw [hlen] at q1 q1'
    rw [hlen]
    refine k_aast (p := 34) m_De_init rfl rfl q1 ((a1 1 (by omega)).trans harr) (by omega) (by rw [List.length_map, List.length_range]; omega) (by omega) (fun w2 hG => ?_)
    obtain ⟨l2, a2, n2, z2⟩ := hG
    refine s_iinc (p := 37) m_De_init rfl rfl rfl ?_
    refine fi_step (pc' := 15) m_De_init rfl rfl ?_
    rw [show (k : Int) + 1 = ((k + 1 : Nat) : Int) by omega]
    refine ih (k + 1) w2 (by omega) (by omega) (fun j hj => ((a2 j (by omega)).trans (a1 j (by omega))).trans (hag j hj)) ?_ (fun j hj => ?_) (by omega)
    · rw [n2, Int.toNat_natCast, rg_set]
      rw [rg_congr (g := fun m => if m < k + 1 then .ref (2 + 2 * m) else .null) (fun j hj => ?_)]
      by_cases e : j = k
      · subst e; rw [if_pos rfl, if_pos (by omega)]
      · rw [if_neg e]
        by_cases e' : j < k
        · rw [if_pos e', if_pos (by omega)]
        · rw [if_neg e', if_neg (by omega)]
    · by_cases e : j = k
      · subst e
        exact ⟨(a2 _ (by omega)).trans (by rw [q1, show 2 + 2 * j + 1 = 3 + 2 * j by omega]), (a2 _ (by omega)).trans (by rw [show 3 + 2 * j = 2 + 2 * j + 1 by omega]; exact q1')⟩
      · have := hwh j (by omega)
        exact ⟨((a2 _ (by omega)).trans (a1 _ (by omega))).trans this.1, ((a2 _ (by omega)).trans (a1 _ (by omega))).trans this.2⟩
set_option maxRecDepth 4000 in
theorem i_de (hw : w[0]? = some (0, [.null, .null, .null, .null, .null, .null, .null, .null, .null])) (hc : w.length = 1) (hfr : 5 ≤ fr) (hlo : 260 ≤ lo) : fin xs fr lo 0 0 (ax_ent [.ref 0] 2) [] w (Ret fun u w' => u = none ∧ w'.length = 425 ∧ clsA w' ∧ ax_sz w' = ax_sz w + 7513) := by
  refine fi_step (pc' := 1) m_De_init rfl rfl ?_
  refine k_obj m_De_init rfl (by omega) (by omega) (by decide) ?_
  refine fi_step (pc' := 5) m_De_init rfl rfl ?_
  refine s_bipush (p := 7) m_De_init rfl rfl rfl ?_
  refine k_anew (p := 10) m_De_init rfl rfl (by omega) (by omega) (fun w1 hE => ?_)
  obtain ⟨l1, a1, n1, z1⟩ := hE
  refine k_putf (p := 13) m_De_init rfl rfl rfl rfl rfl ((a1 0 (by omega)).trans hw) (Nat.le_of_ble_eq_true rfl) (fun w2 hG => ?_)
  obtain ⟨l2, a2, n2, z2⟩ := hG
  rw [hc] at n1 n2
  have z1' : ax_sz w1 = ax_sz w + 6 := z1
  have n2' : w2[0]? = some (0, [.ref 1, .null, .null, .null, .null, .null, .null, .null, .null]) := n2
  refine fi_step (pc' := 14) m_De_init rfl rfl ?_
  refine fi_step (pc' := 15) m_De_init rfl rfl ?_
  refine de_fill (wS := w2) rfl n2' (by omega) (by omega) (fun s0 ls0 as0 ns0 qs0 zs0 => ?_) 6 0 w2 (by omega) (by omega) (fun _ _ => rfl) ?_ (fun j hj => by omega) (by omega)
  · have o0 := (as0 0 (by omega)).trans n2'
    -- the result
    refine fi_step (pc' := 41) m_De_init rfl rfl ?_
    refine n_ma (p := 48) m_De_init rfl rfl rfl rfl (by omega) (by omega) (Nat.le_of_ble_eq_true rfl) (fun w3 l3 a3 q3 q3' z3 => ?_)
    refine k_putf (p := 51) m_De_init rfl rfl rfl rfl rfl ((a3 0 (by omega)).trans o0) (Nat.le_of_ble_eq_true rfl) (fun s1 hG => ?_)
    obtain ⟨ls1, as1, o1, zs1⟩ := hG
    rw [ls0] at q3 q3' o1
    have o1' : s1[0]? = some (0, [.ref 1, .ref 14, .null, .null, .null, .null, .null, .null, .null]) := o1
    have ag1 : ∀ j, j ≠ 0 → j < 14 → s1[j]? = s0[j]? := fun j h1 h2 => (as1 j h1).trans (a3 j (by omega))
    have f1 : s1[14]? = some (2, [.ref 15, .int (jI 1), .int (jI 1)]) := (as1 14 (by omega)).trans q3
    have f1' : s1[15]? = some (21, aL 36 (fun _ => 0)) := (as1 15 (by omega)).trans q3'
    -- what is printed
    refine fi_step (pc' := 52) m_De_init rfl rfl ?_
    refine k_new (p := 55) m_De_init rfl rfl rfl (fun w4 hE => ?_)
    obtain ⟨l4, a4, n4, z4⟩ := hE
    have z4' : ax_sz w4 = ax_sz s1 + 2 := z4
    have e1 : s1.length = 16 := by omega
    rw [e1] at n4 l4
    refine fi_step (pc' := 56) m_De_init rfl rfl ?_
    rw [e1]
    refine g_1 (p := 59) m_De_init rfl inv_p (by decide) m_Pr_init rfl rfl (by omega) (by omega) (Nat.le_of_ble_eq_true rfl) (Nat.le_of_ble_eq_true rfl) (by simp [ax_rcv, n4]) (i_pr (c := 16) n4 (by omega) (by omega)) (fun v w hP => ?_)
    obtain ⟨rfl, l5, a5, b5, c5, z5⟩ := hP
    refine k_putf (p := 62) m_De_init rfl rfl rfl rfl rfl ((a5 0 (by omega) (by omega)).trans ((a4 0 (by omega)).trans o1')) (Nat.le_of_ble_eq_true rfl) (fun s2 hG => ?_)
    obtain ⟨ls2, as2, o2, zs2⟩ := hG
    rw [l4] at b5 c5
    have o2' : s2[0]? = some (0, [.ref 1, .ref 14, .ref 16, .null, .null, .null, .null, .null, .null]) := o2
    have ag2 : ∀ j, j ≠ 0 → j < 16 → s2[j]? = s1[j]? := fun j h1 h2 => (as2 j h1).trans ((a5 j (by omega) (by omega)).trans (a4 j (by omega)))
    have f2 : s2[16]? = some (4, [.ref 17, .int (jI 0)]) := (as2 16 (by omega)).trans b5
    have f2' : s2[17]? = some (22, aI 256 (fun _ => 0)) := (as2 17 (by omega)).trans c5
    -- the division
    refine fi_step (pc' := 63) m_De_init rfl rfl ?_
    refine k_new (p := 66) m_De_init rfl rfl rfl (fun w6 hE => ?_)
    obtain ⟨l6, a6, n6, z6⟩ := hE
    have z6' : ax_sz w6 = ax_sz s2 + 5 := z6
    have e2 : s2.length = 18 := by omega
    rw [e2] at n6 l6
    refine fi_step (pc' := 67) m_De_init rfl rfl ?_
    rw [e2]
    refine g_1 (p := 70) m_De_init rfl inv_p (by decide) m_Di_init rfl rfl (by omega) (by omega) (Nat.le_of_ble_eq_true rfl) (Nat.le_of_ble_eq_true rfl) (by simp [ax_rcv, n6]) (i_di (c := 18) n6 l6 (by omega) (by omega)) (fun v w hP => ?_)
    obtain ⟨rfl, l7, a7, b7, c7, z7⟩ := hP
    refine k_putf (p := 73) m_De_init rfl rfl rfl rfl rfl ((a7 0 (by omega)).trans ((a6 0 (by omega)).trans o2')) (Nat.le_of_ble_eq_true rfl) (fun s3 hG => ?_)
    obtain ⟨ls3, as3, o3, zs3⟩ := hG
    have o3' : s3[0]? = some (0, [.ref 1, .ref 14, .ref 16, .ref 18, .null, .null, .null, .null, .null]) := o3
    have ag3 : ∀ j, j ≠ 0 → j < 18 → s3[j]? = s2[j]? := fun j h1 h2 => (as3 j h1).trans ((a7 j h2).trans (a6 j (by omega)))
    have g3 : ∀ j, j ≠ 0 → s3[j]? = _ := as3
    -- the minors
    refine fi_step (pc' := 74) m_De_init rfl rfl ?_
    refine k_new (p := 77) m_De_init rfl rfl rfl (fun w8 hE => ?_)
    obtain ⟨l8, a8, n8, z8⟩ := hE
    have z8' : ax_sz w8 = ax_sz s3 + 5 := z8
    have e3 : s3.length = 29 := by omega
    rw [e3] at n8 l8
    refine fi_step (pc' := 78) m_De_init rfl rfl ?_
    refine fi_step (pc' := 79) m_De_init rfl rfl ?_
    rw [e3]
    refine k_get (p := 82) m_De_init rfl rfl ((a8 0 (by omega)).trans o3') rfl ?_
    refine g_2 (p := 85) m_De_init rfl inv_p (by decide) m_Mi_init rfl rfl (by omega) (by omega) (Nat.le_of_ble_eq_true rfl) (Nat.le_of_ble_eq_true rfl) (by simp [ax_rcv, n8]) (i_mi (c := 29) (d := 18) n8 l8 (by omega) (by omega)) (fun v w hP => ?_)
    obtain ⟨rfl, l9, a9, b9, c9, d9, e9, f9, g9, z9⟩ := hP
    refine k_putf (p := 88) m_De_init rfl rfl rfl rfl rfl ((a9 0 (by omega)).trans ((a8 0 (by omega)).trans o3')) (Nat.le_of_ble_eq_true rfl) (fun s4 hG => ?_)
    obtain ⟨ls4, as4, o4, zs4⟩ := hG
    have o4' : s4[0]? = some (0, [.ref 1, .ref 14, .ref 16, .ref 18, .ref 29, .null, .null, .null, .null]) := o4
    have ag4 : ∀ j, j ≠ 0 → j < 29 → s4[j]? = s3[j]? := fun j h1 h2 => (as4 j h1).trans ((a9 j h2).trans (a8 j (by omega)))
    -- the stairs
    refine fi_step (pc' := 89) m_De_init rfl rfl ?_
    refine k_new (p := 92) m_De_init rfl rfl rfl (fun w10 hE => ?_)
    obtain ⟨l10, a10, n10, z10⟩ := hE
    have z10' : ax_sz w10 = ax_sz s4 + 6 := z10
    have e4 : s4.length = 232 := by omega
    rw [e4] at n10 l10
    refine fi_step (pc' := 93) m_De_init rfl rfl ?_
    refine fi_step (pc' := 94) m_De_init rfl rfl ?_
    rw [e4]
    refine k_get (p := 97) m_De_init rfl rfl ((a10 0 (by omega)).trans o4') rfl ?_
    refine g_2 (p := 100) m_De_init rfl inv_p (by decide) m_St_init rfl rfl (by omega) (by omega) (Nat.le_of_ble_eq_true rfl) (Nat.le_of_ble_eq_true rfl) (by simp [ax_rcv, n10]) (i_st (c := 232) (d := 18) n10 l10 (by omega) (by omega)) (fun v w hP => ?_)
    obtain ⟨rfl, l11, a11, b11, c11, d11, e11, f11, z11⟩ := hP
    refine k_putf (p := 103) m_De_init rfl rfl rfl rfl rfl ((a11 0 (by omega)).trans ((a10 0 (by omega)).trans o4')) (Nat.le_of_ble_eq_true rfl) (fun s5 hG => ?_)
    obtain ⟨ls5, as5, o5, zs5⟩ := hG
    have o5' : s5[0]? = some (0, [.ref 1, .ref 14, .ref 16, .ref 18, .ref 29, .ref 232, .null, .null, .null]) := o5
    have ag5 : ∀ j, j ≠ 0 → j < 232 → s5[j]? = s4[j]? := fun j h1 h2 => (as5 j h1).trans ((a11 j h2).trans (a10 j (by omega)))
    -- the three numbers
    have e5 : s5.length = 419 := by omega
    refine fi_step (pc' := 104) m_De_init rfl rfl ?_
    refine n_whf (p := 114) m_De_init rfl rfl rfl rfl rfl rfl rfl o5' (Nat.le_of_ble_eq_true rfl) (by omega) (by omega) (by decide) (fun s6 ls6 ag6 o6 q6 zs6 => ?_)
    rw [e5] at o6 q6 ag6
    refine fi_step (pc' := 115) m_De_init rfl rfl ?_
    refine n_whf (p := 125) m_De_init rfl rfl rfl rfl rfl rfl rfl o6 (Nat.le_of_ble_eq_true rfl) (by omega) (by omega) (by decide) (fun s7 ls7 ag7 o7 q7 zs7 => ?_)
    rw [show s6.length = 421 by omega] at o7 q7 ag7
    refine fi_step (pc' := 126) m_De_init rfl rfl ?_
    refine n_whf (p := 136) m_De_init rfl rfl rfl rfl rfl rfl rfl o7 (Nat.le_of_ble_eq_true rfl) (by omega) (by omega) (by decide) (fun s8 ls8 ag8 o8 q8 zs8 => ?_)
    rw [show s7.length = 423 by omega] at o8 q8 ag8
    refine p_ret m_De_init rfl rfl ?_
    have t7 : ∀ j, j ≠ 0 → j < 421 → s8[j]? = s6[j]? := fun j h1 h2 => (ag8 j h1 (by omega)).trans (ag7 j h1 h2)
    have t6 : ∀ j, j ≠ 0 → j < 419 → s8[j]? = s5[j]? := fun j h1 h2 => (t7 j h1 (by omega)).trans (ag6 j h1 h2)
    have t5 : ∀ j, j ≠ 0 → j < 232 → s8[j]? = s4[j]? := fun j h1 h2 => (t6 j h1 (by omega)).trans (ag5 j h1 h2)
    have t4 : ∀ j, j ≠ 0 → j < 29 → s8[j]? = s3[j]? := fun j h1 h2 => (t5 j h1 (by omega)).trans (ag4 j h1 h2)
    have t3 : ∀ j, j ≠ 0 → j < 18 → s8[j]? = s2[j]? := fun j h1 h2 => (t4 j h1 (by omega)).trans (ag3 j h1 h2)
    have t2 : ∀ j, j ≠ 0 → j < 16 → s8[j]? = s1[j]? := fun j h1 h2 => (t3 j h1 (by omega)).trans (ag2 j h1 h2)
    have t1 : ∀ j, j ≠ 0 → j < 14 → s8[j]? = s0[j]? := fun j h1 h2 => (t2 j h1 (by omega)).trans (ag1 j h1 h2)
    have tS : ∀ j, j ≠ 0 → j < 419 → s8[j]? = _ := fun j h1 h2 => (t6 j h1 h2).trans (as5 j h1)
    have tM : ∀ j, j ≠ 0 → j < 232 → s8[j]? = _ := fun j h1 h2 => (t5 j h1 h2).trans (as4 j h1)
    have tD : ∀ j, j ≠ 0 → j < 29 → s8[j]? = _ := fun j h1 h2 => (t4 j h1 h2).trans (as3 j h1)
    refine ⟨rfl, by omega, ⟨o8, (t1 1 (by omega) (by omega)).trans ns0, fun m hm => ?_, ⟨(t3 16 (by omega) (by omega)).trans f2, (t3 17 (by omega) (by omega)).trans f2'⟩, (tD 18 (by omega) (by omega)).trans b7, ⟨(tM 29 (by omega) (by omega)).trans b9, (tM 30 (by omega) (by omega)).trans c9, (tM 103 (by omega) (by omega)).trans d9⟩, ⟨(tS 232 (by omega) (by omega)).trans b11, (tS 235 (by omega) (by omega)).trans d11, fun j hj => ?_, (tS 418 (by omega) (by omega)).trans f11⟩, fun c hcw h27 h104 => ?_, oneA_keep c7.2.2.2.2 (tD _ (by omega) (by omega)) (tD _ (by omega) (by omega)), oneA_keep g9 (tM _ (by omega) (by omega)) (tM _ (by omega) (by omega))⟩, by omega⟩
    · by_cases e : m = 6
      · subst e; exact ⟨(t2 14 (by omega) (by omega)).trans f1, (t2 15 (by omega) (by omega)).trans f1'⟩
      · have := qs0 m (by omega)
        exact ⟨(t1 _ (by omega) (by omega)).trans this.1, (t1 _ (by omega) (by omega)).trans this.2⟩
    · have := e11 j hj
      have h1 := this.1
      have h2 := this.2.1
      rw [show 232 + 4 + 26 * j + 1 = 237 + 26 * j by omega, show 232 + 4 + 26 * j = 236 + 26 * j by omega] at h1
      rw [show 232 + 4 + 26 * j + 1 = 237 + 26 * j by omega, rg_congr (g := fun i => .ref (238 + 26 * j + 2 * i)) (fun i _ => by rw [show 232 + 4 + 26 * j + 2 + 2 * i = 238 + 26 * j + 2 * i by omega])] at h2
      exact ⟨(tS _ (by omega) (by omega)).trans h1, (tS _ (by omega) (by omega)).trans h2⟩
    · rcases isWh_iff.mp hcw with h | h | h | h | h | h
      · have : c = 19 ∨ c = 21 ∨ c = 23 ∨ c = 25 := by omega
        rcases this with e | e | e | e <;> subst e
        · exact whA_keep c7.1 (tD _ (by omega) (by omega)) (tD _ (by omega) (by omega))
        · exact whA_keep c7.2.1 (tD _ (by omega) (by omega)) (tD _ (by omega) (by omega))
        · exact whA_keep c7.2.2.1 (tD _ (by omega) (by omega)) (tD _ (by omega) (by omega))
        · exact whA_keep c7.2.2.2.1 (tD _ (by omega) (by omega)) (tD _ (by omega) (by omega))
      · obtain ⟨j, hj, rfl⟩ : ∃ j, j < 36 ∧ c = 29 + 2 + 2 * j := ⟨(c - 31) / 2, by omega, by omega⟩
        exact whA_keep (e9 j hj) (tM _ (by omega) (by omega)) (tM _ (by omega) (by omega))
      · obtain ⟨j, hj, rfl⟩ : ∃ j, (1 ≤ j ∧ j < 64) ∧ c = 29 + 75 + 2 * j := ⟨(c - 104) / 2, by omega, by omega⟩
        exact whA_keep (f9 j hj.1 hj.2) (tM _ (by omega) (by omega)) (tM _ (by omega) (by omega))
      · subst h; exact whA_keep c11 (tS _ (by omega) (by omega)) (tS _ (by omega) (by omega))
      · obtain ⟨r, j, hr, hj, rfl⟩ : ∃ r j, r < 7 ∧ j < 12 ∧ c = 232 + 4 + 26 * r + 2 + 2 * j := ⟨(c - 236) / 26, ((c - 236) % 26 - 2) / 2, by omega, by omega, by omega⟩
        exact whA_keep ((e11 r hr).2.2 j hj) (tS _ (by omega) (by omega)) (tS _ (by omega) (by omega))
      · have : c = 419 ∨ c = 421 ∨ c = 423 := by omega
        rcases this with e | e | e <;> subst e
        · exact whA_keep q6 (t7 _ (by omega) (by omega)) (t7 _ (by omega) (by omega))
        · exact whA_keep q7 (ag8 _ (by omega) (by omega)) (ag8 _ (by omega) (by omega))
        · exact q8
  · rw [a2 _ (by omega), n1, rg_nul]; rfl
end CT3
